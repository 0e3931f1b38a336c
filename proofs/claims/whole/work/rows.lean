section
-- ===== PART A: goes FIRST, ahead of the names: the tables' words, and 'selects' of the private methods out of them =====
/-- a private method of a class that the tables say can be made, by its rows of tables_1 -/
def lw_okq (q : MethodName × Nat) : Prop := (q.1.cls ≠ "java/lang/invoke/MethodHandle" ∧ q.1.cls ≠ "java/lang/invoke/VarHandle") ∧ Cond.instantiable q.1.cls q.2 ∈ tables_1 ∧ Cond.privateMethod q.1 ∈ tables_1 ∧ Cond.instanceMethod q.1 ∈ tables_1
theorem lw_p0 : lw_okq (⟨"SheetTrees$Book", "addPage", "(IIII)I"⟩, 8) := ⟨⟨by decide +kernel, by decide +kernel⟩, List.mem_of_getElem? (i := 97) (by decide +kernel), List.mem_of_getElem? (i := 203) (by decide +kernel), List.mem_of_getElem? (i := 204) (by decide +kernel)⟩
theorem lw_p1 : lw_okq (⟨"SheetTrees$Sheets", "headOf", "(I)I"⟩, 6) := ⟨⟨by decide +kernel, by decide +kernel⟩, List.mem_of_getElem? (i := 47) (by decide +kernel), List.mem_of_getElem? (i := 226) (by decide +kernel), List.mem_of_getElem? (i := 227) (by decide +kernel)⟩
theorem lw_p2 : lw_okq (⟨"SheetTrees$Journal", "putAct", "(ILSheetTrees$Change;)V"⟩, 4) := ⟨⟨by decide +kernel, by decide +kernel⟩, List.mem_of_getElem? (i := 26) (by decide +kernel), List.mem_of_getElem? (i := 326) (by decide +kernel), List.mem_of_getElem? (i := 327) (by decide +kernel)⟩
theorem lw_p3 : lw_okq (⟨"SheetTrees$Journal", "getAct", "(I)LSheetTrees$Change;"⟩, 4) := ⟨⟨by decide +kernel, by decide +kernel⟩, List.mem_of_getElem? (i := 26) (by decide +kernel), List.mem_of_getElem? (i := 348) (by decide +kernel), List.mem_of_getElem? (i := 349) (by decide +kernel)⟩
theorem lw_p4 : lw_okq (⟨"SheetTrees", "needSheet", "(I)V"⟩, 7) := ⟨⟨by decide +kernel, by decide +kernel⟩, List.mem_of_getElem? (i := 18) (by decide +kernel), List.mem_of_getElem? (i := 377) (by decide +kernel), List.mem_of_getElem? (i := 378) (by decide +kernel)⟩
theorem lw_p5 : lw_okq (⟨"java/lang/Throwable", "fillInStackTrace", "(I)Ljava/lang/Throwable;"⟩, 6) := ⟨⟨by decide +kernel, by decide +kernel⟩, List.mem_of_getElem? (i := 422) (by decide +kernel), List.mem_of_getElem? (i := 420) (by decide +kernel), List.mem_of_getElem? (i := 421) (by decide +kernel)⟩
theorem lw_p6 : lw_okq (⟨"SheetTrees$Sheets", "withPlacedOn", "(I)I"⟩, 6) := ⟨⟨by decide +kernel, by decide +kernel⟩, List.mem_of_getElem? (i := 47) (by decide +kernel), List.mem_of_getElem? (i := 460) (by decide +kernel), List.mem_of_getElem? (i := 461) (by decide +kernel)⟩
theorem lw_p7 : lw_okq (⟨"SheetTrees$Sheets", "append", "(II)V"⟩, 6) := ⟨⟨by decide +kernel, by decide +kernel⟩, List.mem_of_getElem? (i := 47) (by decide +kernel), List.mem_of_getElem? (i := 477) (by decide +kernel), List.mem_of_getElem? (i := 478) (by decide +kernel)⟩
theorem lw_p8 : lw_okq (⟨"SheetTrees$Sheets", "cellBefore", "(II)I"⟩, 6) := ⟨⟨by decide +kernel, by decide +kernel⟩, List.mem_of_getElem? (i := 47) (by decide +kernel), List.mem_of_getElem? (i := 481) (by decide +kernel), List.mem_of_getElem? (i := 482) (by decide +kernel)⟩
theorem lw_p9 : lw_okq (⟨"SheetTrees", "settle", "()Z"⟩, 7) := ⟨⟨by decide +kernel, by decide +kernel⟩, List.mem_of_getElem? (i := 18) (by decide +kernel), List.mem_of_getElem? (i := 485) (by decide +kernel), List.mem_of_getElem? (i := 486) (by decide +kernel)⟩
theorem lw_p10 : lw_okq (⟨"SheetTrees", "needPlacement", "(I)V"⟩, 7) := ⟨⟨by decide +kernel, by decide +kernel⟩, List.mem_of_getElem? (i := 18) (by decide +kernel), List.mem_of_getElem? (i := 501) (by decide +kernel), List.mem_of_getElem? (i := 502) (by decide +kernel)⟩
theorem lw_p11 : lw_okq (⟨"SheetTrees$Sheets", "unlink", "(I)V"⟩, 6) := ⟨⟨by decide +kernel, by decide +kernel⟩, List.mem_of_getElem? (i := 47) (by decide +kernel), List.mem_of_getElem? (i := 511) (by decide +kernel), List.mem_of_getElem? (i := 512) (by decide +kernel)⟩
theorem lw_p12 : lw_okq (⟨"SheetTrees", "needName", "(I)V"⟩, 7) := ⟨⟨by decide +kernel, by decide +kernel⟩, List.mem_of_getElem? (i := 18) (by decide +kernel), List.mem_of_getElem? (i := 548) (by decide +kernel), List.mem_of_getElem? (i := 549) (by decide +kernel)⟩
theorem lw_p13 : lw_okq (⟨"SheetTrees", "needPart", "(I)V"⟩, 7) := ⟨⟨by decide +kernel, by decide +kernel⟩, List.mem_of_getElem? (i := 18) (by decide +kernel), List.mem_of_getElem? (i := 616) (by decide +kernel), List.mem_of_getElem? (i := 617) (by decide +kernel)⟩
theorem lw_p14 : lw_okq (⟨"SheetTrees", "needGate", "(II)V"⟩, 7) := ⟨⟨by decide +kernel, by decide +kernel⟩, List.mem_of_getElem? (i := 18) (by decide +kernel), List.mem_of_getElem? (i := 625) (by decide +kernel), List.mem_of_getElem? (i := 626) (by decide +kernel)⟩
theorem lw_p15 : lw_okq (⟨"SheetTrees$Parts", "partAt", "(II)I"⟩, 8) := ⟨⟨by decide +kernel, by decide +kernel⟩, List.mem_of_getElem? (i := 129) (by decide +kernel), List.mem_of_getElem? (i := 664) (by decide +kernel), List.mem_of_getElem? (i := 665) (by decide +kernel)⟩
def lw_privs_1 : List (MethodName × Nat) := [(⟨"SheetTrees$Book", "addPage", "(IIII)I"⟩, 8), (⟨"SheetTrees$Sheets", "headOf", "(I)I"⟩, 6), (⟨"SheetTrees$Journal", "putAct", "(ILSheetTrees$Change;)V"⟩, 4), (⟨"SheetTrees$Journal", "getAct", "(I)LSheetTrees$Change;"⟩, 4), (⟨"SheetTrees", "needSheet", "(I)V"⟩, 7), (⟨"java/lang/Throwable", "fillInStackTrace", "(I)Ljava/lang/Throwable;"⟩, 6), (⟨"SheetTrees$Sheets", "withPlacedOn", "(I)I"⟩, 6), (⟨"SheetTrees$Sheets", "append", "(II)V"⟩, 6), (⟨"SheetTrees$Sheets", "cellBefore", "(II)I"⟩, 6), (⟨"SheetTrees", "settle", "()Z"⟩, 7), (⟨"SheetTrees", "needPlacement", "(I)V"⟩, 7), (⟨"SheetTrees$Sheets", "unlink", "(I)V"⟩, 6), (⟨"SheetTrees", "needName", "(I)V"⟩, 7), (⟨"SheetTrees", "needPart", "(I)V"⟩, 7), (⟨"SheetTrees", "needGate", "(II)V"⟩, 7), (⟨"SheetTrees$Parts", "partAt", "(II)I"⟩, 8)]
theorem lw_r1 : ∀ q ∈ lw_privs_1, lw_okq q := List.forall_mem_cons.mpr ⟨lw_p0, List.forall_mem_cons.mpr ⟨lw_p1, List.forall_mem_cons.mpr ⟨lw_p2, List.forall_mem_cons.mpr ⟨lw_p3, List.forall_mem_cons.mpr ⟨lw_p4, List.forall_mem_cons.mpr ⟨lw_p5, List.forall_mem_cons.mpr ⟨lw_p6, List.forall_mem_cons.mpr ⟨lw_p7, List.forall_mem_cons.mpr ⟨lw_p8, List.forall_mem_cons.mpr ⟨lw_p9, List.forall_mem_cons.mpr ⟨lw_p10, List.forall_mem_cons.mpr ⟨lw_p11, List.forall_mem_cons.mpr ⟨lw_p12, List.forall_mem_cons.mpr ⟨lw_p13, List.forall_mem_cons.mpr ⟨lw_p14, List.forall_mem_cons.mpr ⟨lw_p15, fun _ h => absurd h List.not_mem_nil⟩⟩⟩⟩⟩⟩⟩⟩⟩⟩⟩⟩⟩⟩⟩⟩
theorem lw_p16 : lw_okq (⟨"SheetTrees$Parts", "gateAt", "(II)I"⟩, 8) := ⟨⟨by decide +kernel, by decide +kernel⟩, List.mem_of_getElem? (i := 129) (by decide +kernel), List.mem_of_getElem? (i := 668) (by decide +kernel), List.mem_of_getElem? (i := 669) (by decide +kernel)⟩
theorem lw_p17 : lw_okq (⟨"SheetTrees$Sheets", "copyJoints", "(II)V"⟩, 6) := ⟨⟨by decide +kernel, by decide +kernel⟩, List.mem_of_getElem? (i := 47) (by decide +kernel), List.mem_of_getElem? (i := 680) (by decide +kernel), List.mem_of_getElem? (i := 681) (by decide +kernel)⟩
theorem lw_p18 : lw_okq (⟨"SheetTrees", "needVariantOrNone", "(I)V"⟩, 7) := ⟨⟨by decide +kernel, by decide +kernel⟩, List.mem_of_getElem? (i := 18) (by decide +kernel), List.mem_of_getElem? (i := 712) (by decide +kernel), List.mem_of_getElem? (i := 713) (by decide +kernel)⟩
theorem lw_p19 : lw_okq (⟨"SheetTrees", "needVariant", "(I)V"⟩, 7) := ⟨⟨by decide +kernel, by decide +kernel⟩, List.mem_of_getElem? (i := 18) (by decide +kernel), List.mem_of_getElem? (i := 716) (by decide +kernel), List.mem_of_getElem? (i := 717) (by decide +kernel)⟩
theorem lw_p20 : lw_okq (⟨"SheetTrees", "tell", "(IIIIJ)Z"⟩, 7) := ⟨⟨by decide +kernel, by decide +kernel⟩, List.mem_of_getElem? (i := 18) (by decide +kernel), List.mem_of_getElem? (i := 743) (by decide +kernel), List.mem_of_getElem? (i := 744) (by decide +kernel)⟩
theorem lw_p21 : lw_okq (⟨"SheetTrees", "needPage", "(I)V"⟩, 7) := ⟨⟨by decide +kernel, by decide +kernel⟩, List.mem_of_getElem? (i := 18) (by decide +kernel), List.mem_of_getElem? (i := 747) (by decide +kernel), List.mem_of_getElem? (i := 748) (by decide +kernel)⟩
theorem lw_p22 : lw_okq (⟨"SheetTrees$Variants", "find", "(II)I"⟩, 7) := ⟨⟨by decide +kernel, by decide +kernel⟩, List.mem_of_getElem? (i := 163) (by decide +kernel), List.mem_of_getElem? (i := 759) (by decide +kernel), List.mem_of_getElem? (i := 760) (by decide +kernel)⟩
theorem lw_p23 : lw_okq (⟨"SheetTrees$Variants", "isAt", "(II)Z"⟩, 7) := ⟨⟨by decide +kernel, by decide +kernel⟩, List.mem_of_getElem? (i := 163) (by decide +kernel), List.mem_of_getElem? (i := 763) (by decide +kernel), List.mem_of_getElem? (i := 764) (by decide +kernel)⟩
theorem lw_p24 : lw_okq (⟨"SheetTrees$Variants", "addTelling", "(II)I"⟩, 7) := ⟨⟨by decide +kernel, by decide +kernel⟩, List.mem_of_getElem? (i := 163) (by decide +kernel), List.mem_of_getElem? (i := 775) (by decide +kernel), List.mem_of_getElem? (i := 776) (by decide +kernel)⟩
theorem lw_p25 : lw_okq (⟨"SheetTrees", "heard", "(IIIIJ)J"⟩, 7) := ⟨⟨by decide +kernel, by decide +kernel⟩, List.mem_of_getElem? (i := 18) (by decide +kernel), List.mem_of_getElem? (i := 793) (by decide +kernel), List.mem_of_getElem? (i := 794) (by decide +kernel)⟩
theorem lw_p26 : lw_okq (⟨"SheetTrees", "needUnit", "(II)V"⟩, 7) := ⟨⟨by decide +kernel, by decide +kernel⟩, List.mem_of_getElem? (i := 18) (by decide +kernel), List.mem_of_getElem? (i := 842) (by decide +kernel), List.mem_of_getElem? (i := 843) (by decide +kernel)⟩
theorem lw_p27 : lw_okq (⟨"SheetTrees$Parts", "newUnitsAt", "(III)I"⟩, 8) := ⟨⟨by decide +kernel, by decide +kernel⟩, List.mem_of_getElem? (i := 129) (by decide +kernel), List.mem_of_getElem? (i := 867) (by decide +kernel), List.mem_of_getElem? (i := 868) (by decide +kernel)⟩
theorem lw_p28 : lw_okq (⟨"SheetTreesModel", "count", "(I)I"⟩, 19) := ⟨⟨by decide +kernel, by decide +kernel⟩, List.mem_of_getElem? (i := 874) (by decide +kernel), List.mem_of_getElem? (i := 951) (by decide +kernel), List.mem_of_getElem? (i := 952) (by decide +kernel)⟩
theorem lw_p29 : lw_okq (⟨"SheetTreesModel", "begin", "()V"⟩, 19) := ⟨⟨by decide +kernel, by decide +kernel⟩, List.mem_of_getElem? (i := 874) (by decide +kernel), List.mem_of_getElem? (i := 955) (by decide +kernel), List.mem_of_getElem? (i := 956) (by decide +kernel)⟩
theorem lw_p30 : lw_okq (⟨"SheetTreesModel", "done", "()V"⟩, 19) := ⟨⟨by decide +kernel, by decide +kernel⟩, List.mem_of_getElem? (i := 874) (by decide +kernel), List.mem_of_getElem? (i := 959) (by decide +kernel), List.mem_of_getElem? (i := 960) (by decide +kernel)⟩
theorem lw_p31 : lw_okq (⟨"SheetTreesModel", "isSheet", "(I)Z"⟩, 19) := ⟨⟨by decide +kernel, by decide +kernel⟩, List.mem_of_getElem? (i := 874) (by decide +kernel), List.mem_of_getElem? (i := 967) (by decide +kernel), List.mem_of_getElem? (i := 968) (by decide +kernel)⟩
def lw_privs_2 : List (MethodName × Nat) := [(⟨"SheetTrees$Parts", "gateAt", "(II)I"⟩, 8), (⟨"SheetTrees$Sheets", "copyJoints", "(II)V"⟩, 6), (⟨"SheetTrees", "needVariantOrNone", "(I)V"⟩, 7), (⟨"SheetTrees", "needVariant", "(I)V"⟩, 7), (⟨"SheetTrees", "tell", "(IIIIJ)Z"⟩, 7), (⟨"SheetTrees", "needPage", "(I)V"⟩, 7), (⟨"SheetTrees$Variants", "find", "(II)I"⟩, 7), (⟨"SheetTrees$Variants", "isAt", "(II)Z"⟩, 7), (⟨"SheetTrees$Variants", "addTelling", "(II)I"⟩, 7), (⟨"SheetTrees", "heard", "(IIIIJ)J"⟩, 7), (⟨"SheetTrees", "needUnit", "(II)V"⟩, 7), (⟨"SheetTrees$Parts", "newUnitsAt", "(III)I"⟩, 8), (⟨"SheetTreesModel", "count", "(I)I"⟩, 19), (⟨"SheetTreesModel", "begin", "()V"⟩, 19), (⟨"SheetTreesModel", "done", "()V"⟩, 19), (⟨"SheetTreesModel", "isSheet", "(I)Z"⟩, 19)]
theorem lw_r2 : ∀ q ∈ lw_privs_2, lw_okq q := List.forall_mem_cons.mpr ⟨lw_p16, List.forall_mem_cons.mpr ⟨lw_p17, List.forall_mem_cons.mpr ⟨lw_p18, List.forall_mem_cons.mpr ⟨lw_p19, List.forall_mem_cons.mpr ⟨lw_p20, List.forall_mem_cons.mpr ⟨lw_p21, List.forall_mem_cons.mpr ⟨lw_p22, List.forall_mem_cons.mpr ⟨lw_p23, List.forall_mem_cons.mpr ⟨lw_p24, List.forall_mem_cons.mpr ⟨lw_p25, List.forall_mem_cons.mpr ⟨lw_p26, List.forall_mem_cons.mpr ⟨lw_p27, List.forall_mem_cons.mpr ⟨lw_p28, List.forall_mem_cons.mpr ⟨lw_p29, List.forall_mem_cons.mpr ⟨lw_p30, List.forall_mem_cons.mpr ⟨lw_p31, fun _ h => absurd h List.not_mem_nil⟩⟩⟩⟩⟩⟩⟩⟩⟩⟩⟩⟩⟩⟩⟩⟩
theorem lw_p32 : lw_okq (⟨"SheetTreesModel", "liesIn", "(II)Z"⟩, 19) := ⟨⟨by decide +kernel, by decide +kernel⟩, List.mem_of_getElem? (i := 874) (by decide +kernel), List.mem_of_getElem? (i := 971) (by decide +kernel), List.mem_of_getElem? (i := 972) (by decide +kernel)⟩
theorem lw_p33 : lw_okq (⟨"SheetTreesModel", "addPlacement", "(II)I"⟩, 19) := ⟨⟨by decide +kernel, by decide +kernel⟩, List.mem_of_getElem? (i := 874) (by decide +kernel), List.mem_of_getElem? (i := 975) (by decide +kernel), List.mem_of_getElem? (i := 976) (by decide +kernel)⟩
theorem lw_p34 : lw_okq (⟨"SheetTreesModel", "hasRoom", "()Z"⟩, 19) := ⟨⟨by decide +kernel, by decide +kernel⟩, List.mem_of_getElem? (i := 874) (by decide +kernel), List.mem_of_getElem? (i := 979) (by decide +kernel), List.mem_of_getElem? (i := 980) (by decide +kernel)⟩
theorem lw_p35 : lw_okq (⟨"SheetTreesModel", "turn", "()V"⟩, 19) := ⟨⟨by decide +kernel, by decide +kernel⟩, List.mem_of_getElem? (i := 874) (by decide +kernel), List.mem_of_getElem? (i := 983) (by decide +kernel), List.mem_of_getElem? (i := 984) (by decide +kernel)⟩
theorem lw_p36 : lw_okq (⟨"SheetTreesModel", "addPage", "(IIII)V"⟩, 19) := ⟨⟨by decide +kernel, by decide +kernel⟩, List.mem_of_getElem? (i := 874) (by decide +kernel), List.mem_of_getElem? (i := 987) (by decide +kernel), List.mem_of_getElem? (i := 988) (by decide +kernel)⟩
theorem lw_p37 : lw_okq (⟨"SheetTreesModel", "next", "(IJ)I"⟩, 19) := ⟨⟨by decide +kernel, by decide +kernel⟩, List.mem_of_getElem? (i := 874) (by decide +kernel), List.mem_of_getElem? (i := 992) (by decide +kernel), List.mem_of_getElem? (i := 993) (by decide +kernel)⟩
theorem lw_p38 : lw_okq (⟨"SheetTreesModel", "giveBack", "()V"⟩, 19) := ⟨⟨by decide +kernel, by decide +kernel⟩, List.mem_of_getElem? (i := 874) (by decide +kernel), List.mem_of_getElem? (i := 996) (by decide +kernel), List.mem_of_getElem? (i := 997) (by decide +kernel)⟩
theorem lw_p39 : lw_okq (⟨"SheetTreesModel", "isPlacement", "(I)Z"⟩, 19) := ⟨⟨by decide +kernel, by decide +kernel⟩, List.mem_of_getElem? (i := 874) (by decide +kernel), List.mem_of_getElem? (i := 1004) (by decide +kernel), List.mem_of_getElem? (i := 1005) (by decide +kernel)⟩
theorem lw_p40 : lw_okq (⟨"SheetTreesModel", "hasName", "(JI)Z"⟩, 19) := ⟨⟨by decide +kernel, by decide +kernel⟩, List.mem_of_getElem? (i := 874) (by decide +kernel), List.mem_of_getElem? (i := 1012) (by decide +kernel), List.mem_of_getElem? (i := 1013) (by decide +kernel)⟩
theorem lw_p41 : lw_okq (⟨"SheetTreesModel", "addPart", "(JJ)I"⟩, 19) := ⟨⟨by decide +kernel, by decide +kernel⟩, List.mem_of_getElem? (i := 874) (by decide +kernel), List.mem_of_getElem? (i := 1039) (by decide +kernel), List.mem_of_getElem? (i := 1040) (by decide +kernel)⟩
theorem lw_p42 : lw_okq (⟨"SheetTreesModel", "isGate", "(II)Z"⟩, 19) := ⟨⟨by decide +kernel, by decide +kernel⟩, List.mem_of_getElem? (i := 874) (by decide +kernel), List.mem_of_getElem? (i := 1047) (by decide +kernel), List.mem_of_getElem? (i := 1048) (by decide +kernel)⟩
theorem lw_p43 : lw_okq (⟨"SheetTreesModel", "isPart", "(I)Z"⟩, 19) := ⟨⟨by decide +kernel, by decide +kernel⟩, List.mem_of_getElem? (i := 874) (by decide +kernel), List.mem_of_getElem? (i := 1051) (by decide +kernel), List.mem_of_getElem? (i := 1052) (by decide +kernel)⟩
theorem lw_p44 : lw_okq (⟨"SheetTreesModel", "gatesOn", "(I)I"⟩, 19) := ⟨⟨by decide +kernel, by decide +kernel⟩, List.mem_of_getElem? (i := 874) (by decide +kernel), List.mem_of_getElem? (i := 1055) (by decide +kernel), List.mem_of_getElem? (i := 1056) (by decide +kernel)⟩
theorem lw_p45 : lw_okq (⟨"SheetTreesModel", "putGate", "(II)V"⟩, 19) := ⟨⟨by decide +kernel, by decide +kernel⟩, List.mem_of_getElem? (i := 874) (by decide +kernel), List.mem_of_getElem? (i := 1059) (by decide +kernel), List.mem_of_getElem? (i := 1060) (by decide +kernel)⟩
theorem lw_p46 : lw_okq (⟨"SheetTreesModel", "placementsOn", "(I)I"⟩, 19) := ⟨⟨by decide +kernel, by decide +kernel⟩, List.mem_of_getElem? (i := 874) (by decide +kernel), List.mem_of_getElem? (i := 1067) (by decide +kernel), List.mem_of_getElem? (i := 1068) (by decide +kernel)⟩
theorem lw_p47 : lw_okq (⟨"SheetTreesModel", "partsOn", "(I)I"⟩, 19) := ⟨⟨by decide +kernel, by decide +kernel⟩, List.mem_of_getElem? (i := 874) (by decide +kernel), List.mem_of_getElem? (i := 1071) (by decide +kernel), List.mem_of_getElem? (i := 1072) (by decide +kernel)⟩
def lw_privs_3 : List (MethodName × Nat) := [(⟨"SheetTreesModel", "liesIn", "(II)Z"⟩, 19), (⟨"SheetTreesModel", "addPlacement", "(II)I"⟩, 19), (⟨"SheetTreesModel", "hasRoom", "()Z"⟩, 19), (⟨"SheetTreesModel", "turn", "()V"⟩, 19), (⟨"SheetTreesModel", "addPage", "(IIII)V"⟩, 19), (⟨"SheetTreesModel", "next", "(IJ)I"⟩, 19), (⟨"SheetTreesModel", "giveBack", "()V"⟩, 19), (⟨"SheetTreesModel", "isPlacement", "(I)Z"⟩, 19), (⟨"SheetTreesModel", "hasName", "(JI)Z"⟩, 19), (⟨"SheetTreesModel", "addPart", "(JJ)I"⟩, 19), (⟨"SheetTreesModel", "isGate", "(II)Z"⟩, 19), (⟨"SheetTreesModel", "isPart", "(I)Z"⟩, 19), (⟨"SheetTreesModel", "gatesOn", "(I)I"⟩, 19), (⟨"SheetTreesModel", "putGate", "(II)V"⟩, 19), (⟨"SheetTreesModel", "placementsOn", "(I)I"⟩, 19), (⟨"SheetTreesModel", "partsOn", "(I)I"⟩, 19)]
theorem lw_r3 : ∀ q ∈ lw_privs_3, lw_okq q := List.forall_mem_cons.mpr ⟨lw_p32, List.forall_mem_cons.mpr ⟨lw_p33, List.forall_mem_cons.mpr ⟨lw_p34, List.forall_mem_cons.mpr ⟨lw_p35, List.forall_mem_cons.mpr ⟨lw_p36, List.forall_mem_cons.mpr ⟨lw_p37, List.forall_mem_cons.mpr ⟨lw_p38, List.forall_mem_cons.mpr ⟨lw_p39, List.forall_mem_cons.mpr ⟨lw_p40, List.forall_mem_cons.mpr ⟨lw_p41, List.forall_mem_cons.mpr ⟨lw_p42, List.forall_mem_cons.mpr ⟨lw_p43, List.forall_mem_cons.mpr ⟨lw_p44, List.forall_mem_cons.mpr ⟨lw_p45, List.forall_mem_cons.mpr ⟨lw_p46, List.forall_mem_cons.mpr ⟨lw_p47, fun _ h => absurd h List.not_mem_nil⟩⟩⟩⟩⟩⟩⟩⟩⟩⟩⟩⟩⟩⟩⟩⟩
theorem lw_p48 : lw_okq (⟨"SheetTreesModel", "nextGate", "(IJ)I"⟩, 19) := ⟨⟨by decide +kernel, by decide +kernel⟩, List.mem_of_getElem? (i := 874) (by decide +kernel), List.mem_of_getElem? (i := 1075) (by decide +kernel), List.mem_of_getElem? (i := 1076) (by decide +kernel)⟩
theorem lw_p49 : lw_okq (⟨"SheetTreesModel", "isVariant", "(I)Z"⟩, 19) := ⟨⟨by decide +kernel, by decide +kernel⟩, List.mem_of_getElem? (i := 874) (by decide +kernel), List.mem_of_getElem? (i := 1087) (by decide +kernel), List.mem_of_getElem? (i := 1088) (by decide +kernel)⟩
theorem lw_p50 : lw_okq (⟨"SheetTreesModel", "tell", "(IIIIJ)Z"⟩, 19) := ⟨⟨by decide +kernel, by decide +kernel⟩, List.mem_of_getElem? (i := 874) (by decide +kernel), List.mem_of_getElem? (i := 1095) (by decide +kernel), List.mem_of_getElem? (i := 1096) (by decide +kernel)⟩
theorem lw_p51 : lw_okq (⟨"SheetTreesModel", "isPage", "(I)Z"⟩, 19) := ⟨⟨by decide +kernel, by decide +kernel⟩, List.mem_of_getElem? (i := 874) (by decide +kernel), List.mem_of_getElem? (i := 1099) (by decide +kernel), List.mem_of_getElem? (i := 1100) (by decide +kernel)⟩
theorem lw_p52 : lw_okq (⟨"SheetTreesModel", "look", "()V"⟩, 19) := ⟨⟨by decide +kernel, by decide +kernel⟩, List.mem_of_getElem? (i := 874) (by decide +kernel), List.mem_of_getElem? (i := 1103) (by decide +kernel), List.mem_of_getElem? (i := 1104) (by decide +kernel)⟩
theorem lw_p53 : lw_okq (⟨"SheetTreesModel", "pathOf", "(I)I"⟩, 19) := ⟨⟨by decide +kernel, by decide +kernel⟩, List.mem_of_getElem? (i := 874) (by decide +kernel), List.mem_of_getElem? (i := 1107) (by decide +kernel), List.mem_of_getElem? (i := 1108) (by decide +kernel)⟩
theorem lw_p54 : lw_okq (⟨"SheetTreesModel", "find", "(IIII)I"⟩, 19) := ⟨⟨by decide +kernel, by decide +kernel⟩, List.mem_of_getElem? (i := 874) (by decide +kernel), List.mem_of_getElem? (i := 1111) (by decide +kernel), List.mem_of_getElem? (i := 1112) (by decide +kernel)⟩
theorem lw_p55 : lw_okq (⟨"SheetTreesModel", "ask", "(IIII)J"⟩, 19) := ⟨⟨by decide +kernel, by decide +kernel⟩, List.mem_of_getElem? (i := 874) (by decide +kernel), List.mem_of_getElem? (i := 1123) (by decide +kernel), List.mem_of_getElem? (i := 1124) (by decide +kernel)⟩
theorem lw_p56 : lw_okq (⟨"SheetTreesModel", "unitsOf", "(I)I"⟩, 19) := ⟨⟨by decide +kernel, by decide +kernel⟩, List.mem_of_getElem? (i := 874) (by decide +kernel), List.mem_of_getElem? (i := 1143) (by decide +kernel), List.mem_of_getElem? (i := 1144) (by decide +kernel)⟩
theorem lw_p57 : lw_okq (⟨"SheetTreesModel", "pageOf", "(JI)I"⟩, 19) := ⟨⟨by decide +kernel, by decide +kernel⟩, List.mem_of_getElem? (i := 874) (by decide +kernel), List.mem_of_getElem? (i := 1151) (by decide +kernel), List.mem_of_getElem? (i := 1152) (by decide +kernel)⟩
theorem lw_p58 : lw_okq (⟨"SheetTreesModel", "first", "(II)V"⟩, 19) := ⟨⟨by decide +kernel, by decide +kernel⟩, List.mem_of_getElem? (i := 874) (by decide +kernel), List.mem_of_getElem? (i := 1159) (by decide +kernel), List.mem_of_getElem? (i := 1160) (by decide +kernel)⟩
def lw_privs_4 : List (MethodName × Nat) := [(⟨"SheetTreesModel", "nextGate", "(IJ)I"⟩, 19), (⟨"SheetTreesModel", "isVariant", "(I)Z"⟩, 19), (⟨"SheetTreesModel", "tell", "(IIIIJ)Z"⟩, 19), (⟨"SheetTreesModel", "isPage", "(I)Z"⟩, 19), (⟨"SheetTreesModel", "look", "()V"⟩, 19), (⟨"SheetTreesModel", "pathOf", "(I)I"⟩, 19), (⟨"SheetTreesModel", "find", "(IIII)I"⟩, 19), (⟨"SheetTreesModel", "ask", "(IIII)J"⟩, 19), (⟨"SheetTreesModel", "unitsOf", "(I)I"⟩, 19), (⟨"SheetTreesModel", "pageOf", "(JI)I"⟩, 19), (⟨"SheetTreesModel", "first", "(II)V"⟩, 19)]
theorem lw_r4 : ∀ q ∈ lw_privs_4, lw_okq q := List.forall_mem_cons.mpr ⟨lw_p48, List.forall_mem_cons.mpr ⟨lw_p49, List.forall_mem_cons.mpr ⟨lw_p50, List.forall_mem_cons.mpr ⟨lw_p51, List.forall_mem_cons.mpr ⟨lw_p52, List.forall_mem_cons.mpr ⟨lw_p53, List.forall_mem_cons.mpr ⟨lw_p54, List.forall_mem_cons.mpr ⟨lw_p55, List.forall_mem_cons.mpr ⟨lw_p56, List.forall_mem_cons.mpr ⟨lw_p57, List.forall_mem_cons.mpr ⟨lw_p58, fun _ h => absurd h List.not_mem_nil⟩⟩⟩⟩⟩⟩⟩⟩⟩⟩⟩
def lw_privs : List (MethodName × Nat) := lw_privs_1 ++ (lw_privs_2 ++ (lw_privs_3 ++ (lw_privs_4)))
def lw_tbl : List Cond := k2_sels lw_privs ++ tables_1
theorem lw_privs_ok : ∀ q ∈ lw_privs, lw_okq q := by
  show ∀ q ∈ lw_privs_1 ++ (lw_privs_2 ++ (lw_privs_3 ++ (lw_privs_4))), lw_okq q
  exact List.forall_mem_append.mpr ⟨lw_r1, List.forall_mem_append.mpr ⟨lw_r2, List.forall_mem_append.mpr ⟨lw_r3, lw_r4⟩⟩⟩
-- ===== end of PART A; then your names; then what follows =====
end
section
/-! THE FRAME OF THE CONTRACTS. One world for all methods of a side: a list of cells that is a function of an abstract value. A contract: from the world 'ws' the method ends with the value 'v' and the world 'ws2'; nothing below the address N0 changes. -/
def ga (N0 : Nat) : Nat → Prop := fun q => N0 ≤ q
def bi (b : Bool) : Int32 := if b then 1 else 0
theorem bi_z (b : Bool) : narrow .boolean (.int (bi b)) = .int (bi b) := by cases b <;> rfl
/-- what is known of the tables at a state: classes and array classes, private members of nest mates -/
def kn (D : va_G) (cl : List vw_C) (tys : List (ClassId × FieldType)) (NW : List Cond) (U : State) : Prop := va_K D cl tys U ∧ ∀ w ∈ NW, va_Nw w U
/-- the words on nest mates that a contract may ask -/
def nwOk : Cond → Bool
  | .fieldLinkNest .. => true
  | .methodLinkNest .. => true
  | _ => false
theorem nw_warm {w : Cond} {s U : State} (hw : nwOk w = true) (hW : s.WarmedH U.vm) (h : va_Nw w s) : va_Nw w U := by
  cases w <;> first | (simp [nwOk] at hw; done) | exact va_Nw.warmF hW h | exact va_Nw.warmM hW h
theorem nw_same {w : Cond} {u U : State} (hw : nwOk w = true) (hv : u.vm = U.vm) (h : va_Nw w u) : va_Nw w U := by
  cases w <;> first | (simp [nwOk] at hw; done) | exact va_Nw.same rfl hv h
theorem kn_warm {D : va_G} {cl : List vw_C} {tys : List (ClassId × FieldType)} {NW : List Cond} {s U : State} (hN : ∀ w ∈ NW, nwOk w = true) (hW : s.WarmedH U.vm) (h : kn D cl tys NW s) : kn D cl tys NW U :=
  ⟨va_K.moved hW.alike h.1, fun w hw => nw_warm (hN w hw) hW (h.2 w hw)⟩
theorem kn_call {D : va_G} {cl : List vw_C} {tys : List (ClassId × FieldType)} {NW : List Cond} {U : State} {g : JFrame} {mk : MethodId} {a : Array Value} (hN : ∀ w ∈ NW, nwOk w = true) (h : kn D cl tys NW U) : kn D cl tys NW (U.calling g mk a) :=
  ⟨va_K.moved (u := U) (U := U.calling g mk a) (Vm.Alike.refl U.vm) h.1, fun w hw => nw_same (u := U) (U := U.calling g mk a) (hN w hw) rfl (h.2 w hw)⟩
/-- a world at a state -/
def wd (D : va_G) (cl : List vw_C) (N0 : Nat) (ws : va_W) (t : State) : Prop := va_P D cl ws t.heap ∧ va_D (ga N0) ws
/-- a world on the way -/
def bd (D : va_G) (cl : List vw_C) (N0 : Nat) (ws : va_W) (s : State) (H : Heap) (locs : List Loc) : Prop := va_P D cl ws H ∧ va_D (ga N0) ws ∧ va_S (ga N0) s.heap H locs
def pcx (D : va_G) (cl : List vw_C) (tys : List (ClassId × FieldType)) (NW : List Cond) (N0 : Nat) (av : List Value) (ws : va_W) : Array Value → State → Prop := va_Pc av (fun U => N0 ≤ U.heap.size ∧ kn D cl tys NW U ∧ wd D cl N0 ws U)
def qx (D : va_G) (cl : List vw_C) (N0 : Nat) (v : Option Value) (PW : va_W → Prop) : Array Value → State → Outcome → State → Prop := fun _ st o t => o = .returned v ∧ (∃ ws, PW ws ∧ wd D cl N0 ws t) ∧ va_F (ga N0) st t
/-- what stays the same on the way through a method -/
def cx (D : va_G) (cl : List vw_C) (tys : List (ClassId × FieldType)) (NW Ts : List Cond) (N0 : Nat) (p : Program) (s : State) (m : MethodId) (args : Array Value) (meth : Method) (c : Code) (cc : ByteArray) (nL : Nat) (ret : Option FieldType) (own : String) : Prop :=
  p.tables.exec = Jvm.exec ∧ c.code = cc ∧ meth.sig.returnType = ret ∧ c.maxLocals = nL ∧ s.vm.findClass own = some m.cls ∧ (∀ w ∈ Ts, w.before args s = true) ∧ meth.locks = false ∧ kn D cl tys NW s ∧ N0 ≤ s.heap.size ∧ ∀ w ∈ NW, nwOk w = true
section FW
variable {p : Program} {l : Launch} {e : Env} {R : Room} {s : State} {m : MethodId} {args : Array Value} {below : List Frame} {meth : Method} {c : Code} {H : Heap} {locs : List Loc} {cells slots : Nat} {Q : State → Prop}
variable {cc : ByteArray} {pc nL : Nat} {ls : Array Slot} {rest st0 : List Value} {D : va_G} {cl : List vw_C} {tys : List (ClassId × FieldType)} {NW Ts : List Cond} {N0 : Nat} {ws : va_W} {PW : va_W → Prop} {ret : Option FieldType} {own : String}
/-- a contract out of its walk -/
theorem met_of {y : MethodName} {rm : Room} {av : List Value} {v : Option Value} {maxL : Nat} {mc ms : Nat} (hy : plainName y.cls = true) (hyc : y.cls = own) (hN : ∀ w ∈ NW, nwOk w = true)
    (body : ∀ (p : Program) (e : Env) (s : State) (m : MethodId) (below : List Frame) (meth : Method) (c : Code), cx D cl tys NW Ts N0 p s m av.toArray meth c cc maxL ret own → (y.name = "<init>" → meth.name = "<init>") → bd D cl N0 ws s s.heap [] →
      W p l e rm s m av.toArray below meth c s.heap [] 0 0 (MQ below (qx D cl N0 v PW) av.toArray s mc ms (ga N0)) (entryFrame m av.toArray maxL)) :
    Met l y (Cond.code y cc maxL ret :: Ts) rm (pcx D cl tys NW N0 av ws) (qx D cl N0 v PW) mc ms (ga N0) := by
  refine Met.ofW (cc := cc) (maxL := maxL) (ret := ret) hy rfl ?_
  intro p e s m args below meth c s₁ B hml hv
  obtain ⟨rfl, hN0, hK, hP, hD⟩ := hv
  have hts := atoms_spec (ws := Cond.code y cc maxL ret :: Ts) B.pre
  have hown : s.vm.findClass own = some m.cls := by rw [← hyc]; exact findClass_of_methodNamed B.named
  exact body p e s m below meth c ⟨B.exec, B.bytes, B.returns, hml, hown, fun w h => hts w (List.mem_cons_of_mem _ h), B.notSynchronized, hK, hN0, hN⟩ (fun h => by rw [← h]; exact (name_of_methodNamed B.named B.method).1) ⟨hP, hD, va_S.rf⟩
/-- behind a call -/
theorem kc {v : Option Value} {mc ms : Nat} {a : Array Value} (hB : bd D cl N0 ws s H locs) (hr : va_Run p l e R s m args below meth c H locs cells slots mc ms (F0 m pc ls st0) rest (qx D cl N0 v PW a) (ga N0))
    (kk : ∀ (H1 : Heap) (locs1 : List Loc) (ws1 : va_W), PW ws1 → bd D cl N0 ws1 s H1 locs1 → W p l e R s m args below meth c H1 locs1 (cells + mc) (slots + ms) Q (F0 m (pc + 3) ls (v.toList ++ rest))) : W p l e R s m args below meth c H locs cells slots Q (F0 m pc ls st0) := by
  intro T hT X
  obtain ⟨v', st₀, t, T', L, h0, X', hL, e1, e2, ⟨hv, ⟨ws1, hpw, hwd⟩, hz, hk⟩, st⟩ := hr T hT X
  cases hv
  obtain ⟨hP, hD, hS⟩ := hB
  rw [h0] at hz hk
  obtain ⟨t2, a1, b1⟩ := kk T'.heap (locs ++ L) ws1 hpw ⟨by rw [e1]; exact hwd.1, hwd.2, Nat.le_trans hS.1 (by rw [e1]; exact hz), fun q h1 h2 => by rw [e1, hk q (Nat.lt_of_lt_of_le h1 hS.1) h2]; exact hS.2.1 q h1 h2, fun q hq => by
      rcases List.mem_append.mp hq with h | h
      · exact hS.2.2 q h
      · exact hL q h⟩ T' rfl X'
  exact ⟨t2, st t2 a1, b1⟩
/-- the start of a callee -/
theorem pcx_ok {av : List Value} (hC : cx D cl tys NW Ts N0 p s m args meth c cc nL ret own) (hB : bd D cl N0 ws s H locs) : FrameBlind (pcx D cl tys NW N0 av ws) ∧ ∀ U : State, U.heap = H → s.WarmedH U.vm → pcx D cl tys NW N0 av ws av.toArray U := by
  obtain ⟨-, -, -, -, -, -, -, hK, hN, hNW⟩ := hC
  refine ⟨fun a U g mk q => ?_, fun U hU hW => ⟨rfl, ?_, kn_warm hNW hW hK, ?_, hB.2.1⟩⟩
  · obtain ⟨q0, q1, q2, q3, q4⟩ := q
    exact ⟨q0, q1, kn_call hNW q2, q3, q4⟩
  · rw [hU]; exact Nat.le_trans hN hB.2.2.1
  · rw [hU]; exact hB.1
/-- a word of the tables that goes on -/
theorem good_all {y : Cond} (hT : ∀ w ∈ Ts, goodWord w = true) (hy : y ∈ Ts) : GoodIn Ts (y :: Ts) := by
  intro w hw
  rcases List.mem_cons.mp hw with h | h
  · subst h; exact ⟨hy, good_of_word (hT _ hy)⟩
  · exact ⟨h, good_of_word (hT _ h)⟩
end FW
section FW2
variable {p : Program} {l : Launch} {e : Env} {R : Room} {s : State} {m : MethodId} {args : Array Value} {below : List Frame} {meth : Method} {c : Code} {H : Heap} {locs : List Loc} {cells slots : Nat} {Q : State → Prop}
variable {cc : ByteArray} {pc nL : Nat} {ls : Array Slot} {rest st0 : List Value} {D : va_G} {cl : List vw_C} {tys : List (ClassId × FieldType)} {NW Ts : List Cond} {N0 : Nat} {ws ws' : va_W} {PW : va_W → Prop} {ret : Option FieldType} {own : String}
/-- a field is read -/
theorem gt {C : String} {T : u_T} {N ci index a : Nat} {fs : List Value} {v : Value} (hC : cx D cl tys NW Ts N0 p s m args meth c cc nL ret own) (hB : bd D cl N0 ws s H locs) (q0 : Nat) (he : ws[q0]? = some (a, .inr (ci, fs))) (hc : cl[ci]? = some (C, T, N)) (hin : ∀ w ∈ u_ws C T N, w ∈ Ts) (k : Nat) (hk : k < N) (hdc : (T k).1 = C) (hlink : Cond.fieldLink own index C (T k).2.1 (T k).2.2.1 ∈ Ts) (hv : fs[k]? = some v) (hdg : decode cc pc = .ok (.getfield index, 3))
    (kk : W p l e R s m args below meth c H locs cells slots Q (F0 m (pc + 3) ls (v :: rest))) : W p l e R s m args below meth c H locs cells slots Q (F0 m pc ls (.ref a :: rest)) :=
  va_get (D := D) (C := C) (T := T) (N := N) (ref := C) hC.1 hC.2.1 hC.2.2.2.2.2.1 hin hC.2.2.2.2.1 hC.2.2.2.2.2.2.2.1.1 hB.1 q0 he hc k hk (hC.2.2.2.2.2.1 _ hlink) (fun x h => by rw [hdc] at h; exact h) hv hdg kk
/-- a field is written -/
theorem pt {C : String} {T : u_T} {N ci index a : Nat} {fs : List Value} {v : Value} {ty : FieldType} (hC : cx D cl tys NW Ts N0 p s m args meth c cc nL ret own) (hB : bd D cl N0 ws s H locs) (q0 : Nat) (he : ws[q0]? = some (a, .inr (ci, fs))) (hc : cl[ci]? = some (C, T, N)) (hin : ∀ w ∈ u_ws C T N, w ∈ Ts) (ty0 : Nat → FieldType) (hty : ∀ k, k < N → parseFieldDescriptor (T k).2.2.1 = some (ty0 k)) (hnm : ∀ a, a < N → ∀ b, b < N → a ≠ b → (T a).2.1 ≠ (T b).2.1) (k : Nat) (hk : k < N) (hdc : (T k).1 = C) (hfin : (T k).2.2.2 = false) (hlink : Cond.fieldLink own index C (T k).2.1 (T k).2.2.1 ∈ Ts) (hd : parseFieldDescriptor (T k).2.2.1 = some ty) (hn : narrow ty v = v) (hfit : fits ty v = true) (hl : k < fs.length) (hdg : decode cc pc = .ok (.putfield index, 3))
    (hws : ws.set q0 (a, .inr (ci, fs.set k v)) = ws')
    (kk : ∀ (H1 : Heap) (locs1 : List Loc), bd D cl N0 ws' s H1 locs1 → W p l e R s m args below meth c H1 locs1 cells slots Q (F0 m (pc + 3) ls rest)) : W p l e R s m args below meth c H locs cells slots Q (F0 m pc ls (v :: .ref a :: rest)) := by
  subst hws
  exact va_put (D := D) (C := C) (T := T) (N := N) (ref := C) hC.1 hC.2.1 hC.2.2.2.2.2.1 hin ty0 hty hnm hC.2.2.2.2.1 hC.2.2.2.2.2.2.2.1.1 hB.1 hB.2.1 hB.2.2 q0 he hc k hk (hC.2.2.2.2.2.1 _ hlink) (fun x h => by rw [hdc] at h; exact h) hfin hd hn hfit hl hdg (fun H1 locs1 h1 h2 h3 => kk H1 locs1 ⟨h1, h2, h3⟩)
/-- a final field is written by a constructor -/
theorem ptF {C : String} {T : u_T} {N ci index a : Nat} {fs : List Value} {v : Value} {ty : FieldType} (hC : cx D cl tys NW Ts N0 p s m args meth c cc nL ret own) (hin2 : meth.name = "<init>") (hB : bd D cl N0 ws s H locs) (q0 : Nat) (he : ws[q0]? = some (a, .inr (ci, fs))) (hc : cl[ci]? = some (C, T, N)) (hin : ∀ w ∈ u_ws C T N, w ∈ Ts) (ty0 : Nat → FieldType) (hty : ∀ k, k < N → parseFieldDescriptor (T k).2.2.1 = some (ty0 k)) (hnm : ∀ a, a < N → ∀ b, b < N → a ≠ b → (T a).2.1 ≠ (T b).2.1) (k : Nat) (hk : k < N) (hdc : (T k).1 = C) (hoc : own = C) (hfin : (T k).2.2.2 = true) (hlink : Cond.fieldLink own index C (T k).2.1 (T k).2.2.1 ∈ Ts) (hd : parseFieldDescriptor (T k).2.2.1 = some ty) (hn : narrow ty v = v) (hfit : fits ty v = true) (hl : k < fs.length) (hdg : decode cc pc = .ok (.putfield index, 3))
    (hws : ws.set q0 (a, .inr (ci, fs.set k v)) = ws')
    (kk : ∀ (H1 : Heap) (locs1 : List Loc), bd D cl N0 ws' s H1 locs1 → W p l e R s m args below meth c H1 locs1 cells slots Q (F0 m (pc + 3) ls rest)) : W p l e R s m args below meth c H locs cells slots Q (F0 m pc ls (v :: .ref a :: rest)) := by
  subst hws
  exact va_putF (D := D) (C := C) (T := T) (N := N) (ref := C) hC.1 hC.2.1 hC.2.2.2.2.2.1 hin ty0 hty hnm hC.2.2.2.2.1 hC.2.2.2.2.2.2.2.1.1 hB.1 hB.2.1 hB.2.2 q0 he hc k hk (hC.2.2.2.2.2.1 _ hlink) (fun x h => by rw [hdc] at h; exact h) hfin hin2 (hdc.trans hoc.symm) hd hn hfit hl hdg (fun H1 locs1 h1 h2 h3 => kk H1 locs1 ⟨h1, h2, h3⟩)
/-- references that may be null -/
theorem kq_aload {i : Nat} {x : Option Nat} (hexec : p.tables.exec = Jvm.exec) (hb : c.code = cc) (hdg : decode cc pc = .ok (.aload i, 2)) (hl : ls[i]? = some (.val (va_rf x)))
    (k : W p l e R s m args below meth c H locs cells slots Q (F0 m (pc + 2) ls (va_rf x :: rest))) : W p l e R s m args below meth c H locs cells slots Q (F0 m pc ls rest) := by
  cases x with
  | none => exact lv_aloadN hexec hb hdg hl k
  | some a => exact lv_aload hexec hb hdg hl k
theorem kq_aload_n {i : Nat} {j : Fin 4} {x : Option Nat} (hexec : p.tables.exec = Jvm.exec) (hb : c.code = cc) (hdg : decode cc pc = .ok (.aload_n j, 1)) (hi : (j : Nat) = i) (hl : ls[i]? = some (.val (va_rf x)))
    (k : W p l e R s m args below meth c H locs cells slots Q (F0 m (pc + 1) ls (va_rf x :: rest))) : W p l e R s m args below meth c H locs cells slots Q (F0 m pc ls rest) := by
  cases x with
  | none => exact lv_aload_nN hexec hb hdg hi hl k
  | some a => exact lv_aload_n hexec hb hdg hi hl k
theorem kq_astore_n {j : Fin 4} {i nL : Nat} {x : Option Nat} {lv lv' : List (Nat × Value)} (hexec : p.tables.exec = Jvm.exec) (hb : c.code = cc) (hdg : decode cc pc = .ok (.astore_n j, 1)) (hi : (j : Nat) = i) (h : lv_has ls nL lv) (hn : i < nL) (hl : (i, va_rf x) :: lv.filter (fun q => !(q.1 == i) && !(q.1 + 1 == i && q.2.category == 2)) = lv')
    (kk : ∀ ls' : Array Slot, lv_has ls' nL lv' → W p l e R s m args below meth c H locs cells slots Q (F0 m (pc + 1) ls' rest)) : W p l e R s m args below meth c H locs cells slots Q (F0 m pc ls (va_rf x :: rest)) := by
  cases x with
  | none => exact lv_astore_nN hexec hb hdg hi h hn hl kk
  | some a => exact lv_astore_n hexec hb hdg hi h hn hl kk
/-- a place of an array is written -/
theorem as_l {cA : ClassId} {a n : Nat} {f : Nat → Int64} {i : Int32} {x : Int64} (hC : cx D cl tys NW Ts N0 p s m args meth c cc nL ret own) (hB : bd D cl N0 ws s H locs) (q0 t0 : Nat) (ha : ws[q0]? = some (a, .inl (cA, n, .inr (.inl f)))) (ht : tys[t0]? = some (cA, .long)) (hin : vp_in i n) (hdg : decode cc pc = .ok (.lastore, 1)) (hws : ws.set q0 (a, .inl (cA, n, .inr (.inl (vp_updL f i.toNatClampNeg x)))) = ws')
    (kk : ∀ (H1 : Heap) (locs1 : List Loc), bd D cl N0 ws' s H1 locs1 → W p l e R s m args below meth c H1 locs1 cells slots Q (F0 m (pc + 1) ls rest)) : W p l e R s m args below meth c H locs cells slots Q (F0 m pc ls (.long x :: .int i :: .ref a :: rest)) := by
  subst hws
  exact va_last hC.1 hC.2.1 hC.2.2.2.2.2.2.2.1.1 hB.1 hB.2.1 hB.2.2 q0 t0 ha ht hin hdg (fun H1 locs1 h1 h2 h3 => kk H1 locs1 ⟨h1, h2, h3⟩)
theorem as_i {cA : ClassId} {a n : Nat} {f : Nat → Int32} {i : Int32} {x : Int32} (hC : cx D cl tys NW Ts N0 p s m args meth c cc nL ret own) (hB : bd D cl N0 ws s H locs) (q0 t0 : Nat) (ha : ws[q0]? = some (a, .inl (cA, n, .inl f))) (ht : tys[t0]? = some (cA, .int)) (hin : vp_in i n) (hdg : decode cc pc = .ok (.iastore, 1)) (hws : ws.set q0 (a, .inl (cA, n, .inl (upd f i.toNatClampNeg x))) = ws')
    (kk : ∀ (H1 : Heap) (locs1 : List Loc), bd D cl N0 ws' s H1 locs1 → W p l e R s m args below meth c H1 locs1 cells slots Q (F0 m (pc + 1) ls rest)) : W p l e R s m args below meth c H locs cells slots Q (F0 m pc ls (.int x :: .int i :: .ref a :: rest)) := by
  subst hws
  exact va_iast hC.1 hC.2.1 hC.2.2.2.2.2.2.2.1.1 hB.1 hB.2.1 hB.2.2 q0 t0 ha ht hin hdg (fun H1 locs1 h1 h2 h3 => kk H1 locs1 ⟨h1, h2, h3⟩)
/-- what is known of a callee -/
def mf (Ts : List Cond) (C : String) (y : MethodName) (bytes : ByteArray) (maxL : Nat) (rt : Option FieldType) (n : Nat) : Prop :=
  Cond.code y bytes maxL rt ∈ Ts ∧ Cond.initialized C ∈ Ts ∧ y.cls = C ∧ y.cls ≠ "java/lang/invoke/MethodHandle" ∧ y.cls ≠ "java/lang/invoke/VarHandle" ∧ (parseMethodDescriptor y.desc).map (fun d => d.parameters.length) = some n
/-- a call of an object's method -/
theorem kV {C : String} {T : u_T} {N ci index n maxL mc ms b : Nat} {fs As : List Value} {y : MethodName} {bytes : ByteArray} {rt : Option FieldType} {rm : Room} {v : Option Value} (hC : cx D cl tys NW Ts N0 p s m args meth c cc nL ret own) (hB : bd D cl N0 ws s H locs) (q0 : Nat) (he : ws[q0]? = some (b, .inr (ci, fs))) (hc : cl[ci]? = some (C, T, N))
    (hM : Met l y (Cond.code y bytes maxL rt :: Ts) rm (pcx D cl tys NW N0 (.ref b :: As) ws) (qx D cl N0 v PW) mc ms (ga N0)) (hT : ∀ w ∈ Ts, goodWord w = true) (hF : mf Ts C y bytes maxL rt n) (hi : Cond.instanceMethod y ∈ Ts) (hs : Cond.selects C y y ∈ Ts) (hl : Cond.methodLink own index y ∈ Ts)
    (hrm : rm.cells = mc ∧ rm.slots = ms ∧ rm.frames + 1 ≤ R.frames ∧ 8 + (maxL + 11) + rm.locals ≤ R.locals) (hst : st0 = As.reverse ++ .ref b :: rest) (hn : As.length = n) (hsz : ls.size = nL) (hw8 : (rest.map fun v => v.category).sum ≤ 8) (hdg : decode cc pc = .ok (.invokevirtual index, 3)) (hf : cells + mc ≤ R.cells ∧ slots + ms ≤ R.slots)
    (kk : ∀ (H1 : Heap) (locs1 : List Loc) (ws1 : va_W), PW ws1 → bd D cl N0 ws1 s H1 locs1 → W p l e R s m args below meth c H1 locs1 (cells + mc) (slots + ms) Q (F0 m (pc + 3) ls (v.toList ++ rest))) : W p l e R s m args below meth c H locs cells slots Q (F0 m pc ls st0) := by
  obtain ⟨f1, f2, f3, f4, f5, f6⟩ := hF
  obtain ⟨r1, r2, r3, r4⟩ := hrm
  have hP := pcx_ok (av := .ref b :: As) hC hB
  have hG : GoodIn Ts (wsV own index C y (Cond.code y bytes maxL rt :: Ts)) := by
    intro w hw
    have hm : w ∈ Ts := by
      simp only [wsV, List.cons_append, List.nil_append, List.mem_cons] at hw
      rcases hw with h | h | h | h | h | h
      · rw [h]; exact hl
      · rw [h]; exact hi
      · rw [h]; exact hs
      · rw [h]; exact f2
      · rw [h]; exact f1
      · exact h
    exact ⟨hm, good_of_word (hT _ hm)⟩
  exact kc hB (va_runV (As := As) (rest := rest) (n := n) (C := C) (Ts := Ts) (own := own) ⟨hC.1, hC.2.1, hC.2.2.2.1, hC.2.2.2.2.1, hC.2.2.2.2.2.1⟩ hM (cwV n hC.2.2.2.2.2.1 hG rfl r1 r2 ⟨f3, f4, f5, f6⟩ ⟨r3, r4⟩) ⟨hP.1, va_recv hC.2.2.2.2.2.2.2.1.1 hB.1 hc he, hP.2⟩ rfl hn hsz hst (lv_room hw8) hdg hf) kk
/-- a call of a static method -/
theorem kS {C : String} {index n maxL mc ms : Nat} {As : List Value} {y : MethodName} {bytes : ByteArray} {rt : Option FieldType} {rm : Room} {v : Option Value} (hC : cx D cl tys NW Ts N0 p s m args meth c cc nL ret own) (hB : bd D cl N0 ws s H locs)
    (hM : Met l y (Cond.code y bytes maxL rt :: Ts) rm (pcx D cl tys NW N0 As ws) (qx D cl N0 v PW) mc ms (ga N0)) (hT : ∀ w ∈ Ts, goodWord w = true) (hF : mf Ts C y bytes maxL rt n) (hi : Cond.static y ∈ Ts) (hl : Cond.methodLink own index y ∈ Ts)
    (hrm : rm.cells = mc ∧ rm.slots = ms ∧ rm.frames + 1 ≤ R.frames ∧ 8 + (maxL + 11) + rm.locals ≤ R.locals) (hst : st0 = As.reverse ++ rest) (hn : As.length = n) (hsz : ls.size = nL) (hw8 : (rest.map fun v => v.category).sum ≤ 8) (hdg : decode cc pc = .ok (.invokestatic index, 3)) (hf : cells + mc ≤ R.cells ∧ slots + ms ≤ R.slots)
    (kk : ∀ (H1 : Heap) (locs1 : List Loc) (ws1 : va_W), PW ws1 → bd D cl N0 ws1 s H1 locs1 → W p l e R s m args below meth c H1 locs1 (cells + mc) (slots + ms) Q (F0 m (pc + 3) ls (v.toList ++ rest))) : W p l e R s m args below meth c H locs cells slots Q (F0 m pc ls st0) := by
  obtain ⟨f1, f2, f3, f4, f5, f6⟩ := hF
  obtain ⟨r1, r2, r3, r4⟩ := hrm
  subst f3
  have hP := pcx_ok (av := As) hC hB
  have hG : GoodIn Ts (va_wsS own index y (Cond.code y bytes maxL rt :: Ts)) := by
    intro w hw
    have hm : w ∈ Ts := by
      simp only [va_wsS, List.cons_append, List.nil_append, List.mem_cons] at hw
      rcases hw with h | h | h | h | h
      · rw [h]; exact hl
      · rw [h]; exact hi
      · rw [h]; exact f2
      · rw [h]; exact f1
      · exact h
    exact ⟨hm, good_of_word (hT _ hm)⟩
  exact kc hB (va_runS (As := As) (rest := rest) (n := n) (Ts := Ts) (own := own) ⟨hC.1, hC.2.1, hC.2.2.2.1, hC.2.2.2.2.1, hC.2.2.2.2.2.1⟩ hM (va_cwS n hC.2.2.2.2.2.1 hG rfl r1 r2 ⟨f4, f5, f6⟩ ⟨r3, r4⟩) ⟨hP.1, hP.2⟩ rfl hn hsz hst (lv_room hw8) hdg hf) kk
/-- a call of a private static method of a nest mate -/
theorem kSN {host : String} {index n maxL mc ms : Nat} {As : List Value} {y : MethodName} {C : String} {bytes : ByteArray} {rt : Option FieldType} {rm : Room} {v : Option Value} (hC : cx D cl tys NW Ts N0 p s m args meth c cc nL ret own) (hB : bd D cl N0 ws s H locs)
    (hM : Met l y (Cond.code y bytes maxL rt :: Ts) rm (pcx D cl tys NW N0 As ws) (qx D cl N0 v PW) mc ms (ga N0)) (hT : ∀ w ∈ Ts, goodWord w = true) (hF : mf Ts C y bytes maxL rt n) (hi : Cond.static y ∈ Ts) (hl : Cond.methodLinkNest own index y host ∈ NW)
    (hrm : rm.cells = mc ∧ rm.slots = ms ∧ rm.frames + 1 ≤ R.frames ∧ 8 + (maxL + 11) + rm.locals ≤ R.locals) (hst : st0 = As.reverse ++ rest) (hn : As.length = n) (hsz : ls.size = nL) (hw8 : (rest.map fun v => v.category).sum ≤ 8) (hdg : decode cc pc = .ok (.invokestatic index, 3)) (hf : cells + mc ≤ R.cells ∧ slots + ms ≤ R.slots)
    (kk : ∀ (H1 : Heap) (locs1 : List Loc) (ws1 : va_W), PW ws1 → bd D cl N0 ws1 s H1 locs1 → W p l e R s m args below meth c H1 locs1 (cells + mc) (slots + ms) Q (F0 m (pc + 3) ls (v.toList ++ rest))) : W p l e R s m args below meth c H locs cells slots Q (F0 m pc ls st0) := by
  obtain ⟨f1, f2, f3, f4, f5, f6⟩ := hF
  obtain ⟨r1, r2, r3, r4⟩ := hrm
  have hP := pcx_ok (av := As) hC hB
  exact kc hB (va_runSN (As := As) (rest := rest) (n := n) (Ts := Ts) (own := own) (host := host) ⟨hC.1, hC.2.1, hC.2.2.2.1, hC.2.2.2.2.1, hC.2.2.2.2.2.1⟩ hM ⟨va_cnB n hC.2.2.2.2.2.1 (good_all hT f1) rfl r1 r2 (hC.2.2.2.2.2.2.2.1.2 _ hl) (by rw [f3]; exact hC.2.2.2.2.2.1 _ f2) ⟨f4, f5, f6⟩ ⟨r3, r4⟩, hC.2.2.2.2.2.1 _ hi, trivial⟩ ⟨hP.1, hP.2⟩ rfl hn hsz hst (lv_room hw8) hdg hf) kk
/-- returns -/
theorem ri {v : Int32} (hC : cx D cl tys NW Ts N0 p s m args meth c cc nL (some .int) own) (hB : bd D cl N0 ws s H locs) (hp : PW ws) (hdg : decode cc pc = .ok (.ireturn, 1)) : W p l e R s m args below meth c H locs cells slots (MQ below (qx D cl N0 (some (.int v)) PW) args s cells slots (ga N0)) (F0 m pc ls [.int v]) :=
  W.iret hC.1 hC.2.1 hC.2.2.1 (fun t ht _ => ⟨rfl, ⟨_, hp, by rw [ht]; exact hB.1, hB.2.1⟩, hB.2.2.F ht⟩) hB.2.2.2.2 hdg hC.2.2.2.2.2.2.1
theorem rz {b : Bool} (hC : cx D cl tys NW Ts N0 p s m args meth c cc nL (some .boolean) own) (hB : bd D cl N0 ws s H locs) (hp : PW ws) (hdg : decode cc pc = .ok (.ireturn, 1)) : W p l e R s m args below meth c H locs cells slots (MQ below (qx D cl N0 (some (.int (bi b))) PW) args s cells slots (ga N0)) (F0 m pc ls [.int (bi b)]) :=
  W.zret hC.1 hC.2.1 hC.2.2.1 (bi_z b) (fun t ht _ => ⟨rfl, ⟨_, hp, by rw [ht]; exact hB.1, hB.2.1⟩, hB.2.2.F ht⟩) hB.2.2.2.2 hdg hC.2.2.2.2.2.2.1
theorem rl {v : Int64} (hC : cx D cl tys NW Ts N0 p s m args meth c cc nL (some .long) own) (hB : bd D cl N0 ws s H locs) (hp : PW ws) (hdg : decode cc pc = .ok (.lreturn, 1)) : W p l e R s m args below meth c H locs cells slots (MQ below (qx D cl N0 (some (.long v)) PW) args s cells slots (ga N0)) (F0 m pc ls [.long v]) :=
  W.lret hC.1 hC.2.1 hC.2.2.1 (fun t ht _ => ⟨rfl, ⟨_, hp, by rw [ht]; exact hB.1, hB.2.1⟩, hB.2.2.F ht⟩) hB.2.2.2.2 hdg hC.2.2.2.2.2.2.1
theorem rv (hC : cx D cl tys NW Ts N0 p s m args meth c cc nL none own) (hB : bd D cl N0 ws s H locs) (hp : PW ws) (hdg : decode cc pc = .ok (.return_, 1)) : W p l e R s m args below meth c H locs cells slots (MQ below (qx D cl N0 none PW) args s cells slots (ga N0)) (F0 m pc ls []) :=
  W.vret hC.1 hC.2.1 hC.2.2.1 (fun t ht _ => ⟨rfl, ⟨_, hp, by rw [ht]; exact hB.1, hB.2.1⟩, hB.2.2.F ht⟩) hB.2.2.2.2 hdg hC.2.2.2.2.2.2.1
end FW2
/-! loops: a counter that goes up to a bound, one that goes down below 0 -/
def upI (n : Nat) (b x : Int32) : Prop := 0 ≤ x.toInt ∧ x.toInt ≤ max 0 b.toInt ∧ max 0 b.toInt < x.toInt + n
theorem up_zero {b x : Int32} : ¬ upI 0 b x := by
  rintro ⟨_, h1, h2⟩
  omega
theorem i1_toInt {x : Int32} (h0 : 0 ≤ x.toInt) (h1 : x.toInt < 2147483647) : (x + 1).toInt = x.toInt + 1 := by
  have hx : ¬ x < 0 := by rw [Int32.lt_iff_toInt_lt]; show ¬ x.toInt < 0; omega
  obtain ⟨j, hj, rfl⟩ := nI_of hx
  rw [nI_toInt hj] at h1 ⊢
  rw [nI_1, nI_toInt (by omega)]
  omega
theorem up_step {n : Nat} {b x : Int32} (h : upI (n + 1) b x) (c : ¬ b ≤ x) : upI n b (x + 1) := by
  obtain ⟨h0, h1, h2⟩ := h
  rw [Int32.le_iff_toInt_le] at c
  have hb := b.toInt_lt
  have e := i1_toInt h0 (by omega)
  refine ⟨by omega, by omega, by omega⟩
theorem up_init (b : Int32) : upI (b.toNatClampNeg + 1) b 0 := by
  have h : (b.toNatClampNeg : Int) = max 0 b.toInt := by
    show ((b.toInt.toNat : Nat) : Int) = _
    omega
  refine ⟨by decide, ?_, ?_⟩
  · show (0 : Int) ≤ _
    omega
  · show max 0 b.toInt < (0 : Int) + _
    omega
def dnI (n : Nat) (x : Int32) : Prop := max (-1) x.toInt + 1 < n
theorem dn_zero {x : Int32} : ¬ dnI 0 x := by
  unfold dnI
  omega
theorem dn_step {n : Nat} {x : Int32} (h : dnI (n + 1) x) (c : ¬ x < 0) : dnI n (x + (-1)) := by
  unfold dnI at h ⊢
  obtain ⟨j, hj, rfl⟩ := nI_of c
  rw [nI_toInt hj] at h
  cases j with
  | zero =>
    have : (nI 0 + (-1) : Int32).toInt = -1 := by decide
    omega
  | succ j =>
    rw [pk_m1, nI_toInt (by omega)]
    omega
theorem dn_init (x : Int32) : dnI (x.toNatClampNeg + 2) x := by
  unfold dnI
  have h : (x.toNatClampNeg : Int) = max 0 x.toInt := by
    show ((x.toInt.toNat : Nat) : Int) = _
    omega
  omega
theorem vinU {n N : Nat} {b x : Int32} (h : upI (n + 1) b x) (e : b = nI N) (c : ¬ b ≤ x) (hN : N < 2 ^ 31) : vp_in x N := by
  subst e
  have h0 : ¬ x < 0 := by rw [Int32.lt_iff_toInt_lt]; have := h.1; show ¬ x.toInt < 0; omega
  obtain ⟨j, hj, rfl, -⟩ := pk_mu h0 c hN
  exact vp_in_nI hj hN
section FW4
variable {p : Program} {l : Launch} {e : Env} {R : Room} {s : State} {m : MethodId} {args : Array Value} {below : List Frame} {meth : Method} {c : Code} {H : Heap} {locs : List Loc} {cells slots : Nat} {Q : State → Prop}
variable {cc : ByteArray} {pc nL : Nat} {ls : Array Slot} {rest st0 : List Value} {D : va_G} {cl : List vw_C} {tys : List (ClassId × FieldType)} {NW Ts : List Cond} {N0 : Nat} {ws ws' : va_W} {PW : va_W → Prop} {ret : Option FieldType} {own : String}
theorem nar_rf (C : String) (o : Option Nat) : narrow (.object C) (va_rf o) = va_rf o := by cases o <;> rfl
theorem fit_rf (C : String) (o : Option Nat) : fits (.object C) (va_rf o) = true := by cases o <;> rfl
/-- a private field of a nest mate is read -/
theorem gtN {C host : String} {T : u_T} {N ci index a : Nat} {fs : List Value} {v : Value} (hC : cx D cl tys NW Ts N0 p s m args meth c cc nL ret own) (hB : bd D cl N0 ws s H locs) (q0 : Nat) (he : ws[q0]? = some (a, .inr (ci, fs))) (hc : cl[ci]? = some (C, T, N)) (hin : ∀ w ∈ u_ws C T N, w ∈ Ts) (k : Nat) (hk : k < N) (hdc : (T k).1 = C) (hlink : Cond.fieldLinkNest own index C (T k).2.1 (T k).2.2.1 host ∈ NW) (hv : fs[k]? = some v) (hdg : decode cc pc = .ok (.getfield index, 3))
    (kk : W p l e R s m args below meth c H locs cells slots Q (F0 m (pc + 3) ls (v :: rest))) : W p l e R s m args below meth c H locs cells slots Q (F0 m pc ls (.ref a :: rest)) :=
  va_getN (D := D) (C := C) (T := T) (N := N) (ref := C) (host := host) hC.1 hC.2.1 hC.2.2.2.2.2.1 hin hC.2.2.2.2.1 hC.2.2.2.2.2.2.2.1.1 hB.1 q0 he hc k hk (va_Nw.use rfl (hC.2.2.2.2.2.2.2.1.2 _ hlink)) (fun x h => by rw [hdc] at h; exact h) hv hdg kk
/-- a new object -/
theorem nwo {C : String} {T : u_T} {N ci index : Nat} {fs : List Value} (hC : cx D cl tys NW Ts N0 p s m args meth c cc nL ret own) (hB : bd D cl N0 ws s H locs) (hc : cl[ci]? = some (C, T, N)) (hin : ∀ w ∈ u_ws C T N, w ∈ Ts) (ty : Nat → FieldType) (hty : ∀ k, k < N → parseFieldDescriptor (T k).2.2.1 = some (ty k)) (hcl : Cond.classLink own index C ∈ Ts) (hinst : Cond.instantiable C N ∈ Ts) (hini : Cond.initialized C ∈ Ts) (hfs : ∀ j, j < N → defaultValue (ty j) = vp_V fs j) (hcells : cells + 1 ≤ R.cells) (hslots : slots + N ≤ R.slots) (hdg : decode cc pc = .ok (.new index, 3))
    (kk : ∀ (q : Nat) (H1 : Heap), bd D cl N0 (ws ++ [(q, .inr (ci, fs))]) s H1 locs → W p l e R s m args below meth c H1 locs (cells + 1) (slots + N) Q (F0 m (pc + 3) ls (.ref q :: rest))) : W p l e R s m args below meth c H locs cells slots Q (F0 m pc ls rest) :=
  va_new (D := D) (C := C) (T := T) (N := N) hC.1 hC.2.1 hC.2.2.2.2.2.1 hin ty hty hC.2.2.2.2.1 (hC.2.2.2.2.2.1 _ hcl) (hC.2.2.2.2.2.1 _ hinst) (hC.2.2.2.2.2.1 _ hini) hC.2.2.2.2.2.2.2.1.1 hB.1 hB.2.1 hB.2.2 (fun q h => Nat.le_trans hC.2.2.2.2.2.2.2.2.1 h) hc hfs hcells hslots hdg (fun q H1 h1 h2 h3 => kk q H1 ⟨h1, h2, h3⟩)
/-- a new object lies apart -/
theorem nw_fresh {q : Nat} {x y : va_E} (hD : va_D (ga N0) (ws ++ [(q, x)])) : ∀ k : Nat, ws[k]? ≠ some (q, y) := by
  intro k hk
  have hl := (List.getElem?_eq_some_iff.mp hk).1
  have := hD.1 k ws.length (q, y) (q, x) (by rw [List.getElem?_append_left hl]; exact hk) (by simp) rfl
  omega
/-- a call of a constructor -/
theorem kI {C : String} {index n maxL mc ms b : Nat} {As : List Value} {y : MethodName} {bytes : ByteArray} {rm : Room} {v : Option Value} (hC : cx D cl tys NW Ts N0 p s m args meth c cc nL ret own) (hB : bd D cl N0 ws s H locs)
    (hM : Met l y (Cond.code y bytes maxL none :: Ts) rm (pcx D cl tys NW N0 (.ref b :: As) ws) (qx D cl N0 v PW) mc ms (ga N0)) (hT : ∀ w ∈ Ts, goodWord w = true) (hF : mf Ts C y bytes maxL none n) (hi : Cond.instanceMethod y ∈ Ts) (hy1 : y.name = "<init>") (hl : Cond.methodLink own index y ∈ Ts)
    (hrm : rm.cells = mc ∧ rm.slots = ms ∧ rm.frames + 1 ≤ R.frames ∧ 8 + (maxL + 11) + rm.locals ≤ R.locals) (hst : st0 = As.reverse ++ .ref b :: rest) (hn : As.length = n) (hsz : ls.size = nL) (hw8 : (rest.map fun v => v.category).sum ≤ 8) (hdg : decode cc pc = .ok (.invokespecial index, 3)) (hf : cells + mc ≤ R.cells ∧ slots + ms ≤ R.slots)
    (kk : ∀ (H1 : Heap) (locs1 : List Loc) (ws1 : va_W), PW ws1 → bd D cl N0 ws1 s H1 locs1 → W p l e R s m args below meth c H1 locs1 (cells + mc) (slots + ms) Q (F0 m (pc + 3) ls (v.toList ++ rest))) : W p l e R s m args below meth c H locs cells slots Q (F0 m pc ls st0) := by
  obtain ⟨f1, f2, f3, f4, f5, f6⟩ := hF
  obtain ⟨r1, r2, r3, r4⟩ := hrm
  subst f3
  have hP := pcx_ok (av := .ref b :: As) hC hB
  exact kc hB (va_runI (As := As) (rest := rest) (n := n) (Ts := Ts) (own := own) ⟨hC.1, hC.2.1, hC.2.2.2.1, hC.2.2.2.2.1, hC.2.2.2.2.2.1⟩ hM (cwI n hC.2.2.2.2.2.1 (good_all hT f1) rfl r1 r2 (hC.2.2.2.2.2.1 _ f2) (hC.2.2.2.2.2.1 _ hl) (hC.2.2.2.2.2.1 _ hi) hy1 ⟨f4, f5, f6⟩ ⟨r3, r4⟩) ⟨hP.1, hP.2⟩ rfl hn hsz hst (lv_room hw8) hdg hf) kk
theorem ra {C : String} {x : Option Nat} (hC : cx D cl tys NW Ts N0 p s m args meth c cc nL (some (.object C)) own) (hB : bd D cl N0 ws s H locs) (hp : PW ws) (hdg : decode cc pc = .ok (.areturn, 1)) : W p l e R s m args below meth c H locs cells slots (MQ below (qx D cl N0 (some (va_rf x)) PW) args s cells slots (ga N0)) (F0 m pc ls [va_rf x]) :=
  W.aret hC.1 hC.2.1 hC.2.2.1 (Or.inl ⟨C, rfl⟩) (by cases x with | none => exact Or.inl rfl | some a => exact Or.inr ⟨a, rfl⟩) (fun t ht _ => ⟨rfl, ⟨_, hp, by rw [ht]; exact hB.1, hB.2.1⟩, hB.2.2.F ht⟩) hB.2.2.2.2 hdg hC.2.2.2.2.2.2.1
/-- Object's constructor -/
theorem oi {index a : Nat} (hC : cx D cl tys NW Ts N0 p s m args meth c cc nL ret own) (hl : Cond.methodLink own index objectInit ∈ Ts) (hi : Cond.instanceMethod objectInit ∈ Ts) (hc : Cond.code objectInit ⟨#[0xb1]⟩ 1 none ∈ Ts) (hsz : ls.size = nL) (hdg : decode cc pc = .ok (.invokespecial index, 3)) (hf : 1 ≤ R.frames) (hlo : (rest.map fun v => v.category).sum + 12 ≤ R.locals)
    (kk : W p l e R s m args below meth c H locs cells slots Q (F0 m (pc + 3) ls rest)) : W p l e R s m args below meth c H locs cells slots Q (F0 m pc ls (.ref a :: rest)) :=
  W.objInit hC.1 hC.2.1 hC.2.2.2.2.1 (hC.2.2.2.2.2.1 _ hl) (hC.2.2.2.2.2.1 _ hi) (hC.2.2.2.2.2.1 _ hc) rfl (by rw [hC.2.2.2.1]; exact hsz) rfl hdg hf (by show 2 * 0 + _ + 12 ≤ _; omega) kk
end FW4
end
section
/-! names: classes, fields, methods; made by program -/
def R_ST : String := "SheetTrees"
def R_Change : String := "SheetTrees$Change"
def R_Journal : String := "SheetTrees$Journal"
def R_Row : String := "SheetTrees$Row"
def R_Sheets : String := "SheetTrees$Sheets"
def R_Book : String := "SheetTrees$Book"
def R_Parts : String := "SheetTrees$Parts"
def R_Variants : String := "SheetTrees$Variants"
def R_Mo : String := "SheetTreesModel"
def R_Law : String := "SheetTreesLaw"
def R_Arrays : String := "java/util/Arrays"
def F_ST : u_T := fun k => match k with
  | 0 => ("SheetTrees", "journal", "LSheetTrees$Journal;", true)
  | 1 => ("SheetTrees", "sheets", "LSheetTrees$Sheets;", true)
  | 2 => ("SheetTrees", "book", "LSheetTrees$Book;", true)
  | 3 => ("SheetTrees", "parts", "LSheetTrees$Parts;", true)
  | 4 => ("SheetTrees", "variants", "LSheetTrees$Variants;", true)
  | 5 => ("SheetTrees", "numbering", "LSheetTrees$Row;", true)
  | _ => ("SheetTrees", "lostNames", "I", false)
def t_ST : Nat → FieldType := fun k => match k with
  | 0 => .object "SheetTrees$Journal"
  | 1 => .object "SheetTrees$Sheets"
  | 2 => .object "SheetTrees$Book"
  | 3 => .object "SheetTrees$Parts"
  | 4 => .object "SheetTrees$Variants"
  | 5 => .object "SheetTrees$Row"
  | _ => .int
theorem n_ST : ∀ a, a < 7 → ∀ b, b < 7 → a ≠ b → (F_ST a).2.1 ≠ (F_ST b).2.1 := by decide +kernel
theorem t_ST_ok : ∀ k, k < 7 → parseFieldDescriptor (F_ST k).2.2.1 = some (t_ST k) := by decide +kernel
def F_Change : u_T := fun k => match k with
  | 0 => ("SheetTrees$Change", "row", "LSheetTrees$Row;", true)
  | 1 => ("SheetTrees$Change", "index", "I", true)
  | 2 => ("SheetTrees$Change", "old", "J", true)
  | _ => ("SheetTrees$Change", "before", "LSheetTrees$Change;", true)
def t_Change : Nat → FieldType := fun k => match k with
  | 0 => .object "SheetTrees$Row"
  | 1 => .int
  | 2 => .long
  | _ => .object "SheetTrees$Change"
theorem n_Change : ∀ a, a < 4 → ∀ b, b < 4 → a ≠ b → (F_Change a).2.1 ≠ (F_Change b).2.1 := by decide +kernel
theorem t_Change_ok : ∀ k, k < 4 → parseFieldDescriptor (F_Change k).2.2.1 = some (t_Change k) := by decide +kernel
def F_Journal : u_T := fun k => match k with
  | 0 => ("SheetTrees$Journal", "acts", "[LSheetTrees$Change;", true)
  | 1 => ("SheetTrees$Journal", "count", "I", false)
  | 2 => ("SheetTrees$Journal", "next", "I", false)
  | _ => ("SheetTrees$Journal", "open", "LSheetTrees$Change;", false)
def t_Journal : Nat → FieldType := fun k => match k with
  | 0 => .array (.object "SheetTrees$Change")
  | 1 => .int
  | 2 => .int
  | _ => .object "SheetTrees$Change"
theorem n_Journal : ∀ a, a < 4 → ∀ b, b < 4 → a ≠ b → (F_Journal a).2.1 ≠ (F_Journal b).2.1 := by decide +kernel
theorem t_Journal_ok : ∀ k, k < 4 → parseFieldDescriptor (F_Journal k).2.2.1 = some (t_Journal k) := by decide +kernel
def F_Row : u_T := fun k => match k with
  | 0 => ("SheetTrees$Row", "journal", "LSheetTrees$Journal;", true)
  | _ => ("SheetTrees$Row", "cells", "[J", true)
def t_Row : Nat → FieldType := fun k => match k with
  | 0 => .object "SheetTrees$Journal"
  | _ => .array .long
theorem n_Row : ∀ a, a < 2 → ∀ b, b < 2 → a ≠ b → (F_Row a).2.1 ≠ (F_Row b).2.1 := by decide +kernel
theorem t_Row_ok : ∀ k, k < 2 → parseFieldDescriptor (F_Row k).2.2.1 = some (t_Row k) := by decide +kernel
def F_Sheets : u_T := fun k => match k with
  | 0 => ("SheetTrees$Sheets", "counts", "LSheetTrees$Row;", true)
  | 1 => ("SheetTrees$Sheets", "nameSets", "LSheetTrees$Row;", true)
  | 2 => ("SheetTrees$Sheets", "shown", "LSheetTrees$Row;", true)
  | 3 => ("SheetTrees$Sheets", "parents", "LSheetTrees$Row;", true)
  | 4 => ("SheetTrees$Sheets", "following", "LSheetTrees$Row;", true)
  | _ => ("SheetTrees$Sheets", "joints", "LSheetTrees$Row;", true)
def t_Sheets : Nat → FieldType := fun k => match k with
  | 0 => .object "SheetTrees$Row"
  | 1 => .object "SheetTrees$Row"
  | 2 => .object "SheetTrees$Row"
  | 3 => .object "SheetTrees$Row"
  | 4 => .object "SheetTrees$Row"
  | _ => .object "SheetTrees$Row"
theorem n_Sheets : ∀ a, a < 6 → ∀ b, b < 6 → a ≠ b → (F_Sheets a).2.1 ≠ (F_Sheets b).2.1 := by decide +kernel
theorem t_Sheets_ok : ∀ k, k < 6 → parseFieldDescriptor (F_Sheets k).2.2.1 = some (t_Sheets k) := by decide +kernel
def F_Book : u_T := fun k => match k with
  | 0 => ("SheetTrees$Book", "sheets", "LSheetTrees$Sheets;", true)
  | 1 => ("SheetTrees$Book", "sheetRow", "[I", true)
  | 2 => ("SheetTrees$Book", "placementRow", "[I", true)
  | 3 => ("SheetTrees$Book", "aboveRow", "[I", true)
  | 4 => ("SheetTrees$Book", "depthRow", "[I", true)
  | 5 => ("SheetTrees$Book", "comingRow", "[I", true)
  | 6 => ("SheetTrees$Book", "comings", "[I", true)
  | _ => ("SheetTrees$Book", "count", "I", false)
def t_Book : Nat → FieldType := fun k => match k with
  | 0 => .object "SheetTrees$Sheets"
  | 1 => .array .int
  | 2 => .array .int
  | 3 => .array .int
  | 4 => .array .int
  | 5 => .array .int
  | 6 => .array .int
  | _ => .int
theorem n_Book : ∀ a, a < 8 → ∀ b, b < 8 → a ≠ b → (F_Book a).2.1 ≠ (F_Book b).2.1 := by decide +kernel
theorem t_Book_ok : ∀ k, k < 8 → parseFieldDescriptor (F_Book k).2.2.1 = some (t_Book k) := by decide +kernel
def F_Parts : u_T := fun k => match k with
  | 0 => ("SheetTrees$Parts", "book", "LSheetTrees$Book;", true)
  | 1 => ("SheetTrees$Parts", "size", "LSheetTrees$Row;", true)
  | 2 => ("SheetTrees$Parts", "letters", "LSheetTrees$Row;", true)
  | 3 => ("SheetTrees$Parts", "gateCounts", "LSheetTrees$Row;", true)
  | 4 => ("SheetTrees$Parts", "lying", "LSheetTrees$Row;", true)
  | 5 => ("SheetTrees$Parts", "gateLists", "LSheetTrees$Row;", true)
  | 6 => ("SheetTrees$Parts", "listLengths", "LSheetTrees$Row;", true)
  | _ => ("SheetTrees$Parts", "marks", "[I", true)
def t_Parts : Nat → FieldType := fun k => match k with
  | 0 => .object "SheetTrees$Book"
  | 1 => .object "SheetTrees$Row"
  | 2 => .object "SheetTrees$Row"
  | 3 => .object "SheetTrees$Row"
  | 4 => .object "SheetTrees$Row"
  | 5 => .object "SheetTrees$Row"
  | 6 => .object "SheetTrees$Row"
  | _ => .array .int
theorem n_Parts : ∀ a, a < 8 → ∀ b, b < 8 → a ≠ b → (F_Parts a).2.1 ≠ (F_Parts b).2.1 := by decide +kernel
theorem t_Parts_ok : ∀ k, k < 8 → parseFieldDescriptor (F_Parts k).2.2.1 = some (t_Parts k) := by decide +kernel
def F_Variants : u_T := fun k => match k with
  | 0 => ("SheetTrees$Variants", "book", "LSheetTrees$Book;", true)
  | 1 => ("SheetTrees$Variants", "counts", "LSheetTrees$Row;", true)
  | 2 => ("SheetTrees$Variants", "aboves", "LSheetTrees$Row;", true)
  | 3 => ("SheetTrees$Variants", "subjects", "LSheetTrees$Row;", true)
  | 4 => ("SheetTrees$Variants", "contents", "LSheetTrees$Row;", true)
  | 5 => ("SheetTrees$Variants", "depths", "LSheetTrees$Row;", true)
  | _ => ("SheetTrees$Variants", "paths", "LSheetTrees$Row;", true)
def t_Variants : Nat → FieldType := fun k => match k with
  | 0 => .object "SheetTrees$Book"
  | 1 => .object "SheetTrees$Row"
  | 2 => .object "SheetTrees$Row"
  | 3 => .object "SheetTrees$Row"
  | 4 => .object "SheetTrees$Row"
  | 5 => .object "SheetTrees$Row"
  | _ => .object "SheetTrees$Row"
theorem n_Variants : ∀ a, a < 7 → ∀ b, b < 7 → a ≠ b → (F_Variants a).2.1 ≠ (F_Variants b).2.1 := by decide +kernel
theorem t_Variants_ok : ∀ k, k < 7 → parseFieldDescriptor (F_Variants k).2.2.1 = some (t_Variants k) := by decide +kernel
def F_Mo : u_T := fun k => match k with
  | 0 => ("SheetTreesModel", "thrown", "I", false)
  | 1 => ("SheetTreesModel", "now", "[J", true)
  | 2 => ("SheetTreesModel", "before", "[J", true)
  | 3 => ("SheetTreesModel", "kept", "[J", true)
  | 4 => ("SheetTreesModel", "keptCount", "I", false)
  | 5 => ("SheetTreesModel", "keptFirst", "I", false)
  | 6 => ("SheetTreesModel", "lost", "I", false)
  | 7 => ("SheetTreesModel", "fresh", "Z", false)
  | 8 => ("SheetTreesModel", "pages", "I", false)
  | 9 => ("SheetTreesModel", "pageSheet", "[I", true)
  | 10 => ("SheetTreesModel", "pagePlacement", "[I", true)
  | 11 => ("SheetTreesModel", "pageFrom", "[I", true)
  | 12 => ("SheetTreesModel", "pageDepth", "[I", true)
  | 13 => ("SheetTreesModel", "path", "[I", true)
  | 14 => ("SheetTreesModel", "stackPage", "[I", true)
  | 15 => ("SheetTreesModel", "stackKey", "[J", true)
  | 16 => ("SheetTreesModel", "twin", "[I", true)
  | 17 => ("SheetTreesModel", "firstPage", "I", false)
  | _ => ("SheetTreesModel", "firstPlace", "J", false)
def t_Mo : Nat → FieldType := fun k => match k with
  | 0 => .int
  | 1 => .array .long
  | 2 => .array .long
  | 3 => .array .long
  | 4 => .int
  | 5 => .int
  | 6 => .int
  | 7 => .boolean
  | 8 => .int
  | 9 => .array .int
  | 10 => .array .int
  | 11 => .array .int
  | 12 => .array .int
  | 13 => .array .int
  | 14 => .array .int
  | 15 => .array .long
  | 16 => .array .int
  | 17 => .int
  | _ => .long
theorem n_Mo : ∀ a, a < 19 → ∀ b, b < 19 → a ≠ b → (F_Mo a).2.1 ≠ (F_Mo b).2.1 := by decide +kernel
theorem t_Mo_ok : ∀ k, k < 19 → parseFieldDescriptor (F_Mo k).2.2.1 = some (t_Mo k) := by decide +kernel
abbrev classes : List vw_C := [(R_ST, F_ST, 7), (R_Change, F_Change, 4), (R_Journal, F_Journal, 4), (R_Row, F_Row, 2), (R_Sheets, F_Sheets, 6), (R_Book, F_Book, 8), (R_Parts, F_Parts, 8), (R_Variants, F_Variants, 7), (R_Mo, F_Mo, 19)]
abbrev CI_ST : Nat := 0
abbrev CI_Change : Nat := 1
abbrev CI_Journal : Nat := 2
abbrev CI_Row : Nat := 3
abbrev CI_Sheets : Nat := 4
abbrev CI_Book : Nat := 5
abbrev CI_Parts : Nat := 6
abbrev CI_Variants : Nat := 7
abbrev CI_Mo : Nat := 8
def ALLW : List Cond := lw_tbl.filter goodWord
theorem allw_ok : ∀ w ∈ ALLW, goodWord w = true := fun w h => (List.mem_filter.mp h).2
theorem i_ST : ∀ w ∈ u_ws R_ST F_ST 7, w ∈ ALLW := by
  have h : u_ws R_ST F_ST 7 = [260, 262, 264, 266, 268, 270, 272].filterMap (fun i => tables_1[i]?) := by decide +kernel
  intro w hw
  refine List.mem_filter.mpr ⟨List.mem_append_right _ ?_, List.all_eq_true.mp (show (u_ws R_ST F_ST 7).all goodWord = true by decide +kernel) w hw⟩
  rw [h] at hw
  obtain ⟨i, -, hi⟩ := List.mem_filterMap.mp hw
  exact List.mem_of_getElem? hi
theorem i_Change : ∀ w ∈ u_ws R_Change F_Change 4, w ∈ ALLW := by
  have h : u_ws R_Change F_Change 4 = [311, 313, 315, 317].filterMap (fun i => tables_1[i]?) := by decide +kernel
  intro w hw
  refine List.mem_filter.mpr ⟨List.mem_append_right _ ?_, List.all_eq_true.mp (show (u_ws R_Change F_Change 4).all goodWord = true by decide +kernel) w hw⟩
  rw [h] at hw
  obtain ⟨i, -, hi⟩ := List.mem_filterMap.mp hw
  exact List.mem_of_getElem? hi
theorem i_Journal : ∀ w ∈ u_ws R_Journal F_Journal 4, w ∈ ALLW := by
  have h : u_ws R_Journal F_Journal 4 = [37, 39, 41, 43].filterMap (fun i => tables_1[i]?) := by decide +kernel
  intro w hw
  refine List.mem_filter.mpr ⟨List.mem_append_right _ ?_, List.all_eq_true.mp (show (u_ws R_Journal F_Journal 4).all goodWord = true by decide +kernel) w hw⟩
  rw [h] at hw
  obtain ⟨i, -, hi⟩ := List.mem_filterMap.mp hw
  exact List.mem_of_getElem? hi
theorem i_Row : ∀ w ∈ u_ws R_Row F_Row 2, w ∈ ALLW := by
  have h : u_ws R_Row F_Row 2 = [66, 68].filterMap (fun i => tables_1[i]?) := by decide +kernel
  intro w hw
  refine List.mem_filter.mpr ⟨List.mem_append_right _ ?_, List.all_eq_true.mp (show (u_ws R_Row F_Row 2).all goodWord = true by decide +kernel) w hw⟩
  rw [h] at hw
  obtain ⟨i, -, hi⟩ := List.mem_filterMap.mp hw
  exact List.mem_of_getElem? hi
theorem i_Sheets : ∀ w ∈ u_ws R_Sheets F_Sheets 6, w ∈ ALLW := by
  have h : u_ws R_Sheets F_Sheets 6 = [83, 85, 87, 89, 91, 93].filterMap (fun i => tables_1[i]?) := by decide +kernel
  intro w hw
  refine List.mem_filter.mpr ⟨List.mem_append_right _ ?_, List.all_eq_true.mp (show (u_ws R_Sheets F_Sheets 6).all goodWord = true by decide +kernel) w hw⟩
  rw [h] at hw
  obtain ⟨i, -, hi⟩ := List.mem_filterMap.mp hw
  exact List.mem_of_getElem? hi
theorem i_Book : ∀ w ∈ u_ws R_Book F_Book 8, w ∈ ALLW := by
  have h : u_ws R_Book F_Book 8 = [110, 112, 114, 116, 118, 120, 122, 124].filterMap (fun i => tables_1[i]?) := by decide +kernel
  intro w hw
  refine List.mem_filter.mpr ⟨List.mem_append_right _ ?_, List.all_eq_true.mp (show (u_ws R_Book F_Book 8).all goodWord = true by decide +kernel) w hw⟩
  rw [h] at hw
  obtain ⟨i, -, hi⟩ := List.mem_filterMap.mp hw
  exact List.mem_of_getElem? hi
theorem i_Parts : ∀ w ∈ u_ws R_Parts F_Parts 8, w ∈ ALLW := by
  have h : u_ws R_Parts F_Parts 8 = [145, 147, 149, 151, 153, 155, 157, 159].filterMap (fun i => tables_1[i]?) := by decide +kernel
  intro w hw
  refine List.mem_filter.mpr ⟨List.mem_append_right _ ?_, List.all_eq_true.mp (show (u_ws R_Parts F_Parts 8).all goodWord = true by decide +kernel) w hw⟩
  rw [h] at hw
  obtain ⟨i, -, hi⟩ := List.mem_filterMap.mp hw
  exact List.mem_of_getElem? hi
theorem i_Variants : ∀ w ∈ u_ws R_Variants F_Variants 7, w ∈ ALLW := by
  have h : u_ws R_Variants F_Variants 7 = [178, 180, 182, 184, 186, 188, 190].filterMap (fun i => tables_1[i]?) := by decide +kernel
  intro w hw
  refine List.mem_filter.mpr ⟨List.mem_append_right _ ?_, List.all_eq_true.mp (show (u_ws R_Variants F_Variants 7).all goodWord = true by decide +kernel) w hw⟩
  rw [h] at hw
  obtain ⟨i, -, hi⟩ := List.mem_filterMap.mp hw
  exact List.mem_of_getElem? hi
theorem i_Mo : ∀ w ∈ u_ws R_Mo F_Mo 19, w ∈ ALLW := by
  have h : u_ws R_Mo F_Mo 19 = [899, 901, 903, 905, 907, 909, 911, 913, 915, 917, 919, 921, 923, 925, 927, 929, 931, 933, 935].filterMap (fun i => tables_1[i]?) := by decide +kernel
  intro w hw
  refine List.mem_filter.mpr ⟨List.mem_append_right _ ?_, List.all_eq_true.mp (show (u_ws R_Mo F_Mo 19).all goodWord = true by decide +kernel) w hw⟩
  rw [h] at hw
  obtain ⟨i, -, hi⟩ := List.mem_filterMap.mp hw
  exact List.mem_of_getElem? hi
def NWL : List Cond := [(Jvm.Cond.methodLinkNest "SheetTrees" (11 : Nat) ({ cls := "SheetTrees$Journal", name := "<init>", desc := "()V" } : Jvm.MethodName) "SheetTrees"), (Jvm.Cond.methodLinkNest "SheetTrees$Book" (72 : Nat) ({ cls := "SheetTrees", name := "write", desc := "([III)V" } : Jvm.MethodName) "SheetTrees"), (Jvm.Cond.methodLinkNest "SheetTrees$Book" (79 : Nat) ({ cls := "SheetTrees", name := "read", desc := "([II)I" } : Jvm.MethodName) "SheetTrees"), (Jvm.Cond.fieldLinkNest "SheetTrees$Journal" (44 : Nat) "SheetTrees$Change" "before" "LSheetTrees$Change;" "SheetTrees"), (Jvm.Cond.methodLinkNest "SheetTrees$Sheets" (106 : Nat) ({ cls := "SheetTrees", name := "holdsName", desc := "(II)Z" } : Jvm.MethodName) "SheetTrees"), (Jvm.Cond.methodLinkNest "SheetTrees$Parts" (69 : Nat) ({ cls := "SheetTrees", name := "read", desc := "([II)I" } : Jvm.MethodName) "SheetTrees"), (Jvm.Cond.methodLinkNest "SheetTrees$Parts" (73 : Nat) ({ cls := "SheetTrees", name := "write", desc := "([III)V" } : Jvm.MethodName) "SheetTrees")]
theorem nw_0 : (Jvm.Cond.methodLinkNest "SheetTrees" (11 : Nat) ({ cls := "SheetTrees$Journal", name := "<init>", desc := "()V" } : Jvm.MethodName) "SheetTrees") ∈ NWL := List.mem_of_getElem? (i := 0) rfl
theorem nw_1 : (Jvm.Cond.methodLinkNest "SheetTrees$Book" (72 : Nat) ({ cls := "SheetTrees", name := "write", desc := "([III)V" } : Jvm.MethodName) "SheetTrees") ∈ NWL := List.mem_of_getElem? (i := 1) rfl
theorem nw_2 : (Jvm.Cond.methodLinkNest "SheetTrees$Book" (79 : Nat) ({ cls := "SheetTrees", name := "read", desc := "([II)I" } : Jvm.MethodName) "SheetTrees") ∈ NWL := List.mem_of_getElem? (i := 2) rfl
theorem nw_3 : (Jvm.Cond.fieldLinkNest "SheetTrees$Journal" (44 : Nat) "SheetTrees$Change" "before" "LSheetTrees$Change;" "SheetTrees") ∈ NWL := List.mem_of_getElem? (i := 3) rfl
theorem nw_4 : (Jvm.Cond.methodLinkNest "SheetTrees$Sheets" (106 : Nat) ({ cls := "SheetTrees", name := "holdsName", desc := "(II)Z" } : Jvm.MethodName) "SheetTrees") ∈ NWL := List.mem_of_getElem? (i := 4) rfl
theorem nw_5 : (Jvm.Cond.methodLinkNest "SheetTrees$Parts" (69 : Nat) ({ cls := "SheetTrees", name := "read", desc := "([II)I" } : Jvm.MethodName) "SheetTrees") ∈ NWL := List.mem_of_getElem? (i := 5) rfl
theorem nw_6 : (Jvm.Cond.methodLinkNest "SheetTrees$Parts" (73 : Nat) ({ cls := "SheetTrees", name := "write", desc := "([III)V" } : Jvm.MethodName) "SheetTrees") ∈ NWL := List.mem_of_getElem? (i := 6) rfl
abbrev b_ST_init : ByteArray := prog_1_method_1_code
def y_ST_init : MethodName := ⟨"SheetTrees", "<init>", "()V"⟩
abbrev b_ST_sheet : ByteArray := prog_1_method_2_code
def y_ST_sheet : MethodName := ⟨"SheetTrees", "sheet", "()I"⟩
abbrev b_ST_place : ByteArray := prog_1_method_3_code
def y_ST_place : MethodName := ⟨"SheetTrees", "place", "(II)I"⟩
abbrev b_ST_remove : ByteArray := prog_1_method_4_code
def y_ST_remove : MethodName := ⟨"SheetTrees", "remove", "(I)Z"⟩
abbrev b_ST_move : ByteArray := prog_1_method_5_code
def y_ST_move : MethodName := ⟨"SheetTrees", "move", "(II)Z"⟩
abbrev b_ST_told : ByteArray := prog_1_method_6_code
def y_ST_told : MethodName := ⟨"SheetTrees", "told", "(I)I"⟩
abbrev b_ST_port : ByteArray := prog_1_method_7_code
def y_ST_port : MethodName := ⟨"SheetTrees", "port", "(II)Z"⟩
abbrev b_ST_join : ByteArray := prog_1_method_8_code
def y_ST_join : MethodName := ⟨"SheetTrees", "join", "(III)Z"⟩
abbrev b_ST_joined : ByteArray := prog_1_method_9_code
def y_ST_joined : MethodName := ⟨"SheetTrees", "joined", "(II)I"⟩
abbrev b_ST_part : ByteArray := prog_1_method_10_code
def y_ST_part : MethodName := ⟨"SheetTrees", "part", "(II)I"⟩
abbrev b_ST_gate : ByteArray := prog_1_method_11_code
def y_ST_gate : MethodName := ⟨"SheetTrees", "gate", "(III)Z"⟩
abbrev b_ST_copy : ByteArray := prog_1_method_12_code
def y_ST_copy : MethodName := ⟨"SheetTrees", "copy", "(I)I"⟩
abbrev b_ST_rule : ByteArray := prog_1_method_13_code
def y_ST_rule : MethodName := ⟨"SheetTrees", "rule", "(I)Z"⟩
abbrev b_ST_variant : ByteArray := prog_1_method_14_code
def y_ST_variant : MethodName := ⟨"SheetTrees", "variant", "(I)I"⟩
abbrev b_ST_value : ByteArray := prog_1_method_15_code
def y_ST_value : MethodName := ⟨"SheetTrees", "value", "(IIIJ)Z"⟩
abbrev b_ST_fit : ByteArray := prog_1_method_16_code
def y_ST_fit : MethodName := ⟨"SheetTrees", "fit", "(IIIZ)Z"⟩
abbrev b_ST_valueOf : ByteArray := prog_1_method_17_code
def y_ST_valueOf : MethodName := ⟨"SheetTrees", "valueOf", "(III)J"⟩
abbrev b_ST_fitted : ByteArray := prog_1_method_18_code
def y_ST_fitted : MethodName := ⟨"SheetTrees", "fitted", "(III)Z"⟩
abbrev b_ST_undo : ByteArray := prog_1_method_19_code
def y_ST_undo : MethodName := ⟨"SheetTrees", "undo", "()Z"⟩
abbrev b_ST_pages : ByteArray := prog_1_method_20_code
def y_ST_pages : MethodName := ⟨"SheetTrees", "pages", "()I"⟩
abbrev b_ST_page : ByteArray := prog_1_method_21_code
def y_ST_page : MethodName := ⟨"SheetTrees", "page", "(II)I"⟩
abbrev b_ST_units : ByteArray := prog_1_method_22_code
def y_ST_units : MethodName := ⟨"SheetTrees", "units", "(I)I"⟩
abbrev b_ST_where : ByteArray := prog_1_method_23_code
def y_ST_where : MethodName := ⟨"SheetTrees", "where", "(III)I"⟩
abbrev b_ST_name : ByteArray := prog_1_method_24_code
def y_ST_name : MethodName := ⟨"SheetTrees", "name", "(II)I"⟩
abbrev b_ST_settle : ByteArray := prog_1_method_25_code
def y_ST_settle : MethodName := ⟨"SheetTrees", "settle", "()Z"⟩
abbrev b_ST_tell : ByteArray := prog_1_method_26_code
def y_ST_tell : MethodName := ⟨"SheetTrees", "tell", "(IIIIJ)Z"⟩
abbrev b_ST_heard : ByteArray := prog_1_method_27_code
def y_ST_heard : MethodName := ⟨"SheetTrees", "heard", "(IIIIJ)J"⟩
abbrev b_ST_needSheet : ByteArray := prog_1_method_28_code
def y_ST_needSheet : MethodName := ⟨"SheetTrees", "needSheet", "(I)V"⟩
abbrev b_ST_needPlacement : ByteArray := prog_1_method_29_code
def y_ST_needPlacement : MethodName := ⟨"SheetTrees", "needPlacement", "(I)V"⟩
abbrev b_ST_needName : ByteArray := prog_1_method_30_code
def y_ST_needName : MethodName := ⟨"SheetTrees", "needName", "(I)V"⟩
abbrev b_ST_needPart : ByteArray := prog_1_method_31_code
def y_ST_needPart : MethodName := ⟨"SheetTrees", "needPart", "(I)V"⟩
abbrev b_ST_needGate : ByteArray := prog_1_method_32_code
def y_ST_needGate : MethodName := ⟨"SheetTrees", "needGate", "(II)V"⟩
abbrev b_ST_needUnit : ByteArray := prog_1_method_33_code
def y_ST_needUnit : MethodName := ⟨"SheetTrees", "needUnit", "(II)V"⟩
abbrev b_ST_needVariant : ByteArray := prog_1_method_34_code
def y_ST_needVariant : MethodName := ⟨"SheetTrees", "needVariant", "(I)V"⟩
abbrev b_ST_needVariantOrNone : ByteArray := prog_1_method_35_code
def y_ST_needVariantOrNone : MethodName := ⟨"SheetTrees", "needVariantOrNone", "(I)V"⟩
abbrev b_ST_needPage : ByteArray := prog_1_method_36_code
def y_ST_needPage : MethodName := ⟨"SheetTrees", "needPage", "(I)V"⟩
abbrev b_ST_holdsName : ByteArray := prog_1_method_37_code
def y_ST_holdsName : MethodName := ⟨"SheetTrees", "holdsName", "(II)Z"⟩
abbrev b_ST_read : ByteArray := prog_1_method_38_code
def y_ST_read : MethodName := ⟨"SheetTrees", "read", "([II)I"⟩
abbrev b_ST_write : ByteArray := prog_1_method_39_code
def y_ST_write : MethodName := ⟨"SheetTrees", "write", "([III)V"⟩
abbrev b_Book_init : ByteArray := prog_2_method_1_code
def y_Book_init : MethodName := ⟨"SheetTrees$Book", "<init>", "(LSheetTrees$Sheets;)V"⟩
abbrev b_Book_lay : ByteArray := prog_2_method_2_code
def y_Book_lay : MethodName := ⟨"SheetTrees$Book", "lay", "()V"⟩
abbrev b_Book_addPage : ByteArray := prog_2_method_3_code
def y_Book_addPage : MethodName := ⟨"SheetTrees$Book", "addPage", "(IIII)I"⟩
abbrev b_Book_isWithinLimit : ByteArray := prog_2_method_4_code
def y_Book_isWithinLimit : MethodName := ⟨"SheetTrees$Book", "isWithinLimit", "()Z"⟩
abbrev b_Book_count : ByteArray := prog_2_method_5_code
def y_Book_count : MethodName := ⟨"SheetTrees$Book", "count", "()I"⟩
abbrev b_Book_sheetAt : ByteArray := prog_2_method_6_code
def y_Book_sheetAt : MethodName := ⟨"SheetTrees$Book", "sheetAt", "(I)I"⟩
abbrev b_Book_placementAt : ByteArray := prog_2_method_7_code
def y_Book_placementAt : MethodName := ⟨"SheetTrees$Book", "placementAt", "(I)I"⟩
abbrev b_Book_pageAbove : ByteArray := prog_2_method_8_code
def y_Book_pageAbove : MethodName := ⟨"SheetTrees$Book", "pageAbove", "(I)I"⟩
abbrev b_Book_depthAt : ByteArray := prog_2_method_9_code
def y_Book_depthAt : MethodName := ⟨"SheetTrees$Book", "depthAt", "(I)I"⟩
abbrev b_Book_comingAt : ByteArray := prog_2_method_10_code
def y_Book_comingAt : MethodName := ⟨"SheetTrees$Book", "comingAt", "(I)I"⟩
abbrev b_Book_comingsOf : ByteArray := prog_2_method_11_code
def y_Book_comingsOf : MethodName := ⟨"SheetTrees$Book", "comingsOf", "(I)I"⟩
abbrev b_Book_pageOfComing : ByteArray := prog_2_method_12_code
def y_Book_pageOfComing : MethodName := ⟨"SheetTrees$Book", "pageOfComing", "(II)I"⟩
abbrev b_Change_init : ByteArray := prog_3_method_1_code
def y_Change_init : MethodName := ⟨"SheetTrees$Change", "<init>", "(LSheetTrees$Row;IJLSheetTrees$Change;)V"⟩
abbrev b_Change_takeBack : ByteArray := prog_3_method_2_code
def y_Change_takeBack : MethodName := ⟨"SheetTrees$Change", "takeBack", "()V"⟩
abbrev b_Journal_init : ByteArray := prog_4_method_1_code
def y_Journal_init : MethodName := ⟨"SheetTrees$Journal", "<init>", "()V"⟩
abbrev b_Journal_note : ByteArray := prog_4_method_2_code
def y_Journal_note : MethodName := ⟨"SheetTrees$Journal", "note", "(LSheetTrees$Row;IJ)V"⟩
abbrev b_Journal_keep : ByteArray := prog_4_method_3_code
def y_Journal_keep : MethodName := ⟨"SheetTrees$Journal", "keep", "()V"⟩
abbrev b_Journal_takeBack : ByteArray := prog_4_method_4_code
def y_Journal_takeBack : MethodName := ⟨"SheetTrees$Journal", "takeBack", "()V"⟩
abbrev b_Journal_stepBack : ByteArray := prog_4_method_5_code
def y_Journal_stepBack : MethodName := ⟨"SheetTrees$Journal", "stepBack", "()Z"⟩
abbrev b_Journal_getAct : ByteArray := prog_4_method_6_code
def y_Journal_getAct : MethodName := ⟨"SheetTrees$Journal", "getAct", "(I)LSheetTrees$Change;"⟩
abbrev b_Journal_putAct : ByteArray := prog_4_method_7_code
def y_Journal_putAct : MethodName := ⟨"SheetTrees$Journal", "putAct", "(ILSheetTrees$Change;)V"⟩
abbrev b_Parts_init : ByteArray := prog_5_method_1_code
def y_Parts_init : MethodName := ⟨"SheetTrees$Parts", "<init>", "(LSheetTrees$Journal;LSheetTrees$Book;)V"⟩
abbrev b_Parts_isPart : ByteArray := prog_5_method_2_code
def y_Parts_isPart : MethodName := ⟨"SheetTrees$Parts", "isPart", "(I)Z"⟩
abbrev b_Parts_partsLeft : ByteArray := prog_5_method_3_code
def y_Parts_partsLeft : MethodName := ⟨"SheetTrees$Parts", "partsLeft", "()I"⟩
abbrev b_Parts_letterOf : ByteArray := prog_5_method_4_code
def y_Parts_letterOf : MethodName := ⟨"SheetTrees$Parts", "letterOf", "(I)I"⟩
abbrev b_Parts_gateCount : ByteArray := prog_5_method_5_code
def y_Parts_gateCount : MethodName := ⟨"SheetTrees$Parts", "gateCount", "(I)I"⟩
abbrev b_Parts_sheetOfGate : ByteArray := prog_5_method_6_code
def y_Parts_sheetOfGate : MethodName := ⟨"SheetTrees$Parts", "sheetOfGate", "(II)I"⟩
abbrev b_Parts_gatesOn : ByteArray := prog_5_method_7_code
def y_Parts_gatesOn : MethodName := ⟨"SheetTrees$Parts", "gatesOn", "(I)I"⟩
abbrev b_Parts_gateAt : ByteArray := prog_5_method_8_code
def y_Parts_gateAt : MethodName := ⟨"SheetTrees$Parts", "gateAt", "(II)I"⟩
abbrev b_Parts_partAt : ByteArray := prog_5_method_9_code
def y_Parts_partAt : MethodName := ⟨"SheetTrees$Parts", "partAt", "(II)I"⟩
abbrev b_Parts_addPart : ByteArray := prog_5_method_10_code
def y_Parts_addPart : MethodName := ⟨"SheetTrees$Parts", "addPart", "(II)I"⟩
abbrev b_Parts_layGate : ByteArray := prog_5_method_11_code
def y_Parts_layGate : MethodName := ⟨"SheetTrees$Parts", "layGate", "(III)V"⟩
abbrev b_Parts_partsOn : ByteArray := prog_5_method_12_code
def y_Parts_partsOn : MethodName := ⟨"SheetTrees$Parts", "partsOn", "(I)I"⟩
abbrev b_Parts_addPartsLike : ByteArray := prog_5_method_13_code
def y_Parts_addPartsLike : MethodName := ⟨"SheetTrees$Parts", "addPartsLike", "(II)V"⟩
abbrev b_Parts_unitCount : ByteArray := prog_5_method_14_code
def y_Parts_unitCount : MethodName := ⟨"SheetTrees$Parts", "unitCount", "(I)I"⟩
abbrev b_Parts_numberOf : ByteArray := prog_5_method_15_code
def y_Parts_numberOf : MethodName := ⟨"SheetTrees$Parts", "numberOf", "(IIZ)I"⟩
abbrev b_Parts_newUnitsAt : ByteArray := prog_5_method_16_code
def y_Parts_newUnitsAt : MethodName := ⟨"SheetTrees$Parts", "newUnitsAt", "(III)I"⟩
abbrev b_Row_init : ByteArray := prog_6_method_1_code
def y_Row_init : MethodName := ⟨"SheetTrees$Row", "<init>", "(LSheetTrees$Journal;IJ)V"⟩
abbrev b_Row_longAt : ByteArray := prog_6_method_2_code
def y_Row_longAt : MethodName := ⟨"SheetTrees$Row", "longAt", "(I)J"⟩
abbrev b_Row_at : ByteArray := prog_6_method_3_code
def y_Row_at : MethodName := ⟨"SheetTrees$Row", "at", "(I)I"⟩
abbrev b_Row_set : ByteArray := prog_6_method_4_code
def y_Row_set : MethodName := ⟨"SheetTrees$Row", "set", "(IJ)V"⟩
abbrev b_Row_restore : ByteArray := prog_6_method_5_code
def y_Row_restore : MethodName := ⟨"SheetTrees$Row", "restore", "(IJ)V"⟩
abbrev b_Sheets_init : ByteArray := prog_7_method_1_code
def y_Sheets_init : MethodName := ⟨"SheetTrees$Sheets", "<init>", "(LSheetTrees$Journal;)V"⟩
abbrev b_Sheets_sheetCount : ByteArray := prog_7_method_2_code
def y_Sheets_sheetCount : MethodName := ⟨"SheetTrees$Sheets", "sheetCount", "()I"⟩
abbrev b_Sheets_placementsLeft : ByteArray := prog_7_method_3_code
def y_Sheets_placementsLeft : MethodName := ⟨"SheetTrees$Sheets", "placementsLeft", "()I"⟩
abbrev b_Sheets_isSheet : ByteArray := prog_7_method_4_code
def y_Sheets_isSheet : MethodName := ⟨"SheetTrees$Sheets", "isSheet", "(I)Z"⟩
abbrev b_Sheets_isPlacement : ByteArray := prog_7_method_5_code
def y_Sheets_isPlacement : MethodName := ⟨"SheetTrees$Sheets", "isPlacement", "(I)Z"⟩
abbrev b_Sheets_sheetOf : ByteArray := prog_7_method_6_code
def y_Sheets_sheetOf : MethodName := ⟨"SheetTrees$Sheets", "sheetOf", "(I)I"⟩
abbrev b_Sheets_parentOf : ByteArray := prog_7_method_7_code
def y_Sheets_parentOf : MethodName := ⟨"SheetTrees$Sheets", "parentOf", "(I)I"⟩
abbrev b_Sheets_firstOn : ByteArray := prog_7_method_8_code
def y_Sheets_firstOn : MethodName := ⟨"SheetTrees$Sheets", "firstOn", "(I)I"⟩
abbrev b_Sheets_nextOf : ByteArray := prog_7_method_9_code
def y_Sheets_nextOf : MethodName := ⟨"SheetTrees$Sheets", "nextOf", "(I)I"⟩
abbrev b_Sheets_placementsOn : ByteArray := prog_7_method_10_code
def y_Sheets_placementsOn : MethodName := ⟨"SheetTrees$Sheets", "placementsOn", "(I)I"⟩
abbrev b_Sheets_holds : ByteArray := prog_7_method_11_code
def y_Sheets_holds : MethodName := ⟨"SheetTrees$Sheets", "holds", "(II)Z"⟩
abbrev b_Sheets_withPlacedOn : ByteArray := prog_7_method_12_code
def y_Sheets_withPlacedOn : MethodName := ⟨"SheetTrees$Sheets", "withPlacedOn", "(I)I"⟩
abbrev b_Sheets_addSheet : ByteArray := prog_7_method_13_code
def y_Sheets_addSheet : MethodName := ⟨"SheetTrees$Sheets", "addSheet", "()I"⟩
abbrev b_Sheets_addSheetLike : ByteArray := prog_7_method_14_code
def y_Sheets_addSheetLike : MethodName := ⟨"SheetTrees$Sheets", "addSheetLike", "(I)I"⟩
abbrev b_Sheets_copyJoints : ByteArray := prog_7_method_15_code
def y_Sheets_copyJoints : MethodName := ⟨"SheetTrees$Sheets", "copyJoints", "(II)V"⟩
abbrev b_Sheets_addPlacement : ByteArray := prog_7_method_16_code
def y_Sheets_addPlacement : MethodName := ⟨"SheetTrees$Sheets", "addPlacement", "(II)I"⟩
abbrev b_Sheets_takeAway : ByteArray := prog_7_method_17_code
def y_Sheets_takeAway : MethodName := ⟨"SheetTrees$Sheets", "takeAway", "(I)V"⟩
abbrev b_Sheets_bringTo : ByteArray := prog_7_method_18_code
def y_Sheets_bringTo : MethodName := ⟨"SheetTrees$Sheets", "bringTo", "(II)I"⟩
abbrev b_Sheets_append : ByteArray := prog_7_method_19_code
def y_Sheets_append : MethodName := ⟨"SheetTrees$Sheets", "append", "(II)V"⟩
abbrev b_Sheets_unlink : ByteArray := prog_7_method_20_code
def y_Sheets_unlink : MethodName := ⟨"SheetTrees$Sheets", "unlink", "(I)V"⟩
abbrev b_Sheets_cellBefore : ByteArray := prog_7_method_21_code
def y_Sheets_cellBefore : MethodName := ⟨"SheetTrees$Sheets", "cellBefore", "(II)I"⟩
abbrev b_Sheets_headOf : ByteArray := prog_7_method_22_code
def y_Sheets_headOf : MethodName := ⟨"SheetTrees$Sheets", "headOf", "(I)I"⟩
abbrev b_Sheets_tells : ByteArray := prog_7_method_23_code
def y_Sheets_tells : MethodName := ⟨"SheetTrees$Sheets", "tells", "(II)Z"⟩
abbrev b_Sheets_addName : ByteArray := prog_7_method_24_code
def y_Sheets_addName : MethodName := ⟨"SheetTrees$Sheets", "addName", "(II)V"⟩
abbrev b_Sheets_jointOf : ByteArray := prog_7_method_25_code
def y_Sheets_jointOf : MethodName := ⟨"SheetTrees$Sheets", "jointOf", "(II)I"⟩
abbrev b_Sheets_setJoint : ByteArray := prog_7_method_26_code
def y_Sheets_setJoint : MethodName := ⟨"SheetTrees$Sheets", "setJoint", "(III)V"⟩
abbrev b_Variants_init : ByteArray := prog_8_method_1_code
def y_Variants_init : MethodName := ⟨"SheetTrees$Variants", "<init>", "(LSheetTrees$Journal;LSheetTrees$Book;)V"⟩
abbrev b_Variants_count : ByteArray := prog_8_method_2_code
def y_Variants_count : MethodName := ⟨"SheetTrees$Variants", "count", "()I"⟩
abbrev b_Variants_isVariant : ByteArray := prog_8_method_3_code
def y_Variants_isVariant : MethodName := ⟨"SheetTrees$Variants", "isVariant", "(I)Z"⟩
abbrev b_Variants_addVariant : ByteArray := prog_8_method_4_code
def y_Variants_addVariant : MethodName := ⟨"SheetTrees$Variants", "addVariant", "(I)I"⟩
abbrev b_Variants_content : ByteArray := prog_8_method_5_code
def y_Variants_content : MethodName := ⟨"SheetTrees$Variants", "content", "(I)J"⟩
abbrev b_Variants_tell : ByteArray := prog_8_method_6_code
def y_Variants_tell : MethodName := ⟨"SheetTrees$Variants", "tell", "(IIIIJ)Z"⟩
abbrev b_Variants_nearest : ByteArray := prog_8_method_7_code
def y_Variants_nearest : MethodName := ⟨"SheetTrees$Variants", "nearest", "(IIII)I"⟩
abbrev b_Variants_find : ByteArray := prog_8_method_8_code
def y_Variants_find : MethodName := ⟨"SheetTrees$Variants", "find", "(II)I"⟩
abbrev b_Variants_isAt : ByteArray := prog_8_method_9_code
def y_Variants_isAt : MethodName := ⟨"SheetTrees$Variants", "isAt", "(II)Z"⟩
abbrev b_Variants_addTelling : ByteArray := prog_8_method_10_code
def y_Variants_addTelling : MethodName := ⟨"SheetTrees$Variants", "addTelling", "(II)I"⟩
abbrev b_Variants_subjectOf : ByteArray := prog_8_method_11_code
def y_Variants_subjectOf : MethodName := ⟨"SheetTrees$Variants", "subjectOf", "(III)I"⟩
abbrev b_Arrays_fillI : ByteArray := prog_18_method_103_code
def y_Arrays_fillI : MethodName := ⟨"java/util/Arrays", "fill", "([II)V"⟩
abbrev b_Arrays_fillL : ByteArray := prog_18_method_101_code
def y_Arrays_fillL : MethodName := ⟨"java/util/Arrays", "fill", "([JJ)V"⟩
abbrev b_Mo_init : ByteArray := prog_10_method_1_code
def y_Mo_init : MethodName := ⟨"SheetTreesModel", "<init>", "()V"⟩
abbrev b_Mo_thrown : ByteArray := prog_10_method_2_code
def y_Mo_thrown : MethodName := ⟨"SheetTreesModel", "thrown", "()I"⟩
abbrev b_Mo_count : ByteArray := prog_10_method_3_code
def y_Mo_count : MethodName := ⟨"SheetTreesModel", "count", "(I)I"⟩
abbrev b_Mo_begin : ByteArray := prog_10_method_4_code
def y_Mo_begin : MethodName := ⟨"SheetTreesModel", "begin", "()V"⟩
abbrev b_Mo_giveBack : ByteArray := prog_10_method_5_code
def y_Mo_giveBack : MethodName := ⟨"SheetTreesModel", "giveBack", "()V"⟩
abbrev b_Mo_done : ByteArray := prog_10_method_6_code
def y_Mo_done : MethodName := ⟨"SheetTreesModel", "done", "()V"⟩
abbrev b_Mo_undo : ByteArray := prog_10_method_7_code
def y_Mo_undo : MethodName := ⟨"SheetTreesModel", "undo", "()Z"⟩
abbrev b_Mo_isSheet : ByteArray := prog_10_method_8_code
def y_Mo_isSheet : MethodName := ⟨"SheetTreesModel", "isSheet", "(I)Z"⟩
abbrev b_Mo_isPlacement : ByteArray := prog_10_method_9_code
def y_Mo_isPlacement : MethodName := ⟨"SheetTreesModel", "isPlacement", "(I)Z"⟩
abbrev b_Mo_isName : ByteArray := prog_10_method_10_code
def y_Mo_isName : MethodName := ⟨"SheetTreesModel", "isName", "(I)Z"⟩
abbrev b_Mo_isPart : ByteArray := prog_10_method_11_code
def y_Mo_isPart : MethodName := ⟨"SheetTreesModel", "isPart", "(I)Z"⟩
abbrev b_Mo_isGate : ByteArray := prog_10_method_12_code
def y_Mo_isGate : MethodName := ⟨"SheetTreesModel", "isGate", "(II)Z"⟩
abbrev b_Mo_isVariant : ByteArray := prog_10_method_13_code
def y_Mo_isVariant : MethodName := ⟨"SheetTreesModel", "isVariant", "(I)Z"⟩
abbrev b_Mo_hasName : ByteArray := prog_10_method_14_code
def y_Mo_hasName : MethodName := ⟨"SheetTreesModel", "hasName", "(JI)Z"⟩
abbrev b_Mo_next : ByteArray := prog_10_method_15_code
def y_Mo_next : MethodName := ⟨"SheetTreesModel", "next", "(IJ)I"⟩
abbrev b_Mo_addPage : ByteArray := prog_10_method_16_code
def y_Mo_addPage : MethodName := ⟨"SheetTreesModel", "addPage", "(IIII)V"⟩
abbrev b_Mo_turn : ByteArray := prog_10_method_17_code
def y_Mo_turn : MethodName := ⟨"SheetTreesModel", "turn", "()V"⟩
abbrev b_Mo_look : ByteArray := prog_10_method_18_code
def y_Mo_look : MethodName := ⟨"SheetTreesModel", "look", "()V"⟩
abbrev b_Mo_isPage : ByteArray := prog_10_method_19_code
def y_Mo_isPage : MethodName := ⟨"SheetTreesModel", "isPage", "(I)Z"⟩
abbrev b_Mo_liesIn : ByteArray := prog_10_method_20_code
def y_Mo_liesIn : MethodName := ⟨"SheetTreesModel", "liesIn", "(II)Z"⟩
abbrev b_Mo_hasRoom : ByteArray := prog_10_method_21_code
def y_Mo_hasRoom : MethodName := ⟨"SheetTreesModel", "hasRoom", "()Z"⟩
abbrev b_Mo_sheet : ByteArray := prog_10_method_22_code
def y_Mo_sheet : MethodName := ⟨"SheetTreesModel", "sheet", "()I"⟩
abbrev b_Mo_addPlacement : ByteArray := prog_10_method_23_code
def y_Mo_addPlacement : MethodName := ⟨"SheetTreesModel", "addPlacement", "(II)I"⟩
abbrev b_Mo_place : ByteArray := prog_10_method_24_code
def y_Mo_place : MethodName := ⟨"SheetTreesModel", "place", "(II)I"⟩
abbrev b_Mo_remove : ByteArray := prog_10_method_25_code
def y_Mo_remove : MethodName := ⟨"SheetTreesModel", "remove", "(I)Z"⟩
abbrev b_Mo_move : ByteArray := prog_10_method_26_code
def y_Mo_move : MethodName := ⟨"SheetTreesModel", "move", "(II)Z"⟩
abbrev b_Mo_told : ByteArray := prog_10_method_27_code
def y_Mo_told : MethodName := ⟨"SheetTreesModel", "told", "(I)I"⟩
abbrev b_Mo_port : ByteArray := prog_10_method_28_code
def y_Mo_port : MethodName := ⟨"SheetTreesModel", "port", "(II)Z"⟩
abbrev b_Mo_join : ByteArray := prog_10_method_29_code
def y_Mo_join : MethodName := ⟨"SheetTreesModel", "join", "(III)Z"⟩
abbrev b_Mo_joined : ByteArray := prog_10_method_30_code
def y_Mo_joined : MethodName := ⟨"SheetTreesModel", "joined", "(II)I"⟩
abbrev b_Mo_addPart : ByteArray := prog_10_method_31_code
def y_Mo_addPart : MethodName := ⟨"SheetTreesModel", "addPart", "(JJ)I"⟩
abbrev b_Mo_part : ByteArray := prog_10_method_32_code
def y_Mo_part : MethodName := ⟨"SheetTreesModel", "part", "(II)I"⟩
abbrev b_Mo_gatesOn : ByteArray := prog_10_method_33_code
def y_Mo_gatesOn : MethodName := ⟨"SheetTreesModel", "gatesOn", "(I)I"⟩
abbrev b_Mo_putGate : ByteArray := prog_10_method_34_code
def y_Mo_putGate : MethodName := ⟨"SheetTreesModel", "putGate", "(II)V"⟩
abbrev b_Mo_gate : ByteArray := prog_10_method_35_code
def y_Mo_gate : MethodName := ⟨"SheetTreesModel", "gate", "(III)Z"⟩
abbrev b_Mo_nextGate : ByteArray := prog_10_method_36_code
def y_Mo_nextGate : MethodName := ⟨"SheetTreesModel", "nextGate", "(IJ)I"⟩
abbrev b_Mo_partsOn : ByteArray := prog_10_method_37_code
def y_Mo_partsOn : MethodName := ⟨"SheetTreesModel", "partsOn", "(I)I"⟩
abbrev b_Mo_placementsOn : ByteArray := prog_10_method_38_code
def y_Mo_placementsOn : MethodName := ⟨"SheetTreesModel", "placementsOn", "(I)I"⟩
abbrev b_Mo_copy : ByteArray := prog_10_method_39_code
def y_Mo_copy : MethodName := ⟨"SheetTreesModel", "copy", "(I)I"⟩
abbrev b_Mo_rule : ByteArray := prog_10_method_40_code
def y_Mo_rule : MethodName := ⟨"SheetTreesModel", "rule", "(I)Z"⟩
abbrev b_Mo_variant : ByteArray := prog_10_method_41_code
def y_Mo_variant : MethodName := ⟨"SheetTreesModel", "variant", "(I)I"⟩
abbrev b_Mo_pathOf : ByteArray := prog_10_method_42_code
def y_Mo_pathOf : MethodName := ⟨"SheetTreesModel", "pathOf", "(I)I"⟩
abbrev b_Mo_find : ByteArray := prog_10_method_43_code
def y_Mo_find : MethodName := ⟨"SheetTreesModel", "find", "(IIII)I"⟩
abbrev b_Mo_tell : ByteArray := prog_10_method_44_code
def y_Mo_tell : MethodName := ⟨"SheetTreesModel", "tell", "(IIIIJ)Z"⟩
abbrev b_Mo_value : ByteArray := prog_10_method_45_code
def y_Mo_value : MethodName := ⟨"SheetTreesModel", "value", "(IIIJ)Z"⟩
abbrev b_Mo_fit : ByteArray := prog_10_method_46_code
def y_Mo_fit : MethodName := ⟨"SheetTreesModel", "fit", "(IIIZ)Z"⟩
abbrev b_Mo_ask : ByteArray := prog_10_method_47_code
def y_Mo_ask : MethodName := ⟨"SheetTreesModel", "ask", "(IIII)J"⟩
abbrev b_Mo_valueOf : ByteArray := prog_10_method_48_code
def y_Mo_valueOf : MethodName := ⟨"SheetTreesModel", "valueOf", "(III)J"⟩
abbrev b_Mo_fitted : ByteArray := prog_10_method_49_code
def y_Mo_fitted : MethodName := ⟨"SheetTreesModel", "fitted", "(III)Z"⟩
abbrev b_Mo_pages : ByteArray := prog_10_method_50_code
def y_Mo_pages : MethodName := ⟨"SheetTreesModel", "pages", "()I"⟩
abbrev b_Mo_page : ByteArray := prog_10_method_51_code
def y_Mo_page : MethodName := ⟨"SheetTreesModel", "page", "(II)I"⟩
abbrev b_Mo_pageOf : ByteArray := prog_10_method_52_code
def y_Mo_pageOf : MethodName := ⟨"SheetTreesModel", "pageOf", "(JI)I"⟩
abbrev b_Mo_unitsOf : ByteArray := prog_10_method_53_code
def y_Mo_unitsOf : MethodName := ⟨"SheetTreesModel", "unitsOf", "(I)I"⟩
abbrev b_Mo_units : ByteArray := prog_10_method_54_code
def y_Mo_units : MethodName := ⟨"SheetTreesModel", "units", "(I)I"⟩
abbrev b_Mo_where : ByteArray := prog_10_method_55_code
def y_Mo_where : MethodName := ⟨"SheetTreesModel", "where", "(III)I"⟩
abbrev b_Mo_first : ByteArray := prog_10_method_56_code
def y_Mo_first : MethodName := ⟨"SheetTreesModel", "first", "(II)V"⟩
abbrev b_Mo_name : ByteArray := prog_10_method_57_code
def y_Mo_name : MethodName := ⟨"SheetTreesModel", "name", "(II)I"⟩
abbrev b_Law_place : ByteArray := method_3_code
def y_Law_place : MethodName := ⟨"SheetTreesLaw", "place", "(LSheetTrees;II[J)I"⟩
abbrev b_Law_remove : ByteArray := method_4_code
def y_Law_remove : MethodName := ⟨"SheetTreesLaw", "remove", "(LSheetTrees;I[J)I"⟩
abbrev b_Law_move : ByteArray := method_5_code
def y_Law_move : MethodName := ⟨"SheetTreesLaw", "move", "(LSheetTrees;II[J)I"⟩
abbrev b_Law_port : ByteArray := method_6_code
def y_Law_port : MethodName := ⟨"SheetTreesLaw", "port", "(LSheetTrees;II[J)I"⟩
abbrev b_Law_join : ByteArray := method_7_code
def y_Law_join : MethodName := ⟨"SheetTreesLaw", "join", "(LSheetTrees;III[J)I"⟩
abbrev b_Law_joined : ByteArray := method_8_code
def y_Law_joined : MethodName := ⟨"SheetTreesLaw", "joined", "(LSheetTrees;II[J)I"⟩
abbrev b_Law_part : ByteArray := method_9_code
def y_Law_part : MethodName := ⟨"SheetTreesLaw", "part", "(LSheetTrees;II[J)I"⟩
abbrev b_Law_gate : ByteArray := method_10_code
def y_Law_gate : MethodName := ⟨"SheetTreesLaw", "gate", "(LSheetTrees;III[J)I"⟩
abbrev b_Law_copy : ByteArray := method_11_code
def y_Law_copy : MethodName := ⟨"SheetTreesLaw", "copy", "(LSheetTrees;I[J)I"⟩
abbrev b_Law_rule : ByteArray := method_12_code
def y_Law_rule : MethodName := ⟨"SheetTreesLaw", "rule", "(LSheetTrees;I[J)I"⟩
abbrev b_Law_variant : ByteArray := method_13_code
def y_Law_variant : MethodName := ⟨"SheetTreesLaw", "variant", "(LSheetTrees;I[J)I"⟩
abbrev b_Law_value : ByteArray := method_14_code
def y_Law_value : MethodName := ⟨"SheetTreesLaw", "value", "(LSheetTrees;IIIJ[J)I"⟩
abbrev b_Law_fit : ByteArray := method_15_code
def y_Law_fit : MethodName := ⟨"SheetTreesLaw", "fit", "(LSheetTrees;IIIZ[J)I"⟩
abbrev b_Law_valueOf : ByteArray := method_16_code
def y_Law_valueOf : MethodName := ⟨"SheetTreesLaw", "valueOf", "(LSheetTrees;III[J)I"⟩
abbrev b_Law_fitted : ByteArray := method_17_code
def y_Law_fitted : MethodName := ⟨"SheetTreesLaw", "fitted", "(LSheetTrees;III[J)I"⟩
abbrev b_Law_page : ByteArray := method_18_code
def y_Law_page : MethodName := ⟨"SheetTreesLaw", "page", "(LSheetTrees;II[J)I"⟩
abbrev b_Law_units : ByteArray := method_19_code
def y_Law_units : MethodName := ⟨"SheetTreesLaw", "units", "(LSheetTrees;I[J)I"⟩
abbrev b_Law_where : ByteArray := method_20_code
def y_Law_where : MethodName := ⟨"SheetTreesLaw", "where", "(LSheetTrees;III[J)I"⟩
abbrev b_Law_name : ByteArray := method_21_code
def y_Law_name : MethodName := ⟨"SheetTreesLaw", "name", "(LSheetTrees;II[J)I"⟩
end
section
theorem ks_0 : Cond.selects "SheetTrees$Book" ⟨"SheetTrees$Book", "addPage", "(IIII)I"⟩ ⟨"SheetTrees$Book", "addPage", "(IIII)I"⟩ ∈ ALLW := List.mem_filter.mpr ⟨List.mem_append_left _ (List.mem_of_getElem? (i := 0) (by decide +kernel)), rfl⟩
theorem ks_1 : Cond.selects "SheetTrees$Sheets" ⟨"SheetTrees$Sheets", "headOf", "(I)I"⟩ ⟨"SheetTrees$Sheets", "headOf", "(I)I"⟩ ∈ ALLW := List.mem_filter.mpr ⟨List.mem_append_left _ (List.mem_of_getElem? (i := 1) (by decide +kernel)), rfl⟩
theorem ks_2 : Cond.selects "SheetTrees$Journal" ⟨"SheetTrees$Journal", "putAct", "(ILSheetTrees$Change;)V"⟩ ⟨"SheetTrees$Journal", "putAct", "(ILSheetTrees$Change;)V"⟩ ∈ ALLW := List.mem_filter.mpr ⟨List.mem_append_left _ (List.mem_of_getElem? (i := 2) (by decide +kernel)), rfl⟩
theorem ks_3 : Cond.selects "SheetTrees$Journal" ⟨"SheetTrees$Journal", "getAct", "(I)LSheetTrees$Change;"⟩ ⟨"SheetTrees$Journal", "getAct", "(I)LSheetTrees$Change;"⟩ ∈ ALLW := List.mem_filter.mpr ⟨List.mem_append_left _ (List.mem_of_getElem? (i := 3) (by decide +kernel)), rfl⟩
theorem ks_4 : Cond.selects "SheetTrees" ⟨"SheetTrees", "needSheet", "(I)V"⟩ ⟨"SheetTrees", "needSheet", "(I)V"⟩ ∈ ALLW := List.mem_filter.mpr ⟨List.mem_append_left _ (List.mem_of_getElem? (i := 4) (by decide +kernel)), rfl⟩
theorem ks_5 : Cond.selects "java/lang/Throwable" ⟨"java/lang/Throwable", "fillInStackTrace", "(I)Ljava/lang/Throwable;"⟩ ⟨"java/lang/Throwable", "fillInStackTrace", "(I)Ljava/lang/Throwable;"⟩ ∈ ALLW := List.mem_filter.mpr ⟨List.mem_append_left _ (List.mem_of_getElem? (i := 5) (by decide +kernel)), rfl⟩
theorem ks_6 : Cond.selects "SheetTrees$Sheets" ⟨"SheetTrees$Sheets", "withPlacedOn", "(I)I"⟩ ⟨"SheetTrees$Sheets", "withPlacedOn", "(I)I"⟩ ∈ ALLW := List.mem_filter.mpr ⟨List.mem_append_left _ (List.mem_of_getElem? (i := 6) (by decide +kernel)), rfl⟩
theorem ks_7 : Cond.selects "SheetTrees$Sheets" ⟨"SheetTrees$Sheets", "append", "(II)V"⟩ ⟨"SheetTrees$Sheets", "append", "(II)V"⟩ ∈ ALLW := List.mem_filter.mpr ⟨List.mem_append_left _ (List.mem_of_getElem? (i := 7) (by decide +kernel)), rfl⟩
theorem ks_8 : Cond.selects "SheetTrees$Sheets" ⟨"SheetTrees$Sheets", "cellBefore", "(II)I"⟩ ⟨"SheetTrees$Sheets", "cellBefore", "(II)I"⟩ ∈ ALLW := List.mem_filter.mpr ⟨List.mem_append_left _ (List.mem_of_getElem? (i := 8) (by decide +kernel)), rfl⟩
theorem ks_9 : Cond.selects "SheetTrees" ⟨"SheetTrees", "settle", "()Z"⟩ ⟨"SheetTrees", "settle", "()Z"⟩ ∈ ALLW := List.mem_filter.mpr ⟨List.mem_append_left _ (List.mem_of_getElem? (i := 9) (by decide +kernel)), rfl⟩
theorem ks_10 : Cond.selects "SheetTrees" ⟨"SheetTrees", "needPlacement", "(I)V"⟩ ⟨"SheetTrees", "needPlacement", "(I)V"⟩ ∈ ALLW := List.mem_filter.mpr ⟨List.mem_append_left _ (List.mem_of_getElem? (i := 10) (by decide +kernel)), rfl⟩
theorem ks_11 : Cond.selects "SheetTrees$Sheets" ⟨"SheetTrees$Sheets", "unlink", "(I)V"⟩ ⟨"SheetTrees$Sheets", "unlink", "(I)V"⟩ ∈ ALLW := List.mem_filter.mpr ⟨List.mem_append_left _ (List.mem_of_getElem? (i := 11) (by decide +kernel)), rfl⟩
theorem ks_12 : Cond.selects "SheetTrees" ⟨"SheetTrees", "needName", "(I)V"⟩ ⟨"SheetTrees", "needName", "(I)V"⟩ ∈ ALLW := List.mem_filter.mpr ⟨List.mem_append_left _ (List.mem_of_getElem? (i := 12) (by decide +kernel)), rfl⟩
theorem ks_13 : Cond.selects "SheetTrees" ⟨"SheetTrees", "needPart", "(I)V"⟩ ⟨"SheetTrees", "needPart", "(I)V"⟩ ∈ ALLW := List.mem_filter.mpr ⟨List.mem_append_left _ (List.mem_of_getElem? (i := 13) (by decide +kernel)), rfl⟩
theorem ks_14 : Cond.selects "SheetTrees" ⟨"SheetTrees", "needGate", "(II)V"⟩ ⟨"SheetTrees", "needGate", "(II)V"⟩ ∈ ALLW := List.mem_filter.mpr ⟨List.mem_append_left _ (List.mem_of_getElem? (i := 14) (by decide +kernel)), rfl⟩
theorem ks_15 : Cond.selects "SheetTrees$Parts" ⟨"SheetTrees$Parts", "partAt", "(II)I"⟩ ⟨"SheetTrees$Parts", "partAt", "(II)I"⟩ ∈ ALLW := List.mem_filter.mpr ⟨List.mem_append_left _ (List.mem_of_getElem? (i := 15) (by decide +kernel)), rfl⟩
theorem ks_16 : Cond.selects "SheetTrees$Parts" ⟨"SheetTrees$Parts", "gateAt", "(II)I"⟩ ⟨"SheetTrees$Parts", "gateAt", "(II)I"⟩ ∈ ALLW := List.mem_filter.mpr ⟨List.mem_append_left _ (List.mem_of_getElem? (i := 16) (by decide +kernel)), rfl⟩
theorem ks_17 : Cond.selects "SheetTrees$Sheets" ⟨"SheetTrees$Sheets", "copyJoints", "(II)V"⟩ ⟨"SheetTrees$Sheets", "copyJoints", "(II)V"⟩ ∈ ALLW := List.mem_filter.mpr ⟨List.mem_append_left _ (List.mem_of_getElem? (i := 17) (by decide +kernel)), rfl⟩
theorem ks_18 : Cond.selects "SheetTrees" ⟨"SheetTrees", "needVariantOrNone", "(I)V"⟩ ⟨"SheetTrees", "needVariantOrNone", "(I)V"⟩ ∈ ALLW := List.mem_filter.mpr ⟨List.mem_append_left _ (List.mem_of_getElem? (i := 18) (by decide +kernel)), rfl⟩
theorem ks_19 : Cond.selects "SheetTrees" ⟨"SheetTrees", "needVariant", "(I)V"⟩ ⟨"SheetTrees", "needVariant", "(I)V"⟩ ∈ ALLW := List.mem_filter.mpr ⟨List.mem_append_left _ (List.mem_of_getElem? (i := 19) (by decide +kernel)), rfl⟩
theorem ks_20 : Cond.selects "SheetTrees" ⟨"SheetTrees", "tell", "(IIIIJ)Z"⟩ ⟨"SheetTrees", "tell", "(IIIIJ)Z"⟩ ∈ ALLW := List.mem_filter.mpr ⟨List.mem_append_left _ (List.mem_of_getElem? (i := 20) (by decide +kernel)), rfl⟩
theorem ks_21 : Cond.selects "SheetTrees" ⟨"SheetTrees", "needPage", "(I)V"⟩ ⟨"SheetTrees", "needPage", "(I)V"⟩ ∈ ALLW := List.mem_filter.mpr ⟨List.mem_append_left _ (List.mem_of_getElem? (i := 21) (by decide +kernel)), rfl⟩
theorem ks_22 : Cond.selects "SheetTrees$Variants" ⟨"SheetTrees$Variants", "find", "(II)I"⟩ ⟨"SheetTrees$Variants", "find", "(II)I"⟩ ∈ ALLW := List.mem_filter.mpr ⟨List.mem_append_left _ (List.mem_of_getElem? (i := 22) (by decide +kernel)), rfl⟩
theorem ks_23 : Cond.selects "SheetTrees$Variants" ⟨"SheetTrees$Variants", "isAt", "(II)Z"⟩ ⟨"SheetTrees$Variants", "isAt", "(II)Z"⟩ ∈ ALLW := List.mem_filter.mpr ⟨List.mem_append_left _ (List.mem_of_getElem? (i := 23) (by decide +kernel)), rfl⟩
theorem ks_24 : Cond.selects "SheetTrees$Variants" ⟨"SheetTrees$Variants", "addTelling", "(II)I"⟩ ⟨"SheetTrees$Variants", "addTelling", "(II)I"⟩ ∈ ALLW := List.mem_filter.mpr ⟨List.mem_append_left _ (List.mem_of_getElem? (i := 24) (by decide +kernel)), rfl⟩
theorem ks_25 : Cond.selects "SheetTrees" ⟨"SheetTrees", "heard", "(IIIIJ)J"⟩ ⟨"SheetTrees", "heard", "(IIIIJ)J"⟩ ∈ ALLW := List.mem_filter.mpr ⟨List.mem_append_left _ (List.mem_of_getElem? (i := 25) (by decide +kernel)), rfl⟩
theorem ks_26 : Cond.selects "SheetTrees" ⟨"SheetTrees", "needUnit", "(II)V"⟩ ⟨"SheetTrees", "needUnit", "(II)V"⟩ ∈ ALLW := List.mem_filter.mpr ⟨List.mem_append_left _ (List.mem_of_getElem? (i := 26) (by decide +kernel)), rfl⟩
theorem ks_27 : Cond.selects "SheetTrees$Parts" ⟨"SheetTrees$Parts", "newUnitsAt", "(III)I"⟩ ⟨"SheetTrees$Parts", "newUnitsAt", "(III)I"⟩ ∈ ALLW := List.mem_filter.mpr ⟨List.mem_append_left _ (List.mem_of_getElem? (i := 27) (by decide +kernel)), rfl⟩
theorem ks_28 : Cond.selects "SheetTreesModel" ⟨"SheetTreesModel", "count", "(I)I"⟩ ⟨"SheetTreesModel", "count", "(I)I"⟩ ∈ ALLW := List.mem_filter.mpr ⟨List.mem_append_left _ (List.mem_of_getElem? (i := 28) (by decide +kernel)), rfl⟩
theorem ks_29 : Cond.selects "SheetTreesModel" ⟨"SheetTreesModel", "begin", "()V"⟩ ⟨"SheetTreesModel", "begin", "()V"⟩ ∈ ALLW := List.mem_filter.mpr ⟨List.mem_append_left _ (List.mem_of_getElem? (i := 29) (by decide +kernel)), rfl⟩
theorem ks_30 : Cond.selects "SheetTreesModel" ⟨"SheetTreesModel", "done", "()V"⟩ ⟨"SheetTreesModel", "done", "()V"⟩ ∈ ALLW := List.mem_filter.mpr ⟨List.mem_append_left _ (List.mem_of_getElem? (i := 30) (by decide +kernel)), rfl⟩
theorem ks_31 : Cond.selects "SheetTreesModel" ⟨"SheetTreesModel", "isSheet", "(I)Z"⟩ ⟨"SheetTreesModel", "isSheet", "(I)Z"⟩ ∈ ALLW := List.mem_filter.mpr ⟨List.mem_append_left _ (List.mem_of_getElem? (i := 31) (by decide +kernel)), rfl⟩
theorem ks_32 : Cond.selects "SheetTreesModel" ⟨"SheetTreesModel", "liesIn", "(II)Z"⟩ ⟨"SheetTreesModel", "liesIn", "(II)Z"⟩ ∈ ALLW := List.mem_filter.mpr ⟨List.mem_append_left _ (List.mem_of_getElem? (i := 32) (by decide +kernel)), rfl⟩
theorem ks_33 : Cond.selects "SheetTreesModel" ⟨"SheetTreesModel", "addPlacement", "(II)I"⟩ ⟨"SheetTreesModel", "addPlacement", "(II)I"⟩ ∈ ALLW := List.mem_filter.mpr ⟨List.mem_append_left _ (List.mem_of_getElem? (i := 33) (by decide +kernel)), rfl⟩
theorem ks_34 : Cond.selects "SheetTreesModel" ⟨"SheetTreesModel", "hasRoom", "()Z"⟩ ⟨"SheetTreesModel", "hasRoom", "()Z"⟩ ∈ ALLW := List.mem_filter.mpr ⟨List.mem_append_left _ (List.mem_of_getElem? (i := 34) (by decide +kernel)), rfl⟩
theorem ks_35 : Cond.selects "SheetTreesModel" ⟨"SheetTreesModel", "turn", "()V"⟩ ⟨"SheetTreesModel", "turn", "()V"⟩ ∈ ALLW := List.mem_filter.mpr ⟨List.mem_append_left _ (List.mem_of_getElem? (i := 35) (by decide +kernel)), rfl⟩
theorem ks_36 : Cond.selects "SheetTreesModel" ⟨"SheetTreesModel", "addPage", "(IIII)V"⟩ ⟨"SheetTreesModel", "addPage", "(IIII)V"⟩ ∈ ALLW := List.mem_filter.mpr ⟨List.mem_append_left _ (List.mem_of_getElem? (i := 36) (by decide +kernel)), rfl⟩
theorem ks_37 : Cond.selects "SheetTreesModel" ⟨"SheetTreesModel", "next", "(IJ)I"⟩ ⟨"SheetTreesModel", "next", "(IJ)I"⟩ ∈ ALLW := List.mem_filter.mpr ⟨List.mem_append_left _ (List.mem_of_getElem? (i := 37) (by decide +kernel)), rfl⟩
theorem ks_38 : Cond.selects "SheetTreesModel" ⟨"SheetTreesModel", "giveBack", "()V"⟩ ⟨"SheetTreesModel", "giveBack", "()V"⟩ ∈ ALLW := List.mem_filter.mpr ⟨List.mem_append_left _ (List.mem_of_getElem? (i := 38) (by decide +kernel)), rfl⟩
theorem ks_39 : Cond.selects "SheetTreesModel" ⟨"SheetTreesModel", "isPlacement", "(I)Z"⟩ ⟨"SheetTreesModel", "isPlacement", "(I)Z"⟩ ∈ ALLW := List.mem_filter.mpr ⟨List.mem_append_left _ (List.mem_of_getElem? (i := 39) (by decide +kernel)), rfl⟩
theorem ks_40 : Cond.selects "SheetTreesModel" ⟨"SheetTreesModel", "hasName", "(JI)Z"⟩ ⟨"SheetTreesModel", "hasName", "(JI)Z"⟩ ∈ ALLW := List.mem_filter.mpr ⟨List.mem_append_left _ (List.mem_of_getElem? (i := 40) (by decide +kernel)), rfl⟩
theorem ks_41 : Cond.selects "SheetTreesModel" ⟨"SheetTreesModel", "addPart", "(JJ)I"⟩ ⟨"SheetTreesModel", "addPart", "(JJ)I"⟩ ∈ ALLW := List.mem_filter.mpr ⟨List.mem_append_left _ (List.mem_of_getElem? (i := 41) (by decide +kernel)), rfl⟩
theorem ks_42 : Cond.selects "SheetTreesModel" ⟨"SheetTreesModel", "isGate", "(II)Z"⟩ ⟨"SheetTreesModel", "isGate", "(II)Z"⟩ ∈ ALLW := List.mem_filter.mpr ⟨List.mem_append_left _ (List.mem_of_getElem? (i := 42) (by decide +kernel)), rfl⟩
theorem ks_43 : Cond.selects "SheetTreesModel" ⟨"SheetTreesModel", "isPart", "(I)Z"⟩ ⟨"SheetTreesModel", "isPart", "(I)Z"⟩ ∈ ALLW := List.mem_filter.mpr ⟨List.mem_append_left _ (List.mem_of_getElem? (i := 43) (by decide +kernel)), rfl⟩
theorem ks_44 : Cond.selects "SheetTreesModel" ⟨"SheetTreesModel", "gatesOn", "(I)I"⟩ ⟨"SheetTreesModel", "gatesOn", "(I)I"⟩ ∈ ALLW := List.mem_filter.mpr ⟨List.mem_append_left _ (List.mem_of_getElem? (i := 44) (by decide +kernel)), rfl⟩
theorem ks_45 : Cond.selects "SheetTreesModel" ⟨"SheetTreesModel", "putGate", "(II)V"⟩ ⟨"SheetTreesModel", "putGate", "(II)V"⟩ ∈ ALLW := List.mem_filter.mpr ⟨List.mem_append_left _ (List.mem_of_getElem? (i := 45) (by decide +kernel)), rfl⟩
theorem ks_46 : Cond.selects "SheetTreesModel" ⟨"SheetTreesModel", "placementsOn", "(I)I"⟩ ⟨"SheetTreesModel", "placementsOn", "(I)I"⟩ ∈ ALLW := List.mem_filter.mpr ⟨List.mem_append_left _ (List.mem_of_getElem? (i := 46) (by decide +kernel)), rfl⟩
theorem ks_47 : Cond.selects "SheetTreesModel" ⟨"SheetTreesModel", "partsOn", "(I)I"⟩ ⟨"SheetTreesModel", "partsOn", "(I)I"⟩ ∈ ALLW := List.mem_filter.mpr ⟨List.mem_append_left _ (List.mem_of_getElem? (i := 47) (by decide +kernel)), rfl⟩
theorem ks_48 : Cond.selects "SheetTreesModel" ⟨"SheetTreesModel", "nextGate", "(IJ)I"⟩ ⟨"SheetTreesModel", "nextGate", "(IJ)I"⟩ ∈ ALLW := List.mem_filter.mpr ⟨List.mem_append_left _ (List.mem_of_getElem? (i := 48) (by decide +kernel)), rfl⟩
theorem ks_49 : Cond.selects "SheetTreesModel" ⟨"SheetTreesModel", "isVariant", "(I)Z"⟩ ⟨"SheetTreesModel", "isVariant", "(I)Z"⟩ ∈ ALLW := List.mem_filter.mpr ⟨List.mem_append_left _ (List.mem_of_getElem? (i := 49) (by decide +kernel)), rfl⟩
theorem ks_50 : Cond.selects "SheetTreesModel" ⟨"SheetTreesModel", "tell", "(IIIIJ)Z"⟩ ⟨"SheetTreesModel", "tell", "(IIIIJ)Z"⟩ ∈ ALLW := List.mem_filter.mpr ⟨List.mem_append_left _ (List.mem_of_getElem? (i := 50) (by decide +kernel)), rfl⟩
theorem ks_51 : Cond.selects "SheetTreesModel" ⟨"SheetTreesModel", "isPage", "(I)Z"⟩ ⟨"SheetTreesModel", "isPage", "(I)Z"⟩ ∈ ALLW := List.mem_filter.mpr ⟨List.mem_append_left _ (List.mem_of_getElem? (i := 51) (by decide +kernel)), rfl⟩
theorem ks_52 : Cond.selects "SheetTreesModel" ⟨"SheetTreesModel", "look", "()V"⟩ ⟨"SheetTreesModel", "look", "()V"⟩ ∈ ALLW := List.mem_filter.mpr ⟨List.mem_append_left _ (List.mem_of_getElem? (i := 52) (by decide +kernel)), rfl⟩
theorem ks_53 : Cond.selects "SheetTreesModel" ⟨"SheetTreesModel", "pathOf", "(I)I"⟩ ⟨"SheetTreesModel", "pathOf", "(I)I"⟩ ∈ ALLW := List.mem_filter.mpr ⟨List.mem_append_left _ (List.mem_of_getElem? (i := 53) (by decide +kernel)), rfl⟩
theorem ks_54 : Cond.selects "SheetTreesModel" ⟨"SheetTreesModel", "find", "(IIII)I"⟩ ⟨"SheetTreesModel", "find", "(IIII)I"⟩ ∈ ALLW := List.mem_filter.mpr ⟨List.mem_append_left _ (List.mem_of_getElem? (i := 54) (by decide +kernel)), rfl⟩
theorem ks_55 : Cond.selects "SheetTreesModel" ⟨"SheetTreesModel", "ask", "(IIII)J"⟩ ⟨"SheetTreesModel", "ask", "(IIII)J"⟩ ∈ ALLW := List.mem_filter.mpr ⟨List.mem_append_left _ (List.mem_of_getElem? (i := 55) (by decide +kernel)), rfl⟩
theorem ks_56 : Cond.selects "SheetTreesModel" ⟨"SheetTreesModel", "unitsOf", "(I)I"⟩ ⟨"SheetTreesModel", "unitsOf", "(I)I"⟩ ∈ ALLW := List.mem_filter.mpr ⟨List.mem_append_left _ (List.mem_of_getElem? (i := 56) (by decide +kernel)), rfl⟩
theorem ks_57 : Cond.selects "SheetTreesModel" ⟨"SheetTreesModel", "pageOf", "(JI)I"⟩ ⟨"SheetTreesModel", "pageOf", "(JI)I"⟩ ∈ ALLW := List.mem_filter.mpr ⟨List.mem_append_left _ (List.mem_of_getElem? (i := 57) (by decide +kernel)), rfl⟩
theorem ks_58 : Cond.selects "SheetTreesModel" ⟨"SheetTreesModel", "first", "(II)V"⟩ ⟨"SheetTreesModel", "first", "(II)V"⟩ ∈ ALLW := List.mem_filter.mpr ⟨List.mem_append_left _ (List.mem_of_getElem? (i := 58) (by decide +kernel)), rfl⟩
theorem kw_0 : (Jvm.Cond.initialized "SheetTreesLaw") ∈ ALLW := List.mem_filter.mpr ⟨List.mem_append_right _ (List.mem_of_getElem? (i := 0) (by decide +kernel)), rfl⟩
theorem kw_1 : (Jvm.Cond.initialized "SheetTrees") ∈ ALLW := List.mem_filter.mpr ⟨List.mem_append_right _ (List.mem_of_getElem? (i := 1) (by decide +kernel)), rfl⟩
theorem kw_2 : (Jvm.Cond.initialized "SheetTrees$Journal") ∈ ALLW := List.mem_filter.mpr ⟨List.mem_append_right _ (List.mem_of_getElem? (i := 2) (by decide +kernel)), rfl⟩
theorem kw_3 : (Jvm.Cond.initialized "SheetTrees$Sheets") ∈ ALLW := List.mem_filter.mpr ⟨List.mem_append_right _ (List.mem_of_getElem? (i := 3) (by decide +kernel)), rfl⟩
theorem kw_4 : (Jvm.Cond.initialized "SheetTrees$Row") ∈ ALLW := List.mem_filter.mpr ⟨List.mem_append_right _ (List.mem_of_getElem? (i := 4) (by decide +kernel)), rfl⟩
theorem kw_5 : (Jvm.Cond.initialized "java/lang/Math") ∈ ALLW := List.mem_filter.mpr ⟨List.mem_append_right _ (List.mem_of_getElem? (i := 5) (by decide +kernel)), rfl⟩
theorem kw_6 : (Jvm.Cond.initialized "java/util/Arrays") ∈ ALLW := List.mem_filter.mpr ⟨List.mem_append_right _ (List.mem_of_getElem? (i := 6) (by decide +kernel)), rfl⟩
theorem kw_7 : (Jvm.Cond.initialized "SheetTrees$Book") ∈ ALLW := List.mem_filter.mpr ⟨List.mem_append_right _ (List.mem_of_getElem? (i := 7) (by decide +kernel)), rfl⟩
theorem kw_8 : (Jvm.Cond.initialized "SheetTrees$Parts") ∈ ALLW := List.mem_filter.mpr ⟨List.mem_append_right _ (List.mem_of_getElem? (i := 8) (by decide +kernel)), rfl⟩
theorem kw_9 : (Jvm.Cond.initialized "SheetTrees$Variants") ∈ ALLW := List.mem_filter.mpr ⟨List.mem_append_right _ (List.mem_of_getElem? (i := 9) (by decide +kernel)), rfl⟩
theorem kw_10 : (Jvm.Cond.initialized "SheetTreesModel") ∈ ALLW := List.mem_filter.mpr ⟨List.mem_append_right _ (List.mem_of_getElem? (i := 10) (by decide +kernel)), rfl⟩
theorem kw_11 : (Jvm.Cond.initialized "SheetTrees$Change") ∈ ALLW := List.mem_filter.mpr ⟨List.mem_append_right _ (List.mem_of_getElem? (i := 11) (by decide +kernel)), rfl⟩
theorem kw_12 : (Jvm.Cond.initialized "java/lang/Throwable") ∈ ALLW := List.mem_filter.mpr ⟨List.mem_append_right _ (List.mem_of_getElem? (i := 12) (by decide +kernel)), rfl⟩
theorem kw_13 : (Jvm.Cond.initialized "java/lang/Exception") ∈ ALLW := List.mem_filter.mpr ⟨List.mem_append_right _ (List.mem_of_getElem? (i := 13) (by decide +kernel)), rfl⟩
theorem kw_14 : (Jvm.Cond.initialized "java/lang/RuntimeException") ∈ ALLW := List.mem_filter.mpr ⟨List.mem_append_right _ (List.mem_of_getElem? (i := 14) (by decide +kernel)), rfl⟩
theorem kw_15 : (Jvm.Cond.initialized "java/lang/IndexOutOfBoundsException") ∈ ALLW := List.mem_filter.mpr ⟨List.mem_append_right _ (List.mem_of_getElem? (i := 15) (by decide +kernel)), rfl⟩
theorem kw_16 : (Jvm.Cond.initialized "java/lang/IllegalArgumentException") ∈ ALLW := List.mem_filter.mpr ⟨List.mem_append_right _ (List.mem_of_getElem? (i := 16) (by decide +kernel)), rfl⟩
theorem kw_17 : (Jvm.Cond.classLink "SheetTreesLaw" (8 : Nat) "SheetTrees") ∈ ALLW := List.mem_filter.mpr ⟨List.mem_append_right _ (List.mem_of_getElem? (i := 17) (by decide +kernel)), rfl⟩
theorem kw_18 : (Jvm.Cond.instantiable "SheetTrees" (7 : Nat)) ∈ ALLW := List.mem_filter.mpr ⟨List.mem_append_right _ (List.mem_of_getElem? (i := 18) (by decide +kernel)), rfl⟩
theorem kw_19 : (Jvm.Cond.methodLink "SheetTreesLaw" (79 : Nat) ({ cls := "SheetTrees", name := "<init>", desc := "()V" } : Jvm.MethodName)) ∈ ALLW := List.mem_filter.mpr ⟨List.mem_append_right _ (List.mem_of_getElem? (i := 19) (by decide +kernel)), rfl⟩
theorem kw_20 : (Jvm.Cond.instanceMethod ({ cls := "SheetTrees", name := "<init>", desc := "()V" } : Jvm.MethodName)) ∈ ALLW := List.mem_filter.mpr ⟨List.mem_append_right _ (List.mem_of_getElem? (i := 20) (by decide +kernel)), rfl⟩
theorem kw_21 : (Jvm.Cond.code ({ cls := "SheetTrees", name := "<init>", desc := "()V" } : Jvm.MethodName) prog_1_method_1_code (1 : Nat) (Option.none : Option Jvm.ClassFile.FieldType)) ∈ ALLW := List.mem_filter.mpr ⟨List.mem_append_right _ (List.mem_of_getElem? (i := 21) (by decide +kernel)), rfl⟩
theorem kw_22 : (Jvm.Cond.methodLink "SheetTrees" (3 : Nat) ({ cls := "java/lang/Object", name := "<init>", desc := "()V" } : Jvm.MethodName)) ∈ ALLW := List.mem_filter.mpr ⟨List.mem_append_right _ (List.mem_of_getElem? (i := 22) (by decide +kernel)), rfl⟩
theorem kw_23 : (Jvm.Cond.instanceMethod ({ cls := "java/lang/Object", name := "<init>", desc := "()V" } : Jvm.MethodName)) ∈ ALLW := List.mem_filter.mpr ⟨List.mem_append_right _ (List.mem_of_getElem? (i := 23) (by decide +kernel)), rfl⟩
theorem kw_24 : (Jvm.Cond.code ({ cls := "java/lang/Object", name := "<init>", desc := "()V" } : Jvm.MethodName) object_method_1_code (1 : Nat) (Option.none : Option Jvm.ClassFile.FieldType)) ∈ ALLW := List.mem_filter.mpr ⟨List.mem_append_right _ (List.mem_of_getElem? (i := 24) (by decide +kernel)), rfl⟩
theorem kw_25 : (Jvm.Cond.classLink "SheetTrees" (9 : Nat) "SheetTrees$Journal") ∈ ALLW := List.mem_filter.mpr ⟨List.mem_append_right _ (List.mem_of_getElem? (i := 25) (by decide +kernel)), rfl⟩
theorem kw_26 : (Jvm.Cond.instantiable "SheetTrees$Journal" (4 : Nat)) ∈ ALLW := List.mem_filter.mpr ⟨List.mem_append_right _ (List.mem_of_getElem? (i := 26) (by decide +kernel)), rfl⟩
theorem kw_28 : (Jvm.Cond.instanceMethod ({ cls := "SheetTrees$Journal", name := "<init>", desc := "()V" } : Jvm.MethodName)) ∈ ALLW := List.mem_filter.mpr ⟨List.mem_append_right _ (List.mem_of_getElem? (i := 28) (by decide +kernel)), rfl⟩
theorem kw_29 : (Jvm.Cond.code ({ cls := "SheetTrees$Journal", name := "<init>", desc := "()V" } : Jvm.MethodName) prog_4_method_1_code (1 : Nat) (Option.none : Option Jvm.ClassFile.FieldType)) ∈ ALLW := List.mem_filter.mpr ⟨List.mem_append_right _ (List.mem_of_getElem? (i := 29) (by decide +kernel)), rfl⟩
theorem kw_30 : (Jvm.Cond.methodLink "SheetTrees$Journal" (3 : Nat) ({ cls := "java/lang/Object", name := "<init>", desc := "()V" } : Jvm.MethodName)) ∈ ALLW := List.mem_filter.mpr ⟨List.mem_append_right _ (List.mem_of_getElem? (i := 30) (by decide +kernel)), rfl⟩
theorem kw_31 : (Jvm.Cond.classLink "SheetTrees$Journal" (9 : Nat) "SheetTrees$Change") ∈ ALLW := List.mem_filter.mpr ⟨List.mem_append_right _ (List.mem_of_getElem? (i := 31) (by decide +kernel)), rfl⟩
theorem kw_33 : (Jvm.Cond.fieldLink "SheetTrees$Journal" (11 : Nat) "SheetTrees$Journal" "acts" "[LSheetTrees$Change;") ∈ ALLW := List.mem_filter.mpr ⟨List.mem_append_right _ (List.mem_of_getElem? (i := 33) (by decide +kernel)), rfl⟩
theorem kw_34 : (Jvm.Cond.fieldLink "SheetTrees$Journal" (32 : Nat) "SheetTrees$Journal" "count" "I") ∈ ALLW := List.mem_filter.mpr ⟨List.mem_append_right _ (List.mem_of_getElem? (i := 34) (by decide +kernel)), rfl⟩
theorem kw_35 : (Jvm.Cond.fieldLink "SheetTrees$Journal" (24 : Nat) "SheetTrees$Journal" "next" "I") ∈ ALLW := List.mem_filter.mpr ⟨List.mem_append_right _ (List.mem_of_getElem? (i := 35) (by decide +kernel)), rfl⟩
theorem kw_36 : (Jvm.Cond.fieldLink "SheetTrees$Journal" (17 : Nat) "SheetTrees$Journal" "open" "LSheetTrees$Change;") ∈ ALLW := List.mem_filter.mpr ⟨List.mem_append_right _ (List.mem_of_getElem? (i := 36) (by decide +kernel)), rfl⟩
theorem kw_46 : (Jvm.Cond.classLink "SheetTrees" (16 : Nat) "SheetTrees$Sheets") ∈ ALLW := List.mem_filter.mpr ⟨List.mem_append_right _ (List.mem_of_getElem? (i := 46) (by decide +kernel)), rfl⟩
theorem kw_47 : (Jvm.Cond.instantiable "SheetTrees$Sheets" (6 : Nat)) ∈ ALLW := List.mem_filter.mpr ⟨List.mem_append_right _ (List.mem_of_getElem? (i := 47) (by decide +kernel)), rfl⟩
theorem kw_48 : (Jvm.Cond.methodLink "SheetTrees" (18 : Nat) ({ cls := "SheetTrees$Sheets", name := "<init>", desc := "(LSheetTrees$Journal;)V" } : Jvm.MethodName)) ∈ ALLW := List.mem_filter.mpr ⟨List.mem_append_right _ (List.mem_of_getElem? (i := 48) (by decide +kernel)), rfl⟩
theorem kw_49 : (Jvm.Cond.instanceMethod ({ cls := "SheetTrees$Sheets", name := "<init>", desc := "(LSheetTrees$Journal;)V" } : Jvm.MethodName)) ∈ ALLW := List.mem_filter.mpr ⟨List.mem_append_right _ (List.mem_of_getElem? (i := 49) (by decide +kernel)), rfl⟩
theorem kw_50 : (Jvm.Cond.code ({ cls := "SheetTrees$Sheets", name := "<init>", desc := "(LSheetTrees$Journal;)V" } : Jvm.MethodName) prog_7_method_1_code (2 : Nat) (Option.none : Option Jvm.ClassFile.FieldType)) ∈ ALLW := List.mem_filter.mpr ⟨List.mem_append_right _ (List.mem_of_getElem? (i := 50) (by decide +kernel)), rfl⟩
theorem kw_51 : (Jvm.Cond.methodLink "SheetTrees$Sheets" (3 : Nat) ({ cls := "java/lang/Object", name := "<init>", desc := "()V" } : Jvm.MethodName)) ∈ ALLW := List.mem_filter.mpr ⟨List.mem_append_right _ (List.mem_of_getElem? (i := 51) (by decide +kernel)), rfl⟩
theorem kw_52 : (Jvm.Cond.classLink "SheetTrees$Sheets" (9 : Nat) "SheetTrees$Row") ∈ ALLW := List.mem_filter.mpr ⟨List.mem_append_right _ (List.mem_of_getElem? (i := 52) (by decide +kernel)), rfl⟩
theorem kw_53 : (Jvm.Cond.instantiable "SheetTrees$Row" (2 : Nat)) ∈ ALLW := List.mem_filter.mpr ⟨List.mem_append_right _ (List.mem_of_getElem? (i := 53) (by decide +kernel)), rfl⟩
theorem kw_54 : (Jvm.Cond.methodLink "SheetTrees$Sheets" (11 : Nat) ({ cls := "SheetTrees$Row", name := "<init>", desc := "(LSheetTrees$Journal;IJ)V" } : Jvm.MethodName)) ∈ ALLW := List.mem_filter.mpr ⟨List.mem_append_right _ (List.mem_of_getElem? (i := 54) (by decide +kernel)), rfl⟩
theorem kw_55 : (Jvm.Cond.instanceMethod ({ cls := "SheetTrees$Row", name := "<init>", desc := "(LSheetTrees$Journal;IJ)V" } : Jvm.MethodName)) ∈ ALLW := List.mem_filter.mpr ⟨List.mem_append_right _ (List.mem_of_getElem? (i := 55) (by decide +kernel)), rfl⟩
theorem kw_56 : (Jvm.Cond.code ({ cls := "SheetTrees$Row", name := "<init>", desc := "(LSheetTrees$Journal;IJ)V" } : Jvm.MethodName) prog_6_method_1_code (5 : Nat) (Option.none : Option Jvm.ClassFile.FieldType)) ∈ ALLW := List.mem_filter.mpr ⟨List.mem_append_right _ (List.mem_of_getElem? (i := 56) (by decide +kernel)), rfl⟩
theorem kw_57 : (Jvm.Cond.methodLink "SheetTrees$Row" (3 : Nat) ({ cls := "java/lang/Object", name := "<init>", desc := "()V" } : Jvm.MethodName)) ∈ ALLW := List.mem_filter.mpr ⟨List.mem_append_right _ (List.mem_of_getElem? (i := 57) (by decide +kernel)), rfl⟩
theorem kw_58 : (Jvm.Cond.methodLink "SheetTrees$Row" (15 : Nat) ({ cls := "java/lang/Math", name := "max", desc := "(II)I" } : Jvm.MethodName)) ∈ ALLW := List.mem_filter.mpr ⟨List.mem_append_right _ (List.mem_of_getElem? (i := 58) (by decide +kernel)), rfl⟩
theorem kw_59 : (Jvm.Cond.static ({ cls := "java/lang/Math", name := "max", desc := "(II)I" } : Jvm.MethodName)) ∈ ALLW := List.mem_filter.mpr ⟨List.mem_append_right _ (List.mem_of_getElem? (i := 59) (by decide +kernel)), rfl⟩
theorem kw_60 : (Jvm.Cond.code ({ cls := "java/lang/Math", name := "max", desc := "(II)I" } : Jvm.MethodName) prog_14_method_65_code (2 : Nat) (Option.some Jvm.ClassFile.FieldType.int)) ∈ ALLW := List.mem_filter.mpr ⟨List.mem_append_right _ (List.mem_of_getElem? (i := 60) (by decide +kernel)), rfl⟩
theorem kw_61 : (Jvm.Cond.methodLink "SheetTrees$Row" (25 : Nat) ({ cls := "java/util/Arrays", name := "fill", desc := "([JJ)V" } : Jvm.MethodName)) ∈ ALLW := List.mem_filter.mpr ⟨List.mem_append_right _ (List.mem_of_getElem? (i := 61) (by decide +kernel)), rfl⟩
theorem kw_62 : (Jvm.Cond.static ({ cls := "java/util/Arrays", name := "fill", desc := "([JJ)V" } : Jvm.MethodName)) ∈ ALLW := List.mem_filter.mpr ⟨List.mem_append_right _ (List.mem_of_getElem? (i := 62) (by decide +kernel)), rfl⟩
theorem kw_63 : (Jvm.Cond.code ({ cls := "java/util/Arrays", name := "fill", desc := "([JJ)V" } : Jvm.MethodName) prog_18_method_101_code (5 : Nat) (Option.none : Option Jvm.ClassFile.FieldType)) ∈ ALLW := List.mem_filter.mpr ⟨List.mem_append_right _ (List.mem_of_getElem? (i := 63) (by decide +kernel)), rfl⟩
theorem kw_64 : (Jvm.Cond.fieldLink "SheetTrees$Row" (9 : Nat) "SheetTrees$Row" "journal" "LSheetTrees$Journal;") ∈ ALLW := List.mem_filter.mpr ⟨List.mem_append_right _ (List.mem_of_getElem? (i := 64) (by decide +kernel)), rfl⟩
theorem kw_65 : (Jvm.Cond.fieldLink "SheetTrees$Row" (21 : Nat) "SheetTrees$Row" "cells" "[J") ∈ ALLW := List.mem_filter.mpr ⟨List.mem_append_right _ (List.mem_of_getElem? (i := 65) (by decide +kernel)), rfl⟩
theorem kw_71 : (Jvm.Cond.arrayClass Jvm.ClassFile.FieldType.long) ∈ ALLW := List.mem_filter.mpr ⟨List.mem_append_right _ (List.mem_of_getElem? (i := 71) (by decide +kernel)), rfl⟩
theorem kw_72 : (Jvm.Cond.constantLong "SheetTrees$Sheets" (23 : Nat) (-1 : Int64)) ∈ ALLW := List.mem_filter.mpr ⟨List.mem_append_right _ (List.mem_of_getElem? (i := 72) (by decide +kernel)), rfl⟩
theorem kw_73 : (Jvm.Cond.methodLink "SheetTrees$Sheets" (37 : Nat) ({ cls := "SheetTrees$Row", name := "restore", desc := "(IJ)V" } : Jvm.MethodName)) ∈ ALLW := List.mem_filter.mpr ⟨List.mem_append_right _ (List.mem_of_getElem? (i := 73) (by decide +kernel)), rfl⟩
theorem kw_74 : (Jvm.Cond.instanceMethod ({ cls := "SheetTrees$Row", name := "restore", desc := "(IJ)V" } : Jvm.MethodName)) ∈ ALLW := List.mem_filter.mpr ⟨List.mem_append_right _ (List.mem_of_getElem? (i := 74) (by decide +kernel)), rfl⟩
theorem kw_75 : (Jvm.Cond.selects "SheetTrees$Row" ({ cls := "SheetTrees$Row", name := "restore", desc := "(IJ)V" } : Jvm.MethodName) ({ cls := "SheetTrees$Row", name := "restore", desc := "(IJ)V" } : Jvm.MethodName)) ∈ ALLW := List.mem_filter.mpr ⟨List.mem_append_right _ (List.mem_of_getElem? (i := 75) (by decide +kernel)), rfl⟩
theorem kw_76 : (Jvm.Cond.code ({ cls := "SheetTrees$Row", name := "restore", desc := "(IJ)V" } : Jvm.MethodName) prog_6_method_5_code (4 : Nat) (Option.none : Option Jvm.ClassFile.FieldType)) ∈ ALLW := List.mem_filter.mpr ⟨List.mem_append_right _ (List.mem_of_getElem? (i := 76) (by decide +kernel)), rfl⟩
theorem kw_77 : (Jvm.Cond.fieldLink "SheetTrees$Sheets" (14 : Nat) "SheetTrees$Sheets" "counts" "LSheetTrees$Row;") ∈ ALLW := List.mem_filter.mpr ⟨List.mem_append_right _ (List.mem_of_getElem? (i := 77) (by decide +kernel)), rfl⟩
theorem kw_78 : (Jvm.Cond.fieldLink "SheetTrees$Sheets" (20 : Nat) "SheetTrees$Sheets" "nameSets" "LSheetTrees$Row;") ∈ ALLW := List.mem_filter.mpr ⟨List.mem_append_right _ (List.mem_of_getElem? (i := 78) (by decide +kernel)), rfl⟩
theorem kw_79 : (Jvm.Cond.fieldLink "SheetTrees$Sheets" (25 : Nat) "SheetTrees$Sheets" "shown" "LSheetTrees$Row;") ∈ ALLW := List.mem_filter.mpr ⟨List.mem_append_right _ (List.mem_of_getElem? (i := 79) (by decide +kernel)), rfl⟩
theorem kw_80 : (Jvm.Cond.fieldLink "SheetTrees$Sheets" (28 : Nat) "SheetTrees$Sheets" "parents" "LSheetTrees$Row;") ∈ ALLW := List.mem_filter.mpr ⟨List.mem_append_right _ (List.mem_of_getElem? (i := 80) (by decide +kernel)), rfl⟩
theorem kw_81 : (Jvm.Cond.fieldLink "SheetTrees$Sheets" (31 : Nat) "SheetTrees$Sheets" "following" "LSheetTrees$Row;") ∈ ALLW := List.mem_filter.mpr ⟨List.mem_append_right _ (List.mem_of_getElem? (i := 81) (by decide +kernel)), rfl⟩
theorem kw_82 : (Jvm.Cond.fieldLink "SheetTrees$Sheets" (34 : Nat) "SheetTrees$Sheets" "joints" "LSheetTrees$Row;") ∈ ALLW := List.mem_filter.mpr ⟨List.mem_append_right _ (List.mem_of_getElem? (i := 82) (by decide +kernel)), rfl⟩
theorem kw_96 : (Jvm.Cond.classLink "SheetTrees" (25 : Nat) "SheetTrees$Book") ∈ ALLW := List.mem_filter.mpr ⟨List.mem_append_right _ (List.mem_of_getElem? (i := 96) (by decide +kernel)), rfl⟩
theorem kw_97 : (Jvm.Cond.instantiable "SheetTrees$Book" (8 : Nat)) ∈ ALLW := List.mem_filter.mpr ⟨List.mem_append_right _ (List.mem_of_getElem? (i := 97) (by decide +kernel)), rfl⟩
theorem kw_98 : (Jvm.Cond.methodLink "SheetTrees" (27 : Nat) ({ cls := "SheetTrees$Book", name := "<init>", desc := "(LSheetTrees$Sheets;)V" } : Jvm.MethodName)) ∈ ALLW := List.mem_filter.mpr ⟨List.mem_append_right _ (List.mem_of_getElem? (i := 98) (by decide +kernel)), rfl⟩
theorem kw_99 : (Jvm.Cond.instanceMethod ({ cls := "SheetTrees$Book", name := "<init>", desc := "(LSheetTrees$Sheets;)V" } : Jvm.MethodName)) ∈ ALLW := List.mem_filter.mpr ⟨List.mem_append_right _ (List.mem_of_getElem? (i := 99) (by decide +kernel)), rfl⟩
theorem kw_100 : (Jvm.Cond.code ({ cls := "SheetTrees$Book", name := "<init>", desc := "(LSheetTrees$Sheets;)V" } : Jvm.MethodName) prog_2_method_1_code (2 : Nat) (Option.none : Option Jvm.ClassFile.FieldType)) ∈ ALLW := List.mem_filter.mpr ⟨List.mem_append_right _ (List.mem_of_getElem? (i := 100) (by decide +kernel)), rfl⟩
theorem kw_101 : (Jvm.Cond.methodLink "SheetTrees$Book" (3 : Nat) ({ cls := "java/lang/Object", name := "<init>", desc := "()V" } : Jvm.MethodName)) ∈ ALLW := List.mem_filter.mpr ⟨List.mem_append_right _ (List.mem_of_getElem? (i := 101) (by decide +kernel)), rfl⟩
theorem kw_102 : (Jvm.Cond.fieldLink "SheetTrees$Book" (30 : Nat) "SheetTrees$Book" "sheets" "LSheetTrees$Sheets;") ∈ ALLW := List.mem_filter.mpr ⟨List.mem_append_right _ (List.mem_of_getElem? (i := 102) (by decide +kernel)), rfl⟩
theorem kw_103 : (Jvm.Cond.fieldLink "SheetTrees$Book" (9 : Nat) "SheetTrees$Book" "sheetRow" "[I") ∈ ALLW := List.mem_filter.mpr ⟨List.mem_append_right _ (List.mem_of_getElem? (i := 103) (by decide +kernel)), rfl⟩
theorem kw_104 : (Jvm.Cond.fieldLink "SheetTrees$Book" (15 : Nat) "SheetTrees$Book" "placementRow" "[I") ∈ ALLW := List.mem_filter.mpr ⟨List.mem_append_right _ (List.mem_of_getElem? (i := 104) (by decide +kernel)), rfl⟩
theorem kw_105 : (Jvm.Cond.fieldLink "SheetTrees$Book" (18 : Nat) "SheetTrees$Book" "aboveRow" "[I") ∈ ALLW := List.mem_filter.mpr ⟨List.mem_append_right _ (List.mem_of_getElem? (i := 105) (by decide +kernel)), rfl⟩
theorem kw_106 : (Jvm.Cond.fieldLink "SheetTrees$Book" (21 : Nat) "SheetTrees$Book" "depthRow" "[I") ∈ ALLW := List.mem_filter.mpr ⟨List.mem_append_right _ (List.mem_of_getElem? (i := 106) (by decide +kernel)), rfl⟩
theorem kw_107 : (Jvm.Cond.fieldLink "SheetTrees$Book" (24 : Nat) "SheetTrees$Book" "comingRow" "[I") ∈ ALLW := List.mem_filter.mpr ⟨List.mem_append_right _ (List.mem_of_getElem? (i := 107) (by decide +kernel)), rfl⟩
theorem kw_108 : (Jvm.Cond.fieldLink "SheetTrees$Book" (27 : Nat) "SheetTrees$Book" "comings" "[I") ∈ ALLW := List.mem_filter.mpr ⟨List.mem_append_right _ (List.mem_of_getElem? (i := 108) (by decide +kernel)), rfl⟩
theorem kw_109 : (Jvm.Cond.fieldLink "SheetTrees$Book" (40 : Nat) "SheetTrees$Book" "count" "I") ∈ ALLW := List.mem_filter.mpr ⟨List.mem_append_right _ (List.mem_of_getElem? (i := 109) (by decide +kernel)), rfl⟩
theorem kw_127 : (Jvm.Cond.arrayClass Jvm.ClassFile.FieldType.int) ∈ ALLW := List.mem_filter.mpr ⟨List.mem_append_right _ (List.mem_of_getElem? (i := 127) (by decide +kernel)), rfl⟩
theorem kw_128 : (Jvm.Cond.classLink "SheetTrees" (34 : Nat) "SheetTrees$Parts") ∈ ALLW := List.mem_filter.mpr ⟨List.mem_append_right _ (List.mem_of_getElem? (i := 128) (by decide +kernel)), rfl⟩
theorem kw_129 : (Jvm.Cond.instantiable "SheetTrees$Parts" (8 : Nat)) ∈ ALLW := List.mem_filter.mpr ⟨List.mem_append_right _ (List.mem_of_getElem? (i := 129) (by decide +kernel)), rfl⟩
theorem kw_130 : (Jvm.Cond.methodLink "SheetTrees" (36 : Nat) ({ cls := "SheetTrees$Parts", name := "<init>", desc := "(LSheetTrees$Journal;LSheetTrees$Book;)V" } : Jvm.MethodName)) ∈ ALLW := List.mem_filter.mpr ⟨List.mem_append_right _ (List.mem_of_getElem? (i := 130) (by decide +kernel)), rfl⟩
theorem kw_131 : (Jvm.Cond.instanceMethod ({ cls := "SheetTrees$Parts", name := "<init>", desc := "(LSheetTrees$Journal;LSheetTrees$Book;)V" } : Jvm.MethodName)) ∈ ALLW := List.mem_filter.mpr ⟨List.mem_append_right _ (List.mem_of_getElem? (i := 131) (by decide +kernel)), rfl⟩
theorem kw_132 : (Jvm.Cond.code ({ cls := "SheetTrees$Parts", name := "<init>", desc := "(LSheetTrees$Journal;LSheetTrees$Book;)V" } : Jvm.MethodName) prog_5_method_1_code (3 : Nat) (Option.none : Option Jvm.ClassFile.FieldType)) ∈ ALLW := List.mem_filter.mpr ⟨List.mem_append_right _ (List.mem_of_getElem? (i := 132) (by decide +kernel)), rfl⟩
theorem kw_133 : (Jvm.Cond.methodLink "SheetTrees$Parts" (3 : Nat) ({ cls := "java/lang/Object", name := "<init>", desc := "()V" } : Jvm.MethodName)) ∈ ALLW := List.mem_filter.mpr ⟨List.mem_append_right _ (List.mem_of_getElem? (i := 133) (by decide +kernel)), rfl⟩
theorem kw_134 : (Jvm.Cond.classLink "SheetTrees$Parts" (19 : Nat) "SheetTrees$Row") ∈ ALLW := List.mem_filter.mpr ⟨List.mem_append_right _ (List.mem_of_getElem? (i := 134) (by decide +kernel)), rfl⟩
theorem kw_135 : (Jvm.Cond.methodLink "SheetTrees$Parts" (21 : Nat) ({ cls := "SheetTrees$Row", name := "<init>", desc := "(LSheetTrees$Journal;IJ)V" } : Jvm.MethodName)) ∈ ALLW := List.mem_filter.mpr ⟨List.mem_append_right _ (List.mem_of_getElem? (i := 135) (by decide +kernel)), rfl⟩
theorem kw_136 : (Jvm.Cond.constantLong "SheetTrees$Parts" (34 : Nat) (-1 : Int64)) ∈ ALLW := List.mem_filter.mpr ⟨List.mem_append_right _ (List.mem_of_getElem? (i := 136) (by decide +kernel)), rfl⟩
theorem kw_137 : (Jvm.Cond.fieldLink "SheetTrees$Parts" (15 : Nat) "SheetTrees$Parts" "book" "LSheetTrees$Book;") ∈ ALLW := List.mem_filter.mpr ⟨List.mem_append_right _ (List.mem_of_getElem? (i := 137) (by decide +kernel)), rfl⟩
theorem kw_138 : (Jvm.Cond.fieldLink "SheetTrees$Parts" (24 : Nat) "SheetTrees$Parts" "size" "LSheetTrees$Row;") ∈ ALLW := List.mem_filter.mpr ⟨List.mem_append_right _ (List.mem_of_getElem? (i := 138) (by decide +kernel)), rfl⟩
theorem kw_139 : (Jvm.Cond.fieldLink "SheetTrees$Parts" (28 : Nat) "SheetTrees$Parts" "letters" "LSheetTrees$Row;") ∈ ALLW := List.mem_filter.mpr ⟨List.mem_append_right _ (List.mem_of_getElem? (i := 139) (by decide +kernel)), rfl⟩
theorem kw_140 : (Jvm.Cond.fieldLink "SheetTrees$Parts" (31 : Nat) "SheetTrees$Parts" "gateCounts" "LSheetTrees$Row;") ∈ ALLW := List.mem_filter.mpr ⟨List.mem_append_right _ (List.mem_of_getElem? (i := 140) (by decide +kernel)), rfl⟩
theorem kw_141 : (Jvm.Cond.fieldLink "SheetTrees$Parts" (36 : Nat) "SheetTrees$Parts" "lying" "LSheetTrees$Row;") ∈ ALLW := List.mem_filter.mpr ⟨List.mem_append_right _ (List.mem_of_getElem? (i := 141) (by decide +kernel)), rfl⟩
theorem kw_142 : (Jvm.Cond.fieldLink "SheetTrees$Parts" (39 : Nat) "SheetTrees$Parts" "gateLists" "LSheetTrees$Row;") ∈ ALLW := List.mem_filter.mpr ⟨List.mem_append_right _ (List.mem_of_getElem? (i := 142) (by decide +kernel)), rfl⟩
theorem kw_143 : (Jvm.Cond.fieldLink "SheetTrees$Parts" (42 : Nat) "SheetTrees$Parts" "listLengths" "LSheetTrees$Row;") ∈ ALLW := List.mem_filter.mpr ⟨List.mem_append_right _ (List.mem_of_getElem? (i := 143) (by decide +kernel)), rfl⟩
theorem kw_144 : (Jvm.Cond.fieldLink "SheetTrees$Parts" (9 : Nat) "SheetTrees$Parts" "marks" "[I") ∈ ALLW := List.mem_filter.mpr ⟨List.mem_append_right _ (List.mem_of_getElem? (i := 144) (by decide +kernel)), rfl⟩
theorem kw_162 : (Jvm.Cond.classLink "SheetTrees" (43 : Nat) "SheetTrees$Variants") ∈ ALLW := List.mem_filter.mpr ⟨List.mem_append_right _ (List.mem_of_getElem? (i := 162) (by decide +kernel)), rfl⟩
theorem kw_163 : (Jvm.Cond.instantiable "SheetTrees$Variants" (7 : Nat)) ∈ ALLW := List.mem_filter.mpr ⟨List.mem_append_right _ (List.mem_of_getElem? (i := 163) (by decide +kernel)), rfl⟩
theorem kw_164 : (Jvm.Cond.methodLink "SheetTrees" (45 : Nat) ({ cls := "SheetTrees$Variants", name := "<init>", desc := "(LSheetTrees$Journal;LSheetTrees$Book;)V" } : Jvm.MethodName)) ∈ ALLW := List.mem_filter.mpr ⟨List.mem_append_right _ (List.mem_of_getElem? (i := 164) (by decide +kernel)), rfl⟩
theorem kw_165 : (Jvm.Cond.instanceMethod ({ cls := "SheetTrees$Variants", name := "<init>", desc := "(LSheetTrees$Journal;LSheetTrees$Book;)V" } : Jvm.MethodName)) ∈ ALLW := List.mem_filter.mpr ⟨List.mem_append_right _ (List.mem_of_getElem? (i := 165) (by decide +kernel)), rfl⟩
theorem kw_166 : (Jvm.Cond.code ({ cls := "SheetTrees$Variants", name := "<init>", desc := "(LSheetTrees$Journal;LSheetTrees$Book;)V" } : Jvm.MethodName) prog_8_method_1_code (3 : Nat) (Option.none : Option Jvm.ClassFile.FieldType)) ∈ ALLW := List.mem_filter.mpr ⟨List.mem_append_right _ (List.mem_of_getElem? (i := 166) (by decide +kernel)), rfl⟩
theorem kw_167 : (Jvm.Cond.methodLink "SheetTrees$Variants" (3 : Nat) ({ cls := "java/lang/Object", name := "<init>", desc := "()V" } : Jvm.MethodName)) ∈ ALLW := List.mem_filter.mpr ⟨List.mem_append_right _ (List.mem_of_getElem? (i := 167) (by decide +kernel)), rfl⟩
theorem kw_168 : (Jvm.Cond.classLink "SheetTrees$Variants" (15 : Nat) "SheetTrees$Row") ∈ ALLW := List.mem_filter.mpr ⟨List.mem_append_right _ (List.mem_of_getElem? (i := 168) (by decide +kernel)), rfl⟩
theorem kw_169 : (Jvm.Cond.methodLink "SheetTrees$Variants" (17 : Nat) ({ cls := "SheetTrees$Row", name := "<init>", desc := "(LSheetTrees$Journal;IJ)V" } : Jvm.MethodName)) ∈ ALLW := List.mem_filter.mpr ⟨List.mem_append_right _ (List.mem_of_getElem? (i := 169) (by decide +kernel)), rfl⟩
theorem kw_170 : (Jvm.Cond.constantLong "SheetTrees$Variants" (24 : Nat) (-1 : Int64)) ∈ ALLW := List.mem_filter.mpr ⟨List.mem_append_right _ (List.mem_of_getElem? (i := 170) (by decide +kernel)), rfl⟩
theorem kw_171 : (Jvm.Cond.fieldLink "SheetTrees$Variants" (9 : Nat) "SheetTrees$Variants" "book" "LSheetTrees$Book;") ∈ ALLW := List.mem_filter.mpr ⟨List.mem_append_right _ (List.mem_of_getElem? (i := 171) (by decide +kernel)), rfl⟩
theorem kw_172 : (Jvm.Cond.fieldLink "SheetTrees$Variants" (20 : Nat) "SheetTrees$Variants" "counts" "LSheetTrees$Row;") ∈ ALLW := List.mem_filter.mpr ⟨List.mem_append_right _ (List.mem_of_getElem? (i := 172) (by decide +kernel)), rfl⟩
theorem kw_173 : (Jvm.Cond.fieldLink "SheetTrees$Variants" (26 : Nat) "SheetTrees$Variants" "aboves" "LSheetTrees$Row;") ∈ ALLW := List.mem_filter.mpr ⟨List.mem_append_right _ (List.mem_of_getElem? (i := 173) (by decide +kernel)), rfl⟩
theorem kw_174 : (Jvm.Cond.fieldLink "SheetTrees$Variants" (29 : Nat) "SheetTrees$Variants" "subjects" "LSheetTrees$Row;") ∈ ALLW := List.mem_filter.mpr ⟨List.mem_append_right _ (List.mem_of_getElem? (i := 174) (by decide +kernel)), rfl⟩
theorem kw_175 : (Jvm.Cond.fieldLink "SheetTrees$Variants" (32 : Nat) "SheetTrees$Variants" "contents" "LSheetTrees$Row;") ∈ ALLW := List.mem_filter.mpr ⟨List.mem_append_right _ (List.mem_of_getElem? (i := 175) (by decide +kernel)), rfl⟩
theorem kw_176 : (Jvm.Cond.fieldLink "SheetTrees$Variants" (35 : Nat) "SheetTrees$Variants" "depths" "LSheetTrees$Row;") ∈ ALLW := List.mem_filter.mpr ⟨List.mem_append_right _ (List.mem_of_getElem? (i := 176) (by decide +kernel)), rfl⟩
theorem kw_177 : (Jvm.Cond.fieldLink "SheetTrees$Variants" (38 : Nat) "SheetTrees$Variants" "paths" "LSheetTrees$Row;") ∈ ALLW := List.mem_filter.mpr ⟨List.mem_append_right _ (List.mem_of_getElem? (i := 177) (by decide +kernel)), rfl⟩
theorem kw_193 : (Jvm.Cond.classLink "SheetTrees" (50 : Nat) "SheetTrees$Row") ∈ ALLW := List.mem_filter.mpr ⟨List.mem_append_right _ (List.mem_of_getElem? (i := 193) (by decide +kernel)), rfl⟩
theorem kw_194 : (Jvm.Cond.methodLink "SheetTrees" (52 : Nat) ({ cls := "SheetTrees$Row", name := "<init>", desc := "(LSheetTrees$Journal;IJ)V" } : Jvm.MethodName)) ∈ ALLW := List.mem_filter.mpr ⟨List.mem_append_right _ (List.mem_of_getElem? (i := 194) (by decide +kernel)), rfl⟩
theorem kw_195 : (Jvm.Cond.methodLink "SheetTrees" (63 : Nat) ({ cls := "SheetTrees$Book", name := "lay", desc := "()V" } : Jvm.MethodName)) ∈ ALLW := List.mem_filter.mpr ⟨List.mem_append_right _ (List.mem_of_getElem? (i := 195) (by decide +kernel)), rfl⟩
theorem kw_196 : (Jvm.Cond.instanceMethod ({ cls := "SheetTrees$Book", name := "lay", desc := "()V" } : Jvm.MethodName)) ∈ ALLW := List.mem_filter.mpr ⟨List.mem_append_right _ (List.mem_of_getElem? (i := 196) (by decide +kernel)), rfl⟩
theorem kw_197 : (Jvm.Cond.selects "SheetTrees$Book" ({ cls := "SheetTrees$Book", name := "lay", desc := "()V" } : Jvm.MethodName) ({ cls := "SheetTrees$Book", name := "lay", desc := "()V" } : Jvm.MethodName)) ∈ ALLW := List.mem_filter.mpr ⟨List.mem_append_right _ (List.mem_of_getElem? (i := 197) (by decide +kernel)), rfl⟩
theorem kw_198 : (Jvm.Cond.code ({ cls := "SheetTrees$Book", name := "lay", desc := "()V" } : Jvm.MethodName) prog_2_method_2_code (5 : Nat) (Option.none : Option Jvm.ClassFile.FieldType)) ∈ ALLW := List.mem_filter.mpr ⟨List.mem_append_right _ (List.mem_of_getElem? (i := 198) (by decide +kernel)), rfl⟩
theorem kw_199 : (Jvm.Cond.methodLink "SheetTrees$Book" (34 : Nat) ({ cls := "java/util/Arrays", name := "fill", desc := "([II)V" } : Jvm.MethodName)) ∈ ALLW := List.mem_filter.mpr ⟨List.mem_append_right _ (List.mem_of_getElem? (i := 199) (by decide +kernel)), rfl⟩
theorem kw_200 : (Jvm.Cond.static ({ cls := "java/util/Arrays", name := "fill", desc := "([II)V" } : Jvm.MethodName)) ∈ ALLW := List.mem_filter.mpr ⟨List.mem_append_right _ (List.mem_of_getElem? (i := 200) (by decide +kernel)), rfl⟩
theorem kw_201 : (Jvm.Cond.code ({ cls := "java/util/Arrays", name := "fill", desc := "([II)V" } : Jvm.MethodName) prog_18_method_103_code (4 : Nat) (Option.none : Option Jvm.ClassFile.FieldType)) ∈ ALLW := List.mem_filter.mpr ⟨List.mem_append_right _ (List.mem_of_getElem? (i := 201) (by decide +kernel)), rfl⟩
theorem kw_202 : (Jvm.Cond.methodLink "SheetTrees$Book" (44 : Nat) ({ cls := "SheetTrees$Book", name := "addPage", desc := "(IIII)I" } : Jvm.MethodName)) ∈ ALLW := List.mem_filter.mpr ⟨List.mem_append_right _ (List.mem_of_getElem? (i := 202) (by decide +kernel)), rfl⟩
theorem kw_204 : (Jvm.Cond.instanceMethod ({ cls := "SheetTrees$Book", name := "addPage", desc := "(IIII)I" } : Jvm.MethodName)) ∈ ALLW := List.mem_filter.mpr ⟨List.mem_append_right _ (List.mem_of_getElem? (i := 204) (by decide +kernel)), rfl⟩
theorem kw_205 : (Jvm.Cond.code ({ cls := "SheetTrees$Book", name := "addPage", desc := "(IIII)I" } : Jvm.MethodName) prog_2_method_3_code (6 : Nat) (Option.some Jvm.ClassFile.FieldType.int)) ∈ ALLW := List.mem_filter.mpr ⟨List.mem_append_right _ (List.mem_of_getElem? (i := 205) (by decide +kernel)), rfl⟩
theorem kw_207 : (Jvm.Cond.static ({ cls := "SheetTrees", name := "write", desc := "([III)V" } : Jvm.MethodName)) ∈ ALLW := List.mem_filter.mpr ⟨List.mem_append_right _ (List.mem_of_getElem? (i := 207) (by decide +kernel)), rfl⟩
theorem kw_208 : (Jvm.Cond.code ({ cls := "SheetTrees", name := "write", desc := "([III)V" } : Jvm.MethodName) prog_1_method_39_code (3 : Nat) (Option.none : Option Jvm.ClassFile.FieldType)) ∈ ALLW := List.mem_filter.mpr ⟨List.mem_append_right _ (List.mem_of_getElem? (i := 208) (by decide +kernel)), rfl⟩
theorem kw_209 : (Jvm.Cond.methodLink "SheetTrees$Book" (76 : Nat) ({ cls := "SheetTrees$Book", name := "comingsOf", desc := "(I)I" } : Jvm.MethodName)) ∈ ALLW := List.mem_filter.mpr ⟨List.mem_append_right _ (List.mem_of_getElem? (i := 209) (by decide +kernel)), rfl⟩
theorem kw_210 : (Jvm.Cond.instanceMethod ({ cls := "SheetTrees$Book", name := "comingsOf", desc := "(I)I" } : Jvm.MethodName)) ∈ ALLW := List.mem_filter.mpr ⟨List.mem_append_right _ (List.mem_of_getElem? (i := 210) (by decide +kernel)), rfl⟩
theorem kw_211 : (Jvm.Cond.selects "SheetTrees$Book" ({ cls := "SheetTrees$Book", name := "comingsOf", desc := "(I)I" } : Jvm.MethodName) ({ cls := "SheetTrees$Book", name := "comingsOf", desc := "(I)I" } : Jvm.MethodName)) ∈ ALLW := List.mem_filter.mpr ⟨List.mem_append_right _ (List.mem_of_getElem? (i := 211) (by decide +kernel)), rfl⟩
theorem kw_212 : (Jvm.Cond.code ({ cls := "SheetTrees$Book", name := "comingsOf", desc := "(I)I" } : Jvm.MethodName) prog_2_method_11_code (2 : Nat) (Option.some Jvm.ClassFile.FieldType.int)) ∈ ALLW := List.mem_filter.mpr ⟨List.mem_append_right _ (List.mem_of_getElem? (i := 212) (by decide +kernel)), rfl⟩
theorem kw_214 : (Jvm.Cond.static ({ cls := "SheetTrees", name := "read", desc := "([II)I" } : Jvm.MethodName)) ∈ ALLW := List.mem_filter.mpr ⟨List.mem_append_right _ (List.mem_of_getElem? (i := 214) (by decide +kernel)), rfl⟩
theorem kw_215 : (Jvm.Cond.code ({ cls := "SheetTrees", name := "read", desc := "([II)I" } : Jvm.MethodName) prog_1_method_38_code (2 : Nat) (Option.some Jvm.ClassFile.FieldType.int)) ∈ ALLW := List.mem_filter.mpr ⟨List.mem_append_right _ (List.mem_of_getElem? (i := 215) (by decide +kernel)), rfl⟩
theorem kw_216 : (Jvm.Cond.methodLink "SheetTrees$Book" (83 : Nat) ({ cls := "java/lang/Math", name := "max", desc := "(II)I" } : Jvm.MethodName)) ∈ ALLW := List.mem_filter.mpr ⟨List.mem_append_right _ (List.mem_of_getElem? (i := 216) (by decide +kernel)), rfl⟩
theorem kw_217 : (Jvm.Cond.methodLink "SheetTrees$Book" (48 : Nat) ({ cls := "SheetTrees$Book", name := "sheetAt", desc := "(I)I" } : Jvm.MethodName)) ∈ ALLW := List.mem_filter.mpr ⟨List.mem_append_right _ (List.mem_of_getElem? (i := 217) (by decide +kernel)), rfl⟩
theorem kw_218 : (Jvm.Cond.instanceMethod ({ cls := "SheetTrees$Book", name := "sheetAt", desc := "(I)I" } : Jvm.MethodName)) ∈ ALLW := List.mem_filter.mpr ⟨List.mem_append_right _ (List.mem_of_getElem? (i := 218) (by decide +kernel)), rfl⟩
theorem kw_219 : (Jvm.Cond.selects "SheetTrees$Book" ({ cls := "SheetTrees$Book", name := "sheetAt", desc := "(I)I" } : Jvm.MethodName) ({ cls := "SheetTrees$Book", name := "sheetAt", desc := "(I)I" } : Jvm.MethodName)) ∈ ALLW := List.mem_filter.mpr ⟨List.mem_append_right _ (List.mem_of_getElem? (i := 219) (by decide +kernel)), rfl⟩
theorem kw_220 : (Jvm.Cond.code ({ cls := "SheetTrees$Book", name := "sheetAt", desc := "(I)I" } : Jvm.MethodName) prog_2_method_6_code (2 : Nat) (Option.some Jvm.ClassFile.FieldType.int)) ∈ ALLW := List.mem_filter.mpr ⟨List.mem_append_right _ (List.mem_of_getElem? (i := 220) (by decide +kernel)), rfl⟩
theorem kw_221 : (Jvm.Cond.methodLink "SheetTrees$Book" (52 : Nat) ({ cls := "SheetTrees$Sheets", name := "firstOn", desc := "(I)I" } : Jvm.MethodName)) ∈ ALLW := List.mem_filter.mpr ⟨List.mem_append_right _ (List.mem_of_getElem? (i := 221) (by decide +kernel)), rfl⟩
theorem kw_222 : (Jvm.Cond.instanceMethod ({ cls := "SheetTrees$Sheets", name := "firstOn", desc := "(I)I" } : Jvm.MethodName)) ∈ ALLW := List.mem_filter.mpr ⟨List.mem_append_right _ (List.mem_of_getElem? (i := 222) (by decide +kernel)), rfl⟩
theorem kw_223 : (Jvm.Cond.selects "SheetTrees$Sheets" ({ cls := "SheetTrees$Sheets", name := "firstOn", desc := "(I)I" } : Jvm.MethodName) ({ cls := "SheetTrees$Sheets", name := "firstOn", desc := "(I)I" } : Jvm.MethodName)) ∈ ALLW := List.mem_filter.mpr ⟨List.mem_append_right _ (List.mem_of_getElem? (i := 223) (by decide +kernel)), rfl⟩
theorem kw_224 : (Jvm.Cond.code ({ cls := "SheetTrees$Sheets", name := "firstOn", desc := "(I)I" } : Jvm.MethodName) prog_7_method_8_code (2 : Nat) (Option.some Jvm.ClassFile.FieldType.int)) ∈ ALLW := List.mem_filter.mpr ⟨List.mem_append_right _ (List.mem_of_getElem? (i := 224) (by decide +kernel)), rfl⟩
theorem kw_225 : (Jvm.Cond.methodLink "SheetTrees$Sheets" (52 : Nat) ({ cls := "SheetTrees$Sheets", name := "headOf", desc := "(I)I" } : Jvm.MethodName)) ∈ ALLW := List.mem_filter.mpr ⟨List.mem_append_right _ (List.mem_of_getElem? (i := 225) (by decide +kernel)), rfl⟩
theorem kw_227 : (Jvm.Cond.instanceMethod ({ cls := "SheetTrees$Sheets", name := "headOf", desc := "(I)I" } : Jvm.MethodName)) ∈ ALLW := List.mem_filter.mpr ⟨List.mem_append_right _ (List.mem_of_getElem? (i := 227) (by decide +kernel)), rfl⟩
theorem kw_228 : (Jvm.Cond.code ({ cls := "SheetTrees$Sheets", name := "headOf", desc := "(I)I" } : Jvm.MethodName) prog_7_method_22_code (2 : Nat) (Option.some Jvm.ClassFile.FieldType.int)) ∈ ALLW := List.mem_filter.mpr ⟨List.mem_append_right _ (List.mem_of_getElem? (i := 228) (by decide +kernel)), rfl⟩
theorem kw_229 : (Jvm.Cond.methodLink "SheetTrees$Sheets" (41 : Nat) ({ cls := "SheetTrees$Row", name := "at", desc := "(I)I" } : Jvm.MethodName)) ∈ ALLW := List.mem_filter.mpr ⟨List.mem_append_right _ (List.mem_of_getElem? (i := 229) (by decide +kernel)), rfl⟩
theorem kw_230 : (Jvm.Cond.instanceMethod ({ cls := "SheetTrees$Row", name := "at", desc := "(I)I" } : Jvm.MethodName)) ∈ ALLW := List.mem_filter.mpr ⟨List.mem_append_right _ (List.mem_of_getElem? (i := 230) (by decide +kernel)), rfl⟩
theorem kw_231 : (Jvm.Cond.selects "SheetTrees$Row" ({ cls := "SheetTrees$Row", name := "at", desc := "(I)I" } : Jvm.MethodName) ({ cls := "SheetTrees$Row", name := "at", desc := "(I)I" } : Jvm.MethodName)) ∈ ALLW := List.mem_filter.mpr ⟨List.mem_append_right _ (List.mem_of_getElem? (i := 231) (by decide +kernel)), rfl⟩
theorem kw_232 : (Jvm.Cond.code ({ cls := "SheetTrees$Row", name := "at", desc := "(I)I" } : Jvm.MethodName) prog_6_method_3_code (2 : Nat) (Option.some Jvm.ClassFile.FieldType.int)) ∈ ALLW := List.mem_filter.mpr ⟨List.mem_append_right _ (List.mem_of_getElem? (i := 232) (by decide +kernel)), rfl⟩
theorem kw_233 : (Jvm.Cond.methodLink "SheetTrees$Book" (57 : Nat) ({ cls := "SheetTrees$Book", name := "placementAt", desc := "(I)I" } : Jvm.MethodName)) ∈ ALLW := List.mem_filter.mpr ⟨List.mem_append_right _ (List.mem_of_getElem? (i := 233) (by decide +kernel)), rfl⟩
theorem kw_234 : (Jvm.Cond.instanceMethod ({ cls := "SheetTrees$Book", name := "placementAt", desc := "(I)I" } : Jvm.MethodName)) ∈ ALLW := List.mem_filter.mpr ⟨List.mem_append_right _ (List.mem_of_getElem? (i := 234) (by decide +kernel)), rfl⟩
theorem kw_235 : (Jvm.Cond.selects "SheetTrees$Book" ({ cls := "SheetTrees$Book", name := "placementAt", desc := "(I)I" } : Jvm.MethodName) ({ cls := "SheetTrees$Book", name := "placementAt", desc := "(I)I" } : Jvm.MethodName)) ∈ ALLW := List.mem_filter.mpr ⟨List.mem_append_right _ (List.mem_of_getElem? (i := 235) (by decide +kernel)), rfl⟩
theorem kw_236 : (Jvm.Cond.code ({ cls := "SheetTrees$Book", name := "placementAt", desc := "(I)I" } : Jvm.MethodName) prog_2_method_7_code (2 : Nat) (Option.some Jvm.ClassFile.FieldType.int)) ∈ ALLW := List.mem_filter.mpr ⟨List.mem_append_right _ (List.mem_of_getElem? (i := 236) (by decide +kernel)), rfl⟩
theorem kw_237 : (Jvm.Cond.methodLink "SheetTrees$Book" (60 : Nat) ({ cls := "SheetTrees$Sheets", name := "nextOf", desc := "(I)I" } : Jvm.MethodName)) ∈ ALLW := List.mem_filter.mpr ⟨List.mem_append_right _ (List.mem_of_getElem? (i := 237) (by decide +kernel)), rfl⟩
theorem kw_238 : (Jvm.Cond.instanceMethod ({ cls := "SheetTrees$Sheets", name := "nextOf", desc := "(I)I" } : Jvm.MethodName)) ∈ ALLW := List.mem_filter.mpr ⟨List.mem_append_right _ (List.mem_of_getElem? (i := 238) (by decide +kernel)), rfl⟩
theorem kw_239 : (Jvm.Cond.selects "SheetTrees$Sheets" ({ cls := "SheetTrees$Sheets", name := "nextOf", desc := "(I)I" } : Jvm.MethodName) ({ cls := "SheetTrees$Sheets", name := "nextOf", desc := "(I)I" } : Jvm.MethodName)) ∈ ALLW := List.mem_filter.mpr ⟨List.mem_append_right _ (List.mem_of_getElem? (i := 239) (by decide +kernel)), rfl⟩
theorem kw_240 : (Jvm.Cond.code ({ cls := "SheetTrees$Sheets", name := "nextOf", desc := "(I)I" } : Jvm.MethodName) prog_7_method_9_code (2 : Nat) (Option.some Jvm.ClassFile.FieldType.int)) ∈ ALLW := List.mem_filter.mpr ⟨List.mem_append_right _ (List.mem_of_getElem? (i := 240) (by decide +kernel)), rfl⟩
theorem kw_241 : (Jvm.Cond.methodLink "SheetTrees$Book" (63 : Nat) ({ cls := "SheetTrees$Book", name := "pageAbove", desc := "(I)I" } : Jvm.MethodName)) ∈ ALLW := List.mem_filter.mpr ⟨List.mem_append_right _ (List.mem_of_getElem? (i := 241) (by decide +kernel)), rfl⟩
theorem kw_242 : (Jvm.Cond.instanceMethod ({ cls := "SheetTrees$Book", name := "pageAbove", desc := "(I)I" } : Jvm.MethodName)) ∈ ALLW := List.mem_filter.mpr ⟨List.mem_append_right _ (List.mem_of_getElem? (i := 242) (by decide +kernel)), rfl⟩
theorem kw_243 : (Jvm.Cond.selects "SheetTrees$Book" ({ cls := "SheetTrees$Book", name := "pageAbove", desc := "(I)I" } : Jvm.MethodName) ({ cls := "SheetTrees$Book", name := "pageAbove", desc := "(I)I" } : Jvm.MethodName)) ∈ ALLW := List.mem_filter.mpr ⟨List.mem_append_right _ (List.mem_of_getElem? (i := 243) (by decide +kernel)), rfl⟩
theorem kw_244 : (Jvm.Cond.code ({ cls := "SheetTrees$Book", name := "pageAbove", desc := "(I)I" } : Jvm.MethodName) prog_2_method_8_code (2 : Nat) (Option.some Jvm.ClassFile.FieldType.int)) ∈ ALLW := List.mem_filter.mpr ⟨List.mem_append_right _ (List.mem_of_getElem? (i := 244) (by decide +kernel)), rfl⟩
theorem kw_245 : (Jvm.Cond.methodLink "SheetTrees$Book" (66 : Nat) ({ cls := "SheetTrees$Sheets", name := "sheetOf", desc := "(I)I" } : Jvm.MethodName)) ∈ ALLW := List.mem_filter.mpr ⟨List.mem_append_right _ (List.mem_of_getElem? (i := 245) (by decide +kernel)), rfl⟩
theorem kw_246 : (Jvm.Cond.instanceMethod ({ cls := "SheetTrees$Sheets", name := "sheetOf", desc := "(I)I" } : Jvm.MethodName)) ∈ ALLW := List.mem_filter.mpr ⟨List.mem_append_right _ (List.mem_of_getElem? (i := 246) (by decide +kernel)), rfl⟩
theorem kw_247 : (Jvm.Cond.selects "SheetTrees$Sheets" ({ cls := "SheetTrees$Sheets", name := "sheetOf", desc := "(I)I" } : Jvm.MethodName) ({ cls := "SheetTrees$Sheets", name := "sheetOf", desc := "(I)I" } : Jvm.MethodName)) ∈ ALLW := List.mem_filter.mpr ⟨List.mem_append_right _ (List.mem_of_getElem? (i := 247) (by decide +kernel)), rfl⟩
theorem kw_248 : (Jvm.Cond.code ({ cls := "SheetTrees$Sheets", name := "sheetOf", desc := "(I)I" } : Jvm.MethodName) prog_7_method_6_code (2 : Nat) (Option.some Jvm.ClassFile.FieldType.int)) ∈ ALLW := List.mem_filter.mpr ⟨List.mem_append_right _ (List.mem_of_getElem? (i := 248) (by decide +kernel)), rfl⟩
theorem kw_249 : (Jvm.Cond.methodLink "SheetTrees$Book" (69 : Nat) ({ cls := "SheetTrees$Book", name := "depthAt", desc := "(I)I" } : Jvm.MethodName)) ∈ ALLW := List.mem_filter.mpr ⟨List.mem_append_right _ (List.mem_of_getElem? (i := 249) (by decide +kernel)), rfl⟩
theorem kw_250 : (Jvm.Cond.instanceMethod ({ cls := "SheetTrees$Book", name := "depthAt", desc := "(I)I" } : Jvm.MethodName)) ∈ ALLW := List.mem_filter.mpr ⟨List.mem_append_right _ (List.mem_of_getElem? (i := 250) (by decide +kernel)), rfl⟩
theorem kw_251 : (Jvm.Cond.selects "SheetTrees$Book" ({ cls := "SheetTrees$Book", name := "depthAt", desc := "(I)I" } : Jvm.MethodName) ({ cls := "SheetTrees$Book", name := "depthAt", desc := "(I)I" } : Jvm.MethodName)) ∈ ALLW := List.mem_filter.mpr ⟨List.mem_append_right _ (List.mem_of_getElem? (i := 251) (by decide +kernel)), rfl⟩
theorem kw_252 : (Jvm.Cond.code ({ cls := "SheetTrees$Book", name := "depthAt", desc := "(I)I" } : Jvm.MethodName) prog_2_method_9_code (2 : Nat) (Option.some Jvm.ClassFile.FieldType.int)) ∈ ALLW := List.mem_filter.mpr ⟨List.mem_append_right _ (List.mem_of_getElem? (i := 252) (by decide +kernel)), rfl⟩
theorem kw_253 : (Jvm.Cond.fieldLink "SheetTrees" (12 : Nat) "SheetTrees" "journal" "LSheetTrees$Journal;") ∈ ALLW := List.mem_filter.mpr ⟨List.mem_append_right _ (List.mem_of_getElem? (i := 253) (by decide +kernel)), rfl⟩
theorem kw_254 : (Jvm.Cond.fieldLink "SheetTrees" (21 : Nat) "SheetTrees" "sheets" "LSheetTrees$Sheets;") ∈ ALLW := List.mem_filter.mpr ⟨List.mem_append_right _ (List.mem_of_getElem? (i := 254) (by decide +kernel)), rfl⟩
theorem kw_255 : (Jvm.Cond.fieldLink "SheetTrees" (30 : Nat) "SheetTrees" "book" "LSheetTrees$Book;") ∈ ALLW := List.mem_filter.mpr ⟨List.mem_append_right _ (List.mem_of_getElem? (i := 255) (by decide +kernel)), rfl⟩
theorem kw_256 : (Jvm.Cond.fieldLink "SheetTrees" (39 : Nat) "SheetTrees" "parts" "LSheetTrees$Parts;") ∈ ALLW := List.mem_filter.mpr ⟨List.mem_append_right _ (List.mem_of_getElem? (i := 256) (by decide +kernel)), rfl⟩
theorem kw_257 : (Jvm.Cond.fieldLink "SheetTrees" (46 : Nat) "SheetTrees" "variants" "LSheetTrees$Variants;") ∈ ALLW := List.mem_filter.mpr ⟨List.mem_append_right _ (List.mem_of_getElem? (i := 257) (by decide +kernel)), rfl⟩
theorem kw_258 : (Jvm.Cond.fieldLink "SheetTrees" (55 : Nat) "SheetTrees" "numbering" "LSheetTrees$Row;") ∈ ALLW := List.mem_filter.mpr ⟨List.mem_append_right _ (List.mem_of_getElem? (i := 258) (by decide +kernel)), rfl⟩
theorem kw_259 : (Jvm.Cond.fieldLink "SheetTrees" (59 : Nat) "SheetTrees" "lostNames" "I") ∈ ALLW := List.mem_filter.mpr ⟨List.mem_append_right _ (List.mem_of_getElem? (i := 259) (by decide +kernel)), rfl⟩
theorem kw_275 : (Jvm.Cond.methodLink "SheetTreesLaw" (83 : Nat) ({ cls := "SheetTrees", name := "sheet", desc := "()I" } : Jvm.MethodName)) ∈ ALLW := List.mem_filter.mpr ⟨List.mem_append_right _ (List.mem_of_getElem? (i := 275) (by decide +kernel)), rfl⟩
theorem kw_276 : (Jvm.Cond.instanceMethod ({ cls := "SheetTrees", name := "sheet", desc := "()I" } : Jvm.MethodName)) ∈ ALLW := List.mem_filter.mpr ⟨List.mem_append_right _ (List.mem_of_getElem? (i := 276) (by decide +kernel)), rfl⟩
theorem kw_277 : (Jvm.Cond.selects "SheetTrees" ({ cls := "SheetTrees", name := "sheet", desc := "()I" } : Jvm.MethodName) ({ cls := "SheetTrees", name := "sheet", desc := "()I" } : Jvm.MethodName)) ∈ ALLW := List.mem_filter.mpr ⟨List.mem_append_right _ (List.mem_of_getElem? (i := 277) (by decide +kernel)), rfl⟩
theorem kw_278 : (Jvm.Cond.code ({ cls := "SheetTrees", name := "sheet", desc := "()I" } : Jvm.MethodName) prog_1_method_2_code (2 : Nat) (Option.some Jvm.ClassFile.FieldType.int)) ∈ ALLW := List.mem_filter.mpr ⟨List.mem_append_right _ (List.mem_of_getElem? (i := 278) (by decide +kernel)), rfl⟩
theorem kw_279 : (Jvm.Cond.methodLink "SheetTrees" (66 : Nat) ({ cls := "SheetTrees$Sheets", name := "sheetCount", desc := "()I" } : Jvm.MethodName)) ∈ ALLW := List.mem_filter.mpr ⟨List.mem_append_right _ (List.mem_of_getElem? (i := 279) (by decide +kernel)), rfl⟩
theorem kw_280 : (Jvm.Cond.instanceMethod ({ cls := "SheetTrees$Sheets", name := "sheetCount", desc := "()I" } : Jvm.MethodName)) ∈ ALLW := List.mem_filter.mpr ⟨List.mem_append_right _ (List.mem_of_getElem? (i := 280) (by decide +kernel)), rfl⟩
theorem kw_281 : (Jvm.Cond.selects "SheetTrees$Sheets" ({ cls := "SheetTrees$Sheets", name := "sheetCount", desc := "()I" } : Jvm.MethodName) ({ cls := "SheetTrees$Sheets", name := "sheetCount", desc := "()I" } : Jvm.MethodName)) ∈ ALLW := List.mem_filter.mpr ⟨List.mem_append_right _ (List.mem_of_getElem? (i := 281) (by decide +kernel)), rfl⟩
theorem kw_282 : (Jvm.Cond.code ({ cls := "SheetTrees$Sheets", name := "sheetCount", desc := "()I" } : Jvm.MethodName) prog_7_method_2_code (1 : Nat) (Option.some Jvm.ClassFile.FieldType.int)) ∈ ALLW := List.mem_filter.mpr ⟨List.mem_append_right _ (List.mem_of_getElem? (i := 282) (by decide +kernel)), rfl⟩
theorem kw_283 : (Jvm.Cond.methodLink "SheetTrees" (70 : Nat) ({ cls := "SheetTrees$Sheets", name := "addSheet", desc := "()I" } : Jvm.MethodName)) ∈ ALLW := List.mem_filter.mpr ⟨List.mem_append_right _ (List.mem_of_getElem? (i := 283) (by decide +kernel)), rfl⟩
theorem kw_284 : (Jvm.Cond.instanceMethod ({ cls := "SheetTrees$Sheets", name := "addSheet", desc := "()I" } : Jvm.MethodName)) ∈ ALLW := List.mem_filter.mpr ⟨List.mem_append_right _ (List.mem_of_getElem? (i := 284) (by decide +kernel)), rfl⟩
theorem kw_285 : (Jvm.Cond.selects "SheetTrees$Sheets" ({ cls := "SheetTrees$Sheets", name := "addSheet", desc := "()I" } : Jvm.MethodName) ({ cls := "SheetTrees$Sheets", name := "addSheet", desc := "()I" } : Jvm.MethodName)) ∈ ALLW := List.mem_filter.mpr ⟨List.mem_append_right _ (List.mem_of_getElem? (i := 285) (by decide +kernel)), rfl⟩
theorem kw_286 : (Jvm.Cond.code ({ cls := "SheetTrees$Sheets", name := "addSheet", desc := "()I" } : Jvm.MethodName) prog_7_method_13_code (2 : Nat) (Option.some Jvm.ClassFile.FieldType.int)) ∈ ALLW := List.mem_filter.mpr ⟨List.mem_append_right _ (List.mem_of_getElem? (i := 286) (by decide +kernel)), rfl⟩
theorem kw_287 : (Jvm.Cond.methodLink "SheetTrees$Sheets" (45 : Nat) ({ cls := "SheetTrees$Sheets", name := "sheetCount", desc := "()I" } : Jvm.MethodName)) ∈ ALLW := List.mem_filter.mpr ⟨List.mem_append_right _ (List.mem_of_getElem? (i := 287) (by decide +kernel)), rfl⟩
theorem kw_288 : (Jvm.Cond.methodLink "SheetTrees$Sheets" (71 : Nat) ({ cls := "SheetTrees$Row", name := "set", desc := "(IJ)V" } : Jvm.MethodName)) ∈ ALLW := List.mem_filter.mpr ⟨List.mem_append_right _ (List.mem_of_getElem? (i := 288) (by decide +kernel)), rfl⟩
theorem kw_289 : (Jvm.Cond.instanceMethod ({ cls := "SheetTrees$Row", name := "set", desc := "(IJ)V" } : Jvm.MethodName)) ∈ ALLW := List.mem_filter.mpr ⟨List.mem_append_right _ (List.mem_of_getElem? (i := 289) (by decide +kernel)), rfl⟩
theorem kw_290 : (Jvm.Cond.selects "SheetTrees$Row" ({ cls := "SheetTrees$Row", name := "set", desc := "(IJ)V" } : Jvm.MethodName) ({ cls := "SheetTrees$Row", name := "set", desc := "(IJ)V" } : Jvm.MethodName)) ∈ ALLW := List.mem_filter.mpr ⟨List.mem_append_right _ (List.mem_of_getElem? (i := 290) (by decide +kernel)), rfl⟩
theorem kw_291 : (Jvm.Cond.code ({ cls := "SheetTrees$Row", name := "set", desc := "(IJ)V" } : Jvm.MethodName) prog_6_method_4_code (6 : Nat) (Option.none : Option Jvm.ClassFile.FieldType)) ∈ ALLW := List.mem_filter.mpr ⟨List.mem_append_right _ (List.mem_of_getElem? (i := 291) (by decide +kernel)), rfl⟩
theorem kw_292 : (Jvm.Cond.methodLink "SheetTrees$Row" (33 : Nat) ({ cls := "SheetTrees$Row", name := "longAt", desc := "(I)J" } : Jvm.MethodName)) ∈ ALLW := List.mem_filter.mpr ⟨List.mem_append_right _ (List.mem_of_getElem? (i := 292) (by decide +kernel)), rfl⟩
theorem kw_293 : (Jvm.Cond.instanceMethod ({ cls := "SheetTrees$Row", name := "longAt", desc := "(I)J" } : Jvm.MethodName)) ∈ ALLW := List.mem_filter.mpr ⟨List.mem_append_right _ (List.mem_of_getElem? (i := 293) (by decide +kernel)), rfl⟩
theorem kw_294 : (Jvm.Cond.selects "SheetTrees$Row" ({ cls := "SheetTrees$Row", name := "longAt", desc := "(I)J" } : Jvm.MethodName) ({ cls := "SheetTrees$Row", name := "longAt", desc := "(I)J" } : Jvm.MethodName)) ∈ ALLW := List.mem_filter.mpr ⟨List.mem_append_right _ (List.mem_of_getElem? (i := 294) (by decide +kernel)), rfl⟩
theorem kw_295 : (Jvm.Cond.code ({ cls := "SheetTrees$Row", name := "longAt", desc := "(I)J" } : Jvm.MethodName) prog_6_method_2_code (2 : Nat) (Option.some Jvm.ClassFile.FieldType.long)) ∈ ALLW := List.mem_filter.mpr ⟨List.mem_append_right _ (List.mem_of_getElem? (i := 295) (by decide +kernel)), rfl⟩
theorem kw_296 : (Jvm.Cond.constantLong "SheetTrees$Row" (31 : Nat) (-1 : Int64)) ∈ ALLW := List.mem_filter.mpr ⟨List.mem_append_right _ (List.mem_of_getElem? (i := 296) (by decide +kernel)), rfl⟩
theorem kw_297 : (Jvm.Cond.methodLink "SheetTrees$Row" (37 : Nat) ({ cls := "SheetTrees$Journal", name := "note", desc := "(LSheetTrees$Row;IJ)V" } : Jvm.MethodName)) ∈ ALLW := List.mem_filter.mpr ⟨List.mem_append_right _ (List.mem_of_getElem? (i := 297) (by decide +kernel)), rfl⟩
theorem kw_298 : (Jvm.Cond.instanceMethod ({ cls := "SheetTrees$Journal", name := "note", desc := "(LSheetTrees$Row;IJ)V" } : Jvm.MethodName)) ∈ ALLW := List.mem_filter.mpr ⟨List.mem_append_right _ (List.mem_of_getElem? (i := 298) (by decide +kernel)), rfl⟩
theorem kw_299 : (Jvm.Cond.selects "SheetTrees$Journal" ({ cls := "SheetTrees$Journal", name := "note", desc := "(LSheetTrees$Row;IJ)V" } : Jvm.MethodName) ({ cls := "SheetTrees$Journal", name := "note", desc := "(LSheetTrees$Row;IJ)V" } : Jvm.MethodName)) ∈ ALLW := List.mem_filter.mpr ⟨List.mem_append_right _ (List.mem_of_getElem? (i := 299) (by decide +kernel)), rfl⟩
theorem kw_300 : (Jvm.Cond.code ({ cls := "SheetTrees$Journal", name := "note", desc := "(LSheetTrees$Row;IJ)V" } : Jvm.MethodName) prog_4_method_2_code (5 : Nat) (Option.none : Option Jvm.ClassFile.FieldType)) ∈ ALLW := List.mem_filter.mpr ⟨List.mem_append_right _ (List.mem_of_getElem? (i := 300) (by decide +kernel)), rfl⟩
theorem kw_301 : (Jvm.Cond.instantiable "SheetTrees$Change" (4 : Nat)) ∈ ALLW := List.mem_filter.mpr ⟨List.mem_append_right _ (List.mem_of_getElem? (i := 301) (by decide +kernel)), rfl⟩
theorem kw_302 : (Jvm.Cond.methodLink "SheetTrees$Journal" (21 : Nat) ({ cls := "SheetTrees$Change", name := "<init>", desc := "(LSheetTrees$Row;IJLSheetTrees$Change;)V" } : Jvm.MethodName)) ∈ ALLW := List.mem_filter.mpr ⟨List.mem_append_right _ (List.mem_of_getElem? (i := 302) (by decide +kernel)), rfl⟩
theorem kw_303 : (Jvm.Cond.instanceMethod ({ cls := "SheetTrees$Change", name := "<init>", desc := "(LSheetTrees$Row;IJLSheetTrees$Change;)V" } : Jvm.MethodName)) ∈ ALLW := List.mem_filter.mpr ⟨List.mem_append_right _ (List.mem_of_getElem? (i := 303) (by decide +kernel)), rfl⟩
theorem kw_304 : (Jvm.Cond.code ({ cls := "SheetTrees$Change", name := "<init>", desc := "(LSheetTrees$Row;IJLSheetTrees$Change;)V" } : Jvm.MethodName) prog_3_method_1_code (6 : Nat) (Option.none : Option Jvm.ClassFile.FieldType)) ∈ ALLW := List.mem_filter.mpr ⟨List.mem_append_right _ (List.mem_of_getElem? (i := 304) (by decide +kernel)), rfl⟩
theorem kw_305 : (Jvm.Cond.methodLink "SheetTrees$Change" (1 : Nat) ({ cls := "java/lang/Object", name := "<init>", desc := "()V" } : Jvm.MethodName)) ∈ ALLW := List.mem_filter.mpr ⟨List.mem_append_right _ (List.mem_of_getElem? (i := 305) (by decide +kernel)), rfl⟩
theorem kw_306 : (Jvm.Cond.fieldLink "SheetTrees$Change" (7 : Nat) "SheetTrees$Change" "row" "LSheetTrees$Row;") ∈ ALLW := List.mem_filter.mpr ⟨List.mem_append_right _ (List.mem_of_getElem? (i := 306) (by decide +kernel)), rfl⟩
theorem kw_307 : (Jvm.Cond.fieldLink "SheetTrees$Change" (13 : Nat) "SheetTrees$Change" "index" "I") ∈ ALLW := List.mem_filter.mpr ⟨List.mem_append_right _ (List.mem_of_getElem? (i := 307) (by decide +kernel)), rfl⟩
theorem kw_308 : (Jvm.Cond.fieldLink "SheetTrees$Change" (17 : Nat) "SheetTrees$Change" "old" "J") ∈ ALLW := List.mem_filter.mpr ⟨List.mem_append_right _ (List.mem_of_getElem? (i := 308) (by decide +kernel)), rfl⟩
theorem kw_309 : (Jvm.Cond.fieldLink "SheetTrees$Change" (21 : Nat) "SheetTrees$Change" "before" "LSheetTrees$Change;") ∈ ALLW := List.mem_filter.mpr ⟨List.mem_append_right _ (List.mem_of_getElem? (i := 309) (by decide +kernel)), rfl⟩
theorem kw_320 : (Jvm.Cond.methodLink "SheetTrees$Row" (43 : Nat) ({ cls := "SheetTrees$Row", name := "restore", desc := "(IJ)V" } : Jvm.MethodName)) ∈ ALLW := List.mem_filter.mpr ⟨List.mem_append_right _ (List.mem_of_getElem? (i := 320) (by decide +kernel)), rfl⟩
theorem kw_321 : (Jvm.Cond.methodLink "SheetTrees" (73 : Nat) ({ cls := "SheetTrees$Journal", name := "keep", desc := "()V" } : Jvm.MethodName)) ∈ ALLW := List.mem_filter.mpr ⟨List.mem_append_right _ (List.mem_of_getElem? (i := 321) (by decide +kernel)), rfl⟩
theorem kw_322 : (Jvm.Cond.instanceMethod ({ cls := "SheetTrees$Journal", name := "keep", desc := "()V" } : Jvm.MethodName)) ∈ ALLW := List.mem_filter.mpr ⟨List.mem_append_right _ (List.mem_of_getElem? (i := 322) (by decide +kernel)), rfl⟩
theorem kw_323 : (Jvm.Cond.selects "SheetTrees$Journal" ({ cls := "SheetTrees$Journal", name := "keep", desc := "()V" } : Jvm.MethodName) ({ cls := "SheetTrees$Journal", name := "keep", desc := "()V" } : Jvm.MethodName)) ∈ ALLW := List.mem_filter.mpr ⟨List.mem_append_right _ (List.mem_of_getElem? (i := 323) (by decide +kernel)), rfl⟩
theorem kw_324 : (Jvm.Cond.code ({ cls := "SheetTrees$Journal", name := "keep", desc := "()V" } : Jvm.MethodName) prog_4_method_3_code (1 : Nat) (Option.none : Option Jvm.ClassFile.FieldType)) ∈ ALLW := List.mem_filter.mpr ⟨List.mem_append_right _ (List.mem_of_getElem? (i := 324) (by decide +kernel)), rfl⟩
theorem kw_325 : (Jvm.Cond.methodLink "SheetTrees$Journal" (28 : Nat) ({ cls := "SheetTrees$Journal", name := "putAct", desc := "(ILSheetTrees$Change;)V" } : Jvm.MethodName)) ∈ ALLW := List.mem_filter.mpr ⟨List.mem_append_right _ (List.mem_of_getElem? (i := 325) (by decide +kernel)), rfl⟩
theorem kw_327 : (Jvm.Cond.instanceMethod ({ cls := "SheetTrees$Journal", name := "putAct", desc := "(ILSheetTrees$Change;)V" } : Jvm.MethodName)) ∈ ALLW := List.mem_filter.mpr ⟨List.mem_append_right _ (List.mem_of_getElem? (i := 327) (by decide +kernel)), rfl⟩
theorem kw_328 : (Jvm.Cond.code ({ cls := "SheetTrees$Journal", name := "putAct", desc := "(ILSheetTrees$Change;)V" } : Jvm.MethodName) prog_4_method_7_code (3 : Nat) (Option.none : Option Jvm.ClassFile.FieldType)) ∈ ALLW := List.mem_filter.mpr ⟨List.mem_append_right _ (List.mem_of_getElem? (i := 328) (by decide +kernel)), rfl⟩
theorem kw_329 : (Jvm.Cond.methodLink "SheetTrees$Journal" (35 : Nat) ({ cls := "java/lang/Math", name := "min", desc := "(II)I" } : Jvm.MethodName)) ∈ ALLW := List.mem_filter.mpr ⟨List.mem_append_right _ (List.mem_of_getElem? (i := 329) (by decide +kernel)), rfl⟩
theorem kw_330 : (Jvm.Cond.static ({ cls := "java/lang/Math", name := "min", desc := "(II)I" } : Jvm.MethodName)) ∈ ALLW := List.mem_filter.mpr ⟨List.mem_append_right _ (List.mem_of_getElem? (i := 330) (by decide +kernel)), rfl⟩
theorem kw_331 : (Jvm.Cond.code ({ cls := "java/lang/Math", name := "min", desc := "(II)I" } : Jvm.MethodName) prog_14_method_69_code (2 : Nat) (Option.some Jvm.ClassFile.FieldType.int)) ∈ ALLW := List.mem_filter.mpr ⟨List.mem_append_right _ (List.mem_of_getElem? (i := 331) (by decide +kernel)), rfl⟩
theorem kw_332 : (Jvm.Cond.methodLink "SheetTreesLaw" (104 : Nat) ({ cls := "SheetTrees", name := "told", desc := "(I)I" } : Jvm.MethodName)) ∈ ALLW := List.mem_filter.mpr ⟨List.mem_append_right _ (List.mem_of_getElem? (i := 332) (by decide +kernel)), rfl⟩
theorem kw_333 : (Jvm.Cond.instanceMethod ({ cls := "SheetTrees", name := "told", desc := "(I)I" } : Jvm.MethodName)) ∈ ALLW := List.mem_filter.mpr ⟨List.mem_append_right _ (List.mem_of_getElem? (i := 333) (by decide +kernel)), rfl⟩
theorem kw_334 : (Jvm.Cond.selects "SheetTrees" ({ cls := "SheetTrees", name := "told", desc := "(I)I" } : Jvm.MethodName) ({ cls := "SheetTrees", name := "told", desc := "(I)I" } : Jvm.MethodName)) ∈ ALLW := List.mem_filter.mpr ⟨List.mem_append_right _ (List.mem_of_getElem? (i := 334) (by decide +kernel)), rfl⟩
theorem kw_335 : (Jvm.Cond.code ({ cls := "SheetTrees", name := "told", desc := "(I)I" } : Jvm.MethodName) prog_1_method_6_code (4 : Nat) (Option.some Jvm.ClassFile.FieldType.int)) ∈ ALLW := List.mem_filter.mpr ⟨List.mem_append_right _ (List.mem_of_getElem? (i := 335) (by decide +kernel)), rfl⟩
theorem kw_336 : (Jvm.Cond.methodLink "SheetTrees" (108 : Nat) ({ cls := "SheetTrees", name := "holdsName", desc := "(II)Z" } : Jvm.MethodName)) ∈ ALLW := List.mem_filter.mpr ⟨List.mem_append_right _ (List.mem_of_getElem? (i := 336) (by decide +kernel)), rfl⟩
theorem kw_337 : (Jvm.Cond.static ({ cls := "SheetTrees", name := "holdsName", desc := "(II)Z" } : Jvm.MethodName)) ∈ ALLW := List.mem_filter.mpr ⟨List.mem_append_right _ (List.mem_of_getElem? (i := 337) (by decide +kernel)), rfl⟩
theorem kw_338 : (Jvm.Cond.code ({ cls := "SheetTrees", name := "holdsName", desc := "(II)Z" } : Jvm.MethodName) prog_1_method_37_code (2 : Nat) (Option.some Jvm.ClassFile.FieldType.boolean)) ∈ ALLW := List.mem_filter.mpr ⟨List.mem_append_right _ (List.mem_of_getElem? (i := 338) (by decide +kernel)), rfl⟩
theorem kw_339 : (Jvm.Cond.methodLink "SheetTreesLaw" (149 : Nat) ({ cls := "SheetTrees", name := "undo", desc := "()Z" } : Jvm.MethodName)) ∈ ALLW := List.mem_filter.mpr ⟨List.mem_append_right _ (List.mem_of_getElem? (i := 339) (by decide +kernel)), rfl⟩
theorem kw_340 : (Jvm.Cond.instanceMethod ({ cls := "SheetTrees", name := "undo", desc := "()Z" } : Jvm.MethodName)) ∈ ALLW := List.mem_filter.mpr ⟨List.mem_append_right _ (List.mem_of_getElem? (i := 340) (by decide +kernel)), rfl⟩
theorem kw_341 : (Jvm.Cond.selects "SheetTrees" ({ cls := "SheetTrees", name := "undo", desc := "()Z" } : Jvm.MethodName) ({ cls := "SheetTrees", name := "undo", desc := "()Z" } : Jvm.MethodName)) ∈ ALLW := List.mem_filter.mpr ⟨List.mem_append_right _ (List.mem_of_getElem? (i := 341) (by decide +kernel)), rfl⟩
theorem kw_342 : (Jvm.Cond.code ({ cls := "SheetTrees", name := "undo", desc := "()Z" } : Jvm.MethodName) prog_1_method_19_code (1 : Nat) (Option.some Jvm.ClassFile.FieldType.boolean)) ∈ ALLW := List.mem_filter.mpr ⟨List.mem_append_right _ (List.mem_of_getElem? (i := 342) (by decide +kernel)), rfl⟩
theorem kw_343 : (Jvm.Cond.methodLink "SheetTrees" (197 : Nat) ({ cls := "SheetTrees$Journal", name := "stepBack", desc := "()Z" } : Jvm.MethodName)) ∈ ALLW := List.mem_filter.mpr ⟨List.mem_append_right _ (List.mem_of_getElem? (i := 343) (by decide +kernel)), rfl⟩
theorem kw_344 : (Jvm.Cond.instanceMethod ({ cls := "SheetTrees$Journal", name := "stepBack", desc := "()Z" } : Jvm.MethodName)) ∈ ALLW := List.mem_filter.mpr ⟨List.mem_append_right _ (List.mem_of_getElem? (i := 344) (by decide +kernel)), rfl⟩
theorem kw_345 : (Jvm.Cond.selects "SheetTrees$Journal" ({ cls := "SheetTrees$Journal", name := "stepBack", desc := "()Z" } : Jvm.MethodName) ({ cls := "SheetTrees$Journal", name := "stepBack", desc := "()Z" } : Jvm.MethodName)) ∈ ALLW := List.mem_filter.mpr ⟨List.mem_append_right _ (List.mem_of_getElem? (i := 345) (by decide +kernel)), rfl⟩
theorem kw_346 : (Jvm.Cond.code ({ cls := "SheetTrees$Journal", name := "stepBack", desc := "()Z" } : Jvm.MethodName) prog_4_method_5_code (1 : Nat) (Option.some Jvm.ClassFile.FieldType.boolean)) ∈ ALLW := List.mem_filter.mpr ⟨List.mem_append_right _ (List.mem_of_getElem? (i := 346) (by decide +kernel)), rfl⟩
theorem kw_347 : (Jvm.Cond.methodLink "SheetTrees$Journal" (47 : Nat) ({ cls := "SheetTrees$Journal", name := "getAct", desc := "(I)LSheetTrees$Change;" } : Jvm.MethodName)) ∈ ALLW := List.mem_filter.mpr ⟨List.mem_append_right _ (List.mem_of_getElem? (i := 347) (by decide +kernel)), rfl⟩
theorem kw_349 : (Jvm.Cond.instanceMethod ({ cls := "SheetTrees$Journal", name := "getAct", desc := "(I)LSheetTrees$Change;" } : Jvm.MethodName)) ∈ ALLW := List.mem_filter.mpr ⟨List.mem_append_right _ (List.mem_of_getElem? (i := 349) (by decide +kernel)), rfl⟩
theorem kw_350 : (Jvm.Cond.code ({ cls := "SheetTrees$Journal", name := "getAct", desc := "(I)LSheetTrees$Change;" } : Jvm.MethodName) prog_4_method_6_code (2 : Nat) (Option.some (Jvm.ClassFile.FieldType.object "SheetTrees$Change"))) ∈ ALLW := List.mem_filter.mpr ⟨List.mem_append_right _ (List.mem_of_getElem? (i := 350) (by decide +kernel)), rfl⟩
theorem kw_351 : (Jvm.Cond.methodLink "SheetTrees$Journal" (51 : Nat) ({ cls := "SheetTrees$Journal", name := "takeBack", desc := "()V" } : Jvm.MethodName)) ∈ ALLW := List.mem_filter.mpr ⟨List.mem_append_right _ (List.mem_of_getElem? (i := 351) (by decide +kernel)), rfl⟩
theorem kw_352 : (Jvm.Cond.instanceMethod ({ cls := "SheetTrees$Journal", name := "takeBack", desc := "()V" } : Jvm.MethodName)) ∈ ALLW := List.mem_filter.mpr ⟨List.mem_append_right _ (List.mem_of_getElem? (i := 352) (by decide +kernel)), rfl⟩
theorem kw_353 : (Jvm.Cond.selects "SheetTrees$Journal" ({ cls := "SheetTrees$Journal", name := "takeBack", desc := "()V" } : Jvm.MethodName) ({ cls := "SheetTrees$Journal", name := "takeBack", desc := "()V" } : Jvm.MethodName)) ∈ ALLW := List.mem_filter.mpr ⟨List.mem_append_right _ (List.mem_of_getElem? (i := 353) (by decide +kernel)), rfl⟩
theorem kw_354 : (Jvm.Cond.code ({ cls := "SheetTrees$Journal", name := "takeBack", desc := "()V" } : Jvm.MethodName) prog_4_method_4_code (2 : Nat) (Option.none : Option Jvm.ClassFile.FieldType)) ∈ ALLW := List.mem_filter.mpr ⟨List.mem_append_right _ (List.mem_of_getElem? (i := 354) (by decide +kernel)), rfl⟩
theorem kw_355 : (Jvm.Cond.methodLink "SheetTrees$Journal" (41 : Nat) ({ cls := "SheetTrees$Change", name := "takeBack", desc := "()V" } : Jvm.MethodName)) ∈ ALLW := List.mem_filter.mpr ⟨List.mem_append_right _ (List.mem_of_getElem? (i := 355) (by decide +kernel)), rfl⟩
theorem kw_356 : (Jvm.Cond.instanceMethod ({ cls := "SheetTrees$Change", name := "takeBack", desc := "()V" } : Jvm.MethodName)) ∈ ALLW := List.mem_filter.mpr ⟨List.mem_append_right _ (List.mem_of_getElem? (i := 356) (by decide +kernel)), rfl⟩
theorem kw_357 : (Jvm.Cond.selects "SheetTrees$Change" ({ cls := "SheetTrees$Change", name := "takeBack", desc := "()V" } : Jvm.MethodName) ({ cls := "SheetTrees$Change", name := "takeBack", desc := "()V" } : Jvm.MethodName)) ∈ ALLW := List.mem_filter.mpr ⟨List.mem_append_right _ (List.mem_of_getElem? (i := 357) (by decide +kernel)), rfl⟩
theorem kw_358 : (Jvm.Cond.code ({ cls := "SheetTrees$Change", name := "takeBack", desc := "()V" } : Jvm.MethodName) prog_3_method_2_code (1 : Nat) (Option.none : Option Jvm.ClassFile.FieldType)) ∈ ALLW := List.mem_filter.mpr ⟨List.mem_append_right _ (List.mem_of_getElem? (i := 358) (by decide +kernel)), rfl⟩
theorem kw_359 : (Jvm.Cond.methodLink "SheetTrees$Change" (25 : Nat) ({ cls := "SheetTrees$Row", name := "restore", desc := "(IJ)V" } : Jvm.MethodName)) ∈ ALLW := List.mem_filter.mpr ⟨List.mem_append_right _ (List.mem_of_getElem? (i := 359) (by decide +kernel)), rfl⟩
theorem kw_360 : (Jvm.Cond.methodLink "SheetTreesLaw" (154 : Nat) ({ cls := "SheetTrees", name := "pages", desc := "()I" } : Jvm.MethodName)) ∈ ALLW := List.mem_filter.mpr ⟨List.mem_append_right _ (List.mem_of_getElem? (i := 360) (by decide +kernel)), rfl⟩
theorem kw_361 : (Jvm.Cond.instanceMethod ({ cls := "SheetTrees", name := "pages", desc := "()I" } : Jvm.MethodName)) ∈ ALLW := List.mem_filter.mpr ⟨List.mem_append_right _ (List.mem_of_getElem? (i := 361) (by decide +kernel)), rfl⟩
theorem kw_362 : (Jvm.Cond.selects "SheetTrees" ({ cls := "SheetTrees", name := "pages", desc := "()I" } : Jvm.MethodName) ({ cls := "SheetTrees", name := "pages", desc := "()I" } : Jvm.MethodName)) ∈ ALLW := List.mem_filter.mpr ⟨List.mem_append_right _ (List.mem_of_getElem? (i := 362) (by decide +kernel)), rfl⟩
theorem kw_363 : (Jvm.Cond.code ({ cls := "SheetTrees", name := "pages", desc := "()I" } : Jvm.MethodName) prog_1_method_20_code (1 : Nat) (Option.some Jvm.ClassFile.FieldType.int)) ∈ ALLW := List.mem_filter.mpr ⟨List.mem_append_right _ (List.mem_of_getElem? (i := 363) (by decide +kernel)), rfl⟩
theorem kw_364 : (Jvm.Cond.methodLink "SheetTrees" (200 : Nat) ({ cls := "SheetTrees$Book", name := "count", desc := "()I" } : Jvm.MethodName)) ∈ ALLW := List.mem_filter.mpr ⟨List.mem_append_right _ (List.mem_of_getElem? (i := 364) (by decide +kernel)), rfl⟩
theorem kw_365 : (Jvm.Cond.instanceMethod ({ cls := "SheetTrees$Book", name := "count", desc := "()I" } : Jvm.MethodName)) ∈ ALLW := List.mem_filter.mpr ⟨List.mem_append_right _ (List.mem_of_getElem? (i := 365) (by decide +kernel)), rfl⟩
theorem kw_366 : (Jvm.Cond.selects "SheetTrees$Book" ({ cls := "SheetTrees$Book", name := "count", desc := "()I" } : Jvm.MethodName) ({ cls := "SheetTrees$Book", name := "count", desc := "()I" } : Jvm.MethodName)) ∈ ALLW := List.mem_filter.mpr ⟨List.mem_append_right _ (List.mem_of_getElem? (i := 366) (by decide +kernel)), rfl⟩
theorem kw_367 : (Jvm.Cond.code ({ cls := "SheetTrees$Book", name := "count", desc := "()I" } : Jvm.MethodName) prog_2_method_5_code (1 : Nat) (Option.some Jvm.ClassFile.FieldType.int)) ∈ ALLW := List.mem_filter.mpr ⟨List.mem_append_right _ (List.mem_of_getElem? (i := 367) (by decide +kernel)), rfl⟩
theorem kw_368 : (Jvm.Cond.methodLink "SheetTreesLaw" (88 : Nat) ({ cls := "SheetTreesLaw", name := "place", desc := "(LSheetTrees;II[J)I" } : Jvm.MethodName)) ∈ ALLW := List.mem_filter.mpr ⟨List.mem_append_right _ (List.mem_of_getElem? (i := 368) (by decide +kernel)), rfl⟩
theorem kw_369 : (Jvm.Cond.static ({ cls := "SheetTreesLaw", name := "place", desc := "(LSheetTrees;II[J)I" } : Jvm.MethodName)) ∈ ALLW := List.mem_filter.mpr ⟨List.mem_append_right _ (List.mem_of_getElem? (i := 369) (by decide +kernel)), rfl⟩
theorem kw_371 : (Jvm.Cond.classLink "SheetTreesLaw" (13 : Nat) "java/lang/IndexOutOfBoundsException") ∈ ALLW := List.mem_filter.mpr ⟨List.mem_append_right _ (List.mem_of_getElem? (i := 371) (by decide +kernel)), rfl⟩
theorem kw_372 : (Jvm.Cond.methodLink "SheetTreesLaw" (7 : Nat) ({ cls := "SheetTrees", name := "place", desc := "(II)I" } : Jvm.MethodName)) ∈ ALLW := List.mem_filter.mpr ⟨List.mem_append_right _ (List.mem_of_getElem? (i := 372) (by decide +kernel)), rfl⟩
theorem kw_373 : (Jvm.Cond.instanceMethod ({ cls := "SheetTrees", name := "place", desc := "(II)I" } : Jvm.MethodName)) ∈ ALLW := List.mem_filter.mpr ⟨List.mem_append_right _ (List.mem_of_getElem? (i := 373) (by decide +kernel)), rfl⟩
theorem kw_374 : (Jvm.Cond.selects "SheetTrees" ({ cls := "SheetTrees", name := "place", desc := "(II)I" } : Jvm.MethodName) ({ cls := "SheetTrees", name := "place", desc := "(II)I" } : Jvm.MethodName)) ∈ ALLW := List.mem_filter.mpr ⟨List.mem_append_right _ (List.mem_of_getElem? (i := 374) (by decide +kernel)), rfl⟩
theorem kw_375 : (Jvm.Cond.code ({ cls := "SheetTrees", name := "place", desc := "(II)I" } : Jvm.MethodName) prog_1_method_3_code (4 : Nat) (Option.some Jvm.ClassFile.FieldType.int)) ∈ ALLW := List.mem_filter.mpr ⟨List.mem_append_right _ (List.mem_of_getElem? (i := 375) (by decide +kernel)), rfl⟩
theorem kw_376 : (Jvm.Cond.methodLink "SheetTrees" (76 : Nat) ({ cls := "SheetTrees", name := "needSheet", desc := "(I)V" } : Jvm.MethodName)) ∈ ALLW := List.mem_filter.mpr ⟨List.mem_append_right _ (List.mem_of_getElem? (i := 376) (by decide +kernel)), rfl⟩
theorem kw_378 : (Jvm.Cond.instanceMethod ({ cls := "SheetTrees", name := "needSheet", desc := "(I)V" } : Jvm.MethodName)) ∈ ALLW := List.mem_filter.mpr ⟨List.mem_append_right _ (List.mem_of_getElem? (i := 378) (by decide +kernel)), rfl⟩
theorem kw_379 : (Jvm.Cond.code ({ cls := "SheetTrees", name := "needSheet", desc := "(I)V" } : Jvm.MethodName) prog_1_method_28_code (2 : Nat) (Option.none : Option Jvm.ClassFile.FieldType)) ∈ ALLW := List.mem_filter.mpr ⟨List.mem_append_right _ (List.mem_of_getElem? (i := 379) (by decide +kernel)), rfl⟩
theorem kw_380 : (Jvm.Cond.methodLink "SheetTrees" (255 : Nat) ({ cls := "SheetTrees$Sheets", name := "isSheet", desc := "(I)Z" } : Jvm.MethodName)) ∈ ALLW := List.mem_filter.mpr ⟨List.mem_append_right _ (List.mem_of_getElem? (i := 380) (by decide +kernel)), rfl⟩
theorem kw_381 : (Jvm.Cond.instanceMethod ({ cls := "SheetTrees$Sheets", name := "isSheet", desc := "(I)Z" } : Jvm.MethodName)) ∈ ALLW := List.mem_filter.mpr ⟨List.mem_append_right _ (List.mem_of_getElem? (i := 381) (by decide +kernel)), rfl⟩
theorem kw_382 : (Jvm.Cond.selects "SheetTrees$Sheets" ({ cls := "SheetTrees$Sheets", name := "isSheet", desc := "(I)Z" } : Jvm.MethodName) ({ cls := "SheetTrees$Sheets", name := "isSheet", desc := "(I)Z" } : Jvm.MethodName)) ∈ ALLW := List.mem_filter.mpr ⟨List.mem_append_right _ (List.mem_of_getElem? (i := 382) (by decide +kernel)), rfl⟩
theorem kw_383 : (Jvm.Cond.code ({ cls := "SheetTrees$Sheets", name := "isSheet", desc := "(I)Z" } : Jvm.MethodName) prog_7_method_4_code (2 : Nat) (Option.some Jvm.ClassFile.FieldType.boolean)) ∈ ALLW := List.mem_filter.mpr ⟨List.mem_append_right _ (List.mem_of_getElem? (i := 383) (by decide +kernel)), rfl⟩
theorem kw_384 : (Jvm.Cond.classLink "SheetTrees" (216 : Nat) "java/lang/IndexOutOfBoundsException") ∈ ALLW := List.mem_filter.mpr ⟨List.mem_append_right _ (List.mem_of_getElem? (i := 384) (by decide +kernel)), rfl⟩
theorem kw_385 : (Jvm.Cond.instantiable "java/lang/IndexOutOfBoundsException" (6 : Nat)) ∈ ALLW := List.mem_filter.mpr ⟨List.mem_append_right _ (List.mem_of_getElem? (i := 385) (by decide +kernel)), rfl⟩
theorem kw_393 : (Jvm.Cond.selects "java/lang/IndexOutOfBoundsException" ({ cls := "java/lang/Throwable", name := "fillInStackTrace", desc := "(I)Ljava/lang/Throwable;" } : Jvm.MethodName) ({ cls := "java/lang/Throwable", name := "fillInStackTrace", desc := "(I)Ljava/lang/Throwable;" } : Jvm.MethodName)) ∈ ALLW := List.mem_filter.mpr ⟨List.mem_append_right _ (List.mem_of_getElem? (i := 393) (by decide +kernel)), rfl⟩
theorem kw_394 : (Jvm.Cond.selects "java/lang/IndexOutOfBoundsException" ({ cls := "java/lang/Throwable", name := "fillInStackTrace", desc := "()Ljava/lang/Throwable;" } : Jvm.MethodName) ({ cls := "java/lang/Throwable", name := "fillInStackTrace", desc := "()Ljava/lang/Throwable;" } : Jvm.MethodName)) ∈ ALLW := List.mem_filter.mpr ⟨List.mem_append_right _ (List.mem_of_getElem? (i := 394) (by decide +kernel)), rfl⟩
theorem kw_405 : (Jvm.Cond.fieldLink "java/lang/Throwable" (198 : Nat) "java/lang/Throwable" "backtrace" "Ljava/lang/Object;") ∈ ALLW := List.mem_filter.mpr ⟨List.mem_append_right _ (List.mem_of_getElem? (i := 405) (by decide +kernel)), rfl⟩
theorem kw_407 : (Jvm.Cond.instanceMethod ({ cls := "java/lang/Throwable", name := "<init>", desc := "()V" } : Jvm.MethodName)) ∈ ALLW := List.mem_filter.mpr ⟨List.mem_append_right _ (List.mem_of_getElem? (i := 407) (by decide +kernel)), rfl⟩
theorem kw_408 : (Jvm.Cond.code ({ cls := "java/lang/Throwable", name := "<init>", desc := "()V" } : Jvm.MethodName) prog_17_method_1_code (1 : Nat) (Option.none : Option Jvm.ClassFile.FieldType)) ∈ ALLW := List.mem_filter.mpr ⟨List.mem_append_right _ (List.mem_of_getElem? (i := 408) (by decide +kernel)), rfl⟩
theorem kw_409 : (Jvm.Cond.methodLink "java/lang/Throwable" (1 : Nat) ({ cls := "java/lang/Object", name := "<init>", desc := "()V" } : Jvm.MethodName)) ∈ ALLW := List.mem_filter.mpr ⟨List.mem_append_right _ (List.mem_of_getElem? (i := 409) (by decide +kernel)), rfl⟩
theorem kw_410 : (Jvm.Cond.fieldLink "java/lang/Throwable" (13 : Nat) "java/lang/Throwable" "UNASSIGNED_STACK" "[Ljava/lang/StackTraceElement;") ∈ ALLW := List.mem_filter.mpr ⟨List.mem_append_right _ (List.mem_of_getElem? (i := 410) (by decide +kernel)), rfl⟩
theorem kw_412 : (Jvm.Cond.fieldLink "java/lang/Throwable" (20 : Nat) "java/lang/Throwable" "SUPPRESSED_SENTINEL" "Ljava/util/List;") ∈ ALLW := List.mem_filter.mpr ⟨List.mem_append_right _ (List.mem_of_getElem? (i := 412) (by decide +kernel)), rfl⟩
theorem kw_414 : (Jvm.Cond.methodLink "java/lang/Throwable" (27 : Nat) ({ cls := "java/lang/Throwable", name := "fillInStackTrace", desc := "()Ljava/lang/Throwable;" } : Jvm.MethodName)) ∈ ALLW := List.mem_filter.mpr ⟨List.mem_append_right _ (List.mem_of_getElem? (i := 414) (by decide +kernel)), rfl⟩
theorem kw_415 : (Jvm.Cond.instanceMethod ({ cls := "java/lang/Throwable", name := "fillInStackTrace", desc := "()Ljava/lang/Throwable;" } : Jvm.MethodName)) ∈ ALLW := List.mem_filter.mpr ⟨List.mem_append_right _ (List.mem_of_getElem? (i := 415) (by decide +kernel)), rfl⟩
theorem kw_417 : (Jvm.Cond.selects "java/lang/IllegalArgumentException" ({ cls := "java/lang/Throwable", name := "fillInStackTrace", desc := "()Ljava/lang/Throwable;" } : Jvm.MethodName) ({ cls := "java/lang/Throwable", name := "fillInStackTrace", desc := "()Ljava/lang/Throwable;" } : Jvm.MethodName)) ∈ ALLW := List.mem_filter.mpr ⟨List.mem_append_right _ (List.mem_of_getElem? (i := 417) (by decide +kernel)), rfl⟩
theorem kw_419 : (Jvm.Cond.methodLink "java/lang/Throwable" (202 : Nat) ({ cls := "java/lang/Throwable", name := "fillInStackTrace", desc := "(I)Ljava/lang/Throwable;" } : Jvm.MethodName)) ∈ ALLW := List.mem_filter.mpr ⟨List.mem_append_right _ (List.mem_of_getElem? (i := 419) (by decide +kernel)), rfl⟩
theorem kw_421 : (Jvm.Cond.instanceMethod ({ cls := "java/lang/Throwable", name := "fillInStackTrace", desc := "(I)Ljava/lang/Throwable;" } : Jvm.MethodName)) ∈ ALLW := List.mem_filter.mpr ⟨List.mem_append_right _ (List.mem_of_getElem? (i := 421) (by decide +kernel)), rfl⟩
theorem kw_422 : (Jvm.Cond.instantiable "java/lang/Throwable" (6 : Nat)) ∈ ALLW := List.mem_filter.mpr ⟨List.mem_append_right _ (List.mem_of_getElem? (i := 422) (by decide +kernel)), rfl⟩
theorem kw_425 : (Jvm.Cond.methodLink "SheetTrees" (220 : Nat) ({ cls := "java/lang/IndexOutOfBoundsException", name := "<init>", desc := "(Ljava/lang/String;)V" } : Jvm.MethodName)) ∈ ALLW := List.mem_filter.mpr ⟨List.mem_append_right _ (List.mem_of_getElem? (i := 425) (by decide +kernel)), rfl⟩
theorem kw_426 : (Jvm.Cond.instanceMethod ({ cls := "java/lang/IndexOutOfBoundsException", name := "<init>", desc := "(Ljava/lang/String;)V" } : Jvm.MethodName)) ∈ ALLW := List.mem_filter.mpr ⟨List.mem_append_right _ (List.mem_of_getElem? (i := 426) (by decide +kernel)), rfl⟩
theorem kw_427 : (Jvm.Cond.code ({ cls := "java/lang/IndexOutOfBoundsException", name := "<init>", desc := "(Ljava/lang/String;)V" } : Jvm.MethodName) prog_13_method_2_code (2 : Nat) (Option.none : Option Jvm.ClassFile.FieldType)) ∈ ALLW := List.mem_filter.mpr ⟨List.mem_append_right _ (List.mem_of_getElem? (i := 427) (by decide +kernel)), rfl⟩
theorem kw_428 : (Jvm.Cond.methodLink "java/lang/IndexOutOfBoundsException" (7 : Nat) ({ cls := "java/lang/RuntimeException", name := "<init>", desc := "(Ljava/lang/String;)V" } : Jvm.MethodName)) ∈ ALLW := List.mem_filter.mpr ⟨List.mem_append_right _ (List.mem_of_getElem? (i := 428) (by decide +kernel)), rfl⟩
theorem kw_429 : (Jvm.Cond.instanceMethod ({ cls := "java/lang/RuntimeException", name := "<init>", desc := "(Ljava/lang/String;)V" } : Jvm.MethodName)) ∈ ALLW := List.mem_filter.mpr ⟨List.mem_append_right _ (List.mem_of_getElem? (i := 429) (by decide +kernel)), rfl⟩
theorem kw_430 : (Jvm.Cond.code ({ cls := "java/lang/RuntimeException", name := "<init>", desc := "(Ljava/lang/String;)V" } : Jvm.MethodName) prog_15_method_2_code (2 : Nat) (Option.none : Option Jvm.ClassFile.FieldType)) ∈ ALLW := List.mem_filter.mpr ⟨List.mem_append_right _ (List.mem_of_getElem? (i := 430) (by decide +kernel)), rfl⟩
theorem kw_431 : (Jvm.Cond.methodLink "java/lang/RuntimeException" (7 : Nat) ({ cls := "java/lang/Exception", name := "<init>", desc := "(Ljava/lang/String;)V" } : Jvm.MethodName)) ∈ ALLW := List.mem_filter.mpr ⟨List.mem_append_right _ (List.mem_of_getElem? (i := 431) (by decide +kernel)), rfl⟩
theorem kw_432 : (Jvm.Cond.instanceMethod ({ cls := "java/lang/Exception", name := "<init>", desc := "(Ljava/lang/String;)V" } : Jvm.MethodName)) ∈ ALLW := List.mem_filter.mpr ⟨List.mem_append_right _ (List.mem_of_getElem? (i := 432) (by decide +kernel)), rfl⟩
theorem kw_433 : (Jvm.Cond.code ({ cls := "java/lang/Exception", name := "<init>", desc := "(Ljava/lang/String;)V" } : Jvm.MethodName) prog_11_method_2_code (2 : Nat) (Option.none : Option Jvm.ClassFile.FieldType)) ∈ ALLW := List.mem_filter.mpr ⟨List.mem_append_right _ (List.mem_of_getElem? (i := 433) (by decide +kernel)), rfl⟩
theorem kw_434 : (Jvm.Cond.methodLink "java/lang/Exception" (7 : Nat) ({ cls := "java/lang/Throwable", name := "<init>", desc := "(Ljava/lang/String;)V" } : Jvm.MethodName)) ∈ ALLW := List.mem_filter.mpr ⟨List.mem_append_right _ (List.mem_of_getElem? (i := 434) (by decide +kernel)), rfl⟩
theorem kw_435 : (Jvm.Cond.instanceMethod ({ cls := "java/lang/Throwable", name := "<init>", desc := "(Ljava/lang/String;)V" } : Jvm.MethodName)) ∈ ALLW := List.mem_filter.mpr ⟨List.mem_append_right _ (List.mem_of_getElem? (i := 435) (by decide +kernel)), rfl⟩
theorem kw_436 : (Jvm.Cond.code ({ cls := "java/lang/Throwable", name := "<init>", desc := "(Ljava/lang/String;)V" } : Jvm.MethodName) prog_17_method_2_code (2 : Nat) (Option.none : Option Jvm.ClassFile.FieldType)) ∈ ALLW := List.mem_filter.mpr ⟨List.mem_append_right _ (List.mem_of_getElem? (i := 436) (by decide +kernel)), rfl⟩
theorem kw_437 : (Jvm.Cond.fieldLink "java/lang/Throwable" (198 : Nat) "java/lang/Throwable" "backtrace" "Ljava/lang/Object;") ∈ ALLW := List.mem_filter.mpr ⟨List.mem_append_right _ (List.mem_of_getElem? (i := 437) (by decide +kernel)), rfl⟩
theorem kw_438 : (Jvm.Cond.fieldLink "java/lang/Throwable" (31 : Nat) "java/lang/Throwable" "detailMessage" "Ljava/lang/String;") ∈ ALLW := List.mem_filter.mpr ⟨List.mem_append_right _ (List.mem_of_getElem? (i := 438) (by decide +kernel)), rfl⟩
theorem kw_439 : (Jvm.Cond.fieldLink "java/lang/Throwable" (7 : Nat) "java/lang/Throwable" "cause" "Ljava/lang/Throwable;") ∈ ALLW := List.mem_filter.mpr ⟨List.mem_append_right _ (List.mem_of_getElem? (i := 439) (by decide +kernel)), rfl⟩
theorem kw_440 : (Jvm.Cond.fieldLink "java/lang/Throwable" (17 : Nat) "java/lang/Throwable" "stackTrace" "[Ljava/lang/StackTraceElement;") ∈ ALLW := List.mem_filter.mpr ⟨List.mem_append_right _ (List.mem_of_getElem? (i := 440) (by decide +kernel)), rfl⟩
theorem kw_441 : (Jvm.Cond.fieldLink "java/lang/Throwable" (24 : Nat) "java/lang/Throwable" "suppressedExceptions" "Ljava/util/List;") ∈ ALLW := List.mem_filter.mpr ⟨List.mem_append_right _ (List.mem_of_getElem? (i := 441) (by decide +kernel)), rfl⟩
theorem kw_450 : (Jvm.Cond.arrayClass Jvm.ClassFile.FieldType.byte) ∈ ALLW := List.mem_filter.mpr ⟨List.mem_append_right _ (List.mem_of_getElem? (i := 450) (by decide +kernel)), rfl⟩
theorem kw_451 : (Jvm.Cond.methodLink "SheetTrees" (80 : Nat) ({ cls := "SheetTrees$Sheets", name := "placementsLeft", desc := "()I" } : Jvm.MethodName)) ∈ ALLW := List.mem_filter.mpr ⟨List.mem_append_right _ (List.mem_of_getElem? (i := 451) (by decide +kernel)), rfl⟩
theorem kw_452 : (Jvm.Cond.instanceMethod ({ cls := "SheetTrees$Sheets", name := "placementsLeft", desc := "()I" } : Jvm.MethodName)) ∈ ALLW := List.mem_filter.mpr ⟨List.mem_append_right _ (List.mem_of_getElem? (i := 452) (by decide +kernel)), rfl⟩
theorem kw_453 : (Jvm.Cond.selects "SheetTrees$Sheets" ({ cls := "SheetTrees$Sheets", name := "placementsLeft", desc := "()I" } : Jvm.MethodName) ({ cls := "SheetTrees$Sheets", name := "placementsLeft", desc := "()I" } : Jvm.MethodName)) ∈ ALLW := List.mem_filter.mpr ⟨List.mem_append_right _ (List.mem_of_getElem? (i := 453) (by decide +kernel)), rfl⟩
theorem kw_454 : (Jvm.Cond.code ({ cls := "SheetTrees$Sheets", name := "placementsLeft", desc := "()I" } : Jvm.MethodName) prog_7_method_3_code (1 : Nat) (Option.some Jvm.ClassFile.FieldType.int)) ∈ ALLW := List.mem_filter.mpr ⟨List.mem_append_right _ (List.mem_of_getElem? (i := 454) (by decide +kernel)), rfl⟩
theorem kw_455 : (Jvm.Cond.methodLink "SheetTrees" (83 : Nat) ({ cls := "SheetTrees$Sheets", name := "holds", desc := "(II)Z" } : Jvm.MethodName)) ∈ ALLW := List.mem_filter.mpr ⟨List.mem_append_right _ (List.mem_of_getElem? (i := 455) (by decide +kernel)), rfl⟩
theorem kw_456 : (Jvm.Cond.instanceMethod ({ cls := "SheetTrees$Sheets", name := "holds", desc := "(II)Z" } : Jvm.MethodName)) ∈ ALLW := List.mem_filter.mpr ⟨List.mem_append_right _ (List.mem_of_getElem? (i := 456) (by decide +kernel)), rfl⟩
theorem kw_457 : (Jvm.Cond.selects "SheetTrees$Sheets" ({ cls := "SheetTrees$Sheets", name := "holds", desc := "(II)Z" } : Jvm.MethodName) ({ cls := "SheetTrees$Sheets", name := "holds", desc := "(II)Z" } : Jvm.MethodName)) ∈ ALLW := List.mem_filter.mpr ⟨List.mem_append_right _ (List.mem_of_getElem? (i := 457) (by decide +kernel)), rfl⟩
theorem kw_458 : (Jvm.Cond.code ({ cls := "SheetTrees$Sheets", name := "holds", desc := "(II)Z" } : Jvm.MethodName) prog_7_method_11_code (6 : Nat) (Option.some Jvm.ClassFile.FieldType.boolean)) ∈ ALLW := List.mem_filter.mpr ⟨List.mem_append_right _ (List.mem_of_getElem? (i := 458) (by decide +kernel)), rfl⟩
theorem kw_459 : (Jvm.Cond.methodLink "SheetTrees$Sheets" (61 : Nat) ({ cls := "SheetTrees$Sheets", name := "withPlacedOn", desc := "(I)I" } : Jvm.MethodName)) ∈ ALLW := List.mem_filter.mpr ⟨List.mem_append_right _ (List.mem_of_getElem? (i := 459) (by decide +kernel)), rfl⟩
theorem kw_461 : (Jvm.Cond.instanceMethod ({ cls := "SheetTrees$Sheets", name := "withPlacedOn", desc := "(I)I" } : Jvm.MethodName)) ∈ ALLW := List.mem_filter.mpr ⟨List.mem_append_right _ (List.mem_of_getElem? (i := 461) (by decide +kernel)), rfl⟩
theorem kw_462 : (Jvm.Cond.code ({ cls := "SheetTrees$Sheets", name := "withPlacedOn", desc := "(I)I" } : Jvm.MethodName) prog_7_method_12_code (4 : Nat) (Option.some Jvm.ClassFile.FieldType.int)) ∈ ALLW := List.mem_filter.mpr ⟨List.mem_append_right _ (List.mem_of_getElem? (i := 462) (by decide +kernel)), rfl⟩
theorem kw_463 : (Jvm.Cond.methodLink "SheetTrees$Sheets" (64 : Nat) ({ cls := "SheetTrees$Sheets", name := "isPlacement", desc := "(I)Z" } : Jvm.MethodName)) ∈ ALLW := List.mem_filter.mpr ⟨List.mem_append_right _ (List.mem_of_getElem? (i := 463) (by decide +kernel)), rfl⟩
theorem kw_464 : (Jvm.Cond.instanceMethod ({ cls := "SheetTrees$Sheets", name := "isPlacement", desc := "(I)Z" } : Jvm.MethodName)) ∈ ALLW := List.mem_filter.mpr ⟨List.mem_append_right _ (List.mem_of_getElem? (i := 464) (by decide +kernel)), rfl⟩
theorem kw_465 : (Jvm.Cond.selects "SheetTrees$Sheets" ({ cls := "SheetTrees$Sheets", name := "isPlacement", desc := "(I)Z" } : Jvm.MethodName) ({ cls := "SheetTrees$Sheets", name := "isPlacement", desc := "(I)Z" } : Jvm.MethodName)) ∈ ALLW := List.mem_filter.mpr ⟨List.mem_append_right _ (List.mem_of_getElem? (i := 465) (by decide +kernel)), rfl⟩
theorem kw_466 : (Jvm.Cond.code ({ cls := "SheetTrees$Sheets", name := "isPlacement", desc := "(I)Z" } : Jvm.MethodName) prog_7_method_5_code (2 : Nat) (Option.some Jvm.ClassFile.FieldType.boolean)) ∈ ALLW := List.mem_filter.mpr ⟨List.mem_append_right _ (List.mem_of_getElem? (i := 466) (by decide +kernel)), rfl⟩
theorem kw_467 : (Jvm.Cond.methodLink "SheetTrees$Sheets" (49 : Nat) ({ cls := "SheetTrees$Sheets", name := "parentOf", desc := "(I)I" } : Jvm.MethodName)) ∈ ALLW := List.mem_filter.mpr ⟨List.mem_append_right _ (List.mem_of_getElem? (i := 467) (by decide +kernel)), rfl⟩
theorem kw_468 : (Jvm.Cond.instanceMethod ({ cls := "SheetTrees$Sheets", name := "parentOf", desc := "(I)I" } : Jvm.MethodName)) ∈ ALLW := List.mem_filter.mpr ⟨List.mem_append_right _ (List.mem_of_getElem? (i := 468) (by decide +kernel)), rfl⟩
theorem kw_469 : (Jvm.Cond.selects "SheetTrees$Sheets" ({ cls := "SheetTrees$Sheets", name := "parentOf", desc := "(I)I" } : Jvm.MethodName) ({ cls := "SheetTrees$Sheets", name := "parentOf", desc := "(I)I" } : Jvm.MethodName)) ∈ ALLW := List.mem_filter.mpr ⟨List.mem_append_right _ (List.mem_of_getElem? (i := 469) (by decide +kernel)), rfl⟩
theorem kw_470 : (Jvm.Cond.code ({ cls := "SheetTrees$Sheets", name := "parentOf", desc := "(I)I" } : Jvm.MethodName) prog_7_method_7_code (2 : Nat) (Option.some Jvm.ClassFile.FieldType.int)) ∈ ALLW := List.mem_filter.mpr ⟨List.mem_append_right _ (List.mem_of_getElem? (i := 470) (by decide +kernel)), rfl⟩
theorem kw_471 : (Jvm.Cond.methodLink "SheetTrees$Sheets" (68 : Nat) ({ cls := "SheetTrees$Sheets", name := "sheetOf", desc := "(I)I" } : Jvm.MethodName)) ∈ ALLW := List.mem_filter.mpr ⟨List.mem_append_right _ (List.mem_of_getElem? (i := 471) (by decide +kernel)), rfl⟩
theorem kw_472 : (Jvm.Cond.methodLink "SheetTrees" (87 : Nat) ({ cls := "SheetTrees$Sheets", name := "addPlacement", desc := "(II)I" } : Jvm.MethodName)) ∈ ALLW := List.mem_filter.mpr ⟨List.mem_append_right _ (List.mem_of_getElem? (i := 472) (by decide +kernel)), rfl⟩
theorem kw_473 : (Jvm.Cond.instanceMethod ({ cls := "SheetTrees$Sheets", name := "addPlacement", desc := "(II)I" } : Jvm.MethodName)) ∈ ALLW := List.mem_filter.mpr ⟨List.mem_append_right _ (List.mem_of_getElem? (i := 473) (by decide +kernel)), rfl⟩
theorem kw_474 : (Jvm.Cond.selects "SheetTrees$Sheets" ({ cls := "SheetTrees$Sheets", name := "addPlacement", desc := "(II)I" } : Jvm.MethodName) ({ cls := "SheetTrees$Sheets", name := "addPlacement", desc := "(II)I" } : Jvm.MethodName)) ∈ ALLW := List.mem_filter.mpr ⟨List.mem_append_right _ (List.mem_of_getElem? (i := 474) (by decide +kernel)), rfl⟩
theorem kw_475 : (Jvm.Cond.code ({ cls := "SheetTrees$Sheets", name := "addPlacement", desc := "(II)I" } : Jvm.MethodName) prog_7_method_16_code (4 : Nat) (Option.some Jvm.ClassFile.FieldType.int)) ∈ ALLW := List.mem_filter.mpr ⟨List.mem_append_right _ (List.mem_of_getElem? (i := 475) (by decide +kernel)), rfl⟩
theorem kw_476 : (Jvm.Cond.methodLink "SheetTrees$Sheets" (92 : Nat) ({ cls := "SheetTrees$Sheets", name := "append", desc := "(II)V" } : Jvm.MethodName)) ∈ ALLW := List.mem_filter.mpr ⟨List.mem_append_right _ (List.mem_of_getElem? (i := 476) (by decide +kernel)), rfl⟩
theorem kw_478 : (Jvm.Cond.instanceMethod ({ cls := "SheetTrees$Sheets", name := "append", desc := "(II)V" } : Jvm.MethodName)) ∈ ALLW := List.mem_filter.mpr ⟨List.mem_append_right _ (List.mem_of_getElem? (i := 478) (by decide +kernel)), rfl⟩
theorem kw_479 : (Jvm.Cond.code ({ cls := "SheetTrees$Sheets", name := "append", desc := "(II)V" } : Jvm.MethodName) prog_7_method_19_code (3 : Nat) (Option.none : Option Jvm.ClassFile.FieldType)) ∈ ALLW := List.mem_filter.mpr ⟨List.mem_append_right _ (List.mem_of_getElem? (i := 479) (by decide +kernel)), rfl⟩
theorem kw_480 : (Jvm.Cond.methodLink "SheetTrees$Sheets" (103 : Nat) ({ cls := "SheetTrees$Sheets", name := "cellBefore", desc := "(II)I" } : Jvm.MethodName)) ∈ ALLW := List.mem_filter.mpr ⟨List.mem_append_right _ (List.mem_of_getElem? (i := 480) (by decide +kernel)), rfl⟩
theorem kw_482 : (Jvm.Cond.instanceMethod ({ cls := "SheetTrees$Sheets", name := "cellBefore", desc := "(II)I" } : Jvm.MethodName)) ∈ ALLW := List.mem_filter.mpr ⟨List.mem_append_right _ (List.mem_of_getElem? (i := 482) (by decide +kernel)), rfl⟩
theorem kw_483 : (Jvm.Cond.code ({ cls := "SheetTrees$Sheets", name := "cellBefore", desc := "(II)I" } : Jvm.MethodName) prog_7_method_21_code (5 : Nat) (Option.some Jvm.ClassFile.FieldType.int)) ∈ ALLW := List.mem_filter.mpr ⟨List.mem_append_right _ (List.mem_of_getElem? (i := 483) (by decide +kernel)), rfl⟩
theorem kw_484 : (Jvm.Cond.methodLink "SheetTrees" (91 : Nat) ({ cls := "SheetTrees", name := "settle", desc := "()Z" } : Jvm.MethodName)) ∈ ALLW := List.mem_filter.mpr ⟨List.mem_append_right _ (List.mem_of_getElem? (i := 484) (by decide +kernel)), rfl⟩
theorem kw_486 : (Jvm.Cond.instanceMethod ({ cls := "SheetTrees", name := "settle", desc := "()Z" } : Jvm.MethodName)) ∈ ALLW := List.mem_filter.mpr ⟨List.mem_append_right _ (List.mem_of_getElem? (i := 486) (by decide +kernel)), rfl⟩
theorem kw_487 : (Jvm.Cond.code ({ cls := "SheetTrees", name := "settle", desc := "()Z" } : Jvm.MethodName) prog_1_method_25_code (1 : Nat) (Option.some Jvm.ClassFile.FieldType.boolean)) ∈ ALLW := List.mem_filter.mpr ⟨List.mem_append_right _ (List.mem_of_getElem? (i := 487) (by decide +kernel)), rfl⟩
theorem kw_488 : (Jvm.Cond.methodLink "SheetTrees" (237 : Nat) ({ cls := "SheetTrees$Book", name := "isWithinLimit", desc := "()Z" } : Jvm.MethodName)) ∈ ALLW := List.mem_filter.mpr ⟨List.mem_append_right _ (List.mem_of_getElem? (i := 488) (by decide +kernel)), rfl⟩
theorem kw_489 : (Jvm.Cond.instanceMethod ({ cls := "SheetTrees$Book", name := "isWithinLimit", desc := "()Z" } : Jvm.MethodName)) ∈ ALLW := List.mem_filter.mpr ⟨List.mem_append_right _ (List.mem_of_getElem? (i := 489) (by decide +kernel)), rfl⟩
theorem kw_490 : (Jvm.Cond.selects "SheetTrees$Book" ({ cls := "SheetTrees$Book", name := "isWithinLimit", desc := "()Z" } : Jvm.MethodName) ({ cls := "SheetTrees$Book", name := "isWithinLimit", desc := "()Z" } : Jvm.MethodName)) ∈ ALLW := List.mem_filter.mpr ⟨List.mem_append_right _ (List.mem_of_getElem? (i := 490) (by decide +kernel)), rfl⟩
theorem kw_491 : (Jvm.Cond.code ({ cls := "SheetTrees$Book", name := "isWithinLimit", desc := "()Z" } : Jvm.MethodName) prog_2_method_4_code (1 : Nat) (Option.some Jvm.ClassFile.FieldType.boolean)) ∈ ALLW := List.mem_filter.mpr ⟨List.mem_append_right _ (List.mem_of_getElem? (i := 491) (by decide +kernel)), rfl⟩
theorem kw_492 : (Jvm.Cond.methodLink "SheetTrees" (240 : Nat) ({ cls := "SheetTrees$Journal", name := "takeBack", desc := "()V" } : Jvm.MethodName)) ∈ ALLW := List.mem_filter.mpr ⟨List.mem_append_right _ (List.mem_of_getElem? (i := 492) (by decide +kernel)), rfl⟩
theorem kw_493 : (Jvm.Cond.methodLink "SheetTreesLaw" (97 : Nat) ({ cls := "SheetTreesLaw", name := "remove", desc := "(LSheetTrees;I[J)I" } : Jvm.MethodName)) ∈ ALLW := List.mem_filter.mpr ⟨List.mem_append_right _ (List.mem_of_getElem? (i := 493) (by decide +kernel)), rfl⟩
theorem kw_494 : (Jvm.Cond.static ({ cls := "SheetTreesLaw", name := "remove", desc := "(LSheetTrees;I[J)I" } : Jvm.MethodName)) ∈ ALLW := List.mem_filter.mpr ⟨List.mem_append_right _ (List.mem_of_getElem? (i := 494) (by decide +kernel)), rfl⟩
theorem kw_496 : (Jvm.Cond.methodLink "SheetTreesLaw" (15 : Nat) ({ cls := "SheetTrees", name := "remove", desc := "(I)Z" } : Jvm.MethodName)) ∈ ALLW := List.mem_filter.mpr ⟨List.mem_append_right _ (List.mem_of_getElem? (i := 496) (by decide +kernel)), rfl⟩
theorem kw_497 : (Jvm.Cond.instanceMethod ({ cls := "SheetTrees", name := "remove", desc := "(I)Z" } : Jvm.MethodName)) ∈ ALLW := List.mem_filter.mpr ⟨List.mem_append_right _ (List.mem_of_getElem? (i := 497) (by decide +kernel)), rfl⟩
theorem kw_498 : (Jvm.Cond.selects "SheetTrees" ({ cls := "SheetTrees", name := "remove", desc := "(I)Z" } : Jvm.MethodName) ({ cls := "SheetTrees", name := "remove", desc := "(I)Z" } : Jvm.MethodName)) ∈ ALLW := List.mem_filter.mpr ⟨List.mem_append_right _ (List.mem_of_getElem? (i := 498) (by decide +kernel)), rfl⟩
theorem kw_499 : (Jvm.Cond.code ({ cls := "SheetTrees", name := "remove", desc := "(I)Z" } : Jvm.MethodName) prog_1_method_4_code (2 : Nat) (Option.some Jvm.ClassFile.FieldType.boolean)) ∈ ALLW := List.mem_filter.mpr ⟨List.mem_append_right _ (List.mem_of_getElem? (i := 499) (by decide +kernel)), rfl⟩
theorem kw_500 : (Jvm.Cond.methodLink "SheetTrees" (95 : Nat) ({ cls := "SheetTrees", name := "needPlacement", desc := "(I)V" } : Jvm.MethodName)) ∈ ALLW := List.mem_filter.mpr ⟨List.mem_append_right _ (List.mem_of_getElem? (i := 500) (by decide +kernel)), rfl⟩
theorem kw_502 : (Jvm.Cond.instanceMethod ({ cls := "SheetTrees", name := "needPlacement", desc := "(I)V" } : Jvm.MethodName)) ∈ ALLW := List.mem_filter.mpr ⟨List.mem_append_right _ (List.mem_of_getElem? (i := 502) (by decide +kernel)), rfl⟩
theorem kw_503 : (Jvm.Cond.code ({ cls := "SheetTrees", name := "needPlacement", desc := "(I)V" } : Jvm.MethodName) prog_1_method_29_code (2 : Nat) (Option.none : Option Jvm.ClassFile.FieldType)) ∈ ALLW := List.mem_filter.mpr ⟨List.mem_append_right _ (List.mem_of_getElem? (i := 503) (by decide +kernel)), rfl⟩
theorem kw_504 : (Jvm.Cond.methodLink "SheetTrees" (261 : Nat) ({ cls := "SheetTrees$Sheets", name := "isPlacement", desc := "(I)Z" } : Jvm.MethodName)) ∈ ALLW := List.mem_filter.mpr ⟨List.mem_append_right _ (List.mem_of_getElem? (i := 504) (by decide +kernel)), rfl⟩
theorem kw_506 : (Jvm.Cond.methodLink "SheetTrees" (98 : Nat) ({ cls := "SheetTrees$Sheets", name := "takeAway", desc := "(I)V" } : Jvm.MethodName)) ∈ ALLW := List.mem_filter.mpr ⟨List.mem_append_right _ (List.mem_of_getElem? (i := 506) (by decide +kernel)), rfl⟩
theorem kw_507 : (Jvm.Cond.instanceMethod ({ cls := "SheetTrees$Sheets", name := "takeAway", desc := "(I)V" } : Jvm.MethodName)) ∈ ALLW := List.mem_filter.mpr ⟨List.mem_append_right _ (List.mem_of_getElem? (i := 507) (by decide +kernel)), rfl⟩
theorem kw_508 : (Jvm.Cond.selects "SheetTrees$Sheets" ({ cls := "SheetTrees$Sheets", name := "takeAway", desc := "(I)V" } : Jvm.MethodName) ({ cls := "SheetTrees$Sheets", name := "takeAway", desc := "(I)V" } : Jvm.MethodName)) ∈ ALLW := List.mem_filter.mpr ⟨List.mem_append_right _ (List.mem_of_getElem? (i := 508) (by decide +kernel)), rfl⟩
theorem kw_509 : (Jvm.Cond.code ({ cls := "SheetTrees$Sheets", name := "takeAway", desc := "(I)V" } : Jvm.MethodName) prog_7_method_17_code (2 : Nat) (Option.none : Option Jvm.ClassFile.FieldType)) ∈ ALLW := List.mem_filter.mpr ⟨List.mem_append_right _ (List.mem_of_getElem? (i := 509) (by decide +kernel)), rfl⟩
theorem kw_510 : (Jvm.Cond.methodLink "SheetTrees$Sheets" (95 : Nat) ({ cls := "SheetTrees$Sheets", name := "unlink", desc := "(I)V" } : Jvm.MethodName)) ∈ ALLW := List.mem_filter.mpr ⟨List.mem_append_right _ (List.mem_of_getElem? (i := 510) (by decide +kernel)), rfl⟩
theorem kw_512 : (Jvm.Cond.instanceMethod ({ cls := "SheetTrees$Sheets", name := "unlink", desc := "(I)V" } : Jvm.MethodName)) ∈ ALLW := List.mem_filter.mpr ⟨List.mem_append_right _ (List.mem_of_getElem? (i := 512) (by decide +kernel)), rfl⟩
theorem kw_513 : (Jvm.Cond.code ({ cls := "SheetTrees$Sheets", name := "unlink", desc := "(I)V" } : Jvm.MethodName) prog_7_method_20_code (2 : Nat) (Option.none : Option Jvm.ClassFile.FieldType)) ∈ ALLW := List.mem_filter.mpr ⟨List.mem_append_right _ (List.mem_of_getElem? (i := 513) (by decide +kernel)), rfl⟩
theorem kw_514 : (Jvm.Cond.methodLink "SheetTrees$Sheets" (58 : Nat) ({ cls := "SheetTrees$Sheets", name := "nextOf", desc := "(I)I" } : Jvm.MethodName)) ∈ ALLW := List.mem_filter.mpr ⟨List.mem_append_right _ (List.mem_of_getElem? (i := 514) (by decide +kernel)), rfl⟩
theorem kw_515 : (Jvm.Cond.methodLink "SheetTreesLaw" (101 : Nat) ({ cls := "SheetTreesLaw", name := "move", desc := "(LSheetTrees;II[J)I" } : Jvm.MethodName)) ∈ ALLW := List.mem_filter.mpr ⟨List.mem_append_right _ (List.mem_of_getElem? (i := 515) (by decide +kernel)), rfl⟩
theorem kw_516 : (Jvm.Cond.static ({ cls := "SheetTreesLaw", name := "move", desc := "(LSheetTrees;II[J)I" } : Jvm.MethodName)) ∈ ALLW := List.mem_filter.mpr ⟨List.mem_append_right _ (List.mem_of_getElem? (i := 516) (by decide +kernel)), rfl⟩
theorem kw_518 : (Jvm.Cond.methodLink "SheetTreesLaw" (19 : Nat) ({ cls := "SheetTrees", name := "move", desc := "(II)Z" } : Jvm.MethodName)) ∈ ALLW := List.mem_filter.mpr ⟨List.mem_append_right _ (List.mem_of_getElem? (i := 518) (by decide +kernel)), rfl⟩
theorem kw_519 : (Jvm.Cond.instanceMethod ({ cls := "SheetTrees", name := "move", desc := "(II)Z" } : Jvm.MethodName)) ∈ ALLW := List.mem_filter.mpr ⟨List.mem_append_right _ (List.mem_of_getElem? (i := 519) (by decide +kernel)), rfl⟩
theorem kw_520 : (Jvm.Cond.selects "SheetTrees" ({ cls := "SheetTrees", name := "move", desc := "(II)Z" } : Jvm.MethodName) ({ cls := "SheetTrees", name := "move", desc := "(II)Z" } : Jvm.MethodName)) ∈ ALLW := List.mem_filter.mpr ⟨List.mem_append_right _ (List.mem_of_getElem? (i := 520) (by decide +kernel)), rfl⟩
theorem kw_521 : (Jvm.Cond.code ({ cls := "SheetTrees", name := "move", desc := "(II)Z" } : Jvm.MethodName) prog_1_method_5_code (4 : Nat) (Option.some Jvm.ClassFile.FieldType.boolean)) ∈ ALLW := List.mem_filter.mpr ⟨List.mem_append_right _ (List.mem_of_getElem? (i := 521) (by decide +kernel)), rfl⟩
theorem kw_522 : (Jvm.Cond.methodLink "SheetTrees" (101 : Nat) ({ cls := "SheetTrees$Sheets", name := "sheetOf", desc := "(I)I" } : Jvm.MethodName)) ∈ ALLW := List.mem_filter.mpr ⟨List.mem_append_right _ (List.mem_of_getElem? (i := 522) (by decide +kernel)), rfl⟩
theorem kw_523 : (Jvm.Cond.methodLink "SheetTrees" (105 : Nat) ({ cls := "SheetTrees$Sheets", name := "bringTo", desc := "(II)I" } : Jvm.MethodName)) ∈ ALLW := List.mem_filter.mpr ⟨List.mem_append_right _ (List.mem_of_getElem? (i := 523) (by decide +kernel)), rfl⟩
theorem kw_524 : (Jvm.Cond.instanceMethod ({ cls := "SheetTrees$Sheets", name := "bringTo", desc := "(II)I" } : Jvm.MethodName)) ∈ ALLW := List.mem_filter.mpr ⟨List.mem_append_right _ (List.mem_of_getElem? (i := 524) (by decide +kernel)), rfl⟩
theorem kw_525 : (Jvm.Cond.selects "SheetTrees$Sheets" ({ cls := "SheetTrees$Sheets", name := "bringTo", desc := "(II)I" } : Jvm.MethodName) ({ cls := "SheetTrees$Sheets", name := "bringTo", desc := "(II)I" } : Jvm.MethodName)) ∈ ALLW := List.mem_filter.mpr ⟨List.mem_append_right _ (List.mem_of_getElem? (i := 525) (by decide +kernel)), rfl⟩
theorem kw_526 : (Jvm.Cond.code ({ cls := "SheetTrees$Sheets", name := "bringTo", desc := "(II)I" } : Jvm.MethodName) prog_7_method_18_code (6 : Nat) (Option.some Jvm.ClassFile.FieldType.int)) ∈ ALLW := List.mem_filter.mpr ⟨List.mem_append_right _ (List.mem_of_getElem? (i := 526) (by decide +kernel)), rfl⟩
theorem kw_527 : (Jvm.Cond.methodLink "SheetTrees$Sheets" (85 : Nat) ({ cls := "SheetTrees$Sheets", name := "jointOf", desc := "(II)I" } : Jvm.MethodName)) ∈ ALLW := List.mem_filter.mpr ⟨List.mem_append_right _ (List.mem_of_getElem? (i := 527) (by decide +kernel)), rfl⟩
theorem kw_528 : (Jvm.Cond.instanceMethod ({ cls := "SheetTrees$Sheets", name := "jointOf", desc := "(II)I" } : Jvm.MethodName)) ∈ ALLW := List.mem_filter.mpr ⟨List.mem_append_right _ (List.mem_of_getElem? (i := 528) (by decide +kernel)), rfl⟩
theorem kw_529 : (Jvm.Cond.selects "SheetTrees$Sheets" ({ cls := "SheetTrees$Sheets", name := "jointOf", desc := "(II)I" } : Jvm.MethodName) ({ cls := "SheetTrees$Sheets", name := "jointOf", desc := "(II)I" } : Jvm.MethodName)) ∈ ALLW := List.mem_filter.mpr ⟨List.mem_append_right _ (List.mem_of_getElem? (i := 529) (by decide +kernel)), rfl⟩
theorem kw_530 : (Jvm.Cond.code ({ cls := "SheetTrees$Sheets", name := "jointOf", desc := "(II)I" } : Jvm.MethodName) prog_7_method_25_code (3 : Nat) (Option.some Jvm.ClassFile.FieldType.int)) ∈ ALLW := List.mem_filter.mpr ⟨List.mem_append_right _ (List.mem_of_getElem? (i := 530) (by decide +kernel)), rfl⟩
theorem kw_531 : (Jvm.Cond.methodLink "SheetTrees$Sheets" (99 : Nat) ({ cls := "SheetTrees$Sheets", name := "tells", desc := "(II)Z" } : Jvm.MethodName)) ∈ ALLW := List.mem_filter.mpr ⟨List.mem_append_right _ (List.mem_of_getElem? (i := 531) (by decide +kernel)), rfl⟩
theorem kw_532 : (Jvm.Cond.instanceMethod ({ cls := "SheetTrees$Sheets", name := "tells", desc := "(II)Z" } : Jvm.MethodName)) ∈ ALLW := List.mem_filter.mpr ⟨List.mem_append_right _ (List.mem_of_getElem? (i := 532) (by decide +kernel)), rfl⟩
theorem kw_533 : (Jvm.Cond.selects "SheetTrees$Sheets" ({ cls := "SheetTrees$Sheets", name := "tells", desc := "(II)Z" } : Jvm.MethodName) ({ cls := "SheetTrees$Sheets", name := "tells", desc := "(II)Z" } : Jvm.MethodName)) ∈ ALLW := List.mem_filter.mpr ⟨List.mem_append_right _ (List.mem_of_getElem? (i := 533) (by decide +kernel)), rfl⟩
theorem kw_534 : (Jvm.Cond.code ({ cls := "SheetTrees$Sheets", name := "tells", desc := "(II)Z" } : Jvm.MethodName) prog_7_method_23_code (3 : Nat) (Option.some Jvm.ClassFile.FieldType.boolean)) ∈ ALLW := List.mem_filter.mpr ⟨List.mem_append_right _ (List.mem_of_getElem? (i := 534) (by decide +kernel)), rfl⟩
theorem kw_536 : (Jvm.Cond.methodLink "SheetTrees$Sheets" (88 : Nat) ({ cls := "SheetTrees$Sheets", name := "setJoint", desc := "(III)V" } : Jvm.MethodName)) ∈ ALLW := List.mem_filter.mpr ⟨List.mem_append_right _ (List.mem_of_getElem? (i := 536) (by decide +kernel)), rfl⟩
theorem kw_537 : (Jvm.Cond.instanceMethod ({ cls := "SheetTrees$Sheets", name := "setJoint", desc := "(III)V" } : Jvm.MethodName)) ∈ ALLW := List.mem_filter.mpr ⟨List.mem_append_right _ (List.mem_of_getElem? (i := 537) (by decide +kernel)), rfl⟩
theorem kw_538 : (Jvm.Cond.selects "SheetTrees$Sheets" ({ cls := "SheetTrees$Sheets", name := "setJoint", desc := "(III)V" } : Jvm.MethodName) ({ cls := "SheetTrees$Sheets", name := "setJoint", desc := "(III)V" } : Jvm.MethodName)) ∈ ALLW := List.mem_filter.mpr ⟨List.mem_append_right _ (List.mem_of_getElem? (i := 538) (by decide +kernel)), rfl⟩
theorem kw_539 : (Jvm.Cond.code ({ cls := "SheetTrees$Sheets", name := "setJoint", desc := "(III)V" } : Jvm.MethodName) prog_7_method_26_code (4 : Nat) (Option.none : Option Jvm.ClassFile.FieldType)) ∈ ALLW := List.mem_filter.mpr ⟨List.mem_append_right _ (List.mem_of_getElem? (i := 539) (by decide +kernel)), rfl⟩
theorem kw_540 : (Jvm.Cond.methodLink "SheetTreesLaw" (108 : Nat) ({ cls := "SheetTreesLaw", name := "port", desc := "(LSheetTrees;II[J)I" } : Jvm.MethodName)) ∈ ALLW := List.mem_filter.mpr ⟨List.mem_append_right _ (List.mem_of_getElem? (i := 540) (by decide +kernel)), rfl⟩
theorem kw_541 : (Jvm.Cond.static ({ cls := "SheetTreesLaw", name := "port", desc := "(LSheetTrees;II[J)I" } : Jvm.MethodName)) ∈ ALLW := List.mem_filter.mpr ⟨List.mem_append_right _ (List.mem_of_getElem? (i := 541) (by decide +kernel)), rfl⟩
theorem kw_543 : (Jvm.Cond.methodLink "SheetTreesLaw" (23 : Nat) ({ cls := "SheetTrees", name := "port", desc := "(II)Z" } : Jvm.MethodName)) ∈ ALLW := List.mem_filter.mpr ⟨List.mem_append_right _ (List.mem_of_getElem? (i := 543) (by decide +kernel)), rfl⟩
theorem kw_544 : (Jvm.Cond.instanceMethod ({ cls := "SheetTrees", name := "port", desc := "(II)Z" } : Jvm.MethodName)) ∈ ALLW := List.mem_filter.mpr ⟨List.mem_append_right _ (List.mem_of_getElem? (i := 544) (by decide +kernel)), rfl⟩
theorem kw_545 : (Jvm.Cond.selects "SheetTrees" ({ cls := "SheetTrees", name := "port", desc := "(II)Z" } : Jvm.MethodName) ({ cls := "SheetTrees", name := "port", desc := "(II)Z" } : Jvm.MethodName)) ∈ ALLW := List.mem_filter.mpr ⟨List.mem_append_right _ (List.mem_of_getElem? (i := 545) (by decide +kernel)), rfl⟩
theorem kw_546 : (Jvm.Cond.code ({ cls := "SheetTrees", name := "port", desc := "(II)Z" } : Jvm.MethodName) prog_1_method_7_code (3 : Nat) (Option.some Jvm.ClassFile.FieldType.boolean)) ∈ ALLW := List.mem_filter.mpr ⟨List.mem_append_right _ (List.mem_of_getElem? (i := 546) (by decide +kernel)), rfl⟩
theorem kw_547 : (Jvm.Cond.methodLink "SheetTrees" (111 : Nat) ({ cls := "SheetTrees", name := "needName", desc := "(I)V" } : Jvm.MethodName)) ∈ ALLW := List.mem_filter.mpr ⟨List.mem_append_right _ (List.mem_of_getElem? (i := 547) (by decide +kernel)), rfl⟩
theorem kw_549 : (Jvm.Cond.instanceMethod ({ cls := "SheetTrees", name := "needName", desc := "(I)V" } : Jvm.MethodName)) ∈ ALLW := List.mem_filter.mpr ⟨List.mem_append_right _ (List.mem_of_getElem? (i := 549) (by decide +kernel)), rfl⟩
theorem kw_550 : (Jvm.Cond.code ({ cls := "SheetTrees", name := "needName", desc := "(I)V" } : Jvm.MethodName) prog_1_method_30_code (2 : Nat) (Option.none : Option Jvm.ClassFile.FieldType)) ∈ ALLW := List.mem_filter.mpr ⟨List.mem_append_right _ (List.mem_of_getElem? (i := 550) (by decide +kernel)), rfl⟩
theorem kw_552 : (Jvm.Cond.methodLink "SheetTrees" (114 : Nat) ({ cls := "SheetTrees$Sheets", name := "tells", desc := "(II)Z" } : Jvm.MethodName)) ∈ ALLW := List.mem_filter.mpr ⟨List.mem_append_right _ (List.mem_of_getElem? (i := 552) (by decide +kernel)), rfl⟩
theorem kw_553 : (Jvm.Cond.methodLink "SheetTrees" (117 : Nat) ({ cls := "SheetTrees$Sheets", name := "addName", desc := "(II)V" } : Jvm.MethodName)) ∈ ALLW := List.mem_filter.mpr ⟨List.mem_append_right _ (List.mem_of_getElem? (i := 553) (by decide +kernel)), rfl⟩
theorem kw_554 : (Jvm.Cond.instanceMethod ({ cls := "SheetTrees$Sheets", name := "addName", desc := "(II)V" } : Jvm.MethodName)) ∈ ALLW := List.mem_filter.mpr ⟨List.mem_append_right _ (List.mem_of_getElem? (i := 554) (by decide +kernel)), rfl⟩
theorem kw_555 : (Jvm.Cond.selects "SheetTrees$Sheets" ({ cls := "SheetTrees$Sheets", name := "addName", desc := "(II)V" } : Jvm.MethodName) ({ cls := "SheetTrees$Sheets", name := "addName", desc := "(II)V" } : Jvm.MethodName)) ∈ ALLW := List.mem_filter.mpr ⟨List.mem_append_right _ (List.mem_of_getElem? (i := 555) (by decide +kernel)), rfl⟩
theorem kw_556 : (Jvm.Cond.code ({ cls := "SheetTrees$Sheets", name := "addName", desc := "(II)V" } : Jvm.MethodName) prog_7_method_24_code (3 : Nat) (Option.none : Option Jvm.ClassFile.FieldType)) ∈ ALLW := List.mem_filter.mpr ⟨List.mem_append_right _ (List.mem_of_getElem? (i := 556) (by decide +kernel)), rfl⟩
theorem kw_557 : (Jvm.Cond.methodLink "SheetTreesLaw" (111 : Nat) ({ cls := "SheetTreesLaw", name := "join", desc := "(LSheetTrees;III[J)I" } : Jvm.MethodName)) ∈ ALLW := List.mem_filter.mpr ⟨List.mem_append_right _ (List.mem_of_getElem? (i := 557) (by decide +kernel)), rfl⟩
theorem kw_558 : (Jvm.Cond.static ({ cls := "SheetTreesLaw", name := "join", desc := "(LSheetTrees;III[J)I" } : Jvm.MethodName)) ∈ ALLW := List.mem_filter.mpr ⟨List.mem_append_right _ (List.mem_of_getElem? (i := 558) (by decide +kernel)), rfl⟩
theorem kw_560 : (Jvm.Cond.methodLink "SheetTreesLaw" (26 : Nat) ({ cls := "SheetTrees", name := "join", desc := "(III)Z" } : Jvm.MethodName)) ∈ ALLW := List.mem_filter.mpr ⟨List.mem_append_right _ (List.mem_of_getElem? (i := 560) (by decide +kernel)), rfl⟩
theorem kw_561 : (Jvm.Cond.instanceMethod ({ cls := "SheetTrees", name := "join", desc := "(III)Z" } : Jvm.MethodName)) ∈ ALLW := List.mem_filter.mpr ⟨List.mem_append_right _ (List.mem_of_getElem? (i := 561) (by decide +kernel)), rfl⟩
theorem kw_562 : (Jvm.Cond.selects "SheetTrees" ({ cls := "SheetTrees", name := "join", desc := "(III)Z" } : Jvm.MethodName) ({ cls := "SheetTrees", name := "join", desc := "(III)Z" } : Jvm.MethodName)) ∈ ALLW := List.mem_filter.mpr ⟨List.mem_append_right _ (List.mem_of_getElem? (i := 562) (by decide +kernel)), rfl⟩
theorem kw_563 : (Jvm.Cond.code ({ cls := "SheetTrees", name := "join", desc := "(III)Z" } : Jvm.MethodName) prog_1_method_8_code (4 : Nat) (Option.some Jvm.ClassFile.FieldType.boolean)) ∈ ALLW := List.mem_filter.mpr ⟨List.mem_append_right _ (List.mem_of_getElem? (i := 563) (by decide +kernel)), rfl⟩
theorem kw_564 : (Jvm.Cond.methodLink "SheetTrees" (121 : Nat) ({ cls := "SheetTrees$Sheets", name := "parentOf", desc := "(I)I" } : Jvm.MethodName)) ∈ ALLW := List.mem_filter.mpr ⟨List.mem_append_right _ (List.mem_of_getElem? (i := 564) (by decide +kernel)), rfl⟩
theorem kw_565 : (Jvm.Cond.methodLink "SheetTrees" (124 : Nat) ({ cls := "SheetTrees$Sheets", name := "jointOf", desc := "(II)I" } : Jvm.MethodName)) ∈ ALLW := List.mem_filter.mpr ⟨List.mem_append_right _ (List.mem_of_getElem? (i := 565) (by decide +kernel)), rfl⟩
theorem kw_566 : (Jvm.Cond.methodLink "SheetTrees" (127 : Nat) ({ cls := "SheetTrees$Sheets", name := "setJoint", desc := "(III)V" } : Jvm.MethodName)) ∈ ALLW := List.mem_filter.mpr ⟨List.mem_append_right _ (List.mem_of_getElem? (i := 566) (by decide +kernel)), rfl⟩
theorem kw_567 : (Jvm.Cond.methodLink "SheetTreesLaw" (115 : Nat) ({ cls := "SheetTreesLaw", name := "joined", desc := "(LSheetTrees;II[J)I" } : Jvm.MethodName)) ∈ ALLW := List.mem_filter.mpr ⟨List.mem_append_right _ (List.mem_of_getElem? (i := 567) (by decide +kernel)), rfl⟩
theorem kw_568 : (Jvm.Cond.static ({ cls := "SheetTreesLaw", name := "joined", desc := "(LSheetTrees;II[J)I" } : Jvm.MethodName)) ∈ ALLW := List.mem_filter.mpr ⟨List.mem_append_right _ (List.mem_of_getElem? (i := 568) (by decide +kernel)), rfl⟩
theorem kw_570 : (Jvm.Cond.methodLink "SheetTreesLaw" (30 : Nat) ({ cls := "SheetTrees", name := "joined", desc := "(II)I" } : Jvm.MethodName)) ∈ ALLW := List.mem_filter.mpr ⟨List.mem_append_right _ (List.mem_of_getElem? (i := 570) (by decide +kernel)), rfl⟩
theorem kw_571 : (Jvm.Cond.instanceMethod ({ cls := "SheetTrees", name := "joined", desc := "(II)I" } : Jvm.MethodName)) ∈ ALLW := List.mem_filter.mpr ⟨List.mem_append_right _ (List.mem_of_getElem? (i := 571) (by decide +kernel)), rfl⟩
theorem kw_572 : (Jvm.Cond.selects "SheetTrees" ({ cls := "SheetTrees", name := "joined", desc := "(II)I" } : Jvm.MethodName) ({ cls := "SheetTrees", name := "joined", desc := "(II)I" } : Jvm.MethodName)) ∈ ALLW := List.mem_filter.mpr ⟨List.mem_append_right _ (List.mem_of_getElem? (i := 572) (by decide +kernel)), rfl⟩
theorem kw_573 : (Jvm.Cond.code ({ cls := "SheetTrees", name := "joined", desc := "(II)I" } : Jvm.MethodName) prog_1_method_9_code (3 : Nat) (Option.some Jvm.ClassFile.FieldType.int)) ∈ ALLW := List.mem_filter.mpr ⟨List.mem_append_right _ (List.mem_of_getElem? (i := 573) (by decide +kernel)), rfl⟩
theorem kw_574 : (Jvm.Cond.methodLink "SheetTreesLaw" (118 : Nat) ({ cls := "SheetTreesLaw", name := "part", desc := "(LSheetTrees;II[J)I" } : Jvm.MethodName)) ∈ ALLW := List.mem_filter.mpr ⟨List.mem_append_right _ (List.mem_of_getElem? (i := 574) (by decide +kernel)), rfl⟩
theorem kw_575 : (Jvm.Cond.static ({ cls := "SheetTreesLaw", name := "part", desc := "(LSheetTrees;II[J)I" } : Jvm.MethodName)) ∈ ALLW := List.mem_filter.mpr ⟨List.mem_append_right _ (List.mem_of_getElem? (i := 575) (by decide +kernel)), rfl⟩
theorem kw_577 : (Jvm.Cond.classLink "SheetTreesLaw" (36 : Nat) "java/lang/IllegalArgumentException") ∈ ALLW := List.mem_filter.mpr ⟨List.mem_append_right _ (List.mem_of_getElem? (i := 577) (by decide +kernel)), rfl⟩
theorem kw_578 : (Jvm.Cond.methodLink "SheetTreesLaw" (33 : Nat) ({ cls := "SheetTrees", name := "part", desc := "(II)I" } : Jvm.MethodName)) ∈ ALLW := List.mem_filter.mpr ⟨List.mem_append_right _ (List.mem_of_getElem? (i := 578) (by decide +kernel)), rfl⟩
theorem kw_579 : (Jvm.Cond.instanceMethod ({ cls := "SheetTrees", name := "part", desc := "(II)I" } : Jvm.MethodName)) ∈ ALLW := List.mem_filter.mpr ⟨List.mem_append_right _ (List.mem_of_getElem? (i := 579) (by decide +kernel)), rfl⟩
theorem kw_580 : (Jvm.Cond.selects "SheetTrees" ({ cls := "SheetTrees", name := "part", desc := "(II)I" } : Jvm.MethodName) ({ cls := "SheetTrees", name := "part", desc := "(II)I" } : Jvm.MethodName)) ∈ ALLW := List.mem_filter.mpr ⟨List.mem_append_right _ (List.mem_of_getElem? (i := 580) (by decide +kernel)), rfl⟩
theorem kw_581 : (Jvm.Cond.code ({ cls := "SheetTrees", name := "part", desc := "(II)I" } : Jvm.MethodName) prog_1_method_10_code (4 : Nat) (Option.some Jvm.ClassFile.FieldType.int)) ∈ ALLW := List.mem_filter.mpr ⟨List.mem_append_right _ (List.mem_of_getElem? (i := 581) (by decide +kernel)), rfl⟩
theorem kw_582 : (Jvm.Cond.classLink "SheetTrees" (131 : Nat) "java/lang/IllegalArgumentException") ∈ ALLW := List.mem_filter.mpr ⟨List.mem_append_right _ (List.mem_of_getElem? (i := 582) (by decide +kernel)), rfl⟩
theorem kw_583 : (Jvm.Cond.instantiable "java/lang/IllegalArgumentException" (6 : Nat)) ∈ ALLW := List.mem_filter.mpr ⟨List.mem_append_right _ (List.mem_of_getElem? (i := 583) (by decide +kernel)), rfl⟩
theorem kw_585 : (Jvm.Cond.selects "java/lang/IllegalArgumentException" ({ cls := "java/lang/Throwable", name := "fillInStackTrace", desc := "(I)Ljava/lang/Throwable;" } : Jvm.MethodName) ({ cls := "java/lang/Throwable", name := "fillInStackTrace", desc := "(I)Ljava/lang/Throwable;" } : Jvm.MethodName)) ∈ ALLW := List.mem_filter.mpr ⟨List.mem_append_right _ (List.mem_of_getElem? (i := 585) (by decide +kernel)), rfl⟩
theorem kw_592 : (Jvm.Cond.methodLink "SheetTrees" (135 : Nat) ({ cls := "java/lang/IllegalArgumentException", name := "<init>", desc := "(Ljava/lang/String;)V" } : Jvm.MethodName)) ∈ ALLW := List.mem_filter.mpr ⟨List.mem_append_right _ (List.mem_of_getElem? (i := 592) (by decide +kernel)), rfl⟩
theorem kw_593 : (Jvm.Cond.instanceMethod ({ cls := "java/lang/IllegalArgumentException", name := "<init>", desc := "(Ljava/lang/String;)V" } : Jvm.MethodName)) ∈ ALLW := List.mem_filter.mpr ⟨List.mem_append_right _ (List.mem_of_getElem? (i := 593) (by decide +kernel)), rfl⟩
theorem kw_594 : (Jvm.Cond.code ({ cls := "java/lang/IllegalArgumentException", name := "<init>", desc := "(Ljava/lang/String;)V" } : Jvm.MethodName) prog_12_method_2_code (2 : Nat) (Option.none : Option Jvm.ClassFile.FieldType)) ∈ ALLW := List.mem_filter.mpr ⟨List.mem_append_right _ (List.mem_of_getElem? (i := 594) (by decide +kernel)), rfl⟩
theorem kw_595 : (Jvm.Cond.methodLink "java/lang/IllegalArgumentException" (7 : Nat) ({ cls := "java/lang/RuntimeException", name := "<init>", desc := "(Ljava/lang/String;)V" } : Jvm.MethodName)) ∈ ALLW := List.mem_filter.mpr ⟨List.mem_append_right _ (List.mem_of_getElem? (i := 595) (by decide +kernel)), rfl⟩
theorem kw_598 : (Jvm.Cond.methodLink "SheetTrees" (138 : Nat) ({ cls := "SheetTrees$Parts", name := "partsLeft", desc := "()I" } : Jvm.MethodName)) ∈ ALLW := List.mem_filter.mpr ⟨List.mem_append_right _ (List.mem_of_getElem? (i := 598) (by decide +kernel)), rfl⟩
theorem kw_599 : (Jvm.Cond.instanceMethod ({ cls := "SheetTrees$Parts", name := "partsLeft", desc := "()I" } : Jvm.MethodName)) ∈ ALLW := List.mem_filter.mpr ⟨List.mem_append_right _ (List.mem_of_getElem? (i := 599) (by decide +kernel)), rfl⟩
theorem kw_600 : (Jvm.Cond.selects "SheetTrees$Parts" ({ cls := "SheetTrees$Parts", name := "partsLeft", desc := "()I" } : Jvm.MethodName) ({ cls := "SheetTrees$Parts", name := "partsLeft", desc := "()I" } : Jvm.MethodName)) ∈ ALLW := List.mem_filter.mpr ⟨List.mem_append_right _ (List.mem_of_getElem? (i := 600) (by decide +kernel)), rfl⟩
theorem kw_601 : (Jvm.Cond.code ({ cls := "SheetTrees$Parts", name := "partsLeft", desc := "()I" } : Jvm.MethodName) prog_5_method_3_code (1 : Nat) (Option.some Jvm.ClassFile.FieldType.int)) ∈ ALLW := List.mem_filter.mpr ⟨List.mem_append_right _ (List.mem_of_getElem? (i := 601) (by decide +kernel)), rfl⟩
theorem kw_602 : (Jvm.Cond.methodLink "SheetTrees$Parts" (45 : Nat) ({ cls := "SheetTrees$Row", name := "at", desc := "(I)I" } : Jvm.MethodName)) ∈ ALLW := List.mem_filter.mpr ⟨List.mem_append_right _ (List.mem_of_getElem? (i := 602) (by decide +kernel)), rfl⟩
theorem kw_603 : (Jvm.Cond.methodLink "SheetTrees" (141 : Nat) ({ cls := "SheetTrees$Parts", name := "addPart", desc := "(II)I" } : Jvm.MethodName)) ∈ ALLW := List.mem_filter.mpr ⟨List.mem_append_right _ (List.mem_of_getElem? (i := 603) (by decide +kernel)), rfl⟩
theorem kw_604 : (Jvm.Cond.instanceMethod ({ cls := "SheetTrees$Parts", name := "addPart", desc := "(II)I" } : Jvm.MethodName)) ∈ ALLW := List.mem_filter.mpr ⟨List.mem_append_right _ (List.mem_of_getElem? (i := 604) (by decide +kernel)), rfl⟩
theorem kw_605 : (Jvm.Cond.selects "SheetTrees$Parts" ({ cls := "SheetTrees$Parts", name := "addPart", desc := "(II)I" } : Jvm.MethodName) ({ cls := "SheetTrees$Parts", name := "addPart", desc := "(II)I" } : Jvm.MethodName)) ∈ ALLW := List.mem_filter.mpr ⟨List.mem_append_right _ (List.mem_of_getElem? (i := 605) (by decide +kernel)), rfl⟩
theorem kw_606 : (Jvm.Cond.code ({ cls := "SheetTrees$Parts", name := "addPart", desc := "(II)I" } : Jvm.MethodName) prog_5_method_10_code (4 : Nat) (Option.some Jvm.ClassFile.FieldType.int)) ∈ ALLW := List.mem_filter.mpr ⟨List.mem_append_right _ (List.mem_of_getElem? (i := 606) (by decide +kernel)), rfl⟩
theorem kw_607 : (Jvm.Cond.methodLink "SheetTrees$Parts" (53 : Nat) ({ cls := "SheetTrees$Row", name := "set", desc := "(IJ)V" } : Jvm.MethodName)) ∈ ALLW := List.mem_filter.mpr ⟨List.mem_append_right _ (List.mem_of_getElem? (i := 607) (by decide +kernel)), rfl⟩
theorem kw_608 : (Jvm.Cond.methodLink "SheetTreesLaw" (121 : Nat) ({ cls := "SheetTreesLaw", name := "gate", desc := "(LSheetTrees;III[J)I" } : Jvm.MethodName)) ∈ ALLW := List.mem_filter.mpr ⟨List.mem_append_right _ (List.mem_of_getElem? (i := 608) (by decide +kernel)), rfl⟩
theorem kw_609 : (Jvm.Cond.static ({ cls := "SheetTreesLaw", name := "gate", desc := "(LSheetTrees;III[J)I" } : Jvm.MethodName)) ∈ ALLW := List.mem_filter.mpr ⟨List.mem_append_right _ (List.mem_of_getElem? (i := 609) (by decide +kernel)), rfl⟩
theorem kw_611 : (Jvm.Cond.methodLink "SheetTreesLaw" (38 : Nat) ({ cls := "SheetTrees", name := "gate", desc := "(III)Z" } : Jvm.MethodName)) ∈ ALLW := List.mem_filter.mpr ⟨List.mem_append_right _ (List.mem_of_getElem? (i := 611) (by decide +kernel)), rfl⟩
theorem kw_612 : (Jvm.Cond.instanceMethod ({ cls := "SheetTrees", name := "gate", desc := "(III)Z" } : Jvm.MethodName)) ∈ ALLW := List.mem_filter.mpr ⟨List.mem_append_right _ (List.mem_of_getElem? (i := 612) (by decide +kernel)), rfl⟩
theorem kw_613 : (Jvm.Cond.selects "SheetTrees" ({ cls := "SheetTrees", name := "gate", desc := "(III)Z" } : Jvm.MethodName) ({ cls := "SheetTrees", name := "gate", desc := "(III)Z" } : Jvm.MethodName)) ∈ ALLW := List.mem_filter.mpr ⟨List.mem_append_right _ (List.mem_of_getElem? (i := 613) (by decide +kernel)), rfl⟩
theorem kw_614 : (Jvm.Cond.code ({ cls := "SheetTrees", name := "gate", desc := "(III)Z" } : Jvm.MethodName) prog_1_method_11_code (4 : Nat) (Option.some Jvm.ClassFile.FieldType.boolean)) ∈ ALLW := List.mem_filter.mpr ⟨List.mem_append_right _ (List.mem_of_getElem? (i := 614) (by decide +kernel)), rfl⟩
theorem kw_615 : (Jvm.Cond.methodLink "SheetTrees" (144 : Nat) ({ cls := "SheetTrees", name := "needPart", desc := "(I)V" } : Jvm.MethodName)) ∈ ALLW := List.mem_filter.mpr ⟨List.mem_append_right _ (List.mem_of_getElem? (i := 615) (by decide +kernel)), rfl⟩
theorem kw_617 : (Jvm.Cond.instanceMethod ({ cls := "SheetTrees", name := "needPart", desc := "(I)V" } : Jvm.MethodName)) ∈ ALLW := List.mem_filter.mpr ⟨List.mem_append_right _ (List.mem_of_getElem? (i := 617) (by decide +kernel)), rfl⟩
theorem kw_618 : (Jvm.Cond.code ({ cls := "SheetTrees", name := "needPart", desc := "(I)V" } : Jvm.MethodName) prog_1_method_31_code (2 : Nat) (Option.none : Option Jvm.ClassFile.FieldType)) ∈ ALLW := List.mem_filter.mpr ⟨List.mem_append_right _ (List.mem_of_getElem? (i := 618) (by decide +kernel)), rfl⟩
theorem kw_619 : (Jvm.Cond.methodLink "SheetTrees" (268 : Nat) ({ cls := "SheetTrees$Parts", name := "isPart", desc := "(I)Z" } : Jvm.MethodName)) ∈ ALLW := List.mem_filter.mpr ⟨List.mem_append_right _ (List.mem_of_getElem? (i := 619) (by decide +kernel)), rfl⟩
theorem kw_620 : (Jvm.Cond.instanceMethod ({ cls := "SheetTrees$Parts", name := "isPart", desc := "(I)Z" } : Jvm.MethodName)) ∈ ALLW := List.mem_filter.mpr ⟨List.mem_append_right _ (List.mem_of_getElem? (i := 620) (by decide +kernel)), rfl⟩
theorem kw_621 : (Jvm.Cond.selects "SheetTrees$Parts" ({ cls := "SheetTrees$Parts", name := "isPart", desc := "(I)Z" } : Jvm.MethodName) ({ cls := "SheetTrees$Parts", name := "isPart", desc := "(I)Z" } : Jvm.MethodName)) ∈ ALLW := List.mem_filter.mpr ⟨List.mem_append_right _ (List.mem_of_getElem? (i := 621) (by decide +kernel)), rfl⟩
theorem kw_622 : (Jvm.Cond.code ({ cls := "SheetTrees$Parts", name := "isPart", desc := "(I)Z" } : Jvm.MethodName) prog_5_method_2_code (2 : Nat) (Option.some Jvm.ClassFile.FieldType.boolean)) ∈ ALLW := List.mem_filter.mpr ⟨List.mem_append_right _ (List.mem_of_getElem? (i := 622) (by decide +kernel)), rfl⟩
theorem kw_624 : (Jvm.Cond.methodLink "SheetTrees" (147 : Nat) ({ cls := "SheetTrees", name := "needGate", desc := "(II)V" } : Jvm.MethodName)) ∈ ALLW := List.mem_filter.mpr ⟨List.mem_append_right _ (List.mem_of_getElem? (i := 624) (by decide +kernel)), rfl⟩
theorem kw_626 : (Jvm.Cond.instanceMethod ({ cls := "SheetTrees", name := "needGate", desc := "(II)V" } : Jvm.MethodName)) ∈ ALLW := List.mem_filter.mpr ⟨List.mem_append_right _ (List.mem_of_getElem? (i := 626) (by decide +kernel)), rfl⟩
theorem kw_627 : (Jvm.Cond.code ({ cls := "SheetTrees", name := "needGate", desc := "(II)V" } : Jvm.MethodName) prog_1_method_32_code (3 : Nat) (Option.none : Option Jvm.ClassFile.FieldType)) ∈ ALLW := List.mem_filter.mpr ⟨List.mem_append_right _ (List.mem_of_getElem? (i := 627) (by decide +kernel)), rfl⟩
theorem kw_628 : (Jvm.Cond.methodLink "SheetTrees" (273 : Nat) ({ cls := "SheetTrees$Parts", name := "gateCount", desc := "(I)I" } : Jvm.MethodName)) ∈ ALLW := List.mem_filter.mpr ⟨List.mem_append_right _ (List.mem_of_getElem? (i := 628) (by decide +kernel)), rfl⟩
theorem kw_629 : (Jvm.Cond.instanceMethod ({ cls := "SheetTrees$Parts", name := "gateCount", desc := "(I)I" } : Jvm.MethodName)) ∈ ALLW := List.mem_filter.mpr ⟨List.mem_append_right _ (List.mem_of_getElem? (i := 629) (by decide +kernel)), rfl⟩
theorem kw_630 : (Jvm.Cond.selects "SheetTrees$Parts" ({ cls := "SheetTrees$Parts", name := "gateCount", desc := "(I)I" } : Jvm.MethodName) ({ cls := "SheetTrees$Parts", name := "gateCount", desc := "(I)I" } : Jvm.MethodName)) ∈ ALLW := List.mem_filter.mpr ⟨List.mem_append_right _ (List.mem_of_getElem? (i := 630) (by decide +kernel)), rfl⟩
theorem kw_631 : (Jvm.Cond.code ({ cls := "SheetTrees$Parts", name := "gateCount", desc := "(I)I" } : Jvm.MethodName) prog_5_method_5_code (2 : Nat) (Option.some Jvm.ClassFile.FieldType.int)) ∈ ALLW := List.mem_filter.mpr ⟨List.mem_append_right _ (List.mem_of_getElem? (i := 631) (by decide +kernel)), rfl⟩
theorem kw_633 : (Jvm.Cond.methodLink "SheetTrees" (150 : Nat) ({ cls := "SheetTrees$Parts", name := "sheetOfGate", desc := "(II)I" } : Jvm.MethodName)) ∈ ALLW := List.mem_filter.mpr ⟨List.mem_append_right _ (List.mem_of_getElem? (i := 633) (by decide +kernel)), rfl⟩
theorem kw_634 : (Jvm.Cond.instanceMethod ({ cls := "SheetTrees$Parts", name := "sheetOfGate", desc := "(II)I" } : Jvm.MethodName)) ∈ ALLW := List.mem_filter.mpr ⟨List.mem_append_right _ (List.mem_of_getElem? (i := 634) (by decide +kernel)), rfl⟩
theorem kw_635 : (Jvm.Cond.selects "SheetTrees$Parts" ({ cls := "SheetTrees$Parts", name := "sheetOfGate", desc := "(II)I" } : Jvm.MethodName) ({ cls := "SheetTrees$Parts", name := "sheetOfGate", desc := "(II)I" } : Jvm.MethodName)) ∈ ALLW := List.mem_filter.mpr ⟨List.mem_append_right _ (List.mem_of_getElem? (i := 635) (by decide +kernel)), rfl⟩
theorem kw_636 : (Jvm.Cond.code ({ cls := "SheetTrees$Parts", name := "sheetOfGate", desc := "(II)I" } : Jvm.MethodName) prog_5_method_6_code (3 : Nat) (Option.some Jvm.ClassFile.FieldType.int)) ∈ ALLW := List.mem_filter.mpr ⟨List.mem_append_right _ (List.mem_of_getElem? (i := 636) (by decide +kernel)), rfl⟩
theorem kw_637 : (Jvm.Cond.methodLink "SheetTrees" (153 : Nat) ({ cls := "SheetTrees$Parts", name := "gatesOn", desc := "(I)I" } : Jvm.MethodName)) ∈ ALLW := List.mem_filter.mpr ⟨List.mem_append_right _ (List.mem_of_getElem? (i := 637) (by decide +kernel)), rfl⟩
theorem kw_638 : (Jvm.Cond.instanceMethod ({ cls := "SheetTrees$Parts", name := "gatesOn", desc := "(I)I" } : Jvm.MethodName)) ∈ ALLW := List.mem_filter.mpr ⟨List.mem_append_right _ (List.mem_of_getElem? (i := 638) (by decide +kernel)), rfl⟩
theorem kw_639 : (Jvm.Cond.selects "SheetTrees$Parts" ({ cls := "SheetTrees$Parts", name := "gatesOn", desc := "(I)I" } : Jvm.MethodName) ({ cls := "SheetTrees$Parts", name := "gatesOn", desc := "(I)I" } : Jvm.MethodName)) ∈ ALLW := List.mem_filter.mpr ⟨List.mem_append_right _ (List.mem_of_getElem? (i := 639) (by decide +kernel)), rfl⟩
theorem kw_640 : (Jvm.Cond.code ({ cls := "SheetTrees$Parts", name := "gatesOn", desc := "(I)I" } : Jvm.MethodName) prog_5_method_7_code (2 : Nat) (Option.some Jvm.ClassFile.FieldType.int)) ∈ ALLW := List.mem_filter.mpr ⟨List.mem_append_right _ (List.mem_of_getElem? (i := 640) (by decide +kernel)), rfl⟩
theorem kw_641 : (Jvm.Cond.methodLink "SheetTrees" (156 : Nat) ({ cls := "SheetTrees$Parts", name := "layGate", desc := "(III)V" } : Jvm.MethodName)) ∈ ALLW := List.mem_filter.mpr ⟨List.mem_append_right _ (List.mem_of_getElem? (i := 641) (by decide +kernel)), rfl⟩
theorem kw_642 : (Jvm.Cond.instanceMethod ({ cls := "SheetTrees$Parts", name := "layGate", desc := "(III)V" } : Jvm.MethodName)) ∈ ALLW := List.mem_filter.mpr ⟨List.mem_append_right _ (List.mem_of_getElem? (i := 642) (by decide +kernel)), rfl⟩
theorem kw_643 : (Jvm.Cond.selects "SheetTrees$Parts" ({ cls := "SheetTrees$Parts", name := "layGate", desc := "(III)V" } : Jvm.MethodName) ({ cls := "SheetTrees$Parts", name := "layGate", desc := "(III)V" } : Jvm.MethodName)) ∈ ALLW := List.mem_filter.mpr ⟨List.mem_append_right _ (List.mem_of_getElem? (i := 643) (by decide +kernel)), rfl⟩
theorem kw_644 : (Jvm.Cond.code ({ cls := "SheetTrees$Parts", name := "layGate", desc := "(III)V" } : Jvm.MethodName) prog_5_method_11_code (5 : Nat) (Option.none : Option Jvm.ClassFile.FieldType)) ∈ ALLW := List.mem_filter.mpr ⟨List.mem_append_right _ (List.mem_of_getElem? (i := 644) (by decide +kernel)), rfl⟩
theorem kw_645 : (Jvm.Cond.methodLink "SheetTrees$Parts" (57 : Nat) ({ cls := "SheetTrees$Parts", name := "gatesOn", desc := "(I)I" } : Jvm.MethodName)) ∈ ALLW := List.mem_filter.mpr ⟨List.mem_append_right _ (List.mem_of_getElem? (i := 645) (by decide +kernel)), rfl⟩
theorem kw_646 : (Jvm.Cond.methodLink "SheetTreesLaw" (124 : Nat) ({ cls := "SheetTreesLaw", name := "copy", desc := "(LSheetTrees;I[J)I" } : Jvm.MethodName)) ∈ ALLW := List.mem_filter.mpr ⟨List.mem_append_right _ (List.mem_of_getElem? (i := 646) (by decide +kernel)), rfl⟩
theorem kw_647 : (Jvm.Cond.static ({ cls := "SheetTreesLaw", name := "copy", desc := "(LSheetTrees;I[J)I" } : Jvm.MethodName)) ∈ ALLW := List.mem_filter.mpr ⟨List.mem_append_right _ (List.mem_of_getElem? (i := 647) (by decide +kernel)), rfl⟩
theorem kw_649 : (Jvm.Cond.methodLink "SheetTreesLaw" (41 : Nat) ({ cls := "SheetTrees", name := "copy", desc := "(I)I" } : Jvm.MethodName)) ∈ ALLW := List.mem_filter.mpr ⟨List.mem_append_right _ (List.mem_of_getElem? (i := 649) (by decide +kernel)), rfl⟩
theorem kw_650 : (Jvm.Cond.instanceMethod ({ cls := "SheetTrees", name := "copy", desc := "(I)I" } : Jvm.MethodName)) ∈ ALLW := List.mem_filter.mpr ⟨List.mem_append_right _ (List.mem_of_getElem? (i := 650) (by decide +kernel)), rfl⟩
theorem kw_651 : (Jvm.Cond.selects "SheetTrees" ({ cls := "SheetTrees", name := "copy", desc := "(I)I" } : Jvm.MethodName) ({ cls := "SheetTrees", name := "copy", desc := "(I)I" } : Jvm.MethodName)) ∈ ALLW := List.mem_filter.mpr ⟨List.mem_append_right _ (List.mem_of_getElem? (i := 651) (by decide +kernel)), rfl⟩
theorem kw_652 : (Jvm.Cond.code ({ cls := "SheetTrees", name := "copy", desc := "(I)I" } : Jvm.MethodName) prog_1_method_12_code (3 : Nat) (Option.some Jvm.ClassFile.FieldType.int)) ∈ ALLW := List.mem_filter.mpr ⟨List.mem_append_right _ (List.mem_of_getElem? (i := 652) (by decide +kernel)), rfl⟩
theorem kw_653 : (Jvm.Cond.methodLink "SheetTrees" (159 : Nat) ({ cls := "SheetTrees$Sheets", name := "placementsOn", desc := "(I)I" } : Jvm.MethodName)) ∈ ALLW := List.mem_filter.mpr ⟨List.mem_append_right _ (List.mem_of_getElem? (i := 653) (by decide +kernel)), rfl⟩
theorem kw_654 : (Jvm.Cond.instanceMethod ({ cls := "SheetTrees$Sheets", name := "placementsOn", desc := "(I)I" } : Jvm.MethodName)) ∈ ALLW := List.mem_filter.mpr ⟨List.mem_append_right _ (List.mem_of_getElem? (i := 654) (by decide +kernel)), rfl⟩
theorem kw_655 : (Jvm.Cond.selects "SheetTrees$Sheets" ({ cls := "SheetTrees$Sheets", name := "placementsOn", desc := "(I)I" } : Jvm.MethodName) ({ cls := "SheetTrees$Sheets", name := "placementsOn", desc := "(I)I" } : Jvm.MethodName)) ∈ ALLW := List.mem_filter.mpr ⟨List.mem_append_right _ (List.mem_of_getElem? (i := 655) (by decide +kernel)), rfl⟩
theorem kw_656 : (Jvm.Cond.code ({ cls := "SheetTrees$Sheets", name := "placementsOn", desc := "(I)I" } : Jvm.MethodName) prog_7_method_10_code (4 : Nat) (Option.some Jvm.ClassFile.FieldType.int)) ∈ ALLW := List.mem_filter.mpr ⟨List.mem_append_right _ (List.mem_of_getElem? (i := 656) (by decide +kernel)), rfl⟩
theorem kw_657 : (Jvm.Cond.methodLink "SheetTrees$Sheets" (55 : Nat) ({ cls := "SheetTrees$Sheets", name := "firstOn", desc := "(I)I" } : Jvm.MethodName)) ∈ ALLW := List.mem_filter.mpr ⟨List.mem_append_right _ (List.mem_of_getElem? (i := 657) (by decide +kernel)), rfl⟩
theorem kw_658 : (Jvm.Cond.methodLink "SheetTrees" (162 : Nat) ({ cls := "SheetTrees$Parts", name := "partsOn", desc := "(I)I" } : Jvm.MethodName)) ∈ ALLW := List.mem_filter.mpr ⟨List.mem_append_right _ (List.mem_of_getElem? (i := 658) (by decide +kernel)), rfl⟩
theorem kw_659 : (Jvm.Cond.instanceMethod ({ cls := "SheetTrees$Parts", name := "partsOn", desc := "(I)I" } : Jvm.MethodName)) ∈ ALLW := List.mem_filter.mpr ⟨List.mem_append_right _ (List.mem_of_getElem? (i := 659) (by decide +kernel)), rfl⟩
theorem kw_660 : (Jvm.Cond.selects "SheetTrees$Parts" ({ cls := "SheetTrees$Parts", name := "partsOn", desc := "(I)I" } : Jvm.MethodName) ({ cls := "SheetTrees$Parts", name := "partsOn", desc := "(I)I" } : Jvm.MethodName)) ∈ ALLW := List.mem_filter.mpr ⟨List.mem_append_right _ (List.mem_of_getElem? (i := 660) (by decide +kernel)), rfl⟩
theorem kw_661 : (Jvm.Cond.code ({ cls := "SheetTrees$Parts", name := "partsOn", desc := "(I)I" } : Jvm.MethodName) prog_5_method_12_code (5 : Nat) (Option.some Jvm.ClassFile.FieldType.int)) ∈ ALLW := List.mem_filter.mpr ⟨List.mem_append_right _ (List.mem_of_getElem? (i := 661) (by decide +kernel)), rfl⟩
theorem kw_662 : (Jvm.Cond.methodLink "SheetTrees$Parts" (60 : Nat) ({ cls := "java/util/Arrays", name := "fill", desc := "([II)V" } : Jvm.MethodName)) ∈ ALLW := List.mem_filter.mpr ⟨List.mem_append_right _ (List.mem_of_getElem? (i := 662) (by decide +kernel)), rfl⟩
theorem kw_663 : (Jvm.Cond.methodLink "SheetTrees$Parts" (66 : Nat) ({ cls := "SheetTrees$Parts", name := "partAt", desc := "(II)I" } : Jvm.MethodName)) ∈ ALLW := List.mem_filter.mpr ⟨List.mem_append_right _ (List.mem_of_getElem? (i := 663) (by decide +kernel)), rfl⟩
theorem kw_665 : (Jvm.Cond.instanceMethod ({ cls := "SheetTrees$Parts", name := "partAt", desc := "(II)I" } : Jvm.MethodName)) ∈ ALLW := List.mem_filter.mpr ⟨List.mem_append_right _ (List.mem_of_getElem? (i := 665) (by decide +kernel)), rfl⟩
theorem kw_666 : (Jvm.Cond.code ({ cls := "SheetTrees$Parts", name := "partAt", desc := "(II)I" } : Jvm.MethodName) prog_5_method_9_code (3 : Nat) (Option.some Jvm.ClassFile.FieldType.int)) ∈ ALLW := List.mem_filter.mpr ⟨List.mem_append_right _ (List.mem_of_getElem? (i := 666) (by decide +kernel)), rfl⟩
theorem kw_667 : (Jvm.Cond.methodLink "SheetTrees$Parts" (49 : Nat) ({ cls := "SheetTrees$Parts", name := "gateAt", desc := "(II)I" } : Jvm.MethodName)) ∈ ALLW := List.mem_filter.mpr ⟨List.mem_append_right _ (List.mem_of_getElem? (i := 667) (by decide +kernel)), rfl⟩
theorem kw_669 : (Jvm.Cond.instanceMethod ({ cls := "SheetTrees$Parts", name := "gateAt", desc := "(II)I" } : Jvm.MethodName)) ∈ ALLW := List.mem_filter.mpr ⟨List.mem_append_right _ (List.mem_of_getElem? (i := 669) (by decide +kernel)), rfl⟩
theorem kw_670 : (Jvm.Cond.code ({ cls := "SheetTrees$Parts", name := "gateAt", desc := "(II)I" } : Jvm.MethodName) prog_5_method_8_code (3 : Nat) (Option.some Jvm.ClassFile.FieldType.int)) ∈ ALLW := List.mem_filter.mpr ⟨List.mem_append_right _ (List.mem_of_getElem? (i := 670) (by decide +kernel)), rfl⟩
theorem kw_673 : (Jvm.Cond.methodLink "SheetTrees" (165 : Nat) ({ cls := "SheetTrees$Sheets", name := "addSheetLike", desc := "(I)I" } : Jvm.MethodName)) ∈ ALLW := List.mem_filter.mpr ⟨List.mem_append_right _ (List.mem_of_getElem? (i := 673) (by decide +kernel)), rfl⟩
theorem kw_674 : (Jvm.Cond.instanceMethod ({ cls := "SheetTrees$Sheets", name := "addSheetLike", desc := "(I)I" } : Jvm.MethodName)) ∈ ALLW := List.mem_filter.mpr ⟨List.mem_append_right _ (List.mem_of_getElem? (i := 674) (by decide +kernel)), rfl⟩
theorem kw_675 : (Jvm.Cond.selects "SheetTrees$Sheets" ({ cls := "SheetTrees$Sheets", name := "addSheetLike", desc := "(I)I" } : Jvm.MethodName) ({ cls := "SheetTrees$Sheets", name := "addSheetLike", desc := "(I)I" } : Jvm.MethodName)) ∈ ALLW := List.mem_filter.mpr ⟨List.mem_append_right _ (List.mem_of_getElem? (i := 675) (by decide +kernel)), rfl⟩
theorem kw_676 : (Jvm.Cond.code ({ cls := "SheetTrees$Sheets", name := "addSheetLike", desc := "(I)I" } : Jvm.MethodName) prog_7_method_14_code (5 : Nat) (Option.some Jvm.ClassFile.FieldType.int)) ∈ ALLW := List.mem_filter.mpr ⟨List.mem_append_right _ (List.mem_of_getElem? (i := 676) (by decide +kernel)), rfl⟩
theorem kw_677 : (Jvm.Cond.methodLink "SheetTrees$Sheets" (74 : Nat) ({ cls := "SheetTrees$Sheets", name := "addSheet", desc := "()I" } : Jvm.MethodName)) ∈ ALLW := List.mem_filter.mpr ⟨List.mem_append_right _ (List.mem_of_getElem? (i := 677) (by decide +kernel)), rfl⟩
theorem kw_678 : (Jvm.Cond.methodLink "SheetTrees$Sheets" (77 : Nat) ({ cls := "SheetTrees$Sheets", name := "addPlacement", desc := "(II)I" } : Jvm.MethodName)) ∈ ALLW := List.mem_filter.mpr ⟨List.mem_append_right _ (List.mem_of_getElem? (i := 678) (by decide +kernel)), rfl⟩
theorem kw_679 : (Jvm.Cond.methodLink "SheetTrees$Sheets" (81 : Nat) ({ cls := "SheetTrees$Sheets", name := "copyJoints", desc := "(II)V" } : Jvm.MethodName)) ∈ ALLW := List.mem_filter.mpr ⟨List.mem_append_right _ (List.mem_of_getElem? (i := 679) (by decide +kernel)), rfl⟩
theorem kw_681 : (Jvm.Cond.instanceMethod ({ cls := "SheetTrees$Sheets", name := "copyJoints", desc := "(II)V" } : Jvm.MethodName)) ∈ ALLW := List.mem_filter.mpr ⟨List.mem_append_right _ (List.mem_of_getElem? (i := 681) (by decide +kernel)), rfl⟩
theorem kw_682 : (Jvm.Cond.code ({ cls := "SheetTrees$Sheets", name := "copyJoints", desc := "(II)V" } : Jvm.MethodName) prog_7_method_15_code (4 : Nat) (Option.none : Option Jvm.ClassFile.FieldType)) ∈ ALLW := List.mem_filter.mpr ⟨List.mem_append_right _ (List.mem_of_getElem? (i := 682) (by decide +kernel)), rfl⟩
theorem kw_683 : (Jvm.Cond.methodLink "SheetTrees" (168 : Nat) ({ cls := "SheetTrees$Parts", name := "addPartsLike", desc := "(II)V" } : Jvm.MethodName)) ∈ ALLW := List.mem_filter.mpr ⟨List.mem_append_right _ (List.mem_of_getElem? (i := 683) (by decide +kernel)), rfl⟩
theorem kw_684 : (Jvm.Cond.instanceMethod ({ cls := "SheetTrees$Parts", name := "addPartsLike", desc := "(II)V" } : Jvm.MethodName)) ∈ ALLW := List.mem_filter.mpr ⟨List.mem_append_right _ (List.mem_of_getElem? (i := 684) (by decide +kernel)), rfl⟩
theorem kw_685 : (Jvm.Cond.selects "SheetTrees$Parts" ({ cls := "SheetTrees$Parts", name := "addPartsLike", desc := "(II)V" } : Jvm.MethodName) ({ cls := "SheetTrees$Parts", name := "addPartsLike", desc := "(II)V" } : Jvm.MethodName)) ∈ ALLW := List.mem_filter.mpr ⟨List.mem_append_right _ (List.mem_of_getElem? (i := 685) (by decide +kernel)), rfl⟩
theorem kw_686 : (Jvm.Cond.code ({ cls := "SheetTrees$Parts", name := "addPartsLike", desc := "(II)V" } : Jvm.MethodName) prog_5_method_13_code (6 : Nat) (Option.none : Option Jvm.ClassFile.FieldType)) ∈ ALLW := List.mem_filter.mpr ⟨List.mem_append_right _ (List.mem_of_getElem? (i := 686) (by decide +kernel)), rfl⟩
theorem kw_687 : (Jvm.Cond.methodLink "SheetTrees$Parts" (77 : Nat) ({ cls := "SheetTrees$Parts", name := "letterOf", desc := "(I)I" } : Jvm.MethodName)) ∈ ALLW := List.mem_filter.mpr ⟨List.mem_append_right _ (List.mem_of_getElem? (i := 687) (by decide +kernel)), rfl⟩
theorem kw_688 : (Jvm.Cond.instanceMethod ({ cls := "SheetTrees$Parts", name := "letterOf", desc := "(I)I" } : Jvm.MethodName)) ∈ ALLW := List.mem_filter.mpr ⟨List.mem_append_right _ (List.mem_of_getElem? (i := 688) (by decide +kernel)), rfl⟩
theorem kw_689 : (Jvm.Cond.selects "SheetTrees$Parts" ({ cls := "SheetTrees$Parts", name := "letterOf", desc := "(I)I" } : Jvm.MethodName) ({ cls := "SheetTrees$Parts", name := "letterOf", desc := "(I)I" } : Jvm.MethodName)) ∈ ALLW := List.mem_filter.mpr ⟨List.mem_append_right _ (List.mem_of_getElem? (i := 689) (by decide +kernel)), rfl⟩
theorem kw_690 : (Jvm.Cond.code ({ cls := "SheetTrees$Parts", name := "letterOf", desc := "(I)I" } : Jvm.MethodName) prog_5_method_4_code (2 : Nat) (Option.some Jvm.ClassFile.FieldType.int)) ∈ ALLW := List.mem_filter.mpr ⟨List.mem_append_right _ (List.mem_of_getElem? (i := 690) (by decide +kernel)), rfl⟩
theorem kw_691 : (Jvm.Cond.methodLink "SheetTrees$Parts" (80 : Nat) ({ cls := "SheetTrees$Parts", name := "gateCount", desc := "(I)I" } : Jvm.MethodName)) ∈ ALLW := List.mem_filter.mpr ⟨List.mem_append_right _ (List.mem_of_getElem? (i := 691) (by decide +kernel)), rfl⟩
theorem kw_692 : (Jvm.Cond.methodLink "SheetTrees$Parts" (83 : Nat) ({ cls := "SheetTrees$Parts", name := "addPart", desc := "(II)I" } : Jvm.MethodName)) ∈ ALLW := List.mem_filter.mpr ⟨List.mem_append_right _ (List.mem_of_getElem? (i := 692) (by decide +kernel)), rfl⟩
theorem kw_693 : (Jvm.Cond.methodLink "SheetTrees$Parts" (86 : Nat) ({ cls := "SheetTrees$Parts", name := "layGate", desc := "(III)V" } : Jvm.MethodName)) ∈ ALLW := List.mem_filter.mpr ⟨List.mem_append_right _ (List.mem_of_getElem? (i := 693) (by decide +kernel)), rfl⟩
theorem kw_694 : (Jvm.Cond.methodLink "SheetTreesLaw" (127 : Nat) ({ cls := "SheetTreesLaw", name := "rule", desc := "(LSheetTrees;I[J)I" } : Jvm.MethodName)) ∈ ALLW := List.mem_filter.mpr ⟨List.mem_append_right _ (List.mem_of_getElem? (i := 694) (by decide +kernel)), rfl⟩
theorem kw_695 : (Jvm.Cond.static ({ cls := "SheetTreesLaw", name := "rule", desc := "(LSheetTrees;I[J)I" } : Jvm.MethodName)) ∈ ALLW := List.mem_filter.mpr ⟨List.mem_append_right _ (List.mem_of_getElem? (i := 695) (by decide +kernel)), rfl⟩
theorem kw_697 : (Jvm.Cond.methodLink "SheetTreesLaw" (45 : Nat) ({ cls := "SheetTrees", name := "rule", desc := "(I)Z" } : Jvm.MethodName)) ∈ ALLW := List.mem_filter.mpr ⟨List.mem_append_right _ (List.mem_of_getElem? (i := 697) (by decide +kernel)), rfl⟩
theorem kw_698 : (Jvm.Cond.instanceMethod ({ cls := "SheetTrees", name := "rule", desc := "(I)Z" } : Jvm.MethodName)) ∈ ALLW := List.mem_filter.mpr ⟨List.mem_append_right _ (List.mem_of_getElem? (i := 698) (by decide +kernel)), rfl⟩
theorem kw_699 : (Jvm.Cond.selects "SheetTrees" ({ cls := "SheetTrees", name := "rule", desc := "(I)Z" } : Jvm.MethodName) ({ cls := "SheetTrees", name := "rule", desc := "(I)Z" } : Jvm.MethodName)) ∈ ALLW := List.mem_filter.mpr ⟨List.mem_append_right _ (List.mem_of_getElem? (i := 699) (by decide +kernel)), rfl⟩
theorem kw_700 : (Jvm.Cond.code ({ cls := "SheetTrees", name := "rule", desc := "(I)Z" } : Jvm.MethodName) prog_1_method_13_code (2 : Nat) (Option.some Jvm.ClassFile.FieldType.boolean)) ∈ ALLW := List.mem_filter.mpr ⟨List.mem_append_right _ (List.mem_of_getElem? (i := 700) (by decide +kernel)), rfl⟩
theorem kw_702 : (Jvm.Cond.methodLink "SheetTrees" (173 : Nat) ({ cls := "SheetTrees$Row", name := "at", desc := "(I)I" } : Jvm.MethodName)) ∈ ALLW := List.mem_filter.mpr ⟨List.mem_append_right _ (List.mem_of_getElem? (i := 702) (by decide +kernel)), rfl⟩
theorem kw_703 : (Jvm.Cond.methodLink "SheetTrees" (176 : Nat) ({ cls := "SheetTrees$Row", name := "set", desc := "(IJ)V" } : Jvm.MethodName)) ∈ ALLW := List.mem_filter.mpr ⟨List.mem_append_right _ (List.mem_of_getElem? (i := 703) (by decide +kernel)), rfl⟩
theorem kw_704 : (Jvm.Cond.methodLink "SheetTreesLaw" (130 : Nat) ({ cls := "SheetTreesLaw", name := "variant", desc := "(LSheetTrees;I[J)I" } : Jvm.MethodName)) ∈ ALLW := List.mem_filter.mpr ⟨List.mem_append_right _ (List.mem_of_getElem? (i := 704) (by decide +kernel)), rfl⟩
theorem kw_705 : (Jvm.Cond.static ({ cls := "SheetTreesLaw", name := "variant", desc := "(LSheetTrees;I[J)I" } : Jvm.MethodName)) ∈ ALLW := List.mem_filter.mpr ⟨List.mem_append_right _ (List.mem_of_getElem? (i := 705) (by decide +kernel)), rfl⟩
theorem kw_707 : (Jvm.Cond.methodLink "SheetTreesLaw" (48 : Nat) ({ cls := "SheetTrees", name := "variant", desc := "(I)I" } : Jvm.MethodName)) ∈ ALLW := List.mem_filter.mpr ⟨List.mem_append_right _ (List.mem_of_getElem? (i := 707) (by decide +kernel)), rfl⟩
theorem kw_708 : (Jvm.Cond.instanceMethod ({ cls := "SheetTrees", name := "variant", desc := "(I)I" } : Jvm.MethodName)) ∈ ALLW := List.mem_filter.mpr ⟨List.mem_append_right _ (List.mem_of_getElem? (i := 708) (by decide +kernel)), rfl⟩
theorem kw_709 : (Jvm.Cond.selects "SheetTrees" ({ cls := "SheetTrees", name := "variant", desc := "(I)I" } : Jvm.MethodName) ({ cls := "SheetTrees", name := "variant", desc := "(I)I" } : Jvm.MethodName)) ∈ ALLW := List.mem_filter.mpr ⟨List.mem_append_right _ (List.mem_of_getElem? (i := 709) (by decide +kernel)), rfl⟩
theorem kw_710 : (Jvm.Cond.code ({ cls := "SheetTrees", name := "variant", desc := "(I)I" } : Jvm.MethodName) prog_1_method_14_code (3 : Nat) (Option.some Jvm.ClassFile.FieldType.int)) ∈ ALLW := List.mem_filter.mpr ⟨List.mem_append_right _ (List.mem_of_getElem? (i := 710) (by decide +kernel)), rfl⟩
theorem kw_711 : (Jvm.Cond.methodLink "SheetTrees" (180 : Nat) ({ cls := "SheetTrees", name := "needVariantOrNone", desc := "(I)V" } : Jvm.MethodName)) ∈ ALLW := List.mem_filter.mpr ⟨List.mem_append_right _ (List.mem_of_getElem? (i := 711) (by decide +kernel)), rfl⟩
theorem kw_713 : (Jvm.Cond.instanceMethod ({ cls := "SheetTrees", name := "needVariantOrNone", desc := "(I)V" } : Jvm.MethodName)) ∈ ALLW := List.mem_filter.mpr ⟨List.mem_append_right _ (List.mem_of_getElem? (i := 713) (by decide +kernel)), rfl⟩
theorem kw_714 : (Jvm.Cond.code ({ cls := "SheetTrees", name := "needVariantOrNone", desc := "(I)V" } : Jvm.MethodName) prog_1_method_35_code (2 : Nat) (Option.none : Option Jvm.ClassFile.FieldType)) ∈ ALLW := List.mem_filter.mpr ⟨List.mem_append_right _ (List.mem_of_getElem? (i := 714) (by decide +kernel)), rfl⟩
theorem kw_715 : (Jvm.Cond.methodLink "SheetTrees" (243 : Nat) ({ cls := "SheetTrees", name := "needVariant", desc := "(I)V" } : Jvm.MethodName)) ∈ ALLW := List.mem_filter.mpr ⟨List.mem_append_right _ (List.mem_of_getElem? (i := 715) (by decide +kernel)), rfl⟩
theorem kw_717 : (Jvm.Cond.instanceMethod ({ cls := "SheetTrees", name := "needVariant", desc := "(I)V" } : Jvm.MethodName)) ∈ ALLW := List.mem_filter.mpr ⟨List.mem_append_right _ (List.mem_of_getElem? (i := 717) (by decide +kernel)), rfl⟩
theorem kw_718 : (Jvm.Cond.code ({ cls := "SheetTrees", name := "needVariant", desc := "(I)V" } : Jvm.MethodName) prog_1_method_34_code (2 : Nat) (Option.none : Option Jvm.ClassFile.FieldType)) ∈ ALLW := List.mem_filter.mpr ⟨List.mem_append_right _ (List.mem_of_getElem? (i := 718) (by decide +kernel)), rfl⟩
theorem kw_719 : (Jvm.Cond.methodLink "SheetTrees" (280 : Nat) ({ cls := "SheetTrees$Variants", name := "isVariant", desc := "(I)Z" } : Jvm.MethodName)) ∈ ALLW := List.mem_filter.mpr ⟨List.mem_append_right _ (List.mem_of_getElem? (i := 719) (by decide +kernel)), rfl⟩
theorem kw_720 : (Jvm.Cond.instanceMethod ({ cls := "SheetTrees$Variants", name := "isVariant", desc := "(I)Z" } : Jvm.MethodName)) ∈ ALLW := List.mem_filter.mpr ⟨List.mem_append_right _ (List.mem_of_getElem? (i := 720) (by decide +kernel)), rfl⟩
theorem kw_721 : (Jvm.Cond.selects "SheetTrees$Variants" ({ cls := "SheetTrees$Variants", name := "isVariant", desc := "(I)Z" } : Jvm.MethodName) ({ cls := "SheetTrees$Variants", name := "isVariant", desc := "(I)Z" } : Jvm.MethodName)) ∈ ALLW := List.mem_filter.mpr ⟨List.mem_append_right _ (List.mem_of_getElem? (i := 721) (by decide +kernel)), rfl⟩
theorem kw_722 : (Jvm.Cond.code ({ cls := "SheetTrees$Variants", name := "isVariant", desc := "(I)Z" } : Jvm.MethodName) prog_8_method_3_code (2 : Nat) (Option.some Jvm.ClassFile.FieldType.boolean)) ∈ ALLW := List.mem_filter.mpr ⟨List.mem_append_right _ (List.mem_of_getElem? (i := 722) (by decide +kernel)), rfl⟩
theorem kw_723 : (Jvm.Cond.methodLink "SheetTrees$Variants" (45 : Nat) ({ cls := "SheetTrees$Variants", name := "count", desc := "()I" } : Jvm.MethodName)) ∈ ALLW := List.mem_filter.mpr ⟨List.mem_append_right _ (List.mem_of_getElem? (i := 723) (by decide +kernel)), rfl⟩
theorem kw_724 : (Jvm.Cond.instanceMethod ({ cls := "SheetTrees$Variants", name := "count", desc := "()I" } : Jvm.MethodName)) ∈ ALLW := List.mem_filter.mpr ⟨List.mem_append_right _ (List.mem_of_getElem? (i := 724) (by decide +kernel)), rfl⟩
theorem kw_725 : (Jvm.Cond.selects "SheetTrees$Variants" ({ cls := "SheetTrees$Variants", name := "count", desc := "()I" } : Jvm.MethodName) ({ cls := "SheetTrees$Variants", name := "count", desc := "()I" } : Jvm.MethodName)) ∈ ALLW := List.mem_filter.mpr ⟨List.mem_append_right _ (List.mem_of_getElem? (i := 725) (by decide +kernel)), rfl⟩
theorem kw_726 : (Jvm.Cond.code ({ cls := "SheetTrees$Variants", name := "count", desc := "()I" } : Jvm.MethodName) prog_8_method_2_code (1 : Nat) (Option.some Jvm.ClassFile.FieldType.int)) ∈ ALLW := List.mem_filter.mpr ⟨List.mem_append_right _ (List.mem_of_getElem? (i := 726) (by decide +kernel)), rfl⟩
theorem kw_727 : (Jvm.Cond.methodLink "SheetTrees$Variants" (41 : Nat) ({ cls := "SheetTrees$Row", name := "at", desc := "(I)I" } : Jvm.MethodName)) ∈ ALLW := List.mem_filter.mpr ⟨List.mem_append_right _ (List.mem_of_getElem? (i := 727) (by decide +kernel)), rfl⟩
theorem kw_729 : (Jvm.Cond.methodLink "SheetTrees" (183 : Nat) ({ cls := "SheetTrees$Variants", name := "count", desc := "()I" } : Jvm.MethodName)) ∈ ALLW := List.mem_filter.mpr ⟨List.mem_append_right _ (List.mem_of_getElem? (i := 729) (by decide +kernel)), rfl⟩
theorem kw_730 : (Jvm.Cond.methodLink "SheetTrees" (186 : Nat) ({ cls := "SheetTrees$Variants", name := "addVariant", desc := "(I)I" } : Jvm.MethodName)) ∈ ALLW := List.mem_filter.mpr ⟨List.mem_append_right _ (List.mem_of_getElem? (i := 730) (by decide +kernel)), rfl⟩
theorem kw_731 : (Jvm.Cond.instanceMethod ({ cls := "SheetTrees$Variants", name := "addVariant", desc := "(I)I" } : Jvm.MethodName)) ∈ ALLW := List.mem_filter.mpr ⟨List.mem_append_right _ (List.mem_of_getElem? (i := 731) (by decide +kernel)), rfl⟩
theorem kw_732 : (Jvm.Cond.selects "SheetTrees$Variants" ({ cls := "SheetTrees$Variants", name := "addVariant", desc := "(I)I" } : Jvm.MethodName) ({ cls := "SheetTrees$Variants", name := "addVariant", desc := "(I)I" } : Jvm.MethodName)) ∈ ALLW := List.mem_filter.mpr ⟨List.mem_append_right _ (List.mem_of_getElem? (i := 732) (by decide +kernel)), rfl⟩
theorem kw_733 : (Jvm.Cond.code ({ cls := "SheetTrees$Variants", name := "addVariant", desc := "(I)I" } : Jvm.MethodName) prog_8_method_4_code (3 : Nat) (Option.some Jvm.ClassFile.FieldType.int)) ∈ ALLW := List.mem_filter.mpr ⟨List.mem_append_right _ (List.mem_of_getElem? (i := 733) (by decide +kernel)), rfl⟩
theorem kw_734 : (Jvm.Cond.methodLink "SheetTrees$Variants" (49 : Nat) ({ cls := "SheetTrees$Row", name := "set", desc := "(IJ)V" } : Jvm.MethodName)) ∈ ALLW := List.mem_filter.mpr ⟨List.mem_append_right _ (List.mem_of_getElem? (i := 734) (by decide +kernel)), rfl⟩
theorem kw_735 : (Jvm.Cond.methodLink "SheetTreesLaw" (135 : Nat) ({ cls := "SheetTreesLaw", name := "value", desc := "(LSheetTrees;IIIJ[J)I" } : Jvm.MethodName)) ∈ ALLW := List.mem_filter.mpr ⟨List.mem_append_right _ (List.mem_of_getElem? (i := 735) (by decide +kernel)), rfl⟩
theorem kw_736 : (Jvm.Cond.static ({ cls := "SheetTreesLaw", name := "value", desc := "(LSheetTrees;IIIJ[J)I" } : Jvm.MethodName)) ∈ ALLW := List.mem_filter.mpr ⟨List.mem_append_right _ (List.mem_of_getElem? (i := 736) (by decide +kernel)), rfl⟩
theorem kw_738 : (Jvm.Cond.methodLink "SheetTreesLaw" (51 : Nat) ({ cls := "SheetTrees", name := "value", desc := "(IIIJ)Z" } : Jvm.MethodName)) ∈ ALLW := List.mem_filter.mpr ⟨List.mem_append_right _ (List.mem_of_getElem? (i := 738) (by decide +kernel)), rfl⟩
theorem kw_739 : (Jvm.Cond.instanceMethod ({ cls := "SheetTrees", name := "value", desc := "(IIIJ)Z" } : Jvm.MethodName)) ∈ ALLW := List.mem_filter.mpr ⟨List.mem_append_right _ (List.mem_of_getElem? (i := 739) (by decide +kernel)), rfl⟩
theorem kw_740 : (Jvm.Cond.selects "SheetTrees" ({ cls := "SheetTrees", name := "value", desc := "(IIIJ)Z" } : Jvm.MethodName) ({ cls := "SheetTrees", name := "value", desc := "(IIIJ)Z" } : Jvm.MethodName)) ∈ ALLW := List.mem_filter.mpr ⟨List.mem_append_right _ (List.mem_of_getElem? (i := 740) (by decide +kernel)), rfl⟩
theorem kw_741 : (Jvm.Cond.code ({ cls := "SheetTrees", name := "value", desc := "(IIIJ)Z" } : Jvm.MethodName) prog_1_method_15_code (6 : Nat) (Option.some Jvm.ClassFile.FieldType.boolean)) ∈ ALLW := List.mem_filter.mpr ⟨List.mem_append_right _ (List.mem_of_getElem? (i := 741) (by decide +kernel)), rfl⟩
theorem kw_742 : (Jvm.Cond.methodLink "SheetTrees" (189 : Nat) ({ cls := "SheetTrees", name := "tell", desc := "(IIIIJ)Z" } : Jvm.MethodName)) ∈ ALLW := List.mem_filter.mpr ⟨List.mem_append_right _ (List.mem_of_getElem? (i := 742) (by decide +kernel)), rfl⟩
theorem kw_744 : (Jvm.Cond.instanceMethod ({ cls := "SheetTrees", name := "tell", desc := "(IIIIJ)Z" } : Jvm.MethodName)) ∈ ALLW := List.mem_filter.mpr ⟨List.mem_append_right _ (List.mem_of_getElem? (i := 744) (by decide +kernel)), rfl⟩
theorem kw_745 : (Jvm.Cond.code ({ cls := "SheetTrees", name := "tell", desc := "(IIIIJ)Z" } : Jvm.MethodName) prog_1_method_26_code (7 : Nat) (Option.some Jvm.ClassFile.FieldType.boolean)) ∈ ALLW := List.mem_filter.mpr ⟨List.mem_append_right _ (List.mem_of_getElem? (i := 745) (by decide +kernel)), rfl⟩
theorem kw_746 : (Jvm.Cond.methodLink "SheetTrees" (201 : Nat) ({ cls := "SheetTrees", name := "needPage", desc := "(I)V" } : Jvm.MethodName)) ∈ ALLW := List.mem_filter.mpr ⟨List.mem_append_right _ (List.mem_of_getElem? (i := 746) (by decide +kernel)), rfl⟩
theorem kw_748 : (Jvm.Cond.instanceMethod ({ cls := "SheetTrees", name := "needPage", desc := "(I)V" } : Jvm.MethodName)) ∈ ALLW := List.mem_filter.mpr ⟨List.mem_append_right _ (List.mem_of_getElem? (i := 748) (by decide +kernel)), rfl⟩
theorem kw_749 : (Jvm.Cond.code ({ cls := "SheetTrees", name := "needPage", desc := "(I)V" } : Jvm.MethodName) prog_1_method_36_code (2 : Nat) (Option.none : Option Jvm.ClassFile.FieldType)) ∈ ALLW := List.mem_filter.mpr ⟨List.mem_append_right _ (List.mem_of_getElem? (i := 749) (by decide +kernel)), rfl⟩
theorem kw_751 : (Jvm.Cond.methodLink "SheetTrees" (246 : Nat) ({ cls := "SheetTrees$Variants", name := "tell", desc := "(IIIIJ)Z" } : Jvm.MethodName)) ∈ ALLW := List.mem_filter.mpr ⟨List.mem_append_right _ (List.mem_of_getElem? (i := 751) (by decide +kernel)), rfl⟩
theorem kw_752 : (Jvm.Cond.instanceMethod ({ cls := "SheetTrees$Variants", name := "tell", desc := "(IIIIJ)Z" } : Jvm.MethodName)) ∈ ALLW := List.mem_filter.mpr ⟨List.mem_append_right _ (List.mem_of_getElem? (i := 752) (by decide +kernel)), rfl⟩
theorem kw_753 : (Jvm.Cond.selects "SheetTrees$Variants" ({ cls := "SheetTrees$Variants", name := "tell", desc := "(IIIIJ)Z" } : Jvm.MethodName) ({ cls := "SheetTrees$Variants", name := "tell", desc := "(IIIIJ)Z" } : Jvm.MethodName)) ∈ ALLW := List.mem_filter.mpr ⟨List.mem_append_right _ (List.mem_of_getElem? (i := 753) (by decide +kernel)), rfl⟩
theorem kw_754 : (Jvm.Cond.code ({ cls := "SheetTrees$Variants", name := "tell", desc := "(IIIIJ)Z" } : Jvm.MethodName) prog_8_method_6_code (9 : Nat) (Option.some Jvm.ClassFile.FieldType.boolean)) ∈ ALLW := List.mem_filter.mpr ⟨List.mem_append_right _ (List.mem_of_getElem? (i := 754) (by decide +kernel)), rfl⟩
theorem kw_755 : (Jvm.Cond.methodLink "SheetTrees$Variants" (57 : Nat) ({ cls := "SheetTrees$Variants", name := "subjectOf", desc := "(III)I" } : Jvm.MethodName)) ∈ ALLW := List.mem_filter.mpr ⟨List.mem_append_right _ (List.mem_of_getElem? (i := 755) (by decide +kernel)), rfl⟩
theorem kw_756 : (Jvm.Cond.static ({ cls := "SheetTrees$Variants", name := "subjectOf", desc := "(III)I" } : Jvm.MethodName)) ∈ ALLW := List.mem_filter.mpr ⟨List.mem_append_right _ (List.mem_of_getElem? (i := 756) (by decide +kernel)), rfl⟩
theorem kw_757 : (Jvm.Cond.code ({ cls := "SheetTrees$Variants", name := "subjectOf", desc := "(III)I" } : Jvm.MethodName) prog_8_method_11_code (3 : Nat) (Option.some Jvm.ClassFile.FieldType.int)) ∈ ALLW := List.mem_filter.mpr ⟨List.mem_append_right _ (List.mem_of_getElem? (i := 757) (by decide +kernel)), rfl⟩
theorem kw_758 : (Jvm.Cond.methodLink "SheetTrees$Variants" (61 : Nat) ({ cls := "SheetTrees$Variants", name := "find", desc := "(II)I" } : Jvm.MethodName)) ∈ ALLW := List.mem_filter.mpr ⟨List.mem_append_right _ (List.mem_of_getElem? (i := 758) (by decide +kernel)), rfl⟩
theorem kw_760 : (Jvm.Cond.instanceMethod ({ cls := "SheetTrees$Variants", name := "find", desc := "(II)I" } : Jvm.MethodName)) ∈ ALLW := List.mem_filter.mpr ⟨List.mem_append_right _ (List.mem_of_getElem? (i := 760) (by decide +kernel)), rfl⟩
theorem kw_761 : (Jvm.Cond.code ({ cls := "SheetTrees$Variants", name := "find", desc := "(II)I" } : Jvm.MethodName) prog_8_method_8_code (4 : Nat) (Option.some Jvm.ClassFile.FieldType.int)) ∈ ALLW := List.mem_filter.mpr ⟨List.mem_append_right _ (List.mem_of_getElem? (i := 761) (by decide +kernel)), rfl⟩
theorem kw_762 : (Jvm.Cond.methodLink "SheetTrees$Variants" (76 : Nat) ({ cls := "SheetTrees$Variants", name := "isAt", desc := "(II)Z" } : Jvm.MethodName)) ∈ ALLW := List.mem_filter.mpr ⟨List.mem_append_right _ (List.mem_of_getElem? (i := 762) (by decide +kernel)), rfl⟩
theorem kw_764 : (Jvm.Cond.instanceMethod ({ cls := "SheetTrees$Variants", name := "isAt", desc := "(II)Z" } : Jvm.MethodName)) ∈ ALLW := List.mem_filter.mpr ⟨List.mem_append_right _ (List.mem_of_getElem? (i := 764) (by decide +kernel)), rfl⟩
theorem kw_765 : (Jvm.Cond.code ({ cls := "SheetTrees$Variants", name := "isAt", desc := "(II)Z" } : Jvm.MethodName) prog_8_method_9_code (6 : Nat) (Option.some Jvm.ClassFile.FieldType.boolean)) ∈ ALLW := List.mem_filter.mpr ⟨List.mem_append_right _ (List.mem_of_getElem? (i := 765) (by decide +kernel)), rfl⟩
theorem kw_766 : (Jvm.Cond.methodLink "SheetTrees$Variants" (80 : Nat) ({ cls := "SheetTrees$Book", name := "depthAt", desc := "(I)I" } : Jvm.MethodName)) ∈ ALLW := List.mem_filter.mpr ⟨List.mem_append_right _ (List.mem_of_getElem? (i := 766) (by decide +kernel)), rfl⟩
theorem kw_767 : (Jvm.Cond.methodLink "SheetTrees$Variants" (83 : Nat) ({ cls := "SheetTrees$Book", name := "placementAt", desc := "(I)I" } : Jvm.MethodName)) ∈ ALLW := List.mem_filter.mpr ⟨List.mem_append_right _ (List.mem_of_getElem? (i := 767) (by decide +kernel)), rfl⟩
theorem kw_768 : (Jvm.Cond.methodLink "SheetTrees$Variants" (71 : Nat) ({ cls := "SheetTrees$Book", name := "pageAbove", desc := "(I)I" } : Jvm.MethodName)) ∈ ALLW := List.mem_filter.mpr ⟨List.mem_append_right _ (List.mem_of_getElem? (i := 768) (by decide +kernel)), rfl⟩
theorem kw_769 : (Jvm.Cond.methodLink "SheetTrees$Variants" (65 : Nat) ({ cls := "SheetTrees$Variants", name := "content", desc := "(I)J" } : Jvm.MethodName)) ∈ ALLW := List.mem_filter.mpr ⟨List.mem_append_right _ (List.mem_of_getElem? (i := 769) (by decide +kernel)), rfl⟩
theorem kw_770 : (Jvm.Cond.instanceMethod ({ cls := "SheetTrees$Variants", name := "content", desc := "(I)J" } : Jvm.MethodName)) ∈ ALLW := List.mem_filter.mpr ⟨List.mem_append_right _ (List.mem_of_getElem? (i := 770) (by decide +kernel)), rfl⟩
theorem kw_771 : (Jvm.Cond.selects "SheetTrees$Variants" ({ cls := "SheetTrees$Variants", name := "content", desc := "(I)J" } : Jvm.MethodName) ({ cls := "SheetTrees$Variants", name := "content", desc := "(I)J" } : Jvm.MethodName)) ∈ ALLW := List.mem_filter.mpr ⟨List.mem_append_right _ (List.mem_of_getElem? (i := 771) (by decide +kernel)), rfl⟩
theorem kw_772 : (Jvm.Cond.code ({ cls := "SheetTrees$Variants", name := "content", desc := "(I)J" } : Jvm.MethodName) prog_8_method_5_code (2 : Nat) (Option.some Jvm.ClassFile.FieldType.long)) ∈ ALLW := List.mem_filter.mpr ⟨List.mem_append_right _ (List.mem_of_getElem? (i := 772) (by decide +kernel)), rfl⟩
theorem kw_773 : (Jvm.Cond.methodLink "SheetTrees$Variants" (53 : Nat) ({ cls := "SheetTrees$Row", name := "longAt", desc := "(I)J" } : Jvm.MethodName)) ∈ ALLW := List.mem_filter.mpr ⟨List.mem_append_right _ (List.mem_of_getElem? (i := 773) (by decide +kernel)), rfl⟩
theorem kw_774 : (Jvm.Cond.methodLink "SheetTrees$Variants" (68 : Nat) ({ cls := "SheetTrees$Variants", name := "addTelling", desc := "(II)I" } : Jvm.MethodName)) ∈ ALLW := List.mem_filter.mpr ⟨List.mem_append_right _ (List.mem_of_getElem? (i := 774) (by decide +kernel)), rfl⟩
theorem kw_776 : (Jvm.Cond.instanceMethod ({ cls := "SheetTrees$Variants", name := "addTelling", desc := "(II)I" } : Jvm.MethodName)) ∈ ALLW := List.mem_filter.mpr ⟨List.mem_append_right _ (List.mem_of_getElem? (i := 776) (by decide +kernel)), rfl⟩
theorem kw_777 : (Jvm.Cond.code ({ cls := "SheetTrees$Variants", name := "addTelling", desc := "(II)I" } : Jvm.MethodName) prog_8_method_10_code (6 : Nat) (Option.some Jvm.ClassFile.FieldType.int)) ∈ ALLW := List.mem_filter.mpr ⟨List.mem_append_right _ (List.mem_of_getElem? (i := 777) (by decide +kernel)), rfl⟩
theorem kw_778 : (Jvm.Cond.methodLink "SheetTreesLaw" (139 : Nat) ({ cls := "SheetTreesLaw", name := "fit", desc := "(LSheetTrees;IIIZ[J)I" } : Jvm.MethodName)) ∈ ALLW := List.mem_filter.mpr ⟨List.mem_append_right _ (List.mem_of_getElem? (i := 778) (by decide +kernel)), rfl⟩
theorem kw_779 : (Jvm.Cond.static ({ cls := "SheetTreesLaw", name := "fit", desc := "(LSheetTrees;IIIZ[J)I" } : Jvm.MethodName)) ∈ ALLW := List.mem_filter.mpr ⟨List.mem_append_right _ (List.mem_of_getElem? (i := 779) (by decide +kernel)), rfl⟩
theorem kw_781 : (Jvm.Cond.methodLink "SheetTreesLaw" (55 : Nat) ({ cls := "SheetTrees", name := "fit", desc := "(IIIZ)Z" } : Jvm.MethodName)) ∈ ALLW := List.mem_filter.mpr ⟨List.mem_append_right _ (List.mem_of_getElem? (i := 781) (by decide +kernel)), rfl⟩
theorem kw_782 : (Jvm.Cond.instanceMethod ({ cls := "SheetTrees", name := "fit", desc := "(IIIZ)Z" } : Jvm.MethodName)) ∈ ALLW := List.mem_filter.mpr ⟨List.mem_append_right _ (List.mem_of_getElem? (i := 782) (by decide +kernel)), rfl⟩
theorem kw_783 : (Jvm.Cond.selects "SheetTrees" ({ cls := "SheetTrees", name := "fit", desc := "(IIIZ)Z" } : Jvm.MethodName) ({ cls := "SheetTrees", name := "fit", desc := "(IIIZ)Z" } : Jvm.MethodName)) ∈ ALLW := List.mem_filter.mpr ⟨List.mem_append_right _ (List.mem_of_getElem? (i := 783) (by decide +kernel)), rfl⟩
theorem kw_784 : (Jvm.Cond.code ({ cls := "SheetTrees", name := "fit", desc := "(IIIZ)Z" } : Jvm.MethodName) prog_1_method_16_code (5 : Nat) (Option.some Jvm.ClassFile.FieldType.boolean)) ∈ ALLW := List.mem_filter.mpr ⟨List.mem_append_right _ (List.mem_of_getElem? (i := 784) (by decide +kernel)), rfl⟩
theorem kw_785 : (Jvm.Cond.methodLink "SheetTreesLaw" (143 : Nat) ({ cls := "SheetTreesLaw", name := "valueOf", desc := "(LSheetTrees;III[J)I" } : Jvm.MethodName)) ∈ ALLW := List.mem_filter.mpr ⟨List.mem_append_right _ (List.mem_of_getElem? (i := 785) (by decide +kernel)), rfl⟩
theorem kw_786 : (Jvm.Cond.static ({ cls := "SheetTreesLaw", name := "valueOf", desc := "(LSheetTrees;III[J)I" } : Jvm.MethodName)) ∈ ALLW := List.mem_filter.mpr ⟨List.mem_append_right _ (List.mem_of_getElem? (i := 786) (by decide +kernel)), rfl⟩
theorem kw_788 : (Jvm.Cond.methodLink "SheetTreesLaw" (59 : Nat) ({ cls := "SheetTrees", name := "valueOf", desc := "(III)J" } : Jvm.MethodName)) ∈ ALLW := List.mem_filter.mpr ⟨List.mem_append_right _ (List.mem_of_getElem? (i := 788) (by decide +kernel)), rfl⟩
theorem kw_789 : (Jvm.Cond.instanceMethod ({ cls := "SheetTrees", name := "valueOf", desc := "(III)J" } : Jvm.MethodName)) ∈ ALLW := List.mem_filter.mpr ⟨List.mem_append_right _ (List.mem_of_getElem? (i := 789) (by decide +kernel)), rfl⟩
theorem kw_790 : (Jvm.Cond.selects "SheetTrees" ({ cls := "SheetTrees", name := "valueOf", desc := "(III)J" } : Jvm.MethodName) ({ cls := "SheetTrees", name := "valueOf", desc := "(III)J" } : Jvm.MethodName)) ∈ ALLW := List.mem_filter.mpr ⟨List.mem_append_right _ (List.mem_of_getElem? (i := 790) (by decide +kernel)), rfl⟩
theorem kw_791 : (Jvm.Cond.code ({ cls := "SheetTrees", name := "valueOf", desc := "(III)J" } : Jvm.MethodName) prog_1_method_17_code (4 : Nat) (Option.some Jvm.ClassFile.FieldType.long)) ∈ ALLW := List.mem_filter.mpr ⟨List.mem_append_right _ (List.mem_of_getElem? (i := 791) (by decide +kernel)), rfl⟩
theorem kw_792 : (Jvm.Cond.methodLink "SheetTrees" (193 : Nat) ({ cls := "SheetTrees", name := "heard", desc := "(IIIIJ)J" } : Jvm.MethodName)) ∈ ALLW := List.mem_filter.mpr ⟨List.mem_append_right _ (List.mem_of_getElem? (i := 792) (by decide +kernel)), rfl⟩
theorem kw_794 : (Jvm.Cond.instanceMethod ({ cls := "SheetTrees", name := "heard", desc := "(IIIIJ)J" } : Jvm.MethodName)) ∈ ALLW := List.mem_filter.mpr ⟨List.mem_append_right _ (List.mem_of_getElem? (i := 794) (by decide +kernel)), rfl⟩
theorem kw_795 : (Jvm.Cond.code ({ cls := "SheetTrees", name := "heard", desc := "(IIIIJ)J" } : Jvm.MethodName) prog_1_method_27_code (8 : Nat) (Option.some Jvm.ClassFile.FieldType.long)) ∈ ALLW := List.mem_filter.mpr ⟨List.mem_append_right _ (List.mem_of_getElem? (i := 795) (by decide +kernel)), rfl⟩
theorem kw_796 : (Jvm.Cond.methodLink "SheetTrees" (247 : Nat) ({ cls := "SheetTrees$Variants", name := "nearest", desc := "(IIII)I" } : Jvm.MethodName)) ∈ ALLW := List.mem_filter.mpr ⟨List.mem_append_right _ (List.mem_of_getElem? (i := 796) (by decide +kernel)), rfl⟩
theorem kw_797 : (Jvm.Cond.instanceMethod ({ cls := "SheetTrees$Variants", name := "nearest", desc := "(IIII)I" } : Jvm.MethodName)) ∈ ALLW := List.mem_filter.mpr ⟨List.mem_append_right _ (List.mem_of_getElem? (i := 797) (by decide +kernel)), rfl⟩
theorem kw_798 : (Jvm.Cond.selects "SheetTrees$Variants" ({ cls := "SheetTrees$Variants", name := "nearest", desc := "(IIII)I" } : Jvm.MethodName) ({ cls := "SheetTrees$Variants", name := "nearest", desc := "(IIII)I" } : Jvm.MethodName)) ∈ ALLW := List.mem_filter.mpr ⟨List.mem_append_right _ (List.mem_of_getElem? (i := 798) (by decide +kernel)), rfl⟩
theorem kw_799 : (Jvm.Cond.code ({ cls := "SheetTrees$Variants", name := "nearest", desc := "(IIII)I" } : Jvm.MethodName) prog_8_method_7_code (11 : Nat) (Option.some Jvm.ClassFile.FieldType.int)) ∈ ALLW := List.mem_filter.mpr ⟨List.mem_append_right _ (List.mem_of_getElem? (i := 799) (by decide +kernel)), rfl⟩
theorem kw_800 : (Jvm.Cond.methodLink "SheetTrees" (251 : Nat) ({ cls := "SheetTrees$Variants", name := "content", desc := "(I)J" } : Jvm.MethodName)) ∈ ALLW := List.mem_filter.mpr ⟨List.mem_append_right _ (List.mem_of_getElem? (i := 800) (by decide +kernel)), rfl⟩
theorem kw_801 : (Jvm.Cond.methodLink "SheetTreesLaw" (146 : Nat) ({ cls := "SheetTreesLaw", name := "fitted", desc := "(LSheetTrees;III[J)I" } : Jvm.MethodName)) ∈ ALLW := List.mem_filter.mpr ⟨List.mem_append_right _ (List.mem_of_getElem? (i := 801) (by decide +kernel)), rfl⟩
theorem kw_802 : (Jvm.Cond.static ({ cls := "SheetTreesLaw", name := "fitted", desc := "(LSheetTrees;III[J)I" } : Jvm.MethodName)) ∈ ALLW := List.mem_filter.mpr ⟨List.mem_append_right _ (List.mem_of_getElem? (i := 802) (by decide +kernel)), rfl⟩
theorem kw_804 : (Jvm.Cond.methodLink "SheetTreesLaw" (63 : Nat) ({ cls := "SheetTrees", name := "fitted", desc := "(III)Z" } : Jvm.MethodName)) ∈ ALLW := List.mem_filter.mpr ⟨List.mem_append_right _ (List.mem_of_getElem? (i := 804) (by decide +kernel)), rfl⟩
theorem kw_805 : (Jvm.Cond.instanceMethod ({ cls := "SheetTrees", name := "fitted", desc := "(III)Z" } : Jvm.MethodName)) ∈ ALLW := List.mem_filter.mpr ⟨List.mem_append_right _ (List.mem_of_getElem? (i := 805) (by decide +kernel)), rfl⟩
theorem kw_806 : (Jvm.Cond.selects "SheetTrees" ({ cls := "SheetTrees", name := "fitted", desc := "(III)Z" } : Jvm.MethodName) ({ cls := "SheetTrees", name := "fitted", desc := "(III)Z" } : Jvm.MethodName)) ∈ ALLW := List.mem_filter.mpr ⟨List.mem_append_right _ (List.mem_of_getElem? (i := 806) (by decide +kernel)), rfl⟩
theorem kw_807 : (Jvm.Cond.code ({ cls := "SheetTrees", name := "fitted", desc := "(III)Z" } : Jvm.MethodName) prog_1_method_18_code (4 : Nat) (Option.some Jvm.ClassFile.FieldType.boolean)) ∈ ALLW := List.mem_filter.mpr ⟨List.mem_append_right _ (List.mem_of_getElem? (i := 807) (by decide +kernel)), rfl⟩
theorem kw_808 : (Jvm.Cond.methodLink "SheetTreesLaw" (158 : Nat) ({ cls := "SheetTreesLaw", name := "page", desc := "(LSheetTrees;II[J)I" } : Jvm.MethodName)) ∈ ALLW := List.mem_filter.mpr ⟨List.mem_append_right _ (List.mem_of_getElem? (i := 808) (by decide +kernel)), rfl⟩
theorem kw_809 : (Jvm.Cond.static ({ cls := "SheetTreesLaw", name := "page", desc := "(LSheetTrees;II[J)I" } : Jvm.MethodName)) ∈ ALLW := List.mem_filter.mpr ⟨List.mem_append_right _ (List.mem_of_getElem? (i := 809) (by decide +kernel)), rfl⟩
theorem kw_811 : (Jvm.Cond.methodLink "SheetTreesLaw" (66 : Nat) ({ cls := "SheetTrees", name := "page", desc := "(II)I" } : Jvm.MethodName)) ∈ ALLW := List.mem_filter.mpr ⟨List.mem_append_right _ (List.mem_of_getElem? (i := 811) (by decide +kernel)), rfl⟩
theorem kw_812 : (Jvm.Cond.instanceMethod ({ cls := "SheetTrees", name := "page", desc := "(II)I" } : Jvm.MethodName)) ∈ ALLW := List.mem_filter.mpr ⟨List.mem_append_right _ (List.mem_of_getElem? (i := 812) (by decide +kernel)), rfl⟩
theorem kw_813 : (Jvm.Cond.selects "SheetTrees" ({ cls := "SheetTrees", name := "page", desc := "(II)I" } : Jvm.MethodName) ({ cls := "SheetTrees", name := "page", desc := "(II)I" } : Jvm.MethodName)) ∈ ALLW := List.mem_filter.mpr ⟨List.mem_append_right _ (List.mem_of_getElem? (i := 813) (by decide +kernel)), rfl⟩
theorem kw_814 : (Jvm.Cond.code ({ cls := "SheetTrees", name := "page", desc := "(II)I" } : Jvm.MethodName) prog_1_method_21_code (3 : Nat) (Option.some Jvm.ClassFile.FieldType.int)) ∈ ALLW := List.mem_filter.mpr ⟨List.mem_append_right _ (List.mem_of_getElem? (i := 814) (by decide +kernel)), rfl⟩
theorem kw_815 : (Jvm.Cond.methodLink "SheetTrees" (204 : Nat) ({ cls := "SheetTrees$Book", name := "sheetAt", desc := "(I)I" } : Jvm.MethodName)) ∈ ALLW := List.mem_filter.mpr ⟨List.mem_append_right _ (List.mem_of_getElem? (i := 815) (by decide +kernel)), rfl⟩
theorem kw_816 : (Jvm.Cond.methodLink "SheetTrees" (207 : Nat) ({ cls := "SheetTrees$Book", name := "placementAt", desc := "(I)I" } : Jvm.MethodName)) ∈ ALLW := List.mem_filter.mpr ⟨List.mem_append_right _ (List.mem_of_getElem? (i := 816) (by decide +kernel)), rfl⟩
theorem kw_817 : (Jvm.Cond.methodLink "SheetTrees" (210 : Nat) ({ cls := "SheetTrees$Book", name := "pageAbove", desc := "(I)I" } : Jvm.MethodName)) ∈ ALLW := List.mem_filter.mpr ⟨List.mem_append_right _ (List.mem_of_getElem? (i := 817) (by decide +kernel)), rfl⟩
theorem kw_818 : (Jvm.Cond.methodLink "SheetTrees" (213 : Nat) ({ cls := "SheetTrees$Book", name := "depthAt", desc := "(I)I" } : Jvm.MethodName)) ∈ ALLW := List.mem_filter.mpr ⟨List.mem_append_right _ (List.mem_of_getElem? (i := 818) (by decide +kernel)), rfl⟩
theorem kw_820 : (Jvm.Cond.methodLink "SheetTreesLaw" (161 : Nat) ({ cls := "SheetTreesLaw", name := "units", desc := "(LSheetTrees;I[J)I" } : Jvm.MethodName)) ∈ ALLW := List.mem_filter.mpr ⟨List.mem_append_right _ (List.mem_of_getElem? (i := 820) (by decide +kernel)), rfl⟩
theorem kw_821 : (Jvm.Cond.static ({ cls := "SheetTreesLaw", name := "units", desc := "(LSheetTrees;I[J)I" } : Jvm.MethodName)) ∈ ALLW := List.mem_filter.mpr ⟨List.mem_append_right _ (List.mem_of_getElem? (i := 821) (by decide +kernel)), rfl⟩
theorem kw_823 : (Jvm.Cond.methodLink "SheetTreesLaw" (69 : Nat) ({ cls := "SheetTrees", name := "units", desc := "(I)I" } : Jvm.MethodName)) ∈ ALLW := List.mem_filter.mpr ⟨List.mem_append_right _ (List.mem_of_getElem? (i := 823) (by decide +kernel)), rfl⟩
theorem kw_824 : (Jvm.Cond.instanceMethod ({ cls := "SheetTrees", name := "units", desc := "(I)I" } : Jvm.MethodName)) ∈ ALLW := List.mem_filter.mpr ⟨List.mem_append_right _ (List.mem_of_getElem? (i := 824) (by decide +kernel)), rfl⟩
theorem kw_825 : (Jvm.Cond.selects "SheetTrees" ({ cls := "SheetTrees", name := "units", desc := "(I)I" } : Jvm.MethodName) ({ cls := "SheetTrees", name := "units", desc := "(I)I" } : Jvm.MethodName)) ∈ ALLW := List.mem_filter.mpr ⟨List.mem_append_right _ (List.mem_of_getElem? (i := 825) (by decide +kernel)), rfl⟩
theorem kw_826 : (Jvm.Cond.code ({ cls := "SheetTrees", name := "units", desc := "(I)I" } : Jvm.MethodName) prog_1_method_22_code (2 : Nat) (Option.some Jvm.ClassFile.FieldType.int)) ∈ ALLW := List.mem_filter.mpr ⟨List.mem_append_right _ (List.mem_of_getElem? (i := 826) (by decide +kernel)), rfl⟩
theorem kw_827 : (Jvm.Cond.methodLink "SheetTrees" (221 : Nat) ({ cls := "SheetTrees$Parts", name := "unitCount", desc := "(I)I" } : Jvm.MethodName)) ∈ ALLW := List.mem_filter.mpr ⟨List.mem_append_right _ (List.mem_of_getElem? (i := 827) (by decide +kernel)), rfl⟩
theorem kw_828 : (Jvm.Cond.instanceMethod ({ cls := "SheetTrees$Parts", name := "unitCount", desc := "(I)I" } : Jvm.MethodName)) ∈ ALLW := List.mem_filter.mpr ⟨List.mem_append_right _ (List.mem_of_getElem? (i := 828) (by decide +kernel)), rfl⟩
theorem kw_829 : (Jvm.Cond.selects "SheetTrees$Parts" ({ cls := "SheetTrees$Parts", name := "unitCount", desc := "(I)I" } : Jvm.MethodName) ({ cls := "SheetTrees$Parts", name := "unitCount", desc := "(I)I" } : Jvm.MethodName)) ∈ ALLW := List.mem_filter.mpr ⟨List.mem_append_right _ (List.mem_of_getElem? (i := 829) (by decide +kernel)), rfl⟩
theorem kw_830 : (Jvm.Cond.code ({ cls := "SheetTrees$Parts", name := "unitCount", desc := "(I)I" } : Jvm.MethodName) prog_5_method_14_code (4 : Nat) (Option.some Jvm.ClassFile.FieldType.int)) ∈ ALLW := List.mem_filter.mpr ⟨List.mem_append_right _ (List.mem_of_getElem? (i := 830) (by decide +kernel)), rfl⟩
theorem kw_831 : (Jvm.Cond.methodLink "SheetTrees$Parts" (90 : Nat) ({ cls := "SheetTrees$Parts", name := "sheetOfGate", desc := "(II)I" } : Jvm.MethodName)) ∈ ALLW := List.mem_filter.mpr ⟨List.mem_append_right _ (List.mem_of_getElem? (i := 831) (by decide +kernel)), rfl⟩
theorem kw_832 : (Jvm.Cond.methodLink "SheetTrees$Parts" (93 : Nat) ({ cls := "SheetTrees$Book", name := "comingsOf", desc := "(I)I" } : Jvm.MethodName)) ∈ ALLW := List.mem_filter.mpr ⟨List.mem_append_right _ (List.mem_of_getElem? (i := 832) (by decide +kernel)), rfl⟩
theorem kw_833 : (Jvm.Cond.methodLink "SheetTrees$Parts" (98 : Nat) ({ cls := "java/lang/Math", name := "max", desc := "(II)I" } : Jvm.MethodName)) ∈ ALLW := List.mem_filter.mpr ⟨List.mem_append_right _ (List.mem_of_getElem? (i := 833) (by decide +kernel)), rfl⟩
theorem kw_834 : (Jvm.Cond.methodLink "SheetTreesLaw" (164 : Nat) ({ cls := "SheetTreesLaw", name := "where", desc := "(LSheetTrees;III[J)I" } : Jvm.MethodName)) ∈ ALLW := List.mem_filter.mpr ⟨List.mem_append_right _ (List.mem_of_getElem? (i := 834) (by decide +kernel)), rfl⟩
theorem kw_835 : (Jvm.Cond.static ({ cls := "SheetTreesLaw", name := "where", desc := "(LSheetTrees;III[J)I" } : Jvm.MethodName)) ∈ ALLW := List.mem_filter.mpr ⟨List.mem_append_right _ (List.mem_of_getElem? (i := 835) (by decide +kernel)), rfl⟩
theorem kw_837 : (Jvm.Cond.methodLink "SheetTreesLaw" (72 : Nat) ({ cls := "SheetTrees", name := "where", desc := "(III)I" } : Jvm.MethodName)) ∈ ALLW := List.mem_filter.mpr ⟨List.mem_append_right _ (List.mem_of_getElem? (i := 837) (by decide +kernel)), rfl⟩
theorem kw_838 : (Jvm.Cond.instanceMethod ({ cls := "SheetTrees", name := "where", desc := "(III)I" } : Jvm.MethodName)) ∈ ALLW := List.mem_filter.mpr ⟨List.mem_append_right _ (List.mem_of_getElem? (i := 838) (by decide +kernel)), rfl⟩
theorem kw_839 : (Jvm.Cond.selects "SheetTrees" ({ cls := "SheetTrees", name := "where", desc := "(III)I" } : Jvm.MethodName) ({ cls := "SheetTrees", name := "where", desc := "(III)I" } : Jvm.MethodName)) ∈ ALLW := List.mem_filter.mpr ⟨List.mem_append_right _ (List.mem_of_getElem? (i := 839) (by decide +kernel)), rfl⟩
theorem kw_840 : (Jvm.Cond.code ({ cls := "SheetTrees", name := "where", desc := "(III)I" } : Jvm.MethodName) prog_1_method_23_code (4 : Nat) (Option.some Jvm.ClassFile.FieldType.int)) ∈ ALLW := List.mem_filter.mpr ⟨List.mem_append_right _ (List.mem_of_getElem? (i := 840) (by decide +kernel)), rfl⟩
theorem kw_841 : (Jvm.Cond.methodLink "SheetTrees" (224 : Nat) ({ cls := "SheetTrees", name := "needUnit", desc := "(II)V" } : Jvm.MethodName)) ∈ ALLW := List.mem_filter.mpr ⟨List.mem_append_right _ (List.mem_of_getElem? (i := 841) (by decide +kernel)), rfl⟩
theorem kw_843 : (Jvm.Cond.instanceMethod ({ cls := "SheetTrees", name := "needUnit", desc := "(II)V" } : Jvm.MethodName)) ∈ ALLW := List.mem_filter.mpr ⟨List.mem_append_right _ (List.mem_of_getElem? (i := 843) (by decide +kernel)), rfl⟩
theorem kw_844 : (Jvm.Cond.code ({ cls := "SheetTrees", name := "needUnit", desc := "(II)V" } : Jvm.MethodName) prog_1_method_33_code (3 : Nat) (Option.none : Option Jvm.ClassFile.FieldType)) ∈ ALLW := List.mem_filter.mpr ⟨List.mem_append_right _ (List.mem_of_getElem? (i := 844) (by decide +kernel)), rfl⟩
theorem kw_846 : (Jvm.Cond.methodLink "SheetTrees" (227 : Nat) ({ cls := "SheetTrees$Book", name := "pageOfComing", desc := "(II)I" } : Jvm.MethodName)) ∈ ALLW := List.mem_filter.mpr ⟨List.mem_append_right _ (List.mem_of_getElem? (i := 846) (by decide +kernel)), rfl⟩
theorem kw_847 : (Jvm.Cond.instanceMethod ({ cls := "SheetTrees$Book", name := "pageOfComing", desc := "(II)I" } : Jvm.MethodName)) ∈ ALLW := List.mem_filter.mpr ⟨List.mem_append_right _ (List.mem_of_getElem? (i := 847) (by decide +kernel)), rfl⟩
theorem kw_848 : (Jvm.Cond.selects "SheetTrees$Book" ({ cls := "SheetTrees$Book", name := "pageOfComing", desc := "(II)I" } : Jvm.MethodName) ({ cls := "SheetTrees$Book", name := "pageOfComing", desc := "(II)I" } : Jvm.MethodName)) ∈ ALLW := List.mem_filter.mpr ⟨List.mem_append_right _ (List.mem_of_getElem? (i := 848) (by decide +kernel)), rfl⟩
theorem kw_849 : (Jvm.Cond.code ({ cls := "SheetTrees$Book", name := "pageOfComing", desc := "(II)I" } : Jvm.MethodName) prog_2_method_12_code (4 : Nat) (Option.some Jvm.ClassFile.FieldType.int)) ∈ ALLW := List.mem_filter.mpr ⟨List.mem_append_right _ (List.mem_of_getElem? (i := 849) (by decide +kernel)), rfl⟩
theorem kw_850 : (Jvm.Cond.methodLink "SheetTrees$Book" (89 : Nat) ({ cls := "SheetTrees$Book", name := "comingAt", desc := "(I)I" } : Jvm.MethodName)) ∈ ALLW := List.mem_filter.mpr ⟨List.mem_append_right _ (List.mem_of_getElem? (i := 850) (by decide +kernel)), rfl⟩
theorem kw_851 : (Jvm.Cond.instanceMethod ({ cls := "SheetTrees$Book", name := "comingAt", desc := "(I)I" } : Jvm.MethodName)) ∈ ALLW := List.mem_filter.mpr ⟨List.mem_append_right _ (List.mem_of_getElem? (i := 851) (by decide +kernel)), rfl⟩
theorem kw_852 : (Jvm.Cond.selects "SheetTrees$Book" ({ cls := "SheetTrees$Book", name := "comingAt", desc := "(I)I" } : Jvm.MethodName) ({ cls := "SheetTrees$Book", name := "comingAt", desc := "(I)I" } : Jvm.MethodName)) ∈ ALLW := List.mem_filter.mpr ⟨List.mem_append_right _ (List.mem_of_getElem? (i := 852) (by decide +kernel)), rfl⟩
theorem kw_853 : (Jvm.Cond.code ({ cls := "SheetTrees$Book", name := "comingAt", desc := "(I)I" } : Jvm.MethodName) prog_2_method_10_code (2 : Nat) (Option.some Jvm.ClassFile.FieldType.int)) ∈ ALLW := List.mem_filter.mpr ⟨List.mem_append_right _ (List.mem_of_getElem? (i := 853) (by decide +kernel)), rfl⟩
theorem kw_854 : (Jvm.Cond.methodLink "SheetTreesLaw" (167 : Nat) ({ cls := "SheetTreesLaw", name := "name", desc := "(LSheetTrees;II[J)I" } : Jvm.MethodName)) ∈ ALLW := List.mem_filter.mpr ⟨List.mem_append_right _ (List.mem_of_getElem? (i := 854) (by decide +kernel)), rfl⟩
theorem kw_855 : (Jvm.Cond.static ({ cls := "SheetTreesLaw", name := "name", desc := "(LSheetTrees;II[J)I" } : Jvm.MethodName)) ∈ ALLW := List.mem_filter.mpr ⟨List.mem_append_right _ (List.mem_of_getElem? (i := 855) (by decide +kernel)), rfl⟩
theorem kw_857 : (Jvm.Cond.methodLink "SheetTreesLaw" (76 : Nat) ({ cls := "SheetTrees", name := "name", desc := "(II)I" } : Jvm.MethodName)) ∈ ALLW := List.mem_filter.mpr ⟨List.mem_append_right _ (List.mem_of_getElem? (i := 857) (by decide +kernel)), rfl⟩
theorem kw_858 : (Jvm.Cond.instanceMethod ({ cls := "SheetTrees", name := "name", desc := "(II)I" } : Jvm.MethodName)) ∈ ALLW := List.mem_filter.mpr ⟨List.mem_append_right _ (List.mem_of_getElem? (i := 858) (by decide +kernel)), rfl⟩
theorem kw_859 : (Jvm.Cond.selects "SheetTrees" ({ cls := "SheetTrees", name := "name", desc := "(II)I" } : Jvm.MethodName) ({ cls := "SheetTrees", name := "name", desc := "(II)I" } : Jvm.MethodName)) ∈ ALLW := List.mem_filter.mpr ⟨List.mem_append_right _ (List.mem_of_getElem? (i := 859) (by decide +kernel)), rfl⟩
theorem kw_860 : (Jvm.Cond.code ({ cls := "SheetTrees", name := "name", desc := "(II)I" } : Jvm.MethodName) prog_1_method_24_code (4 : Nat) (Option.some Jvm.ClassFile.FieldType.int)) ∈ ALLW := List.mem_filter.mpr ⟨List.mem_append_right _ (List.mem_of_getElem? (i := 860) (by decide +kernel)), rfl⟩
theorem kw_861 : (Jvm.Cond.methodLink "SheetTrees" (230 : Nat) ({ cls := "SheetTrees$Parts", name := "numberOf", desc := "(IIZ)I" } : Jvm.MethodName)) ∈ ALLW := List.mem_filter.mpr ⟨List.mem_append_right _ (List.mem_of_getElem? (i := 861) (by decide +kernel)), rfl⟩
theorem kw_862 : (Jvm.Cond.instanceMethod ({ cls := "SheetTrees$Parts", name := "numberOf", desc := "(IIZ)I" } : Jvm.MethodName)) ∈ ALLW := List.mem_filter.mpr ⟨List.mem_append_right _ (List.mem_of_getElem? (i := 862) (by decide +kernel)), rfl⟩
theorem kw_863 : (Jvm.Cond.selects "SheetTrees$Parts" ({ cls := "SheetTrees$Parts", name := "numberOf", desc := "(IIZ)I" } : Jvm.MethodName) ({ cls := "SheetTrees$Parts", name := "numberOf", desc := "(IIZ)I" } : Jvm.MethodName)) ∈ ALLW := List.mem_filter.mpr ⟨List.mem_append_right _ (List.mem_of_getElem? (i := 863) (by decide +kernel)), rfl⟩
theorem kw_864 : (Jvm.Cond.code ({ cls := "SheetTrees$Parts", name := "numberOf", desc := "(IIZ)I" } : Jvm.MethodName) prog_5_method_15_code (6 : Nat) (Option.some Jvm.ClassFile.FieldType.int)) ∈ ALLW := List.mem_filter.mpr ⟨List.mem_append_right _ (List.mem_of_getElem? (i := 864) (by decide +kernel)), rfl⟩
theorem kw_865 : (Jvm.Cond.methodLink "SheetTrees$Parts" (103 : Nat) ({ cls := "SheetTrees$Book", name := "count", desc := "()I" } : Jvm.MethodName)) ∈ ALLW := List.mem_filter.mpr ⟨List.mem_append_right _ (List.mem_of_getElem? (i := 865) (by decide +kernel)), rfl⟩
theorem kw_866 : (Jvm.Cond.methodLink "SheetTrees$Parts" (107 : Nat) ({ cls := "SheetTrees$Parts", name := "newUnitsAt", desc := "(III)I" } : Jvm.MethodName)) ∈ ALLW := List.mem_filter.mpr ⟨List.mem_append_right _ (List.mem_of_getElem? (i := 866) (by decide +kernel)), rfl⟩
theorem kw_868 : (Jvm.Cond.instanceMethod ({ cls := "SheetTrees$Parts", name := "newUnitsAt", desc := "(III)I" } : Jvm.MethodName)) ∈ ALLW := List.mem_filter.mpr ⟨List.mem_append_right _ (List.mem_of_getElem? (i := 868) (by decide +kernel)), rfl⟩
theorem kw_869 : (Jvm.Cond.code ({ cls := "SheetTrees$Parts", name := "newUnitsAt", desc := "(III)I" } : Jvm.MethodName) prog_5_method_16_code (9 : Nat) (Option.some Jvm.ClassFile.FieldType.int)) ∈ ALLW := List.mem_filter.mpr ⟨List.mem_append_right _ (List.mem_of_getElem? (i := 869) (by decide +kernel)), rfl⟩
theorem kw_870 : (Jvm.Cond.methodLink "SheetTrees$Parts" (111 : Nat) ({ cls := "SheetTrees$Book", name := "sheetAt", desc := "(I)I" } : Jvm.MethodName)) ∈ ALLW := List.mem_filter.mpr ⟨List.mem_append_right _ (List.mem_of_getElem? (i := 870) (by decide +kernel)), rfl⟩
theorem kw_871 : (Jvm.Cond.methodLink "SheetTrees$Parts" (114 : Nat) ({ cls := "SheetTrees$Book", name := "comingAt", desc := "(I)I" } : Jvm.MethodName)) ∈ ALLW := List.mem_filter.mpr ⟨List.mem_append_right _ (List.mem_of_getElem? (i := 871) (by decide +kernel)), rfl⟩
theorem kw_872 : (Jvm.Cond.methodLink "SheetTrees" (234 : Nat) ({ cls := "SheetTrees$Parts", name := "letterOf", desc := "(I)I" } : Jvm.MethodName)) ∈ ALLW := List.mem_filter.mpr ⟨List.mem_append_right _ (List.mem_of_getElem? (i := 872) (by decide +kernel)), rfl⟩
theorem kw_873 : (Jvm.Cond.classLink "SheetTreesLaw" (80 : Nat) "SheetTreesModel") ∈ ALLW := List.mem_filter.mpr ⟨List.mem_append_right _ (List.mem_of_getElem? (i := 873) (by decide +kernel)), rfl⟩
theorem kw_874 : (Jvm.Cond.instantiable "SheetTreesModel" (19 : Nat)) ∈ ALLW := List.mem_filter.mpr ⟨List.mem_append_right _ (List.mem_of_getElem? (i := 874) (by decide +kernel)), rfl⟩
theorem kw_875 : (Jvm.Cond.methodLink "SheetTreesLaw" (82 : Nat) ({ cls := "SheetTreesModel", name := "<init>", desc := "()V" } : Jvm.MethodName)) ∈ ALLW := List.mem_filter.mpr ⟨List.mem_append_right _ (List.mem_of_getElem? (i := 875) (by decide +kernel)), rfl⟩
theorem kw_876 : (Jvm.Cond.instanceMethod ({ cls := "SheetTreesModel", name := "<init>", desc := "()V" } : Jvm.MethodName)) ∈ ALLW := List.mem_filter.mpr ⟨List.mem_append_right _ (List.mem_of_getElem? (i := 876) (by decide +kernel)), rfl⟩
theorem kw_877 : (Jvm.Cond.code ({ cls := "SheetTreesModel", name := "<init>", desc := "()V" } : Jvm.MethodName) prog_10_method_1_code (1 : Nat) (Option.none : Option Jvm.ClassFile.FieldType)) ∈ ALLW := List.mem_filter.mpr ⟨List.mem_append_right _ (List.mem_of_getElem? (i := 877) (by decide +kernel)), rfl⟩
theorem kw_878 : (Jvm.Cond.methodLink "SheetTreesModel" (1 : Nat) ({ cls := "java/lang/Object", name := "<init>", desc := "()V" } : Jvm.MethodName)) ∈ ALLW := List.mem_filter.mpr ⟨List.mem_append_right _ (List.mem_of_getElem? (i := 878) (by decide +kernel)), rfl⟩
theorem kw_879 : (Jvm.Cond.constant "SheetTreesModel" (16 : Nat) (192100 : Int32)) ∈ ALLW := List.mem_filter.mpr ⟨List.mem_append_right _ (List.mem_of_getElem? (i := 879) (by decide +kernel)), rfl⟩
theorem kw_880 : (Jvm.Cond.fieldLink "SheetTreesModel" (45 : Nat) "SheetTreesModel" "thrown" "I") ∈ ALLW := List.mem_filter.mpr ⟨List.mem_append_right _ (List.mem_of_getElem? (i := 880) (by decide +kernel)), rfl⟩
theorem kw_881 : (Jvm.Cond.fieldLink "SheetTreesModel" (7 : Nat) "SheetTreesModel" "now" "[J") ∈ ALLW := List.mem_filter.mpr ⟨List.mem_append_right _ (List.mem_of_getElem? (i := 881) (by decide +kernel)), rfl⟩
theorem kw_882 : (Jvm.Cond.fieldLink "SheetTreesModel" (13 : Nat) "SheetTreesModel" "before" "[J") ∈ ALLW := List.mem_filter.mpr ⟨List.mem_append_right _ (List.mem_of_getElem? (i := 882) (by decide +kernel)), rfl⟩
theorem kw_883 : (Jvm.Cond.fieldLink "SheetTreesModel" (17 : Nat) "SheetTreesModel" "kept" "[J") ∈ ALLW := List.mem_filter.mpr ⟨List.mem_append_right _ (List.mem_of_getElem? (i := 883) (by decide +kernel)), rfl⟩
theorem kw_884 : (Jvm.Cond.fieldLink "SheetTreesModel" (56 : Nat) "SheetTreesModel" "keptCount" "I") ∈ ALLW := List.mem_filter.mpr ⟨List.mem_append_right _ (List.mem_of_getElem? (i := 884) (by decide +kernel)), rfl⟩
theorem kw_885 : (Jvm.Cond.fieldLink "SheetTreesModel" (53 : Nat) "SheetTreesModel" "keptFirst" "I") ∈ ALLW := List.mem_filter.mpr ⟨List.mem_append_right _ (List.mem_of_getElem? (i := 885) (by decide +kernel)), rfl⟩
theorem kw_886 : (Jvm.Cond.fieldLink "SheetTreesModel" (59 : Nat) "SheetTreesModel" "lost" "I") ∈ ALLW := List.mem_filter.mpr ⟨List.mem_append_right _ (List.mem_of_getElem? (i := 886) (by decide +kernel)), rfl⟩
theorem kw_887 : (Jvm.Cond.fieldLink "SheetTreesModel" (49 : Nat) "SheetTreesModel" "fresh" "Z") ∈ ALLW := List.mem_filter.mpr ⟨List.mem_append_right _ (List.mem_of_getElem? (i := 887) (by decide +kernel)), rfl⟩
theorem kw_888 : (Jvm.Cond.fieldLink "SheetTreesModel" (70 : Nat) "SheetTreesModel" "pages" "I") ∈ ALLW := List.mem_filter.mpr ⟨List.mem_append_right _ (List.mem_of_getElem? (i := 888) (by decide +kernel)), rfl⟩
theorem kw_889 : (Jvm.Cond.fieldLink "SheetTreesModel" (20 : Nat) "SheetTreesModel" "pageSheet" "[I") ∈ ALLW := List.mem_filter.mpr ⟨List.mem_append_right _ (List.mem_of_getElem? (i := 889) (by decide +kernel)), rfl⟩
theorem kw_890 : (Jvm.Cond.fieldLink "SheetTreesModel" (24 : Nat) "SheetTreesModel" "pagePlacement" "[I") ∈ ALLW := List.mem_filter.mpr ⟨List.mem_append_right _ (List.mem_of_getElem? (i := 890) (by decide +kernel)), rfl⟩
theorem kw_891 : (Jvm.Cond.fieldLink "SheetTreesModel" (27 : Nat) "SheetTreesModel" "pageFrom" "[I") ∈ ALLW := List.mem_filter.mpr ⟨List.mem_append_right _ (List.mem_of_getElem? (i := 891) (by decide +kernel)), rfl⟩
theorem kw_892 : (Jvm.Cond.fieldLink "SheetTreesModel" (30 : Nat) "SheetTreesModel" "pageDepth" "[I") ∈ ALLW := List.mem_filter.mpr ⟨List.mem_append_right _ (List.mem_of_getElem? (i := 892) (by decide +kernel)), rfl⟩
theorem kw_893 : (Jvm.Cond.fieldLink "SheetTreesModel" (33 : Nat) "SheetTreesModel" "path" "[I") ∈ ALLW := List.mem_filter.mpr ⟨List.mem_append_right _ (List.mem_of_getElem? (i := 893) (by decide +kernel)), rfl⟩
theorem kw_894 : (Jvm.Cond.fieldLink "SheetTreesModel" (36 : Nat) "SheetTreesModel" "stackPage" "[I") ∈ ALLW := List.mem_filter.mpr ⟨List.mem_append_right _ (List.mem_of_getElem? (i := 894) (by decide +kernel)), rfl⟩
theorem kw_895 : (Jvm.Cond.fieldLink "SheetTreesModel" (39 : Nat) "SheetTreesModel" "stackKey" "[J") ∈ ALLW := List.mem_filter.mpr ⟨List.mem_append_right _ (List.mem_of_getElem? (i := 895) (by decide +kernel)), rfl⟩
theorem kw_896 : (Jvm.Cond.fieldLink "SheetTreesModel" (42 : Nat) "SheetTreesModel" "twin" "[I") ∈ ALLW := List.mem_filter.mpr ⟨List.mem_append_right _ (List.mem_of_getElem? (i := 896) (by decide +kernel)), rfl⟩
theorem kw_897 : (Jvm.Cond.fieldLink "SheetTreesModel" (174 : Nat) "SheetTreesModel" "firstPage" "I") ∈ ALLW := List.mem_filter.mpr ⟨List.mem_append_right _ (List.mem_of_getElem? (i := 897) (by decide +kernel)), rfl⟩
theorem kw_898 : (Jvm.Cond.fieldLink "SheetTreesModel" (177 : Nat) "SheetTreesModel" "firstPlace" "J") ∈ ALLW := List.mem_filter.mpr ⟨List.mem_append_right _ (List.mem_of_getElem? (i := 898) (by decide +kernel)), rfl⟩
theorem kw_938 : (Jvm.Cond.methodLink "SheetTreesLaw" (94 : Nat) ({ cls := "SheetTreesModel", name := "thrown", desc := "()I" } : Jvm.MethodName)) ∈ ALLW := List.mem_filter.mpr ⟨List.mem_append_right _ (List.mem_of_getElem? (i := 938) (by decide +kernel)), rfl⟩
theorem kw_939 : (Jvm.Cond.instanceMethod ({ cls := "SheetTreesModel", name := "thrown", desc := "()I" } : Jvm.MethodName)) ∈ ALLW := List.mem_filter.mpr ⟨List.mem_append_right _ (List.mem_of_getElem? (i := 939) (by decide +kernel)), rfl⟩
theorem kw_940 : (Jvm.Cond.selects "SheetTreesModel" ({ cls := "SheetTreesModel", name := "thrown", desc := "()I" } : Jvm.MethodName) ({ cls := "SheetTreesModel", name := "thrown", desc := "()I" } : Jvm.MethodName)) ∈ ALLW := List.mem_filter.mpr ⟨List.mem_append_right _ (List.mem_of_getElem? (i := 940) (by decide +kernel)), rfl⟩
theorem kw_941 : (Jvm.Cond.code ({ cls := "SheetTreesModel", name := "thrown", desc := "()I" } : Jvm.MethodName) prog_10_method_2_code (1 : Nat) (Option.some Jvm.ClassFile.FieldType.int)) ∈ ALLW := List.mem_filter.mpr ⟨List.mem_append_right _ (List.mem_of_getElem? (i := 941) (by decide +kernel)), rfl⟩
theorem kw_942 : (Jvm.Cond.methodLink "SheetTreesLaw" (153 : Nat) ({ cls := "SheetTreesModel", name := "undo", desc := "()Z" } : Jvm.MethodName)) ∈ ALLW := List.mem_filter.mpr ⟨List.mem_append_right _ (List.mem_of_getElem? (i := 942) (by decide +kernel)), rfl⟩
theorem kw_943 : (Jvm.Cond.instanceMethod ({ cls := "SheetTreesModel", name := "undo", desc := "()Z" } : Jvm.MethodName)) ∈ ALLW := List.mem_filter.mpr ⟨List.mem_append_right _ (List.mem_of_getElem? (i := 943) (by decide +kernel)), rfl⟩
theorem kw_944 : (Jvm.Cond.selects "SheetTreesModel" ({ cls := "SheetTreesModel", name := "undo", desc := "()Z" } : Jvm.MethodName) ({ cls := "SheetTreesModel", name := "undo", desc := "()Z" } : Jvm.MethodName)) ∈ ALLW := List.mem_filter.mpr ⟨List.mem_append_right _ (List.mem_of_getElem? (i := 944) (by decide +kernel)), rfl⟩
theorem kw_945 : (Jvm.Cond.code ({ cls := "SheetTreesModel", name := "undo", desc := "()Z" } : Jvm.MethodName) prog_10_method_7_code (3 : Nat) (Option.some Jvm.ClassFile.FieldType.boolean)) ∈ ALLW := List.mem_filter.mpr ⟨List.mem_append_right _ (List.mem_of_getElem? (i := 945) (by decide +kernel)), rfl⟩
theorem kw_946 : (Jvm.Cond.methodLink "SheetTreesLaw" (87 : Nat) ({ cls := "SheetTreesModel", name := "sheet", desc := "()I" } : Jvm.MethodName)) ∈ ALLW := List.mem_filter.mpr ⟨List.mem_append_right _ (List.mem_of_getElem? (i := 946) (by decide +kernel)), rfl⟩
theorem kw_947 : (Jvm.Cond.instanceMethod ({ cls := "SheetTreesModel", name := "sheet", desc := "()I" } : Jvm.MethodName)) ∈ ALLW := List.mem_filter.mpr ⟨List.mem_append_right _ (List.mem_of_getElem? (i := 947) (by decide +kernel)), rfl⟩
theorem kw_948 : (Jvm.Cond.selects "SheetTreesModel" ({ cls := "SheetTreesModel", name := "sheet", desc := "()I" } : Jvm.MethodName) ({ cls := "SheetTreesModel", name := "sheet", desc := "()I" } : Jvm.MethodName)) ∈ ALLW := List.mem_filter.mpr ⟨List.mem_append_right _ (List.mem_of_getElem? (i := 948) (by decide +kernel)), rfl⟩
theorem kw_949 : (Jvm.Cond.code ({ cls := "SheetTreesModel", name := "sheet", desc := "()I" } : Jvm.MethodName) prog_10_method_22_code (2 : Nat) (Option.some Jvm.ClassFile.FieldType.int)) ∈ ALLW := List.mem_filter.mpr ⟨List.mem_append_right _ (List.mem_of_getElem? (i := 949) (by decide +kernel)), rfl⟩
theorem kw_950 : (Jvm.Cond.methodLink "SheetTreesModel" (62 : Nat) ({ cls := "SheetTreesModel", name := "count", desc := "(I)I" } : Jvm.MethodName)) ∈ ALLW := List.mem_filter.mpr ⟨List.mem_append_right _ (List.mem_of_getElem? (i := 950) (by decide +kernel)), rfl⟩
theorem kw_952 : (Jvm.Cond.instanceMethod ({ cls := "SheetTreesModel", name := "count", desc := "(I)I" } : Jvm.MethodName)) ∈ ALLW := List.mem_filter.mpr ⟨List.mem_append_right _ (List.mem_of_getElem? (i := 952) (by decide +kernel)), rfl⟩
theorem kw_953 : (Jvm.Cond.code ({ cls := "SheetTreesModel", name := "count", desc := "(I)I" } : Jvm.MethodName) prog_10_method_3_code (2 : Nat) (Option.some Jvm.ClassFile.FieldType.int)) ∈ ALLW := List.mem_filter.mpr ⟨List.mem_append_right _ (List.mem_of_getElem? (i := 953) (by decide +kernel)), rfl⟩
theorem kw_954 : (Jvm.Cond.methodLink "SheetTreesModel" (89 : Nat) ({ cls := "SheetTreesModel", name := "begin", desc := "()V" } : Jvm.MethodName)) ∈ ALLW := List.mem_filter.mpr ⟨List.mem_append_right _ (List.mem_of_getElem? (i := 954) (by decide +kernel)), rfl⟩
theorem kw_956 : (Jvm.Cond.instanceMethod ({ cls := "SheetTreesModel", name := "begin", desc := "()V" } : Jvm.MethodName)) ∈ ALLW := List.mem_filter.mpr ⟨List.mem_append_right _ (List.mem_of_getElem? (i := 956) (by decide +kernel)), rfl⟩
theorem kw_957 : (Jvm.Cond.code ({ cls := "SheetTreesModel", name := "begin", desc := "()V" } : Jvm.MethodName) prog_10_method_4_code (2 : Nat) (Option.none : Option Jvm.ClassFile.FieldType)) ∈ ALLW := List.mem_filter.mpr ⟨List.mem_append_right _ (List.mem_of_getElem? (i := 957) (by decide +kernel)), rfl⟩
theorem kw_958 : (Jvm.Cond.methodLink "SheetTreesModel" (92 : Nat) ({ cls := "SheetTreesModel", name := "done", desc := "()V" } : Jvm.MethodName)) ∈ ALLW := List.mem_filter.mpr ⟨List.mem_append_right _ (List.mem_of_getElem? (i := 958) (by decide +kernel)), rfl⟩
theorem kw_960 : (Jvm.Cond.instanceMethod ({ cls := "SheetTreesModel", name := "done", desc := "()V" } : Jvm.MethodName)) ∈ ALLW := List.mem_filter.mpr ⟨List.mem_append_right _ (List.mem_of_getElem? (i := 960) (by decide +kernel)), rfl⟩
theorem kw_961 : (Jvm.Cond.code ({ cls := "SheetTreesModel", name := "done", desc := "()V" } : Jvm.MethodName) prog_10_method_6_code (3 : Nat) (Option.none : Option Jvm.ClassFile.FieldType)) ∈ ALLW := List.mem_filter.mpr ⟨List.mem_append_right _ (List.mem_of_getElem? (i := 961) (by decide +kernel)), rfl⟩
theorem kw_962 : (Jvm.Cond.methodLink "SheetTreesLaw" (93 : Nat) ({ cls := "SheetTreesModel", name := "place", desc := "(II)I" } : Jvm.MethodName)) ∈ ALLW := List.mem_filter.mpr ⟨List.mem_append_right _ (List.mem_of_getElem? (i := 962) (by decide +kernel)), rfl⟩
theorem kw_963 : (Jvm.Cond.instanceMethod ({ cls := "SheetTreesModel", name := "place", desc := "(II)I" } : Jvm.MethodName)) ∈ ALLW := List.mem_filter.mpr ⟨List.mem_append_right _ (List.mem_of_getElem? (i := 963) (by decide +kernel)), rfl⟩
theorem kw_964 : (Jvm.Cond.selects "SheetTreesModel" ({ cls := "SheetTreesModel", name := "place", desc := "(II)I" } : Jvm.MethodName) ({ cls := "SheetTreesModel", name := "place", desc := "(II)I" } : Jvm.MethodName)) ∈ ALLW := List.mem_filter.mpr ⟨List.mem_append_right _ (List.mem_of_getElem? (i := 964) (by decide +kernel)), rfl⟩
theorem kw_965 : (Jvm.Cond.code ({ cls := "SheetTreesModel", name := "place", desc := "(II)I" } : Jvm.MethodName) prog_10_method_24_code (4 : Nat) (Option.some Jvm.ClassFile.FieldType.int)) ∈ ALLW := List.mem_filter.mpr ⟨List.mem_append_right _ (List.mem_of_getElem? (i := 965) (by decide +kernel)), rfl⟩
theorem kw_966 : (Jvm.Cond.methodLink "SheetTreesModel" (95 : Nat) ({ cls := "SheetTreesModel", name := "isSheet", desc := "(I)Z" } : Jvm.MethodName)) ∈ ALLW := List.mem_filter.mpr ⟨List.mem_append_right _ (List.mem_of_getElem? (i := 966) (by decide +kernel)), rfl⟩
theorem kw_968 : (Jvm.Cond.instanceMethod ({ cls := "SheetTreesModel", name := "isSheet", desc := "(I)Z" } : Jvm.MethodName)) ∈ ALLW := List.mem_filter.mpr ⟨List.mem_append_right _ (List.mem_of_getElem? (i := 968) (by decide +kernel)), rfl⟩
theorem kw_969 : (Jvm.Cond.code ({ cls := "SheetTreesModel", name := "isSheet", desc := "(I)Z" } : Jvm.MethodName) prog_10_method_8_code (2 : Nat) (Option.some Jvm.ClassFile.FieldType.boolean)) ∈ ALLW := List.mem_filter.mpr ⟨List.mem_append_right _ (List.mem_of_getElem? (i := 969) (by decide +kernel)), rfl⟩
theorem kw_970 : (Jvm.Cond.methodLink "SheetTreesModel" (98 : Nat) ({ cls := "SheetTreesModel", name := "liesIn", desc := "(II)Z" } : Jvm.MethodName)) ∈ ALLW := List.mem_filter.mpr ⟨List.mem_append_right _ (List.mem_of_getElem? (i := 970) (by decide +kernel)), rfl⟩
theorem kw_972 : (Jvm.Cond.instanceMethod ({ cls := "SheetTreesModel", name := "liesIn", desc := "(II)Z" } : Jvm.MethodName)) ∈ ALLW := List.mem_filter.mpr ⟨List.mem_append_right _ (List.mem_of_getElem? (i := 972) (by decide +kernel)), rfl⟩
theorem kw_973 : (Jvm.Cond.code ({ cls := "SheetTreesModel", name := "liesIn", desc := "(II)Z" } : Jvm.MethodName) prog_10_method_20_code (6 : Nat) (Option.some Jvm.ClassFile.FieldType.boolean)) ∈ ALLW := List.mem_filter.mpr ⟨List.mem_append_right _ (List.mem_of_getElem? (i := 973) (by decide +kernel)), rfl⟩
theorem kw_974 : (Jvm.Cond.methodLink "SheetTreesModel" (102 : Nat) ({ cls := "SheetTreesModel", name := "addPlacement", desc := "(II)I" } : Jvm.MethodName)) ∈ ALLW := List.mem_filter.mpr ⟨List.mem_append_right _ (List.mem_of_getElem? (i := 974) (by decide +kernel)), rfl⟩
theorem kw_976 : (Jvm.Cond.instanceMethod ({ cls := "SheetTreesModel", name := "addPlacement", desc := "(II)I" } : Jvm.MethodName)) ∈ ALLW := List.mem_filter.mpr ⟨List.mem_append_right _ (List.mem_of_getElem? (i := 976) (by decide +kernel)), rfl⟩
theorem kw_977 : (Jvm.Cond.code ({ cls := "SheetTreesModel", name := "addPlacement", desc := "(II)I" } : Jvm.MethodName) prog_10_method_23_code (5 : Nat) (Option.some Jvm.ClassFile.FieldType.int)) ∈ ALLW := List.mem_filter.mpr ⟨List.mem_append_right _ (List.mem_of_getElem? (i := 977) (by decide +kernel)), rfl⟩
theorem kw_978 : (Jvm.Cond.methodLink "SheetTreesModel" (106 : Nat) ({ cls := "SheetTreesModel", name := "hasRoom", desc := "()Z" } : Jvm.MethodName)) ∈ ALLW := List.mem_filter.mpr ⟨List.mem_append_right _ (List.mem_of_getElem? (i := 978) (by decide +kernel)), rfl⟩
theorem kw_980 : (Jvm.Cond.instanceMethod ({ cls := "SheetTreesModel", name := "hasRoom", desc := "()Z" } : Jvm.MethodName)) ∈ ALLW := List.mem_filter.mpr ⟨List.mem_append_right _ (List.mem_of_getElem? (i := 980) (by decide +kernel)), rfl⟩
theorem kw_981 : (Jvm.Cond.code ({ cls := "SheetTreesModel", name := "hasRoom", desc := "()Z" } : Jvm.MethodName) prog_10_method_21_code (2 : Nat) (Option.some Jvm.ClassFile.FieldType.boolean)) ∈ ALLW := List.mem_filter.mpr ⟨List.mem_append_right _ (List.mem_of_getElem? (i := 981) (by decide +kernel)), rfl⟩
theorem kw_982 : (Jvm.Cond.methodLink "SheetTreesModel" (83 : Nat) ({ cls := "SheetTreesModel", name := "turn", desc := "()V" } : Jvm.MethodName)) ∈ ALLW := List.mem_filter.mpr ⟨List.mem_append_right _ (List.mem_of_getElem? (i := 982) (by decide +kernel)), rfl⟩
theorem kw_984 : (Jvm.Cond.instanceMethod ({ cls := "SheetTreesModel", name := "turn", desc := "()V" } : Jvm.MethodName)) ∈ ALLW := List.mem_filter.mpr ⟨List.mem_append_right _ (List.mem_of_getElem? (i := 984) (by decide +kernel)), rfl⟩
theorem kw_985 : (Jvm.Cond.code ({ cls := "SheetTreesModel", name := "turn", desc := "()V" } : Jvm.MethodName) prog_10_method_17_code (4 : Nat) (Option.none : Option Jvm.ClassFile.FieldType)) ∈ ALLW := List.mem_filter.mpr ⟨List.mem_append_right _ (List.mem_of_getElem? (i := 985) (by decide +kernel)), rfl⟩
theorem kw_986 : (Jvm.Cond.methodLink "SheetTreesModel" (73 : Nat) ({ cls := "SheetTreesModel", name := "addPage", desc := "(IIII)V" } : Jvm.MethodName)) ∈ ALLW := List.mem_filter.mpr ⟨List.mem_append_right _ (List.mem_of_getElem? (i := 986) (by decide +kernel)), rfl⟩
theorem kw_988 : (Jvm.Cond.instanceMethod ({ cls := "SheetTreesModel", name := "addPage", desc := "(IIII)V" } : Jvm.MethodName)) ∈ ALLW := List.mem_filter.mpr ⟨List.mem_append_right _ (List.mem_of_getElem? (i := 988) (by decide +kernel)), rfl⟩
theorem kw_989 : (Jvm.Cond.code ({ cls := "SheetTreesModel", name := "addPage", desc := "(IIII)V" } : Jvm.MethodName) prog_10_method_16_code (5 : Nat) (Option.none : Option Jvm.ClassFile.FieldType)) ∈ ALLW := List.mem_filter.mpr ⟨List.mem_append_right _ (List.mem_of_getElem? (i := 989) (by decide +kernel)), rfl⟩
theorem kw_990 : (Jvm.Cond.constantLong "SheetTreesModel" (77 : Nat) (-1 : Int64)) ∈ ALLW := List.mem_filter.mpr ⟨List.mem_append_right _ (List.mem_of_getElem? (i := 990) (by decide +kernel)), rfl⟩
theorem kw_991 : (Jvm.Cond.methodLink "SheetTreesModel" (79 : Nat) ({ cls := "SheetTreesModel", name := "next", desc := "(IJ)I" } : Jvm.MethodName)) ∈ ALLW := List.mem_filter.mpr ⟨List.mem_append_right _ (List.mem_of_getElem? (i := 991) (by decide +kernel)), rfl⟩
theorem kw_993 : (Jvm.Cond.instanceMethod ({ cls := "SheetTreesModel", name := "next", desc := "(IJ)I" } : Jvm.MethodName)) ∈ ALLW := List.mem_filter.mpr ⟨List.mem_append_right _ (List.mem_of_getElem? (i := 993) (by decide +kernel)), rfl⟩
theorem kw_994 : (Jvm.Cond.code ({ cls := "SheetTreesModel", name := "next", desc := "(IJ)I" } : Jvm.MethodName) prog_10_method_15_code (6 : Nat) (Option.some Jvm.ClassFile.FieldType.int)) ∈ ALLW := List.mem_filter.mpr ⟨List.mem_append_right _ (List.mem_of_getElem? (i := 994) (by decide +kernel)), rfl⟩
theorem kw_995 : (Jvm.Cond.methodLink "SheetTreesModel" (110 : Nat) ({ cls := "SheetTreesModel", name := "giveBack", desc := "()V" } : Jvm.MethodName)) ∈ ALLW := List.mem_filter.mpr ⟨List.mem_append_right _ (List.mem_of_getElem? (i := 995) (by decide +kernel)), rfl⟩
theorem kw_997 : (Jvm.Cond.instanceMethod ({ cls := "SheetTreesModel", name := "giveBack", desc := "()V" } : Jvm.MethodName)) ∈ ALLW := List.mem_filter.mpr ⟨List.mem_append_right _ (List.mem_of_getElem? (i := 997) (by decide +kernel)), rfl⟩
theorem kw_998 : (Jvm.Cond.code ({ cls := "SheetTreesModel", name := "giveBack", desc := "()V" } : Jvm.MethodName) prog_10_method_5_code (2 : Nat) (Option.none : Option Jvm.ClassFile.FieldType)) ∈ ALLW := List.mem_filter.mpr ⟨List.mem_append_right _ (List.mem_of_getElem? (i := 998) (by decide +kernel)), rfl⟩
theorem kw_999 : (Jvm.Cond.methodLink "SheetTreesLaw" (100 : Nat) ({ cls := "SheetTreesModel", name := "remove", desc := "(I)Z" } : Jvm.MethodName)) ∈ ALLW := List.mem_filter.mpr ⟨List.mem_append_right _ (List.mem_of_getElem? (i := 999) (by decide +kernel)), rfl⟩
theorem kw_1000 : (Jvm.Cond.instanceMethod ({ cls := "SheetTreesModel", name := "remove", desc := "(I)Z" } : Jvm.MethodName)) ∈ ALLW := List.mem_filter.mpr ⟨List.mem_append_right _ (List.mem_of_getElem? (i := 1000) (by decide +kernel)), rfl⟩
theorem kw_1001 : (Jvm.Cond.selects "SheetTreesModel" ({ cls := "SheetTreesModel", name := "remove", desc := "(I)Z" } : Jvm.MethodName) ({ cls := "SheetTreesModel", name := "remove", desc := "(I)Z" } : Jvm.MethodName)) ∈ ALLW := List.mem_filter.mpr ⟨List.mem_append_right _ (List.mem_of_getElem? (i := 1001) (by decide +kernel)), rfl⟩
theorem kw_1002 : (Jvm.Cond.code ({ cls := "SheetTreesModel", name := "remove", desc := "(I)Z" } : Jvm.MethodName) prog_10_method_25_code (3 : Nat) (Option.some Jvm.ClassFile.FieldType.boolean)) ∈ ALLW := List.mem_filter.mpr ⟨List.mem_append_right _ (List.mem_of_getElem? (i := 1002) (by decide +kernel)), rfl⟩
theorem kw_1003 : (Jvm.Cond.methodLink "SheetTreesModel" (113 : Nat) ({ cls := "SheetTreesModel", name := "isPlacement", desc := "(I)Z" } : Jvm.MethodName)) ∈ ALLW := List.mem_filter.mpr ⟨List.mem_append_right _ (List.mem_of_getElem? (i := 1003) (by decide +kernel)), rfl⟩
theorem kw_1005 : (Jvm.Cond.instanceMethod ({ cls := "SheetTreesModel", name := "isPlacement", desc := "(I)Z" } : Jvm.MethodName)) ∈ ALLW := List.mem_filter.mpr ⟨List.mem_append_right _ (List.mem_of_getElem? (i := 1005) (by decide +kernel)), rfl⟩
theorem kw_1006 : (Jvm.Cond.code ({ cls := "SheetTreesModel", name := "isPlacement", desc := "(I)Z" } : Jvm.MethodName) prog_10_method_9_code (2 : Nat) (Option.some Jvm.ClassFile.FieldType.boolean)) ∈ ALLW := List.mem_filter.mpr ⟨List.mem_append_right _ (List.mem_of_getElem? (i := 1006) (by decide +kernel)), rfl⟩
theorem kw_1007 : (Jvm.Cond.methodLink "SheetTreesLaw" (103 : Nat) ({ cls := "SheetTreesModel", name := "move", desc := "(II)Z" } : Jvm.MethodName)) ∈ ALLW := List.mem_filter.mpr ⟨List.mem_append_right _ (List.mem_of_getElem? (i := 1007) (by decide +kernel)), rfl⟩
theorem kw_1008 : (Jvm.Cond.instanceMethod ({ cls := "SheetTreesModel", name := "move", desc := "(II)Z" } : Jvm.MethodName)) ∈ ALLW := List.mem_filter.mpr ⟨List.mem_append_right _ (List.mem_of_getElem? (i := 1008) (by decide +kernel)), rfl⟩
theorem kw_1009 : (Jvm.Cond.selects "SheetTreesModel" ({ cls := "SheetTreesModel", name := "move", desc := "(II)Z" } : Jvm.MethodName) ({ cls := "SheetTreesModel", name := "move", desc := "(II)Z" } : Jvm.MethodName)) ∈ ALLW := List.mem_filter.mpr ⟨List.mem_append_right _ (List.mem_of_getElem? (i := 1009) (by decide +kernel)), rfl⟩
theorem kw_1010 : (Jvm.Cond.code ({ cls := "SheetTreesModel", name := "move", desc := "(II)Z" } : Jvm.MethodName) prog_10_method_26_code (7 : Nat) (Option.some Jvm.ClassFile.FieldType.boolean)) ∈ ALLW := List.mem_filter.mpr ⟨List.mem_append_right _ (List.mem_of_getElem? (i := 1010) (by decide +kernel)), rfl⟩
theorem kw_1011 : (Jvm.Cond.methodLink "SheetTreesModel" (116 : Nat) ({ cls := "SheetTreesModel", name := "hasName", desc := "(JI)Z" } : Jvm.MethodName)) ∈ ALLW := List.mem_filter.mpr ⟨List.mem_append_right _ (List.mem_of_getElem? (i := 1011) (by decide +kernel)), rfl⟩
theorem kw_1013 : (Jvm.Cond.instanceMethod ({ cls := "SheetTreesModel", name := "hasName", desc := "(JI)Z" } : Jvm.MethodName)) ∈ ALLW := List.mem_filter.mpr ⟨List.mem_append_right _ (List.mem_of_getElem? (i := 1013) (by decide +kernel)), rfl⟩
theorem kw_1014 : (Jvm.Cond.code ({ cls := "SheetTreesModel", name := "hasName", desc := "(JI)Z" } : Jvm.MethodName) prog_10_method_14_code (4 : Nat) (Option.some Jvm.ClassFile.FieldType.boolean)) ∈ ALLW := List.mem_filter.mpr ⟨List.mem_append_right _ (List.mem_of_getElem? (i := 1014) (by decide +kernel)), rfl⟩
theorem kw_1015 : (Jvm.Cond.methodLink "SheetTreesLaw" (107 : Nat) ({ cls := "SheetTreesModel", name := "told", desc := "(I)I" } : Jvm.MethodName)) ∈ ALLW := List.mem_filter.mpr ⟨List.mem_append_right _ (List.mem_of_getElem? (i := 1015) (by decide +kernel)), rfl⟩
theorem kw_1016 : (Jvm.Cond.instanceMethod ({ cls := "SheetTreesModel", name := "told", desc := "(I)I" } : Jvm.MethodName)) ∈ ALLW := List.mem_filter.mpr ⟨List.mem_append_right _ (List.mem_of_getElem? (i := 1016) (by decide +kernel)), rfl⟩
theorem kw_1017 : (Jvm.Cond.selects "SheetTreesModel" ({ cls := "SheetTreesModel", name := "told", desc := "(I)I" } : Jvm.MethodName) ({ cls := "SheetTreesModel", name := "told", desc := "(I)I" } : Jvm.MethodName)) ∈ ALLW := List.mem_filter.mpr ⟨List.mem_append_right _ (List.mem_of_getElem? (i := 1017) (by decide +kernel)), rfl⟩
theorem kw_1018 : (Jvm.Cond.code ({ cls := "SheetTreesModel", name := "told", desc := "(I)I" } : Jvm.MethodName) prog_10_method_27_code (4 : Nat) (Option.some Jvm.ClassFile.FieldType.int)) ∈ ALLW := List.mem_filter.mpr ⟨List.mem_append_right _ (List.mem_of_getElem? (i := 1018) (by decide +kernel)), rfl⟩
theorem kw_1019 : (Jvm.Cond.methodLink "SheetTreesLaw" (110 : Nat) ({ cls := "SheetTreesModel", name := "port", desc := "(II)Z" } : Jvm.MethodName)) ∈ ALLW := List.mem_filter.mpr ⟨List.mem_append_right _ (List.mem_of_getElem? (i := 1019) (by decide +kernel)), rfl⟩
theorem kw_1020 : (Jvm.Cond.instanceMethod ({ cls := "SheetTreesModel", name := "port", desc := "(II)Z" } : Jvm.MethodName)) ∈ ALLW := List.mem_filter.mpr ⟨List.mem_append_right _ (List.mem_of_getElem? (i := 1020) (by decide +kernel)), rfl⟩
theorem kw_1021 : (Jvm.Cond.selects "SheetTreesModel" ({ cls := "SheetTreesModel", name := "port", desc := "(II)Z" } : Jvm.MethodName) ({ cls := "SheetTreesModel", name := "port", desc := "(II)Z" } : Jvm.MethodName)) ∈ ALLW := List.mem_filter.mpr ⟨List.mem_append_right _ (List.mem_of_getElem? (i := 1021) (by decide +kernel)), rfl⟩
theorem kw_1022 : (Jvm.Cond.code ({ cls := "SheetTreesModel", name := "port", desc := "(II)Z" } : Jvm.MethodName) prog_10_method_28_code (3 : Nat) (Option.some Jvm.ClassFile.FieldType.boolean)) ∈ ALLW := List.mem_filter.mpr ⟨List.mem_append_right _ (List.mem_of_getElem? (i := 1022) (by decide +kernel)), rfl⟩
theorem kw_1023 : (Jvm.Cond.methodLink "SheetTreesModel" (120 : Nat) ({ cls := "SheetTreesModel", name := "isName", desc := "(I)Z" } : Jvm.MethodName)) ∈ ALLW := List.mem_filter.mpr ⟨List.mem_append_right _ (List.mem_of_getElem? (i := 1023) (by decide +kernel)), rfl⟩
theorem kw_1024 : (Jvm.Cond.static ({ cls := "SheetTreesModel", name := "isName", desc := "(I)Z" } : Jvm.MethodName)) ∈ ALLW := List.mem_filter.mpr ⟨List.mem_append_right _ (List.mem_of_getElem? (i := 1024) (by decide +kernel)), rfl⟩
theorem kw_1025 : (Jvm.Cond.code ({ cls := "SheetTreesModel", name := "isName", desc := "(I)Z" } : Jvm.MethodName) prog_10_method_10_code (1 : Nat) (Option.some Jvm.ClassFile.FieldType.boolean)) ∈ ALLW := List.mem_filter.mpr ⟨List.mem_append_right _ (List.mem_of_getElem? (i := 1025) (by decide +kernel)), rfl⟩
theorem kw_1026 : (Jvm.Cond.methodLink "SheetTreesLaw" (114 : Nat) ({ cls := "SheetTreesModel", name := "join", desc := "(III)Z" } : Jvm.MethodName)) ∈ ALLW := List.mem_filter.mpr ⟨List.mem_append_right _ (List.mem_of_getElem? (i := 1026) (by decide +kernel)), rfl⟩
theorem kw_1027 : (Jvm.Cond.instanceMethod ({ cls := "SheetTreesModel", name := "join", desc := "(III)Z" } : Jvm.MethodName)) ∈ ALLW := List.mem_filter.mpr ⟨List.mem_append_right _ (List.mem_of_getElem? (i := 1027) (by decide +kernel)), rfl⟩
theorem kw_1028 : (Jvm.Cond.selects "SheetTreesModel" ({ cls := "SheetTreesModel", name := "join", desc := "(III)Z" } : Jvm.MethodName) ({ cls := "SheetTreesModel", name := "join", desc := "(III)Z" } : Jvm.MethodName)) ∈ ALLW := List.mem_filter.mpr ⟨List.mem_append_right _ (List.mem_of_getElem? (i := 1028) (by decide +kernel)), rfl⟩
theorem kw_1029 : (Jvm.Cond.code ({ cls := "SheetTreesModel", name := "join", desc := "(III)Z" } : Jvm.MethodName) prog_10_method_29_code (6 : Nat) (Option.some Jvm.ClassFile.FieldType.boolean)) ∈ ALLW := List.mem_filter.mpr ⟨List.mem_append_right _ (List.mem_of_getElem? (i := 1029) (by decide +kernel)), rfl⟩
theorem kw_1030 : (Jvm.Cond.methodLink "SheetTreesLaw" (117 : Nat) ({ cls := "SheetTreesModel", name := "joined", desc := "(II)I" } : Jvm.MethodName)) ∈ ALLW := List.mem_filter.mpr ⟨List.mem_append_right _ (List.mem_of_getElem? (i := 1030) (by decide +kernel)), rfl⟩
theorem kw_1031 : (Jvm.Cond.instanceMethod ({ cls := "SheetTreesModel", name := "joined", desc := "(II)I" } : Jvm.MethodName)) ∈ ALLW := List.mem_filter.mpr ⟨List.mem_append_right _ (List.mem_of_getElem? (i := 1031) (by decide +kernel)), rfl⟩
theorem kw_1032 : (Jvm.Cond.selects "SheetTreesModel" ({ cls := "SheetTreesModel", name := "joined", desc := "(II)I" } : Jvm.MethodName) ({ cls := "SheetTreesModel", name := "joined", desc := "(II)I" } : Jvm.MethodName)) ∈ ALLW := List.mem_filter.mpr ⟨List.mem_append_right _ (List.mem_of_getElem? (i := 1032) (by decide +kernel)), rfl⟩
theorem kw_1033 : (Jvm.Cond.code ({ cls := "SheetTreesModel", name := "joined", desc := "(II)I" } : Jvm.MethodName) prog_10_method_30_code (3 : Nat) (Option.some Jvm.ClassFile.FieldType.int)) ∈ ALLW := List.mem_filter.mpr ⟨List.mem_append_right _ (List.mem_of_getElem? (i := 1033) (by decide +kernel)), rfl⟩
theorem kw_1034 : (Jvm.Cond.methodLink "SheetTreesLaw" (120 : Nat) ({ cls := "SheetTreesModel", name := "part", desc := "(II)I" } : Jvm.MethodName)) ∈ ALLW := List.mem_filter.mpr ⟨List.mem_append_right _ (List.mem_of_getElem? (i := 1034) (by decide +kernel)), rfl⟩
theorem kw_1035 : (Jvm.Cond.instanceMethod ({ cls := "SheetTreesModel", name := "part", desc := "(II)I" } : Jvm.MethodName)) ∈ ALLW := List.mem_filter.mpr ⟨List.mem_append_right _ (List.mem_of_getElem? (i := 1035) (by decide +kernel)), rfl⟩
theorem kw_1036 : (Jvm.Cond.selects "SheetTreesModel" ({ cls := "SheetTreesModel", name := "part", desc := "(II)I" } : Jvm.MethodName) ({ cls := "SheetTreesModel", name := "part", desc := "(II)I" } : Jvm.MethodName)) ∈ ALLW := List.mem_filter.mpr ⟨List.mem_append_right _ (List.mem_of_getElem? (i := 1036) (by decide +kernel)), rfl⟩
theorem kw_1037 : (Jvm.Cond.code ({ cls := "SheetTreesModel", name := "part", desc := "(II)I" } : Jvm.MethodName) prog_10_method_32_code (4 : Nat) (Option.some Jvm.ClassFile.FieldType.int)) ∈ ALLW := List.mem_filter.mpr ⟨List.mem_append_right _ (List.mem_of_getElem? (i := 1037) (by decide +kernel)), rfl⟩
theorem kw_1038 : (Jvm.Cond.methodLink "SheetTreesModel" (123 : Nat) ({ cls := "SheetTreesModel", name := "addPart", desc := "(JJ)I" } : Jvm.MethodName)) ∈ ALLW := List.mem_filter.mpr ⟨List.mem_append_right _ (List.mem_of_getElem? (i := 1038) (by decide +kernel)), rfl⟩
theorem kw_1040 : (Jvm.Cond.instanceMethod ({ cls := "SheetTreesModel", name := "addPart", desc := "(JJ)I" } : Jvm.MethodName)) ∈ ALLW := List.mem_filter.mpr ⟨List.mem_append_right _ (List.mem_of_getElem? (i := 1040) (by decide +kernel)), rfl⟩
theorem kw_1041 : (Jvm.Cond.code ({ cls := "SheetTreesModel", name := "addPart", desc := "(JJ)I" } : Jvm.MethodName) prog_10_method_31_code (7 : Nat) (Option.some Jvm.ClassFile.FieldType.int)) ∈ ALLW := List.mem_filter.mpr ⟨List.mem_append_right _ (List.mem_of_getElem? (i := 1041) (by decide +kernel)), rfl⟩
theorem kw_1042 : (Jvm.Cond.methodLink "SheetTreesLaw" (123 : Nat) ({ cls := "SheetTreesModel", name := "gate", desc := "(III)Z" } : Jvm.MethodName)) ∈ ALLW := List.mem_filter.mpr ⟨List.mem_append_right _ (List.mem_of_getElem? (i := 1042) (by decide +kernel)), rfl⟩
theorem kw_1043 : (Jvm.Cond.instanceMethod ({ cls := "SheetTreesModel", name := "gate", desc := "(III)Z" } : Jvm.MethodName)) ∈ ALLW := List.mem_filter.mpr ⟨List.mem_append_right _ (List.mem_of_getElem? (i := 1043) (by decide +kernel)), rfl⟩
theorem kw_1044 : (Jvm.Cond.selects "SheetTreesModel" ({ cls := "SheetTreesModel", name := "gate", desc := "(III)Z" } : Jvm.MethodName) ({ cls := "SheetTreesModel", name := "gate", desc := "(III)Z" } : Jvm.MethodName)) ∈ ALLW := List.mem_filter.mpr ⟨List.mem_append_right _ (List.mem_of_getElem? (i := 1044) (by decide +kernel)), rfl⟩
theorem kw_1045 : (Jvm.Cond.code ({ cls := "SheetTreesModel", name := "gate", desc := "(III)Z" } : Jvm.MethodName) prog_10_method_35_code (4 : Nat) (Option.some Jvm.ClassFile.FieldType.boolean)) ∈ ALLW := List.mem_filter.mpr ⟨List.mem_append_right _ (List.mem_of_getElem? (i := 1045) (by decide +kernel)), rfl⟩
theorem kw_1046 : (Jvm.Cond.methodLink "SheetTreesModel" (127 : Nat) ({ cls := "SheetTreesModel", name := "isGate", desc := "(II)Z" } : Jvm.MethodName)) ∈ ALLW := List.mem_filter.mpr ⟨List.mem_append_right _ (List.mem_of_getElem? (i := 1046) (by decide +kernel)), rfl⟩
theorem kw_1048 : (Jvm.Cond.instanceMethod ({ cls := "SheetTreesModel", name := "isGate", desc := "(II)Z" } : Jvm.MethodName)) ∈ ALLW := List.mem_filter.mpr ⟨List.mem_append_right _ (List.mem_of_getElem? (i := 1048) (by decide +kernel)), rfl⟩
theorem kw_1049 : (Jvm.Cond.code ({ cls := "SheetTreesModel", name := "isGate", desc := "(II)Z" } : Jvm.MethodName) prog_10_method_12_code (3 : Nat) (Option.some Jvm.ClassFile.FieldType.boolean)) ∈ ALLW := List.mem_filter.mpr ⟨List.mem_append_right _ (List.mem_of_getElem? (i := 1049) (by decide +kernel)), rfl⟩
theorem kw_1050 : (Jvm.Cond.methodLink "SheetTreesModel" (66 : Nat) ({ cls := "SheetTreesModel", name := "isPart", desc := "(I)Z" } : Jvm.MethodName)) ∈ ALLW := List.mem_filter.mpr ⟨List.mem_append_right _ (List.mem_of_getElem? (i := 1050) (by decide +kernel)), rfl⟩
theorem kw_1052 : (Jvm.Cond.instanceMethod ({ cls := "SheetTreesModel", name := "isPart", desc := "(I)Z" } : Jvm.MethodName)) ∈ ALLW := List.mem_filter.mpr ⟨List.mem_append_right _ (List.mem_of_getElem? (i := 1052) (by decide +kernel)), rfl⟩
theorem kw_1053 : (Jvm.Cond.code ({ cls := "SheetTreesModel", name := "isPart", desc := "(I)Z" } : Jvm.MethodName) prog_10_method_11_code (2 : Nat) (Option.some Jvm.ClassFile.FieldType.boolean)) ∈ ALLW := List.mem_filter.mpr ⟨List.mem_append_right _ (List.mem_of_getElem? (i := 1053) (by decide +kernel)), rfl⟩
theorem kw_1054 : (Jvm.Cond.methodLink "SheetTreesModel" (130 : Nat) ({ cls := "SheetTreesModel", name := "gatesOn", desc := "(I)I" } : Jvm.MethodName)) ∈ ALLW := List.mem_filter.mpr ⟨List.mem_append_right _ (List.mem_of_getElem? (i := 1054) (by decide +kernel)), rfl⟩
theorem kw_1056 : (Jvm.Cond.instanceMethod ({ cls := "SheetTreesModel", name := "gatesOn", desc := "(I)I" } : Jvm.MethodName)) ∈ ALLW := List.mem_filter.mpr ⟨List.mem_append_right _ (List.mem_of_getElem? (i := 1056) (by decide +kernel)), rfl⟩
theorem kw_1057 : (Jvm.Cond.code ({ cls := "SheetTreesModel", name := "gatesOn", desc := "(I)I" } : Jvm.MethodName) prog_10_method_33_code (4 : Nat) (Option.some Jvm.ClassFile.FieldType.int)) ∈ ALLW := List.mem_filter.mpr ⟨List.mem_append_right _ (List.mem_of_getElem? (i := 1057) (by decide +kernel)), rfl⟩
theorem kw_1058 : (Jvm.Cond.methodLink "SheetTreesModel" (133 : Nat) ({ cls := "SheetTreesModel", name := "putGate", desc := "(II)V" } : Jvm.MethodName)) ∈ ALLW := List.mem_filter.mpr ⟨List.mem_append_right _ (List.mem_of_getElem? (i := 1058) (by decide +kernel)), rfl⟩
theorem kw_1060 : (Jvm.Cond.instanceMethod ({ cls := "SheetTreesModel", name := "putGate", desc := "(II)V" } : Jvm.MethodName)) ∈ ALLW := List.mem_filter.mpr ⟨List.mem_append_right _ (List.mem_of_getElem? (i := 1060) (by decide +kernel)), rfl⟩
theorem kw_1061 : (Jvm.Cond.code ({ cls := "SheetTreesModel", name := "putGate", desc := "(II)V" } : Jvm.MethodName) prog_10_method_34_code (3 : Nat) (Option.none : Option Jvm.ClassFile.FieldType)) ∈ ALLW := List.mem_filter.mpr ⟨List.mem_append_right _ (List.mem_of_getElem? (i := 1061) (by decide +kernel)), rfl⟩
theorem kw_1062 : (Jvm.Cond.methodLink "SheetTreesLaw" (126 : Nat) ({ cls := "SheetTreesModel", name := "copy", desc := "(I)I" } : Jvm.MethodName)) ∈ ALLW := List.mem_filter.mpr ⟨List.mem_append_right _ (List.mem_of_getElem? (i := 1062) (by decide +kernel)), rfl⟩
theorem kw_1063 : (Jvm.Cond.instanceMethod ({ cls := "SheetTreesModel", name := "copy", desc := "(I)I" } : Jvm.MethodName)) ∈ ALLW := List.mem_filter.mpr ⟨List.mem_append_right _ (List.mem_of_getElem? (i := 1063) (by decide +kernel)), rfl⟩
theorem kw_1064 : (Jvm.Cond.selects "SheetTreesModel" ({ cls := "SheetTreesModel", name := "copy", desc := "(I)I" } : Jvm.MethodName) ({ cls := "SheetTreesModel", name := "copy", desc := "(I)I" } : Jvm.MethodName)) ∈ ALLW := List.mem_filter.mpr ⟨List.mem_append_right _ (List.mem_of_getElem? (i := 1064) (by decide +kernel)), rfl⟩
theorem kw_1065 : (Jvm.Cond.code ({ cls := "SheetTreesModel", name := "copy", desc := "(I)I" } : Jvm.MethodName) prog_10_method_39_code (6 : Nat) (Option.some Jvm.ClassFile.FieldType.int)) ∈ ALLW := List.mem_filter.mpr ⟨List.mem_append_right _ (List.mem_of_getElem? (i := 1065) (by decide +kernel)), rfl⟩
theorem kw_1066 : (Jvm.Cond.methodLink "SheetTreesModel" (137 : Nat) ({ cls := "SheetTreesModel", name := "placementsOn", desc := "(I)I" } : Jvm.MethodName)) ∈ ALLW := List.mem_filter.mpr ⟨List.mem_append_right _ (List.mem_of_getElem? (i := 1066) (by decide +kernel)), rfl⟩
theorem kw_1068 : (Jvm.Cond.instanceMethod ({ cls := "SheetTreesModel", name := "placementsOn", desc := "(I)I" } : Jvm.MethodName)) ∈ ALLW := List.mem_filter.mpr ⟨List.mem_append_right _ (List.mem_of_getElem? (i := 1068) (by decide +kernel)), rfl⟩
theorem kw_1069 : (Jvm.Cond.code ({ cls := "SheetTreesModel", name := "placementsOn", desc := "(I)I" } : Jvm.MethodName) prog_10_method_38_code (4 : Nat) (Option.some Jvm.ClassFile.FieldType.int)) ∈ ALLW := List.mem_filter.mpr ⟨List.mem_append_right _ (List.mem_of_getElem? (i := 1069) (by decide +kernel)), rfl⟩
theorem kw_1070 : (Jvm.Cond.methodLink "SheetTreesModel" (140 : Nat) ({ cls := "SheetTreesModel", name := "partsOn", desc := "(I)I" } : Jvm.MethodName)) ∈ ALLW := List.mem_filter.mpr ⟨List.mem_append_right _ (List.mem_of_getElem? (i := 1070) (by decide +kernel)), rfl⟩
theorem kw_1072 : (Jvm.Cond.instanceMethod ({ cls := "SheetTreesModel", name := "partsOn", desc := "(I)I" } : Jvm.MethodName)) ∈ ALLW := List.mem_filter.mpr ⟨List.mem_append_right _ (List.mem_of_getElem? (i := 1072) (by decide +kernel)), rfl⟩
theorem kw_1073 : (Jvm.Cond.code ({ cls := "SheetTreesModel", name := "partsOn", desc := "(I)I" } : Jvm.MethodName) prog_10_method_37_code (6 : Nat) (Option.some Jvm.ClassFile.FieldType.int)) ∈ ALLW := List.mem_filter.mpr ⟨List.mem_append_right _ (List.mem_of_getElem? (i := 1073) (by decide +kernel)), rfl⟩
theorem kw_1074 : (Jvm.Cond.methodLink "SheetTreesModel" (143 : Nat) ({ cls := "SheetTreesModel", name := "nextGate", desc := "(IJ)I" } : Jvm.MethodName)) ∈ ALLW := List.mem_filter.mpr ⟨List.mem_append_right _ (List.mem_of_getElem? (i := 1074) (by decide +kernel)), rfl⟩
theorem kw_1076 : (Jvm.Cond.instanceMethod ({ cls := "SheetTreesModel", name := "nextGate", desc := "(IJ)I" } : Jvm.MethodName)) ∈ ALLW := List.mem_filter.mpr ⟨List.mem_append_right _ (List.mem_of_getElem? (i := 1076) (by decide +kernel)), rfl⟩
theorem kw_1077 : (Jvm.Cond.code ({ cls := "SheetTreesModel", name := "nextGate", desc := "(IJ)I" } : Jvm.MethodName) prog_10_method_36_code (6 : Nat) (Option.some Jvm.ClassFile.FieldType.int)) ∈ ALLW := List.mem_filter.mpr ⟨List.mem_append_right _ (List.mem_of_getElem? (i := 1077) (by decide +kernel)), rfl⟩
theorem kw_1078 : (Jvm.Cond.methodLink "SheetTreesLaw" (129 : Nat) ({ cls := "SheetTreesModel", name := "rule", desc := "(I)Z" } : Jvm.MethodName)) ∈ ALLW := List.mem_filter.mpr ⟨List.mem_append_right _ (List.mem_of_getElem? (i := 1078) (by decide +kernel)), rfl⟩
theorem kw_1079 : (Jvm.Cond.instanceMethod ({ cls := "SheetTreesModel", name := "rule", desc := "(I)Z" } : Jvm.MethodName)) ∈ ALLW := List.mem_filter.mpr ⟨List.mem_append_right _ (List.mem_of_getElem? (i := 1079) (by decide +kernel)), rfl⟩
theorem kw_1080 : (Jvm.Cond.selects "SheetTreesModel" ({ cls := "SheetTreesModel", name := "rule", desc := "(I)Z" } : Jvm.MethodName) ({ cls := "SheetTreesModel", name := "rule", desc := "(I)Z" } : Jvm.MethodName)) ∈ ALLW := List.mem_filter.mpr ⟨List.mem_append_right _ (List.mem_of_getElem? (i := 1080) (by decide +kernel)), rfl⟩
theorem kw_1081 : (Jvm.Cond.code ({ cls := "SheetTreesModel", name := "rule", desc := "(I)Z" } : Jvm.MethodName) prog_10_method_40_code (2 : Nat) (Option.some Jvm.ClassFile.FieldType.boolean)) ∈ ALLW := List.mem_filter.mpr ⟨List.mem_append_right _ (List.mem_of_getElem? (i := 1081) (by decide +kernel)), rfl⟩
theorem kw_1082 : (Jvm.Cond.methodLink "SheetTreesLaw" (132 : Nat) ({ cls := "SheetTreesModel", name := "variant", desc := "(I)I" } : Jvm.MethodName)) ∈ ALLW := List.mem_filter.mpr ⟨List.mem_append_right _ (List.mem_of_getElem? (i := 1082) (by decide +kernel)), rfl⟩
theorem kw_1083 : (Jvm.Cond.instanceMethod ({ cls := "SheetTreesModel", name := "variant", desc := "(I)I" } : Jvm.MethodName)) ∈ ALLW := List.mem_filter.mpr ⟨List.mem_append_right _ (List.mem_of_getElem? (i := 1083) (by decide +kernel)), rfl⟩
theorem kw_1084 : (Jvm.Cond.selects "SheetTreesModel" ({ cls := "SheetTreesModel", name := "variant", desc := "(I)I" } : Jvm.MethodName) ({ cls := "SheetTreesModel", name := "variant", desc := "(I)I" } : Jvm.MethodName)) ∈ ALLW := List.mem_filter.mpr ⟨List.mem_append_right _ (List.mem_of_getElem? (i := 1084) (by decide +kernel)), rfl⟩
theorem kw_1085 : (Jvm.Cond.code ({ cls := "SheetTreesModel", name := "variant", desc := "(I)I" } : Jvm.MethodName) prog_10_method_41_code (3 : Nat) (Option.some Jvm.ClassFile.FieldType.int)) ∈ ALLW := List.mem_filter.mpr ⟨List.mem_append_right _ (List.mem_of_getElem? (i := 1085) (by decide +kernel)), rfl⟩
theorem kw_1086 : (Jvm.Cond.methodLink "SheetTreesModel" (146 : Nat) ({ cls := "SheetTreesModel", name := "isVariant", desc := "(I)Z" } : Jvm.MethodName)) ∈ ALLW := List.mem_filter.mpr ⟨List.mem_append_right _ (List.mem_of_getElem? (i := 1086) (by decide +kernel)), rfl⟩
theorem kw_1088 : (Jvm.Cond.instanceMethod ({ cls := "SheetTreesModel", name := "isVariant", desc := "(I)Z" } : Jvm.MethodName)) ∈ ALLW := List.mem_filter.mpr ⟨List.mem_append_right _ (List.mem_of_getElem? (i := 1088) (by decide +kernel)), rfl⟩
theorem kw_1089 : (Jvm.Cond.code ({ cls := "SheetTreesModel", name := "isVariant", desc := "(I)Z" } : Jvm.MethodName) prog_10_method_13_code (2 : Nat) (Option.some Jvm.ClassFile.FieldType.boolean)) ∈ ALLW := List.mem_filter.mpr ⟨List.mem_append_right _ (List.mem_of_getElem? (i := 1089) (by decide +kernel)), rfl⟩
theorem kw_1090 : (Jvm.Cond.methodLink "SheetTreesLaw" (138 : Nat) ({ cls := "SheetTreesModel", name := "value", desc := "(IIIJ)Z" } : Jvm.MethodName)) ∈ ALLW := List.mem_filter.mpr ⟨List.mem_append_right _ (List.mem_of_getElem? (i := 1090) (by decide +kernel)), rfl⟩
theorem kw_1091 : (Jvm.Cond.instanceMethod ({ cls := "SheetTreesModel", name := "value", desc := "(IIIJ)Z" } : Jvm.MethodName)) ∈ ALLW := List.mem_filter.mpr ⟨List.mem_append_right _ (List.mem_of_getElem? (i := 1091) (by decide +kernel)), rfl⟩
theorem kw_1092 : (Jvm.Cond.selects "SheetTreesModel" ({ cls := "SheetTreesModel", name := "value", desc := "(IIIJ)Z" } : Jvm.MethodName) ({ cls := "SheetTreesModel", name := "value", desc := "(IIIJ)Z" } : Jvm.MethodName)) ∈ ALLW := List.mem_filter.mpr ⟨List.mem_append_right _ (List.mem_of_getElem? (i := 1092) (by decide +kernel)), rfl⟩
theorem kw_1093 : (Jvm.Cond.code ({ cls := "SheetTreesModel", name := "value", desc := "(IIIJ)Z" } : Jvm.MethodName) prog_10_method_45_code (6 : Nat) (Option.some Jvm.ClassFile.FieldType.boolean)) ∈ ALLW := List.mem_filter.mpr ⟨List.mem_append_right _ (List.mem_of_getElem? (i := 1093) (by decide +kernel)), rfl⟩
theorem kw_1094 : (Jvm.Cond.methodLink "SheetTreesModel" (159 : Nat) ({ cls := "SheetTreesModel", name := "tell", desc := "(IIIIJ)Z" } : Jvm.MethodName)) ∈ ALLW := List.mem_filter.mpr ⟨List.mem_append_right _ (List.mem_of_getElem? (i := 1094) (by decide +kernel)), rfl⟩
theorem kw_1096 : (Jvm.Cond.instanceMethod ({ cls := "SheetTreesModel", name := "tell", desc := "(IIIIJ)Z" } : Jvm.MethodName)) ∈ ALLW := List.mem_filter.mpr ⟨List.mem_append_right _ (List.mem_of_getElem? (i := 1096) (by decide +kernel)), rfl⟩
theorem kw_1097 : (Jvm.Cond.code ({ cls := "SheetTreesModel", name := "tell", desc := "(IIIIJ)Z" } : Jvm.MethodName) prog_10_method_44_code (10 : Nat) (Option.some Jvm.ClassFile.FieldType.boolean)) ∈ ALLW := List.mem_filter.mpr ⟨List.mem_append_right _ (List.mem_of_getElem? (i := 1097) (by decide +kernel)), rfl⟩
theorem kw_1098 : (Jvm.Cond.methodLink "SheetTreesModel" (149 : Nat) ({ cls := "SheetTreesModel", name := "isPage", desc := "(I)Z" } : Jvm.MethodName)) ∈ ALLW := List.mem_filter.mpr ⟨List.mem_append_right _ (List.mem_of_getElem? (i := 1098) (by decide +kernel)), rfl⟩
theorem kw_1100 : (Jvm.Cond.instanceMethod ({ cls := "SheetTreesModel", name := "isPage", desc := "(I)Z" } : Jvm.MethodName)) ∈ ALLW := List.mem_filter.mpr ⟨List.mem_append_right _ (List.mem_of_getElem? (i := 1100) (by decide +kernel)), rfl⟩
theorem kw_1101 : (Jvm.Cond.code ({ cls := "SheetTreesModel", name := "isPage", desc := "(I)Z" } : Jvm.MethodName) prog_10_method_19_code (2 : Nat) (Option.some Jvm.ClassFile.FieldType.boolean)) ∈ ALLW := List.mem_filter.mpr ⟨List.mem_append_right _ (List.mem_of_getElem? (i := 1101) (by decide +kernel)), rfl⟩
theorem kw_1102 : (Jvm.Cond.methodLink "SheetTreesModel" (86 : Nat) ({ cls := "SheetTreesModel", name := "look", desc := "()V" } : Jvm.MethodName)) ∈ ALLW := List.mem_filter.mpr ⟨List.mem_append_right _ (List.mem_of_getElem? (i := 1102) (by decide +kernel)), rfl⟩
theorem kw_1104 : (Jvm.Cond.instanceMethod ({ cls := "SheetTreesModel", name := "look", desc := "()V" } : Jvm.MethodName)) ∈ ALLW := List.mem_filter.mpr ⟨List.mem_append_right _ (List.mem_of_getElem? (i := 1104) (by decide +kernel)), rfl⟩
theorem kw_1105 : (Jvm.Cond.code ({ cls := "SheetTreesModel", name := "look", desc := "()V" } : Jvm.MethodName) prog_10_method_18_code (1 : Nat) (Option.none : Option Jvm.ClassFile.FieldType)) ∈ ALLW := List.mem_filter.mpr ⟨List.mem_append_right _ (List.mem_of_getElem? (i := 1105) (by decide +kernel)), rfl⟩
theorem kw_1106 : (Jvm.Cond.methodLink "SheetTreesModel" (152 : Nat) ({ cls := "SheetTreesModel", name := "pathOf", desc := "(I)I" } : Jvm.MethodName)) ∈ ALLW := List.mem_filter.mpr ⟨List.mem_append_right _ (List.mem_of_getElem? (i := 1106) (by decide +kernel)), rfl⟩
theorem kw_1108 : (Jvm.Cond.instanceMethod ({ cls := "SheetTreesModel", name := "pathOf", desc := "(I)I" } : Jvm.MethodName)) ∈ ALLW := List.mem_filter.mpr ⟨List.mem_append_right _ (List.mem_of_getElem? (i := 1108) (by decide +kernel)), rfl⟩
theorem kw_1109 : (Jvm.Cond.code ({ cls := "SheetTreesModel", name := "pathOf", desc := "(I)I" } : Jvm.MethodName) prog_10_method_42_code (5 : Nat) (Option.some Jvm.ClassFile.FieldType.int)) ∈ ALLW := List.mem_filter.mpr ⟨List.mem_append_right _ (List.mem_of_getElem? (i := 1109) (by decide +kernel)), rfl⟩
theorem kw_1110 : (Jvm.Cond.methodLink "SheetTreesModel" (155 : Nat) ({ cls := "SheetTreesModel", name := "find", desc := "(IIII)I" } : Jvm.MethodName)) ∈ ALLW := List.mem_filter.mpr ⟨List.mem_append_right _ (List.mem_of_getElem? (i := 1110) (by decide +kernel)), rfl⟩
theorem kw_1112 : (Jvm.Cond.instanceMethod ({ cls := "SheetTreesModel", name := "find", desc := "(IIII)I" } : Jvm.MethodName)) ∈ ALLW := List.mem_filter.mpr ⟨List.mem_append_right _ (List.mem_of_getElem? (i := 1112) (by decide +kernel)), rfl⟩
theorem kw_1113 : (Jvm.Cond.code ({ cls := "SheetTreesModel", name := "find", desc := "(IIII)I" } : Jvm.MethodName) prog_10_method_43_code (9 : Nat) (Option.some Jvm.ClassFile.FieldType.int)) ∈ ALLW := List.mem_filter.mpr ⟨List.mem_append_right _ (List.mem_of_getElem? (i := 1113) (by decide +kernel)), rfl⟩
theorem kw_1114 : (Jvm.Cond.methodLink "SheetTreesLaw" (142 : Nat) ({ cls := "SheetTreesModel", name := "fit", desc := "(IIIZ)Z" } : Jvm.MethodName)) ∈ ALLW := List.mem_filter.mpr ⟨List.mem_append_right _ (List.mem_of_getElem? (i := 1114) (by decide +kernel)), rfl⟩
theorem kw_1115 : (Jvm.Cond.instanceMethod ({ cls := "SheetTreesModel", name := "fit", desc := "(IIIZ)Z" } : Jvm.MethodName)) ∈ ALLW := List.mem_filter.mpr ⟨List.mem_append_right _ (List.mem_of_getElem? (i := 1115) (by decide +kernel)), rfl⟩
theorem kw_1116 : (Jvm.Cond.selects "SheetTreesModel" ({ cls := "SheetTreesModel", name := "fit", desc := "(IIIZ)Z" } : Jvm.MethodName) ({ cls := "SheetTreesModel", name := "fit", desc := "(IIIZ)Z" } : Jvm.MethodName)) ∈ ALLW := List.mem_filter.mpr ⟨List.mem_append_right _ (List.mem_of_getElem? (i := 1116) (by decide +kernel)), rfl⟩
theorem kw_1117 : (Jvm.Cond.code ({ cls := "SheetTreesModel", name := "fit", desc := "(IIIZ)Z" } : Jvm.MethodName) prog_10_method_46_code (5 : Nat) (Option.some Jvm.ClassFile.FieldType.boolean)) ∈ ALLW := List.mem_filter.mpr ⟨List.mem_append_right _ (List.mem_of_getElem? (i := 1117) (by decide +kernel)), rfl⟩
theorem kw_1118 : (Jvm.Cond.methodLink "SheetTreesLaw" (145 : Nat) ({ cls := "SheetTreesModel", name := "valueOf", desc := "(III)J" } : Jvm.MethodName)) ∈ ALLW := List.mem_filter.mpr ⟨List.mem_append_right _ (List.mem_of_getElem? (i := 1118) (by decide +kernel)), rfl⟩
theorem kw_1119 : (Jvm.Cond.instanceMethod ({ cls := "SheetTreesModel", name := "valueOf", desc := "(III)J" } : Jvm.MethodName)) ∈ ALLW := List.mem_filter.mpr ⟨List.mem_append_right _ (List.mem_of_getElem? (i := 1119) (by decide +kernel)), rfl⟩
theorem kw_1120 : (Jvm.Cond.selects "SheetTreesModel" ({ cls := "SheetTreesModel", name := "valueOf", desc := "(III)J" } : Jvm.MethodName) ({ cls := "SheetTreesModel", name := "valueOf", desc := "(III)J" } : Jvm.MethodName)) ∈ ALLW := List.mem_filter.mpr ⟨List.mem_append_right _ (List.mem_of_getElem? (i := 1120) (by decide +kernel)), rfl⟩
theorem kw_1121 : (Jvm.Cond.code ({ cls := "SheetTreesModel", name := "valueOf", desc := "(III)J" } : Jvm.MethodName) prog_10_method_48_code (4 : Nat) (Option.some Jvm.ClassFile.FieldType.long)) ∈ ALLW := List.mem_filter.mpr ⟨List.mem_append_right _ (List.mem_of_getElem? (i := 1121) (by decide +kernel)), rfl⟩
theorem kw_1122 : (Jvm.Cond.methodLink "SheetTreesModel" (163 : Nat) ({ cls := "SheetTreesModel", name := "ask", desc := "(IIII)J" } : Jvm.MethodName)) ∈ ALLW := List.mem_filter.mpr ⟨List.mem_append_right _ (List.mem_of_getElem? (i := 1122) (by decide +kernel)), rfl⟩
theorem kw_1124 : (Jvm.Cond.instanceMethod ({ cls := "SheetTreesModel", name := "ask", desc := "(IIII)J" } : Jvm.MethodName)) ∈ ALLW := List.mem_filter.mpr ⟨List.mem_append_right _ (List.mem_of_getElem? (i := 1124) (by decide +kernel)), rfl⟩
theorem kw_1125 : (Jvm.Cond.code ({ cls := "SheetTreesModel", name := "ask", desc := "(IIII)J" } : Jvm.MethodName) prog_10_method_47_code (9 : Nat) (Option.some Jvm.ClassFile.FieldType.long)) ∈ ALLW := List.mem_filter.mpr ⟨List.mem_append_right _ (List.mem_of_getElem? (i := 1125) (by decide +kernel)), rfl⟩
theorem kw_1126 : (Jvm.Cond.methodLink "SheetTreesLaw" (148 : Nat) ({ cls := "SheetTreesModel", name := "fitted", desc := "(III)Z" } : Jvm.MethodName)) ∈ ALLW := List.mem_filter.mpr ⟨List.mem_append_right _ (List.mem_of_getElem? (i := 1126) (by decide +kernel)), rfl⟩
theorem kw_1127 : (Jvm.Cond.instanceMethod ({ cls := "SheetTreesModel", name := "fitted", desc := "(III)Z" } : Jvm.MethodName)) ∈ ALLW := List.mem_filter.mpr ⟨List.mem_append_right _ (List.mem_of_getElem? (i := 1127) (by decide +kernel)), rfl⟩
theorem kw_1128 : (Jvm.Cond.selects "SheetTreesModel" ({ cls := "SheetTreesModel", name := "fitted", desc := "(III)Z" } : Jvm.MethodName) ({ cls := "SheetTreesModel", name := "fitted", desc := "(III)Z" } : Jvm.MethodName)) ∈ ALLW := List.mem_filter.mpr ⟨List.mem_append_right _ (List.mem_of_getElem? (i := 1128) (by decide +kernel)), rfl⟩
theorem kw_1129 : (Jvm.Cond.code ({ cls := "SheetTreesModel", name := "fitted", desc := "(III)Z" } : Jvm.MethodName) prog_10_method_49_code (4 : Nat) (Option.some Jvm.ClassFile.FieldType.boolean)) ∈ ALLW := List.mem_filter.mpr ⟨List.mem_append_right _ (List.mem_of_getElem? (i := 1129) (by decide +kernel)), rfl⟩
theorem kw_1130 : (Jvm.Cond.methodLink "SheetTreesLaw" (157 : Nat) ({ cls := "SheetTreesModel", name := "pages", desc := "()I" } : Jvm.MethodName)) ∈ ALLW := List.mem_filter.mpr ⟨List.mem_append_right _ (List.mem_of_getElem? (i := 1130) (by decide +kernel)), rfl⟩
theorem kw_1131 : (Jvm.Cond.instanceMethod ({ cls := "SheetTreesModel", name := "pages", desc := "()I" } : Jvm.MethodName)) ∈ ALLW := List.mem_filter.mpr ⟨List.mem_append_right _ (List.mem_of_getElem? (i := 1131) (by decide +kernel)), rfl⟩
theorem kw_1132 : (Jvm.Cond.selects "SheetTreesModel" ({ cls := "SheetTreesModel", name := "pages", desc := "()I" } : Jvm.MethodName) ({ cls := "SheetTreesModel", name := "pages", desc := "()I" } : Jvm.MethodName)) ∈ ALLW := List.mem_filter.mpr ⟨List.mem_append_right _ (List.mem_of_getElem? (i := 1132) (by decide +kernel)), rfl⟩
theorem kw_1133 : (Jvm.Cond.code ({ cls := "SheetTreesModel", name := "pages", desc := "()I" } : Jvm.MethodName) prog_10_method_50_code (1 : Nat) (Option.some Jvm.ClassFile.FieldType.int)) ∈ ALLW := List.mem_filter.mpr ⟨List.mem_append_right _ (List.mem_of_getElem? (i := 1133) (by decide +kernel)), rfl⟩
theorem kw_1134 : (Jvm.Cond.methodLink "SheetTreesLaw" (160 : Nat) ({ cls := "SheetTreesModel", name := "page", desc := "(II)I" } : Jvm.MethodName)) ∈ ALLW := List.mem_filter.mpr ⟨List.mem_append_right _ (List.mem_of_getElem? (i := 1134) (by decide +kernel)), rfl⟩
theorem kw_1135 : (Jvm.Cond.instanceMethod ({ cls := "SheetTreesModel", name := "page", desc := "(II)I" } : Jvm.MethodName)) ∈ ALLW := List.mem_filter.mpr ⟨List.mem_append_right _ (List.mem_of_getElem? (i := 1135) (by decide +kernel)), rfl⟩
theorem kw_1136 : (Jvm.Cond.selects "SheetTreesModel" ({ cls := "SheetTreesModel", name := "page", desc := "(II)I" } : Jvm.MethodName) ({ cls := "SheetTreesModel", name := "page", desc := "(II)I" } : Jvm.MethodName)) ∈ ALLW := List.mem_filter.mpr ⟨List.mem_append_right _ (List.mem_of_getElem? (i := 1136) (by decide +kernel)), rfl⟩
theorem kw_1137 : (Jvm.Cond.code ({ cls := "SheetTreesModel", name := "page", desc := "(II)I" } : Jvm.MethodName) prog_10_method_51_code (3 : Nat) (Option.some Jvm.ClassFile.FieldType.int)) ∈ ALLW := List.mem_filter.mpr ⟨List.mem_append_right _ (List.mem_of_getElem? (i := 1137) (by decide +kernel)), rfl⟩
theorem kw_1138 : (Jvm.Cond.methodLink "SheetTreesLaw" (163 : Nat) ({ cls := "SheetTreesModel", name := "units", desc := "(I)I" } : Jvm.MethodName)) ∈ ALLW := List.mem_filter.mpr ⟨List.mem_append_right _ (List.mem_of_getElem? (i := 1138) (by decide +kernel)), rfl⟩
theorem kw_1139 : (Jvm.Cond.instanceMethod ({ cls := "SheetTreesModel", name := "units", desc := "(I)I" } : Jvm.MethodName)) ∈ ALLW := List.mem_filter.mpr ⟨List.mem_append_right _ (List.mem_of_getElem? (i := 1139) (by decide +kernel)), rfl⟩
theorem kw_1140 : (Jvm.Cond.selects "SheetTreesModel" ({ cls := "SheetTreesModel", name := "units", desc := "(I)I" } : Jvm.MethodName) ({ cls := "SheetTreesModel", name := "units", desc := "(I)I" } : Jvm.MethodName)) ∈ ALLW := List.mem_filter.mpr ⟨List.mem_append_right _ (List.mem_of_getElem? (i := 1140) (by decide +kernel)), rfl⟩
theorem kw_1141 : (Jvm.Cond.code ({ cls := "SheetTreesModel", name := "units", desc := "(I)I" } : Jvm.MethodName) prog_10_method_54_code (2 : Nat) (Option.some Jvm.ClassFile.FieldType.int)) ∈ ALLW := List.mem_filter.mpr ⟨List.mem_append_right _ (List.mem_of_getElem? (i := 1141) (by decide +kernel)), rfl⟩
theorem kw_1142 : (Jvm.Cond.methodLink "SheetTreesModel" (167 : Nat) ({ cls := "SheetTreesModel", name := "unitsOf", desc := "(I)I" } : Jvm.MethodName)) ∈ ALLW := List.mem_filter.mpr ⟨List.mem_append_right _ (List.mem_of_getElem? (i := 1142) (by decide +kernel)), rfl⟩
theorem kw_1144 : (Jvm.Cond.instanceMethod ({ cls := "SheetTreesModel", name := "unitsOf", desc := "(I)I" } : Jvm.MethodName)) ∈ ALLW := List.mem_filter.mpr ⟨List.mem_append_right _ (List.mem_of_getElem? (i := 1144) (by decide +kernel)), rfl⟩
theorem kw_1145 : (Jvm.Cond.code ({ cls := "SheetTreesModel", name := "unitsOf", desc := "(I)I" } : Jvm.MethodName) prog_10_method_53_code (6 : Nat) (Option.some Jvm.ClassFile.FieldType.int)) ∈ ALLW := List.mem_filter.mpr ⟨List.mem_append_right _ (List.mem_of_getElem? (i := 1145) (by decide +kernel)), rfl⟩
theorem kw_1146 : (Jvm.Cond.methodLink "SheetTreesLaw" (166 : Nat) ({ cls := "SheetTreesModel", name := "where", desc := "(III)I" } : Jvm.MethodName)) ∈ ALLW := List.mem_filter.mpr ⟨List.mem_append_right _ (List.mem_of_getElem? (i := 1146) (by decide +kernel)), rfl⟩
theorem kw_1147 : (Jvm.Cond.instanceMethod ({ cls := "SheetTreesModel", name := "where", desc := "(III)I" } : Jvm.MethodName)) ∈ ALLW := List.mem_filter.mpr ⟨List.mem_append_right _ (List.mem_of_getElem? (i := 1147) (by decide +kernel)), rfl⟩
theorem kw_1148 : (Jvm.Cond.selects "SheetTreesModel" ({ cls := "SheetTreesModel", name := "where", desc := "(III)I" } : Jvm.MethodName) ({ cls := "SheetTreesModel", name := "where", desc := "(III)I" } : Jvm.MethodName)) ∈ ALLW := List.mem_filter.mpr ⟨List.mem_append_right _ (List.mem_of_getElem? (i := 1148) (by decide +kernel)), rfl⟩
theorem kw_1149 : (Jvm.Cond.code ({ cls := "SheetTreesModel", name := "where", desc := "(III)I" } : Jvm.MethodName) prog_10_method_55_code (4 : Nat) (Option.some Jvm.ClassFile.FieldType.int)) ∈ ALLW := List.mem_filter.mpr ⟨List.mem_append_right _ (List.mem_of_getElem? (i := 1149) (by decide +kernel)), rfl⟩
theorem kw_1150 : (Jvm.Cond.methodLink "SheetTreesModel" (170 : Nat) ({ cls := "SheetTreesModel", name := "pageOf", desc := "(JI)I" } : Jvm.MethodName)) ∈ ALLW := List.mem_filter.mpr ⟨List.mem_append_right _ (List.mem_of_getElem? (i := 1150) (by decide +kernel)), rfl⟩
theorem kw_1152 : (Jvm.Cond.instanceMethod ({ cls := "SheetTreesModel", name := "pageOf", desc := "(JI)I" } : Jvm.MethodName)) ∈ ALLW := List.mem_filter.mpr ⟨List.mem_append_right _ (List.mem_of_getElem? (i := 1152) (by decide +kernel)), rfl⟩
theorem kw_1153 : (Jvm.Cond.code ({ cls := "SheetTreesModel", name := "pageOf", desc := "(JI)I" } : Jvm.MethodName) prog_10_method_52_code (6 : Nat) (Option.some Jvm.ClassFile.FieldType.int)) ∈ ALLW := List.mem_filter.mpr ⟨List.mem_append_right _ (List.mem_of_getElem? (i := 1153) (by decide +kernel)), rfl⟩
theorem kw_1154 : (Jvm.Cond.methodLink "SheetTreesLaw" (169 : Nat) ({ cls := "SheetTreesModel", name := "name", desc := "(II)I" } : Jvm.MethodName)) ∈ ALLW := List.mem_filter.mpr ⟨List.mem_append_right _ (List.mem_of_getElem? (i := 1154) (by decide +kernel)), rfl⟩
theorem kw_1155 : (Jvm.Cond.instanceMethod ({ cls := "SheetTreesModel", name := "name", desc := "(II)I" } : Jvm.MethodName)) ∈ ALLW := List.mem_filter.mpr ⟨List.mem_append_right _ (List.mem_of_getElem? (i := 1155) (by decide +kernel)), rfl⟩
theorem kw_1156 : (Jvm.Cond.selects "SheetTreesModel" ({ cls := "SheetTreesModel", name := "name", desc := "(II)I" } : Jvm.MethodName) ({ cls := "SheetTreesModel", name := "name", desc := "(II)I" } : Jvm.MethodName)) ∈ ALLW := List.mem_filter.mpr ⟨List.mem_append_right _ (List.mem_of_getElem? (i := 1156) (by decide +kernel)), rfl⟩
theorem kw_1157 : (Jvm.Cond.code ({ cls := "SheetTreesModel", name := "name", desc := "(II)I" } : Jvm.MethodName) prog_10_method_57_code (11 : Nat) (Option.some Jvm.ClassFile.FieldType.int)) ∈ ALLW := List.mem_filter.mpr ⟨List.mem_append_right _ (List.mem_of_getElem? (i := 1157) (by decide +kernel)), rfl⟩
theorem kw_1158 : (Jvm.Cond.methodLink "SheetTreesModel" (181 : Nat) ({ cls := "SheetTreesModel", name := "first", desc := "(II)V" } : Jvm.MethodName)) ∈ ALLW := List.mem_filter.mpr ⟨List.mem_append_right _ (List.mem_of_getElem? (i := 1158) (by decide +kernel)), rfl⟩
theorem kw_1160 : (Jvm.Cond.instanceMethod ({ cls := "SheetTreesModel", name := "first", desc := "(II)V" } : Jvm.MethodName)) ∈ ALLW := List.mem_filter.mpr ⟨List.mem_append_right _ (List.mem_of_getElem? (i := 1160) (by decide +kernel)), rfl⟩
theorem kw_1161 : (Jvm.Cond.code ({ cls := "SheetTreesModel", name := "first", desc := "(II)V" } : Jvm.MethodName) prog_10_method_56_code (8 : Nat) (Option.none : Option Jvm.ClassFile.FieldType)) ∈ ALLW := List.mem_filter.mpr ⟨List.mem_append_right _ (List.mem_of_getElem? (i := 1161) (by decide +kernel)), rfl⟩
theorem kw_1162 : (Jvm.Cond.constantLong "SheetTreesLaw" (133 : Nat) (4294967295 : Int64)) ∈ ALLW := List.mem_filter.mpr ⟨List.mem_append_right _ (List.mem_of_getElem? (i := 1162) (by decide +kernel)), rfl⟩
theorem mf_ST_init : mf ALLW "SheetTrees" y_ST_init b_ST_init 1 (none) 0 := ⟨kw_21, kw_1, rfl, by decide, by decide, by decide +kernel⟩
theorem mf_ST_sheet : mf ALLW "SheetTrees" y_ST_sheet b_ST_sheet 2 (some .int) 0 := ⟨kw_278, kw_1, rfl, by decide, by decide, by decide +kernel⟩
theorem mf_ST_place : mf ALLW "SheetTrees" y_ST_place b_ST_place 4 (some .int) 2 := ⟨kw_375, kw_1, rfl, by decide, by decide, by decide +kernel⟩
theorem mf_ST_remove : mf ALLW "SheetTrees" y_ST_remove b_ST_remove 2 (some .boolean) 1 := ⟨kw_499, kw_1, rfl, by decide, by decide, by decide +kernel⟩
theorem mf_ST_move : mf ALLW "SheetTrees" y_ST_move b_ST_move 4 (some .boolean) 2 := ⟨kw_521, kw_1, rfl, by decide, by decide, by decide +kernel⟩
theorem mf_ST_told : mf ALLW "SheetTrees" y_ST_told b_ST_told 4 (some .int) 1 := ⟨kw_335, kw_1, rfl, by decide, by decide, by decide +kernel⟩
theorem mf_ST_port : mf ALLW "SheetTrees" y_ST_port b_ST_port 3 (some .boolean) 2 := ⟨kw_546, kw_1, rfl, by decide, by decide, by decide +kernel⟩
theorem mf_ST_join : mf ALLW "SheetTrees" y_ST_join b_ST_join 4 (some .boolean) 3 := ⟨kw_563, kw_1, rfl, by decide, by decide, by decide +kernel⟩
theorem mf_ST_joined : mf ALLW "SheetTrees" y_ST_joined b_ST_joined 3 (some .int) 2 := ⟨kw_573, kw_1, rfl, by decide, by decide, by decide +kernel⟩
theorem mf_ST_part : mf ALLW "SheetTrees" y_ST_part b_ST_part 4 (some .int) 2 := ⟨kw_581, kw_1, rfl, by decide, by decide, by decide +kernel⟩
theorem mf_ST_gate : mf ALLW "SheetTrees" y_ST_gate b_ST_gate 4 (some .boolean) 3 := ⟨kw_614, kw_1, rfl, by decide, by decide, by decide +kernel⟩
theorem mf_ST_copy : mf ALLW "SheetTrees" y_ST_copy b_ST_copy 3 (some .int) 1 := ⟨kw_652, kw_1, rfl, by decide, by decide, by decide +kernel⟩
theorem mf_ST_rule : mf ALLW "SheetTrees" y_ST_rule b_ST_rule 2 (some .boolean) 1 := ⟨kw_700, kw_1, rfl, by decide, by decide, by decide +kernel⟩
theorem mf_ST_variant : mf ALLW "SheetTrees" y_ST_variant b_ST_variant 3 (some .int) 1 := ⟨kw_710, kw_1, rfl, by decide, by decide, by decide +kernel⟩
theorem mf_ST_value : mf ALLW "SheetTrees" y_ST_value b_ST_value 6 (some .boolean) 4 := ⟨kw_741, kw_1, rfl, by decide, by decide, by decide +kernel⟩
theorem mf_ST_fit : mf ALLW "SheetTrees" y_ST_fit b_ST_fit 5 (some .boolean) 4 := ⟨kw_784, kw_1, rfl, by decide, by decide, by decide +kernel⟩
theorem mf_ST_valueOf : mf ALLW "SheetTrees" y_ST_valueOf b_ST_valueOf 4 (some .long) 3 := ⟨kw_791, kw_1, rfl, by decide, by decide, by decide +kernel⟩
theorem mf_ST_fitted : mf ALLW "SheetTrees" y_ST_fitted b_ST_fitted 4 (some .boolean) 3 := ⟨kw_807, kw_1, rfl, by decide, by decide, by decide +kernel⟩
theorem mf_ST_undo : mf ALLW "SheetTrees" y_ST_undo b_ST_undo 1 (some .boolean) 0 := ⟨kw_342, kw_1, rfl, by decide, by decide, by decide +kernel⟩
theorem mf_ST_pages : mf ALLW "SheetTrees" y_ST_pages b_ST_pages 1 (some .int) 0 := ⟨kw_363, kw_1, rfl, by decide, by decide, by decide +kernel⟩
theorem mf_ST_page : mf ALLW "SheetTrees" y_ST_page b_ST_page 3 (some .int) 2 := ⟨kw_814, kw_1, rfl, by decide, by decide, by decide +kernel⟩
theorem mf_ST_units : mf ALLW "SheetTrees" y_ST_units b_ST_units 2 (some .int) 1 := ⟨kw_826, kw_1, rfl, by decide, by decide, by decide +kernel⟩
theorem mf_ST_where : mf ALLW "SheetTrees" y_ST_where b_ST_where 4 (some .int) 3 := ⟨kw_840, kw_1, rfl, by decide, by decide, by decide +kernel⟩
theorem mf_ST_name : mf ALLW "SheetTrees" y_ST_name b_ST_name 4 (some .int) 2 := ⟨kw_860, kw_1, rfl, by decide, by decide, by decide +kernel⟩
theorem mf_ST_settle : mf ALLW "SheetTrees" y_ST_settle b_ST_settle 1 (some .boolean) 0 := ⟨kw_487, kw_1, rfl, by decide, by decide, by decide +kernel⟩
theorem mf_ST_tell : mf ALLW "SheetTrees" y_ST_tell b_ST_tell 7 (some .boolean) 5 := ⟨kw_745, kw_1, rfl, by decide, by decide, by decide +kernel⟩
theorem mf_ST_heard : mf ALLW "SheetTrees" y_ST_heard b_ST_heard 8 (some .long) 5 := ⟨kw_795, kw_1, rfl, by decide, by decide, by decide +kernel⟩
theorem mf_ST_needSheet : mf ALLW "SheetTrees" y_ST_needSheet b_ST_needSheet 2 (none) 1 := ⟨kw_379, kw_1, rfl, by decide, by decide, by decide +kernel⟩
theorem mf_ST_needPlacement : mf ALLW "SheetTrees" y_ST_needPlacement b_ST_needPlacement 2 (none) 1 := ⟨kw_503, kw_1, rfl, by decide, by decide, by decide +kernel⟩
theorem mf_ST_needName : mf ALLW "SheetTrees" y_ST_needName b_ST_needName 2 (none) 1 := ⟨kw_550, kw_1, rfl, by decide, by decide, by decide +kernel⟩
theorem mf_ST_needPart : mf ALLW "SheetTrees" y_ST_needPart b_ST_needPart 2 (none) 1 := ⟨kw_618, kw_1, rfl, by decide, by decide, by decide +kernel⟩
theorem mf_ST_needGate : mf ALLW "SheetTrees" y_ST_needGate b_ST_needGate 3 (none) 2 := ⟨kw_627, kw_1, rfl, by decide, by decide, by decide +kernel⟩
theorem mf_ST_needUnit : mf ALLW "SheetTrees" y_ST_needUnit b_ST_needUnit 3 (none) 2 := ⟨kw_844, kw_1, rfl, by decide, by decide, by decide +kernel⟩
theorem mf_ST_needVariant : mf ALLW "SheetTrees" y_ST_needVariant b_ST_needVariant 2 (none) 1 := ⟨kw_718, kw_1, rfl, by decide, by decide, by decide +kernel⟩
theorem mf_ST_needVariantOrNone : mf ALLW "SheetTrees" y_ST_needVariantOrNone b_ST_needVariantOrNone 2 (none) 1 := ⟨kw_714, kw_1, rfl, by decide, by decide, by decide +kernel⟩
theorem mf_ST_needPage : mf ALLW "SheetTrees" y_ST_needPage b_ST_needPage 2 (none) 1 := ⟨kw_749, kw_1, rfl, by decide, by decide, by decide +kernel⟩
theorem mf_ST_holdsName : mf ALLW "SheetTrees" y_ST_holdsName b_ST_holdsName 2 (some .boolean) 2 := ⟨kw_338, kw_1, rfl, by decide, by decide, by decide +kernel⟩
theorem mf_ST_read : mf ALLW "SheetTrees" y_ST_read b_ST_read 2 (some .int) 2 := ⟨kw_215, kw_1, rfl, by decide, by decide, by decide +kernel⟩
theorem mf_ST_write : mf ALLW "SheetTrees" y_ST_write b_ST_write 3 (none) 3 := ⟨kw_208, kw_1, rfl, by decide, by decide, by decide +kernel⟩
theorem mf_Book_init : mf ALLW "SheetTrees$Book" y_Book_init b_Book_init 2 (none) 1 := ⟨kw_100, kw_7, rfl, by decide, by decide, by decide +kernel⟩
theorem mf_Book_lay : mf ALLW "SheetTrees$Book" y_Book_lay b_Book_lay 5 (none) 0 := ⟨kw_198, kw_7, rfl, by decide, by decide, by decide +kernel⟩
theorem mf_Book_addPage : mf ALLW "SheetTrees$Book" y_Book_addPage b_Book_addPage 6 (some .int) 4 := ⟨kw_205, kw_7, rfl, by decide, by decide, by decide +kernel⟩
theorem mf_Book_isWithinLimit : mf ALLW "SheetTrees$Book" y_Book_isWithinLimit b_Book_isWithinLimit 1 (some .boolean) 0 := ⟨kw_491, kw_7, rfl, by decide, by decide, by decide +kernel⟩
theorem mf_Book_count : mf ALLW "SheetTrees$Book" y_Book_count b_Book_count 1 (some .int) 0 := ⟨kw_367, kw_7, rfl, by decide, by decide, by decide +kernel⟩
theorem mf_Book_sheetAt : mf ALLW "SheetTrees$Book" y_Book_sheetAt b_Book_sheetAt 2 (some .int) 1 := ⟨kw_220, kw_7, rfl, by decide, by decide, by decide +kernel⟩
theorem mf_Book_placementAt : mf ALLW "SheetTrees$Book" y_Book_placementAt b_Book_placementAt 2 (some .int) 1 := ⟨kw_236, kw_7, rfl, by decide, by decide, by decide +kernel⟩
theorem mf_Book_pageAbove : mf ALLW "SheetTrees$Book" y_Book_pageAbove b_Book_pageAbove 2 (some .int) 1 := ⟨kw_244, kw_7, rfl, by decide, by decide, by decide +kernel⟩
theorem mf_Book_depthAt : mf ALLW "SheetTrees$Book" y_Book_depthAt b_Book_depthAt 2 (some .int) 1 := ⟨kw_252, kw_7, rfl, by decide, by decide, by decide +kernel⟩
theorem mf_Book_comingAt : mf ALLW "SheetTrees$Book" y_Book_comingAt b_Book_comingAt 2 (some .int) 1 := ⟨kw_853, kw_7, rfl, by decide, by decide, by decide +kernel⟩
theorem mf_Book_comingsOf : mf ALLW "SheetTrees$Book" y_Book_comingsOf b_Book_comingsOf 2 (some .int) 1 := ⟨kw_212, kw_7, rfl, by decide, by decide, by decide +kernel⟩
theorem mf_Book_pageOfComing : mf ALLW "SheetTrees$Book" y_Book_pageOfComing b_Book_pageOfComing 4 (some .int) 2 := ⟨kw_849, kw_7, rfl, by decide, by decide, by decide +kernel⟩
theorem mf_Change_init : mf ALLW "SheetTrees$Change" y_Change_init b_Change_init 6 (none) 4 := ⟨kw_304, kw_11, rfl, by decide, by decide, by decide +kernel⟩
theorem mf_Change_takeBack : mf ALLW "SheetTrees$Change" y_Change_takeBack b_Change_takeBack 1 (none) 0 := ⟨kw_358, kw_11, rfl, by decide, by decide, by decide +kernel⟩
theorem mf_Journal_init : mf ALLW "SheetTrees$Journal" y_Journal_init b_Journal_init 1 (none) 0 := ⟨kw_29, kw_2, rfl, by decide, by decide, by decide +kernel⟩
theorem mf_Journal_note : mf ALLW "SheetTrees$Journal" y_Journal_note b_Journal_note 5 (none) 3 := ⟨kw_300, kw_2, rfl, by decide, by decide, by decide +kernel⟩
theorem mf_Journal_keep : mf ALLW "SheetTrees$Journal" y_Journal_keep b_Journal_keep 1 (none) 0 := ⟨kw_324, kw_2, rfl, by decide, by decide, by decide +kernel⟩
theorem mf_Journal_takeBack : mf ALLW "SheetTrees$Journal" y_Journal_takeBack b_Journal_takeBack 2 (none) 0 := ⟨kw_354, kw_2, rfl, by decide, by decide, by decide +kernel⟩
theorem mf_Journal_stepBack : mf ALLW "SheetTrees$Journal" y_Journal_stepBack b_Journal_stepBack 1 (some .boolean) 0 := ⟨kw_346, kw_2, rfl, by decide, by decide, by decide +kernel⟩
theorem mf_Journal_getAct : mf ALLW "SheetTrees$Journal" y_Journal_getAct b_Journal_getAct 2 (some (.object "SheetTrees$Change")) 1 := ⟨kw_350, kw_2, rfl, by decide, by decide, by decide +kernel⟩
theorem mf_Journal_putAct : mf ALLW "SheetTrees$Journal" y_Journal_putAct b_Journal_putAct 3 (none) 2 := ⟨kw_328, kw_2, rfl, by decide, by decide, by decide +kernel⟩
theorem mf_Parts_init : mf ALLW "SheetTrees$Parts" y_Parts_init b_Parts_init 3 (none) 2 := ⟨kw_132, kw_8, rfl, by decide, by decide, by decide +kernel⟩
theorem mf_Parts_isPart : mf ALLW "SheetTrees$Parts" y_Parts_isPart b_Parts_isPart 2 (some .boolean) 1 := ⟨kw_622, kw_8, rfl, by decide, by decide, by decide +kernel⟩
theorem mf_Parts_partsLeft : mf ALLW "SheetTrees$Parts" y_Parts_partsLeft b_Parts_partsLeft 1 (some .int) 0 := ⟨kw_601, kw_8, rfl, by decide, by decide, by decide +kernel⟩
theorem mf_Parts_letterOf : mf ALLW "SheetTrees$Parts" y_Parts_letterOf b_Parts_letterOf 2 (some .int) 1 := ⟨kw_690, kw_8, rfl, by decide, by decide, by decide +kernel⟩
theorem mf_Parts_gateCount : mf ALLW "SheetTrees$Parts" y_Parts_gateCount b_Parts_gateCount 2 (some .int) 1 := ⟨kw_631, kw_8, rfl, by decide, by decide, by decide +kernel⟩
theorem mf_Parts_sheetOfGate : mf ALLW "SheetTrees$Parts" y_Parts_sheetOfGate b_Parts_sheetOfGate 3 (some .int) 2 := ⟨kw_636, kw_8, rfl, by decide, by decide, by decide +kernel⟩
theorem mf_Parts_gatesOn : mf ALLW "SheetTrees$Parts" y_Parts_gatesOn b_Parts_gatesOn 2 (some .int) 1 := ⟨kw_640, kw_8, rfl, by decide, by decide, by decide +kernel⟩
theorem mf_Parts_gateAt : mf ALLW "SheetTrees$Parts" y_Parts_gateAt b_Parts_gateAt 3 (some .int) 2 := ⟨kw_670, kw_8, rfl, by decide, by decide, by decide +kernel⟩
theorem mf_Parts_partAt : mf ALLW "SheetTrees$Parts" y_Parts_partAt b_Parts_partAt 3 (some .int) 2 := ⟨kw_666, kw_8, rfl, by decide, by decide, by decide +kernel⟩
theorem mf_Parts_addPart : mf ALLW "SheetTrees$Parts" y_Parts_addPart b_Parts_addPart 4 (some .int) 2 := ⟨kw_606, kw_8, rfl, by decide, by decide, by decide +kernel⟩
theorem mf_Parts_layGate : mf ALLW "SheetTrees$Parts" y_Parts_layGate b_Parts_layGate 5 (none) 3 := ⟨kw_644, kw_8, rfl, by decide, by decide, by decide +kernel⟩
theorem mf_Parts_partsOn : mf ALLW "SheetTrees$Parts" y_Parts_partsOn b_Parts_partsOn 5 (some .int) 1 := ⟨kw_661, kw_8, rfl, by decide, by decide, by decide +kernel⟩
theorem mf_Parts_addPartsLike : mf ALLW "SheetTrees$Parts" y_Parts_addPartsLike b_Parts_addPartsLike 6 (none) 2 := ⟨kw_686, kw_8, rfl, by decide, by decide, by decide +kernel⟩
theorem mf_Parts_unitCount : mf ALLW "SheetTrees$Parts" y_Parts_unitCount b_Parts_unitCount 4 (some .int) 1 := ⟨kw_830, kw_8, rfl, by decide, by decide, by decide +kernel⟩
theorem mf_Parts_numberOf : mf ALLW "SheetTrees$Parts" y_Parts_numberOf b_Parts_numberOf 6 (some .int) 3 := ⟨kw_864, kw_8, rfl, by decide, by decide, by decide +kernel⟩
theorem mf_Parts_newUnitsAt : mf ALLW "SheetTrees$Parts" y_Parts_newUnitsAt b_Parts_newUnitsAt 9 (some .int) 3 := ⟨kw_869, kw_8, rfl, by decide, by decide, by decide +kernel⟩
theorem mf_Row_init : mf ALLW "SheetTrees$Row" y_Row_init b_Row_init 5 (none) 3 := ⟨kw_56, kw_4, rfl, by decide, by decide, by decide +kernel⟩
theorem mf_Row_longAt : mf ALLW "SheetTrees$Row" y_Row_longAt b_Row_longAt 2 (some .long) 1 := ⟨kw_295, kw_4, rfl, by decide, by decide, by decide +kernel⟩
theorem mf_Row_at : mf ALLW "SheetTrees$Row" y_Row_at b_Row_at 2 (some .int) 1 := ⟨kw_232, kw_4, rfl, by decide, by decide, by decide +kernel⟩
theorem mf_Row_set : mf ALLW "SheetTrees$Row" y_Row_set b_Row_set 6 (none) 2 := ⟨kw_291, kw_4, rfl, by decide, by decide, by decide +kernel⟩
theorem mf_Row_restore : mf ALLW "SheetTrees$Row" y_Row_restore b_Row_restore 4 (none) 2 := ⟨kw_76, kw_4, rfl, by decide, by decide, by decide +kernel⟩
theorem mf_Sheets_init : mf ALLW "SheetTrees$Sheets" y_Sheets_init b_Sheets_init 2 (none) 1 := ⟨kw_50, kw_3, rfl, by decide, by decide, by decide +kernel⟩
theorem mf_Sheets_sheetCount : mf ALLW "SheetTrees$Sheets" y_Sheets_sheetCount b_Sheets_sheetCount 1 (some .int) 0 := ⟨kw_282, kw_3, rfl, by decide, by decide, by decide +kernel⟩
theorem mf_Sheets_placementsLeft : mf ALLW "SheetTrees$Sheets" y_Sheets_placementsLeft b_Sheets_placementsLeft 1 (some .int) 0 := ⟨kw_454, kw_3, rfl, by decide, by decide, by decide +kernel⟩
theorem mf_Sheets_isSheet : mf ALLW "SheetTrees$Sheets" y_Sheets_isSheet b_Sheets_isSheet 2 (some .boolean) 1 := ⟨kw_383, kw_3, rfl, by decide, by decide, by decide +kernel⟩
theorem mf_Sheets_isPlacement : mf ALLW "SheetTrees$Sheets" y_Sheets_isPlacement b_Sheets_isPlacement 2 (some .boolean) 1 := ⟨kw_466, kw_3, rfl, by decide, by decide, by decide +kernel⟩
theorem mf_Sheets_sheetOf : mf ALLW "SheetTrees$Sheets" y_Sheets_sheetOf b_Sheets_sheetOf 2 (some .int) 1 := ⟨kw_248, kw_3, rfl, by decide, by decide, by decide +kernel⟩
theorem mf_Sheets_parentOf : mf ALLW "SheetTrees$Sheets" y_Sheets_parentOf b_Sheets_parentOf 2 (some .int) 1 := ⟨kw_470, kw_3, rfl, by decide, by decide, by decide +kernel⟩
theorem mf_Sheets_firstOn : mf ALLW "SheetTrees$Sheets" y_Sheets_firstOn b_Sheets_firstOn 2 (some .int) 1 := ⟨kw_224, kw_3, rfl, by decide, by decide, by decide +kernel⟩
theorem mf_Sheets_nextOf : mf ALLW "SheetTrees$Sheets" y_Sheets_nextOf b_Sheets_nextOf 2 (some .int) 1 := ⟨kw_240, kw_3, rfl, by decide, by decide, by decide +kernel⟩
theorem mf_Sheets_placementsOn : mf ALLW "SheetTrees$Sheets" y_Sheets_placementsOn b_Sheets_placementsOn 4 (some .int) 1 := ⟨kw_656, kw_3, rfl, by decide, by decide, by decide +kernel⟩
theorem mf_Sheets_holds : mf ALLW "SheetTrees$Sheets" y_Sheets_holds b_Sheets_holds 6 (some .boolean) 2 := ⟨kw_458, kw_3, rfl, by decide, by decide, by decide +kernel⟩
theorem mf_Sheets_withPlacedOn : mf ALLW "SheetTrees$Sheets" y_Sheets_withPlacedOn b_Sheets_withPlacedOn 4 (some .int) 1 := ⟨kw_462, kw_3, rfl, by decide, by decide, by decide +kernel⟩
theorem mf_Sheets_addSheet : mf ALLW "SheetTrees$Sheets" y_Sheets_addSheet b_Sheets_addSheet 2 (some .int) 0 := ⟨kw_286, kw_3, rfl, by decide, by decide, by decide +kernel⟩
theorem mf_Sheets_addSheetLike : mf ALLW "SheetTrees$Sheets" y_Sheets_addSheetLike b_Sheets_addSheetLike 5 (some .int) 1 := ⟨kw_676, kw_3, rfl, by decide, by decide, by decide +kernel⟩
theorem mf_Sheets_copyJoints : mf ALLW "SheetTrees$Sheets" y_Sheets_copyJoints b_Sheets_copyJoints 4 (none) 2 := ⟨kw_682, kw_3, rfl, by decide, by decide, by decide +kernel⟩
theorem mf_Sheets_addPlacement : mf ALLW "SheetTrees$Sheets" y_Sheets_addPlacement b_Sheets_addPlacement 4 (some .int) 2 := ⟨kw_475, kw_3, rfl, by decide, by decide, by decide +kernel⟩
theorem mf_Sheets_takeAway : mf ALLW "SheetTrees$Sheets" y_Sheets_takeAway b_Sheets_takeAway 2 (none) 1 := ⟨kw_509, kw_3, rfl, by decide, by decide, by decide +kernel⟩
theorem mf_Sheets_bringTo : mf ALLW "SheetTrees$Sheets" y_Sheets_bringTo b_Sheets_bringTo 6 (some .int) 2 := ⟨kw_526, kw_3, rfl, by decide, by decide, by decide +kernel⟩
theorem mf_Sheets_append : mf ALLW "SheetTrees$Sheets" y_Sheets_append b_Sheets_append 3 (none) 2 := ⟨kw_479, kw_3, rfl, by decide, by decide, by decide +kernel⟩
theorem mf_Sheets_unlink : mf ALLW "SheetTrees$Sheets" y_Sheets_unlink b_Sheets_unlink 2 (none) 1 := ⟨kw_513, kw_3, rfl, by decide, by decide, by decide +kernel⟩
theorem mf_Sheets_cellBefore : mf ALLW "SheetTrees$Sheets" y_Sheets_cellBefore b_Sheets_cellBefore 5 (some .int) 2 := ⟨kw_483, kw_3, rfl, by decide, by decide, by decide +kernel⟩
theorem mf_Sheets_headOf : mf ALLW "SheetTrees$Sheets" y_Sheets_headOf b_Sheets_headOf 2 (some .int) 1 := ⟨kw_228, kw_3, rfl, by decide, by decide, by decide +kernel⟩
theorem mf_Sheets_tells : mf ALLW "SheetTrees$Sheets" y_Sheets_tells b_Sheets_tells 3 (some .boolean) 2 := ⟨kw_534, kw_3, rfl, by decide, by decide, by decide +kernel⟩
theorem mf_Sheets_addName : mf ALLW "SheetTrees$Sheets" y_Sheets_addName b_Sheets_addName 3 (none) 2 := ⟨kw_556, kw_3, rfl, by decide, by decide, by decide +kernel⟩
theorem mf_Sheets_jointOf : mf ALLW "SheetTrees$Sheets" y_Sheets_jointOf b_Sheets_jointOf 3 (some .int) 2 := ⟨kw_530, kw_3, rfl, by decide, by decide, by decide +kernel⟩
theorem mf_Sheets_setJoint : mf ALLW "SheetTrees$Sheets" y_Sheets_setJoint b_Sheets_setJoint 4 (none) 3 := ⟨kw_539, kw_3, rfl, by decide, by decide, by decide +kernel⟩
theorem mf_Variants_init : mf ALLW "SheetTrees$Variants" y_Variants_init b_Variants_init 3 (none) 2 := ⟨kw_166, kw_9, rfl, by decide, by decide, by decide +kernel⟩
theorem mf_Variants_count : mf ALLW "SheetTrees$Variants" y_Variants_count b_Variants_count 1 (some .int) 0 := ⟨kw_726, kw_9, rfl, by decide, by decide, by decide +kernel⟩
theorem mf_Variants_isVariant : mf ALLW "SheetTrees$Variants" y_Variants_isVariant b_Variants_isVariant 2 (some .boolean) 1 := ⟨kw_722, kw_9, rfl, by decide, by decide, by decide +kernel⟩
theorem mf_Variants_addVariant : mf ALLW "SheetTrees$Variants" y_Variants_addVariant b_Variants_addVariant 3 (some .int) 1 := ⟨kw_733, kw_9, rfl, by decide, by decide, by decide +kernel⟩
theorem mf_Variants_content : mf ALLW "SheetTrees$Variants" y_Variants_content b_Variants_content 2 (some .long) 1 := ⟨kw_772, kw_9, rfl, by decide, by decide, by decide +kernel⟩
theorem mf_Variants_tell : mf ALLW "SheetTrees$Variants" y_Variants_tell b_Variants_tell 9 (some .boolean) 5 := ⟨kw_754, kw_9, rfl, by decide, by decide, by decide +kernel⟩
theorem mf_Variants_nearest : mf ALLW "SheetTrees$Variants" y_Variants_nearest b_Variants_nearest 11 (some .int) 4 := ⟨kw_799, kw_9, rfl, by decide, by decide, by decide +kernel⟩
theorem mf_Variants_find : mf ALLW "SheetTrees$Variants" y_Variants_find b_Variants_find 4 (some .int) 2 := ⟨kw_761, kw_9, rfl, by decide, by decide, by decide +kernel⟩
theorem mf_Variants_isAt : mf ALLW "SheetTrees$Variants" y_Variants_isAt b_Variants_isAt 6 (some .boolean) 2 := ⟨kw_765, kw_9, rfl, by decide, by decide, by decide +kernel⟩
theorem mf_Variants_addTelling : mf ALLW "SheetTrees$Variants" y_Variants_addTelling b_Variants_addTelling 6 (some .int) 2 := ⟨kw_777, kw_9, rfl, by decide, by decide, by decide +kernel⟩
theorem mf_Variants_subjectOf : mf ALLW "SheetTrees$Variants" y_Variants_subjectOf b_Variants_subjectOf 3 (some .int) 3 := ⟨kw_757, kw_9, rfl, by decide, by decide, by decide +kernel⟩
theorem mf_Arrays_fillI : mf ALLW "java/util/Arrays" y_Arrays_fillI b_Arrays_fillI 4 (none) 2 := ⟨kw_201, kw_6, rfl, by decide, by decide, by decide +kernel⟩
theorem mf_Arrays_fillL : mf ALLW "java/util/Arrays" y_Arrays_fillL b_Arrays_fillL 5 (none) 2 := ⟨kw_63, kw_6, rfl, by decide, by decide, by decide +kernel⟩
theorem mf_Mo_init : mf ALLW "SheetTreesModel" y_Mo_init b_Mo_init 1 (none) 0 := ⟨kw_877, kw_10, rfl, by decide, by decide, by decide +kernel⟩
theorem mf_Mo_thrown : mf ALLW "SheetTreesModel" y_Mo_thrown b_Mo_thrown 1 (some .int) 0 := ⟨kw_941, kw_10, rfl, by decide, by decide, by decide +kernel⟩
theorem mf_Mo_count : mf ALLW "SheetTreesModel" y_Mo_count b_Mo_count 2 (some .int) 1 := ⟨kw_953, kw_10, rfl, by decide, by decide, by decide +kernel⟩
theorem mf_Mo_begin : mf ALLW "SheetTreesModel" y_Mo_begin b_Mo_begin 2 (none) 0 := ⟨kw_957, kw_10, rfl, by decide, by decide, by decide +kernel⟩
theorem mf_Mo_giveBack : mf ALLW "SheetTreesModel" y_Mo_giveBack b_Mo_giveBack 2 (none) 0 := ⟨kw_998, kw_10, rfl, by decide, by decide, by decide +kernel⟩
theorem mf_Mo_done : mf ALLW "SheetTreesModel" y_Mo_done b_Mo_done 3 (none) 0 := ⟨kw_961, kw_10, rfl, by decide, by decide, by decide +kernel⟩
theorem mf_Mo_undo : mf ALLW "SheetTreesModel" y_Mo_undo b_Mo_undo 3 (some .boolean) 0 := ⟨kw_945, kw_10, rfl, by decide, by decide, by decide +kernel⟩
theorem mf_Mo_isSheet : mf ALLW "SheetTreesModel" y_Mo_isSheet b_Mo_isSheet 2 (some .boolean) 1 := ⟨kw_969, kw_10, rfl, by decide, by decide, by decide +kernel⟩
theorem mf_Mo_isPlacement : mf ALLW "SheetTreesModel" y_Mo_isPlacement b_Mo_isPlacement 2 (some .boolean) 1 := ⟨kw_1006, kw_10, rfl, by decide, by decide, by decide +kernel⟩
theorem mf_Mo_isName : mf ALLW "SheetTreesModel" y_Mo_isName b_Mo_isName 1 (some .boolean) 1 := ⟨kw_1025, kw_10, rfl, by decide, by decide, by decide +kernel⟩
theorem mf_Mo_isPart : mf ALLW "SheetTreesModel" y_Mo_isPart b_Mo_isPart 2 (some .boolean) 1 := ⟨kw_1053, kw_10, rfl, by decide, by decide, by decide +kernel⟩
theorem mf_Mo_isGate : mf ALLW "SheetTreesModel" y_Mo_isGate b_Mo_isGate 3 (some .boolean) 2 := ⟨kw_1049, kw_10, rfl, by decide, by decide, by decide +kernel⟩
theorem mf_Mo_isVariant : mf ALLW "SheetTreesModel" y_Mo_isVariant b_Mo_isVariant 2 (some .boolean) 1 := ⟨kw_1089, kw_10, rfl, by decide, by decide, by decide +kernel⟩
theorem mf_Mo_hasName : mf ALLW "SheetTreesModel" y_Mo_hasName b_Mo_hasName 4 (some .boolean) 2 := ⟨kw_1014, kw_10, rfl, by decide, by decide, by decide +kernel⟩
theorem mf_Mo_next : mf ALLW "SheetTreesModel" y_Mo_next b_Mo_next 6 (some .int) 2 := ⟨kw_994, kw_10, rfl, by decide, by decide, by decide +kernel⟩
theorem mf_Mo_addPage : mf ALLW "SheetTreesModel" y_Mo_addPage b_Mo_addPage 5 (none) 4 := ⟨kw_989, kw_10, rfl, by decide, by decide, by decide +kernel⟩
theorem mf_Mo_turn : mf ALLW "SheetTreesModel" y_Mo_turn b_Mo_turn 4 (none) 0 := ⟨kw_985, kw_10, rfl, by decide, by decide, by decide +kernel⟩
theorem mf_Mo_look : mf ALLW "SheetTreesModel" y_Mo_look b_Mo_look 1 (none) 0 := ⟨kw_1105, kw_10, rfl, by decide, by decide, by decide +kernel⟩
theorem mf_Mo_isPage : mf ALLW "SheetTreesModel" y_Mo_isPage b_Mo_isPage 2 (some .boolean) 1 := ⟨kw_1101, kw_10, rfl, by decide, by decide, by decide +kernel⟩
theorem mf_Mo_liesIn : mf ALLW "SheetTreesModel" y_Mo_liesIn b_Mo_liesIn 6 (some .boolean) 2 := ⟨kw_973, kw_10, rfl, by decide, by decide, by decide +kernel⟩
theorem mf_Mo_hasRoom : mf ALLW "SheetTreesModel" y_Mo_hasRoom b_Mo_hasRoom 2 (some .boolean) 0 := ⟨kw_981, kw_10, rfl, by decide, by decide, by decide +kernel⟩
theorem mf_Mo_sheet : mf ALLW "SheetTreesModel" y_Mo_sheet b_Mo_sheet 2 (some .int) 0 := ⟨kw_949, kw_10, rfl, by decide, by decide, by decide +kernel⟩
theorem mf_Mo_addPlacement : mf ALLW "SheetTreesModel" y_Mo_addPlacement b_Mo_addPlacement 5 (some .int) 2 := ⟨kw_977, kw_10, rfl, by decide, by decide, by decide +kernel⟩
theorem mf_Mo_place : mf ALLW "SheetTreesModel" y_Mo_place b_Mo_place 4 (some .int) 2 := ⟨kw_965, kw_10, rfl, by decide, by decide, by decide +kernel⟩
theorem mf_Mo_remove : mf ALLW "SheetTreesModel" y_Mo_remove b_Mo_remove 3 (some .boolean) 1 := ⟨kw_1002, kw_10, rfl, by decide, by decide, by decide +kernel⟩
theorem mf_Mo_move : mf ALLW "SheetTreesModel" y_Mo_move b_Mo_move 7 (some .boolean) 2 := ⟨kw_1010, kw_10, rfl, by decide, by decide, by decide +kernel⟩
theorem mf_Mo_told : mf ALLW "SheetTreesModel" y_Mo_told b_Mo_told 4 (some .int) 1 := ⟨kw_1018, kw_10, rfl, by decide, by decide, by decide +kernel⟩
theorem mf_Mo_port : mf ALLW "SheetTreesModel" y_Mo_port b_Mo_port 3 (some .boolean) 2 := ⟨kw_1022, kw_10, rfl, by decide, by decide, by decide +kernel⟩
theorem mf_Mo_join : mf ALLW "SheetTreesModel" y_Mo_join b_Mo_join 6 (some .boolean) 3 := ⟨kw_1029, kw_10, rfl, by decide, by decide, by decide +kernel⟩
theorem mf_Mo_joined : mf ALLW "SheetTreesModel" y_Mo_joined b_Mo_joined 3 (some .int) 2 := ⟨kw_1033, kw_10, rfl, by decide, by decide, by decide +kernel⟩
theorem mf_Mo_addPart : mf ALLW "SheetTreesModel" y_Mo_addPart b_Mo_addPart 7 (some .int) 2 := ⟨kw_1041, kw_10, rfl, by decide, by decide, by decide +kernel⟩
theorem mf_Mo_part : mf ALLW "SheetTreesModel" y_Mo_part b_Mo_part 4 (some .int) 2 := ⟨kw_1037, kw_10, rfl, by decide, by decide, by decide +kernel⟩
theorem mf_Mo_gatesOn : mf ALLW "SheetTreesModel" y_Mo_gatesOn b_Mo_gatesOn 4 (some .int) 1 := ⟨kw_1057, kw_10, rfl, by decide, by decide, by decide +kernel⟩
theorem mf_Mo_putGate : mf ALLW "SheetTreesModel" y_Mo_putGate b_Mo_putGate 3 (none) 2 := ⟨kw_1061, kw_10, rfl, by decide, by decide, by decide +kernel⟩
theorem mf_Mo_gate : mf ALLW "SheetTreesModel" y_Mo_gate b_Mo_gate 4 (some .boolean) 3 := ⟨kw_1045, kw_10, rfl, by decide, by decide, by decide +kernel⟩
theorem mf_Mo_nextGate : mf ALLW "SheetTreesModel" y_Mo_nextGate b_Mo_nextGate 6 (some .int) 2 := ⟨kw_1077, kw_10, rfl, by decide, by decide, by decide +kernel⟩
theorem mf_Mo_partsOn : mf ALLW "SheetTreesModel" y_Mo_partsOn b_Mo_partsOn 6 (some .int) 1 := ⟨kw_1073, kw_10, rfl, by decide, by decide, by decide +kernel⟩
theorem mf_Mo_placementsOn : mf ALLW "SheetTreesModel" y_Mo_placementsOn b_Mo_placementsOn 4 (some .int) 1 := ⟨kw_1069, kw_10, rfl, by decide, by decide, by decide +kernel⟩
theorem mf_Mo_copy : mf ALLW "SheetTreesModel" y_Mo_copy b_Mo_copy 6 (some .int) 1 := ⟨kw_1065, kw_10, rfl, by decide, by decide, by decide +kernel⟩
theorem mf_Mo_rule : mf ALLW "SheetTreesModel" y_Mo_rule b_Mo_rule 2 (some .boolean) 1 := ⟨kw_1081, kw_10, rfl, by decide, by decide, by decide +kernel⟩
theorem mf_Mo_variant : mf ALLW "SheetTreesModel" y_Mo_variant b_Mo_variant 3 (some .int) 1 := ⟨kw_1085, kw_10, rfl, by decide, by decide, by decide +kernel⟩
theorem mf_Mo_pathOf : mf ALLW "SheetTreesModel" y_Mo_pathOf b_Mo_pathOf 5 (some .int) 1 := ⟨kw_1109, kw_10, rfl, by decide, by decide, by decide +kernel⟩
theorem mf_Mo_find : mf ALLW "SheetTreesModel" y_Mo_find b_Mo_find 9 (some .int) 4 := ⟨kw_1113, kw_10, rfl, by decide, by decide, by decide +kernel⟩
theorem mf_Mo_tell : mf ALLW "SheetTreesModel" y_Mo_tell b_Mo_tell 10 (some .boolean) 5 := ⟨kw_1097, kw_10, rfl, by decide, by decide, by decide +kernel⟩
theorem mf_Mo_value : mf ALLW "SheetTreesModel" y_Mo_value b_Mo_value 6 (some .boolean) 4 := ⟨kw_1093, kw_10, rfl, by decide, by decide, by decide +kernel⟩
theorem mf_Mo_fit : mf ALLW "SheetTreesModel" y_Mo_fit b_Mo_fit 5 (some .boolean) 4 := ⟨kw_1117, kw_10, rfl, by decide, by decide, by decide +kernel⟩
theorem mf_Mo_ask : mf ALLW "SheetTreesModel" y_Mo_ask b_Mo_ask 9 (some .long) 4 := ⟨kw_1125, kw_10, rfl, by decide, by decide, by decide +kernel⟩
theorem mf_Mo_valueOf : mf ALLW "SheetTreesModel" y_Mo_valueOf b_Mo_valueOf 4 (some .long) 3 := ⟨kw_1121, kw_10, rfl, by decide, by decide, by decide +kernel⟩
theorem mf_Mo_fitted : mf ALLW "SheetTreesModel" y_Mo_fitted b_Mo_fitted 4 (some .boolean) 3 := ⟨kw_1129, kw_10, rfl, by decide, by decide, by decide +kernel⟩
theorem mf_Mo_pages : mf ALLW "SheetTreesModel" y_Mo_pages b_Mo_pages 1 (some .int) 0 := ⟨kw_1133, kw_10, rfl, by decide, by decide, by decide +kernel⟩
theorem mf_Mo_page : mf ALLW "SheetTreesModel" y_Mo_page b_Mo_page 3 (some .int) 2 := ⟨kw_1137, kw_10, rfl, by decide, by decide, by decide +kernel⟩
theorem mf_Mo_pageOf : mf ALLW "SheetTreesModel" y_Mo_pageOf b_Mo_pageOf 6 (some .int) 2 := ⟨kw_1153, kw_10, rfl, by decide, by decide, by decide +kernel⟩
theorem mf_Mo_unitsOf : mf ALLW "SheetTreesModel" y_Mo_unitsOf b_Mo_unitsOf 6 (some .int) 1 := ⟨kw_1145, kw_10, rfl, by decide, by decide, by decide +kernel⟩
theorem mf_Mo_units : mf ALLW "SheetTreesModel" y_Mo_units b_Mo_units 2 (some .int) 1 := ⟨kw_1141, kw_10, rfl, by decide, by decide, by decide +kernel⟩
theorem mf_Mo_where : mf ALLW "SheetTreesModel" y_Mo_where b_Mo_where 4 (some .int) 3 := ⟨kw_1149, kw_10, rfl, by decide, by decide, by decide +kernel⟩
theorem mf_Mo_first : mf ALLW "SheetTreesModel" y_Mo_first b_Mo_first 8 (none) 2 := ⟨kw_1161, kw_10, rfl, by decide, by decide, by decide +kernel⟩
theorem mf_Mo_name : mf ALLW "SheetTreesModel" y_Mo_name b_Mo_name 11 (some .int) 2 := ⟨kw_1157, kw_10, rfl, by decide, by decide, by decide +kernel⟩
end
section
theorem d_ST_init_0 : decode b_ST_init 0 = .ok (.aload_n 0, 1) := by decide +kernel
theorem d_ST_init_1 : decode b_ST_init 1 = .ok (.invokespecial 3, 3) := by decide +kernel
theorem d_ST_init_4 : decode b_ST_init 4 = .ok (.aload_n 0, 1) := by decide +kernel
theorem d_ST_init_5 : decode b_ST_init 5 = .ok (.new 9, 3) := by decide +kernel
theorem d_ST_init_8 : decode b_ST_init 8 = .ok (.dup, 1) := by decide +kernel
theorem d_ST_init_9 : decode b_ST_init 9 = .ok (.invokespecial 11, 3) := by decide +kernel
theorem d_ST_init_12 : decode b_ST_init 12 = .ok (.putfield 12, 3) := by decide +kernel
theorem d_ST_init_15 : decode b_ST_init 15 = .ok (.aload_n 0, 1) := by decide +kernel
theorem d_ST_init_16 : decode b_ST_init 16 = .ok (.new 16, 3) := by decide +kernel
theorem d_ST_init_19 : decode b_ST_init 19 = .ok (.dup, 1) := by decide +kernel
theorem d_ST_init_20 : decode b_ST_init 20 = .ok (.aload_n 0, 1) := by decide +kernel
theorem d_ST_init_21 : decode b_ST_init 21 = .ok (.getfield 12, 3) := by decide +kernel
theorem d_ST_init_24 : decode b_ST_init 24 = .ok (.invokespecial 18, 3) := by decide +kernel
theorem d_ST_init_27 : decode b_ST_init 27 = .ok (.putfield 21, 3) := by decide +kernel
theorem d_ST_init_30 : decode b_ST_init 30 = .ok (.aload_n 0, 1) := by decide +kernel
theorem d_ST_init_31 : decode b_ST_init 31 = .ok (.new 25, 3) := by decide +kernel
theorem d_ST_init_34 : decode b_ST_init 34 = .ok (.dup, 1) := by decide +kernel
theorem d_ST_init_35 : decode b_ST_init 35 = .ok (.aload_n 0, 1) := by decide +kernel
theorem d_ST_init_36 : decode b_ST_init 36 = .ok (.getfield 21, 3) := by decide +kernel
theorem d_ST_init_39 : decode b_ST_init 39 = .ok (.invokespecial 27, 3) := by decide +kernel
theorem d_ST_init_42 : decode b_ST_init 42 = .ok (.putfield 30, 3) := by decide +kernel
theorem d_ST_init_45 : decode b_ST_init 45 = .ok (.aload_n 0, 1) := by decide +kernel
theorem d_ST_init_46 : decode b_ST_init 46 = .ok (.new 34, 3) := by decide +kernel
theorem d_ST_init_49 : decode b_ST_init 49 = .ok (.dup, 1) := by decide +kernel
theorem d_ST_init_50 : decode b_ST_init 50 = .ok (.aload_n 0, 1) := by decide +kernel
theorem d_ST_init_51 : decode b_ST_init 51 = .ok (.getfield 12, 3) := by decide +kernel
theorem d_ST_init_54 : decode b_ST_init 54 = .ok (.aload_n 0, 1) := by decide +kernel
theorem d_ST_init_55 : decode b_ST_init 55 = .ok (.getfield 30, 3) := by decide +kernel
theorem d_ST_init_58 : decode b_ST_init 58 = .ok (.invokespecial 36, 3) := by decide +kernel
theorem d_ST_init_61 : decode b_ST_init 61 = .ok (.putfield 39, 3) := by decide +kernel
theorem d_ST_init_64 : decode b_ST_init 64 = .ok (.aload_n 0, 1) := by decide +kernel
theorem d_ST_init_65 : decode b_ST_init 65 = .ok (.new 43, 3) := by decide +kernel
theorem d_ST_init_68 : decode b_ST_init 68 = .ok (.dup, 1) := by decide +kernel
theorem d_ST_init_69 : decode b_ST_init 69 = .ok (.aload_n 0, 1) := by decide +kernel
theorem d_ST_init_70 : decode b_ST_init 70 = .ok (.getfield 12, 3) := by decide +kernel
theorem d_ST_init_73 : decode b_ST_init 73 = .ok (.aload_n 0, 1) := by decide +kernel
theorem d_ST_init_74 : decode b_ST_init 74 = .ok (.getfield 30, 3) := by decide +kernel
theorem d_ST_init_77 : decode b_ST_init 77 = .ok (.invokespecial 45, 3) := by decide +kernel
theorem d_ST_init_80 : decode b_ST_init 80 = .ok (.putfield 46, 3) := by decide +kernel
theorem d_ST_init_83 : decode b_ST_init 83 = .ok (.aload_n 0, 1) := by decide +kernel
theorem d_ST_init_84 : decode b_ST_init 84 = .ok (.new 50, 3) := by decide +kernel
theorem d_ST_init_87 : decode b_ST_init 87 = .ok (.dup, 1) := by decide +kernel
theorem d_ST_init_88 : decode b_ST_init 88 = .ok (.aload_n 0, 1) := by decide +kernel
theorem d_ST_init_89 : decode b_ST_init 89 = .ok (.getfield 12, 3) := by decide +kernel
theorem d_ST_init_92 : decode b_ST_init 92 = .ok (.iconst 1, 1) := by decide +kernel
theorem d_ST_init_93 : decode b_ST_init 93 = .ok (.lconst 0, 1) := by decide +kernel
theorem d_ST_init_94 : decode b_ST_init 94 = .ok (.invokespecial 52, 3) := by decide +kernel
theorem d_ST_init_97 : decode b_ST_init 97 = .ok (.putfield 55, 3) := by decide +kernel
theorem d_ST_init_100 : decode b_ST_init 100 = .ok (.aload_n 0, 1) := by decide +kernel
theorem d_ST_init_101 : decode b_ST_init 101 = .ok (.iconst 0, 1) := by decide +kernel
theorem d_ST_init_102 : decode b_ST_init 102 = .ok (.putfield 59, 3) := by decide +kernel
theorem d_ST_init_105 : decode b_ST_init 105 = .ok (.aload_n 0, 1) := by decide +kernel
theorem d_ST_init_106 : decode b_ST_init 106 = .ok (.getfield 30, 3) := by decide +kernel
theorem d_ST_init_109 : decode b_ST_init 109 = .ok (.invokevirtual 63, 3) := by decide +kernel
theorem d_ST_init_112 : decode b_ST_init 112 = .ok (.return_, 1) := by decide +kernel
theorem d_ST_sheet_0 : decode b_ST_sheet 0 = .ok (.aload_n 0, 1) := by decide +kernel
theorem d_ST_sheet_1 : decode b_ST_sheet 1 = .ok (.getfield 21, 3) := by decide +kernel
theorem d_ST_sheet_4 : decode b_ST_sheet 4 = .ok (.invokevirtual 66, 3) := by decide +kernel
theorem d_ST_sheet_7 : decode b_ST_sheet 7 = .ok (.bipush 24, 2) := by decide +kernel
theorem d_ST_sheet_9 : decode b_ST_sheet 9 = .ok (.if_icmp .lt 5, 3) := by decide +kernel
theorem d_ST_sheet_12 : decode b_ST_sheet 12 = .ok (.iconst (-1), 1) := by decide +kernel
theorem d_ST_sheet_13 : decode b_ST_sheet 13 = .ok (.ireturn, 1) := by decide +kernel
theorem d_ST_sheet_14 : decode b_ST_sheet 14 = .ok (.aload_n 0, 1) := by decide +kernel
theorem d_ST_sheet_15 : decode b_ST_sheet 15 = .ok (.getfield 21, 3) := by decide +kernel
theorem d_ST_sheet_18 : decode b_ST_sheet 18 = .ok (.invokevirtual 70, 3) := by decide +kernel
theorem d_ST_sheet_21 : decode b_ST_sheet 21 = .ok (.istore_n 1, 1) := by decide +kernel
theorem d_ST_sheet_22 : decode b_ST_sheet 22 = .ok (.aload_n 0, 1) := by decide +kernel
theorem d_ST_sheet_23 : decode b_ST_sheet 23 = .ok (.getfield 12, 3) := by decide +kernel
theorem d_ST_sheet_26 : decode b_ST_sheet 26 = .ok (.invokevirtual 73, 3) := by decide +kernel
theorem d_ST_sheet_29 : decode b_ST_sheet 29 = .ok (.iload_n 1, 1) := by decide +kernel
theorem d_ST_sheet_30 : decode b_ST_sheet 30 = .ok (.ireturn, 1) := by decide +kernel
theorem d_ST_place_0 : decode b_ST_place 0 = .ok (.aload_n 0, 1) := by decide +kernel
theorem d_ST_place_1 : decode b_ST_place 1 = .ok (.iload_n 1, 1) := by decide +kernel
theorem d_ST_place_2 : decode b_ST_place 2 = .ok (.invokevirtual 76, 3) := by decide +kernel
theorem d_ST_place_5 : decode b_ST_place 5 = .ok (.aload_n 0, 1) := by decide +kernel
theorem d_ST_place_6 : decode b_ST_place 6 = .ok (.iload_n 2, 1) := by decide +kernel
theorem d_ST_place_7 : decode b_ST_place 7 = .ok (.invokevirtual 76, 3) := by decide +kernel
theorem d_ST_place_10 : decode b_ST_place 10 = .ok (.aload_n 0, 1) := by decide +kernel
theorem d_ST_place_11 : decode b_ST_place 11 = .ok (.getfield 21, 3) := by decide +kernel
theorem d_ST_place_14 : decode b_ST_place 14 = .ok (.invokevirtual 80, 3) := by decide +kernel
theorem d_ST_place_17 : decode b_ST_place 17 = .ok (.iconst 1, 1) := by decide +kernel
theorem d_ST_place_18 : decode b_ST_place 18 = .ok (.if_icmp .lt 15, 3) := by decide +kernel
theorem d_ST_place_21 : decode b_ST_place 21 = .ok (.aload_n 0, 1) := by decide +kernel
theorem d_ST_place_22 : decode b_ST_place 22 = .ok (.getfield 21, 3) := by decide +kernel
theorem d_ST_place_25 : decode b_ST_place 25 = .ok (.iload_n 2, 1) := by decide +kernel
theorem d_ST_place_26 : decode b_ST_place 26 = .ok (.iload_n 1, 1) := by decide +kernel
theorem d_ST_place_27 : decode b_ST_place 27 = .ok (.invokevirtual 83, 3) := by decide +kernel
theorem d_ST_place_30 : decode b_ST_place 30 = .ok (.ifCond .eq 5, 3) := by decide +kernel
theorem d_ST_place_33 : decode b_ST_place 33 = .ok (.iconst (-1), 1) := by decide +kernel
theorem d_ST_place_34 : decode b_ST_place 34 = .ok (.ireturn, 1) := by decide +kernel
theorem d_ST_place_35 : decode b_ST_place 35 = .ok (.aload_n 0, 1) := by decide +kernel
theorem d_ST_place_36 : decode b_ST_place 36 = .ok (.getfield 21, 3) := by decide +kernel
theorem d_ST_place_39 : decode b_ST_place 39 = .ok (.iload_n 1, 1) := by decide +kernel
theorem d_ST_place_40 : decode b_ST_place 40 = .ok (.iload_n 2, 1) := by decide +kernel
theorem d_ST_place_41 : decode b_ST_place 41 = .ok (.invokevirtual 87, 3) := by decide +kernel
theorem d_ST_place_44 : decode b_ST_place 44 = .ok (.istore_n 3, 1) := by decide +kernel
theorem d_ST_place_45 : decode b_ST_place 45 = .ok (.aload_n 0, 1) := by decide +kernel
theorem d_ST_place_46 : decode b_ST_place 46 = .ok (.invokevirtual 91, 3) := by decide +kernel
theorem d_ST_place_49 : decode b_ST_place 49 = .ok (.ifCond .eq 7, 3) := by decide +kernel
theorem d_ST_place_52 : decode b_ST_place 52 = .ok (.iload_n 3, 1) := by decide +kernel
theorem d_ST_place_53 : decode b_ST_place 53 = .ok (.goto 4, 3) := by decide +kernel
theorem d_ST_place_56 : decode b_ST_place 56 = .ok (.iconst (-1), 1) := by decide +kernel
theorem d_ST_place_57 : decode b_ST_place 57 = .ok (.ireturn, 1) := by decide +kernel
theorem d_ST_remove_0 : decode b_ST_remove 0 = .ok (.aload_n 0, 1) := by decide +kernel
theorem d_ST_remove_1 : decode b_ST_remove 1 = .ok (.iload_n 1, 1) := by decide +kernel
theorem d_ST_remove_2 : decode b_ST_remove 2 = .ok (.invokevirtual 95, 3) := by decide +kernel
theorem d_ST_remove_5 : decode b_ST_remove 5 = .ok (.aload_n 0, 1) := by decide +kernel
theorem d_ST_remove_6 : decode b_ST_remove 6 = .ok (.getfield 21, 3) := by decide +kernel
theorem d_ST_remove_9 : decode b_ST_remove 9 = .ok (.iload_n 1, 1) := by decide +kernel
theorem d_ST_remove_10 : decode b_ST_remove 10 = .ok (.invokevirtual 98, 3) := by decide +kernel
theorem d_ST_remove_13 : decode b_ST_remove 13 = .ok (.aload_n 0, 1) := by decide +kernel
theorem d_ST_remove_14 : decode b_ST_remove 14 = .ok (.invokevirtual 91, 3) := by decide +kernel
theorem d_ST_remove_17 : decode b_ST_remove 17 = .ok (.ireturn, 1) := by decide +kernel
theorem d_ST_move_0 : decode b_ST_move 0 = .ok (.aload_n 0, 1) := by decide +kernel
theorem d_ST_move_1 : decode b_ST_move 1 = .ok (.iload_n 1, 1) := by decide +kernel
theorem d_ST_move_2 : decode b_ST_move 2 = .ok (.invokevirtual 95, 3) := by decide +kernel
theorem d_ST_move_5 : decode b_ST_move 5 = .ok (.aload_n 0, 1) := by decide +kernel
theorem d_ST_move_6 : decode b_ST_move 6 = .ok (.iload_n 2, 1) := by decide +kernel
theorem d_ST_move_7 : decode b_ST_move 7 = .ok (.invokevirtual 76, 3) := by decide +kernel
theorem d_ST_move_10 : decode b_ST_move 10 = .ok (.aload_n 0, 1) := by decide +kernel
theorem d_ST_move_11 : decode b_ST_move 11 = .ok (.getfield 21, 3) := by decide +kernel
theorem d_ST_move_14 : decode b_ST_move 14 = .ok (.aload_n 0, 1) := by decide +kernel
theorem d_ST_move_15 : decode b_ST_move 15 = .ok (.getfield 21, 3) := by decide +kernel
theorem d_ST_move_18 : decode b_ST_move 18 = .ok (.iload_n 1, 1) := by decide +kernel
theorem d_ST_move_19 : decode b_ST_move 19 = .ok (.invokevirtual 101, 3) := by decide +kernel
theorem d_ST_move_22 : decode b_ST_move 22 = .ok (.iload_n 2, 1) := by decide +kernel
theorem d_ST_move_23 : decode b_ST_move 23 = .ok (.invokevirtual 83, 3) := by decide +kernel
theorem d_ST_move_26 : decode b_ST_move 26 = .ok (.ifCond .eq 5, 3) := by decide +kernel
theorem d_ST_move_29 : decode b_ST_move 29 = .ok (.iconst 0, 1) := by decide +kernel
theorem d_ST_move_30 : decode b_ST_move 30 = .ok (.ireturn, 1) := by decide +kernel
theorem d_ST_move_31 : decode b_ST_move 31 = .ok (.aload_n 0, 1) := by decide +kernel
theorem d_ST_move_32 : decode b_ST_move 32 = .ok (.getfield 21, 3) := by decide +kernel
theorem d_ST_move_35 : decode b_ST_move 35 = .ok (.iload_n 1, 1) := by decide +kernel
theorem d_ST_move_36 : decode b_ST_move 36 = .ok (.iload_n 2, 1) := by decide +kernel
theorem d_ST_move_37 : decode b_ST_move 37 = .ok (.invokevirtual 105, 3) := by decide +kernel
theorem d_ST_move_40 : decode b_ST_move 40 = .ok (.istore_n 3, 1) := by decide +kernel
theorem d_ST_move_41 : decode b_ST_move 41 = .ok (.aload_n 0, 1) := by decide +kernel
theorem d_ST_move_42 : decode b_ST_move 42 = .ok (.invokevirtual 91, 3) := by decide +kernel
theorem d_ST_move_45 : decode b_ST_move 45 = .ok (.ifCond .ne 5, 3) := by decide +kernel
theorem d_ST_move_48 : decode b_ST_move 48 = .ok (.iconst 0, 1) := by decide +kernel
theorem d_ST_move_49 : decode b_ST_move 49 = .ok (.ireturn, 1) := by decide +kernel
theorem d_ST_move_50 : decode b_ST_move 50 = .ok (.aload_n 0, 1) := by decide +kernel
theorem d_ST_move_51 : decode b_ST_move 51 = .ok (.iload_n 3, 1) := by decide +kernel
theorem d_ST_move_52 : decode b_ST_move 52 = .ok (.putfield 59, 3) := by decide +kernel
theorem d_ST_move_55 : decode b_ST_move 55 = .ok (.iconst 1, 1) := by decide +kernel
theorem d_ST_move_56 : decode b_ST_move 56 = .ok (.ireturn, 1) := by decide +kernel
theorem d_ST_told_0 : decode b_ST_told 0 = .ok (.iload_n 1, 1) := by decide +kernel
theorem d_ST_told_1 : decode b_ST_told 1 = .ok (.istore_n 2, 1) := by decide +kernel
theorem d_ST_told_2 : decode b_ST_told 2 = .ok (.iconst 0, 1) := by decide +kernel
theorem d_ST_told_3 : decode b_ST_told 3 = .ok (.istore_n 3, 1) := by decide +kernel
theorem d_ST_told_4 : decode b_ST_told 4 = .ok (.iload_n 3, 1) := by decide +kernel
theorem d_ST_told_5 : decode b_ST_told 5 = .ok (.bipush 32, 2) := by decide +kernel
theorem d_ST_told_7 : decode b_ST_told 7 = .ok (.if_icmp .ge 33, 3) := by decide +kernel
theorem d_ST_told_10 : decode b_ST_told 10 = .ok (.iload_n 2, 1) := by decide +kernel
theorem d_ST_told_11 : decode b_ST_told 11 = .ok (.ifCond .lt 29, 3) := by decide +kernel
theorem d_ST_told_14 : decode b_ST_told 14 = .ok (.aload_n 0, 1) := by decide +kernel
theorem d_ST_told_15 : decode b_ST_told 15 = .ok (.getfield 59, 3) := by decide +kernel
theorem d_ST_told_18 : decode b_ST_told 18 = .ok (.iload_n 3, 1) := by decide +kernel
theorem d_ST_told_19 : decode b_ST_told 19 = .ok (.invokestatic 108, 3) := by decide +kernel
theorem d_ST_told_22 : decode b_ST_told 22 = .ok (.ifCond .eq 12, 3) := by decide +kernel
theorem d_ST_told_25 : decode b_ST_told 25 = .ok (.iload_n 2, 1) := by decide +kernel
theorem d_ST_told_26 : decode b_ST_told 26 = .ok (.ifCond .ne 5, 3) := by decide +kernel
theorem d_ST_told_29 : decode b_ST_told 29 = .ok (.iload_n 3, 1) := by decide +kernel
theorem d_ST_told_30 : decode b_ST_told 30 = .ok (.ireturn, 1) := by decide +kernel
theorem d_ST_told_31 : decode b_ST_told 31 = .ok (.iinc 2 (-1), 3) := by decide +kernel
theorem d_ST_told_34 : decode b_ST_told 34 = .ok (.iinc 3 1, 3) := by decide +kernel
theorem d_ST_told_37 : decode b_ST_told 37 = .ok (.goto (-33), 3) := by decide +kernel
theorem d_ST_told_40 : decode b_ST_told 40 = .ok (.iconst (-1), 1) := by decide +kernel
theorem d_ST_told_41 : decode b_ST_told 41 = .ok (.ireturn, 1) := by decide +kernel
theorem d_ST_port_0 : decode b_ST_port 0 = .ok (.aload_n 0, 1) := by decide +kernel
theorem d_ST_port_1 : decode b_ST_port 1 = .ok (.iload_n 1, 1) := by decide +kernel
theorem d_ST_port_2 : decode b_ST_port 2 = .ok (.invokevirtual 76, 3) := by decide +kernel
theorem d_ST_port_5 : decode b_ST_port 5 = .ok (.aload_n 0, 1) := by decide +kernel
theorem d_ST_port_6 : decode b_ST_port 6 = .ok (.iload_n 2, 1) := by decide +kernel
theorem d_ST_port_7 : decode b_ST_port 7 = .ok (.invokevirtual 111, 3) := by decide +kernel
theorem d_ST_port_10 : decode b_ST_port 10 = .ok (.aload_n 0, 1) := by decide +kernel
theorem d_ST_port_11 : decode b_ST_port 11 = .ok (.getfield 21, 3) := by decide +kernel
theorem d_ST_port_14 : decode b_ST_port 14 = .ok (.iload_n 1, 1) := by decide +kernel
theorem d_ST_port_15 : decode b_ST_port 15 = .ok (.iload_n 2, 1) := by decide +kernel
theorem d_ST_port_16 : decode b_ST_port 16 = .ok (.invokevirtual 114, 3) := by decide +kernel
theorem d_ST_port_19 : decode b_ST_port 19 = .ok (.ifCond .eq 5, 3) := by decide +kernel
theorem d_ST_port_22 : decode b_ST_port 22 = .ok (.iconst 0, 1) := by decide +kernel
theorem d_ST_port_23 : decode b_ST_port 23 = .ok (.ireturn, 1) := by decide +kernel
theorem d_ST_port_24 : decode b_ST_port 24 = .ok (.aload_n 0, 1) := by decide +kernel
theorem d_ST_port_25 : decode b_ST_port 25 = .ok (.getfield 21, 3) := by decide +kernel
theorem d_ST_port_28 : decode b_ST_port 28 = .ok (.iload_n 1, 1) := by decide +kernel
theorem d_ST_port_29 : decode b_ST_port 29 = .ok (.iload_n 2, 1) := by decide +kernel
theorem d_ST_port_30 : decode b_ST_port 30 = .ok (.invokevirtual 117, 3) := by decide +kernel
theorem d_ST_port_33 : decode b_ST_port 33 = .ok (.aload_n 0, 1) := by decide +kernel
theorem d_ST_port_34 : decode b_ST_port 34 = .ok (.getfield 12, 3) := by decide +kernel
theorem d_ST_port_37 : decode b_ST_port 37 = .ok (.invokevirtual 73, 3) := by decide +kernel
theorem d_ST_port_40 : decode b_ST_port 40 = .ok (.iconst 1, 1) := by decide +kernel
theorem d_ST_port_41 : decode b_ST_port 41 = .ok (.ireturn, 1) := by decide +kernel
theorem d_ST_join_0 : decode b_ST_join 0 = .ok (.aload_n 0, 1) := by decide +kernel
theorem d_ST_join_1 : decode b_ST_join 1 = .ok (.iload_n 1, 1) := by decide +kernel
theorem d_ST_join_2 : decode b_ST_join 2 = .ok (.invokevirtual 95, 3) := by decide +kernel
theorem d_ST_join_5 : decode b_ST_join 5 = .ok (.aload_n 0, 1) := by decide +kernel
theorem d_ST_join_6 : decode b_ST_join 6 = .ok (.iload_n 2, 1) := by decide +kernel
theorem d_ST_join_7 : decode b_ST_join 7 = .ok (.invokevirtual 111, 3) := by decide +kernel
theorem d_ST_join_10 : decode b_ST_join 10 = .ok (.aload_n 0, 1) := by decide +kernel
theorem d_ST_join_11 : decode b_ST_join 11 = .ok (.iload_n 3, 1) := by decide +kernel
theorem d_ST_join_12 : decode b_ST_join 12 = .ok (.invokevirtual 111, 3) := by decide +kernel
theorem d_ST_join_15 : decode b_ST_join 15 = .ok (.aload_n 0, 1) := by decide +kernel
theorem d_ST_join_16 : decode b_ST_join 16 = .ok (.getfield 21, 3) := by decide +kernel
theorem d_ST_join_19 : decode b_ST_join 19 = .ok (.aload_n 0, 1) := by decide +kernel
theorem d_ST_join_20 : decode b_ST_join 20 = .ok (.getfield 21, 3) := by decide +kernel
theorem d_ST_join_23 : decode b_ST_join 23 = .ok (.iload_n 1, 1) := by decide +kernel
theorem d_ST_join_24 : decode b_ST_join 24 = .ok (.invokevirtual 101, 3) := by decide +kernel
theorem d_ST_join_27 : decode b_ST_join 27 = .ok (.iload_n 2, 1) := by decide +kernel
theorem d_ST_join_28 : decode b_ST_join 28 = .ok (.invokevirtual 114, 3) := by decide +kernel
theorem d_ST_join_31 : decode b_ST_join 31 = .ok (.ifCond .eq 35, 3) := by decide +kernel
theorem d_ST_join_34 : decode b_ST_join 34 = .ok (.aload_n 0, 1) := by decide +kernel
theorem d_ST_join_35 : decode b_ST_join 35 = .ok (.getfield 21, 3) := by decide +kernel
theorem d_ST_join_38 : decode b_ST_join 38 = .ok (.aload_n 0, 1) := by decide +kernel
theorem d_ST_join_39 : decode b_ST_join 39 = .ok (.getfield 21, 3) := by decide +kernel
theorem d_ST_join_42 : decode b_ST_join 42 = .ok (.iload_n 1, 1) := by decide +kernel
theorem d_ST_join_43 : decode b_ST_join 43 = .ok (.invokevirtual 121, 3) := by decide +kernel
theorem d_ST_join_46 : decode b_ST_join 46 = .ok (.iload_n 3, 1) := by decide +kernel
theorem d_ST_join_47 : decode b_ST_join 47 = .ok (.invokevirtual 114, 3) := by decide +kernel
theorem d_ST_join_50 : decode b_ST_join 50 = .ok (.ifCond .eq 16, 3) := by decide +kernel
theorem d_ST_join_53 : decode b_ST_join 53 = .ok (.aload_n 0, 1) := by decide +kernel
theorem d_ST_join_54 : decode b_ST_join 54 = .ok (.getfield 21, 3) := by decide +kernel
theorem d_ST_join_57 : decode b_ST_join 57 = .ok (.iload_n 1, 1) := by decide +kernel
theorem d_ST_join_58 : decode b_ST_join 58 = .ok (.iload_n 2, 1) := by decide +kernel
theorem d_ST_join_59 : decode b_ST_join 59 = .ok (.invokevirtual 124, 3) := by decide +kernel
theorem d_ST_join_62 : decode b_ST_join 62 = .ok (.iload_n 3, 1) := by decide +kernel
theorem d_ST_join_63 : decode b_ST_join 63 = .ok (.if_icmp .ne 5, 3) := by decide +kernel
theorem d_ST_join_66 : decode b_ST_join 66 = .ok (.iconst 0, 1) := by decide +kernel
theorem d_ST_join_67 : decode b_ST_join 67 = .ok (.ireturn, 1) := by decide +kernel
theorem d_ST_join_68 : decode b_ST_join 68 = .ok (.aload_n 0, 1) := by decide +kernel
theorem d_ST_join_69 : decode b_ST_join 69 = .ok (.getfield 21, 3) := by decide +kernel
theorem d_ST_join_72 : decode b_ST_join 72 = .ok (.iload_n 1, 1) := by decide +kernel
theorem d_ST_join_73 : decode b_ST_join 73 = .ok (.iload_n 2, 1) := by decide +kernel
theorem d_ST_join_74 : decode b_ST_join 74 = .ok (.iload_n 3, 1) := by decide +kernel
theorem d_ST_join_75 : decode b_ST_join 75 = .ok (.invokevirtual 127, 3) := by decide +kernel
theorem d_ST_join_78 : decode b_ST_join 78 = .ok (.aload_n 0, 1) := by decide +kernel
theorem d_ST_join_79 : decode b_ST_join 79 = .ok (.getfield 12, 3) := by decide +kernel
theorem d_ST_join_82 : decode b_ST_join 82 = .ok (.invokevirtual 73, 3) := by decide +kernel
theorem d_ST_join_85 : decode b_ST_join 85 = .ok (.iconst 1, 1) := by decide +kernel
theorem d_ST_join_86 : decode b_ST_join 86 = .ok (.ireturn, 1) := by decide +kernel
theorem d_ST_joined_0 : decode b_ST_joined 0 = .ok (.aload_n 0, 1) := by decide +kernel
theorem d_ST_joined_1 : decode b_ST_joined 1 = .ok (.iload_n 1, 1) := by decide +kernel
theorem d_ST_joined_2 : decode b_ST_joined 2 = .ok (.invokevirtual 95, 3) := by decide +kernel
theorem d_ST_joined_5 : decode b_ST_joined 5 = .ok (.aload_n 0, 1) := by decide +kernel
theorem d_ST_joined_6 : decode b_ST_joined 6 = .ok (.iload_n 2, 1) := by decide +kernel
theorem d_ST_joined_7 : decode b_ST_joined 7 = .ok (.invokevirtual 111, 3) := by decide +kernel
theorem d_ST_joined_10 : decode b_ST_joined 10 = .ok (.aload_n 0, 1) := by decide +kernel
theorem d_ST_joined_11 : decode b_ST_joined 11 = .ok (.getfield 21, 3) := by decide +kernel
theorem d_ST_joined_14 : decode b_ST_joined 14 = .ok (.iload_n 1, 1) := by decide +kernel
theorem d_ST_joined_15 : decode b_ST_joined 15 = .ok (.iload_n 2, 1) := by decide +kernel
theorem d_ST_joined_16 : decode b_ST_joined 16 = .ok (.invokevirtual 124, 3) := by decide +kernel
theorem d_ST_joined_19 : decode b_ST_joined 19 = .ok (.ireturn, 1) := by decide +kernel
theorem d_ST_part_0 : decode b_ST_part 0 = .ok (.iload_n 1, 1) := by decide +kernel
theorem d_ST_part_1 : decode b_ST_part 1 = .ok (.ifCond .lt 20, 3) := by decide +kernel
theorem d_ST_part_4 : decode b_ST_part 4 = .ok (.iload_n 1, 1) := by decide +kernel
theorem d_ST_part_5 : decode b_ST_part 5 = .ok (.bipush 26, 2) := by decide +kernel
theorem d_ST_part_7 : decode b_ST_part 7 = .ok (.if_icmp .ge 14, 3) := by decide +kernel
theorem d_ST_part_10 : decode b_ST_part 10 = .ok (.iload_n 2, 1) := by decide +kernel
theorem d_ST_part_11 : decode b_ST_part 11 = .ok (.iconst 1, 1) := by decide +kernel
theorem d_ST_part_12 : decode b_ST_part 12 = .ok (.if_icmp .lt 9, 3) := by decide +kernel
theorem d_ST_part_15 : decode b_ST_part 15 = .ok (.iload_n 2, 1) := by decide +kernel
theorem d_ST_part_16 : decode b_ST_part 16 = .ok (.bipush 8, 2) := by decide +kernel
theorem d_ST_part_18 : decode b_ST_part 18 = .ok (.if_icmp .le 13, 3) := by decide +kernel
theorem d_ST_part_21 : decode b_ST_part 21 = .ok (.new 131, 3) := by decide +kernel
theorem d_ST_part_24 : decode b_ST_part 24 = .ok (.dup, 1) := by decide +kernel
theorem d_ST_part_25 : decode b_ST_part 25 = .ok (.ldc 133, 2) := by decide +kernel
theorem d_ST_part_27 : decode b_ST_part 27 = .ok (.invokespecial 135, 3) := by decide +kernel
theorem d_ST_part_30 : decode b_ST_part 30 = .ok (.athrow, 1) := by decide +kernel
theorem d_ST_part_31 : decode b_ST_part 31 = .ok (.aload_n 0, 1) := by decide +kernel
theorem d_ST_part_32 : decode b_ST_part 32 = .ok (.getfield 39, 3) := by decide +kernel
theorem d_ST_part_35 : decode b_ST_part 35 = .ok (.invokevirtual 138, 3) := by decide +kernel
theorem d_ST_part_38 : decode b_ST_part 38 = .ok (.iconst 1, 1) := by decide +kernel
theorem d_ST_part_39 : decode b_ST_part 39 = .ok (.if_icmp .ge 5, 3) := by decide +kernel
theorem d_ST_part_42 : decode b_ST_part 42 = .ok (.iconst (-1), 1) := by decide +kernel
theorem d_ST_part_43 : decode b_ST_part 43 = .ok (.ireturn, 1) := by decide +kernel
theorem d_ST_part_44 : decode b_ST_part 44 = .ok (.aload_n 0, 1) := by decide +kernel
theorem d_ST_part_45 : decode b_ST_part 45 = .ok (.getfield 39, 3) := by decide +kernel
theorem d_ST_part_48 : decode b_ST_part 48 = .ok (.iload_n 1, 1) := by decide +kernel
theorem d_ST_part_49 : decode b_ST_part 49 = .ok (.iload_n 2, 1) := by decide +kernel
theorem d_ST_part_50 : decode b_ST_part 50 = .ok (.invokevirtual 141, 3) := by decide +kernel
theorem d_ST_part_53 : decode b_ST_part 53 = .ok (.istore_n 3, 1) := by decide +kernel
theorem d_ST_part_54 : decode b_ST_part 54 = .ok (.aload_n 0, 1) := by decide +kernel
theorem d_ST_part_55 : decode b_ST_part 55 = .ok (.getfield 12, 3) := by decide +kernel
theorem d_ST_part_58 : decode b_ST_part 58 = .ok (.invokevirtual 73, 3) := by decide +kernel
theorem d_ST_part_61 : decode b_ST_part 61 = .ok (.iload_n 3, 1) := by decide +kernel
theorem d_ST_part_62 : decode b_ST_part 62 = .ok (.ireturn, 1) := by decide +kernel
theorem d_ST_gate_0 : decode b_ST_gate 0 = .ok (.aload_n 0, 1) := by decide +kernel
theorem d_ST_gate_1 : decode b_ST_gate 1 = .ok (.iload_n 1, 1) := by decide +kernel
theorem d_ST_gate_2 : decode b_ST_gate 2 = .ok (.invokevirtual 76, 3) := by decide +kernel
theorem d_ST_gate_5 : decode b_ST_gate 5 = .ok (.aload_n 0, 1) := by decide +kernel
theorem d_ST_gate_6 : decode b_ST_gate 6 = .ok (.iload_n 2, 1) := by decide +kernel
theorem d_ST_gate_7 : decode b_ST_gate 7 = .ok (.invokevirtual 144, 3) := by decide +kernel
theorem d_ST_gate_10 : decode b_ST_gate 10 = .ok (.aload_n 0, 1) := by decide +kernel
theorem d_ST_gate_11 : decode b_ST_gate 11 = .ok (.iload_n 2, 1) := by decide +kernel
theorem d_ST_gate_12 : decode b_ST_gate 12 = .ok (.iload_n 3, 1) := by decide +kernel
theorem d_ST_gate_13 : decode b_ST_gate 13 = .ok (.invokevirtual 147, 3) := by decide +kernel
theorem d_ST_gate_16 : decode b_ST_gate 16 = .ok (.aload_n 0, 1) := by decide +kernel
theorem d_ST_gate_17 : decode b_ST_gate 17 = .ok (.getfield 39, 3) := by decide +kernel
theorem d_ST_gate_20 : decode b_ST_gate 20 = .ok (.iload_n 2, 1) := by decide +kernel
theorem d_ST_gate_21 : decode b_ST_gate 21 = .ok (.iload_n 3, 1) := by decide +kernel
theorem d_ST_gate_22 : decode b_ST_gate 22 = .ok (.invokevirtual 150, 3) := by decide +kernel
theorem d_ST_gate_25 : decode b_ST_gate 25 = .ok (.iconst (-1), 1) := by decide +kernel
theorem d_ST_gate_26 : decode b_ST_gate 26 = .ok (.if_icmp .ne 16, 3) := by decide +kernel
theorem d_ST_gate_29 : decode b_ST_gate 29 = .ok (.aload_n 0, 1) := by decide +kernel
theorem d_ST_gate_30 : decode b_ST_gate 30 = .ok (.getfield 39, 3) := by decide +kernel
theorem d_ST_gate_33 : decode b_ST_gate 33 = .ok (.iload_n 1, 1) := by decide +kernel
theorem d_ST_gate_34 : decode b_ST_gate 34 = .ok (.invokevirtual 153, 3) := by decide +kernel
theorem d_ST_gate_37 : decode b_ST_gate 37 = .ok (.bipush 20, 2) := by decide +kernel
theorem d_ST_gate_39 : decode b_ST_gate 39 = .ok (.if_icmp .lt 5, 3) := by decide +kernel
theorem d_ST_gate_42 : decode b_ST_gate 42 = .ok (.iconst 0, 1) := by decide +kernel
theorem d_ST_gate_43 : decode b_ST_gate 43 = .ok (.ireturn, 1) := by decide +kernel
theorem d_ST_gate_44 : decode b_ST_gate 44 = .ok (.aload_n 0, 1) := by decide +kernel
theorem d_ST_gate_45 : decode b_ST_gate 45 = .ok (.getfield 39, 3) := by decide +kernel
theorem d_ST_gate_48 : decode b_ST_gate 48 = .ok (.iload_n 1, 1) := by decide +kernel
theorem d_ST_gate_49 : decode b_ST_gate 49 = .ok (.iload_n 2, 1) := by decide +kernel
theorem d_ST_gate_50 : decode b_ST_gate 50 = .ok (.iload_n 3, 1) := by decide +kernel
theorem d_ST_gate_51 : decode b_ST_gate 51 = .ok (.invokevirtual 156, 3) := by decide +kernel
theorem d_ST_gate_54 : decode b_ST_gate 54 = .ok (.aload_n 0, 1) := by decide +kernel
theorem d_ST_gate_55 : decode b_ST_gate 55 = .ok (.getfield 12, 3) := by decide +kernel
theorem d_ST_gate_58 : decode b_ST_gate 58 = .ok (.invokevirtual 73, 3) := by decide +kernel
theorem d_ST_gate_61 : decode b_ST_gate 61 = .ok (.iconst 1, 1) := by decide +kernel
theorem d_ST_gate_62 : decode b_ST_gate 62 = .ok (.ireturn, 1) := by decide +kernel
theorem d_ST_copy_0 : decode b_ST_copy 0 = .ok (.aload_n 0, 1) := by decide +kernel
theorem d_ST_copy_1 : decode b_ST_copy 1 = .ok (.iload_n 1, 1) := by decide +kernel
theorem d_ST_copy_2 : decode b_ST_copy 2 = .ok (.invokevirtual 76, 3) := by decide +kernel
theorem d_ST_copy_5 : decode b_ST_copy 5 = .ok (.aload_n 0, 1) := by decide +kernel
theorem d_ST_copy_6 : decode b_ST_copy 6 = .ok (.getfield 21, 3) := by decide +kernel
theorem d_ST_copy_9 : decode b_ST_copy 9 = .ok (.invokevirtual 66, 3) := by decide +kernel
theorem d_ST_copy_12 : decode b_ST_copy 12 = .ok (.bipush 24, 2) := by decide +kernel
theorem d_ST_copy_14 : decode b_ST_copy 14 = .ok (.if_icmp .ge 39, 3) := by decide +kernel
theorem d_ST_copy_17 : decode b_ST_copy 17 = .ok (.aload_n 0, 1) := by decide +kernel
theorem d_ST_copy_18 : decode b_ST_copy 18 = .ok (.getfield 21, 3) := by decide +kernel
theorem d_ST_copy_21 : decode b_ST_copy 21 = .ok (.invokevirtual 80, 3) := by decide +kernel
theorem d_ST_copy_24 : decode b_ST_copy 24 = .ok (.aload_n 0, 1) := by decide +kernel
theorem d_ST_copy_25 : decode b_ST_copy 25 = .ok (.getfield 21, 3) := by decide +kernel
theorem d_ST_copy_28 : decode b_ST_copy 28 = .ok (.iload_n 1, 1) := by decide +kernel
theorem d_ST_copy_29 : decode b_ST_copy 29 = .ok (.invokevirtual 159, 3) := by decide +kernel
theorem d_ST_copy_32 : decode b_ST_copy 32 = .ok (.if_icmp .lt 21, 3) := by decide +kernel
theorem d_ST_copy_35 : decode b_ST_copy 35 = .ok (.aload_n 0, 1) := by decide +kernel
theorem d_ST_copy_36 : decode b_ST_copy 36 = .ok (.getfield 39, 3) := by decide +kernel
theorem d_ST_copy_39 : decode b_ST_copy 39 = .ok (.invokevirtual 138, 3) := by decide +kernel
theorem d_ST_copy_42 : decode b_ST_copy 42 = .ok (.aload_n 0, 1) := by decide +kernel
theorem d_ST_copy_43 : decode b_ST_copy 43 = .ok (.getfield 39, 3) := by decide +kernel
theorem d_ST_copy_46 : decode b_ST_copy 46 = .ok (.iload_n 1, 1) := by decide +kernel
theorem d_ST_copy_47 : decode b_ST_copy 47 = .ok (.invokevirtual 162, 3) := by decide +kernel
theorem d_ST_copy_50 : decode b_ST_copy 50 = .ok (.if_icmp .ge 5, 3) := by decide +kernel
theorem d_ST_copy_53 : decode b_ST_copy 53 = .ok (.iconst (-1), 1) := by decide +kernel
theorem d_ST_copy_54 : decode b_ST_copy 54 = .ok (.ireturn, 1) := by decide +kernel
theorem d_ST_copy_55 : decode b_ST_copy 55 = .ok (.aload_n 0, 1) := by decide +kernel
theorem d_ST_copy_56 : decode b_ST_copy 56 = .ok (.getfield 21, 3) := by decide +kernel
theorem d_ST_copy_59 : decode b_ST_copy 59 = .ok (.iload_n 1, 1) := by decide +kernel
theorem d_ST_copy_60 : decode b_ST_copy 60 = .ok (.invokevirtual 165, 3) := by decide +kernel
theorem d_ST_copy_63 : decode b_ST_copy 63 = .ok (.istore_n 2, 1) := by decide +kernel
theorem d_ST_copy_64 : decode b_ST_copy 64 = .ok (.aload_n 0, 1) := by decide +kernel
theorem d_ST_copy_65 : decode b_ST_copy 65 = .ok (.getfield 39, 3) := by decide +kernel
theorem d_ST_copy_68 : decode b_ST_copy 68 = .ok (.iload_n 1, 1) := by decide +kernel
theorem d_ST_copy_69 : decode b_ST_copy 69 = .ok (.iload_n 2, 1) := by decide +kernel
theorem d_ST_copy_70 : decode b_ST_copy 70 = .ok (.invokevirtual 168, 3) := by decide +kernel
theorem d_ST_copy_73 : decode b_ST_copy 73 = .ok (.aload_n 0, 1) := by decide +kernel
theorem d_ST_copy_74 : decode b_ST_copy 74 = .ok (.getfield 12, 3) := by decide +kernel
theorem d_ST_copy_77 : decode b_ST_copy 77 = .ok (.invokevirtual 73, 3) := by decide +kernel
theorem d_ST_copy_80 : decode b_ST_copy 80 = .ok (.iload_n 2, 1) := by decide +kernel
theorem d_ST_copy_81 : decode b_ST_copy 81 = .ok (.ireturn, 1) := by decide +kernel
theorem d_ST_rule_0 : decode b_ST_rule 0 = .ok (.iload_n 1, 1) := by decide +kernel
theorem d_ST_rule_1 : decode b_ST_rule 1 = .ok (.ifCond .eq 18, 3) := by decide +kernel
theorem d_ST_rule_4 : decode b_ST_rule 4 = .ok (.iload_n 1, 1) := by decide +kernel
theorem d_ST_rule_5 : decode b_ST_rule 5 = .ok (.iconst 1, 1) := by decide +kernel
theorem d_ST_rule_6 : decode b_ST_rule 6 = .ok (.if_icmp .eq 13, 3) := by decide +kernel
theorem d_ST_rule_9 : decode b_ST_rule 9 = .ok (.new 131, 3) := by decide +kernel
theorem d_ST_rule_12 : decode b_ST_rule 12 = .ok (.dup, 1) := by decide +kernel
theorem d_ST_rule_13 : decode b_ST_rule 13 = .ok (.ldc 171, 2) := by decide +kernel
theorem d_ST_rule_15 : decode b_ST_rule 15 = .ok (.invokespecial 135, 3) := by decide +kernel
theorem d_ST_rule_18 : decode b_ST_rule 18 = .ok (.athrow, 1) := by decide +kernel
theorem d_ST_rule_19 : decode b_ST_rule 19 = .ok (.aload_n 0, 1) := by decide +kernel
theorem d_ST_rule_20 : decode b_ST_rule 20 = .ok (.getfield 55, 3) := by decide +kernel
theorem d_ST_rule_23 : decode b_ST_rule 23 = .ok (.iconst 0, 1) := by decide +kernel
theorem d_ST_rule_24 : decode b_ST_rule 24 = .ok (.invokevirtual 173, 3) := by decide +kernel
theorem d_ST_rule_27 : decode b_ST_rule 27 = .ok (.iload_n 1, 1) := by decide +kernel
theorem d_ST_rule_28 : decode b_ST_rule 28 = .ok (.if_icmp .ne 5, 3) := by decide +kernel
theorem d_ST_rule_31 : decode b_ST_rule 31 = .ok (.iconst 0, 1) := by decide +kernel
theorem d_ST_rule_32 : decode b_ST_rule 32 = .ok (.ireturn, 1) := by decide +kernel
theorem d_ST_rule_33 : decode b_ST_rule 33 = .ok (.aload_n 0, 1) := by decide +kernel
theorem d_ST_rule_34 : decode b_ST_rule 34 = .ok (.getfield 55, 3) := by decide +kernel
theorem d_ST_rule_37 : decode b_ST_rule 37 = .ok (.iconst 0, 1) := by decide +kernel
theorem d_ST_rule_38 : decode b_ST_rule 38 = .ok (.iload_n 1, 1) := by decide +kernel
theorem d_ST_rule_39 : decode b_ST_rule 39 = .ok (.i2l, 1) := by decide +kernel
theorem d_ST_rule_40 : decode b_ST_rule 40 = .ok (.invokevirtual 176, 3) := by decide +kernel
theorem d_ST_rule_43 : decode b_ST_rule 43 = .ok (.aload_n 0, 1) := by decide +kernel
theorem d_ST_rule_44 : decode b_ST_rule 44 = .ok (.getfield 12, 3) := by decide +kernel
theorem d_ST_rule_47 : decode b_ST_rule 47 = .ok (.invokevirtual 73, 3) := by decide +kernel
theorem d_ST_rule_50 : decode b_ST_rule 50 = .ok (.iconst 1, 1) := by decide +kernel
theorem d_ST_rule_51 : decode b_ST_rule 51 = .ok (.ireturn, 1) := by decide +kernel
theorem d_ST_variant_0 : decode b_ST_variant 0 = .ok (.aload_n 0, 1) := by decide +kernel
theorem d_ST_variant_1 : decode b_ST_variant 1 = .ok (.iload_n 1, 1) := by decide +kernel
theorem d_ST_variant_2 : decode b_ST_variant 2 = .ok (.invokevirtual 180, 3) := by decide +kernel
theorem d_ST_variant_5 : decode b_ST_variant 5 = .ok (.aload_n 0, 1) := by decide +kernel
theorem d_ST_variant_6 : decode b_ST_variant 6 = .ok (.getfield 46, 3) := by decide +kernel
theorem d_ST_variant_9 : decode b_ST_variant 9 = .ok (.invokevirtual 183, 3) := by decide +kernel
theorem d_ST_variant_12 : decode b_ST_variant 12 = .ok (.bipush 10, 2) := by decide +kernel
theorem d_ST_variant_14 : decode b_ST_variant 14 = .ok (.if_icmp .lt 5, 3) := by decide +kernel
theorem d_ST_variant_17 : decode b_ST_variant 17 = .ok (.iconst (-1), 1) := by decide +kernel
theorem d_ST_variant_18 : decode b_ST_variant 18 = .ok (.ireturn, 1) := by decide +kernel
theorem d_ST_variant_19 : decode b_ST_variant 19 = .ok (.aload_n 0, 1) := by decide +kernel
theorem d_ST_variant_20 : decode b_ST_variant 20 = .ok (.getfield 46, 3) := by decide +kernel
theorem d_ST_variant_23 : decode b_ST_variant 23 = .ok (.iload_n 1, 1) := by decide +kernel
theorem d_ST_variant_24 : decode b_ST_variant 24 = .ok (.invokevirtual 186, 3) := by decide +kernel
theorem d_ST_variant_27 : decode b_ST_variant 27 = .ok (.istore_n 2, 1) := by decide +kernel
theorem d_ST_variant_28 : decode b_ST_variant 28 = .ok (.aload_n 0, 1) := by decide +kernel
theorem d_ST_variant_29 : decode b_ST_variant 29 = .ok (.getfield 12, 3) := by decide +kernel
theorem d_ST_variant_32 : decode b_ST_variant 32 = .ok (.invokevirtual 73, 3) := by decide +kernel
theorem d_ST_variant_35 : decode b_ST_variant 35 = .ok (.iload_n 2, 1) := by decide +kernel
theorem d_ST_variant_36 : decode b_ST_variant 36 = .ok (.ireturn, 1) := by decide +kernel
theorem d_ST_value_0 : decode b_ST_value 0 = .ok (.aload_n 0, 1) := by decide +kernel
theorem d_ST_value_1 : decode b_ST_value 1 = .ok (.iconst 0, 1) := by decide +kernel
theorem d_ST_value_2 : decode b_ST_value 2 = .ok (.iload_n 1, 1) := by decide +kernel
theorem d_ST_value_3 : decode b_ST_value 3 = .ok (.iload_n 2, 1) := by decide +kernel
theorem d_ST_value_4 : decode b_ST_value 4 = .ok (.iload_n 3, 1) := by decide +kernel
theorem d_ST_value_5 : decode b_ST_value 5 = .ok (.lload 4, 2) := by decide +kernel
theorem d_ST_value_7 : decode b_ST_value 7 = .ok (.invokevirtual 189, 3) := by decide +kernel
theorem d_ST_value_10 : decode b_ST_value 10 = .ok (.ireturn, 1) := by decide +kernel
theorem d_ST_fit_0 : decode b_ST_fit 0 = .ok (.aload_n 0, 1) := by decide +kernel
theorem d_ST_fit_1 : decode b_ST_fit 1 = .ok (.iconst 1, 1) := by decide +kernel
theorem d_ST_fit_2 : decode b_ST_fit 2 = .ok (.iload_n 1, 1) := by decide +kernel
theorem d_ST_fit_3 : decode b_ST_fit 3 = .ok (.iload_n 2, 1) := by decide +kernel
theorem d_ST_fit_4 : decode b_ST_fit 4 = .ok (.iload_n 3, 1) := by decide +kernel
theorem d_ST_fit_5 : decode b_ST_fit 5 = .ok (.iload 4, 2) := by decide +kernel
theorem d_ST_fit_7 : decode b_ST_fit 7 = .ok (.ifCond .eq 7, 3) := by decide +kernel
theorem d_ST_fit_10 : decode b_ST_fit 10 = .ok (.lconst 1, 1) := by decide +kernel
theorem d_ST_fit_11 : decode b_ST_fit 11 = .ok (.goto 4, 3) := by decide +kernel
theorem d_ST_fit_14 : decode b_ST_fit 14 = .ok (.lconst 0, 1) := by decide +kernel
theorem d_ST_fit_15 : decode b_ST_fit 15 = .ok (.invokevirtual 189, 3) := by decide +kernel
theorem d_ST_fit_18 : decode b_ST_fit 18 = .ok (.ireturn, 1) := by decide +kernel
theorem d_ST_valueOf_0 : decode b_ST_valueOf 0 = .ok (.aload_n 0, 1) := by decide +kernel
theorem d_ST_valueOf_1 : decode b_ST_valueOf 1 = .ok (.iconst 0, 1) := by decide +kernel
theorem d_ST_valueOf_2 : decode b_ST_valueOf 2 = .ok (.iload_n 1, 1) := by decide +kernel
theorem d_ST_valueOf_3 : decode b_ST_valueOf 3 = .ok (.iload_n 2, 1) := by decide +kernel
theorem d_ST_valueOf_4 : decode b_ST_valueOf 4 = .ok (.iload_n 3, 1) := by decide +kernel
theorem d_ST_valueOf_5 : decode b_ST_valueOf 5 = .ok (.lconst 0, 1) := by decide +kernel
theorem d_ST_valueOf_6 : decode b_ST_valueOf 6 = .ok (.invokevirtual 193, 3) := by decide +kernel
theorem d_ST_valueOf_9 : decode b_ST_valueOf 9 = .ok (.lreturn, 1) := by decide +kernel
theorem d_ST_fitted_0 : decode b_ST_fitted 0 = .ok (.aload_n 0, 1) := by decide +kernel
theorem d_ST_fitted_1 : decode b_ST_fitted 1 = .ok (.iconst 1, 1) := by decide +kernel
theorem d_ST_fitted_2 : decode b_ST_fitted 2 = .ok (.iload_n 1, 1) := by decide +kernel
theorem d_ST_fitted_3 : decode b_ST_fitted 3 = .ok (.iload_n 2, 1) := by decide +kernel
theorem d_ST_fitted_4 : decode b_ST_fitted 4 = .ok (.iload_n 3, 1) := by decide +kernel
theorem d_ST_fitted_5 : decode b_ST_fitted 5 = .ok (.lconst 1, 1) := by decide +kernel
theorem d_ST_fitted_6 : decode b_ST_fitted 6 = .ok (.invokevirtual 193, 3) := by decide +kernel
theorem d_ST_fitted_9 : decode b_ST_fitted 9 = .ok (.lconst 1, 1) := by decide +kernel
theorem d_ST_fitted_10 : decode b_ST_fitted 10 = .ok (.lcmp, 1) := by decide +kernel
theorem d_ST_fitted_11 : decode b_ST_fitted 11 = .ok (.ifCond .ne 7, 3) := by decide +kernel
theorem d_ST_fitted_14 : decode b_ST_fitted 14 = .ok (.iconst 1, 1) := by decide +kernel
theorem d_ST_fitted_15 : decode b_ST_fitted 15 = .ok (.goto 4, 3) := by decide +kernel
theorem d_ST_fitted_18 : decode b_ST_fitted 18 = .ok (.iconst 0, 1) := by decide +kernel
theorem d_ST_fitted_19 : decode b_ST_fitted 19 = .ok (.ireturn, 1) := by decide +kernel
theorem d_ST_undo_0 : decode b_ST_undo 0 = .ok (.aload_n 0, 1) := by decide +kernel
theorem d_ST_undo_1 : decode b_ST_undo 1 = .ok (.getfield 12, 3) := by decide +kernel
theorem d_ST_undo_4 : decode b_ST_undo 4 = .ok (.invokevirtual 197, 3) := by decide +kernel
theorem d_ST_undo_7 : decode b_ST_undo 7 = .ok (.ifCond .ne 5, 3) := by decide +kernel
theorem d_ST_undo_10 : decode b_ST_undo 10 = .ok (.iconst 0, 1) := by decide +kernel
theorem d_ST_undo_11 : decode b_ST_undo 11 = .ok (.ireturn, 1) := by decide +kernel
theorem d_ST_undo_12 : decode b_ST_undo 12 = .ok (.aload_n 0, 1) := by decide +kernel
theorem d_ST_undo_13 : decode b_ST_undo 13 = .ok (.iconst 0, 1) := by decide +kernel
theorem d_ST_undo_14 : decode b_ST_undo 14 = .ok (.putfield 59, 3) := by decide +kernel
theorem d_ST_undo_17 : decode b_ST_undo 17 = .ok (.aload_n 0, 1) := by decide +kernel
theorem d_ST_undo_18 : decode b_ST_undo 18 = .ok (.getfield 30, 3) := by decide +kernel
theorem d_ST_undo_21 : decode b_ST_undo 21 = .ok (.invokevirtual 63, 3) := by decide +kernel
theorem d_ST_undo_24 : decode b_ST_undo 24 = .ok (.iconst 1, 1) := by decide +kernel
theorem d_ST_undo_25 : decode b_ST_undo 25 = .ok (.ireturn, 1) := by decide +kernel
theorem d_ST_pages_0 : decode b_ST_pages 0 = .ok (.aload_n 0, 1) := by decide +kernel
theorem d_ST_pages_1 : decode b_ST_pages 1 = .ok (.getfield 30, 3) := by decide +kernel
theorem d_ST_pages_4 : decode b_ST_pages 4 = .ok (.invokevirtual 200, 3) := by decide +kernel
theorem d_ST_pages_7 : decode b_ST_pages 7 = .ok (.ireturn, 1) := by decide +kernel
theorem d_ST_page_0 : decode b_ST_page 0 = .ok (.aload_n 0, 1) := by decide +kernel
theorem d_ST_page_1 : decode b_ST_page 1 = .ok (.iload_n 1, 1) := by decide +kernel
theorem d_ST_page_2 : decode b_ST_page 2 = .ok (.invokevirtual 201, 3) := by decide +kernel
theorem d_ST_page_5 : decode b_ST_page 5 = .ok (.iload_n 2, 1) := by decide +kernel
theorem d_ST_page_6 : decode b_ST_page 6 = .ok (.tableswitch 66 0 3 #[30, 39, 48, 57], 30) := by decide +kernel
theorem d_ST_page_36 : decode b_ST_page 36 = .ok (.aload_n 0, 1) := by decide +kernel
theorem d_ST_page_37 : decode b_ST_page 37 = .ok (.getfield 30, 3) := by decide +kernel
theorem d_ST_page_40 : decode b_ST_page 40 = .ok (.iload_n 1, 1) := by decide +kernel
theorem d_ST_page_41 : decode b_ST_page 41 = .ok (.invokevirtual 204, 3) := by decide +kernel
theorem d_ST_page_44 : decode b_ST_page 44 = .ok (.ireturn, 1) := by decide +kernel
theorem d_ST_page_45 : decode b_ST_page 45 = .ok (.aload_n 0, 1) := by decide +kernel
theorem d_ST_page_46 : decode b_ST_page 46 = .ok (.getfield 30, 3) := by decide +kernel
theorem d_ST_page_49 : decode b_ST_page 49 = .ok (.iload_n 1, 1) := by decide +kernel
theorem d_ST_page_50 : decode b_ST_page 50 = .ok (.invokevirtual 207, 3) := by decide +kernel
theorem d_ST_page_53 : decode b_ST_page 53 = .ok (.ireturn, 1) := by decide +kernel
theorem d_ST_page_54 : decode b_ST_page 54 = .ok (.aload_n 0, 1) := by decide +kernel
theorem d_ST_page_55 : decode b_ST_page 55 = .ok (.getfield 30, 3) := by decide +kernel
theorem d_ST_page_58 : decode b_ST_page 58 = .ok (.iload_n 1, 1) := by decide +kernel
theorem d_ST_page_59 : decode b_ST_page 59 = .ok (.invokevirtual 210, 3) := by decide +kernel
theorem d_ST_page_62 : decode b_ST_page 62 = .ok (.ireturn, 1) := by decide +kernel
theorem d_ST_page_63 : decode b_ST_page 63 = .ok (.aload_n 0, 1) := by decide +kernel
theorem d_ST_page_64 : decode b_ST_page 64 = .ok (.getfield 30, 3) := by decide +kernel
theorem d_ST_page_67 : decode b_ST_page 67 = .ok (.iload_n 1, 1) := by decide +kernel
theorem d_ST_page_68 : decode b_ST_page 68 = .ok (.invokevirtual 213, 3) := by decide +kernel
theorem d_ST_page_71 : decode b_ST_page 71 = .ok (.ireturn, 1) := by decide +kernel
theorem d_ST_page_72 : decode b_ST_page 72 = .ok (.new 216, 3) := by decide +kernel
theorem d_ST_page_75 : decode b_ST_page 75 = .ok (.dup, 1) := by decide +kernel
theorem d_ST_page_76 : decode b_ST_page 76 = .ok (.ldc 218, 2) := by decide +kernel
theorem d_ST_page_78 : decode b_ST_page 78 = .ok (.invokespecial 220, 3) := by decide +kernel
theorem d_ST_page_81 : decode b_ST_page 81 = .ok (.athrow, 1) := by decide +kernel
theorem d_ST_units_0 : decode b_ST_units 0 = .ok (.aload_n 0, 1) := by decide +kernel
theorem d_ST_units_1 : decode b_ST_units 1 = .ok (.iload_n 1, 1) := by decide +kernel
theorem d_ST_units_2 : decode b_ST_units 2 = .ok (.invokevirtual 144, 3) := by decide +kernel
theorem d_ST_units_5 : decode b_ST_units 5 = .ok (.aload_n 0, 1) := by decide +kernel
theorem d_ST_units_6 : decode b_ST_units 6 = .ok (.getfield 39, 3) := by decide +kernel
theorem d_ST_units_9 : decode b_ST_units 9 = .ok (.iload_n 1, 1) := by decide +kernel
theorem d_ST_units_10 : decode b_ST_units 10 = .ok (.invokevirtual 221, 3) := by decide +kernel
theorem d_ST_units_13 : decode b_ST_units 13 = .ok (.ireturn, 1) := by decide +kernel
theorem d_ST_where_0 : decode b_ST_where 0 = .ok (.aload_n 0, 1) := by decide +kernel
theorem d_ST_where_1 : decode b_ST_where 1 = .ok (.iload_n 1, 1) := by decide +kernel
theorem d_ST_where_2 : decode b_ST_where 2 = .ok (.invokevirtual 144, 3) := by decide +kernel
theorem d_ST_where_5 : decode b_ST_where 5 = .ok (.aload_n 0, 1) := by decide +kernel
theorem d_ST_where_6 : decode b_ST_where 6 = .ok (.iload_n 1, 1) := by decide +kernel
theorem d_ST_where_7 : decode b_ST_where 7 = .ok (.iload_n 2, 1) := by decide +kernel
theorem d_ST_where_8 : decode b_ST_where 8 = .ok (.invokevirtual 224, 3) := by decide +kernel
theorem d_ST_where_11 : decode b_ST_where 11 = .ok (.aload_n 0, 1) := by decide +kernel
theorem d_ST_where_12 : decode b_ST_where 12 = .ok (.iload_n 1, 1) := by decide +kernel
theorem d_ST_where_13 : decode b_ST_where 13 = .ok (.iload_n 3, 1) := by decide +kernel
theorem d_ST_where_14 : decode b_ST_where 14 = .ok (.invokevirtual 147, 3) := by decide +kernel
theorem d_ST_where_17 : decode b_ST_where 17 = .ok (.aload_n 0, 1) := by decide +kernel
theorem d_ST_where_18 : decode b_ST_where 18 = .ok (.getfield 30, 3) := by decide +kernel
theorem d_ST_where_21 : decode b_ST_where 21 = .ok (.aload_n 0, 1) := by decide +kernel
theorem d_ST_where_22 : decode b_ST_where 22 = .ok (.getfield 39, 3) := by decide +kernel
theorem d_ST_where_25 : decode b_ST_where 25 = .ok (.iload_n 1, 1) := by decide +kernel
theorem d_ST_where_26 : decode b_ST_where 26 = .ok (.iload_n 3, 1) := by decide +kernel
theorem d_ST_where_27 : decode b_ST_where 27 = .ok (.invokevirtual 150, 3) := by decide +kernel
theorem d_ST_where_30 : decode b_ST_where 30 = .ok (.iload_n 2, 1) := by decide +kernel
theorem d_ST_where_31 : decode b_ST_where 31 = .ok (.invokevirtual 227, 3) := by decide +kernel
theorem d_ST_where_34 : decode b_ST_where 34 = .ok (.ireturn, 1) := by decide +kernel
theorem d_ST_name_0 : decode b_ST_name 0 = .ok (.aload_n 0, 1) := by decide +kernel
theorem d_ST_name_1 : decode b_ST_name 1 = .ok (.iload_n 1, 1) := by decide +kernel
theorem d_ST_name_2 : decode b_ST_name 2 = .ok (.invokevirtual 144, 3) := by decide +kernel
theorem d_ST_name_5 : decode b_ST_name 5 = .ok (.aload_n 0, 1) := by decide +kernel
theorem d_ST_name_6 : decode b_ST_name 6 = .ok (.iload_n 1, 1) := by decide +kernel
theorem d_ST_name_7 : decode b_ST_name 7 = .ok (.iload_n 2, 1) := by decide +kernel
theorem d_ST_name_8 : decode b_ST_name 8 = .ok (.invokevirtual 224, 3) := by decide +kernel
theorem d_ST_name_11 : decode b_ST_name 11 = .ok (.aload_n 0, 1) := by decide +kernel
theorem d_ST_name_12 : decode b_ST_name 12 = .ok (.getfield 39, 3) := by decide +kernel
theorem d_ST_name_15 : decode b_ST_name 15 = .ok (.iload_n 1, 1) := by decide +kernel
theorem d_ST_name_16 : decode b_ST_name 16 = .ok (.iload_n 2, 1) := by decide +kernel
theorem d_ST_name_17 : decode b_ST_name 17 = .ok (.aload_n 0, 1) := by decide +kernel
theorem d_ST_name_18 : decode b_ST_name 18 = .ok (.getfield 55, 3) := by decide +kernel
theorem d_ST_name_21 : decode b_ST_name 21 = .ok (.iconst 0, 1) := by decide +kernel
theorem d_ST_name_22 : decode b_ST_name 22 = .ok (.invokevirtual 173, 3) := by decide +kernel
theorem d_ST_name_25 : decode b_ST_name 25 = .ok (.iconst 1, 1) := by decide +kernel
theorem d_ST_name_26 : decode b_ST_name 26 = .ok (.if_icmp .ne 7, 3) := by decide +kernel
theorem d_ST_name_29 : decode b_ST_name 29 = .ok (.iconst 1, 1) := by decide +kernel
theorem d_ST_name_30 : decode b_ST_name 30 = .ok (.goto 4, 3) := by decide +kernel
theorem d_ST_name_33 : decode b_ST_name 33 = .ok (.iconst 0, 1) := by decide +kernel
theorem d_ST_name_34 : decode b_ST_name 34 = .ok (.invokevirtual 230, 3) := by decide +kernel
theorem d_ST_name_37 : decode b_ST_name 37 = .ok (.istore_n 3, 1) := by decide +kernel
theorem d_ST_name_38 : decode b_ST_name 38 = .ok (.aload_n 0, 1) := by decide +kernel
theorem d_ST_name_39 : decode b_ST_name 39 = .ok (.getfield 39, 3) := by decide +kernel
theorem d_ST_name_42 : decode b_ST_name 42 = .ok (.iload_n 1, 1) := by decide +kernel
theorem d_ST_name_43 : decode b_ST_name 43 = .ok (.invokevirtual 234, 3) := by decide +kernel
theorem d_ST_name_46 : decode b_ST_name 46 = .ok (.sipush 10000, 3) := by decide +kernel
theorem d_ST_name_49 : decode b_ST_name 49 = .ok (.imul, 1) := by decide +kernel
theorem d_ST_name_50 : decode b_ST_name 50 = .ok (.iload_n 3, 1) := by decide +kernel
theorem d_ST_name_51 : decode b_ST_name 51 = .ok (.iadd, 1) := by decide +kernel
theorem d_ST_name_52 : decode b_ST_name 52 = .ok (.ireturn, 1) := by decide +kernel
theorem d_ST_settle_0 : decode b_ST_settle 0 = .ok (.aload_n 0, 1) := by decide +kernel
theorem d_ST_settle_1 : decode b_ST_settle 1 = .ok (.getfield 30, 3) := by decide +kernel
theorem d_ST_settle_4 : decode b_ST_settle 4 = .ok (.invokevirtual 63, 3) := by decide +kernel
theorem d_ST_settle_7 : decode b_ST_settle 7 = .ok (.aload_n 0, 1) := by decide +kernel
theorem d_ST_settle_8 : decode b_ST_settle 8 = .ok (.getfield 30, 3) := by decide +kernel
theorem d_ST_settle_11 : decode b_ST_settle 11 = .ok (.invokevirtual 237, 3) := by decide +kernel
theorem d_ST_settle_14 : decode b_ST_settle 14 = .ok (.ifCond .eq 12, 3) := by decide +kernel
theorem d_ST_settle_17 : decode b_ST_settle 17 = .ok (.aload_n 0, 1) := by decide +kernel
theorem d_ST_settle_18 : decode b_ST_settle 18 = .ok (.getfield 12, 3) := by decide +kernel
theorem d_ST_settle_21 : decode b_ST_settle 21 = .ok (.invokevirtual 73, 3) := by decide +kernel
theorem d_ST_settle_24 : decode b_ST_settle 24 = .ok (.iconst 1, 1) := by decide +kernel
theorem d_ST_settle_25 : decode b_ST_settle 25 = .ok (.ireturn, 1) := by decide +kernel
theorem d_ST_settle_26 : decode b_ST_settle 26 = .ok (.aload_n 0, 1) := by decide +kernel
theorem d_ST_settle_27 : decode b_ST_settle 27 = .ok (.getfield 12, 3) := by decide +kernel
theorem d_ST_settle_30 : decode b_ST_settle 30 = .ok (.invokevirtual 240, 3) := by decide +kernel
theorem d_ST_settle_33 : decode b_ST_settle 33 = .ok (.aload_n 0, 1) := by decide +kernel
theorem d_ST_settle_34 : decode b_ST_settle 34 = .ok (.getfield 30, 3) := by decide +kernel
theorem d_ST_settle_37 : decode b_ST_settle 37 = .ok (.invokevirtual 63, 3) := by decide +kernel
theorem d_ST_settle_40 : decode b_ST_settle 40 = .ok (.iconst 0, 1) := by decide +kernel
theorem d_ST_settle_41 : decode b_ST_settle 41 = .ok (.ireturn, 1) := by decide +kernel
theorem d_ST_tell_0 : decode b_ST_tell 0 = .ok (.aload_n 0, 1) := by decide +kernel
theorem d_ST_tell_1 : decode b_ST_tell 1 = .ok (.iload_n 2, 1) := by decide +kernel
theorem d_ST_tell_2 : decode b_ST_tell 2 = .ok (.invokevirtual 243, 3) := by decide +kernel
theorem d_ST_tell_5 : decode b_ST_tell 5 = .ok (.aload_n 0, 1) := by decide +kernel
theorem d_ST_tell_6 : decode b_ST_tell 6 = .ok (.iload_n 3, 1) := by decide +kernel
theorem d_ST_tell_7 : decode b_ST_tell 7 = .ok (.invokevirtual 201, 3) := by decide +kernel
theorem d_ST_tell_10 : decode b_ST_tell 10 = .ok (.aload_n 0, 1) := by decide +kernel
theorem d_ST_tell_11 : decode b_ST_tell 11 = .ok (.iload 4, 2) := by decide +kernel
theorem d_ST_tell_13 : decode b_ST_tell 13 = .ok (.invokevirtual 144, 3) := by decide +kernel
theorem d_ST_tell_16 : decode b_ST_tell 16 = .ok (.aload_n 0, 1) := by decide +kernel
theorem d_ST_tell_17 : decode b_ST_tell 17 = .ok (.getfield 46, 3) := by decide +kernel
theorem d_ST_tell_20 : decode b_ST_tell 20 = .ok (.iload_n 1, 1) := by decide +kernel
theorem d_ST_tell_21 : decode b_ST_tell 21 = .ok (.iload_n 2, 1) := by decide +kernel
theorem d_ST_tell_22 : decode b_ST_tell 22 = .ok (.iload_n 3, 1) := by decide +kernel
theorem d_ST_tell_23 : decode b_ST_tell 23 = .ok (.iload 4, 2) := by decide +kernel
theorem d_ST_tell_25 : decode b_ST_tell 25 = .ok (.lload 5, 2) := by decide +kernel
theorem d_ST_tell_27 : decode b_ST_tell 27 = .ok (.invokevirtual 246, 3) := by decide +kernel
theorem d_ST_tell_30 : decode b_ST_tell 30 = .ok (.ifCond .ne 5, 3) := by decide +kernel
theorem d_ST_tell_33 : decode b_ST_tell 33 = .ok (.iconst 0, 1) := by decide +kernel
theorem d_ST_tell_34 : decode b_ST_tell 34 = .ok (.ireturn, 1) := by decide +kernel
theorem d_ST_tell_35 : decode b_ST_tell 35 = .ok (.aload_n 0, 1) := by decide +kernel
theorem d_ST_tell_36 : decode b_ST_tell 36 = .ok (.getfield 12, 3) := by decide +kernel
theorem d_ST_tell_39 : decode b_ST_tell 39 = .ok (.invokevirtual 73, 3) := by decide +kernel
theorem d_ST_tell_42 : decode b_ST_tell 42 = .ok (.iconst 1, 1) := by decide +kernel
theorem d_ST_tell_43 : decode b_ST_tell 43 = .ok (.ireturn, 1) := by decide +kernel
theorem d_ST_heard_0 : decode b_ST_heard 0 = .ok (.aload_n 0, 1) := by decide +kernel
theorem d_ST_heard_1 : decode b_ST_heard 1 = .ok (.iload_n 2, 1) := by decide +kernel
theorem d_ST_heard_2 : decode b_ST_heard 2 = .ok (.invokevirtual 180, 3) := by decide +kernel
theorem d_ST_heard_5 : decode b_ST_heard 5 = .ok (.aload_n 0, 1) := by decide +kernel
theorem d_ST_heard_6 : decode b_ST_heard 6 = .ok (.iload_n 3, 1) := by decide +kernel
theorem d_ST_heard_7 : decode b_ST_heard 7 = .ok (.invokevirtual 201, 3) := by decide +kernel
theorem d_ST_heard_10 : decode b_ST_heard 10 = .ok (.aload_n 0, 1) := by decide +kernel
theorem d_ST_heard_11 : decode b_ST_heard 11 = .ok (.iload 4, 2) := by decide +kernel
theorem d_ST_heard_13 : decode b_ST_heard 13 = .ok (.invokevirtual 144, 3) := by decide +kernel
theorem d_ST_heard_16 : decode b_ST_heard 16 = .ok (.aload_n 0, 1) := by decide +kernel
theorem d_ST_heard_17 : decode b_ST_heard 17 = .ok (.getfield 46, 3) := by decide +kernel
theorem d_ST_heard_20 : decode b_ST_heard 20 = .ok (.iload_n 1, 1) := by decide +kernel
theorem d_ST_heard_21 : decode b_ST_heard 21 = .ok (.iload_n 2, 1) := by decide +kernel
theorem d_ST_heard_22 : decode b_ST_heard 22 = .ok (.iload_n 3, 1) := by decide +kernel
theorem d_ST_heard_23 : decode b_ST_heard 23 = .ok (.iload 4, 2) := by decide +kernel
theorem d_ST_heard_25 : decode b_ST_heard 25 = .ok (.invokevirtual 247, 3) := by decide +kernel
theorem d_ST_heard_28 : decode b_ST_heard 28 = .ok (.istore 7, 2) := by decide +kernel
theorem d_ST_heard_30 : decode b_ST_heard 30 = .ok (.iload 7, 2) := by decide +kernel
theorem d_ST_heard_32 : decode b_ST_heard 32 = .ok (.iconst (-1), 1) := by decide +kernel
theorem d_ST_heard_33 : decode b_ST_heard 33 = .ok (.if_icmp .ne 8, 3) := by decide +kernel
theorem d_ST_heard_36 : decode b_ST_heard 36 = .ok (.lload 5, 2) := by decide +kernel
theorem d_ST_heard_38 : decode b_ST_heard 38 = .ok (.goto 12, 3) := by decide +kernel
theorem d_ST_heard_41 : decode b_ST_heard 41 = .ok (.aload_n 0, 1) := by decide +kernel
theorem d_ST_heard_42 : decode b_ST_heard 42 = .ok (.getfield 46, 3) := by decide +kernel
theorem d_ST_heard_45 : decode b_ST_heard 45 = .ok (.iload 7, 2) := by decide +kernel
theorem d_ST_heard_47 : decode b_ST_heard 47 = .ok (.invokevirtual 251, 3) := by decide +kernel
theorem d_ST_heard_50 : decode b_ST_heard 50 = .ok (.lreturn, 1) := by decide +kernel
theorem d_ST_needSheet_0 : decode b_ST_needSheet 0 = .ok (.aload_n 0, 1) := by decide +kernel
theorem d_ST_needSheet_1 : decode b_ST_needSheet 1 = .ok (.getfield 21, 3) := by decide +kernel
theorem d_ST_needSheet_4 : decode b_ST_needSheet 4 = .ok (.iload_n 1, 1) := by decide +kernel
theorem d_ST_needSheet_5 : decode b_ST_needSheet 5 = .ok (.invokevirtual 255, 3) := by decide +kernel
theorem d_ST_needSheet_8 : decode b_ST_needSheet 8 = .ok (.ifCond .ne 14, 3) := by decide +kernel
theorem d_ST_needSheet_11 : decode b_ST_needSheet 11 = .ok (.new 216, 3) := by decide +kernel
theorem d_ST_needSheet_14 : decode b_ST_needSheet 14 = .ok (.dup, 1) := by decide +kernel
theorem d_ST_needSheet_15 : decode b_ST_needSheet 15 = .ok (.ldc_w 259, 3) := by decide +kernel
theorem d_ST_needSheet_18 : decode b_ST_needSheet 18 = .ok (.invokespecial 220, 3) := by decide +kernel
theorem d_ST_needSheet_21 : decode b_ST_needSheet 21 = .ok (.athrow, 1) := by decide +kernel
theorem d_ST_needSheet_22 : decode b_ST_needSheet 22 = .ok (.return_, 1) := by decide +kernel
theorem d_ST_needPlacement_0 : decode b_ST_needPlacement 0 = .ok (.aload_n 0, 1) := by decide +kernel
theorem d_ST_needPlacement_1 : decode b_ST_needPlacement 1 = .ok (.getfield 21, 3) := by decide +kernel
theorem d_ST_needPlacement_4 : decode b_ST_needPlacement 4 = .ok (.iload_n 1, 1) := by decide +kernel
theorem d_ST_needPlacement_5 : decode b_ST_needPlacement 5 = .ok (.invokevirtual 261, 3) := by decide +kernel
theorem d_ST_needPlacement_8 : decode b_ST_needPlacement 8 = .ok (.ifCond .ne 14, 3) := by decide +kernel
theorem d_ST_needPlacement_11 : decode b_ST_needPlacement 11 = .ok (.new 216, 3) := by decide +kernel
theorem d_ST_needPlacement_14 : decode b_ST_needPlacement 14 = .ok (.dup, 1) := by decide +kernel
theorem d_ST_needPlacement_15 : decode b_ST_needPlacement 15 = .ok (.ldc_w 264, 3) := by decide +kernel
theorem d_ST_needPlacement_18 : decode b_ST_needPlacement 18 = .ok (.invokespecial 220, 3) := by decide +kernel
theorem d_ST_needPlacement_21 : decode b_ST_needPlacement 21 = .ok (.athrow, 1) := by decide +kernel
theorem d_ST_needPlacement_22 : decode b_ST_needPlacement 22 = .ok (.return_, 1) := by decide +kernel
theorem d_ST_needName_0 : decode b_ST_needName 0 = .ok (.iload_n 1, 1) := by decide +kernel
theorem d_ST_needName_1 : decode b_ST_needName 1 = .ok (.ifCond .lt 9, 3) := by decide +kernel
theorem d_ST_needName_4 : decode b_ST_needName 4 = .ok (.iload_n 1, 1) := by decide +kernel
theorem d_ST_needName_5 : decode b_ST_needName 5 = .ok (.bipush 32, 2) := by decide +kernel
theorem d_ST_needName_7 : decode b_ST_needName 7 = .ok (.if_icmp .lt 14, 3) := by decide +kernel
theorem d_ST_needName_10 : decode b_ST_needName 10 = .ok (.new 216, 3) := by decide +kernel
theorem d_ST_needName_13 : decode b_ST_needName 13 = .ok (.dup, 1) := by decide +kernel
theorem d_ST_needName_14 : decode b_ST_needName 14 = .ok (.ldc_w 266, 3) := by decide +kernel
theorem d_ST_needName_17 : decode b_ST_needName 17 = .ok (.invokespecial 220, 3) := by decide +kernel
theorem d_ST_needName_20 : decode b_ST_needName 20 = .ok (.athrow, 1) := by decide +kernel
theorem d_ST_needName_21 : decode b_ST_needName 21 = .ok (.return_, 1) := by decide +kernel
theorem d_ST_needPart_0 : decode b_ST_needPart 0 = .ok (.aload_n 0, 1) := by decide +kernel
theorem d_ST_needPart_1 : decode b_ST_needPart 1 = .ok (.getfield 39, 3) := by decide +kernel
theorem d_ST_needPart_4 : decode b_ST_needPart 4 = .ok (.iload_n 1, 1) := by decide +kernel
theorem d_ST_needPart_5 : decode b_ST_needPart 5 = .ok (.invokevirtual 268, 3) := by decide +kernel
theorem d_ST_needPart_8 : decode b_ST_needPart 8 = .ok (.ifCond .ne 14, 3) := by decide +kernel
theorem d_ST_needPart_11 : decode b_ST_needPart 11 = .ok (.new 216, 3) := by decide +kernel
theorem d_ST_needPart_14 : decode b_ST_needPart 14 = .ok (.dup, 1) := by decide +kernel
theorem d_ST_needPart_15 : decode b_ST_needPart 15 = .ok (.ldc_w 271, 3) := by decide +kernel
theorem d_ST_needPart_18 : decode b_ST_needPart 18 = .ok (.invokespecial 220, 3) := by decide +kernel
theorem d_ST_needPart_21 : decode b_ST_needPart 21 = .ok (.athrow, 1) := by decide +kernel
theorem d_ST_needPart_22 : decode b_ST_needPart 22 = .ok (.return_, 1) := by decide +kernel
theorem d_ST_needGate_0 : decode b_ST_needGate 0 = .ok (.iload_n 2, 1) := by decide +kernel
theorem d_ST_needGate_1 : decode b_ST_needGate 1 = .ok (.ifCond .lt 15, 3) := by decide +kernel
theorem d_ST_needGate_4 : decode b_ST_needGate 4 = .ok (.iload_n 2, 1) := by decide +kernel
theorem d_ST_needGate_5 : decode b_ST_needGate 5 = .ok (.aload_n 0, 1) := by decide +kernel
theorem d_ST_needGate_6 : decode b_ST_needGate 6 = .ok (.getfield 39, 3) := by decide +kernel
theorem d_ST_needGate_9 : decode b_ST_needGate 9 = .ok (.iload_n 1, 1) := by decide +kernel
theorem d_ST_needGate_10 : decode b_ST_needGate 10 = .ok (.invokevirtual 273, 3) := by decide +kernel
theorem d_ST_needGate_13 : decode b_ST_needGate 13 = .ok (.if_icmp .lt 14, 3) := by decide +kernel
theorem d_ST_needGate_16 : decode b_ST_needGate 16 = .ok (.new 216, 3) := by decide +kernel
theorem d_ST_needGate_19 : decode b_ST_needGate 19 = .ok (.dup, 1) := by decide +kernel
theorem d_ST_needGate_20 : decode b_ST_needGate 20 = .ok (.ldc_w 276, 3) := by decide +kernel
theorem d_ST_needGate_23 : decode b_ST_needGate 23 = .ok (.invokespecial 220, 3) := by decide +kernel
theorem d_ST_needGate_26 : decode b_ST_needGate 26 = .ok (.athrow, 1) := by decide +kernel
theorem d_ST_needGate_27 : decode b_ST_needGate 27 = .ok (.return_, 1) := by decide +kernel
theorem d_ST_needUnit_0 : decode b_ST_needUnit 0 = .ok (.iload_n 2, 1) := by decide +kernel
theorem d_ST_needUnit_1 : decode b_ST_needUnit 1 = .ok (.ifCond .lt 15, 3) := by decide +kernel
theorem d_ST_needUnit_4 : decode b_ST_needUnit 4 = .ok (.iload_n 2, 1) := by decide +kernel
theorem d_ST_needUnit_5 : decode b_ST_needUnit 5 = .ok (.aload_n 0, 1) := by decide +kernel
theorem d_ST_needUnit_6 : decode b_ST_needUnit 6 = .ok (.getfield 39, 3) := by decide +kernel
theorem d_ST_needUnit_9 : decode b_ST_needUnit 9 = .ok (.iload_n 1, 1) := by decide +kernel
theorem d_ST_needUnit_10 : decode b_ST_needUnit 10 = .ok (.invokevirtual 221, 3) := by decide +kernel
theorem d_ST_needUnit_13 : decode b_ST_needUnit 13 = .ok (.if_icmp .lt 14, 3) := by decide +kernel
theorem d_ST_needUnit_16 : decode b_ST_needUnit 16 = .ok (.new 216, 3) := by decide +kernel
theorem d_ST_needUnit_19 : decode b_ST_needUnit 19 = .ok (.dup, 1) := by decide +kernel
theorem d_ST_needUnit_20 : decode b_ST_needUnit 20 = .ok (.ldc_w 278, 3) := by decide +kernel
theorem d_ST_needUnit_23 : decode b_ST_needUnit 23 = .ok (.invokespecial 220, 3) := by decide +kernel
theorem d_ST_needUnit_26 : decode b_ST_needUnit 26 = .ok (.athrow, 1) := by decide +kernel
theorem d_ST_needUnit_27 : decode b_ST_needUnit 27 = .ok (.return_, 1) := by decide +kernel
theorem d_ST_needVariant_0 : decode b_ST_needVariant 0 = .ok (.aload_n 0, 1) := by decide +kernel
theorem d_ST_needVariant_1 : decode b_ST_needVariant 1 = .ok (.getfield 46, 3) := by decide +kernel
theorem d_ST_needVariant_4 : decode b_ST_needVariant 4 = .ok (.iload_n 1, 1) := by decide +kernel
theorem d_ST_needVariant_5 : decode b_ST_needVariant 5 = .ok (.invokevirtual 280, 3) := by decide +kernel
theorem d_ST_needVariant_8 : decode b_ST_needVariant 8 = .ok (.ifCond .ne 14, 3) := by decide +kernel
theorem d_ST_needVariant_11 : decode b_ST_needVariant 11 = .ok (.new 216, 3) := by decide +kernel
theorem d_ST_needVariant_14 : decode b_ST_needVariant 14 = .ok (.dup, 1) := by decide +kernel
theorem d_ST_needVariant_15 : decode b_ST_needVariant 15 = .ok (.ldc_w 283, 3) := by decide +kernel
theorem d_ST_needVariant_18 : decode b_ST_needVariant 18 = .ok (.invokespecial 220, 3) := by decide +kernel
theorem d_ST_needVariant_21 : decode b_ST_needVariant 21 = .ok (.athrow, 1) := by decide +kernel
theorem d_ST_needVariant_22 : decode b_ST_needVariant 22 = .ok (.return_, 1) := by decide +kernel
theorem d_ST_needVariantOrNone_0 : decode b_ST_needVariantOrNone 0 = .ok (.iload_n 1, 1) := by decide +kernel
theorem d_ST_needVariantOrNone_1 : decode b_ST_needVariantOrNone 1 = .ok (.iconst (-1), 1) := by decide +kernel
theorem d_ST_needVariantOrNone_2 : decode b_ST_needVariantOrNone 2 = .ok (.if_icmp .eq 8, 3) := by decide +kernel
theorem d_ST_needVariantOrNone_5 : decode b_ST_needVariantOrNone 5 = .ok (.aload_n 0, 1) := by decide +kernel
theorem d_ST_needVariantOrNone_6 : decode b_ST_needVariantOrNone 6 = .ok (.iload_n 1, 1) := by decide +kernel
theorem d_ST_needVariantOrNone_7 : decode b_ST_needVariantOrNone 7 = .ok (.invokevirtual 243, 3) := by decide +kernel
theorem d_ST_needVariantOrNone_10 : decode b_ST_needVariantOrNone 10 = .ok (.return_, 1) := by decide +kernel
theorem d_ST_needPage_0 : decode b_ST_needPage 0 = .ok (.iload_n 1, 1) := by decide +kernel
theorem d_ST_needPage_1 : decode b_ST_needPage 1 = .ok (.ifCond .lt 14, 3) := by decide +kernel
theorem d_ST_needPage_4 : decode b_ST_needPage 4 = .ok (.iload_n 1, 1) := by decide +kernel
theorem d_ST_needPage_5 : decode b_ST_needPage 5 = .ok (.aload_n 0, 1) := by decide +kernel
theorem d_ST_needPage_6 : decode b_ST_needPage 6 = .ok (.getfield 30, 3) := by decide +kernel
theorem d_ST_needPage_9 : decode b_ST_needPage 9 = .ok (.invokevirtual 200, 3) := by decide +kernel
theorem d_ST_needPage_12 : decode b_ST_needPage 12 = .ok (.if_icmp .lt 14, 3) := by decide +kernel
theorem d_ST_needPage_15 : decode b_ST_needPage 15 = .ok (.new 216, 3) := by decide +kernel
theorem d_ST_needPage_18 : decode b_ST_needPage 18 = .ok (.dup, 1) := by decide +kernel
theorem d_ST_needPage_19 : decode b_ST_needPage 19 = .ok (.ldc_w 285, 3) := by decide +kernel
theorem d_ST_needPage_22 : decode b_ST_needPage 22 = .ok (.invokespecial 220, 3) := by decide +kernel
theorem d_ST_needPage_25 : decode b_ST_needPage 25 = .ok (.athrow, 1) := by decide +kernel
theorem d_ST_needPage_26 : decode b_ST_needPage 26 = .ok (.return_, 1) := by decide +kernel
theorem d_ST_holdsName_0 : decode b_ST_holdsName 0 = .ok (.iload_n 0, 1) := by decide +kernel
theorem d_ST_holdsName_1 : decode b_ST_holdsName 1 = .ok (.iconst 1, 1) := by decide +kernel
theorem d_ST_holdsName_2 : decode b_ST_holdsName 2 = .ok (.iload_n 1, 1) := by decide +kernel
theorem d_ST_holdsName_3 : decode b_ST_holdsName 3 = .ok (.ishl, 1) := by decide +kernel
theorem d_ST_holdsName_4 : decode b_ST_holdsName 4 = .ok (.iand, 1) := by decide +kernel
theorem d_ST_holdsName_5 : decode b_ST_holdsName 5 = .ok (.ifCond .eq 7, 3) := by decide +kernel
theorem d_ST_holdsName_8 : decode b_ST_holdsName 8 = .ok (.iconst 1, 1) := by decide +kernel
theorem d_ST_holdsName_9 : decode b_ST_holdsName 9 = .ok (.goto 4, 3) := by decide +kernel
theorem d_ST_holdsName_12 : decode b_ST_holdsName 12 = .ok (.iconst 0, 1) := by decide +kernel
theorem d_ST_holdsName_13 : decode b_ST_holdsName 13 = .ok (.ireturn, 1) := by decide +kernel
theorem d_ST_read_0 : decode b_ST_read 0 = .ok (.iload_n 1, 1) := by decide +kernel
theorem d_ST_read_1 : decode b_ST_read 1 = .ok (.ifCond .lt 15, 3) := by decide +kernel
theorem d_ST_read_4 : decode b_ST_read 4 = .ok (.iload_n 1, 1) := by decide +kernel
theorem d_ST_read_5 : decode b_ST_read 5 = .ok (.aload_n 0, 1) := by decide +kernel
theorem d_ST_read_6 : decode b_ST_read 6 = .ok (.arraylength, 1) := by decide +kernel
theorem d_ST_read_7 : decode b_ST_read 7 = .ok (.if_icmp .ge 9, 3) := by decide +kernel
theorem d_ST_read_10 : decode b_ST_read 10 = .ok (.aload_n 0, 1) := by decide +kernel
theorem d_ST_read_11 : decode b_ST_read 11 = .ok (.iload_n 1, 1) := by decide +kernel
theorem d_ST_read_12 : decode b_ST_read 12 = .ok (.iaload, 1) := by decide +kernel
theorem d_ST_read_13 : decode b_ST_read 13 = .ok (.goto 4, 3) := by decide +kernel
theorem d_ST_read_16 : decode b_ST_read 16 = .ok (.iconst (-1), 1) := by decide +kernel
theorem d_ST_read_17 : decode b_ST_read 17 = .ok (.ireturn, 1) := by decide +kernel
theorem d_ST_write_0 : decode b_ST_write 0 = .ok (.iload_n 1, 1) := by decide +kernel
theorem d_ST_write_1 : decode b_ST_write 1 = .ok (.ifCond .lt 13, 3) := by decide +kernel
theorem d_ST_write_4 : decode b_ST_write 4 = .ok (.iload_n 1, 1) := by decide +kernel
theorem d_ST_write_5 : decode b_ST_write 5 = .ok (.aload_n 0, 1) := by decide +kernel
theorem d_ST_write_6 : decode b_ST_write 6 = .ok (.arraylength, 1) := by decide +kernel
theorem d_ST_write_7 : decode b_ST_write 7 = .ok (.if_icmp .ge 7, 3) := by decide +kernel
theorem d_ST_write_10 : decode b_ST_write 10 = .ok (.aload_n 0, 1) := by decide +kernel
theorem d_ST_write_11 : decode b_ST_write 11 = .ok (.iload_n 1, 1) := by decide +kernel
theorem d_ST_write_12 : decode b_ST_write 12 = .ok (.iload_n 2, 1) := by decide +kernel
theorem d_ST_write_13 : decode b_ST_write 13 = .ok (.iastore, 1) := by decide +kernel
theorem d_ST_write_14 : decode b_ST_write 14 = .ok (.return_, 1) := by decide +kernel
theorem d_Book_init_0 : decode b_Book_init 0 = .ok (.aload_n 0, 1) := by decide +kernel
theorem d_Book_init_1 : decode b_Book_init 1 = .ok (.invokespecial 3, 3) := by decide +kernel
theorem d_Book_init_4 : decode b_Book_init 4 = .ok (.aload_n 0, 1) := by decide +kernel
theorem d_Book_init_5 : decode b_Book_init 5 = .ok (.sipush 301, 3) := by decide +kernel
theorem d_Book_init_8 : decode b_Book_init 8 = .ok (.newarray .int, 2) := by decide +kernel
theorem d_Book_init_10 : decode b_Book_init 10 = .ok (.putfield 9, 3) := by decide +kernel
theorem d_Book_init_13 : decode b_Book_init 13 = .ok (.aload_n 0, 1) := by decide +kernel
theorem d_Book_init_14 : decode b_Book_init 14 = .ok (.sipush 301, 3) := by decide +kernel
theorem d_Book_init_17 : decode b_Book_init 17 = .ok (.newarray .int, 2) := by decide +kernel
theorem d_Book_init_19 : decode b_Book_init 19 = .ok (.putfield 15, 3) := by decide +kernel
theorem d_Book_init_22 : decode b_Book_init 22 = .ok (.aload_n 0, 1) := by decide +kernel
theorem d_Book_init_23 : decode b_Book_init 23 = .ok (.sipush 301, 3) := by decide +kernel
theorem d_Book_init_26 : decode b_Book_init 26 = .ok (.newarray .int, 2) := by decide +kernel
theorem d_Book_init_28 : decode b_Book_init 28 = .ok (.putfield 18, 3) := by decide +kernel
theorem d_Book_init_31 : decode b_Book_init 31 = .ok (.aload_n 0, 1) := by decide +kernel
theorem d_Book_init_32 : decode b_Book_init 32 = .ok (.sipush 301, 3) := by decide +kernel
theorem d_Book_init_35 : decode b_Book_init 35 = .ok (.newarray .int, 2) := by decide +kernel
theorem d_Book_init_37 : decode b_Book_init 37 = .ok (.putfield 21, 3) := by decide +kernel
theorem d_Book_init_40 : decode b_Book_init 40 = .ok (.aload_n 0, 1) := by decide +kernel
theorem d_Book_init_41 : decode b_Book_init 41 = .ok (.sipush 301, 3) := by decide +kernel
theorem d_Book_init_44 : decode b_Book_init 44 = .ok (.newarray .int, 2) := by decide +kernel
theorem d_Book_init_46 : decode b_Book_init 46 = .ok (.putfield 24, 3) := by decide +kernel
theorem d_Book_init_49 : decode b_Book_init 49 = .ok (.aload_n 0, 1) := by decide +kernel
theorem d_Book_init_50 : decode b_Book_init 50 = .ok (.bipush 24, 2) := by decide +kernel
theorem d_Book_init_52 : decode b_Book_init 52 = .ok (.newarray .int, 2) := by decide +kernel
theorem d_Book_init_54 : decode b_Book_init 54 = .ok (.putfield 27, 3) := by decide +kernel
theorem d_Book_init_57 : decode b_Book_init 57 = .ok (.aload_n 0, 1) := by decide +kernel
theorem d_Book_init_58 : decode b_Book_init 58 = .ok (.aload_n 1, 1) := by decide +kernel
theorem d_Book_init_59 : decode b_Book_init 59 = .ok (.putfield 30, 3) := by decide +kernel
theorem d_Book_init_62 : decode b_Book_init 62 = .ok (.return_, 1) := by decide +kernel
theorem d_Book_lay_0 : decode b_Book_lay 0 = .ok (.aload_n 0, 1) := by decide +kernel
theorem d_Book_lay_1 : decode b_Book_lay 1 = .ok (.getfield 27, 3) := by decide +kernel
theorem d_Book_lay_4 : decode b_Book_lay 4 = .ok (.iconst 0, 1) := by decide +kernel
theorem d_Book_lay_5 : decode b_Book_lay 5 = .ok (.invokestatic 34, 3) := by decide +kernel
theorem d_Book_lay_8 : decode b_Book_lay 8 = .ok (.aload_n 0, 1) := by decide +kernel
theorem d_Book_lay_9 : decode b_Book_lay 9 = .ok (.iconst 0, 1) := by decide +kernel
theorem d_Book_lay_10 : decode b_Book_lay 10 = .ok (.putfield 40, 3) := by decide +kernel
theorem d_Book_lay_13 : decode b_Book_lay 13 = .ok (.aload_n 0, 1) := by decide +kernel
theorem d_Book_lay_14 : decode b_Book_lay 14 = .ok (.iconst 0, 1) := by decide +kernel
theorem d_Book_lay_15 : decode b_Book_lay 15 = .ok (.iconst (-1), 1) := by decide +kernel
theorem d_Book_lay_16 : decode b_Book_lay 16 = .ok (.iconst (-1), 1) := by decide +kernel
theorem d_Book_lay_17 : decode b_Book_lay 17 = .ok (.iconst 0, 1) := by decide +kernel
theorem d_Book_lay_18 : decode b_Book_lay 18 = .ok (.invokevirtual 44, 3) := by decide +kernel
theorem d_Book_lay_21 : decode b_Book_lay 21 = .ok (.pop, 1) := by decide +kernel
theorem d_Book_lay_22 : decode b_Book_lay 22 = .ok (.iconst 0, 1) := by decide +kernel
theorem d_Book_lay_23 : decode b_Book_lay 23 = .ok (.istore_n 1, 1) := by decide +kernel
theorem d_Book_lay_24 : decode b_Book_lay 24 = .ok (.iconst 0, 1) := by decide +kernel
theorem d_Book_lay_25 : decode b_Book_lay 25 = .ok (.istore_n 2, 1) := by decide +kernel
theorem d_Book_lay_26 : decode b_Book_lay 26 = .ok (.iload_n 2, 1) := by decide +kernel
theorem d_Book_lay_27 : decode b_Book_lay 27 = .ok (.sipush 300, 3) := by decide +kernel
theorem d_Book_lay_30 : decode b_Book_lay 30 = .ok (.if_icmp .ge 94, 3) := by decide +kernel
theorem d_Book_lay_33 : decode b_Book_lay 33 = .ok (.aload_n 0, 1) := by decide +kernel
theorem d_Book_lay_34 : decode b_Book_lay 34 = .ok (.getfield 30, 3) := by decide +kernel
theorem d_Book_lay_37 : decode b_Book_lay 37 = .ok (.aload_n 0, 1) := by decide +kernel
theorem d_Book_lay_38 : decode b_Book_lay 38 = .ok (.iload_n 1, 1) := by decide +kernel
theorem d_Book_lay_39 : decode b_Book_lay 39 = .ok (.invokevirtual 48, 3) := by decide +kernel
theorem d_Book_lay_42 : decode b_Book_lay 42 = .ok (.invokevirtual 52, 3) := by decide +kernel
theorem d_Book_lay_45 : decode b_Book_lay 45 = .ok (.istore_n 3, 1) := by decide +kernel
theorem d_Book_lay_46 : decode b_Book_lay 46 = .ok (.iconst 0, 1) := by decide +kernel
theorem d_Book_lay_47 : decode b_Book_lay 47 = .ok (.istore 4, 2) := by decide +kernel
theorem d_Book_lay_49 : decode b_Book_lay 49 = .ok (.iload 4, 2) := by decide +kernel
theorem d_Book_lay_51 : decode b_Book_lay 51 = .ok (.bipush 24, 2) := by decide +kernel
theorem d_Book_lay_53 : decode b_Book_lay 53 = .ok (.if_icmp .ge 37, 3) := by decide +kernel
theorem d_Book_lay_56 : decode b_Book_lay 56 = .ok (.iload_n 3, 1) := by decide +kernel
theorem d_Book_lay_57 : decode b_Book_lay 57 = .ok (.iconst (-1), 1) := by decide +kernel
theorem d_Book_lay_58 : decode b_Book_lay 58 = .ok (.if_icmp .ne 32, 3) := by decide +kernel
theorem d_Book_lay_61 : decode b_Book_lay 61 = .ok (.iload_n 1, 1) := by decide +kernel
theorem d_Book_lay_62 : decode b_Book_lay 62 = .ok (.ifCond .le 28, 3) := by decide +kernel
theorem d_Book_lay_65 : decode b_Book_lay 65 = .ok (.aload_n 0, 1) := by decide +kernel
theorem d_Book_lay_66 : decode b_Book_lay 66 = .ok (.getfield 30, 3) := by decide +kernel
theorem d_Book_lay_69 : decode b_Book_lay 69 = .ok (.aload_n 0, 1) := by decide +kernel
theorem d_Book_lay_70 : decode b_Book_lay 70 = .ok (.iload_n 1, 1) := by decide +kernel
theorem d_Book_lay_71 : decode b_Book_lay 71 = .ok (.invokevirtual 57, 3) := by decide +kernel
theorem d_Book_lay_74 : decode b_Book_lay 74 = .ok (.invokevirtual 60, 3) := by decide +kernel
theorem d_Book_lay_77 : decode b_Book_lay 77 = .ok (.istore_n 3, 1) := by decide +kernel
theorem d_Book_lay_78 : decode b_Book_lay 78 = .ok (.aload_n 0, 1) := by decide +kernel
theorem d_Book_lay_79 : decode b_Book_lay 79 = .ok (.iload_n 1, 1) := by decide +kernel
theorem d_Book_lay_80 : decode b_Book_lay 80 = .ok (.invokevirtual 63, 3) := by decide +kernel
theorem d_Book_lay_83 : decode b_Book_lay 83 = .ok (.istore_n 1, 1) := by decide +kernel
theorem d_Book_lay_84 : decode b_Book_lay 84 = .ok (.iinc 4 1, 3) := by decide +kernel
theorem d_Book_lay_87 : decode b_Book_lay 87 = .ok (.goto (-38), 3) := by decide +kernel
theorem d_Book_lay_90 : decode b_Book_lay 90 = .ok (.iload_n 3, 1) := by decide +kernel
theorem d_Book_lay_91 : decode b_Book_lay 91 = .ok (.iconst (-1), 1) := by decide +kernel
theorem d_Book_lay_92 : decode b_Book_lay 92 = .ok (.if_icmp .ne 4, 3) := by decide +kernel
theorem d_Book_lay_95 : decode b_Book_lay 95 = .ok (.return_, 1) := by decide +kernel
theorem d_Book_lay_96 : decode b_Book_lay 96 = .ok (.aload_n 0, 1) := by decide +kernel
theorem d_Book_lay_97 : decode b_Book_lay 97 = .ok (.aload_n 0, 1) := by decide +kernel
theorem d_Book_lay_98 : decode b_Book_lay 98 = .ok (.getfield 30, 3) := by decide +kernel
theorem d_Book_lay_101 : decode b_Book_lay 101 = .ok (.iload_n 3, 1) := by decide +kernel
theorem d_Book_lay_102 : decode b_Book_lay 102 = .ok (.invokevirtual 66, 3) := by decide +kernel
theorem d_Book_lay_105 : decode b_Book_lay 105 = .ok (.iload_n 3, 1) := by decide +kernel
theorem d_Book_lay_106 : decode b_Book_lay 106 = .ok (.iload_n 1, 1) := by decide +kernel
theorem d_Book_lay_107 : decode b_Book_lay 107 = .ok (.aload_n 0, 1) := by decide +kernel
theorem d_Book_lay_108 : decode b_Book_lay 108 = .ok (.iload_n 1, 1) := by decide +kernel
theorem d_Book_lay_109 : decode b_Book_lay 109 = .ok (.invokevirtual 69, 3) := by decide +kernel
theorem d_Book_lay_112 : decode b_Book_lay 112 = .ok (.iconst 1, 1) := by decide +kernel
theorem d_Book_lay_113 : decode b_Book_lay 113 = .ok (.iadd, 1) := by decide +kernel
theorem d_Book_lay_114 : decode b_Book_lay 114 = .ok (.invokevirtual 44, 3) := by decide +kernel
theorem d_Book_lay_117 : decode b_Book_lay 117 = .ok (.istore_n 1, 1) := by decide +kernel
theorem d_Book_lay_118 : decode b_Book_lay 118 = .ok (.iinc 2 1, 3) := by decide +kernel
theorem d_Book_lay_121 : decode b_Book_lay 121 = .ok (.goto (-95), 3) := by decide +kernel
theorem d_Book_lay_124 : decode b_Book_lay 124 = .ok (.return_, 1) := by decide +kernel
theorem d_Book_addPage_0 : decode b_Book_addPage 0 = .ok (.aload_n 0, 1) := by decide +kernel
theorem d_Book_addPage_1 : decode b_Book_addPage 1 = .ok (.getfield 40, 3) := by decide +kernel
theorem d_Book_addPage_4 : decode b_Book_addPage 4 = .ok (.istore 5, 2) := by decide +kernel
theorem d_Book_addPage_6 : decode b_Book_addPage 6 = .ok (.aload_n 0, 1) := by decide +kernel
theorem d_Book_addPage_7 : decode b_Book_addPage 7 = .ok (.getfield 9, 3) := by decide +kernel
theorem d_Book_addPage_10 : decode b_Book_addPage 10 = .ok (.iload 5, 2) := by decide +kernel
theorem d_Book_addPage_12 : decode b_Book_addPage 12 = .ok (.iload_n 1, 1) := by decide +kernel
theorem d_Book_addPage_13 : decode b_Book_addPage 13 = .ok (.invokestatic 72, 3) := by decide +kernel
theorem d_Book_addPage_16 : decode b_Book_addPage 16 = .ok (.aload_n 0, 1) := by decide +kernel
theorem d_Book_addPage_17 : decode b_Book_addPage 17 = .ok (.getfield 15, 3) := by decide +kernel
theorem d_Book_addPage_20 : decode b_Book_addPage 20 = .ok (.iload 5, 2) := by decide +kernel
theorem d_Book_addPage_22 : decode b_Book_addPage 22 = .ok (.iload_n 2, 1) := by decide +kernel
theorem d_Book_addPage_23 : decode b_Book_addPage 23 = .ok (.invokestatic 72, 3) := by decide +kernel
theorem d_Book_addPage_26 : decode b_Book_addPage 26 = .ok (.aload_n 0, 1) := by decide +kernel
theorem d_Book_addPage_27 : decode b_Book_addPage 27 = .ok (.getfield 18, 3) := by decide +kernel
theorem d_Book_addPage_30 : decode b_Book_addPage 30 = .ok (.iload 5, 2) := by decide +kernel
theorem d_Book_addPage_32 : decode b_Book_addPage 32 = .ok (.iload_n 3, 1) := by decide +kernel
theorem d_Book_addPage_33 : decode b_Book_addPage 33 = .ok (.invokestatic 72, 3) := by decide +kernel
theorem d_Book_addPage_36 : decode b_Book_addPage 36 = .ok (.aload_n 0, 1) := by decide +kernel
theorem d_Book_addPage_37 : decode b_Book_addPage 37 = .ok (.getfield 21, 3) := by decide +kernel
theorem d_Book_addPage_40 : decode b_Book_addPage 40 = .ok (.iload 5, 2) := by decide +kernel
theorem d_Book_addPage_42 : decode b_Book_addPage 42 = .ok (.iload 4, 2) := by decide +kernel
theorem d_Book_addPage_44 : decode b_Book_addPage 44 = .ok (.invokestatic 72, 3) := by decide +kernel
theorem d_Book_addPage_47 : decode b_Book_addPage 47 = .ok (.aload_n 0, 1) := by decide +kernel
theorem d_Book_addPage_48 : decode b_Book_addPage 48 = .ok (.getfield 24, 3) := by decide +kernel
theorem d_Book_addPage_51 : decode b_Book_addPage 51 = .ok (.iload 5, 2) := by decide +kernel
theorem d_Book_addPage_53 : decode b_Book_addPage 53 = .ok (.aload_n 0, 1) := by decide +kernel
theorem d_Book_addPage_54 : decode b_Book_addPage 54 = .ok (.iload_n 1, 1) := by decide +kernel
theorem d_Book_addPage_55 : decode b_Book_addPage 55 = .ok (.invokevirtual 76, 3) := by decide +kernel
theorem d_Book_addPage_58 : decode b_Book_addPage 58 = .ok (.invokestatic 72, 3) := by decide +kernel
theorem d_Book_addPage_61 : decode b_Book_addPage 61 = .ok (.aload_n 0, 1) := by decide +kernel
theorem d_Book_addPage_62 : decode b_Book_addPage 62 = .ok (.getfield 27, 3) := by decide +kernel
theorem d_Book_addPage_65 : decode b_Book_addPage 65 = .ok (.iload_n 1, 1) := by decide +kernel
theorem d_Book_addPage_66 : decode b_Book_addPage 66 = .ok (.aload_n 0, 1) := by decide +kernel
theorem d_Book_addPage_67 : decode b_Book_addPage 67 = .ok (.iload_n 1, 1) := by decide +kernel
theorem d_Book_addPage_68 : decode b_Book_addPage 68 = .ok (.invokevirtual 76, 3) := by decide +kernel
theorem d_Book_addPage_71 : decode b_Book_addPage 71 = .ok (.iconst 1, 1) := by decide +kernel
theorem d_Book_addPage_72 : decode b_Book_addPage 72 = .ok (.iadd, 1) := by decide +kernel
theorem d_Book_addPage_73 : decode b_Book_addPage 73 = .ok (.invokestatic 72, 3) := by decide +kernel
theorem d_Book_addPage_76 : decode b_Book_addPage 76 = .ok (.aload_n 0, 1) := by decide +kernel
theorem d_Book_addPage_77 : decode b_Book_addPage 77 = .ok (.dup, 1) := by decide +kernel
theorem d_Book_addPage_78 : decode b_Book_addPage 78 = .ok (.getfield 40, 3) := by decide +kernel
theorem d_Book_addPage_81 : decode b_Book_addPage 81 = .ok (.iconst 1, 1) := by decide +kernel
theorem d_Book_addPage_82 : decode b_Book_addPage 82 = .ok (.iadd, 1) := by decide +kernel
theorem d_Book_addPage_83 : decode b_Book_addPage 83 = .ok (.putfield 40, 3) := by decide +kernel
theorem d_Book_addPage_86 : decode b_Book_addPage 86 = .ok (.iload 5, 2) := by decide +kernel
theorem d_Book_addPage_88 : decode b_Book_addPage 88 = .ok (.ireturn, 1) := by decide +kernel
theorem d_Book_isWithinLimit_0 : decode b_Book_isWithinLimit 0 = .ok (.aload_n 0, 1) := by decide +kernel
theorem d_Book_isWithinLimit_1 : decode b_Book_isWithinLimit 1 = .ok (.getfield 40, 3) := by decide +kernel
theorem d_Book_isWithinLimit_4 : decode b_Book_isWithinLimit 4 = .ok (.sipush 300, 3) := by decide +kernel
theorem d_Book_isWithinLimit_7 : decode b_Book_isWithinLimit 7 = .ok (.if_icmp .gt 7, 3) := by decide +kernel
theorem d_Book_isWithinLimit_10 : decode b_Book_isWithinLimit 10 = .ok (.iconst 1, 1) := by decide +kernel
theorem d_Book_isWithinLimit_11 : decode b_Book_isWithinLimit 11 = .ok (.goto 4, 3) := by decide +kernel
theorem d_Book_isWithinLimit_14 : decode b_Book_isWithinLimit 14 = .ok (.iconst 0, 1) := by decide +kernel
theorem d_Book_isWithinLimit_15 : decode b_Book_isWithinLimit 15 = .ok (.ireturn, 1) := by decide +kernel
theorem d_Book_count_0 : decode b_Book_count 0 = .ok (.aload_n 0, 1) := by decide +kernel
theorem d_Book_count_1 : decode b_Book_count 1 = .ok (.getfield 40, 3) := by decide +kernel
theorem d_Book_count_4 : decode b_Book_count 4 = .ok (.ireturn, 1) := by decide +kernel
theorem d_Book_sheetAt_0 : decode b_Book_sheetAt 0 = .ok (.aload_n 0, 1) := by decide +kernel
theorem d_Book_sheetAt_1 : decode b_Book_sheetAt 1 = .ok (.getfield 9, 3) := by decide +kernel
theorem d_Book_sheetAt_4 : decode b_Book_sheetAt 4 = .ok (.iload_n 1, 1) := by decide +kernel
theorem d_Book_sheetAt_5 : decode b_Book_sheetAt 5 = .ok (.invokestatic 79, 3) := by decide +kernel
theorem d_Book_sheetAt_8 : decode b_Book_sheetAt 8 = .ok (.ireturn, 1) := by decide +kernel
theorem d_Book_placementAt_0 : decode b_Book_placementAt 0 = .ok (.aload_n 0, 1) := by decide +kernel
theorem d_Book_placementAt_1 : decode b_Book_placementAt 1 = .ok (.getfield 15, 3) := by decide +kernel
theorem d_Book_placementAt_4 : decode b_Book_placementAt 4 = .ok (.iload_n 1, 1) := by decide +kernel
theorem d_Book_placementAt_5 : decode b_Book_placementAt 5 = .ok (.invokestatic 79, 3) := by decide +kernel
theorem d_Book_placementAt_8 : decode b_Book_placementAt 8 = .ok (.ireturn, 1) := by decide +kernel
theorem d_Book_pageAbove_0 : decode b_Book_pageAbove 0 = .ok (.aload_n 0, 1) := by decide +kernel
theorem d_Book_pageAbove_1 : decode b_Book_pageAbove 1 = .ok (.getfield 18, 3) := by decide +kernel
theorem d_Book_pageAbove_4 : decode b_Book_pageAbove 4 = .ok (.iload_n 1, 1) := by decide +kernel
theorem d_Book_pageAbove_5 : decode b_Book_pageAbove 5 = .ok (.invokestatic 79, 3) := by decide +kernel
theorem d_Book_pageAbove_8 : decode b_Book_pageAbove 8 = .ok (.ireturn, 1) := by decide +kernel
theorem d_Book_depthAt_0 : decode b_Book_depthAt 0 = .ok (.aload_n 0, 1) := by decide +kernel
theorem d_Book_depthAt_1 : decode b_Book_depthAt 1 = .ok (.getfield 21, 3) := by decide +kernel
theorem d_Book_depthAt_4 : decode b_Book_depthAt 4 = .ok (.iload_n 1, 1) := by decide +kernel
theorem d_Book_depthAt_5 : decode b_Book_depthAt 5 = .ok (.invokestatic 79, 3) := by decide +kernel
theorem d_Book_depthAt_8 : decode b_Book_depthAt 8 = .ok (.ireturn, 1) := by decide +kernel
theorem d_Book_comingAt_0 : decode b_Book_comingAt 0 = .ok (.aload_n 0, 1) := by decide +kernel
theorem d_Book_comingAt_1 : decode b_Book_comingAt 1 = .ok (.getfield 24, 3) := by decide +kernel
theorem d_Book_comingAt_4 : decode b_Book_comingAt 4 = .ok (.iload_n 1, 1) := by decide +kernel
theorem d_Book_comingAt_5 : decode b_Book_comingAt 5 = .ok (.invokestatic 79, 3) := by decide +kernel
theorem d_Book_comingAt_8 : decode b_Book_comingAt 8 = .ok (.ireturn, 1) := by decide +kernel
theorem d_Book_comingsOf_0 : decode b_Book_comingsOf 0 = .ok (.aload_n 0, 1) := by decide +kernel
theorem d_Book_comingsOf_1 : decode b_Book_comingsOf 1 = .ok (.getfield 27, 3) := by decide +kernel
theorem d_Book_comingsOf_4 : decode b_Book_comingsOf 4 = .ok (.iload_n 1, 1) := by decide +kernel
theorem d_Book_comingsOf_5 : decode b_Book_comingsOf 5 = .ok (.invokestatic 79, 3) := by decide +kernel
theorem d_Book_comingsOf_8 : decode b_Book_comingsOf 8 = .ok (.iconst 0, 1) := by decide +kernel
theorem d_Book_comingsOf_9 : decode b_Book_comingsOf 9 = .ok (.invokestatic 83, 3) := by decide +kernel
theorem d_Book_comingsOf_12 : decode b_Book_comingsOf 12 = .ok (.ireturn, 1) := by decide +kernel
theorem d_Book_pageOfComing_0 : decode b_Book_pageOfComing 0 = .ok (.iconst 0, 1) := by decide +kernel
theorem d_Book_pageOfComing_1 : decode b_Book_pageOfComing 1 = .ok (.istore_n 3, 1) := by decide +kernel
theorem d_Book_pageOfComing_2 : decode b_Book_pageOfComing 2 = .ok (.iload_n 3, 1) := by decide +kernel
theorem d_Book_pageOfComing_3 : decode b_Book_pageOfComing 3 = .ok (.aload_n 0, 1) := by decide +kernel
theorem d_Book_pageOfComing_4 : decode b_Book_pageOfComing 4 = .ok (.getfield 40, 3) := by decide +kernel
theorem d_Book_pageOfComing_7 : decode b_Book_pageOfComing 7 = .ok (.if_icmp .ge 29, 3) := by decide +kernel
theorem d_Book_pageOfComing_10 : decode b_Book_pageOfComing 10 = .ok (.aload_n 0, 1) := by decide +kernel
theorem d_Book_pageOfComing_11 : decode b_Book_pageOfComing 11 = .ok (.iload_n 3, 1) := by decide +kernel
theorem d_Book_pageOfComing_12 : decode b_Book_pageOfComing 12 = .ok (.invokevirtual 48, 3) := by decide +kernel
theorem d_Book_pageOfComing_15 : decode b_Book_pageOfComing 15 = .ok (.iload_n 1, 1) := by decide +kernel
theorem d_Book_pageOfComing_16 : decode b_Book_pageOfComing 16 = .ok (.if_icmp .ne 14, 3) := by decide +kernel
theorem d_Book_pageOfComing_19 : decode b_Book_pageOfComing 19 = .ok (.aload_n 0, 1) := by decide +kernel
theorem d_Book_pageOfComing_20 : decode b_Book_pageOfComing 20 = .ok (.iload_n 3, 1) := by decide +kernel
theorem d_Book_pageOfComing_21 : decode b_Book_pageOfComing 21 = .ok (.invokevirtual 89, 3) := by decide +kernel
theorem d_Book_pageOfComing_24 : decode b_Book_pageOfComing 24 = .ok (.iload_n 2, 1) := by decide +kernel
theorem d_Book_pageOfComing_25 : decode b_Book_pageOfComing 25 = .ok (.if_icmp .ne 5, 3) := by decide +kernel
theorem d_Book_pageOfComing_28 : decode b_Book_pageOfComing 28 = .ok (.iload_n 3, 1) := by decide +kernel
theorem d_Book_pageOfComing_29 : decode b_Book_pageOfComing 29 = .ok (.ireturn, 1) := by decide +kernel
theorem d_Book_pageOfComing_30 : decode b_Book_pageOfComing 30 = .ok (.iinc 3 1, 3) := by decide +kernel
theorem d_Book_pageOfComing_33 : decode b_Book_pageOfComing 33 = .ok (.goto (-31), 3) := by decide +kernel
theorem d_Book_pageOfComing_36 : decode b_Book_pageOfComing 36 = .ok (.iconst (-1), 1) := by decide +kernel
theorem d_Book_pageOfComing_37 : decode b_Book_pageOfComing 37 = .ok (.ireturn, 1) := by decide +kernel
theorem d_Change_init_0 : decode b_Change_init 0 = .ok (.aload_n 0, 1) := by decide +kernel
theorem d_Change_init_1 : decode b_Change_init 1 = .ok (.invokespecial 1, 3) := by decide +kernel
theorem d_Change_init_4 : decode b_Change_init 4 = .ok (.aload_n 0, 1) := by decide +kernel
theorem d_Change_init_5 : decode b_Change_init 5 = .ok (.aload_n 1, 1) := by decide +kernel
theorem d_Change_init_6 : decode b_Change_init 6 = .ok (.putfield 7, 3) := by decide +kernel
theorem d_Change_init_9 : decode b_Change_init 9 = .ok (.aload_n 0, 1) := by decide +kernel
theorem d_Change_init_10 : decode b_Change_init 10 = .ok (.iload_n 2, 1) := by decide +kernel
theorem d_Change_init_11 : decode b_Change_init 11 = .ok (.putfield 13, 3) := by decide +kernel
theorem d_Change_init_14 : decode b_Change_init 14 = .ok (.aload_n 0, 1) := by decide +kernel
theorem d_Change_init_15 : decode b_Change_init 15 = .ok (.lload_n 3, 1) := by decide +kernel
theorem d_Change_init_16 : decode b_Change_init 16 = .ok (.putfield 17, 3) := by decide +kernel
theorem d_Change_init_19 : decode b_Change_init 19 = .ok (.aload_n 0, 1) := by decide +kernel
theorem d_Change_init_20 : decode b_Change_init 20 = .ok (.aload 5, 2) := by decide +kernel
theorem d_Change_init_22 : decode b_Change_init 22 = .ok (.putfield 21, 3) := by decide +kernel
theorem d_Change_init_25 : decode b_Change_init 25 = .ok (.return_, 1) := by decide +kernel
theorem d_Change_takeBack_0 : decode b_Change_takeBack 0 = .ok (.aload_n 0, 1) := by decide +kernel
theorem d_Change_takeBack_1 : decode b_Change_takeBack 1 = .ok (.getfield 7, 3) := by decide +kernel
theorem d_Change_takeBack_4 : decode b_Change_takeBack 4 = .ok (.aload_n 0, 1) := by decide +kernel
theorem d_Change_takeBack_5 : decode b_Change_takeBack 5 = .ok (.getfield 13, 3) := by decide +kernel
theorem d_Change_takeBack_8 : decode b_Change_takeBack 8 = .ok (.aload_n 0, 1) := by decide +kernel
theorem d_Change_takeBack_9 : decode b_Change_takeBack 9 = .ok (.getfield 17, 3) := by decide +kernel
theorem d_Change_takeBack_12 : decode b_Change_takeBack 12 = .ok (.invokevirtual 25, 3) := by decide +kernel
theorem d_Change_takeBack_15 : decode b_Change_takeBack 15 = .ok (.return_, 1) := by decide +kernel
theorem d_Journal_init_0 : decode b_Journal_init 0 = .ok (.aload_n 0, 1) := by decide +kernel
theorem d_Journal_init_1 : decode b_Journal_init 1 = .ok (.invokespecial 3, 3) := by decide +kernel
theorem d_Journal_init_4 : decode b_Journal_init 4 = .ok (.aload_n 0, 1) := by decide +kernel
theorem d_Journal_init_5 : decode b_Journal_init 5 = .ok (.bipush 50, 2) := by decide +kernel
theorem d_Journal_init_7 : decode b_Journal_init 7 = .ok (.anewarray 9, 3) := by decide +kernel
theorem d_Journal_init_10 : decode b_Journal_init 10 = .ok (.putfield 11, 3) := by decide +kernel
theorem d_Journal_init_13 : decode b_Journal_init 13 = .ok (.return_, 1) := by decide +kernel
theorem d_Journal_note_0 : decode b_Journal_note 0 = .ok (.aload_n 0, 1) := by decide +kernel
theorem d_Journal_note_1 : decode b_Journal_note 1 = .ok (.new 9, 3) := by decide +kernel
theorem d_Journal_note_4 : decode b_Journal_note 4 = .ok (.dup, 1) := by decide +kernel
theorem d_Journal_note_5 : decode b_Journal_note 5 = .ok (.aload_n 1, 1) := by decide +kernel
theorem d_Journal_note_6 : decode b_Journal_note 6 = .ok (.iload_n 2, 1) := by decide +kernel
theorem d_Journal_note_7 : decode b_Journal_note 7 = .ok (.lload_n 3, 1) := by decide +kernel
theorem d_Journal_note_8 : decode b_Journal_note 8 = .ok (.aload_n 0, 1) := by decide +kernel
theorem d_Journal_note_9 : decode b_Journal_note 9 = .ok (.getfield 17, 3) := by decide +kernel
theorem d_Journal_note_12 : decode b_Journal_note 12 = .ok (.invokespecial 21, 3) := by decide +kernel
theorem d_Journal_note_15 : decode b_Journal_note 15 = .ok (.putfield 17, 3) := by decide +kernel
theorem d_Journal_note_18 : decode b_Journal_note 18 = .ok (.return_, 1) := by decide +kernel
theorem d_Journal_keep_0 : decode b_Journal_keep 0 = .ok (.aload_n 0, 1) := by decide +kernel
theorem d_Journal_keep_1 : decode b_Journal_keep 1 = .ok (.aload_n 0, 1) := by decide +kernel
theorem d_Journal_keep_2 : decode b_Journal_keep 2 = .ok (.getfield 24, 3) := by decide +kernel
theorem d_Journal_keep_5 : decode b_Journal_keep 5 = .ok (.aload_n 0, 1) := by decide +kernel
theorem d_Journal_keep_6 : decode b_Journal_keep 6 = .ok (.getfield 17, 3) := by decide +kernel
theorem d_Journal_keep_9 : decode b_Journal_keep 9 = .ok (.invokevirtual 28, 3) := by decide +kernel
theorem d_Journal_keep_12 : decode b_Journal_keep 12 = .ok (.aload_n 0, 1) := by decide +kernel
theorem d_Journal_keep_13 : decode b_Journal_keep 13 = .ok (.aconst_null, 1) := by decide +kernel
theorem d_Journal_keep_14 : decode b_Journal_keep 14 = .ok (.putfield 17, 3) := by decide +kernel
theorem d_Journal_keep_17 : decode b_Journal_keep 17 = .ok (.aload_n 0, 1) := by decide +kernel
theorem d_Journal_keep_18 : decode b_Journal_keep 18 = .ok (.aload_n 0, 1) := by decide +kernel
theorem d_Journal_keep_19 : decode b_Journal_keep 19 = .ok (.getfield 24, 3) := by decide +kernel
theorem d_Journal_keep_22 : decode b_Journal_keep 22 = .ok (.iconst 1, 1) := by decide +kernel
theorem d_Journal_keep_23 : decode b_Journal_keep 23 = .ok (.iadd, 1) := by decide +kernel
theorem d_Journal_keep_24 : decode b_Journal_keep 24 = .ok (.bipush 50, 2) := by decide +kernel
theorem d_Journal_keep_26 : decode b_Journal_keep 26 = .ok (.irem, 1) := by decide +kernel
theorem d_Journal_keep_27 : decode b_Journal_keep 27 = .ok (.putfield 24, 3) := by decide +kernel
theorem d_Journal_keep_30 : decode b_Journal_keep 30 = .ok (.aload_n 0, 1) := by decide +kernel
theorem d_Journal_keep_31 : decode b_Journal_keep 31 = .ok (.aload_n 0, 1) := by decide +kernel
theorem d_Journal_keep_32 : decode b_Journal_keep 32 = .ok (.getfield 32, 3) := by decide +kernel
theorem d_Journal_keep_35 : decode b_Journal_keep 35 = .ok (.iconst 1, 1) := by decide +kernel
theorem d_Journal_keep_36 : decode b_Journal_keep 36 = .ok (.iadd, 1) := by decide +kernel
theorem d_Journal_keep_37 : decode b_Journal_keep 37 = .ok (.bipush 50, 2) := by decide +kernel
theorem d_Journal_keep_39 : decode b_Journal_keep 39 = .ok (.invokestatic 35, 3) := by decide +kernel
theorem d_Journal_keep_42 : decode b_Journal_keep 42 = .ok (.putfield 32, 3) := by decide +kernel
theorem d_Journal_keep_45 : decode b_Journal_keep 45 = .ok (.return_, 1) := by decide +kernel
theorem d_Journal_takeBack_0 : decode b_Journal_takeBack 0 = .ok (.aload_n 0, 1) := by decide +kernel
theorem d_Journal_takeBack_1 : decode b_Journal_takeBack 1 = .ok (.getfield 17, 3) := by decide +kernel
theorem d_Journal_takeBack_4 : decode b_Journal_takeBack 4 = .ok (.astore_n 1, 1) := by decide +kernel
theorem d_Journal_takeBack_5 : decode b_Journal_takeBack 5 = .ok (.aload_n 1, 1) := by decide +kernel
theorem d_Journal_takeBack_6 : decode b_Journal_takeBack 6 = .ok (.ifnull 15, 3) := by decide +kernel
theorem d_Journal_takeBack_9 : decode b_Journal_takeBack 9 = .ok (.aload_n 1, 1) := by decide +kernel
theorem d_Journal_takeBack_10 : decode b_Journal_takeBack 10 = .ok (.invokevirtual 41, 3) := by decide +kernel
theorem d_Journal_takeBack_13 : decode b_Journal_takeBack 13 = .ok (.aload_n 1, 1) := by decide +kernel
theorem d_Journal_takeBack_14 : decode b_Journal_takeBack 14 = .ok (.getfield 44, 3) := by decide +kernel
theorem d_Journal_takeBack_17 : decode b_Journal_takeBack 17 = .ok (.astore_n 1, 1) := by decide +kernel
theorem d_Journal_takeBack_18 : decode b_Journal_takeBack 18 = .ok (.goto (-13), 3) := by decide +kernel
theorem d_Journal_takeBack_21 : decode b_Journal_takeBack 21 = .ok (.aload_n 0, 1) := by decide +kernel
theorem d_Journal_takeBack_22 : decode b_Journal_takeBack 22 = .ok (.aconst_null, 1) := by decide +kernel
theorem d_Journal_takeBack_23 : decode b_Journal_takeBack 23 = .ok (.putfield 17, 3) := by decide +kernel
theorem d_Journal_takeBack_26 : decode b_Journal_takeBack 26 = .ok (.return_, 1) := by decide +kernel
theorem d_Journal_stepBack_0 : decode b_Journal_stepBack 0 = .ok (.aload_n 0, 1) := by decide +kernel
theorem d_Journal_stepBack_1 : decode b_Journal_stepBack 1 = .ok (.getfield 32, 3) := by decide +kernel
theorem d_Journal_stepBack_4 : decode b_Journal_stepBack 4 = .ok (.ifCond .ne 5, 3) := by decide +kernel
theorem d_Journal_stepBack_7 : decode b_Journal_stepBack 7 = .ok (.iconst 0, 1) := by decide +kernel
theorem d_Journal_stepBack_8 : decode b_Journal_stepBack 8 = .ok (.ireturn, 1) := by decide +kernel
theorem d_Journal_stepBack_9 : decode b_Journal_stepBack 9 = .ok (.aload_n 0, 1) := by decide +kernel
theorem d_Journal_stepBack_10 : decode b_Journal_stepBack 10 = .ok (.dup, 1) := by decide +kernel
theorem d_Journal_stepBack_11 : decode b_Journal_stepBack 11 = .ok (.getfield 32, 3) := by decide +kernel
theorem d_Journal_stepBack_14 : decode b_Journal_stepBack 14 = .ok (.iconst 1, 1) := by decide +kernel
theorem d_Journal_stepBack_15 : decode b_Journal_stepBack 15 = .ok (.isub, 1) := by decide +kernel
theorem d_Journal_stepBack_16 : decode b_Journal_stepBack 16 = .ok (.putfield 32, 3) := by decide +kernel
theorem d_Journal_stepBack_19 : decode b_Journal_stepBack 19 = .ok (.aload_n 0, 1) := by decide +kernel
theorem d_Journal_stepBack_20 : decode b_Journal_stepBack 20 = .ok (.aload_n 0, 1) := by decide +kernel
theorem d_Journal_stepBack_21 : decode b_Journal_stepBack 21 = .ok (.getfield 24, 3) := by decide +kernel
theorem d_Journal_stepBack_24 : decode b_Journal_stepBack 24 = .ok (.bipush 50, 2) := by decide +kernel
theorem d_Journal_stepBack_26 : decode b_Journal_stepBack 26 = .ok (.iadd, 1) := by decide +kernel
theorem d_Journal_stepBack_27 : decode b_Journal_stepBack 27 = .ok (.iconst 1, 1) := by decide +kernel
theorem d_Journal_stepBack_28 : decode b_Journal_stepBack 28 = .ok (.isub, 1) := by decide +kernel
theorem d_Journal_stepBack_29 : decode b_Journal_stepBack 29 = .ok (.bipush 50, 2) := by decide +kernel
theorem d_Journal_stepBack_31 : decode b_Journal_stepBack 31 = .ok (.irem, 1) := by decide +kernel
theorem d_Journal_stepBack_32 : decode b_Journal_stepBack 32 = .ok (.putfield 24, 3) := by decide +kernel
theorem d_Journal_stepBack_35 : decode b_Journal_stepBack 35 = .ok (.aload_n 0, 1) := by decide +kernel
theorem d_Journal_stepBack_36 : decode b_Journal_stepBack 36 = .ok (.aload_n 0, 1) := by decide +kernel
theorem d_Journal_stepBack_37 : decode b_Journal_stepBack 37 = .ok (.aload_n 0, 1) := by decide +kernel
theorem d_Journal_stepBack_38 : decode b_Journal_stepBack 38 = .ok (.getfield 24, 3) := by decide +kernel
theorem d_Journal_stepBack_41 : decode b_Journal_stepBack 41 = .ok (.invokevirtual 47, 3) := by decide +kernel
theorem d_Journal_stepBack_44 : decode b_Journal_stepBack 44 = .ok (.putfield 17, 3) := by decide +kernel
theorem d_Journal_stepBack_47 : decode b_Journal_stepBack 47 = .ok (.aload_n 0, 1) := by decide +kernel
theorem d_Journal_stepBack_48 : decode b_Journal_stepBack 48 = .ok (.aload_n 0, 1) := by decide +kernel
theorem d_Journal_stepBack_49 : decode b_Journal_stepBack 49 = .ok (.getfield 24, 3) := by decide +kernel
theorem d_Journal_stepBack_52 : decode b_Journal_stepBack 52 = .ok (.aconst_null, 1) := by decide +kernel
theorem d_Journal_stepBack_53 : decode b_Journal_stepBack 53 = .ok (.invokevirtual 28, 3) := by decide +kernel
theorem d_Journal_stepBack_56 : decode b_Journal_stepBack 56 = .ok (.aload_n 0, 1) := by decide +kernel
theorem d_Journal_stepBack_57 : decode b_Journal_stepBack 57 = .ok (.invokevirtual 51, 3) := by decide +kernel
theorem d_Journal_stepBack_60 : decode b_Journal_stepBack 60 = .ok (.iconst 1, 1) := by decide +kernel
theorem d_Journal_stepBack_61 : decode b_Journal_stepBack 61 = .ok (.ireturn, 1) := by decide +kernel
theorem d_Journal_getAct_0 : decode b_Journal_getAct 0 = .ok (.iload_n 1, 1) := by decide +kernel
theorem d_Journal_getAct_1 : decode b_Journal_getAct 1 = .ok (.ifCond .lt 21, 3) := by decide +kernel
theorem d_Journal_getAct_4 : decode b_Journal_getAct 4 = .ok (.iload_n 1, 1) := by decide +kernel
theorem d_Journal_getAct_5 : decode b_Journal_getAct 5 = .ok (.aload_n 0, 1) := by decide +kernel
theorem d_Journal_getAct_6 : decode b_Journal_getAct 6 = .ok (.getfield 11, 3) := by decide +kernel
theorem d_Journal_getAct_9 : decode b_Journal_getAct 9 = .ok (.arraylength, 1) := by decide +kernel
theorem d_Journal_getAct_10 : decode b_Journal_getAct 10 = .ok (.if_icmp .ge 12, 3) := by decide +kernel
theorem d_Journal_getAct_13 : decode b_Journal_getAct 13 = .ok (.aload_n 0, 1) := by decide +kernel
theorem d_Journal_getAct_14 : decode b_Journal_getAct 14 = .ok (.getfield 11, 3) := by decide +kernel
theorem d_Journal_getAct_17 : decode b_Journal_getAct 17 = .ok (.iload_n 1, 1) := by decide +kernel
theorem d_Journal_getAct_18 : decode b_Journal_getAct 18 = .ok (.aaload, 1) := by decide +kernel
theorem d_Journal_getAct_19 : decode b_Journal_getAct 19 = .ok (.goto 4, 3) := by decide +kernel
theorem d_Journal_getAct_22 : decode b_Journal_getAct 22 = .ok (.aconst_null, 1) := by decide +kernel
theorem d_Journal_getAct_23 : decode b_Journal_getAct 23 = .ok (.areturn, 1) := by decide +kernel
theorem d_Journal_putAct_0 : decode b_Journal_putAct 0 = .ok (.iload_n 1, 1) := by decide +kernel
theorem d_Journal_putAct_1 : decode b_Journal_putAct 1 = .ok (.ifCond .lt 19, 3) := by decide +kernel
theorem d_Journal_putAct_4 : decode b_Journal_putAct 4 = .ok (.iload_n 1, 1) := by decide +kernel
theorem d_Journal_putAct_5 : decode b_Journal_putAct 5 = .ok (.aload_n 0, 1) := by decide +kernel
theorem d_Journal_putAct_6 : decode b_Journal_putAct 6 = .ok (.getfield 11, 3) := by decide +kernel
theorem d_Journal_putAct_9 : decode b_Journal_putAct 9 = .ok (.arraylength, 1) := by decide +kernel
theorem d_Journal_putAct_10 : decode b_Journal_putAct 10 = .ok (.if_icmp .ge 10, 3) := by decide +kernel
theorem d_Journal_putAct_13 : decode b_Journal_putAct 13 = .ok (.aload_n 0, 1) := by decide +kernel
theorem d_Journal_putAct_14 : decode b_Journal_putAct 14 = .ok (.getfield 11, 3) := by decide +kernel
theorem d_Journal_putAct_17 : decode b_Journal_putAct 17 = .ok (.iload_n 1, 1) := by decide +kernel
theorem d_Journal_putAct_18 : decode b_Journal_putAct 18 = .ok (.aload_n 2, 1) := by decide +kernel
theorem d_Journal_putAct_19 : decode b_Journal_putAct 19 = .ok (.aastore, 1) := by decide +kernel
theorem d_Journal_putAct_20 : decode b_Journal_putAct 20 = .ok (.return_, 1) := by decide +kernel
theorem d_Parts_init_0 : decode b_Parts_init 0 = .ok (.aload_n 0, 1) := by decide +kernel
theorem d_Parts_init_1 : decode b_Parts_init 1 = .ok (.invokespecial 3, 3) := by decide +kernel
theorem d_Parts_init_4 : decode b_Parts_init 4 = .ok (.aload_n 0, 1) := by decide +kernel
theorem d_Parts_init_5 : decode b_Parts_init 5 = .ok (.bipush 30, 2) := by decide +kernel
theorem d_Parts_init_7 : decode b_Parts_init 7 = .ok (.newarray .int, 2) := by decide +kernel
theorem d_Parts_init_9 : decode b_Parts_init 9 = .ok (.putfield 9, 3) := by decide +kernel
theorem d_Parts_init_12 : decode b_Parts_init 12 = .ok (.aload_n 0, 1) := by decide +kernel
theorem d_Parts_init_13 : decode b_Parts_init 13 = .ok (.aload_n 2, 1) := by decide +kernel
theorem d_Parts_init_14 : decode b_Parts_init 14 = .ok (.putfield 15, 3) := by decide +kernel
theorem d_Parts_init_17 : decode b_Parts_init 17 = .ok (.aload_n 0, 1) := by decide +kernel
theorem d_Parts_init_18 : decode b_Parts_init 18 = .ok (.new 19, 3) := by decide +kernel
theorem d_Parts_init_21 : decode b_Parts_init 21 = .ok (.dup, 1) := by decide +kernel
theorem d_Parts_init_22 : decode b_Parts_init 22 = .ok (.aload_n 1, 1) := by decide +kernel
theorem d_Parts_init_23 : decode b_Parts_init 23 = .ok (.iconst 1, 1) := by decide +kernel
theorem d_Parts_init_24 : decode b_Parts_init 24 = .ok (.lconst 0, 1) := by decide +kernel
theorem d_Parts_init_25 : decode b_Parts_init 25 = .ok (.invokespecial 21, 3) := by decide +kernel
theorem d_Parts_init_28 : decode b_Parts_init 28 = .ok (.putfield 24, 3) := by decide +kernel
theorem d_Parts_init_31 : decode b_Parts_init 31 = .ok (.aload_n 0, 1) := by decide +kernel
theorem d_Parts_init_32 : decode b_Parts_init 32 = .ok (.new 19, 3) := by decide +kernel
theorem d_Parts_init_35 : decode b_Parts_init 35 = .ok (.dup, 1) := by decide +kernel
theorem d_Parts_init_36 : decode b_Parts_init 36 = .ok (.aload_n 1, 1) := by decide +kernel
theorem d_Parts_init_37 : decode b_Parts_init 37 = .ok (.bipush 30, 2) := by decide +kernel
theorem d_Parts_init_39 : decode b_Parts_init 39 = .ok (.lconst 0, 1) := by decide +kernel
theorem d_Parts_init_40 : decode b_Parts_init 40 = .ok (.invokespecial 21, 3) := by decide +kernel
theorem d_Parts_init_43 : decode b_Parts_init 43 = .ok (.putfield 28, 3) := by decide +kernel
theorem d_Parts_init_46 : decode b_Parts_init 46 = .ok (.aload_n 0, 1) := by decide +kernel
theorem d_Parts_init_47 : decode b_Parts_init 47 = .ok (.new 19, 3) := by decide +kernel
theorem d_Parts_init_50 : decode b_Parts_init 50 = .ok (.dup, 1) := by decide +kernel
theorem d_Parts_init_51 : decode b_Parts_init 51 = .ok (.aload_n 1, 1) := by decide +kernel
theorem d_Parts_init_52 : decode b_Parts_init 52 = .ok (.bipush 30, 2) := by decide +kernel
theorem d_Parts_init_54 : decode b_Parts_init 54 = .ok (.lconst 0, 1) := by decide +kernel
theorem d_Parts_init_55 : decode b_Parts_init 55 = .ok (.invokespecial 21, 3) := by decide +kernel
theorem d_Parts_init_58 : decode b_Parts_init 58 = .ok (.putfield 31, 3) := by decide +kernel
theorem d_Parts_init_61 : decode b_Parts_init 61 = .ok (.aload_n 0, 1) := by decide +kernel
theorem d_Parts_init_62 : decode b_Parts_init 62 = .ok (.new 19, 3) := by decide +kernel
theorem d_Parts_init_65 : decode b_Parts_init 65 = .ok (.dup, 1) := by decide +kernel
theorem d_Parts_init_66 : decode b_Parts_init 66 = .ok (.aload_n 1, 1) := by decide +kernel
theorem d_Parts_init_67 : decode b_Parts_init 67 = .ok (.sipush 240, 3) := by decide +kernel
theorem d_Parts_init_70 : decode b_Parts_init 70 = .ok (.ldc2_w 34, 3) := by decide +kernel
theorem d_Parts_init_73 : decode b_Parts_init 73 = .ok (.invokespecial 21, 3) := by decide +kernel
theorem d_Parts_init_76 : decode b_Parts_init 76 = .ok (.putfield 36, 3) := by decide +kernel
theorem d_Parts_init_79 : decode b_Parts_init 79 = .ok (.aload_n 0, 1) := by decide +kernel
theorem d_Parts_init_80 : decode b_Parts_init 80 = .ok (.new 19, 3) := by decide +kernel
theorem d_Parts_init_83 : decode b_Parts_init 83 = .ok (.dup, 1) := by decide +kernel
theorem d_Parts_init_84 : decode b_Parts_init 84 = .ok (.aload_n 1, 1) := by decide +kernel
theorem d_Parts_init_85 : decode b_Parts_init 85 = .ok (.sipush 480, 3) := by decide +kernel
theorem d_Parts_init_88 : decode b_Parts_init 88 = .ok (.ldc2_w 34, 3) := by decide +kernel
theorem d_Parts_init_91 : decode b_Parts_init 91 = .ok (.invokespecial 21, 3) := by decide +kernel
theorem d_Parts_init_94 : decode b_Parts_init 94 = .ok (.putfield 39, 3) := by decide +kernel
theorem d_Parts_init_97 : decode b_Parts_init 97 = .ok (.aload_n 0, 1) := by decide +kernel
theorem d_Parts_init_98 : decode b_Parts_init 98 = .ok (.new 19, 3) := by decide +kernel
theorem d_Parts_init_101 : decode b_Parts_init 101 = .ok (.dup, 1) := by decide +kernel
theorem d_Parts_init_102 : decode b_Parts_init 102 = .ok (.aload_n 1, 1) := by decide +kernel
theorem d_Parts_init_103 : decode b_Parts_init 103 = .ok (.bipush 24, 2) := by decide +kernel
theorem d_Parts_init_105 : decode b_Parts_init 105 = .ok (.lconst 0, 1) := by decide +kernel
theorem d_Parts_init_106 : decode b_Parts_init 106 = .ok (.invokespecial 21, 3) := by decide +kernel
theorem d_Parts_init_109 : decode b_Parts_init 109 = .ok (.putfield 42, 3) := by decide +kernel
theorem d_Parts_init_112 : decode b_Parts_init 112 = .ok (.return_, 1) := by decide +kernel
theorem d_Parts_isPart_0 : decode b_Parts_isPart 0 = .ok (.iload_n 1, 1) := by decide +kernel
theorem d_Parts_isPart_1 : decode b_Parts_isPart 1 = .ok (.ifCond .lt 19, 3) := by decide +kernel
theorem d_Parts_isPart_4 : decode b_Parts_isPart 4 = .ok (.iload_n 1, 1) := by decide +kernel
theorem d_Parts_isPart_5 : decode b_Parts_isPart 5 = .ok (.aload_n 0, 1) := by decide +kernel
theorem d_Parts_isPart_6 : decode b_Parts_isPart 6 = .ok (.getfield 24, 3) := by decide +kernel
theorem d_Parts_isPart_9 : decode b_Parts_isPart 9 = .ok (.iconst 0, 1) := by decide +kernel
theorem d_Parts_isPart_10 : decode b_Parts_isPart 10 = .ok (.invokevirtual 45, 3) := by decide +kernel
theorem d_Parts_isPart_13 : decode b_Parts_isPart 13 = .ok (.if_icmp .ge 7, 3) := by decide +kernel
theorem d_Parts_isPart_16 : decode b_Parts_isPart 16 = .ok (.iconst 1, 1) := by decide +kernel
theorem d_Parts_isPart_17 : decode b_Parts_isPart 17 = .ok (.goto 4, 3) := by decide +kernel
theorem d_Parts_isPart_20 : decode b_Parts_isPart 20 = .ok (.iconst 0, 1) := by decide +kernel
theorem d_Parts_isPart_21 : decode b_Parts_isPart 21 = .ok (.ireturn, 1) := by decide +kernel
theorem d_Parts_partsLeft_0 : decode b_Parts_partsLeft 0 = .ok (.bipush 30, 2) := by decide +kernel
theorem d_Parts_partsLeft_2 : decode b_Parts_partsLeft 2 = .ok (.aload_n 0, 1) := by decide +kernel
theorem d_Parts_partsLeft_3 : decode b_Parts_partsLeft 3 = .ok (.getfield 24, 3) := by decide +kernel
theorem d_Parts_partsLeft_6 : decode b_Parts_partsLeft 6 = .ok (.iconst 0, 1) := by decide +kernel
theorem d_Parts_partsLeft_7 : decode b_Parts_partsLeft 7 = .ok (.invokevirtual 45, 3) := by decide +kernel
theorem d_Parts_partsLeft_10 : decode b_Parts_partsLeft 10 = .ok (.isub, 1) := by decide +kernel
theorem d_Parts_partsLeft_11 : decode b_Parts_partsLeft 11 = .ok (.ireturn, 1) := by decide +kernel
theorem d_Parts_letterOf_0 : decode b_Parts_letterOf 0 = .ok (.aload_n 0, 1) := by decide +kernel
theorem d_Parts_letterOf_1 : decode b_Parts_letterOf 1 = .ok (.getfield 28, 3) := by decide +kernel
theorem d_Parts_letterOf_4 : decode b_Parts_letterOf 4 = .ok (.iload_n 1, 1) := by decide +kernel
theorem d_Parts_letterOf_5 : decode b_Parts_letterOf 5 = .ok (.invokevirtual 45, 3) := by decide +kernel
theorem d_Parts_letterOf_8 : decode b_Parts_letterOf 8 = .ok (.ireturn, 1) := by decide +kernel
theorem d_Parts_gateCount_0 : decode b_Parts_gateCount 0 = .ok (.aload_n 0, 1) := by decide +kernel
theorem d_Parts_gateCount_1 : decode b_Parts_gateCount 1 = .ok (.getfield 31, 3) := by decide +kernel
theorem d_Parts_gateCount_4 : decode b_Parts_gateCount 4 = .ok (.iload_n 1, 1) := by decide +kernel
theorem d_Parts_gateCount_5 : decode b_Parts_gateCount 5 = .ok (.invokevirtual 45, 3) := by decide +kernel
theorem d_Parts_gateCount_8 : decode b_Parts_gateCount 8 = .ok (.ireturn, 1) := by decide +kernel
theorem d_Parts_sheetOfGate_0 : decode b_Parts_sheetOfGate 0 = .ok (.aload_n 0, 1) := by decide +kernel
theorem d_Parts_sheetOfGate_1 : decode b_Parts_sheetOfGate 1 = .ok (.getfield 36, 3) := by decide +kernel
theorem d_Parts_sheetOfGate_4 : decode b_Parts_sheetOfGate 4 = .ok (.iload_n 1, 1) := by decide +kernel
theorem d_Parts_sheetOfGate_5 : decode b_Parts_sheetOfGate 5 = .ok (.bipush 8, 2) := by decide +kernel
theorem d_Parts_sheetOfGate_7 : decode b_Parts_sheetOfGate 7 = .ok (.imul, 1) := by decide +kernel
theorem d_Parts_sheetOfGate_8 : decode b_Parts_sheetOfGate 8 = .ok (.iload_n 2, 1) := by decide +kernel
theorem d_Parts_sheetOfGate_9 : decode b_Parts_sheetOfGate 9 = .ok (.iadd, 1) := by decide +kernel
theorem d_Parts_sheetOfGate_10 : decode b_Parts_sheetOfGate 10 = .ok (.invokevirtual 45, 3) := by decide +kernel
theorem d_Parts_sheetOfGate_13 : decode b_Parts_sheetOfGate 13 = .ok (.ireturn, 1) := by decide +kernel
theorem d_Parts_gatesOn_0 : decode b_Parts_gatesOn 0 = .ok (.aload_n 0, 1) := by decide +kernel
theorem d_Parts_gatesOn_1 : decode b_Parts_gatesOn 1 = .ok (.getfield 42, 3) := by decide +kernel
theorem d_Parts_gatesOn_4 : decode b_Parts_gatesOn 4 = .ok (.iload_n 1, 1) := by decide +kernel
theorem d_Parts_gatesOn_5 : decode b_Parts_gatesOn 5 = .ok (.invokevirtual 45, 3) := by decide +kernel
theorem d_Parts_gatesOn_8 : decode b_Parts_gatesOn 8 = .ok (.ireturn, 1) := by decide +kernel
theorem d_Parts_gateAt_0 : decode b_Parts_gateAt 0 = .ok (.aload_n 0, 1) := by decide +kernel
theorem d_Parts_gateAt_1 : decode b_Parts_gateAt 1 = .ok (.getfield 39, 3) := by decide +kernel
theorem d_Parts_gateAt_4 : decode b_Parts_gateAt 4 = .ok (.iload_n 1, 1) := by decide +kernel
theorem d_Parts_gateAt_5 : decode b_Parts_gateAt 5 = .ok (.bipush 20, 2) := by decide +kernel
theorem d_Parts_gateAt_7 : decode b_Parts_gateAt 7 = .ok (.imul, 1) := by decide +kernel
theorem d_Parts_gateAt_8 : decode b_Parts_gateAt 8 = .ok (.iload_n 2, 1) := by decide +kernel
theorem d_Parts_gateAt_9 : decode b_Parts_gateAt 9 = .ok (.iadd, 1) := by decide +kernel
theorem d_Parts_gateAt_10 : decode b_Parts_gateAt 10 = .ok (.invokevirtual 45, 3) := by decide +kernel
theorem d_Parts_gateAt_13 : decode b_Parts_gateAt 13 = .ok (.ireturn, 1) := by decide +kernel
theorem d_Parts_partAt_0 : decode b_Parts_partAt 0 = .ok (.aload_n 0, 1) := by decide +kernel
theorem d_Parts_partAt_1 : decode b_Parts_partAt 1 = .ok (.iload_n 1, 1) := by decide +kernel
theorem d_Parts_partAt_2 : decode b_Parts_partAt 2 = .ok (.iload_n 2, 1) := by decide +kernel
theorem d_Parts_partAt_3 : decode b_Parts_partAt 3 = .ok (.invokevirtual 49, 3) := by decide +kernel
theorem d_Parts_partAt_6 : decode b_Parts_partAt 6 = .ok (.bipush 8, 2) := by decide +kernel
theorem d_Parts_partAt_8 : decode b_Parts_partAt 8 = .ok (.idiv, 1) := by decide +kernel
theorem d_Parts_partAt_9 : decode b_Parts_partAt 9 = .ok (.ireturn, 1) := by decide +kernel
theorem d_Parts_addPart_0 : decode b_Parts_addPart 0 = .ok (.aload_n 0, 1) := by decide +kernel
theorem d_Parts_addPart_1 : decode b_Parts_addPart 1 = .ok (.getfield 24, 3) := by decide +kernel
theorem d_Parts_addPart_4 : decode b_Parts_addPart 4 = .ok (.iconst 0, 1) := by decide +kernel
theorem d_Parts_addPart_5 : decode b_Parts_addPart 5 = .ok (.invokevirtual 45, 3) := by decide +kernel
theorem d_Parts_addPart_8 : decode b_Parts_addPart 8 = .ok (.istore_n 3, 1) := by decide +kernel
theorem d_Parts_addPart_9 : decode b_Parts_addPart 9 = .ok (.aload_n 0, 1) := by decide +kernel
theorem d_Parts_addPart_10 : decode b_Parts_addPart 10 = .ok (.getfield 24, 3) := by decide +kernel
theorem d_Parts_addPart_13 : decode b_Parts_addPart 13 = .ok (.iconst 0, 1) := by decide +kernel
theorem d_Parts_addPart_14 : decode b_Parts_addPart 14 = .ok (.iload_n 3, 1) := by decide +kernel
theorem d_Parts_addPart_15 : decode b_Parts_addPart 15 = .ok (.iconst 1, 1) := by decide +kernel
theorem d_Parts_addPart_16 : decode b_Parts_addPart 16 = .ok (.iadd, 1) := by decide +kernel
theorem d_Parts_addPart_17 : decode b_Parts_addPart 17 = .ok (.i2l, 1) := by decide +kernel
theorem d_Parts_addPart_18 : decode b_Parts_addPart 18 = .ok (.invokevirtual 53, 3) := by decide +kernel
theorem d_Parts_addPart_21 : decode b_Parts_addPart 21 = .ok (.aload_n 0, 1) := by decide +kernel
theorem d_Parts_addPart_22 : decode b_Parts_addPart 22 = .ok (.getfield 28, 3) := by decide +kernel
theorem d_Parts_addPart_25 : decode b_Parts_addPart 25 = .ok (.iload_n 3, 1) := by decide +kernel
theorem d_Parts_addPart_26 : decode b_Parts_addPart 26 = .ok (.iload_n 1, 1) := by decide +kernel
theorem d_Parts_addPart_27 : decode b_Parts_addPart 27 = .ok (.i2l, 1) := by decide +kernel
theorem d_Parts_addPart_28 : decode b_Parts_addPart 28 = .ok (.invokevirtual 53, 3) := by decide +kernel
theorem d_Parts_addPart_31 : decode b_Parts_addPart 31 = .ok (.aload_n 0, 1) := by decide +kernel
theorem d_Parts_addPart_32 : decode b_Parts_addPart 32 = .ok (.getfield 31, 3) := by decide +kernel
theorem d_Parts_addPart_35 : decode b_Parts_addPart 35 = .ok (.iload_n 3, 1) := by decide +kernel
theorem d_Parts_addPart_36 : decode b_Parts_addPart 36 = .ok (.iload_n 2, 1) := by decide +kernel
theorem d_Parts_addPart_37 : decode b_Parts_addPart 37 = .ok (.i2l, 1) := by decide +kernel
theorem d_Parts_addPart_38 : decode b_Parts_addPart 38 = .ok (.invokevirtual 53, 3) := by decide +kernel
theorem d_Parts_addPart_41 : decode b_Parts_addPart 41 = .ok (.iload_n 3, 1) := by decide +kernel
theorem d_Parts_addPart_42 : decode b_Parts_addPart 42 = .ok (.ireturn, 1) := by decide +kernel
theorem d_Parts_layGate_0 : decode b_Parts_layGate 0 = .ok (.aload_n 0, 1) := by decide +kernel
theorem d_Parts_layGate_1 : decode b_Parts_layGate 1 = .ok (.iload_n 1, 1) := by decide +kernel
theorem d_Parts_layGate_2 : decode b_Parts_layGate 2 = .ok (.invokevirtual 57, 3) := by decide +kernel
theorem d_Parts_layGate_5 : decode b_Parts_layGate 5 = .ok (.istore 4, 2) := by decide +kernel
theorem d_Parts_layGate_7 : decode b_Parts_layGate 7 = .ok (.aload_n 0, 1) := by decide +kernel
theorem d_Parts_layGate_8 : decode b_Parts_layGate 8 = .ok (.getfield 36, 3) := by decide +kernel
theorem d_Parts_layGate_11 : decode b_Parts_layGate 11 = .ok (.iload_n 2, 1) := by decide +kernel
theorem d_Parts_layGate_12 : decode b_Parts_layGate 12 = .ok (.bipush 8, 2) := by decide +kernel
theorem d_Parts_layGate_14 : decode b_Parts_layGate 14 = .ok (.imul, 1) := by decide +kernel
theorem d_Parts_layGate_15 : decode b_Parts_layGate 15 = .ok (.iload_n 3, 1) := by decide +kernel
theorem d_Parts_layGate_16 : decode b_Parts_layGate 16 = .ok (.iadd, 1) := by decide +kernel
theorem d_Parts_layGate_17 : decode b_Parts_layGate 17 = .ok (.iload_n 1, 1) := by decide +kernel
theorem d_Parts_layGate_18 : decode b_Parts_layGate 18 = .ok (.i2l, 1) := by decide +kernel
theorem d_Parts_layGate_19 : decode b_Parts_layGate 19 = .ok (.invokevirtual 53, 3) := by decide +kernel
theorem d_Parts_layGate_22 : decode b_Parts_layGate 22 = .ok (.aload_n 0, 1) := by decide +kernel
theorem d_Parts_layGate_23 : decode b_Parts_layGate 23 = .ok (.getfield 39, 3) := by decide +kernel
theorem d_Parts_layGate_26 : decode b_Parts_layGate 26 = .ok (.iload_n 1, 1) := by decide +kernel
theorem d_Parts_layGate_27 : decode b_Parts_layGate 27 = .ok (.bipush 20, 2) := by decide +kernel
theorem d_Parts_layGate_29 : decode b_Parts_layGate 29 = .ok (.imul, 1) := by decide +kernel
theorem d_Parts_layGate_30 : decode b_Parts_layGate 30 = .ok (.iload 4, 2) := by decide +kernel
theorem d_Parts_layGate_32 : decode b_Parts_layGate 32 = .ok (.iadd, 1) := by decide +kernel
theorem d_Parts_layGate_33 : decode b_Parts_layGate 33 = .ok (.iload_n 2, 1) := by decide +kernel
theorem d_Parts_layGate_34 : decode b_Parts_layGate 34 = .ok (.bipush 8, 2) := by decide +kernel
theorem d_Parts_layGate_36 : decode b_Parts_layGate 36 = .ok (.imul, 1) := by decide +kernel
theorem d_Parts_layGate_37 : decode b_Parts_layGate 37 = .ok (.iload_n 3, 1) := by decide +kernel
theorem d_Parts_layGate_38 : decode b_Parts_layGate 38 = .ok (.iadd, 1) := by decide +kernel
theorem d_Parts_layGate_39 : decode b_Parts_layGate 39 = .ok (.i2l, 1) := by decide +kernel
theorem d_Parts_layGate_40 : decode b_Parts_layGate 40 = .ok (.invokevirtual 53, 3) := by decide +kernel
theorem d_Parts_layGate_43 : decode b_Parts_layGate 43 = .ok (.aload_n 0, 1) := by decide +kernel
theorem d_Parts_layGate_44 : decode b_Parts_layGate 44 = .ok (.getfield 42, 3) := by decide +kernel
theorem d_Parts_layGate_47 : decode b_Parts_layGate 47 = .ok (.iload_n 1, 1) := by decide +kernel
theorem d_Parts_layGate_48 : decode b_Parts_layGate 48 = .ok (.iload 4, 2) := by decide +kernel
theorem d_Parts_layGate_50 : decode b_Parts_layGate 50 = .ok (.iconst 1, 1) := by decide +kernel
theorem d_Parts_layGate_51 : decode b_Parts_layGate 51 = .ok (.iadd, 1) := by decide +kernel
theorem d_Parts_layGate_52 : decode b_Parts_layGate 52 = .ok (.i2l, 1) := by decide +kernel
theorem d_Parts_layGate_53 : decode b_Parts_layGate 53 = .ok (.invokevirtual 53, 3) := by decide +kernel
theorem d_Parts_layGate_56 : decode b_Parts_layGate 56 = .ok (.return_, 1) := by decide +kernel
theorem d_Parts_partsOn_0 : decode b_Parts_partsOn 0 = .ok (.aload_n 0, 1) := by decide +kernel
theorem d_Parts_partsOn_1 : decode b_Parts_partsOn 1 = .ok (.getfield 9, 3) := by decide +kernel
theorem d_Parts_partsOn_4 : decode b_Parts_partsOn 4 = .ok (.iconst (-1), 1) := by decide +kernel
theorem d_Parts_partsOn_5 : decode b_Parts_partsOn 5 = .ok (.invokestatic 60, 3) := by decide +kernel
theorem d_Parts_partsOn_8 : decode b_Parts_partsOn 8 = .ok (.iconst 0, 1) := by decide +kernel
theorem d_Parts_partsOn_9 : decode b_Parts_partsOn 9 = .ok (.istore_n 2, 1) := by decide +kernel
theorem d_Parts_partsOn_10 : decode b_Parts_partsOn 10 = .ok (.iconst 0, 1) := by decide +kernel
theorem d_Parts_partsOn_11 : decode b_Parts_partsOn 11 = .ok (.istore_n 3, 1) := by decide +kernel
theorem d_Parts_partsOn_12 : decode b_Parts_partsOn 12 = .ok (.iload_n 3, 1) := by decide +kernel
theorem d_Parts_partsOn_13 : decode b_Parts_partsOn 13 = .ok (.aload_n 0, 1) := by decide +kernel
theorem d_Parts_partsOn_14 : decode b_Parts_partsOn 14 = .ok (.iload_n 1, 1) := by decide +kernel
theorem d_Parts_partsOn_15 : decode b_Parts_partsOn 15 = .ok (.invokevirtual 57, 3) := by decide +kernel
theorem d_Parts_partsOn_18 : decode b_Parts_partsOn 18 = .ok (.if_icmp .ge 44, 3) := by decide +kernel
theorem d_Parts_partsOn_21 : decode b_Parts_partsOn 21 = .ok (.aload_n 0, 1) := by decide +kernel
theorem d_Parts_partsOn_22 : decode b_Parts_partsOn 22 = .ok (.iload_n 1, 1) := by decide +kernel
theorem d_Parts_partsOn_23 : decode b_Parts_partsOn 23 = .ok (.iload_n 3, 1) := by decide +kernel
theorem d_Parts_partsOn_24 : decode b_Parts_partsOn 24 = .ok (.invokevirtual 66, 3) := by decide +kernel
theorem d_Parts_partsOn_27 : decode b_Parts_partsOn 27 = .ok (.istore 4, 2) := by decide +kernel
theorem d_Parts_partsOn_29 : decode b_Parts_partsOn 29 = .ok (.aload_n 0, 1) := by decide +kernel
theorem d_Parts_partsOn_30 : decode b_Parts_partsOn 30 = .ok (.getfield 9, 3) := by decide +kernel
theorem d_Parts_partsOn_33 : decode b_Parts_partsOn 33 = .ok (.iload 4, 2) := by decide +kernel
theorem d_Parts_partsOn_35 : decode b_Parts_partsOn 35 = .ok (.invokestatic 69, 3) := by decide +kernel
theorem d_Parts_partsOn_38 : decode b_Parts_partsOn 38 = .ok (.iconst (-1), 1) := by decide +kernel
theorem d_Parts_partsOn_39 : decode b_Parts_partsOn 39 = .ok (.if_icmp .ne 17, 3) := by decide +kernel
theorem d_Parts_partsOn_42 : decode b_Parts_partsOn 42 = .ok (.aload_n 0, 1) := by decide +kernel
theorem d_Parts_partsOn_43 : decode b_Parts_partsOn 43 = .ok (.getfield 9, 3) := by decide +kernel
theorem d_Parts_partsOn_46 : decode b_Parts_partsOn 46 = .ok (.iload 4, 2) := by decide +kernel
theorem d_Parts_partsOn_48 : decode b_Parts_partsOn 48 = .ok (.iload 4, 2) := by decide +kernel
theorem d_Parts_partsOn_50 : decode b_Parts_partsOn 50 = .ok (.invokestatic 73, 3) := by decide +kernel
theorem d_Parts_partsOn_53 : decode b_Parts_partsOn 53 = .ok (.iinc 2 1, 3) := by decide +kernel
theorem d_Parts_partsOn_56 : decode b_Parts_partsOn 56 = .ok (.iinc 3 1, 3) := by decide +kernel
theorem d_Parts_partsOn_59 : decode b_Parts_partsOn 59 = .ok (.goto (-47), 3) := by decide +kernel
theorem d_Parts_partsOn_62 : decode b_Parts_partsOn 62 = .ok (.iload_n 2, 1) := by decide +kernel
theorem d_Parts_partsOn_63 : decode b_Parts_partsOn 63 = .ok (.ireturn, 1) := by decide +kernel
theorem d_Parts_addPartsLike_0 : decode b_Parts_addPartsLike 0 = .ok (.aload_n 0, 1) := by decide +kernel
theorem d_Parts_addPartsLike_1 : decode b_Parts_addPartsLike 1 = .ok (.getfield 9, 3) := by decide +kernel
theorem d_Parts_addPartsLike_4 : decode b_Parts_addPartsLike 4 = .ok (.iconst (-1), 1) := by decide +kernel
theorem d_Parts_addPartsLike_5 : decode b_Parts_addPartsLike 5 = .ok (.invokestatic 60, 3) := by decide +kernel
theorem d_Parts_addPartsLike_8 : decode b_Parts_addPartsLike 8 = .ok (.aload_n 0, 1) := by decide +kernel
theorem d_Parts_addPartsLike_9 : decode b_Parts_addPartsLike 9 = .ok (.iload_n 1, 1) := by decide +kernel
theorem d_Parts_addPartsLike_10 : decode b_Parts_addPartsLike 10 = .ok (.invokevirtual 57, 3) := by decide +kernel
theorem d_Parts_addPartsLike_13 : decode b_Parts_addPartsLike 13 = .ok (.istore_n 3, 1) := by decide +kernel
theorem d_Parts_addPartsLike_14 : decode b_Parts_addPartsLike 14 = .ok (.iconst 0, 1) := by decide +kernel
theorem d_Parts_addPartsLike_15 : decode b_Parts_addPartsLike 15 = .ok (.istore 4, 2) := by decide +kernel
theorem d_Parts_addPartsLike_17 : decode b_Parts_addPartsLike 17 = .ok (.iload 4, 2) := by decide +kernel
theorem d_Parts_addPartsLike_19 : decode b_Parts_addPartsLike 19 = .ok (.iload_n 3, 1) := by decide +kernel
theorem d_Parts_addPartsLike_20 : decode b_Parts_addPartsLike 20 = .ok (.if_icmp .ge 80, 3) := by decide +kernel
theorem d_Parts_addPartsLike_23 : decode b_Parts_addPartsLike 23 = .ok (.aload_n 0, 1) := by decide +kernel
theorem d_Parts_addPartsLike_24 : decode b_Parts_addPartsLike 24 = .ok (.iload_n 1, 1) := by decide +kernel
theorem d_Parts_addPartsLike_25 : decode b_Parts_addPartsLike 25 = .ok (.iload 4, 2) := by decide +kernel
theorem d_Parts_addPartsLike_27 : decode b_Parts_addPartsLike 27 = .ok (.invokevirtual 66, 3) := by decide +kernel
theorem d_Parts_addPartsLike_30 : decode b_Parts_addPartsLike 30 = .ok (.istore 5, 2) := by decide +kernel
theorem d_Parts_addPartsLike_32 : decode b_Parts_addPartsLike 32 = .ok (.aload_n 0, 1) := by decide +kernel
theorem d_Parts_addPartsLike_33 : decode b_Parts_addPartsLike 33 = .ok (.getfield 9, 3) := by decide +kernel
theorem d_Parts_addPartsLike_36 : decode b_Parts_addPartsLike 36 = .ok (.iload 5, 2) := by decide +kernel
theorem d_Parts_addPartsLike_38 : decode b_Parts_addPartsLike 38 = .ok (.invokestatic 69, 3) := by decide +kernel
theorem d_Parts_addPartsLike_41 : decode b_Parts_addPartsLike 41 = .ok (.iconst (-1), 1) := by decide +kernel
theorem d_Parts_addPartsLike_42 : decode b_Parts_addPartsLike 42 = .ok (.if_icmp .ne 28, 3) := by decide +kernel
theorem d_Parts_addPartsLike_45 : decode b_Parts_addPartsLike 45 = .ok (.aload_n 0, 1) := by decide +kernel
theorem d_Parts_addPartsLike_46 : decode b_Parts_addPartsLike 46 = .ok (.getfield 9, 3) := by decide +kernel
theorem d_Parts_addPartsLike_49 : decode b_Parts_addPartsLike 49 = .ok (.iload 5, 2) := by decide +kernel
theorem d_Parts_addPartsLike_51 : decode b_Parts_addPartsLike 51 = .ok (.aload_n 0, 1) := by decide +kernel
theorem d_Parts_addPartsLike_52 : decode b_Parts_addPartsLike 52 = .ok (.aload_n 0, 1) := by decide +kernel
theorem d_Parts_addPartsLike_53 : decode b_Parts_addPartsLike 53 = .ok (.iload 5, 2) := by decide +kernel
theorem d_Parts_addPartsLike_55 : decode b_Parts_addPartsLike 55 = .ok (.invokevirtual 77, 3) := by decide +kernel
theorem d_Parts_addPartsLike_58 : decode b_Parts_addPartsLike 58 = .ok (.aload_n 0, 1) := by decide +kernel
theorem d_Parts_addPartsLike_59 : decode b_Parts_addPartsLike 59 = .ok (.iload 5, 2) := by decide +kernel
theorem d_Parts_addPartsLike_61 : decode b_Parts_addPartsLike 61 = .ok (.invokevirtual 80, 3) := by decide +kernel
theorem d_Parts_addPartsLike_64 : decode b_Parts_addPartsLike 64 = .ok (.invokevirtual 83, 3) := by decide +kernel
theorem d_Parts_addPartsLike_67 : decode b_Parts_addPartsLike 67 = .ok (.invokestatic 73, 3) := by decide +kernel
theorem d_Parts_addPartsLike_70 : decode b_Parts_addPartsLike 70 = .ok (.aload_n 0, 1) := by decide +kernel
theorem d_Parts_addPartsLike_71 : decode b_Parts_addPartsLike 71 = .ok (.iload_n 2, 1) := by decide +kernel
theorem d_Parts_addPartsLike_72 : decode b_Parts_addPartsLike 72 = .ok (.aload_n 0, 1) := by decide +kernel
theorem d_Parts_addPartsLike_73 : decode b_Parts_addPartsLike 73 = .ok (.getfield 9, 3) := by decide +kernel
theorem d_Parts_addPartsLike_76 : decode b_Parts_addPartsLike 76 = .ok (.iload 5, 2) := by decide +kernel
theorem d_Parts_addPartsLike_78 : decode b_Parts_addPartsLike 78 = .ok (.invokestatic 69, 3) := by decide +kernel
theorem d_Parts_addPartsLike_81 : decode b_Parts_addPartsLike 81 = .ok (.aload_n 0, 1) := by decide +kernel
theorem d_Parts_addPartsLike_82 : decode b_Parts_addPartsLike 82 = .ok (.iload_n 1, 1) := by decide +kernel
theorem d_Parts_addPartsLike_83 : decode b_Parts_addPartsLike 83 = .ok (.iload 4, 2) := by decide +kernel
theorem d_Parts_addPartsLike_85 : decode b_Parts_addPartsLike 85 = .ok (.invokevirtual 49, 3) := by decide +kernel
theorem d_Parts_addPartsLike_88 : decode b_Parts_addPartsLike 88 = .ok (.bipush 8, 2) := by decide +kernel
theorem d_Parts_addPartsLike_90 : decode b_Parts_addPartsLike 90 = .ok (.irem, 1) := by decide +kernel
theorem d_Parts_addPartsLike_91 : decode b_Parts_addPartsLike 91 = .ok (.invokevirtual 86, 3) := by decide +kernel
theorem d_Parts_addPartsLike_94 : decode b_Parts_addPartsLike 94 = .ok (.iinc 4 1, 3) := by decide +kernel
theorem d_Parts_addPartsLike_97 : decode b_Parts_addPartsLike 97 = .ok (.goto (-80), 3) := by decide +kernel
theorem d_Parts_addPartsLike_100 : decode b_Parts_addPartsLike 100 = .ok (.return_, 1) := by decide +kernel
theorem d_Parts_unitCount_0 : decode b_Parts_unitCount 0 = .ok (.iconst 0, 1) := by decide +kernel
theorem d_Parts_unitCount_1 : decode b_Parts_unitCount 1 = .ok (.istore_n 2, 1) := by decide +kernel
theorem d_Parts_unitCount_2 : decode b_Parts_unitCount 2 = .ok (.iconst 0, 1) := by decide +kernel
theorem d_Parts_unitCount_3 : decode b_Parts_unitCount 3 = .ok (.istore_n 3, 1) := by decide +kernel
theorem d_Parts_unitCount_4 : decode b_Parts_unitCount 4 = .ok (.iload_n 3, 1) := by decide +kernel
theorem d_Parts_unitCount_5 : decode b_Parts_unitCount 5 = .ok (.aload_n 0, 1) := by decide +kernel
theorem d_Parts_unitCount_6 : decode b_Parts_unitCount 6 = .ok (.iload_n 1, 1) := by decide +kernel
theorem d_Parts_unitCount_7 : decode b_Parts_unitCount 7 = .ok (.invokevirtual 80, 3) := by decide +kernel
theorem d_Parts_unitCount_10 : decode b_Parts_unitCount 10 = .ok (.if_icmp .ge 27, 3) := by decide +kernel
theorem d_Parts_unitCount_13 : decode b_Parts_unitCount 13 = .ok (.iload_n 2, 1) := by decide +kernel
theorem d_Parts_unitCount_14 : decode b_Parts_unitCount 14 = .ok (.aload_n 0, 1) := by decide +kernel
theorem d_Parts_unitCount_15 : decode b_Parts_unitCount 15 = .ok (.getfield 15, 3) := by decide +kernel
theorem d_Parts_unitCount_18 : decode b_Parts_unitCount 18 = .ok (.aload_n 0, 1) := by decide +kernel
theorem d_Parts_unitCount_19 : decode b_Parts_unitCount 19 = .ok (.iload_n 1, 1) := by decide +kernel
theorem d_Parts_unitCount_20 : decode b_Parts_unitCount 20 = .ok (.iload_n 3, 1) := by decide +kernel
theorem d_Parts_unitCount_21 : decode b_Parts_unitCount 21 = .ok (.invokevirtual 90, 3) := by decide +kernel
theorem d_Parts_unitCount_24 : decode b_Parts_unitCount 24 = .ok (.invokevirtual 93, 3) := by decide +kernel
theorem d_Parts_unitCount_27 : decode b_Parts_unitCount 27 = .ok (.invokestatic 98, 3) := by decide +kernel
theorem d_Parts_unitCount_30 : decode b_Parts_unitCount 30 = .ok (.istore_n 2, 1) := by decide +kernel
theorem d_Parts_unitCount_31 : decode b_Parts_unitCount 31 = .ok (.iinc 3 1, 3) := by decide +kernel
theorem d_Parts_unitCount_34 : decode b_Parts_unitCount 34 = .ok (.goto (-30), 3) := by decide +kernel
theorem d_Parts_unitCount_37 : decode b_Parts_unitCount 37 = .ok (.iload_n 2, 1) := by decide +kernel
theorem d_Parts_unitCount_38 : decode b_Parts_unitCount 38 = .ok (.ireturn, 1) := by decide +kernel
theorem d_Parts_numberOf_0 : decode b_Parts_numberOf 0 = .ok (.aload_n 0, 1) := by decide +kernel
theorem d_Parts_numberOf_1 : decode b_Parts_numberOf 1 = .ok (.getfield 9, 3) := by decide +kernel
theorem d_Parts_numberOf_4 : decode b_Parts_numberOf 4 = .ok (.iconst 0, 1) := by decide +kernel
theorem d_Parts_numberOf_5 : decode b_Parts_numberOf 5 = .ok (.invokestatic 60, 3) := by decide +kernel
theorem d_Parts_numberOf_8 : decode b_Parts_numberOf 8 = .ok (.iconst 0, 1) := by decide +kernel
theorem d_Parts_numberOf_9 : decode b_Parts_numberOf 9 = .ok (.istore 4, 2) := by decide +kernel
theorem d_Parts_numberOf_11 : decode b_Parts_numberOf 11 = .ok (.iconst 0, 1) := by decide +kernel
theorem d_Parts_numberOf_12 : decode b_Parts_numberOf 12 = .ok (.istore 5, 2) := by decide +kernel
theorem d_Parts_numberOf_14 : decode b_Parts_numberOf 14 = .ok (.iload 5, 2) := by decide +kernel
theorem d_Parts_numberOf_16 : decode b_Parts_numberOf 16 = .ok (.aload_n 0, 1) := by decide +kernel
theorem d_Parts_numberOf_17 : decode b_Parts_numberOf 17 = .ok (.getfield 15, 3) := by decide +kernel
theorem d_Parts_numberOf_20 : decode b_Parts_numberOf 20 = .ok (.invokevirtual 103, 3) := by decide +kernel
theorem d_Parts_numberOf_23 : decode b_Parts_numberOf 23 = .ok (.if_icmp .ge 48, 3) := by decide +kernel
theorem d_Parts_numberOf_26 : decode b_Parts_numberOf 26 = .ok (.iload_n 3, 1) := by decide +kernel
theorem d_Parts_numberOf_27 : decode b_Parts_numberOf 27 = .ok (.ifCond .eq 10, 3) := by decide +kernel
theorem d_Parts_numberOf_30 : decode b_Parts_numberOf 30 = .ok (.iload 5, 2) := by decide +kernel
theorem d_Parts_numberOf_32 : decode b_Parts_numberOf 32 = .ok (.bipush 100, 2) := by decide +kernel
theorem d_Parts_numberOf_34 : decode b_Parts_numberOf 34 = .ok (.imul, 1) := by decide +kernel
theorem d_Parts_numberOf_35 : decode b_Parts_numberOf 35 = .ok (.istore 4, 2) := by decide +kernel
theorem d_Parts_numberOf_37 : decode b_Parts_numberOf 37 = .ok (.iload 4, 2) := by decide +kernel
theorem d_Parts_numberOf_39 : decode b_Parts_numberOf 39 = .ok (.aload_n 0, 1) := by decide +kernel
theorem d_Parts_numberOf_40 : decode b_Parts_numberOf 40 = .ok (.iload 5, 2) := by decide +kernel
theorem d_Parts_numberOf_42 : decode b_Parts_numberOf 42 = .ok (.iload_n 1, 1) := by decide +kernel
theorem d_Parts_numberOf_43 : decode b_Parts_numberOf 43 = .ok (.iload_n 2, 1) := by decide +kernel
theorem d_Parts_numberOf_44 : decode b_Parts_numberOf 44 = .ok (.invokevirtual 107, 3) := by decide +kernel
theorem d_Parts_numberOf_47 : decode b_Parts_numberOf 47 = .ok (.iadd, 1) := by decide +kernel
theorem d_Parts_numberOf_48 : decode b_Parts_numberOf 48 = .ok (.istore 4, 2) := by decide +kernel
theorem d_Parts_numberOf_50 : decode b_Parts_numberOf 50 = .ok (.aload_n 0, 1) := by decide +kernel
theorem d_Parts_numberOf_51 : decode b_Parts_numberOf 51 = .ok (.getfield 9, 3) := by decide +kernel
theorem d_Parts_numberOf_54 : decode b_Parts_numberOf 54 = .ok (.iload_n 1, 1) := by decide +kernel
theorem d_Parts_numberOf_55 : decode b_Parts_numberOf 55 = .ok (.invokestatic 69, 3) := by decide +kernel
theorem d_Parts_numberOf_58 : decode b_Parts_numberOf 58 = .ok (.iload_n 2, 1) := by decide +kernel
theorem d_Parts_numberOf_59 : decode b_Parts_numberOf 59 = .ok (.if_icmp .le 6, 3) := by decide +kernel
theorem d_Parts_numberOf_62 : decode b_Parts_numberOf 62 = .ok (.iload 4, 2) := by decide +kernel
theorem d_Parts_numberOf_64 : decode b_Parts_numberOf 64 = .ok (.ireturn, 1) := by decide +kernel
theorem d_Parts_numberOf_65 : decode b_Parts_numberOf 65 = .ok (.iinc 5 1, 3) := by decide +kernel
theorem d_Parts_numberOf_68 : decode b_Parts_numberOf 68 = .ok (.goto (-54), 3) := by decide +kernel
theorem d_Parts_numberOf_71 : decode b_Parts_numberOf 71 = .ok (.iconst (-1), 1) := by decide +kernel
theorem d_Parts_numberOf_72 : decode b_Parts_numberOf 72 = .ok (.ireturn, 1) := by decide +kernel
theorem d_Parts_newUnitsAt_0 : decode b_Parts_newUnitsAt 0 = .ok (.aload_n 0, 1) := by decide +kernel
theorem d_Parts_newUnitsAt_1 : decode b_Parts_newUnitsAt 1 = .ok (.getfield 15, 3) := by decide +kernel
theorem d_Parts_newUnitsAt_4 : decode b_Parts_newUnitsAt 4 = .ok (.iload_n 1, 1) := by decide +kernel
theorem d_Parts_newUnitsAt_5 : decode b_Parts_newUnitsAt 5 = .ok (.invokevirtual 111, 3) := by decide +kernel
theorem d_Parts_newUnitsAt_8 : decode b_Parts_newUnitsAt 8 = .ok (.istore 4, 2) := by decide +kernel
theorem d_Parts_newUnitsAt_10 : decode b_Parts_newUnitsAt 10 = .ok (.aload_n 0, 1) := by decide +kernel
theorem d_Parts_newUnitsAt_11 : decode b_Parts_newUnitsAt 11 = .ok (.getfield 15, 3) := by decide +kernel
theorem d_Parts_newUnitsAt_14 : decode b_Parts_newUnitsAt 14 = .ok (.iload_n 1, 1) := by decide +kernel
theorem d_Parts_newUnitsAt_15 : decode b_Parts_newUnitsAt 15 = .ok (.invokevirtual 114, 3) := by decide +kernel
theorem d_Parts_newUnitsAt_18 : decode b_Parts_newUnitsAt 18 = .ok (.istore 5, 2) := by decide +kernel
theorem d_Parts_newUnitsAt_20 : decode b_Parts_newUnitsAt 20 = .ok (.iconst 0, 1) := by decide +kernel
theorem d_Parts_newUnitsAt_21 : decode b_Parts_newUnitsAt 21 = .ok (.istore 6, 2) := by decide +kernel
theorem d_Parts_newUnitsAt_23 : decode b_Parts_newUnitsAt 23 = .ok (.iconst 0, 1) := by decide +kernel
theorem d_Parts_newUnitsAt_24 : decode b_Parts_newUnitsAt 24 = .ok (.istore 7, 2) := by decide +kernel
theorem d_Parts_newUnitsAt_26 : decode b_Parts_newUnitsAt 26 = .ok (.iload 7, 2) := by decide +kernel
theorem d_Parts_newUnitsAt_28 : decode b_Parts_newUnitsAt 28 = .ok (.aload_n 0, 1) := by decide +kernel
theorem d_Parts_newUnitsAt_29 : decode b_Parts_newUnitsAt 29 = .ok (.iload 4, 2) := by decide +kernel
theorem d_Parts_newUnitsAt_31 : decode b_Parts_newUnitsAt 31 = .ok (.invokevirtual 57, 3) := by decide +kernel
theorem d_Parts_newUnitsAt_34 : decode b_Parts_newUnitsAt 34 = .ok (.if_icmp .ge 78, 3) := by decide +kernel
theorem d_Parts_newUnitsAt_37 : decode b_Parts_newUnitsAt 37 = .ok (.aload_n 0, 1) := by decide +kernel
theorem d_Parts_newUnitsAt_38 : decode b_Parts_newUnitsAt 38 = .ok (.iload 4, 2) := by decide +kernel
theorem d_Parts_newUnitsAt_40 : decode b_Parts_newUnitsAt 40 = .ok (.iload 7, 2) := by decide +kernel
theorem d_Parts_newUnitsAt_42 : decode b_Parts_newUnitsAt 42 = .ok (.invokevirtual 66, 3) := by decide +kernel
theorem d_Parts_newUnitsAt_45 : decode b_Parts_newUnitsAt 45 = .ok (.istore 8, 2) := by decide +kernel
theorem d_Parts_newUnitsAt_47 : decode b_Parts_newUnitsAt 47 = .ok (.aload_n 0, 1) := by decide +kernel
theorem d_Parts_newUnitsAt_48 : decode b_Parts_newUnitsAt 48 = .ok (.iload 8, 2) := by decide +kernel
theorem d_Parts_newUnitsAt_50 : decode b_Parts_newUnitsAt 50 = .ok (.invokevirtual 77, 3) := by decide +kernel
theorem d_Parts_newUnitsAt_53 : decode b_Parts_newUnitsAt 53 = .ok (.aload_n 0, 1) := by decide +kernel
theorem d_Parts_newUnitsAt_54 : decode b_Parts_newUnitsAt 54 = .ok (.iload_n 2, 1) := by decide +kernel
theorem d_Parts_newUnitsAt_55 : decode b_Parts_newUnitsAt 55 = .ok (.invokevirtual 77, 3) := by decide +kernel
theorem d_Parts_newUnitsAt_58 : decode b_Parts_newUnitsAt 58 = .ok (.if_icmp .ne 48, 3) := by decide +kernel
theorem d_Parts_newUnitsAt_61 : decode b_Parts_newUnitsAt 61 = .ok (.aload_n 0, 1) := by decide +kernel
theorem d_Parts_newUnitsAt_62 : decode b_Parts_newUnitsAt 62 = .ok (.getfield 9, 3) := by decide +kernel
theorem d_Parts_newUnitsAt_65 : decode b_Parts_newUnitsAt 65 = .ok (.iload 8, 2) := by decide +kernel
theorem d_Parts_newUnitsAt_67 : decode b_Parts_newUnitsAt 67 = .ok (.invokestatic 69, 3) := by decide +kernel
theorem d_Parts_newUnitsAt_70 : decode b_Parts_newUnitsAt 70 = .ok (.iload 5, 2) := by decide +kernel
theorem d_Parts_newUnitsAt_72 : decode b_Parts_newUnitsAt 72 = .ok (.if_icmp .ne 34, 3) := by decide +kernel
theorem d_Parts_newUnitsAt_75 : decode b_Parts_newUnitsAt 75 = .ok (.aload_n 0, 1) := by decide +kernel
theorem d_Parts_newUnitsAt_76 : decode b_Parts_newUnitsAt 76 = .ok (.getfield 9, 3) := by decide +kernel
theorem d_Parts_newUnitsAt_79 : decode b_Parts_newUnitsAt 79 = .ok (.iload 8, 2) := by decide +kernel
theorem d_Parts_newUnitsAt_81 : decode b_Parts_newUnitsAt 81 = .ok (.iload 5, 2) := by decide +kernel
theorem d_Parts_newUnitsAt_83 : decode b_Parts_newUnitsAt 83 = .ok (.iconst 1, 1) := by decide +kernel
theorem d_Parts_newUnitsAt_84 : decode b_Parts_newUnitsAt 84 = .ok (.iadd, 1) := by decide +kernel
theorem d_Parts_newUnitsAt_85 : decode b_Parts_newUnitsAt 85 = .ok (.invokestatic 73, 3) := by decide +kernel
theorem d_Parts_newUnitsAt_88 : decode b_Parts_newUnitsAt 88 = .ok (.iinc 6 1, 3) := by decide +kernel
theorem d_Parts_newUnitsAt_91 : decode b_Parts_newUnitsAt 91 = .ok (.iload 8, 2) := by decide +kernel
theorem d_Parts_newUnitsAt_93 : decode b_Parts_newUnitsAt 93 = .ok (.iload_n 2, 1) := by decide +kernel
theorem d_Parts_newUnitsAt_94 : decode b_Parts_newUnitsAt 94 = .ok (.if_icmp .ne 12, 3) := by decide +kernel
theorem d_Parts_newUnitsAt_97 : decode b_Parts_newUnitsAt 97 = .ok (.iload 5, 2) := by decide +kernel
theorem d_Parts_newUnitsAt_99 : decode b_Parts_newUnitsAt 99 = .ok (.iload_n 3, 1) := by decide +kernel
theorem d_Parts_newUnitsAt_100 : decode b_Parts_newUnitsAt 100 = .ok (.if_icmp .ne 6, 3) := by decide +kernel
theorem d_Parts_newUnitsAt_103 : decode b_Parts_newUnitsAt 103 = .ok (.iload 6, 2) := by decide +kernel
theorem d_Parts_newUnitsAt_105 : decode b_Parts_newUnitsAt 105 = .ok (.ireturn, 1) := by decide +kernel
theorem d_Parts_newUnitsAt_106 : decode b_Parts_newUnitsAt 106 = .ok (.iinc 7 1, 3) := by decide +kernel
theorem d_Parts_newUnitsAt_109 : decode b_Parts_newUnitsAt 109 = .ok (.goto (-83), 3) := by decide +kernel
theorem d_Parts_newUnitsAt_112 : decode b_Parts_newUnitsAt 112 = .ok (.iload 6, 2) := by decide +kernel
theorem d_Parts_newUnitsAt_114 : decode b_Parts_newUnitsAt 114 = .ok (.ireturn, 1) := by decide +kernel
theorem d_Row_init_0 : decode b_Row_init 0 = .ok (.aload_n 0, 1) := by decide +kernel
theorem d_Row_init_1 : decode b_Row_init 1 = .ok (.invokespecial 3, 3) := by decide +kernel
theorem d_Row_init_4 : decode b_Row_init 4 = .ok (.aload_n 0, 1) := by decide +kernel
theorem d_Row_init_5 : decode b_Row_init 5 = .ok (.aload_n 1, 1) := by decide +kernel
theorem d_Row_init_6 : decode b_Row_init 6 = .ok (.putfield 9, 3) := by decide +kernel
theorem d_Row_init_9 : decode b_Row_init 9 = .ok (.aload_n 0, 1) := by decide +kernel
theorem d_Row_init_10 : decode b_Row_init 10 = .ok (.iload_n 2, 1) := by decide +kernel
theorem d_Row_init_11 : decode b_Row_init 11 = .ok (.iconst 0, 1) := by decide +kernel
theorem d_Row_init_12 : decode b_Row_init 12 = .ok (.invokestatic 15, 3) := by decide +kernel
theorem d_Row_init_15 : decode b_Row_init 15 = .ok (.newarray .long, 2) := by decide +kernel
theorem d_Row_init_17 : decode b_Row_init 17 = .ok (.putfield 21, 3) := by decide +kernel
theorem d_Row_init_20 : decode b_Row_init 20 = .ok (.aload_n 0, 1) := by decide +kernel
theorem d_Row_init_21 : decode b_Row_init 21 = .ok (.getfield 21, 3) := by decide +kernel
theorem d_Row_init_24 : decode b_Row_init 24 = .ok (.lload_n 3, 1) := by decide +kernel
theorem d_Row_init_25 : decode b_Row_init 25 = .ok (.invokestatic 25, 3) := by decide +kernel
theorem d_Row_init_28 : decode b_Row_init 28 = .ok (.return_, 1) := by decide +kernel
theorem d_Row_longAt_0 : decode b_Row_longAt 0 = .ok (.iload_n 1, 1) := by decide +kernel
theorem d_Row_longAt_1 : decode b_Row_longAt 1 = .ok (.ifCond .lt 21, 3) := by decide +kernel
theorem d_Row_longAt_4 : decode b_Row_longAt 4 = .ok (.iload_n 1, 1) := by decide +kernel
theorem d_Row_longAt_5 : decode b_Row_longAt 5 = .ok (.aload_n 0, 1) := by decide +kernel
theorem d_Row_longAt_6 : decode b_Row_longAt 6 = .ok (.getfield 21, 3) := by decide +kernel
theorem d_Row_longAt_9 : decode b_Row_longAt 9 = .ok (.arraylength, 1) := by decide +kernel
theorem d_Row_longAt_10 : decode b_Row_longAt 10 = .ok (.if_icmp .ge 12, 3) := by decide +kernel
theorem d_Row_longAt_13 : decode b_Row_longAt 13 = .ok (.aload_n 0, 1) := by decide +kernel
theorem d_Row_longAt_14 : decode b_Row_longAt 14 = .ok (.getfield 21, 3) := by decide +kernel
theorem d_Row_longAt_17 : decode b_Row_longAt 17 = .ok (.iload_n 1, 1) := by decide +kernel
theorem d_Row_longAt_18 : decode b_Row_longAt 18 = .ok (.laload, 1) := by decide +kernel
theorem d_Row_longAt_19 : decode b_Row_longAt 19 = .ok (.goto 6, 3) := by decide +kernel
theorem d_Row_longAt_22 : decode b_Row_longAt 22 = .ok (.ldc2_w 31, 3) := by decide +kernel
theorem d_Row_longAt_25 : decode b_Row_longAt 25 = .ok (.lreturn, 1) := by decide +kernel
theorem d_Row_at_0 : decode b_Row_at 0 = .ok (.iload_n 1, 1) := by decide +kernel
theorem d_Row_at_1 : decode b_Row_at 1 = .ok (.ifCond .lt 22, 3) := by decide +kernel
theorem d_Row_at_4 : decode b_Row_at 4 = .ok (.iload_n 1, 1) := by decide +kernel
theorem d_Row_at_5 : decode b_Row_at 5 = .ok (.aload_n 0, 1) := by decide +kernel
theorem d_Row_at_6 : decode b_Row_at 6 = .ok (.getfield 21, 3) := by decide +kernel
theorem d_Row_at_9 : decode b_Row_at 9 = .ok (.arraylength, 1) := by decide +kernel
theorem d_Row_at_10 : decode b_Row_at 10 = .ok (.if_icmp .ge 13, 3) := by decide +kernel
theorem d_Row_at_13 : decode b_Row_at 13 = .ok (.aload_n 0, 1) := by decide +kernel
theorem d_Row_at_14 : decode b_Row_at 14 = .ok (.getfield 21, 3) := by decide +kernel
theorem d_Row_at_17 : decode b_Row_at 17 = .ok (.iload_n 1, 1) := by decide +kernel
theorem d_Row_at_18 : decode b_Row_at 18 = .ok (.laload, 1) := by decide +kernel
theorem d_Row_at_19 : decode b_Row_at 19 = .ok (.l2i, 1) := by decide +kernel
theorem d_Row_at_20 : decode b_Row_at 20 = .ok (.goto 4, 3) := by decide +kernel
theorem d_Row_at_23 : decode b_Row_at 23 = .ok (.iconst (-1), 1) := by decide +kernel
theorem d_Row_at_24 : decode b_Row_at 24 = .ok (.ireturn, 1) := by decide +kernel
theorem d_Row_set_0 : decode b_Row_set 0 = .ok (.aload_n 0, 1) := by decide +kernel
theorem d_Row_set_1 : decode b_Row_set 1 = .ok (.iload_n 1, 1) := by decide +kernel
theorem d_Row_set_2 : decode b_Row_set 2 = .ok (.invokevirtual 33, 3) := by decide +kernel
theorem d_Row_set_5 : decode b_Row_set 5 = .ok (.lstore 4, 2) := by decide +kernel
theorem d_Row_set_7 : decode b_Row_set 7 = .ok (.lload 4, 2) := by decide +kernel
theorem d_Row_set_9 : decode b_Row_set 9 = .ok (.lload_n 2, 1) := by decide +kernel
theorem d_Row_set_10 : decode b_Row_set 10 = .ok (.lcmp, 1) := by decide +kernel
theorem d_Row_set_11 : decode b_Row_set 11 = .ok (.ifCond .eq 20, 3) := by decide +kernel
theorem d_Row_set_14 : decode b_Row_set 14 = .ok (.aload_n 0, 1) := by decide +kernel
theorem d_Row_set_15 : decode b_Row_set 15 = .ok (.getfield 9, 3) := by decide +kernel
theorem d_Row_set_18 : decode b_Row_set 18 = .ok (.aload_n 0, 1) := by decide +kernel
theorem d_Row_set_19 : decode b_Row_set 19 = .ok (.iload_n 1, 1) := by decide +kernel
theorem d_Row_set_20 : decode b_Row_set 20 = .ok (.lload 4, 2) := by decide +kernel
theorem d_Row_set_22 : decode b_Row_set 22 = .ok (.invokevirtual 37, 3) := by decide +kernel
theorem d_Row_set_25 : decode b_Row_set 25 = .ok (.aload_n 0, 1) := by decide +kernel
theorem d_Row_set_26 : decode b_Row_set 26 = .ok (.iload_n 1, 1) := by decide +kernel
theorem d_Row_set_27 : decode b_Row_set 27 = .ok (.lload_n 2, 1) := by decide +kernel
theorem d_Row_set_28 : decode b_Row_set 28 = .ok (.invokevirtual 43, 3) := by decide +kernel
theorem d_Row_set_31 : decode b_Row_set 31 = .ok (.return_, 1) := by decide +kernel
theorem d_Row_restore_0 : decode b_Row_restore 0 = .ok (.iload_n 1, 1) := by decide +kernel
theorem d_Row_restore_1 : decode b_Row_restore 1 = .ok (.ifCond .lt 19, 3) := by decide +kernel
theorem d_Row_restore_4 : decode b_Row_restore 4 = .ok (.iload_n 1, 1) := by decide +kernel
theorem d_Row_restore_5 : decode b_Row_restore 5 = .ok (.aload_n 0, 1) := by decide +kernel
theorem d_Row_restore_6 : decode b_Row_restore 6 = .ok (.getfield 21, 3) := by decide +kernel
theorem d_Row_restore_9 : decode b_Row_restore 9 = .ok (.arraylength, 1) := by decide +kernel
theorem d_Row_restore_10 : decode b_Row_restore 10 = .ok (.if_icmp .ge 10, 3) := by decide +kernel
theorem d_Row_restore_13 : decode b_Row_restore 13 = .ok (.aload_n 0, 1) := by decide +kernel
theorem d_Row_restore_14 : decode b_Row_restore 14 = .ok (.getfield 21, 3) := by decide +kernel
theorem d_Row_restore_17 : decode b_Row_restore 17 = .ok (.iload_n 1, 1) := by decide +kernel
theorem d_Row_restore_18 : decode b_Row_restore 18 = .ok (.lload_n 2, 1) := by decide +kernel
theorem d_Row_restore_19 : decode b_Row_restore 19 = .ok (.lastore, 1) := by decide +kernel
theorem d_Row_restore_20 : decode b_Row_restore 20 = .ok (.return_, 1) := by decide +kernel
theorem d_Sheets_init_0 : decode b_Sheets_init 0 = .ok (.aload_n 0, 1) := by decide +kernel
theorem d_Sheets_init_1 : decode b_Sheets_init 1 = .ok (.invokespecial 3, 3) := by decide +kernel
theorem d_Sheets_init_4 : decode b_Sheets_init 4 = .ok (.aload_n 0, 1) := by decide +kernel
theorem d_Sheets_init_5 : decode b_Sheets_init 5 = .ok (.new 9, 3) := by decide +kernel
theorem d_Sheets_init_8 : decode b_Sheets_init 8 = .ok (.dup, 1) := by decide +kernel
theorem d_Sheets_init_9 : decode b_Sheets_init 9 = .ok (.aload_n 1, 1) := by decide +kernel
theorem d_Sheets_init_10 : decode b_Sheets_init 10 = .ok (.iconst 2, 1) := by decide +kernel
theorem d_Sheets_init_11 : decode b_Sheets_init 11 = .ok (.lconst 0, 1) := by decide +kernel
theorem d_Sheets_init_12 : decode b_Sheets_init 12 = .ok (.invokespecial 11, 3) := by decide +kernel
theorem d_Sheets_init_15 : decode b_Sheets_init 15 = .ok (.putfield 14, 3) := by decide +kernel
theorem d_Sheets_init_18 : decode b_Sheets_init 18 = .ok (.aload_n 0, 1) := by decide +kernel
theorem d_Sheets_init_19 : decode b_Sheets_init 19 = .ok (.new 9, 3) := by decide +kernel
theorem d_Sheets_init_22 : decode b_Sheets_init 22 = .ok (.dup, 1) := by decide +kernel
theorem d_Sheets_init_23 : decode b_Sheets_init 23 = .ok (.aload_n 1, 1) := by decide +kernel
theorem d_Sheets_init_24 : decode b_Sheets_init 24 = .ok (.bipush 24, 2) := by decide +kernel
theorem d_Sheets_init_26 : decode b_Sheets_init 26 = .ok (.lconst 0, 1) := by decide +kernel
theorem d_Sheets_init_27 : decode b_Sheets_init 27 = .ok (.invokespecial 11, 3) := by decide +kernel
theorem d_Sheets_init_30 : decode b_Sheets_init 30 = .ok (.putfield 20, 3) := by decide +kernel
theorem d_Sheets_init_33 : decode b_Sheets_init 33 = .ok (.aload_n 0, 1) := by decide +kernel
theorem d_Sheets_init_34 : decode b_Sheets_init 34 = .ok (.new 9, 3) := by decide +kernel
theorem d_Sheets_init_37 : decode b_Sheets_init 37 = .ok (.dup, 1) := by decide +kernel
theorem d_Sheets_init_38 : decode b_Sheets_init 38 = .ok (.aload_n 1, 1) := by decide +kernel
theorem d_Sheets_init_39 : decode b_Sheets_init 39 = .ok (.bipush 60, 2) := by decide +kernel
theorem d_Sheets_init_41 : decode b_Sheets_init 41 = .ok (.ldc2_w 23, 3) := by decide +kernel
theorem d_Sheets_init_44 : decode b_Sheets_init 44 = .ok (.invokespecial 11, 3) := by decide +kernel
theorem d_Sheets_init_47 : decode b_Sheets_init 47 = .ok (.putfield 25, 3) := by decide +kernel
theorem d_Sheets_init_50 : decode b_Sheets_init 50 = .ok (.aload_n 0, 1) := by decide +kernel
theorem d_Sheets_init_51 : decode b_Sheets_init 51 = .ok (.new 9, 3) := by decide +kernel
theorem d_Sheets_init_54 : decode b_Sheets_init 54 = .ok (.dup, 1) := by decide +kernel
theorem d_Sheets_init_55 : decode b_Sheets_init 55 = .ok (.aload_n 1, 1) := by decide +kernel
theorem d_Sheets_init_56 : decode b_Sheets_init 56 = .ok (.bipush 60, 2) := by decide +kernel
theorem d_Sheets_init_58 : decode b_Sheets_init 58 = .ok (.ldc2_w 23, 3) := by decide +kernel
theorem d_Sheets_init_61 : decode b_Sheets_init 61 = .ok (.invokespecial 11, 3) := by decide +kernel
theorem d_Sheets_init_64 : decode b_Sheets_init 64 = .ok (.putfield 28, 3) := by decide +kernel
theorem d_Sheets_init_67 : decode b_Sheets_init 67 = .ok (.aload_n 0, 1) := by decide +kernel
theorem d_Sheets_init_68 : decode b_Sheets_init 68 = .ok (.new 9, 3) := by decide +kernel
theorem d_Sheets_init_71 : decode b_Sheets_init 71 = .ok (.dup, 1) := by decide +kernel
theorem d_Sheets_init_72 : decode b_Sheets_init 72 = .ok (.aload_n 1, 1) := by decide +kernel
theorem d_Sheets_init_73 : decode b_Sheets_init 73 = .ok (.bipush 84, 2) := by decide +kernel
theorem d_Sheets_init_75 : decode b_Sheets_init 75 = .ok (.ldc2_w 23, 3) := by decide +kernel
theorem d_Sheets_init_78 : decode b_Sheets_init 78 = .ok (.invokespecial 11, 3) := by decide +kernel
theorem d_Sheets_init_81 : decode b_Sheets_init 81 = .ok (.putfield 31, 3) := by decide +kernel
theorem d_Sheets_init_84 : decode b_Sheets_init 84 = .ok (.aload_n 0, 1) := by decide +kernel
theorem d_Sheets_init_85 : decode b_Sheets_init 85 = .ok (.new 9, 3) := by decide +kernel
theorem d_Sheets_init_88 : decode b_Sheets_init 88 = .ok (.dup, 1) := by decide +kernel
theorem d_Sheets_init_89 : decode b_Sheets_init 89 = .ok (.aload_n 1, 1) := by decide +kernel
theorem d_Sheets_init_90 : decode b_Sheets_init 90 = .ok (.sipush 1920, 3) := by decide +kernel
theorem d_Sheets_init_93 : decode b_Sheets_init 93 = .ok (.ldc2_w 23, 3) := by decide +kernel
theorem d_Sheets_init_96 : decode b_Sheets_init 96 = .ok (.invokespecial 11, 3) := by decide +kernel
theorem d_Sheets_init_99 : decode b_Sheets_init 99 = .ok (.putfield 34, 3) := by decide +kernel
theorem d_Sheets_init_102 : decode b_Sheets_init 102 = .ok (.aload_n 0, 1) := by decide +kernel
theorem d_Sheets_init_103 : decode b_Sheets_init 103 = .ok (.getfield 14, 3) := by decide +kernel
theorem d_Sheets_init_106 : decode b_Sheets_init 106 = .ok (.iconst 0, 1) := by decide +kernel
theorem d_Sheets_init_107 : decode b_Sheets_init 107 = .ok (.lconst 1, 1) := by decide +kernel
theorem d_Sheets_init_108 : decode b_Sheets_init 108 = .ok (.invokevirtual 37, 3) := by decide +kernel
theorem d_Sheets_init_111 : decode b_Sheets_init 111 = .ok (.return_, 1) := by decide +kernel
theorem d_Sheets_sheetCount_0 : decode b_Sheets_sheetCount 0 = .ok (.aload_n 0, 1) := by decide +kernel
theorem d_Sheets_sheetCount_1 : decode b_Sheets_sheetCount 1 = .ok (.getfield 14, 3) := by decide +kernel
theorem d_Sheets_sheetCount_4 : decode b_Sheets_sheetCount 4 = .ok (.iconst 0, 1) := by decide +kernel
theorem d_Sheets_sheetCount_5 : decode b_Sheets_sheetCount 5 = .ok (.invokevirtual 41, 3) := by decide +kernel
theorem d_Sheets_sheetCount_8 : decode b_Sheets_sheetCount 8 = .ok (.ireturn, 1) := by decide +kernel
theorem d_Sheets_placementsLeft_0 : decode b_Sheets_placementsLeft 0 = .ok (.bipush 60, 2) := by decide +kernel
theorem d_Sheets_placementsLeft_2 : decode b_Sheets_placementsLeft 2 = .ok (.aload_n 0, 1) := by decide +kernel
theorem d_Sheets_placementsLeft_3 : decode b_Sheets_placementsLeft 3 = .ok (.getfield 14, 3) := by decide +kernel
theorem d_Sheets_placementsLeft_6 : decode b_Sheets_placementsLeft 6 = .ok (.iconst 1, 1) := by decide +kernel
theorem d_Sheets_placementsLeft_7 : decode b_Sheets_placementsLeft 7 = .ok (.invokevirtual 41, 3) := by decide +kernel
theorem d_Sheets_placementsLeft_10 : decode b_Sheets_placementsLeft 10 = .ok (.isub, 1) := by decide +kernel
theorem d_Sheets_placementsLeft_11 : decode b_Sheets_placementsLeft 11 = .ok (.ireturn, 1) := by decide +kernel
theorem d_Sheets_isSheet_0 : decode b_Sheets_isSheet 0 = .ok (.iload_n 1, 1) := by decide +kernel
theorem d_Sheets_isSheet_1 : decode b_Sheets_isSheet 1 = .ok (.ifCond .lt 15, 3) := by decide +kernel
theorem d_Sheets_isSheet_4 : decode b_Sheets_isSheet 4 = .ok (.iload_n 1, 1) := by decide +kernel
theorem d_Sheets_isSheet_5 : decode b_Sheets_isSheet 5 = .ok (.aload_n 0, 1) := by decide +kernel
theorem d_Sheets_isSheet_6 : decode b_Sheets_isSheet 6 = .ok (.invokevirtual 45, 3) := by decide +kernel
theorem d_Sheets_isSheet_9 : decode b_Sheets_isSheet 9 = .ok (.if_icmp .ge 7, 3) := by decide +kernel
theorem d_Sheets_isSheet_12 : decode b_Sheets_isSheet 12 = .ok (.iconst 1, 1) := by decide +kernel
theorem d_Sheets_isSheet_13 : decode b_Sheets_isSheet 13 = .ok (.goto 4, 3) := by decide +kernel
theorem d_Sheets_isSheet_16 : decode b_Sheets_isSheet 16 = .ok (.iconst 0, 1) := by decide +kernel
theorem d_Sheets_isSheet_17 : decode b_Sheets_isSheet 17 = .ok (.ireturn, 1) := by decide +kernel
theorem d_Sheets_isPlacement_0 : decode b_Sheets_isPlacement 0 = .ok (.aload_n 0, 1) := by decide +kernel
theorem d_Sheets_isPlacement_1 : decode b_Sheets_isPlacement 1 = .ok (.iload_n 1, 1) := by decide +kernel
theorem d_Sheets_isPlacement_2 : decode b_Sheets_isPlacement 2 = .ok (.invokevirtual 49, 3) := by decide +kernel
theorem d_Sheets_isPlacement_5 : decode b_Sheets_isPlacement 5 = .ok (.iconst (-1), 1) := by decide +kernel
theorem d_Sheets_isPlacement_6 : decode b_Sheets_isPlacement 6 = .ok (.if_icmp .eq 7, 3) := by decide +kernel
theorem d_Sheets_isPlacement_9 : decode b_Sheets_isPlacement 9 = .ok (.iconst 1, 1) := by decide +kernel
theorem d_Sheets_isPlacement_10 : decode b_Sheets_isPlacement 10 = .ok (.goto 4, 3) := by decide +kernel
theorem d_Sheets_isPlacement_13 : decode b_Sheets_isPlacement 13 = .ok (.iconst 0, 1) := by decide +kernel
theorem d_Sheets_isPlacement_14 : decode b_Sheets_isPlacement 14 = .ok (.ireturn, 1) := by decide +kernel
theorem d_Sheets_sheetOf_0 : decode b_Sheets_sheetOf 0 = .ok (.aload_n 0, 1) := by decide +kernel
theorem d_Sheets_sheetOf_1 : decode b_Sheets_sheetOf 1 = .ok (.getfield 25, 3) := by decide +kernel
theorem d_Sheets_sheetOf_4 : decode b_Sheets_sheetOf 4 = .ok (.iload_n 1, 1) := by decide +kernel
theorem d_Sheets_sheetOf_5 : decode b_Sheets_sheetOf 5 = .ok (.invokevirtual 41, 3) := by decide +kernel
theorem d_Sheets_sheetOf_8 : decode b_Sheets_sheetOf 8 = .ok (.ireturn, 1) := by decide +kernel
theorem d_Sheets_parentOf_0 : decode b_Sheets_parentOf 0 = .ok (.aload_n 0, 1) := by decide +kernel
theorem d_Sheets_parentOf_1 : decode b_Sheets_parentOf 1 = .ok (.getfield 28, 3) := by decide +kernel
theorem d_Sheets_parentOf_4 : decode b_Sheets_parentOf 4 = .ok (.iload_n 1, 1) := by decide +kernel
theorem d_Sheets_parentOf_5 : decode b_Sheets_parentOf 5 = .ok (.invokevirtual 41, 3) := by decide +kernel
theorem d_Sheets_parentOf_8 : decode b_Sheets_parentOf 8 = .ok (.ireturn, 1) := by decide +kernel
theorem d_Sheets_firstOn_0 : decode b_Sheets_firstOn 0 = .ok (.aload_n 0, 1) := by decide +kernel
theorem d_Sheets_firstOn_1 : decode b_Sheets_firstOn 1 = .ok (.getfield 31, 3) := by decide +kernel
theorem d_Sheets_firstOn_4 : decode b_Sheets_firstOn 4 = .ok (.aload_n 0, 1) := by decide +kernel
theorem d_Sheets_firstOn_5 : decode b_Sheets_firstOn 5 = .ok (.iload_n 1, 1) := by decide +kernel
theorem d_Sheets_firstOn_6 : decode b_Sheets_firstOn 6 = .ok (.invokevirtual 52, 3) := by decide +kernel
theorem d_Sheets_firstOn_9 : decode b_Sheets_firstOn 9 = .ok (.invokevirtual 41, 3) := by decide +kernel
theorem d_Sheets_firstOn_12 : decode b_Sheets_firstOn 12 = .ok (.ireturn, 1) := by decide +kernel
theorem d_Sheets_nextOf_0 : decode b_Sheets_nextOf 0 = .ok (.aload_n 0, 1) := by decide +kernel
theorem d_Sheets_nextOf_1 : decode b_Sheets_nextOf 1 = .ok (.getfield 31, 3) := by decide +kernel
theorem d_Sheets_nextOf_4 : decode b_Sheets_nextOf 4 = .ok (.iload_n 1, 1) := by decide +kernel
theorem d_Sheets_nextOf_5 : decode b_Sheets_nextOf 5 = .ok (.invokevirtual 41, 3) := by decide +kernel
theorem d_Sheets_nextOf_8 : decode b_Sheets_nextOf 8 = .ok (.ireturn, 1) := by decide +kernel
theorem d_Sheets_placementsOn_0 : decode b_Sheets_placementsOn 0 = .ok (.iconst 0, 1) := by decide +kernel
theorem d_Sheets_placementsOn_1 : decode b_Sheets_placementsOn 1 = .ok (.istore_n 2, 1) := by decide +kernel
theorem d_Sheets_placementsOn_2 : decode b_Sheets_placementsOn 2 = .ok (.aload_n 0, 1) := by decide +kernel
theorem d_Sheets_placementsOn_3 : decode b_Sheets_placementsOn 3 = .ok (.iload_n 1, 1) := by decide +kernel
theorem d_Sheets_placementsOn_4 : decode b_Sheets_placementsOn 4 = .ok (.invokevirtual 55, 3) := by decide +kernel
theorem d_Sheets_placementsOn_7 : decode b_Sheets_placementsOn 7 = .ok (.istore_n 3, 1) := by decide +kernel
theorem d_Sheets_placementsOn_8 : decode b_Sheets_placementsOn 8 = .ok (.iload_n 3, 1) := by decide +kernel
theorem d_Sheets_placementsOn_9 : decode b_Sheets_placementsOn 9 = .ok (.iconst (-1), 1) := by decide +kernel
theorem d_Sheets_placementsOn_10 : decode b_Sheets_placementsOn 10 = .ok (.if_icmp .eq 21, 3) := by decide +kernel
theorem d_Sheets_placementsOn_13 : decode b_Sheets_placementsOn 13 = .ok (.iload_n 2, 1) := by decide +kernel
theorem d_Sheets_placementsOn_14 : decode b_Sheets_placementsOn 14 = .ok (.bipush 60, 2) := by decide +kernel
theorem d_Sheets_placementsOn_16 : decode b_Sheets_placementsOn 16 = .ok (.if_icmp .ge 15, 3) := by decide +kernel
theorem d_Sheets_placementsOn_19 : decode b_Sheets_placementsOn 19 = .ok (.iinc 2 1, 3) := by decide +kernel
theorem d_Sheets_placementsOn_22 : decode b_Sheets_placementsOn 22 = .ok (.aload_n 0, 1) := by decide +kernel
theorem d_Sheets_placementsOn_23 : decode b_Sheets_placementsOn 23 = .ok (.iload_n 3, 1) := by decide +kernel
theorem d_Sheets_placementsOn_24 : decode b_Sheets_placementsOn 24 = .ok (.invokevirtual 58, 3) := by decide +kernel
theorem d_Sheets_placementsOn_27 : decode b_Sheets_placementsOn 27 = .ok (.istore_n 3, 1) := by decide +kernel
theorem d_Sheets_placementsOn_28 : decode b_Sheets_placementsOn 28 = .ok (.goto (-20), 3) := by decide +kernel
theorem d_Sheets_placementsOn_31 : decode b_Sheets_placementsOn 31 = .ok (.iload_n 2, 1) := by decide +kernel
theorem d_Sheets_placementsOn_32 : decode b_Sheets_placementsOn 32 = .ok (.ireturn, 1) := by decide +kernel
theorem d_Sheets_holds_0 : decode b_Sheets_holds 0 = .ok (.iconst 1, 1) := by decide +kernel
theorem d_Sheets_holds_1 : decode b_Sheets_holds 1 = .ok (.iload_n 1, 1) := by decide +kernel
theorem d_Sheets_holds_2 : decode b_Sheets_holds 2 = .ok (.ishl, 1) := by decide +kernel
theorem d_Sheets_holds_3 : decode b_Sheets_holds 3 = .ok (.istore_n 3, 1) := by decide +kernel
theorem d_Sheets_holds_4 : decode b_Sheets_holds 4 = .ok (.iconst 0, 1) := by decide +kernel
theorem d_Sheets_holds_5 : decode b_Sheets_holds 5 = .ok (.istore 4, 2) := by decide +kernel
theorem d_Sheets_holds_7 : decode b_Sheets_holds 7 = .ok (.iconst 0, 1) := by decide +kernel
theorem d_Sheets_holds_8 : decode b_Sheets_holds 8 = .ok (.istore 5, 2) := by decide +kernel
theorem d_Sheets_holds_10 : decode b_Sheets_holds 10 = .ok (.iload 5, 2) := by decide +kernel
theorem d_Sheets_holds_12 : decode b_Sheets_holds 12 = .ok (.bipush 24, 2) := by decide +kernel
theorem d_Sheets_holds_14 : decode b_Sheets_holds 14 = .ok (.if_icmp .ge 24, 3) := by decide +kernel
theorem d_Sheets_holds_17 : decode b_Sheets_holds 17 = .ok (.iload_n 3, 1) := by decide +kernel
theorem d_Sheets_holds_18 : decode b_Sheets_holds 18 = .ok (.iload 4, 2) := by decide +kernel
theorem d_Sheets_holds_20 : decode b_Sheets_holds 20 = .ok (.if_icmp .eq 18, 3) := by decide +kernel
theorem d_Sheets_holds_23 : decode b_Sheets_holds 23 = .ok (.iload_n 3, 1) := by decide +kernel
theorem d_Sheets_holds_24 : decode b_Sheets_holds 24 = .ok (.istore 4, 2) := by decide +kernel
theorem d_Sheets_holds_26 : decode b_Sheets_holds 26 = .ok (.aload_n 0, 1) := by decide +kernel
theorem d_Sheets_holds_27 : decode b_Sheets_holds 27 = .ok (.iload_n 3, 1) := by decide +kernel
theorem d_Sheets_holds_28 : decode b_Sheets_holds 28 = .ok (.invokevirtual 61, 3) := by decide +kernel
theorem d_Sheets_holds_31 : decode b_Sheets_holds 31 = .ok (.istore_n 3, 1) := by decide +kernel
theorem d_Sheets_holds_32 : decode b_Sheets_holds 32 = .ok (.iinc 5 1, 3) := by decide +kernel
theorem d_Sheets_holds_35 : decode b_Sheets_holds 35 = .ok (.goto (-25), 3) := by decide +kernel
theorem d_Sheets_holds_38 : decode b_Sheets_holds 38 = .ok (.iload_n 3, 1) := by decide +kernel
theorem d_Sheets_holds_39 : decode b_Sheets_holds 39 = .ok (.iconst 1, 1) := by decide +kernel
theorem d_Sheets_holds_40 : decode b_Sheets_holds 40 = .ok (.iload_n 2, 1) := by decide +kernel
theorem d_Sheets_holds_41 : decode b_Sheets_holds 41 = .ok (.ishl, 1) := by decide +kernel
theorem d_Sheets_holds_42 : decode b_Sheets_holds 42 = .ok (.iand, 1) := by decide +kernel
theorem d_Sheets_holds_43 : decode b_Sheets_holds 43 = .ok (.ifCond .eq 7, 3) := by decide +kernel
theorem d_Sheets_holds_46 : decode b_Sheets_holds 46 = .ok (.iconst 1, 1) := by decide +kernel
theorem d_Sheets_holds_47 : decode b_Sheets_holds 47 = .ok (.goto 4, 3) := by decide +kernel
theorem d_Sheets_holds_50 : decode b_Sheets_holds 50 = .ok (.iconst 0, 1) := by decide +kernel
theorem d_Sheets_holds_51 : decode b_Sheets_holds 51 = .ok (.ireturn, 1) := by decide +kernel
theorem d_Sheets_withPlacedOn_0 : decode b_Sheets_withPlacedOn 0 = .ok (.iload_n 1, 1) := by decide +kernel
theorem d_Sheets_withPlacedOn_1 : decode b_Sheets_withPlacedOn 1 = .ok (.istore_n 2, 1) := by decide +kernel
theorem d_Sheets_withPlacedOn_2 : decode b_Sheets_withPlacedOn 2 = .ok (.iconst 0, 1) := by decide +kernel
theorem d_Sheets_withPlacedOn_3 : decode b_Sheets_withPlacedOn 3 = .ok (.istore_n 3, 1) := by decide +kernel
theorem d_Sheets_withPlacedOn_4 : decode b_Sheets_withPlacedOn 4 = .ok (.iload_n 3, 1) := by decide +kernel
theorem d_Sheets_withPlacedOn_5 : decode b_Sheets_withPlacedOn 5 = .ok (.bipush 60, 2) := by decide +kernel
theorem d_Sheets_withPlacedOn_7 : decode b_Sheets_withPlacedOn 7 = .ok (.if_icmp .ge 39, 3) := by decide +kernel
theorem d_Sheets_withPlacedOn_10 : decode b_Sheets_withPlacedOn 10 = .ok (.aload_n 0, 1) := by decide +kernel
theorem d_Sheets_withPlacedOn_11 : decode b_Sheets_withPlacedOn 11 = .ok (.iload_n 3, 1) := by decide +kernel
theorem d_Sheets_withPlacedOn_12 : decode b_Sheets_withPlacedOn 12 = .ok (.invokevirtual 64, 3) := by decide +kernel
theorem d_Sheets_withPlacedOn_15 : decode b_Sheets_withPlacedOn 15 = .ok (.ifCond .eq 25, 3) := by decide +kernel
theorem d_Sheets_withPlacedOn_18 : decode b_Sheets_withPlacedOn 18 = .ok (.iload_n 2, 1) := by decide +kernel
theorem d_Sheets_withPlacedOn_19 : decode b_Sheets_withPlacedOn 19 = .ok (.iconst 1, 1) := by decide +kernel
theorem d_Sheets_withPlacedOn_20 : decode b_Sheets_withPlacedOn 20 = .ok (.aload_n 0, 1) := by decide +kernel
theorem d_Sheets_withPlacedOn_21 : decode b_Sheets_withPlacedOn 21 = .ok (.iload_n 3, 1) := by decide +kernel
theorem d_Sheets_withPlacedOn_22 : decode b_Sheets_withPlacedOn 22 = .ok (.invokevirtual 49, 3) := by decide +kernel
theorem d_Sheets_withPlacedOn_25 : decode b_Sheets_withPlacedOn 25 = .ok (.ishl, 1) := by decide +kernel
theorem d_Sheets_withPlacedOn_26 : decode b_Sheets_withPlacedOn 26 = .ok (.iand, 1) := by decide +kernel
theorem d_Sheets_withPlacedOn_27 : decode b_Sheets_withPlacedOn 27 = .ok (.ifCond .eq 13, 3) := by decide +kernel
theorem d_Sheets_withPlacedOn_30 : decode b_Sheets_withPlacedOn 30 = .ok (.iload_n 2, 1) := by decide +kernel
theorem d_Sheets_withPlacedOn_31 : decode b_Sheets_withPlacedOn 31 = .ok (.iconst 1, 1) := by decide +kernel
theorem d_Sheets_withPlacedOn_32 : decode b_Sheets_withPlacedOn 32 = .ok (.aload_n 0, 1) := by decide +kernel
theorem d_Sheets_withPlacedOn_33 : decode b_Sheets_withPlacedOn 33 = .ok (.iload_n 3, 1) := by decide +kernel
theorem d_Sheets_withPlacedOn_34 : decode b_Sheets_withPlacedOn 34 = .ok (.invokevirtual 68, 3) := by decide +kernel
theorem d_Sheets_withPlacedOn_37 : decode b_Sheets_withPlacedOn 37 = .ok (.ishl, 1) := by decide +kernel
theorem d_Sheets_withPlacedOn_38 : decode b_Sheets_withPlacedOn 38 = .ok (.ior, 1) := by decide +kernel
theorem d_Sheets_withPlacedOn_39 : decode b_Sheets_withPlacedOn 39 = .ok (.istore_n 2, 1) := by decide +kernel
theorem d_Sheets_withPlacedOn_40 : decode b_Sheets_withPlacedOn 40 = .ok (.iinc 3 1, 3) := by decide +kernel
theorem d_Sheets_withPlacedOn_43 : decode b_Sheets_withPlacedOn 43 = .ok (.goto (-39), 3) := by decide +kernel
theorem d_Sheets_withPlacedOn_46 : decode b_Sheets_withPlacedOn 46 = .ok (.iload_n 2, 1) := by decide +kernel
theorem d_Sheets_withPlacedOn_47 : decode b_Sheets_withPlacedOn 47 = .ok (.ireturn, 1) := by decide +kernel
theorem d_Sheets_addSheet_0 : decode b_Sheets_addSheet 0 = .ok (.aload_n 0, 1) := by decide +kernel
theorem d_Sheets_addSheet_1 : decode b_Sheets_addSheet 1 = .ok (.invokevirtual 45, 3) := by decide +kernel
theorem d_Sheets_addSheet_4 : decode b_Sheets_addSheet 4 = .ok (.istore_n 1, 1) := by decide +kernel
theorem d_Sheets_addSheet_5 : decode b_Sheets_addSheet 5 = .ok (.aload_n 0, 1) := by decide +kernel
theorem d_Sheets_addSheet_6 : decode b_Sheets_addSheet 6 = .ok (.getfield 14, 3) := by decide +kernel
theorem d_Sheets_addSheet_9 : decode b_Sheets_addSheet 9 = .ok (.iconst 0, 1) := by decide +kernel
theorem d_Sheets_addSheet_10 : decode b_Sheets_addSheet 10 = .ok (.iload_n 1, 1) := by decide +kernel
theorem d_Sheets_addSheet_11 : decode b_Sheets_addSheet 11 = .ok (.iconst 1, 1) := by decide +kernel
theorem d_Sheets_addSheet_12 : decode b_Sheets_addSheet 12 = .ok (.iadd, 1) := by decide +kernel
theorem d_Sheets_addSheet_13 : decode b_Sheets_addSheet 13 = .ok (.i2l, 1) := by decide +kernel
theorem d_Sheets_addSheet_14 : decode b_Sheets_addSheet 14 = .ok (.invokevirtual 71, 3) := by decide +kernel
theorem d_Sheets_addSheet_17 : decode b_Sheets_addSheet 17 = .ok (.iload_n 1, 1) := by decide +kernel
theorem d_Sheets_addSheet_18 : decode b_Sheets_addSheet 18 = .ok (.ireturn, 1) := by decide +kernel
theorem d_Sheets_addSheetLike_0 : decode b_Sheets_addSheetLike 0 = .ok (.aload_n 0, 1) := by decide +kernel
theorem d_Sheets_addSheetLike_1 : decode b_Sheets_addSheetLike 1 = .ok (.invokevirtual 74, 3) := by decide +kernel
theorem d_Sheets_addSheetLike_4 : decode b_Sheets_addSheetLike 4 = .ok (.istore_n 2, 1) := by decide +kernel
theorem d_Sheets_addSheetLike_5 : decode b_Sheets_addSheetLike 5 = .ok (.aload_n 0, 1) := by decide +kernel
theorem d_Sheets_addSheetLike_6 : decode b_Sheets_addSheetLike 6 = .ok (.getfield 20, 3) := by decide +kernel
theorem d_Sheets_addSheetLike_9 : decode b_Sheets_addSheetLike 9 = .ok (.iload_n 2, 1) := by decide +kernel
theorem d_Sheets_addSheetLike_10 : decode b_Sheets_addSheetLike 10 = .ok (.aload_n 0, 1) := by decide +kernel
theorem d_Sheets_addSheetLike_11 : decode b_Sheets_addSheetLike 11 = .ok (.getfield 20, 3) := by decide +kernel
theorem d_Sheets_addSheetLike_14 : decode b_Sheets_addSheetLike 14 = .ok (.iload_n 1, 1) := by decide +kernel
theorem d_Sheets_addSheetLike_15 : decode b_Sheets_addSheetLike 15 = .ok (.invokevirtual 41, 3) := by decide +kernel
theorem d_Sheets_addSheetLike_18 : decode b_Sheets_addSheetLike 18 = .ok (.i2l, 1) := by decide +kernel
theorem d_Sheets_addSheetLike_19 : decode b_Sheets_addSheetLike 19 = .ok (.invokevirtual 71, 3) := by decide +kernel
theorem d_Sheets_addSheetLike_22 : decode b_Sheets_addSheetLike 22 = .ok (.aload_n 0, 1) := by decide +kernel
theorem d_Sheets_addSheetLike_23 : decode b_Sheets_addSheetLike 23 = .ok (.iload_n 1, 1) := by decide +kernel
theorem d_Sheets_addSheetLike_24 : decode b_Sheets_addSheetLike 24 = .ok (.invokevirtual 55, 3) := by decide +kernel
theorem d_Sheets_addSheetLike_27 : decode b_Sheets_addSheetLike 27 = .ok (.istore_n 3, 1) := by decide +kernel
theorem d_Sheets_addSheetLike_28 : decode b_Sheets_addSheetLike 28 = .ok (.iconst 0, 1) := by decide +kernel
theorem d_Sheets_addSheetLike_29 : decode b_Sheets_addSheetLike 29 = .ok (.istore 4, 2) := by decide +kernel
theorem d_Sheets_addSheetLike_31 : decode b_Sheets_addSheetLike 31 = .ok (.iload 4, 2) := by decide +kernel
theorem d_Sheets_addSheetLike_33 : decode b_Sheets_addSheetLike 33 = .ok (.bipush 60, 2) := by decide +kernel
theorem d_Sheets_addSheetLike_35 : decode b_Sheets_addSheetLike 35 = .ok (.if_icmp .ge 35, 3) := by decide +kernel
theorem d_Sheets_addSheetLike_38 : decode b_Sheets_addSheetLike 38 = .ok (.iload_n 3, 1) := by decide +kernel
theorem d_Sheets_addSheetLike_39 : decode b_Sheets_addSheetLike 39 = .ok (.iconst (-1), 1) := by decide +kernel
theorem d_Sheets_addSheetLike_40 : decode b_Sheets_addSheetLike 40 = .ok (.if_icmp .eq 30, 3) := by decide +kernel
theorem d_Sheets_addSheetLike_43 : decode b_Sheets_addSheetLike 43 = .ok (.aload_n 0, 1) := by decide +kernel
theorem d_Sheets_addSheetLike_44 : decode b_Sheets_addSheetLike 44 = .ok (.iload_n 3, 1) := by decide +kernel
theorem d_Sheets_addSheetLike_45 : decode b_Sheets_addSheetLike 45 = .ok (.aload_n 0, 1) := by decide +kernel
theorem d_Sheets_addSheetLike_46 : decode b_Sheets_addSheetLike 46 = .ok (.iload_n 2, 1) := by decide +kernel
theorem d_Sheets_addSheetLike_47 : decode b_Sheets_addSheetLike 47 = .ok (.aload_n 0, 1) := by decide +kernel
theorem d_Sheets_addSheetLike_48 : decode b_Sheets_addSheetLike 48 = .ok (.iload_n 3, 1) := by decide +kernel
theorem d_Sheets_addSheetLike_49 : decode b_Sheets_addSheetLike 49 = .ok (.invokevirtual 68, 3) := by decide +kernel
theorem d_Sheets_addSheetLike_52 : decode b_Sheets_addSheetLike 52 = .ok (.invokevirtual 77, 3) := by decide +kernel
theorem d_Sheets_addSheetLike_55 : decode b_Sheets_addSheetLike 55 = .ok (.invokevirtual 81, 3) := by decide +kernel
theorem d_Sheets_addSheetLike_58 : decode b_Sheets_addSheetLike 58 = .ok (.aload_n 0, 1) := by decide +kernel
theorem d_Sheets_addSheetLike_59 : decode b_Sheets_addSheetLike 59 = .ok (.iload_n 3, 1) := by decide +kernel
theorem d_Sheets_addSheetLike_60 : decode b_Sheets_addSheetLike 60 = .ok (.invokevirtual 58, 3) := by decide +kernel
theorem d_Sheets_addSheetLike_63 : decode b_Sheets_addSheetLike 63 = .ok (.istore_n 3, 1) := by decide +kernel
theorem d_Sheets_addSheetLike_64 : decode b_Sheets_addSheetLike 64 = .ok (.iinc 4 1, 3) := by decide +kernel
theorem d_Sheets_addSheetLike_67 : decode b_Sheets_addSheetLike 67 = .ok (.goto (-36), 3) := by decide +kernel
theorem d_Sheets_addSheetLike_70 : decode b_Sheets_addSheetLike 70 = .ok (.iload_n 2, 1) := by decide +kernel
theorem d_Sheets_addSheetLike_71 : decode b_Sheets_addSheetLike 71 = .ok (.ireturn, 1) := by decide +kernel
theorem d_Sheets_copyJoints_0 : decode b_Sheets_copyJoints 0 = .ok (.iconst 0, 1) := by decide +kernel
theorem d_Sheets_copyJoints_1 : decode b_Sheets_copyJoints 1 = .ok (.istore_n 3, 1) := by decide +kernel
theorem d_Sheets_copyJoints_2 : decode b_Sheets_copyJoints 2 = .ok (.iload_n 3, 1) := by decide +kernel
theorem d_Sheets_copyJoints_3 : decode b_Sheets_copyJoints 3 = .ok (.bipush 32, 2) := by decide +kernel
theorem d_Sheets_copyJoints_5 : decode b_Sheets_copyJoints 5 = .ok (.if_icmp .ge 21, 3) := by decide +kernel
theorem d_Sheets_copyJoints_8 : decode b_Sheets_copyJoints 8 = .ok (.aload_n 0, 1) := by decide +kernel
theorem d_Sheets_copyJoints_9 : decode b_Sheets_copyJoints 9 = .ok (.iload_n 2, 1) := by decide +kernel
theorem d_Sheets_copyJoints_10 : decode b_Sheets_copyJoints 10 = .ok (.iload_n 3, 1) := by decide +kernel
theorem d_Sheets_copyJoints_11 : decode b_Sheets_copyJoints 11 = .ok (.aload_n 0, 1) := by decide +kernel
theorem d_Sheets_copyJoints_12 : decode b_Sheets_copyJoints 12 = .ok (.iload_n 1, 1) := by decide +kernel
theorem d_Sheets_copyJoints_13 : decode b_Sheets_copyJoints 13 = .ok (.iload_n 3, 1) := by decide +kernel
theorem d_Sheets_copyJoints_14 : decode b_Sheets_copyJoints 14 = .ok (.invokevirtual 85, 3) := by decide +kernel
theorem d_Sheets_copyJoints_17 : decode b_Sheets_copyJoints 17 = .ok (.invokevirtual 88, 3) := by decide +kernel
theorem d_Sheets_copyJoints_20 : decode b_Sheets_copyJoints 20 = .ok (.iinc 3 1, 3) := by decide +kernel
theorem d_Sheets_copyJoints_23 : decode b_Sheets_copyJoints 23 = .ok (.goto (-21), 3) := by decide +kernel
theorem d_Sheets_copyJoints_26 : decode b_Sheets_copyJoints 26 = .ok (.return_, 1) := by decide +kernel
theorem d_Sheets_addPlacement_0 : decode b_Sheets_addPlacement 0 = .ok (.aload_n 0, 1) := by decide +kernel
theorem d_Sheets_addPlacement_1 : decode b_Sheets_addPlacement 1 = .ok (.getfield 14, 3) := by decide +kernel
theorem d_Sheets_addPlacement_4 : decode b_Sheets_addPlacement 4 = .ok (.iconst 1, 1) := by decide +kernel
theorem d_Sheets_addPlacement_5 : decode b_Sheets_addPlacement 5 = .ok (.invokevirtual 41, 3) := by decide +kernel
theorem d_Sheets_addPlacement_8 : decode b_Sheets_addPlacement 8 = .ok (.istore_n 3, 1) := by decide +kernel
theorem d_Sheets_addPlacement_9 : decode b_Sheets_addPlacement 9 = .ok (.aload_n 0, 1) := by decide +kernel
theorem d_Sheets_addPlacement_10 : decode b_Sheets_addPlacement 10 = .ok (.getfield 14, 3) := by decide +kernel
theorem d_Sheets_addPlacement_13 : decode b_Sheets_addPlacement 13 = .ok (.iconst 1, 1) := by decide +kernel
theorem d_Sheets_addPlacement_14 : decode b_Sheets_addPlacement 14 = .ok (.iload_n 3, 1) := by decide +kernel
theorem d_Sheets_addPlacement_15 : decode b_Sheets_addPlacement 15 = .ok (.iconst 1, 1) := by decide +kernel
theorem d_Sheets_addPlacement_16 : decode b_Sheets_addPlacement 16 = .ok (.iadd, 1) := by decide +kernel
theorem d_Sheets_addPlacement_17 : decode b_Sheets_addPlacement 17 = .ok (.i2l, 1) := by decide +kernel
theorem d_Sheets_addPlacement_18 : decode b_Sheets_addPlacement 18 = .ok (.invokevirtual 71, 3) := by decide +kernel
theorem d_Sheets_addPlacement_21 : decode b_Sheets_addPlacement 21 = .ok (.aload_n 0, 1) := by decide +kernel
theorem d_Sheets_addPlacement_22 : decode b_Sheets_addPlacement 22 = .ok (.getfield 25, 3) := by decide +kernel
theorem d_Sheets_addPlacement_25 : decode b_Sheets_addPlacement 25 = .ok (.iload_n 3, 1) := by decide +kernel
theorem d_Sheets_addPlacement_26 : decode b_Sheets_addPlacement 26 = .ok (.iload_n 2, 1) := by decide +kernel
theorem d_Sheets_addPlacement_27 : decode b_Sheets_addPlacement 27 = .ok (.i2l, 1) := by decide +kernel
theorem d_Sheets_addPlacement_28 : decode b_Sheets_addPlacement 28 = .ok (.invokevirtual 71, 3) := by decide +kernel
theorem d_Sheets_addPlacement_31 : decode b_Sheets_addPlacement 31 = .ok (.aload_n 0, 1) := by decide +kernel
theorem d_Sheets_addPlacement_32 : decode b_Sheets_addPlacement 32 = .ok (.iload_n 3, 1) := by decide +kernel
theorem d_Sheets_addPlacement_33 : decode b_Sheets_addPlacement 33 = .ok (.iload_n 1, 1) := by decide +kernel
theorem d_Sheets_addPlacement_34 : decode b_Sheets_addPlacement 34 = .ok (.invokevirtual 92, 3) := by decide +kernel
theorem d_Sheets_addPlacement_37 : decode b_Sheets_addPlacement 37 = .ok (.iload_n 3, 1) := by decide +kernel
theorem d_Sheets_addPlacement_38 : decode b_Sheets_addPlacement 38 = .ok (.ireturn, 1) := by decide +kernel
theorem d_Sheets_takeAway_0 : decode b_Sheets_takeAway 0 = .ok (.aload_n 0, 1) := by decide +kernel
theorem d_Sheets_takeAway_1 : decode b_Sheets_takeAway 1 = .ok (.iload_n 1, 1) := by decide +kernel
theorem d_Sheets_takeAway_2 : decode b_Sheets_takeAway 2 = .ok (.invokevirtual 95, 3) := by decide +kernel
theorem d_Sheets_takeAway_5 : decode b_Sheets_takeAway 5 = .ok (.aload_n 0, 1) := by decide +kernel
theorem d_Sheets_takeAway_6 : decode b_Sheets_takeAway 6 = .ok (.getfield 28, 3) := by decide +kernel
theorem d_Sheets_takeAway_9 : decode b_Sheets_takeAway 9 = .ok (.iload_n 1, 1) := by decide +kernel
theorem d_Sheets_takeAway_10 : decode b_Sheets_takeAway 10 = .ok (.ldc2_w 23, 3) := by decide +kernel
theorem d_Sheets_takeAway_13 : decode b_Sheets_takeAway 13 = .ok (.invokevirtual 71, 3) := by decide +kernel
theorem d_Sheets_takeAway_16 : decode b_Sheets_takeAway 16 = .ok (.return_, 1) := by decide +kernel
theorem d_Sheets_bringTo_0 : decode b_Sheets_bringTo 0 = .ok (.aload_n 0, 1) := by decide +kernel
theorem d_Sheets_bringTo_1 : decode b_Sheets_bringTo 1 = .ok (.iload_n 1, 1) := by decide +kernel
theorem d_Sheets_bringTo_2 : decode b_Sheets_bringTo 2 = .ok (.invokevirtual 95, 3) := by decide +kernel
theorem d_Sheets_bringTo_5 : decode b_Sheets_bringTo 5 = .ok (.aload_n 0, 1) := by decide +kernel
theorem d_Sheets_bringTo_6 : decode b_Sheets_bringTo 6 = .ok (.iload_n 1, 1) := by decide +kernel
theorem d_Sheets_bringTo_7 : decode b_Sheets_bringTo 7 = .ok (.iload_n 2, 1) := by decide +kernel
theorem d_Sheets_bringTo_8 : decode b_Sheets_bringTo 8 = .ok (.invokevirtual 92, 3) := by decide +kernel
theorem d_Sheets_bringTo_11 : decode b_Sheets_bringTo 11 = .ok (.iconst 0, 1) := by decide +kernel
theorem d_Sheets_bringTo_12 : decode b_Sheets_bringTo 12 = .ok (.istore_n 3, 1) := by decide +kernel
theorem d_Sheets_bringTo_13 : decode b_Sheets_bringTo 13 = .ok (.iconst 0, 1) := by decide +kernel
theorem d_Sheets_bringTo_14 : decode b_Sheets_bringTo 14 = .ok (.istore 4, 2) := by decide +kernel
theorem d_Sheets_bringTo_16 : decode b_Sheets_bringTo 16 = .ok (.iload 4, 2) := by decide +kernel
theorem d_Sheets_bringTo_18 : decode b_Sheets_bringTo 18 = .ok (.bipush 32, 2) := by decide +kernel
theorem d_Sheets_bringTo_20 : decode b_Sheets_bringTo 20 = .ok (.if_icmp .ge 49, 3) := by decide +kernel
theorem d_Sheets_bringTo_23 : decode b_Sheets_bringTo 23 = .ok (.aload_n 0, 1) := by decide +kernel
theorem d_Sheets_bringTo_24 : decode b_Sheets_bringTo 24 = .ok (.iload_n 1, 1) := by decide +kernel
theorem d_Sheets_bringTo_25 : decode b_Sheets_bringTo 25 = .ok (.iload 4, 2) := by decide +kernel
theorem d_Sheets_bringTo_27 : decode b_Sheets_bringTo 27 = .ok (.invokevirtual 85, 3) := by decide +kernel
theorem d_Sheets_bringTo_30 : decode b_Sheets_bringTo 30 = .ok (.istore 5, 2) := by decide +kernel
theorem d_Sheets_bringTo_32 : decode b_Sheets_bringTo 32 = .ok (.iload 5, 2) := by decide +kernel
theorem d_Sheets_bringTo_34 : decode b_Sheets_bringTo 34 = .ok (.iconst (-1), 1) := by decide +kernel
theorem d_Sheets_bringTo_35 : decode b_Sheets_bringTo 35 = .ok (.if_icmp .eq 28, 3) := by decide +kernel
theorem d_Sheets_bringTo_38 : decode b_Sheets_bringTo 38 = .ok (.aload_n 0, 1) := by decide +kernel
theorem d_Sheets_bringTo_39 : decode b_Sheets_bringTo 39 = .ok (.iload_n 2, 1) := by decide +kernel
theorem d_Sheets_bringTo_40 : decode b_Sheets_bringTo 40 = .ok (.iload 5, 2) := by decide +kernel
theorem d_Sheets_bringTo_42 : decode b_Sheets_bringTo 42 = .ok (.invokevirtual 99, 3) := by decide +kernel
theorem d_Sheets_bringTo_45 : decode b_Sheets_bringTo 45 = .ok (.ifCond .ne 18, 3) := by decide +kernel
theorem d_Sheets_bringTo_48 : decode b_Sheets_bringTo 48 = .ok (.aload_n 0, 1) := by decide +kernel
theorem d_Sheets_bringTo_49 : decode b_Sheets_bringTo 49 = .ok (.iload_n 1, 1) := by decide +kernel
theorem d_Sheets_bringTo_50 : decode b_Sheets_bringTo 50 = .ok (.iload 4, 2) := by decide +kernel
theorem d_Sheets_bringTo_52 : decode b_Sheets_bringTo 52 = .ok (.iconst (-1), 1) := by decide +kernel
theorem d_Sheets_bringTo_53 : decode b_Sheets_bringTo 53 = .ok (.invokevirtual 88, 3) := by decide +kernel
theorem d_Sheets_bringTo_56 : decode b_Sheets_bringTo 56 = .ok (.iload_n 3, 1) := by decide +kernel
theorem d_Sheets_bringTo_57 : decode b_Sheets_bringTo 57 = .ok (.iconst 1, 1) := by decide +kernel
theorem d_Sheets_bringTo_58 : decode b_Sheets_bringTo 58 = .ok (.iload 4, 2) := by decide +kernel
theorem d_Sheets_bringTo_60 : decode b_Sheets_bringTo 60 = .ok (.ishl, 1) := by decide +kernel
theorem d_Sheets_bringTo_61 : decode b_Sheets_bringTo 61 = .ok (.ior, 1) := by decide +kernel
theorem d_Sheets_bringTo_62 : decode b_Sheets_bringTo 62 = .ok (.istore_n 3, 1) := by decide +kernel
theorem d_Sheets_bringTo_63 : decode b_Sheets_bringTo 63 = .ok (.iinc 4 1, 3) := by decide +kernel
theorem d_Sheets_bringTo_66 : decode b_Sheets_bringTo 66 = .ok (.goto (-50), 3) := by decide +kernel
theorem d_Sheets_bringTo_69 : decode b_Sheets_bringTo 69 = .ok (.iload_n 3, 1) := by decide +kernel
theorem d_Sheets_bringTo_70 : decode b_Sheets_bringTo 70 = .ok (.ireturn, 1) := by decide +kernel
theorem d_Sheets_append_0 : decode b_Sheets_append 0 = .ok (.aload_n 0, 1) := by decide +kernel
theorem d_Sheets_append_1 : decode b_Sheets_append 1 = .ok (.getfield 28, 3) := by decide +kernel
theorem d_Sheets_append_4 : decode b_Sheets_append 4 = .ok (.iload_n 1, 1) := by decide +kernel
theorem d_Sheets_append_5 : decode b_Sheets_append 5 = .ok (.iload_n 2, 1) := by decide +kernel
theorem d_Sheets_append_6 : decode b_Sheets_append 6 = .ok (.i2l, 1) := by decide +kernel
theorem d_Sheets_append_7 : decode b_Sheets_append 7 = .ok (.invokevirtual 71, 3) := by decide +kernel
theorem d_Sheets_append_10 : decode b_Sheets_append 10 = .ok (.aload_n 0, 1) := by decide +kernel
theorem d_Sheets_append_11 : decode b_Sheets_append 11 = .ok (.getfield 31, 3) := by decide +kernel
theorem d_Sheets_append_14 : decode b_Sheets_append 14 = .ok (.aload_n 0, 1) := by decide +kernel
theorem d_Sheets_append_15 : decode b_Sheets_append 15 = .ok (.iload_n 2, 1) := by decide +kernel
theorem d_Sheets_append_16 : decode b_Sheets_append 16 = .ok (.iconst (-1), 1) := by decide +kernel
theorem d_Sheets_append_17 : decode b_Sheets_append 17 = .ok (.invokevirtual 103, 3) := by decide +kernel
theorem d_Sheets_append_20 : decode b_Sheets_append 20 = .ok (.iload_n 1, 1) := by decide +kernel
theorem d_Sheets_append_21 : decode b_Sheets_append 21 = .ok (.i2l, 1) := by decide +kernel
theorem d_Sheets_append_22 : decode b_Sheets_append 22 = .ok (.invokevirtual 71, 3) := by decide +kernel
theorem d_Sheets_append_25 : decode b_Sheets_append 25 = .ok (.return_, 1) := by decide +kernel
theorem d_Sheets_unlink_0 : decode b_Sheets_unlink 0 = .ok (.aload_n 0, 1) := by decide +kernel
theorem d_Sheets_unlink_1 : decode b_Sheets_unlink 1 = .ok (.getfield 31, 3) := by decide +kernel
theorem d_Sheets_unlink_4 : decode b_Sheets_unlink 4 = .ok (.aload_n 0, 1) := by decide +kernel
theorem d_Sheets_unlink_5 : decode b_Sheets_unlink 5 = .ok (.aload_n 0, 1) := by decide +kernel
theorem d_Sheets_unlink_6 : decode b_Sheets_unlink 6 = .ok (.iload_n 1, 1) := by decide +kernel
theorem d_Sheets_unlink_7 : decode b_Sheets_unlink 7 = .ok (.invokevirtual 49, 3) := by decide +kernel
theorem d_Sheets_unlink_10 : decode b_Sheets_unlink 10 = .ok (.iload_n 1, 1) := by decide +kernel
theorem d_Sheets_unlink_11 : decode b_Sheets_unlink 11 = .ok (.invokevirtual 103, 3) := by decide +kernel
theorem d_Sheets_unlink_14 : decode b_Sheets_unlink 14 = .ok (.aload_n 0, 1) := by decide +kernel
theorem d_Sheets_unlink_15 : decode b_Sheets_unlink 15 = .ok (.iload_n 1, 1) := by decide +kernel
theorem d_Sheets_unlink_16 : decode b_Sheets_unlink 16 = .ok (.invokevirtual 58, 3) := by decide +kernel
theorem d_Sheets_unlink_19 : decode b_Sheets_unlink 19 = .ok (.i2l, 1) := by decide +kernel
theorem d_Sheets_unlink_20 : decode b_Sheets_unlink 20 = .ok (.invokevirtual 71, 3) := by decide +kernel
theorem d_Sheets_unlink_23 : decode b_Sheets_unlink 23 = .ok (.aload_n 0, 1) := by decide +kernel
theorem d_Sheets_unlink_24 : decode b_Sheets_unlink 24 = .ok (.getfield 31, 3) := by decide +kernel
theorem d_Sheets_unlink_27 : decode b_Sheets_unlink 27 = .ok (.iload_n 1, 1) := by decide +kernel
theorem d_Sheets_unlink_28 : decode b_Sheets_unlink 28 = .ok (.ldc2_w 23, 3) := by decide +kernel
theorem d_Sheets_unlink_31 : decode b_Sheets_unlink 31 = .ok (.invokevirtual 71, 3) := by decide +kernel
theorem d_Sheets_unlink_34 : decode b_Sheets_unlink 34 = .ok (.return_, 1) := by decide +kernel
theorem d_Sheets_cellBefore_0 : decode b_Sheets_cellBefore 0 = .ok (.aload_n 0, 1) := by decide +kernel
theorem d_Sheets_cellBefore_1 : decode b_Sheets_cellBefore 1 = .ok (.iload_n 1, 1) := by decide +kernel
theorem d_Sheets_cellBefore_2 : decode b_Sheets_cellBefore 2 = .ok (.invokevirtual 52, 3) := by decide +kernel
theorem d_Sheets_cellBefore_5 : decode b_Sheets_cellBefore 5 = .ok (.istore_n 3, 1) := by decide +kernel
theorem d_Sheets_cellBefore_6 : decode b_Sheets_cellBefore 6 = .ok (.iconst 0, 1) := by decide +kernel
theorem d_Sheets_cellBefore_7 : decode b_Sheets_cellBefore 7 = .ok (.istore 4, 2) := by decide +kernel
theorem d_Sheets_cellBefore_9 : decode b_Sheets_cellBefore 9 = .ok (.iload 4, 2) := by decide +kernel
theorem d_Sheets_cellBefore_11 : decode b_Sheets_cellBefore 11 = .ok (.bipush 60, 2) := by decide +kernel
theorem d_Sheets_cellBefore_13 : decode b_Sheets_cellBefore 13 = .ok (.if_icmp .ge 30, 3) := by decide +kernel
theorem d_Sheets_cellBefore_16 : decode b_Sheets_cellBefore 16 = .ok (.aload_n 0, 1) := by decide +kernel
theorem d_Sheets_cellBefore_17 : decode b_Sheets_cellBefore 17 = .ok (.getfield 31, 3) := by decide +kernel
theorem d_Sheets_cellBefore_20 : decode b_Sheets_cellBefore 20 = .ok (.iload_n 3, 1) := by decide +kernel
theorem d_Sheets_cellBefore_21 : decode b_Sheets_cellBefore 21 = .ok (.invokevirtual 41, 3) := by decide +kernel
theorem d_Sheets_cellBefore_24 : decode b_Sheets_cellBefore 24 = .ok (.iload_n 2, 1) := by decide +kernel
theorem d_Sheets_cellBefore_25 : decode b_Sheets_cellBefore 25 = .ok (.if_icmp .eq 18, 3) := by decide +kernel
theorem d_Sheets_cellBefore_28 : decode b_Sheets_cellBefore 28 = .ok (.aload_n 0, 1) := by decide +kernel
theorem d_Sheets_cellBefore_29 : decode b_Sheets_cellBefore 29 = .ok (.getfield 31, 3) := by decide +kernel
theorem d_Sheets_cellBefore_32 : decode b_Sheets_cellBefore 32 = .ok (.iload_n 3, 1) := by decide +kernel
theorem d_Sheets_cellBefore_33 : decode b_Sheets_cellBefore 33 = .ok (.invokevirtual 41, 3) := by decide +kernel
theorem d_Sheets_cellBefore_36 : decode b_Sheets_cellBefore 36 = .ok (.istore_n 3, 1) := by decide +kernel
theorem d_Sheets_cellBefore_37 : decode b_Sheets_cellBefore 37 = .ok (.iinc 4 1, 3) := by decide +kernel
theorem d_Sheets_cellBefore_40 : decode b_Sheets_cellBefore 40 = .ok (.goto (-31), 3) := by decide +kernel
theorem d_Sheets_cellBefore_43 : decode b_Sheets_cellBefore 43 = .ok (.iload_n 3, 1) := by decide +kernel
theorem d_Sheets_cellBefore_44 : decode b_Sheets_cellBefore 44 = .ok (.ireturn, 1) := by decide +kernel
theorem d_Sheets_headOf_0 : decode b_Sheets_headOf 0 = .ok (.bipush 60, 2) := by decide +kernel
theorem d_Sheets_headOf_2 : decode b_Sheets_headOf 2 = .ok (.iload_n 1, 1) := by decide +kernel
theorem d_Sheets_headOf_3 : decode b_Sheets_headOf 3 = .ok (.iadd, 1) := by decide +kernel
theorem d_Sheets_headOf_4 : decode b_Sheets_headOf 4 = .ok (.ireturn, 1) := by decide +kernel
theorem d_Sheets_tells_0 : decode b_Sheets_tells 0 = .ok (.aload_n 0, 1) := by decide +kernel
theorem d_Sheets_tells_1 : decode b_Sheets_tells 1 = .ok (.getfield 20, 3) := by decide +kernel
theorem d_Sheets_tells_4 : decode b_Sheets_tells 4 = .ok (.iload_n 1, 1) := by decide +kernel
theorem d_Sheets_tells_5 : decode b_Sheets_tells 5 = .ok (.invokevirtual 41, 3) := by decide +kernel
theorem d_Sheets_tells_8 : decode b_Sheets_tells 8 = .ok (.iload_n 2, 1) := by decide +kernel
theorem d_Sheets_tells_9 : decode b_Sheets_tells 9 = .ok (.invokestatic 106, 3) := by decide +kernel
theorem d_Sheets_tells_12 : decode b_Sheets_tells 12 = .ok (.ireturn, 1) := by decide +kernel
theorem d_Sheets_addName_0 : decode b_Sheets_addName 0 = .ok (.aload_n 0, 1) := by decide +kernel
theorem d_Sheets_addName_1 : decode b_Sheets_addName 1 = .ok (.getfield 20, 3) := by decide +kernel
theorem d_Sheets_addName_4 : decode b_Sheets_addName 4 = .ok (.iload_n 1, 1) := by decide +kernel
theorem d_Sheets_addName_5 : decode b_Sheets_addName 5 = .ok (.aload_n 0, 1) := by decide +kernel
theorem d_Sheets_addName_6 : decode b_Sheets_addName 6 = .ok (.getfield 20, 3) := by decide +kernel
theorem d_Sheets_addName_9 : decode b_Sheets_addName 9 = .ok (.iload_n 1, 1) := by decide +kernel
theorem d_Sheets_addName_10 : decode b_Sheets_addName 10 = .ok (.invokevirtual 41, 3) := by decide +kernel
theorem d_Sheets_addName_13 : decode b_Sheets_addName 13 = .ok (.iconst 1, 1) := by decide +kernel
theorem d_Sheets_addName_14 : decode b_Sheets_addName 14 = .ok (.iload_n 2, 1) := by decide +kernel
theorem d_Sheets_addName_15 : decode b_Sheets_addName 15 = .ok (.ishl, 1) := by decide +kernel
theorem d_Sheets_addName_16 : decode b_Sheets_addName 16 = .ok (.ior, 1) := by decide +kernel
theorem d_Sheets_addName_17 : decode b_Sheets_addName 17 = .ok (.i2l, 1) := by decide +kernel
theorem d_Sheets_addName_18 : decode b_Sheets_addName 18 = .ok (.invokevirtual 71, 3) := by decide +kernel
theorem d_Sheets_addName_21 : decode b_Sheets_addName 21 = .ok (.return_, 1) := by decide +kernel
theorem d_Sheets_jointOf_0 : decode b_Sheets_jointOf 0 = .ok (.aload_n 0, 1) := by decide +kernel
theorem d_Sheets_jointOf_1 : decode b_Sheets_jointOf 1 = .ok (.getfield 34, 3) := by decide +kernel
theorem d_Sheets_jointOf_4 : decode b_Sheets_jointOf 4 = .ok (.iload_n 1, 1) := by decide +kernel
theorem d_Sheets_jointOf_5 : decode b_Sheets_jointOf 5 = .ok (.bipush 32, 2) := by decide +kernel
theorem d_Sheets_jointOf_7 : decode b_Sheets_jointOf 7 = .ok (.imul, 1) := by decide +kernel
theorem d_Sheets_jointOf_8 : decode b_Sheets_jointOf 8 = .ok (.iload_n 2, 1) := by decide +kernel
theorem d_Sheets_jointOf_9 : decode b_Sheets_jointOf 9 = .ok (.iadd, 1) := by decide +kernel
theorem d_Sheets_jointOf_10 : decode b_Sheets_jointOf 10 = .ok (.invokevirtual 41, 3) := by decide +kernel
theorem d_Sheets_jointOf_13 : decode b_Sheets_jointOf 13 = .ok (.ireturn, 1) := by decide +kernel
theorem d_Sheets_setJoint_0 : decode b_Sheets_setJoint 0 = .ok (.aload_n 0, 1) := by decide +kernel
theorem d_Sheets_setJoint_1 : decode b_Sheets_setJoint 1 = .ok (.getfield 34, 3) := by decide +kernel
theorem d_Sheets_setJoint_4 : decode b_Sheets_setJoint 4 = .ok (.iload_n 1, 1) := by decide +kernel
theorem d_Sheets_setJoint_5 : decode b_Sheets_setJoint 5 = .ok (.bipush 32, 2) := by decide +kernel
theorem d_Sheets_setJoint_7 : decode b_Sheets_setJoint 7 = .ok (.imul, 1) := by decide +kernel
theorem d_Sheets_setJoint_8 : decode b_Sheets_setJoint 8 = .ok (.iload_n 2, 1) := by decide +kernel
theorem d_Sheets_setJoint_9 : decode b_Sheets_setJoint 9 = .ok (.iadd, 1) := by decide +kernel
theorem d_Sheets_setJoint_10 : decode b_Sheets_setJoint 10 = .ok (.iload_n 3, 1) := by decide +kernel
theorem d_Sheets_setJoint_11 : decode b_Sheets_setJoint 11 = .ok (.i2l, 1) := by decide +kernel
theorem d_Sheets_setJoint_12 : decode b_Sheets_setJoint 12 = .ok (.invokevirtual 71, 3) := by decide +kernel
theorem d_Sheets_setJoint_15 : decode b_Sheets_setJoint 15 = .ok (.return_, 1) := by decide +kernel
theorem d_Variants_init_0 : decode b_Variants_init 0 = .ok (.aload_n 0, 1) := by decide +kernel
theorem d_Variants_init_1 : decode b_Variants_init 1 = .ok (.invokespecial 3, 3) := by decide +kernel
theorem d_Variants_init_4 : decode b_Variants_init 4 = .ok (.aload_n 0, 1) := by decide +kernel
theorem d_Variants_init_5 : decode b_Variants_init 5 = .ok (.aload_n 2, 1) := by decide +kernel
theorem d_Variants_init_6 : decode b_Variants_init 6 = .ok (.putfield 9, 3) := by decide +kernel
theorem d_Variants_init_9 : decode b_Variants_init 9 = .ok (.aload_n 0, 1) := by decide +kernel
theorem d_Variants_init_10 : decode b_Variants_init 10 = .ok (.new 15, 3) := by decide +kernel
theorem d_Variants_init_13 : decode b_Variants_init 13 = .ok (.dup, 1) := by decide +kernel
theorem d_Variants_init_14 : decode b_Variants_init 14 = .ok (.aload_n 1, 1) := by decide +kernel
theorem d_Variants_init_15 : decode b_Variants_init 15 = .ok (.iconst 2, 1) := by decide +kernel
theorem d_Variants_init_16 : decode b_Variants_init 16 = .ok (.lconst 0, 1) := by decide +kernel
theorem d_Variants_init_17 : decode b_Variants_init 17 = .ok (.invokespecial 17, 3) := by decide +kernel
theorem d_Variants_init_20 : decode b_Variants_init 20 = .ok (.putfield 20, 3) := by decide +kernel
theorem d_Variants_init_23 : decode b_Variants_init 23 = .ok (.aload_n 0, 1) := by decide +kernel
theorem d_Variants_init_24 : decode b_Variants_init 24 = .ok (.new 15, 3) := by decide +kernel
theorem d_Variants_init_27 : decode b_Variants_init 27 = .ok (.dup, 1) := by decide +kernel
theorem d_Variants_init_28 : decode b_Variants_init 28 = .ok (.aload_n 1, 1) := by decide +kernel
theorem d_Variants_init_29 : decode b_Variants_init 29 = .ok (.bipush 10, 2) := by decide +kernel
theorem d_Variants_init_31 : decode b_Variants_init 31 = .ok (.ldc2_w 24, 3) := by decide +kernel
theorem d_Variants_init_34 : decode b_Variants_init 34 = .ok (.invokespecial 17, 3) := by decide +kernel
theorem d_Variants_init_37 : decode b_Variants_init 37 = .ok (.putfield 26, 3) := by decide +kernel
theorem d_Variants_init_40 : decode b_Variants_init 40 = .ok (.aload_n 0, 1) := by decide +kernel
theorem d_Variants_init_41 : decode b_Variants_init 41 = .ok (.new 15, 3) := by decide +kernel
theorem d_Variants_init_44 : decode b_Variants_init 44 = .ok (.dup, 1) := by decide +kernel
theorem d_Variants_init_45 : decode b_Variants_init 45 = .ok (.aload_n 1, 1) := by decide +kernel
theorem d_Variants_init_46 : decode b_Variants_init 46 = .ok (.bipush 40, 2) := by decide +kernel
theorem d_Variants_init_48 : decode b_Variants_init 48 = .ok (.ldc2_w 24, 3) := by decide +kernel
theorem d_Variants_init_51 : decode b_Variants_init 51 = .ok (.invokespecial 17, 3) := by decide +kernel
theorem d_Variants_init_54 : decode b_Variants_init 54 = .ok (.putfield 29, 3) := by decide +kernel
theorem d_Variants_init_57 : decode b_Variants_init 57 = .ok (.aload_n 0, 1) := by decide +kernel
theorem d_Variants_init_58 : decode b_Variants_init 58 = .ok (.new 15, 3) := by decide +kernel
theorem d_Variants_init_61 : decode b_Variants_init 61 = .ok (.dup, 1) := by decide +kernel
theorem d_Variants_init_62 : decode b_Variants_init 62 = .ok (.aload_n 1, 1) := by decide +kernel
theorem d_Variants_init_63 : decode b_Variants_init 63 = .ok (.bipush 40, 2) := by decide +kernel
theorem d_Variants_init_65 : decode b_Variants_init 65 = .ok (.lconst 0, 1) := by decide +kernel
theorem d_Variants_init_66 : decode b_Variants_init 66 = .ok (.invokespecial 17, 3) := by decide +kernel
theorem d_Variants_init_69 : decode b_Variants_init 69 = .ok (.putfield 32, 3) := by decide +kernel
theorem d_Variants_init_72 : decode b_Variants_init 72 = .ok (.aload_n 0, 1) := by decide +kernel
theorem d_Variants_init_73 : decode b_Variants_init 73 = .ok (.new 15, 3) := by decide +kernel
theorem d_Variants_init_76 : decode b_Variants_init 76 = .ok (.dup, 1) := by decide +kernel
theorem d_Variants_init_77 : decode b_Variants_init 77 = .ok (.aload_n 1, 1) := by decide +kernel
theorem d_Variants_init_78 : decode b_Variants_init 78 = .ok (.bipush 40, 2) := by decide +kernel
theorem d_Variants_init_80 : decode b_Variants_init 80 = .ok (.lconst 0, 1) := by decide +kernel
theorem d_Variants_init_81 : decode b_Variants_init 81 = .ok (.invokespecial 17, 3) := by decide +kernel
theorem d_Variants_init_84 : decode b_Variants_init 84 = .ok (.putfield 35, 3) := by decide +kernel
theorem d_Variants_init_87 : decode b_Variants_init 87 = .ok (.aload_n 0, 1) := by decide +kernel
theorem d_Variants_init_88 : decode b_Variants_init 88 = .ok (.new 15, 3) := by decide +kernel
theorem d_Variants_init_91 : decode b_Variants_init 91 = .ok (.dup, 1) := by decide +kernel
theorem d_Variants_init_92 : decode b_Variants_init 92 = .ok (.aload_n 1, 1) := by decide +kernel
theorem d_Variants_init_93 : decode b_Variants_init 93 = .ok (.sipush 920, 3) := by decide +kernel
theorem d_Variants_init_96 : decode b_Variants_init 96 = .ok (.ldc2_w 24, 3) := by decide +kernel
theorem d_Variants_init_99 : decode b_Variants_init 99 = .ok (.invokespecial 17, 3) := by decide +kernel
theorem d_Variants_init_102 : decode b_Variants_init 102 = .ok (.putfield 38, 3) := by decide +kernel
theorem d_Variants_init_105 : decode b_Variants_init 105 = .ok (.return_, 1) := by decide +kernel
theorem d_Variants_count_0 : decode b_Variants_count 0 = .ok (.aload_n 0, 1) := by decide +kernel
theorem d_Variants_count_1 : decode b_Variants_count 1 = .ok (.getfield 20, 3) := by decide +kernel
theorem d_Variants_count_4 : decode b_Variants_count 4 = .ok (.iconst 0, 1) := by decide +kernel
theorem d_Variants_count_5 : decode b_Variants_count 5 = .ok (.invokevirtual 41, 3) := by decide +kernel
theorem d_Variants_count_8 : decode b_Variants_count 8 = .ok (.ireturn, 1) := by decide +kernel
theorem d_Variants_isVariant_0 : decode b_Variants_isVariant 0 = .ok (.iload_n 1, 1) := by decide +kernel
theorem d_Variants_isVariant_1 : decode b_Variants_isVariant 1 = .ok (.ifCond .lt 15, 3) := by decide +kernel
theorem d_Variants_isVariant_4 : decode b_Variants_isVariant 4 = .ok (.iload_n 1, 1) := by decide +kernel
theorem d_Variants_isVariant_5 : decode b_Variants_isVariant 5 = .ok (.aload_n 0, 1) := by decide +kernel
theorem d_Variants_isVariant_6 : decode b_Variants_isVariant 6 = .ok (.invokevirtual 45, 3) := by decide +kernel
theorem d_Variants_isVariant_9 : decode b_Variants_isVariant 9 = .ok (.if_icmp .ge 7, 3) := by decide +kernel
theorem d_Variants_isVariant_12 : decode b_Variants_isVariant 12 = .ok (.iconst 1, 1) := by decide +kernel
theorem d_Variants_isVariant_13 : decode b_Variants_isVariant 13 = .ok (.goto 4, 3) := by decide +kernel
theorem d_Variants_isVariant_16 : decode b_Variants_isVariant 16 = .ok (.iconst 0, 1) := by decide +kernel
theorem d_Variants_isVariant_17 : decode b_Variants_isVariant 17 = .ok (.ireturn, 1) := by decide +kernel
theorem d_Variants_addVariant_0 : decode b_Variants_addVariant 0 = .ok (.aload_n 0, 1) := by decide +kernel
theorem d_Variants_addVariant_1 : decode b_Variants_addVariant 1 = .ok (.invokevirtual 45, 3) := by decide +kernel
theorem d_Variants_addVariant_4 : decode b_Variants_addVariant 4 = .ok (.istore_n 2, 1) := by decide +kernel
theorem d_Variants_addVariant_5 : decode b_Variants_addVariant 5 = .ok (.aload_n 0, 1) := by decide +kernel
theorem d_Variants_addVariant_6 : decode b_Variants_addVariant 6 = .ok (.getfield 20, 3) := by decide +kernel
theorem d_Variants_addVariant_9 : decode b_Variants_addVariant 9 = .ok (.iconst 0, 1) := by decide +kernel
theorem d_Variants_addVariant_10 : decode b_Variants_addVariant 10 = .ok (.iload_n 2, 1) := by decide +kernel
theorem d_Variants_addVariant_11 : decode b_Variants_addVariant 11 = .ok (.iconst 1, 1) := by decide +kernel
theorem d_Variants_addVariant_12 : decode b_Variants_addVariant 12 = .ok (.iadd, 1) := by decide +kernel
theorem d_Variants_addVariant_13 : decode b_Variants_addVariant 13 = .ok (.i2l, 1) := by decide +kernel
theorem d_Variants_addVariant_14 : decode b_Variants_addVariant 14 = .ok (.invokevirtual 49, 3) := by decide +kernel
theorem d_Variants_addVariant_17 : decode b_Variants_addVariant 17 = .ok (.aload_n 0, 1) := by decide +kernel
theorem d_Variants_addVariant_18 : decode b_Variants_addVariant 18 = .ok (.getfield 26, 3) := by decide +kernel
theorem d_Variants_addVariant_21 : decode b_Variants_addVariant 21 = .ok (.iload_n 2, 1) := by decide +kernel
theorem d_Variants_addVariant_22 : decode b_Variants_addVariant 22 = .ok (.iload_n 1, 1) := by decide +kernel
theorem d_Variants_addVariant_23 : decode b_Variants_addVariant 23 = .ok (.i2l, 1) := by decide +kernel
theorem d_Variants_addVariant_24 : decode b_Variants_addVariant 24 = .ok (.invokevirtual 49, 3) := by decide +kernel
theorem d_Variants_addVariant_27 : decode b_Variants_addVariant 27 = .ok (.iload_n 2, 1) := by decide +kernel
theorem d_Variants_addVariant_28 : decode b_Variants_addVariant 28 = .ok (.ireturn, 1) := by decide +kernel
theorem d_Variants_content_0 : decode b_Variants_content 0 = .ok (.aload_n 0, 1) := by decide +kernel
theorem d_Variants_content_1 : decode b_Variants_content 1 = .ok (.getfield 32, 3) := by decide +kernel
theorem d_Variants_content_4 : decode b_Variants_content 4 = .ok (.iload_n 1, 1) := by decide +kernel
theorem d_Variants_content_5 : decode b_Variants_content 5 = .ok (.invokevirtual 53, 3) := by decide +kernel
theorem d_Variants_content_8 : decode b_Variants_content 8 = .ok (.lreturn, 1) := by decide +kernel
theorem d_Variants_tell_0 : decode b_Variants_tell 0 = .ok (.iload_n 1, 1) := by decide +kernel
theorem d_Variants_tell_1 : decode b_Variants_tell 1 = .ok (.iload_n 2, 1) := by decide +kernel
theorem d_Variants_tell_2 : decode b_Variants_tell 2 = .ok (.iload 4, 2) := by decide +kernel
theorem d_Variants_tell_4 : decode b_Variants_tell 4 = .ok (.invokestatic 57, 3) := by decide +kernel
theorem d_Variants_tell_7 : decode b_Variants_tell 7 = .ok (.istore 7, 2) := by decide +kernel
theorem d_Variants_tell_9 : decode b_Variants_tell 9 = .ok (.aload_n 0, 1) := by decide +kernel
theorem d_Variants_tell_10 : decode b_Variants_tell 10 = .ok (.iload 7, 2) := by decide +kernel
theorem d_Variants_tell_12 : decode b_Variants_tell 12 = .ok (.iload_n 3, 1) := by decide +kernel
theorem d_Variants_tell_13 : decode b_Variants_tell 13 = .ok (.invokevirtual 61, 3) := by decide +kernel
theorem d_Variants_tell_16 : decode b_Variants_tell 16 = .ok (.istore 8, 2) := by decide +kernel
theorem d_Variants_tell_18 : decode b_Variants_tell 18 = .ok (.iload 8, 2) := by decide +kernel
theorem d_Variants_tell_20 : decode b_Variants_tell 20 = .ok (.iconst (-1), 1) := by decide +kernel
theorem d_Variants_tell_21 : decode b_Variants_tell 21 = .ok (.if_icmp .eq 17, 3) := by decide +kernel
theorem d_Variants_tell_24 : decode b_Variants_tell 24 = .ok (.aload_n 0, 1) := by decide +kernel
theorem d_Variants_tell_25 : decode b_Variants_tell 25 = .ok (.iload 8, 2) := by decide +kernel
theorem d_Variants_tell_27 : decode b_Variants_tell 27 = .ok (.invokevirtual 65, 3) := by decide +kernel
theorem d_Variants_tell_30 : decode b_Variants_tell 30 = .ok (.lload 5, 2) := by decide +kernel
theorem d_Variants_tell_32 : decode b_Variants_tell 32 = .ok (.lcmp, 1) := by decide +kernel
theorem d_Variants_tell_33 : decode b_Variants_tell 33 = .ok (.ifCond .ne 5, 3) := by decide +kernel
theorem d_Variants_tell_36 : decode b_Variants_tell 36 = .ok (.iconst 0, 1) := by decide +kernel
theorem d_Variants_tell_37 : decode b_Variants_tell 37 = .ok (.ireturn, 1) := by decide +kernel
theorem d_Variants_tell_38 : decode b_Variants_tell 38 = .ok (.iload 8, 2) := by decide +kernel
theorem d_Variants_tell_40 : decode b_Variants_tell 40 = .ok (.iconst (-1), 1) := by decide +kernel
theorem d_Variants_tell_41 : decode b_Variants_tell 41 = .ok (.if_icmp .ne 27, 3) := by decide +kernel
theorem d_Variants_tell_44 : decode b_Variants_tell 44 = .ok (.aload_n 0, 1) := by decide +kernel
theorem d_Variants_tell_45 : decode b_Variants_tell 45 = .ok (.getfield 20, 3) := by decide +kernel
theorem d_Variants_tell_48 : decode b_Variants_tell 48 = .ok (.iconst 1, 1) := by decide +kernel
theorem d_Variants_tell_49 : decode b_Variants_tell 49 = .ok (.invokevirtual 41, 3) := by decide +kernel
theorem d_Variants_tell_52 : decode b_Variants_tell 52 = .ok (.bipush 40, 2) := by decide +kernel
theorem d_Variants_tell_54 : decode b_Variants_tell 54 = .ok (.if_icmp .lt 5, 3) := by decide +kernel
theorem d_Variants_tell_57 : decode b_Variants_tell 57 = .ok (.iconst 0, 1) := by decide +kernel
theorem d_Variants_tell_58 : decode b_Variants_tell 58 = .ok (.ireturn, 1) := by decide +kernel
theorem d_Variants_tell_59 : decode b_Variants_tell 59 = .ok (.aload_n 0, 1) := by decide +kernel
theorem d_Variants_tell_60 : decode b_Variants_tell 60 = .ok (.iload 7, 2) := by decide +kernel
theorem d_Variants_tell_62 : decode b_Variants_tell 62 = .ok (.iload_n 3, 1) := by decide +kernel
theorem d_Variants_tell_63 : decode b_Variants_tell 63 = .ok (.invokevirtual 68, 3) := by decide +kernel
theorem d_Variants_tell_66 : decode b_Variants_tell 66 = .ok (.istore 8, 2) := by decide +kernel
theorem d_Variants_tell_68 : decode b_Variants_tell 68 = .ok (.aload_n 0, 1) := by decide +kernel
theorem d_Variants_tell_69 : decode b_Variants_tell 69 = .ok (.getfield 32, 3) := by decide +kernel
theorem d_Variants_tell_72 : decode b_Variants_tell 72 = .ok (.iload 8, 2) := by decide +kernel
theorem d_Variants_tell_74 : decode b_Variants_tell 74 = .ok (.lload 5, 2) := by decide +kernel
theorem d_Variants_tell_76 : decode b_Variants_tell 76 = .ok (.invokevirtual 49, 3) := by decide +kernel
theorem d_Variants_tell_79 : decode b_Variants_tell 79 = .ok (.iconst 1, 1) := by decide +kernel
theorem d_Variants_tell_80 : decode b_Variants_tell 80 = .ok (.ireturn, 1) := by decide +kernel
theorem d_Variants_nearest_0 : decode b_Variants_nearest 0 = .ok (.iload_n 2, 1) := by decide +kernel
theorem d_Variants_nearest_1 : decode b_Variants_nearest 1 = .ok (.istore 5, 2) := by decide +kernel
theorem d_Variants_nearest_3 : decode b_Variants_nearest 3 = .ok (.iconst 0, 1) := by decide +kernel
theorem d_Variants_nearest_4 : decode b_Variants_nearest 4 = .ok (.istore 6, 2) := by decide +kernel
theorem d_Variants_nearest_6 : decode b_Variants_nearest 6 = .ok (.iload 6, 2) := by decide +kernel
theorem d_Variants_nearest_8 : decode b_Variants_nearest 8 = .ok (.bipush 10, 2) := by decide +kernel
theorem d_Variants_nearest_10 : decode b_Variants_nearest 10 = .ok (.if_icmp .ge 91, 3) := by decide +kernel
theorem d_Variants_nearest_13 : decode b_Variants_nearest 13 = .ok (.iload 5, 2) := by decide +kernel
theorem d_Variants_nearest_15 : decode b_Variants_nearest 15 = .ok (.iconst (-1), 1) := by decide +kernel
theorem d_Variants_nearest_16 : decode b_Variants_nearest 16 = .ok (.if_icmp .eq 85, 3) := by decide +kernel
theorem d_Variants_nearest_19 : decode b_Variants_nearest 19 = .ok (.iload_n 1, 1) := by decide +kernel
theorem d_Variants_nearest_20 : decode b_Variants_nearest 20 = .ok (.iload 5, 2) := by decide +kernel
theorem d_Variants_nearest_22 : decode b_Variants_nearest 22 = .ok (.iload 4, 2) := by decide +kernel
theorem d_Variants_nearest_24 : decode b_Variants_nearest 24 = .ok (.invokestatic 57, 3) := by decide +kernel
theorem d_Variants_nearest_27 : decode b_Variants_nearest 27 = .ok (.istore 7, 2) := by decide +kernel
theorem d_Variants_nearest_29 : decode b_Variants_nearest 29 = .ok (.iload_n 3, 1) := by decide +kernel
theorem d_Variants_nearest_30 : decode b_Variants_nearest 30 = .ok (.istore 8, 2) := by decide +kernel
theorem d_Variants_nearest_32 : decode b_Variants_nearest 32 = .ok (.iconst 0, 1) := by decide +kernel
theorem d_Variants_nearest_33 : decode b_Variants_nearest 33 = .ok (.istore 9, 2) := by decide +kernel
theorem d_Variants_nearest_35 : decode b_Variants_nearest 35 = .ok (.iload 9, 2) := by decide +kernel
theorem d_Variants_nearest_37 : decode b_Variants_nearest 37 = .ok (.bipush 24, 2) := by decide +kernel
theorem d_Variants_nearest_39 : decode b_Variants_nearest 39 = .ok (.if_icmp .ge 45, 3) := by decide +kernel
theorem d_Variants_nearest_42 : decode b_Variants_nearest 42 = .ok (.iload 8, 2) := by decide +kernel
theorem d_Variants_nearest_44 : decode b_Variants_nearest 44 = .ok (.iconst (-1), 1) := by decide +kernel
theorem d_Variants_nearest_45 : decode b_Variants_nearest 45 = .ok (.if_icmp .eq 39, 3) := by decide +kernel
theorem d_Variants_nearest_48 : decode b_Variants_nearest 48 = .ok (.aload_n 0, 1) := by decide +kernel
theorem d_Variants_nearest_49 : decode b_Variants_nearest 49 = .ok (.iload 7, 2) := by decide +kernel
theorem d_Variants_nearest_51 : decode b_Variants_nearest 51 = .ok (.iload 8, 2) := by decide +kernel
theorem d_Variants_nearest_53 : decode b_Variants_nearest 53 = .ok (.invokevirtual 61, 3) := by decide +kernel
theorem d_Variants_nearest_56 : decode b_Variants_nearest 56 = .ok (.istore 10, 2) := by decide +kernel
theorem d_Variants_nearest_58 : decode b_Variants_nearest 58 = .ok (.iload 10, 2) := by decide +kernel
theorem d_Variants_nearest_60 : decode b_Variants_nearest 60 = .ok (.iconst (-1), 1) := by decide +kernel
theorem d_Variants_nearest_61 : decode b_Variants_nearest 61 = .ok (.if_icmp .eq 6, 3) := by decide +kernel
theorem d_Variants_nearest_64 : decode b_Variants_nearest 64 = .ok (.iload 10, 2) := by decide +kernel
theorem d_Variants_nearest_66 : decode b_Variants_nearest 66 = .ok (.ireturn, 1) := by decide +kernel
theorem d_Variants_nearest_67 : decode b_Variants_nearest 67 = .ok (.aload_n 0, 1) := by decide +kernel
theorem d_Variants_nearest_68 : decode b_Variants_nearest 68 = .ok (.getfield 9, 3) := by decide +kernel
theorem d_Variants_nearest_71 : decode b_Variants_nearest 71 = .ok (.iload 8, 2) := by decide +kernel
theorem d_Variants_nearest_73 : decode b_Variants_nearest 73 = .ok (.invokevirtual 71, 3) := by decide +kernel
theorem d_Variants_nearest_76 : decode b_Variants_nearest 76 = .ok (.istore 8, 2) := by decide +kernel
theorem d_Variants_nearest_78 : decode b_Variants_nearest 78 = .ok (.iinc 9 1, 3) := by decide +kernel
theorem d_Variants_nearest_81 : decode b_Variants_nearest 81 = .ok (.goto (-46), 3) := by decide +kernel
theorem d_Variants_nearest_84 : decode b_Variants_nearest 84 = .ok (.aload_n 0, 1) := by decide +kernel
theorem d_Variants_nearest_85 : decode b_Variants_nearest 85 = .ok (.getfield 26, 3) := by decide +kernel
theorem d_Variants_nearest_88 : decode b_Variants_nearest 88 = .ok (.iload 5, 2) := by decide +kernel
theorem d_Variants_nearest_90 : decode b_Variants_nearest 90 = .ok (.invokevirtual 41, 3) := by decide +kernel
theorem d_Variants_nearest_93 : decode b_Variants_nearest 93 = .ok (.istore 5, 2) := by decide +kernel
theorem d_Variants_nearest_95 : decode b_Variants_nearest 95 = .ok (.iinc 6 1, 3) := by decide +kernel
theorem d_Variants_nearest_98 : decode b_Variants_nearest 98 = .ok (.goto (-92), 3) := by decide +kernel
theorem d_Variants_nearest_101 : decode b_Variants_nearest 101 = .ok (.iconst (-1), 1) := by decide +kernel
theorem d_Variants_nearest_102 : decode b_Variants_nearest 102 = .ok (.ireturn, 1) := by decide +kernel
theorem d_Variants_find_0 : decode b_Variants_find 0 = .ok (.iconst 0, 1) := by decide +kernel
theorem d_Variants_find_1 : decode b_Variants_find 1 = .ok (.istore_n 3, 1) := by decide +kernel
theorem d_Variants_find_2 : decode b_Variants_find 2 = .ok (.iload_n 3, 1) := by decide +kernel
theorem d_Variants_find_3 : decode b_Variants_find 3 = .ok (.aload_n 0, 1) := by decide +kernel
theorem d_Variants_find_4 : decode b_Variants_find 4 = .ok (.getfield 20, 3) := by decide +kernel
theorem d_Variants_find_7 : decode b_Variants_find 7 = .ok (.iconst 1, 1) := by decide +kernel
theorem d_Variants_find_8 : decode b_Variants_find 8 = .ok (.invokevirtual 41, 3) := by decide +kernel
theorem d_Variants_find_11 : decode b_Variants_find 11 = .ok (.if_icmp .ge 32, 3) := by decide +kernel
theorem d_Variants_find_14 : decode b_Variants_find 14 = .ok (.aload_n 0, 1) := by decide +kernel
theorem d_Variants_find_15 : decode b_Variants_find 15 = .ok (.getfield 29, 3) := by decide +kernel
theorem d_Variants_find_18 : decode b_Variants_find 18 = .ok (.iload_n 3, 1) := by decide +kernel
theorem d_Variants_find_19 : decode b_Variants_find 19 = .ok (.invokevirtual 41, 3) := by decide +kernel
theorem d_Variants_find_22 : decode b_Variants_find 22 = .ok (.iload_n 1, 1) := by decide +kernel
theorem d_Variants_find_23 : decode b_Variants_find 23 = .ok (.if_icmp .ne 14, 3) := by decide +kernel
theorem d_Variants_find_26 : decode b_Variants_find 26 = .ok (.aload_n 0, 1) := by decide +kernel
theorem d_Variants_find_27 : decode b_Variants_find 27 = .ok (.iload_n 3, 1) := by decide +kernel
theorem d_Variants_find_28 : decode b_Variants_find 28 = .ok (.iload_n 2, 1) := by decide +kernel
theorem d_Variants_find_29 : decode b_Variants_find 29 = .ok (.invokevirtual 76, 3) := by decide +kernel
theorem d_Variants_find_32 : decode b_Variants_find 32 = .ok (.ifCond .eq 5, 3) := by decide +kernel
theorem d_Variants_find_35 : decode b_Variants_find 35 = .ok (.iload_n 3, 1) := by decide +kernel
theorem d_Variants_find_36 : decode b_Variants_find 36 = .ok (.ireturn, 1) := by decide +kernel
theorem d_Variants_find_37 : decode b_Variants_find 37 = .ok (.iinc 3 1, 3) := by decide +kernel
theorem d_Variants_find_40 : decode b_Variants_find 40 = .ok (.goto (-38), 3) := by decide +kernel
theorem d_Variants_find_43 : decode b_Variants_find 43 = .ok (.iconst (-1), 1) := by decide +kernel
theorem d_Variants_find_44 : decode b_Variants_find 44 = .ok (.ireturn, 1) := by decide +kernel
theorem d_Variants_isAt_0 : decode b_Variants_isAt 0 = .ok (.aload_n 0, 1) := by decide +kernel
theorem d_Variants_isAt_1 : decode b_Variants_isAt 1 = .ok (.getfield 9, 3) := by decide +kernel
theorem d_Variants_isAt_4 : decode b_Variants_isAt 4 = .ok (.iload_n 2, 1) := by decide +kernel
theorem d_Variants_isAt_5 : decode b_Variants_isAt 5 = .ok (.invokevirtual 80, 3) := by decide +kernel
theorem d_Variants_isAt_8 : decode b_Variants_isAt 8 = .ok (.istore_n 3, 1) := by decide +kernel
theorem d_Variants_isAt_9 : decode b_Variants_isAt 9 = .ok (.aload_n 0, 1) := by decide +kernel
theorem d_Variants_isAt_10 : decode b_Variants_isAt 10 = .ok (.getfield 35, 3) := by decide +kernel
theorem d_Variants_isAt_13 : decode b_Variants_isAt 13 = .ok (.iload_n 1, 1) := by decide +kernel
theorem d_Variants_isAt_14 : decode b_Variants_isAt 14 = .ok (.invokevirtual 41, 3) := by decide +kernel
theorem d_Variants_isAt_17 : decode b_Variants_isAt 17 = .ok (.iload_n 3, 1) := by decide +kernel
theorem d_Variants_isAt_18 : decode b_Variants_isAt 18 = .ok (.if_icmp .eq 5, 3) := by decide +kernel
theorem d_Variants_isAt_21 : decode b_Variants_isAt 21 = .ok (.iconst 0, 1) := by decide +kernel
theorem d_Variants_isAt_22 : decode b_Variants_isAt 22 = .ok (.ireturn, 1) := by decide +kernel
theorem d_Variants_isAt_23 : decode b_Variants_isAt 23 = .ok (.iload_n 2, 1) := by decide +kernel
theorem d_Variants_isAt_24 : decode b_Variants_isAt 24 = .ok (.istore 4, 2) := by decide +kernel
theorem d_Variants_isAt_26 : decode b_Variants_isAt 26 = .ok (.iload_n 3, 1) := by decide +kernel
theorem d_Variants_isAt_27 : decode b_Variants_isAt 27 = .ok (.iconst 1, 1) := by decide +kernel
theorem d_Variants_isAt_28 : decode b_Variants_isAt 28 = .ok (.isub, 1) := by decide +kernel
theorem d_Variants_isAt_29 : decode b_Variants_isAt 29 = .ok (.istore 5, 2) := by decide +kernel
theorem d_Variants_isAt_31 : decode b_Variants_isAt 31 = .ok (.iload 5, 2) := by decide +kernel
theorem d_Variants_isAt_33 : decode b_Variants_isAt 33 = .ok (.ifCond .lt 48, 3) := by decide +kernel
theorem d_Variants_isAt_36 : decode b_Variants_isAt 36 = .ok (.aload_n 0, 1) := by decide +kernel
theorem d_Variants_isAt_37 : decode b_Variants_isAt 37 = .ok (.getfield 38, 3) := by decide +kernel
theorem d_Variants_isAt_40 : decode b_Variants_isAt 40 = .ok (.iload_n 1, 1) := by decide +kernel
theorem d_Variants_isAt_41 : decode b_Variants_isAt 41 = .ok (.bipush 23, 2) := by decide +kernel
theorem d_Variants_isAt_43 : decode b_Variants_isAt 43 = .ok (.imul, 1) := by decide +kernel
theorem d_Variants_isAt_44 : decode b_Variants_isAt 44 = .ok (.iload 5, 2) := by decide +kernel
theorem d_Variants_isAt_46 : decode b_Variants_isAt 46 = .ok (.iadd, 1) := by decide +kernel
theorem d_Variants_isAt_47 : decode b_Variants_isAt 47 = .ok (.invokevirtual 41, 3) := by decide +kernel
theorem d_Variants_isAt_50 : decode b_Variants_isAt 50 = .ok (.aload_n 0, 1) := by decide +kernel
theorem d_Variants_isAt_51 : decode b_Variants_isAt 51 = .ok (.getfield 9, 3) := by decide +kernel
theorem d_Variants_isAt_54 : decode b_Variants_isAt 54 = .ok (.iload 4, 2) := by decide +kernel
theorem d_Variants_isAt_56 : decode b_Variants_isAt 56 = .ok (.invokevirtual 83, 3) := by decide +kernel
theorem d_Variants_isAt_59 : decode b_Variants_isAt 59 = .ok (.if_icmp .eq 5, 3) := by decide +kernel
theorem d_Variants_isAt_62 : decode b_Variants_isAt 62 = .ok (.iconst 0, 1) := by decide +kernel
theorem d_Variants_isAt_63 : decode b_Variants_isAt 63 = .ok (.ireturn, 1) := by decide +kernel
theorem d_Variants_isAt_64 : decode b_Variants_isAt 64 = .ok (.aload_n 0, 1) := by decide +kernel
theorem d_Variants_isAt_65 : decode b_Variants_isAt 65 = .ok (.getfield 9, 3) := by decide +kernel
theorem d_Variants_isAt_68 : decode b_Variants_isAt 68 = .ok (.iload 4, 2) := by decide +kernel
theorem d_Variants_isAt_70 : decode b_Variants_isAt 70 = .ok (.invokevirtual 71, 3) := by decide +kernel
theorem d_Variants_isAt_73 : decode b_Variants_isAt 73 = .ok (.istore 4, 2) := by decide +kernel
theorem d_Variants_isAt_75 : decode b_Variants_isAt 75 = .ok (.iinc 5 (-1), 3) := by decide +kernel
theorem d_Variants_isAt_78 : decode b_Variants_isAt 78 = .ok (.goto (-47), 3) := by decide +kernel
theorem d_Variants_isAt_81 : decode b_Variants_isAt 81 = .ok (.iconst 1, 1) := by decide +kernel
theorem d_Variants_isAt_82 : decode b_Variants_isAt 82 = .ok (.ireturn, 1) := by decide +kernel
theorem d_Variants_addTelling_0 : decode b_Variants_addTelling 0 = .ok (.aload_n 0, 1) := by decide +kernel
theorem d_Variants_addTelling_1 : decode b_Variants_addTelling 1 = .ok (.getfield 20, 3) := by decide +kernel
theorem d_Variants_addTelling_4 : decode b_Variants_addTelling 4 = .ok (.iconst 1, 1) := by decide +kernel
theorem d_Variants_addTelling_5 : decode b_Variants_addTelling 5 = .ok (.invokevirtual 41, 3) := by decide +kernel
theorem d_Variants_addTelling_8 : decode b_Variants_addTelling 8 = .ok (.istore_n 3, 1) := by decide +kernel
theorem d_Variants_addTelling_9 : decode b_Variants_addTelling 9 = .ok (.aload_n 0, 1) := by decide +kernel
theorem d_Variants_addTelling_10 : decode b_Variants_addTelling 10 = .ok (.getfield 20, 3) := by decide +kernel
theorem d_Variants_addTelling_13 : decode b_Variants_addTelling 13 = .ok (.iconst 1, 1) := by decide +kernel
theorem d_Variants_addTelling_14 : decode b_Variants_addTelling 14 = .ok (.iload_n 3, 1) := by decide +kernel
theorem d_Variants_addTelling_15 : decode b_Variants_addTelling 15 = .ok (.iconst 1, 1) := by decide +kernel
theorem d_Variants_addTelling_16 : decode b_Variants_addTelling 16 = .ok (.iadd, 1) := by decide +kernel
theorem d_Variants_addTelling_17 : decode b_Variants_addTelling 17 = .ok (.i2l, 1) := by decide +kernel
theorem d_Variants_addTelling_18 : decode b_Variants_addTelling 18 = .ok (.invokevirtual 49, 3) := by decide +kernel
theorem d_Variants_addTelling_21 : decode b_Variants_addTelling 21 = .ok (.aload_n 0, 1) := by decide +kernel
theorem d_Variants_addTelling_22 : decode b_Variants_addTelling 22 = .ok (.getfield 29, 3) := by decide +kernel
theorem d_Variants_addTelling_25 : decode b_Variants_addTelling 25 = .ok (.iload_n 3, 1) := by decide +kernel
theorem d_Variants_addTelling_26 : decode b_Variants_addTelling 26 = .ok (.iload_n 1, 1) := by decide +kernel
theorem d_Variants_addTelling_27 : decode b_Variants_addTelling 27 = .ok (.i2l, 1) := by decide +kernel
theorem d_Variants_addTelling_28 : decode b_Variants_addTelling 28 = .ok (.invokevirtual 49, 3) := by decide +kernel
theorem d_Variants_addTelling_31 : decode b_Variants_addTelling 31 = .ok (.aload_n 0, 1) := by decide +kernel
theorem d_Variants_addTelling_32 : decode b_Variants_addTelling 32 = .ok (.getfield 35, 3) := by decide +kernel
theorem d_Variants_addTelling_35 : decode b_Variants_addTelling 35 = .ok (.iload_n 3, 1) := by decide +kernel
theorem d_Variants_addTelling_36 : decode b_Variants_addTelling 36 = .ok (.aload_n 0, 1) := by decide +kernel
theorem d_Variants_addTelling_37 : decode b_Variants_addTelling 37 = .ok (.getfield 9, 3) := by decide +kernel
theorem d_Variants_addTelling_40 : decode b_Variants_addTelling 40 = .ok (.iload_n 2, 1) := by decide +kernel
theorem d_Variants_addTelling_41 : decode b_Variants_addTelling 41 = .ok (.invokevirtual 80, 3) := by decide +kernel
theorem d_Variants_addTelling_44 : decode b_Variants_addTelling 44 = .ok (.i2l, 1) := by decide +kernel
theorem d_Variants_addTelling_45 : decode b_Variants_addTelling 45 = .ok (.invokevirtual 49, 3) := by decide +kernel
theorem d_Variants_addTelling_48 : decode b_Variants_addTelling 48 = .ok (.iload_n 2, 1) := by decide +kernel
theorem d_Variants_addTelling_49 : decode b_Variants_addTelling 49 = .ok (.istore 4, 2) := by decide +kernel
theorem d_Variants_addTelling_51 : decode b_Variants_addTelling 51 = .ok (.aload_n 0, 1) := by decide +kernel
theorem d_Variants_addTelling_52 : decode b_Variants_addTelling 52 = .ok (.getfield 9, 3) := by decide +kernel
theorem d_Variants_addTelling_55 : decode b_Variants_addTelling 55 = .ok (.iload_n 2, 1) := by decide +kernel
theorem d_Variants_addTelling_56 : decode b_Variants_addTelling 56 = .ok (.invokevirtual 80, 3) := by decide +kernel
theorem d_Variants_addTelling_59 : decode b_Variants_addTelling 59 = .ok (.iconst 1, 1) := by decide +kernel
theorem d_Variants_addTelling_60 : decode b_Variants_addTelling 60 = .ok (.isub, 1) := by decide +kernel
theorem d_Variants_addTelling_61 : decode b_Variants_addTelling 61 = .ok (.istore 5, 2) := by decide +kernel
theorem d_Variants_addTelling_63 : decode b_Variants_addTelling 63 = .ok (.iload 5, 2) := by decide +kernel
theorem d_Variants_addTelling_65 : decode b_Variants_addTelling 65 = .ok (.ifCond .lt 44, 3) := by decide +kernel
theorem d_Variants_addTelling_68 : decode b_Variants_addTelling 68 = .ok (.aload_n 0, 1) := by decide +kernel
theorem d_Variants_addTelling_69 : decode b_Variants_addTelling 69 = .ok (.getfield 38, 3) := by decide +kernel
theorem d_Variants_addTelling_72 : decode b_Variants_addTelling 72 = .ok (.iload_n 3, 1) := by decide +kernel
theorem d_Variants_addTelling_73 : decode b_Variants_addTelling 73 = .ok (.bipush 23, 2) := by decide +kernel
theorem d_Variants_addTelling_75 : decode b_Variants_addTelling 75 = .ok (.imul, 1) := by decide +kernel
theorem d_Variants_addTelling_76 : decode b_Variants_addTelling 76 = .ok (.iload 5, 2) := by decide +kernel
theorem d_Variants_addTelling_78 : decode b_Variants_addTelling 78 = .ok (.iadd, 1) := by decide +kernel
theorem d_Variants_addTelling_79 : decode b_Variants_addTelling 79 = .ok (.aload_n 0, 1) := by decide +kernel
theorem d_Variants_addTelling_80 : decode b_Variants_addTelling 80 = .ok (.getfield 9, 3) := by decide +kernel
theorem d_Variants_addTelling_83 : decode b_Variants_addTelling 83 = .ok (.iload 4, 2) := by decide +kernel
theorem d_Variants_addTelling_85 : decode b_Variants_addTelling 85 = .ok (.invokevirtual 83, 3) := by decide +kernel
theorem d_Variants_addTelling_88 : decode b_Variants_addTelling 88 = .ok (.i2l, 1) := by decide +kernel
theorem d_Variants_addTelling_89 : decode b_Variants_addTelling 89 = .ok (.invokevirtual 49, 3) := by decide +kernel
theorem d_Variants_addTelling_92 : decode b_Variants_addTelling 92 = .ok (.aload_n 0, 1) := by decide +kernel
theorem d_Variants_addTelling_93 : decode b_Variants_addTelling 93 = .ok (.getfield 9, 3) := by decide +kernel
theorem d_Variants_addTelling_96 : decode b_Variants_addTelling 96 = .ok (.iload 4, 2) := by decide +kernel
theorem d_Variants_addTelling_98 : decode b_Variants_addTelling 98 = .ok (.invokevirtual 71, 3) := by decide +kernel
theorem d_Variants_addTelling_101 : decode b_Variants_addTelling 101 = .ok (.istore 4, 2) := by decide +kernel
theorem d_Variants_addTelling_103 : decode b_Variants_addTelling 103 = .ok (.iinc 5 (-1), 3) := by decide +kernel
theorem d_Variants_addTelling_106 : decode b_Variants_addTelling 106 = .ok (.goto (-43), 3) := by decide +kernel
theorem d_Variants_addTelling_109 : decode b_Variants_addTelling 109 = .ok (.iload_n 3, 1) := by decide +kernel
theorem d_Variants_addTelling_110 : decode b_Variants_addTelling 110 = .ok (.ireturn, 1) := by decide +kernel
theorem d_Variants_subjectOf_0 : decode b_Variants_subjectOf 0 = .ok (.iload_n 0, 1) := by decide +kernel
theorem d_Variants_subjectOf_1 : decode b_Variants_subjectOf 1 = .ok (.bipush 10, 2) := by decide +kernel
theorem d_Variants_subjectOf_3 : decode b_Variants_subjectOf 3 = .ok (.imul, 1) := by decide +kernel
theorem d_Variants_subjectOf_4 : decode b_Variants_subjectOf 4 = .ok (.iload_n 1, 1) := by decide +kernel
theorem d_Variants_subjectOf_5 : decode b_Variants_subjectOf 5 = .ok (.iadd, 1) := by decide +kernel
theorem d_Variants_subjectOf_6 : decode b_Variants_subjectOf 6 = .ok (.bipush 30, 2) := by decide +kernel
theorem d_Variants_subjectOf_8 : decode b_Variants_subjectOf 8 = .ok (.imul, 1) := by decide +kernel
theorem d_Variants_subjectOf_9 : decode b_Variants_subjectOf 9 = .ok (.iload_n 2, 1) := by decide +kernel
theorem d_Variants_subjectOf_10 : decode b_Variants_subjectOf 10 = .ok (.iadd, 1) := by decide +kernel
theorem d_Variants_subjectOf_11 : decode b_Variants_subjectOf 11 = .ok (.ireturn, 1) := by decide +kernel
theorem d_Arrays_fillI_0 : decode b_Arrays_fillI 0 = .ok (.iconst 0, 1) := by decide +kernel
theorem d_Arrays_fillI_1 : decode b_Arrays_fillI 1 = .ok (.istore_n 2, 1) := by decide +kernel
theorem d_Arrays_fillI_2 : decode b_Arrays_fillI 2 = .ok (.aload_n 0, 1) := by decide +kernel
theorem d_Arrays_fillI_3 : decode b_Arrays_fillI 3 = .ok (.arraylength, 1) := by decide +kernel
theorem d_Arrays_fillI_4 : decode b_Arrays_fillI 4 = .ok (.istore_n 3, 1) := by decide +kernel
theorem d_Arrays_fillI_5 : decode b_Arrays_fillI 5 = .ok (.iload_n 2, 1) := by decide +kernel
theorem d_Arrays_fillI_6 : decode b_Arrays_fillI 6 = .ok (.iload_n 3, 1) := by decide +kernel
theorem d_Arrays_fillI_7 : decode b_Arrays_fillI 7 = .ok (.if_icmp .ge 13, 3) := by decide +kernel
theorem d_Arrays_fillI_10 : decode b_Arrays_fillI 10 = .ok (.aload_n 0, 1) := by decide +kernel
theorem d_Arrays_fillI_11 : decode b_Arrays_fillI 11 = .ok (.iload_n 2, 1) := by decide +kernel
theorem d_Arrays_fillI_12 : decode b_Arrays_fillI 12 = .ok (.iload_n 1, 1) := by decide +kernel
theorem d_Arrays_fillI_13 : decode b_Arrays_fillI 13 = .ok (.iastore, 1) := by decide +kernel
theorem d_Arrays_fillI_14 : decode b_Arrays_fillI 14 = .ok (.iinc 2 1, 3) := by decide +kernel
theorem d_Arrays_fillI_17 : decode b_Arrays_fillI 17 = .ok (.goto (-12), 3) := by decide +kernel
theorem d_Arrays_fillI_20 : decode b_Arrays_fillI 20 = .ok (.return_, 1) := by decide +kernel
theorem d_Arrays_fillL_0 : decode b_Arrays_fillL 0 = .ok (.iconst 0, 1) := by decide +kernel
theorem d_Arrays_fillL_1 : decode b_Arrays_fillL 1 = .ok (.istore_n 3, 1) := by decide +kernel
theorem d_Arrays_fillL_2 : decode b_Arrays_fillL 2 = .ok (.aload_n 0, 1) := by decide +kernel
theorem d_Arrays_fillL_3 : decode b_Arrays_fillL 3 = .ok (.arraylength, 1) := by decide +kernel
theorem d_Arrays_fillL_4 : decode b_Arrays_fillL 4 = .ok (.istore 4, 2) := by decide +kernel
theorem d_Arrays_fillL_6 : decode b_Arrays_fillL 6 = .ok (.iload_n 3, 1) := by decide +kernel
theorem d_Arrays_fillL_7 : decode b_Arrays_fillL 7 = .ok (.iload 4, 2) := by decide +kernel
theorem d_Arrays_fillL_9 : decode b_Arrays_fillL 9 = .ok (.if_icmp .ge 13, 3) := by decide +kernel
theorem d_Arrays_fillL_12 : decode b_Arrays_fillL 12 = .ok (.aload_n 0, 1) := by decide +kernel
theorem d_Arrays_fillL_13 : decode b_Arrays_fillL 13 = .ok (.iload_n 3, 1) := by decide +kernel
theorem d_Arrays_fillL_14 : decode b_Arrays_fillL 14 = .ok (.lload_n 1, 1) := by decide +kernel
theorem d_Arrays_fillL_15 : decode b_Arrays_fillL 15 = .ok (.lastore, 1) := by decide +kernel
theorem d_Arrays_fillL_16 : decode b_Arrays_fillL 16 = .ok (.iinc 3 1, 3) := by decide +kernel
theorem d_Arrays_fillL_19 : decode b_Arrays_fillL 19 = .ok (.goto (-13), 3) := by decide +kernel
theorem d_Arrays_fillL_22 : decode b_Arrays_fillL 22 = .ok (.return_, 1) := by decide +kernel
end
section
/-! THE CLASS'S WORLD: its cells as a function of an abstract value -/
abbrev Chg : Type := Nat × Int32 × Int64
/-- rows of longs, rows of ints, numbers (0 journal.count, 1 journal.next, 2 book.count, 3 lostNames), the acts' changes, the open act's changes -/
abbrev SC : Type := (Nat → Nat → Int64) × (Nat → Nat → Int32) × (Nat → Int32) × (Nat → List Chg) × List Chg
def xL (σ : SC) : Nat → Nat → Int64 := σ.1
def xI (σ : SC) : Nat → Nat → Int32 := σ.2.1
def xn (σ : SC) : Nat → Int32 := σ.2.2.1
def xa (σ : SC) : Nat → List Chg := σ.2.2.2.1
def xo (σ : SC) : List Chg := σ.2.2.2.2
def zL (σ : SC) (k i : Nat) (v : Int64) : SC := (va_up σ.1 k (vp_updL (σ.1 k) i v), σ.2)
def zI (σ : SC) (k i : Nat) (v : Int32) : SC := (σ.1, va_up σ.2.1 k (upd (σ.2.1 k) i v), σ.2.2)
def zIf (σ : SC) (k : Nat) (f : Nat → Int32) : SC := (σ.1, va_up σ.2.1 k f, σ.2.2)
def zn (σ : SC) (k : Nat) (v : Int32) : SC := (σ.1, σ.2.1, va_up σ.2.2.1 k v, σ.2.2.2)
def za (σ : SC) (k : Nat) (v : List Chg) : SC := (σ.1, σ.2.1, σ.2.2.1, va_up σ.2.2.2.1 k v, σ.2.2.2.2)
def zo (σ : SC) (v : List Chg) : SC := (σ.1, σ.2.1, σ.2.2.1, σ.2.2.2.1, v)
/-- where the changes lie: their addresses, what they hold, the acts' first ones, the open act's first one -/
abbrev PJ : Type := List Nat × (Nat → Nat × Int32 × Int64 × Option Nat) × (Nat → Option Nat) × Option Nat
/-- a chain of changes -/
def ch (LP : List Nat) (cg : Nat → Nat × Int32 × Int64 × Option Nat) : Option Nat → List Chg → Prop
  | o, [] => o = none
  | o, x :: t => ∃ (a : Nat) (b : Option Nat), o = some a ∧ a ∈ LP ∧ cg a = (x.1, x.2.1, x.2.2, b) ∧ x.1 < 19 ∧ ch LP cg b t
def RJ (π : PJ) (σ : SC) : Prop := ch π.1 π.2.1 π.2.2.2 (xo σ) ∧ ∀ j, ch π.1 π.2.1 (π.2.2.1 j) (xa σ j)
theorem ch_push {LP : List Nat} {cg : Nat → Nat × Int32 × Int64 × Option Nat} {q : Nat} {c : Nat × Int32 × Int64 × Option Nat} (hq : q ∉ LP) : ∀ {t : List Chg} {o : Option Nat}, ch LP cg o t → ch (LP ++ [q]) (va_up cg q c) o t
  | [], _, h => h
  | _ :: _, _, h => by
    obtain ⟨a, b, h1, h2, h3, h4, h5⟩ := h
    exact ⟨a, b, h1, List.mem_append_left _ h2, by rw [va_up_ne cg c (fun e : a = q => hq (e ▸ h2))]; exact h3, h4, ch_push hq h5⟩
def lnR : Nat → Nat
  | 0 => 2
  | 1 => 24
  | 2 => 60
  | 3 => 60
  | 4 => 84
  | 5 => 1920
  | 6 => 1
  | 7 => 30
  | 8 => 30
  | 9 => 240
  | 10 => 480
  | 11 => 24
  | 12 => 2
  | 13 => 10
  | 14 => 40
  | 15 => 40
  | 16 => 40
  | 17 => 920
  | 18 => 1
  | _ => 0
def lnI : Nat → Nat
  | 0 => 301
  | 1 => 301
  | 2 => 301
  | 3 => 301
  | 4 => 301
  | 5 => 24
  | 6 => 30
  | _ => 0
theorem lnR_lt (k : Nat) : lnR k < 2 ^ 31 := by unfold lnR; split <;> decide
theorem lnI_lt (k : Nat) : lnI k < 2 ^ 31 := by unfold lnI; split <;> decide
theorem vin {i : Int32} {n : Nat} (h0 : ¬ i < 0) (h1 : ¬ nI n ≤ i) (hn : n < 2 ^ 31) : vp_in i n := by
  obtain ⟨j, hj, rfl, -⟩ := pk_mu h0 h1 hn
  exact vp_in_nI hj hn
theorem sg_get {α : Type} {A B : List α} {f : Nat → α} {n k : Nat} (hk : k < n) : (A ++ ((List.range n).map f ++ B))[A.length + k]? = some (f k) := by
  rw [List.getElem?_append_right (by omega), Nat.add_sub_cancel_left, List.getElem?_append_left (by simp; omega)]
  simp [hk]
theorem sg_set {α : Type} {A B : List α} {f : Nat → α} {n k : Nat} {x : α} (hk : k < n) : (A ++ ((List.range n).map f ++ B)).set (A.length + k) x = A ++ ((List.range n).map (va_up f k x) ++ B) := by
  rw [List.set_append_right _ _ (by omega), Nat.add_sub_cancel_left, List.set_append_left _ _ (by simp; omega)]
  congr 2
  apply List.ext_getElem?
  intro j
  by_cases hj : j < n
  · by_cases h : j = k
    · subst h
      rw [List.getElem?_set_self (by simp; omega)]
      simp [hj, va_up]
    · rw [List.getElem?_set_ne (Ne.symm h)]
      simp [hj, va_up, h]
  · rw [List.getElem?_eq_none (by simp; omega), List.getElem?_eq_none (by simp; omega)]

/-- the cells -/
def obC (G : Nat → Nat → Nat) (cQ : ClassId) (σ : SC) (π : PJ) : va_W := [
  (G 0 0, .inr (CI_ST, [.ref (G 0 1), .ref (G 0 3), .ref (G 0 4), .ref (G 0 5), .ref (G 0 6), .ref (G 1 18), .int (xn σ 3)])),
  (G 0 1, .inr (CI_Journal, [.ref (G 0 2), .int (xn σ 0), .int (xn σ 1), va_rf π.2.2.2])),
  (G 0 2, .inl (cQ, 50, .inr (.inr (.inr (.inr π.2.2.1))))),
  (G 0 3, .inr (CI_Sheets, [.ref (G 1 0), .ref (G 1 1), .ref (G 1 2), .ref (G 1 3), .ref (G 1 4), .ref (G 1 5)])),
  (G 0 4, .inr (CI_Book, [.ref (G 0 3), .ref (G 3 0), .ref (G 3 1), .ref (G 3 2), .ref (G 3 3), .ref (G 3 4), .ref (G 3 5), .int (xn σ 2)])),
  (G 0 5, .inr (CI_Parts, [.ref (G 0 4), .ref (G 1 6), .ref (G 1 7), .ref (G 1 8), .ref (G 1 9), .ref (G 1 10), .ref (G 1 11), .ref (G 3 6)])),
  (G 0 6, .inr (CI_Variants, [.ref (G 0 4), .ref (G 1 12), .ref (G 1 13), .ref (G 1 14), .ref (G 1 15), .ref (G 1 16), .ref (G 1 17)]))]
def iaC (G : Nat → Nat → Nat) (cI : ClassId) (σ : SC) (j : Nat) : Nat × va_E := (G 3 j, .inl (cI, lnI j, .inl (xI σ j)))
def rwC (G : Nat → Nat → Nat) (k : Nat) : Nat × va_E := (G 1 k, .inr (CI_Row, [.ref (G 0 1), .ref (G 2 k)]))
def laC (G : Nat → Nat → Nat) (cL : ClassId) (σ : SC) (k : Nat) : Nat × va_E := (G 2 k, .inl (cL, lnR k, .inr (.inl (xL σ k))))
def cgC (G : Nat → Nat → Nat) (π : PJ) (a : Nat) : va_E := .inr (CI_Change, [.ref (G 1 (π.2.1 a).1), .int (π.2.1 a).2.1, .long (π.2.1 a).2.2.1, va_rf (π.2.1 a).2.2.2])
def wsC (G : Nat → Nat → Nat) (cI cL cQ : ClassId) (σ : SC) (π : PJ) (rest : va_W) : va_W :=
  obC G cQ σ π ++ ((List.range 7).map (iaC G cI σ) ++ ((List.range 19).map (rwC G) ++ ((List.range 19).map (laC G cL σ) ++ (rest ++ va_pl π.1 (cgC G π)))))
def pwC (G : Nat → Nat → Nat) (cI cL cQ : ClassId) (σ : SC) (rest : va_W) : va_W → Prop := fun w => ∃ π, RJ π σ ∧ w = wsC G cI cL cQ σ π rest
section LKC
variable {G : Nat → Nat → Nat} {cI cL cQ : ClassId} {σ : SC} {π : PJ} {rest : va_W}
theorem lkC_ST : (wsC G cI cL cQ σ π rest)[0]? = some (G 0 0, .inr (CI_ST, [.ref (G 0 1), .ref (G 0 3), .ref (G 0 4), .ref (G 0 5), .ref (G 0 6), .ref (G 1 18), .int (xn σ 3)])) := rfl
theorem lkC_Journal : (wsC G cI cL cQ σ π rest)[1]? = some (G 0 1, .inr (CI_Journal, [.ref (G 0 2), .int (xn σ 0), .int (xn σ 1), va_rf π.2.2.2])) := rfl
theorem lkC_acts : (wsC G cI cL cQ σ π rest)[2]? = some (G 0 2, .inl (cQ, 50, .inr (.inr (.inr (.inr π.2.2.1))))) := rfl
theorem lkC_Sheets : (wsC G cI cL cQ σ π rest)[3]? = some (G 0 3, .inr (CI_Sheets, [.ref (G 1 0), .ref (G 1 1), .ref (G 1 2), .ref (G 1 3), .ref (G 1 4), .ref (G 1 5)])) := rfl
theorem lkC_Book : (wsC G cI cL cQ σ π rest)[4]? = some (G 0 4, .inr (CI_Book, [.ref (G 0 3), .ref (G 3 0), .ref (G 3 1), .ref (G 3 2), .ref (G 3 3), .ref (G 3 4), .ref (G 3 5), .int (xn σ 2)])) := rfl
theorem lkC_Parts : (wsC G cI cL cQ σ π rest)[5]? = some (G 0 5, .inr (CI_Parts, [.ref (G 0 4), .ref (G 1 6), .ref (G 1 7), .ref (G 1 8), .ref (G 1 9), .ref (G 1 10), .ref (G 1 11), .ref (G 3 6)])) := rfl
theorem lkC_Variants : (wsC G cI cL cQ σ π rest)[6]? = some (G 0 6, .inr (CI_Variants, [.ref (G 0 4), .ref (G 1 12), .ref (G 1 13), .ref (G 1 14), .ref (G 1 15), .ref (G 1 16), .ref (G 1 17)])) := rfl
theorem lkC_iarr {j : Nat} (hj : j < 7) : (wsC G cI cL cQ σ π rest)[7 + j]? = some (G 3 j, .inl (cI, lnI j, .inl (xI σ j))) := sg_get (A := obC G cQ σ π) hj
theorem lkC_row {k : Nat} (hk : k < 19) : (wsC G cI cL cQ σ π rest)[14 + k]? = some (G 1 k, .inr (CI_Row, [.ref (G 0 1), .ref (G 2 k)])) := by
  have h := sg_get (A := obC G cQ σ π ++ (List.range 7).map (iaC G cI σ)) (f := rwC G) (B := (List.range 19).map (laC G cL σ) ++ (rest ++ va_pl π.1 (cgC G π))) hk
  rw [List.append_assoc] at h
  exact h
theorem lkC_larr {k : Nat} (hk : k < 19) : (wsC G cI cL cQ σ π rest)[33 + k]? = some (G 2 k, .inl (cL, lnR k, .inr (.inl (xL σ k)))) := by
  have h := sg_get (A := obC G cQ σ π ++ ((List.range 7).map (iaC G cI σ) ++ (List.range 19).map (rwC G))) (f := laC G cL σ) (B := rest ++ va_pl π.1 (cgC G π)) hk
  rw [List.append_assoc, List.append_assoc] at h
  exact h
theorem setC_n3 {v : Int32} : (wsC G cI cL cQ σ π rest).set 0 (G 0 0, .inr (CI_ST, ([.ref (G 0 1), .ref (G 0 3), .ref (G 0 4), .ref (G 0 5), .ref (G 0 6), .ref (G 1 18), .int (xn σ 3)] : List Value).set 6 (.int v))) = wsC G cI cL cQ (zn σ 3 v) π rest := rfl
theorem setC_n0 {v : Int32} : (wsC G cI cL cQ σ π rest).set 1 (G 0 1, .inr (CI_Journal, ([.ref (G 0 2), .int (xn σ 0), .int (xn σ 1), va_rf π.2.2.2] : List Value).set 1 (.int v))) = wsC G cI cL cQ (zn σ 0 v) π rest := rfl
theorem setC_n1 {v : Int32} : (wsC G cI cL cQ σ π rest).set 1 (G 0 1, .inr (CI_Journal, ([.ref (G 0 2), .int (xn σ 0), .int (xn σ 1), va_rf π.2.2.2] : List Value).set 2 (.int v))) = wsC G cI cL cQ (zn σ 1 v) π rest := rfl
theorem setC_n2 {v : Int32} : (wsC G cI cL cQ σ π rest).set 4 (G 0 4, .inr (CI_Book, ([.ref (G 0 3), .ref (G 3 0), .ref (G 3 1), .ref (G 3 2), .ref (G 3 3), .ref (G 3 4), .ref (G 3 5), .int (xn σ 2)] : List Value).set 7 (.int v))) = wsC G cI cL cQ (zn σ 2 v) π rest := rfl
theorem setC_iarr {j : Nat} (hj : j < 7) (i : Nat) (v : Int32) : (wsC G cI cL cQ σ π rest).set (7 + j) (G 3 j, .inl (cI, lnI j, .inl (upd (xI σ j) i v))) = wsC G cI cL cQ (zI σ j i v) π rest := by
  have h := sg_set (A := obC G cQ σ π) (f := iaC G cI σ) (B := (List.range 19).map (rwC G) ++ ((List.range 19).map (laC G cL σ) ++ (rest ++ va_pl π.1 (cgC G π)))) (x := (G 3 j, .inl (cI, lnI j, .inl (upd (xI σ j) i v)))) hj
  refine h.trans ?_
  have hf : va_up (iaC G cI σ) j (G 3 j, .inl (cI, lnI j, .inl (upd (xI σ j) i v))) = iaC G cI (zI σ j i v) := by
    funext q
    by_cases hq : q = j
    · subst hq; simp [va_up, iaC, xI, zI]
    · simp [va_up, iaC, xI, zI, hq]
  rw [hf]
  rfl
theorem setC_larr {k : Nat} (hk : k < 19) (i : Nat) (v : Int64) : (wsC G cI cL cQ σ π rest).set (33 + k) (G 2 k, .inl (cL, lnR k, .inr (.inl (vp_updL (xL σ k) i v)))) = wsC G cI cL cQ (zL σ k i v) π rest := by
  have h := sg_set (A := obC G cQ σ π ++ ((List.range 7).map (iaC G cI σ) ++ (List.range 19).map (rwC G))) (f := laC G cL σ) (B := rest ++ va_pl π.1 (cgC G π)) (x := (G 2 k, .inl (cL, lnR k, .inr (.inl (vp_updL (xL σ k) i v))))) hk
  rw [List.append_assoc, List.append_assoc] at h
  refine h.trans ?_
  have hf : va_up (laC G cL σ) k (G 2 k, .inl (cL, lnR k, .inr (.inl (vp_updL (xL σ k) i v)))) = laC G cL (zL σ k i v) := by
    funext q
    by_cases hq : q = k
    · subst hq; simp [va_up, laC, xL, zL]
    · simp [va_up, laC, xL, zL, hq]
  rw [hf, List.append_assoc, List.append_assoc]
  rfl
end LKC

theorem nwl_ok : ∀ w ∈ NWL, nwOk w = true := by decide
def tyL (cI cL cQ : ClassId) : List (ClassId × FieldType) := [(cI, .int), (cL, .long), (cQ, .object "SheetTrees$Change")]
abbrev CM (l : Launch) (y : MethodName) (bytes : ByteArray) (maxL : Nat) (rt : Option FieldType) (rm : Room) (D : va_G) (tys : List (ClassId × FieldType)) (N0 : Nat) (av : List Value) (ws : va_W) (v : Option Value) (PW : va_W → Prop) (mc ms : Nat) : Prop :=
  Met l y (Cond.code y bytes maxL rt :: ALLW) rm (pcx D classes tys NWL N0 av ws) (qx D classes N0 v PW) mc ms (ga N0)
section RO
variable {D : va_G} {cl : List vw_C} {N0 : Nat} {ws : va_W} {s : State}
theorem roK {X : Heap → List Loc → Prop} (h : ∀ (H : Heap) (locs : List Loc), bd D cl N0 ws s H locs → X H locs) : ∀ (H : Heap) (locs : List Loc) (w : va_W), w = ws → bd D cl N0 w s H locs → X H locs := fun H locs _ e hB => h H locs (e ▸ hB)
end RO
def m_Row_longAt (σ : SC) (k : Nat) (x0 : Int32) : Int64 :=
  if x0 < 0 then
    (-1)
  else
    if (nI (lnR k)) ≤ x0 then
      (-1)
    else
      (xL σ k x0.toNatClampNeg)

def m_Row_at (σ : SC) (k : Nat) (x0 : Int32) : Int32 :=
  if x0 < 0 then
    (-1)
  else
    if (nI (lnR k)) ≤ x0 then
      (-1)
    else
      (xL σ k x0.toNatClampNeg).toInt32

def m_Row_restore (σ : SC) (k : Nat) (x0 : Int32) (x1 : Int64) : SC :=
  if x0 < 0 then
    σ
  else
    if (nI (lnR k)) ≤ x0 then
      σ
    else
      (zL σ k x0.toNatClampNeg x1)

def m_ST_holdsName (x0 : Int32) (x1 : Int32) : Bool :=
  if (x0 &&& (1 <<< (x1 &&& 31))) = 0 then
    false
  else
    true

def m_ST_read (σ : SC) (j : Nat) (x1 : Int32) : Int32 :=
  if x1 < 0 then
    (-1)
  else
    if (nI (lnI j)) ≤ x1 then
      (-1)
    else
      (xI σ j x1.toNatClampNeg)

def m_ST_write (σ : SC) (j : Nat) (x1 : Int32) (x2 : Int32) : SC :=
  if x1 < 0 then
    σ
  else
    if (nI (lnI j)) ≤ x1 then
      σ
    else
      (zI σ j x1.toNatClampNeg x2)

def lp_Arrays_fillI_5 : Nat → SC → Nat → Int32 → Int32 → Int32 → SC
  | 0, σ, _, _, _, _ => σ
  | n + 1, σ, j, v1, v2, v3 =>
    if v3 ≤ v2 then
      σ
    else
      lp_Arrays_fillI_5 n (zI σ j v2.toNatClampNeg v1) j v1 (v2 + 1) v3

def m_Arrays_fillI (σ : SC) (j : Nat) (x1 : Int32) : SC :=
  lp_Arrays_fillI_5 ((nI (lnI j)).toNatClampNeg + 1) σ j x1 0 (nI (lnI j))

section SC
variable {l : Launch} {D : va_G} {N0 : Nat} {G : Nat → Nat → Nat} {cI cL cQ : ClassId} {rest : va_W}
set_option maxHeartbeats 400000 in
set_option maxRecDepth 100000 in
theorem c_Row_longAt (k : Nat) (hk : k < 19) (σ : SC) (π : PJ) (x0 : Int32) : CM l y_Row_longAt b_Row_longAt 2 (some .long) { frames := 0, cells := 0, slots := 0, locals := 0 } D (tyL cI cL cQ) N0 [.ref (G 1 k), .int x0] (wsC G cI cL cQ σ π rest) (some (.long (m_Row_longAt σ k x0))) (fun w => w = wsC G cI cL cQ σ π rest) 0 0 := by
  generalize hR : m_Row_longAt σ k x0 = RES
  refine met_of (own := R_Row) (by decide) rfl nwl_ok ?_
  intro p e s m below meth c hC hin hB
  have hx := hC.1
  have hb := hC.2.1
  have hl := lv_entry ([.ref (G 1 k), .int x0]) (n := 2) (Nat.le_of_ble_eq_true rfl)
  rw [lg_entry_eq]
  generalize (lg_sl ([.ref (G 1 k), .int x0]) ++ List.replicate (2 - (lg_sl ([.ref (G 1 k), .int x0])).length) Slot.unset).toArray = ls at hl ⊢
  have hl : lv_has ls 2 [(0, .ref (G 1 k)), (1, .int x0)] := hl
  rw [m_Row_longAt] at hR
  refine lv_iload_n hx hb d_Row_longAt_0 rfl (lv_at hl 1 rfl) ?_
  refine lv_if_lt (tgt := 22) hx hb d_Row_longAt_1 (by decide) (fun c_1 => ?_) (fun c_1 => ?_)
  · rw [if_pos c_1] at hR
    refine lv_ldc2 (v := (-1)) hx hb hC.2.2.2.2.1 (hC.2.2.2.2.2.1 _ kw_296) d_Row_longAt_22 ?_
    subst hR
    exact rl hC hB rfl d_Row_longAt_25
  · rw [if_neg c_1] at hR
    refine lv_iload_n hx hb d_Row_longAt_4 rfl (lv_at hl 1 rfl) ?_
    refine lv_aload_n hx hb d_Row_longAt_5 rfl (lv_at hl 0 rfl) ?_
    refine gt hC hB _ (lkC_row hk) rfl i_Row 1 (by decide) rfl kw_65 rfl d_Row_longAt_6 ?_
    refine va_alen hx hb hC.2.2.2.2.2.2.2.1.1 hB.1 _ 1 (lkC_larr hk) rfl (v := (nI (lnR k))) rfl d_Row_longAt_9 ?_
    refine lv_icmp_ge (tgt := 22) hx hb d_Row_longAt_10 (by decide) (fun c_2 => ?_) (fun c_2 => ?_)
    · rw [if_pos c_2] at hR
      refine lv_ldc2 (v := (-1)) hx hb hC.2.2.2.2.1 (hC.2.2.2.2.2.1 _ kw_296) d_Row_longAt_22 ?_
      subst hR
      exact rl hC hB rfl d_Row_longAt_25
    · rw [if_neg c_2] at hR
      refine lv_aload_n hx hb d_Row_longAt_13 rfl (lv_at hl 0 rfl) ?_
      refine gt hC hB _ (lkC_row hk) rfl i_Row 1 (by decide) rfl kw_65 rfl d_Row_longAt_14 ?_
      refine lv_iload_n hx hb d_Row_longAt_17 rfl (lv_at hl 1 rfl) ?_
      refine va_lald hx hb hC.2.2.2.2.2.2.2.1.1 hB.1 _ 1 (lkC_larr hk) rfl (vin (by assumption) (by assumption) (lnR_lt k)) d_Row_longAt_18 ?_
      refine lv_goto (tgt := 25) hx hb d_Row_longAt_19 (by decide) ?_
      subst hR
      exact rl hC hB rfl d_Row_longAt_25

set_option maxHeartbeats 400000 in
set_option maxRecDepth 100000 in
theorem c_Row_at (k : Nat) (hk : k < 19) (σ : SC) (π : PJ) (x0 : Int32) : CM l y_Row_at b_Row_at 2 (some .int) { frames := 0, cells := 0, slots := 0, locals := 0 } D (tyL cI cL cQ) N0 [.ref (G 1 k), .int x0] (wsC G cI cL cQ σ π rest) (some (.int (m_Row_at σ k x0))) (fun w => w = wsC G cI cL cQ σ π rest) 0 0 := by
  generalize hR : m_Row_at σ k x0 = RES
  refine met_of (own := R_Row) (by decide) rfl nwl_ok ?_
  intro p e s m below meth c hC hin hB
  have hx := hC.1
  have hb := hC.2.1
  have hl := lv_entry ([.ref (G 1 k), .int x0]) (n := 2) (Nat.le_of_ble_eq_true rfl)
  rw [lg_entry_eq]
  generalize (lg_sl ([.ref (G 1 k), .int x0]) ++ List.replicate (2 - (lg_sl ([.ref (G 1 k), .int x0])).length) Slot.unset).toArray = ls at hl ⊢
  have hl : lv_has ls 2 [(0, .ref (G 1 k)), (1, .int x0)] := hl
  rw [m_Row_at] at hR
  refine lv_iload_n hx hb d_Row_at_0 rfl (lv_at hl 1 rfl) ?_
  refine lv_if_lt (tgt := 23) hx hb d_Row_at_1 (by decide) (fun c_1 => ?_) (fun c_1 => ?_)
  · rw [if_pos c_1] at hR
    refine lv_iconst (v := (-1)) hx hb d_Row_at_23 (by decide) ?_
    subst hR
    exact ri hC hB rfl d_Row_at_24
  · rw [if_neg c_1] at hR
    refine lv_iload_n hx hb d_Row_at_4 rfl (lv_at hl 1 rfl) ?_
    refine lv_aload_n hx hb d_Row_at_5 rfl (lv_at hl 0 rfl) ?_
    refine gt hC hB _ (lkC_row hk) rfl i_Row 1 (by decide) rfl kw_65 rfl d_Row_at_6 ?_
    refine va_alen hx hb hC.2.2.2.2.2.2.2.1.1 hB.1 _ 1 (lkC_larr hk) rfl (v := (nI (lnR k))) rfl d_Row_at_9 ?_
    refine lv_icmp_ge (tgt := 23) hx hb d_Row_at_10 (by decide) (fun c_2 => ?_) (fun c_2 => ?_)
    · rw [if_pos c_2] at hR
      refine lv_iconst (v := (-1)) hx hb d_Row_at_23 (by decide) ?_
      subst hR
      exact ri hC hB rfl d_Row_at_24
    · rw [if_neg c_2] at hR
      refine lv_aload_n hx hb d_Row_at_13 rfl (lv_at hl 0 rfl) ?_
      refine gt hC hB _ (lkC_row hk) rfl i_Row 1 (by decide) rfl kw_65 rfl d_Row_at_14 ?_
      refine lv_iload_n hx hb d_Row_at_17 rfl (lv_at hl 1 rfl) ?_
      refine va_lald hx hb hC.2.2.2.2.2.2.2.1.1 hB.1 _ 1 (lkC_larr hk) rfl (vin (by assumption) (by assumption) (lnR_lt k)) d_Row_at_18 ?_
      refine lv_l2i hx hb d_Row_at_19 rfl ?_
      refine lv_goto (tgt := 24) hx hb d_Row_at_20 (by decide) ?_
      subst hR
      exact ri hC hB rfl d_Row_at_24

set_option maxHeartbeats 400000 in
set_option maxRecDepth 100000 in
theorem c_Row_restore (k : Nat) (hk : k < 19) (σ : SC) (π : PJ) (x0 : Int32) (x1 : Int64) : CM l y_Row_restore b_Row_restore 4 (none) { frames := 0, cells := 0, slots := 0, locals := 0 } D (tyL cI cL cQ) N0 [.ref (G 1 k), .int x0, .long x1] (wsC G cI cL cQ σ π rest) (none) (fun w => w = wsC G cI cL cQ (m_Row_restore σ k x0 x1) π rest) 0 0 := by
  generalize hR : m_Row_restore σ k x0 x1 = RES
  refine met_of (own := R_Row) (by decide) rfl nwl_ok ?_
  intro p e s m below meth c hC hin hB
  have hx := hC.1
  have hb := hC.2.1
  have hl := lv_entry ([.ref (G 1 k), .int x0, .long x1]) (n := 4) (Nat.le_of_ble_eq_true rfl)
  rw [lg_entry_eq]
  generalize (lg_sl ([.ref (G 1 k), .int x0, .long x1]) ++ List.replicate (4 - (lg_sl ([.ref (G 1 k), .int x0, .long x1])).length) Slot.unset).toArray = ls at hl ⊢
  have hl : lv_has ls 4 [(0, .ref (G 1 k)), (1, .int x0), (2, .long x1)] := hl
  rw [m_Row_restore] at hR
  refine lv_iload_n hx hb d_Row_restore_0 rfl (lv_at hl 1 rfl) ?_
  refine lv_if_lt (tgt := 20) hx hb d_Row_restore_1 (by decide) (fun c_1 => ?_) (fun c_1 => ?_)
  · rw [if_pos c_1] at hR
    subst hR
    exact rv hC hB rfl d_Row_restore_20
  · rw [if_neg c_1] at hR
    refine lv_iload_n hx hb d_Row_restore_4 rfl (lv_at hl 1 rfl) ?_
    refine lv_aload_n hx hb d_Row_restore_5 rfl (lv_at hl 0 rfl) ?_
    refine gt hC hB _ (lkC_row hk) rfl i_Row 1 (by decide) rfl kw_65 rfl d_Row_restore_6 ?_
    refine va_alen hx hb hC.2.2.2.2.2.2.2.1.1 hB.1 _ 1 (lkC_larr hk) rfl (v := (nI (lnR k))) rfl d_Row_restore_9 ?_
    refine lv_icmp_ge (tgt := 20) hx hb d_Row_restore_10 (by decide) (fun c_2 => ?_) (fun c_2 => ?_)
    · rw [if_pos c_2] at hR
      subst hR
      exact rv hC hB rfl d_Row_restore_20
    · rw [if_neg c_2] at hR
      refine lv_aload_n hx hb d_Row_restore_13 rfl (lv_at hl 0 rfl) ?_
      refine gt hC hB _ (lkC_row hk) rfl i_Row 1 (by decide) rfl kw_65 rfl d_Row_restore_14 ?_
      refine lv_iload_n hx hb d_Row_restore_17 rfl (lv_at hl 1 rfl) ?_
      refine lv_lload_n hx hb d_Row_restore_18 rfl (lv_at hl 2 rfl) ?_
      refine as_l hC hB _ 1 (lkC_larr hk) rfl (vin (by assumption) (by assumption) (lnR_lt k)) d_Row_restore_19 (ws' := wsC G cI cL cQ (zL σ k x0.toNatClampNeg x1) π rest) (setC_larr hk _ _) (fun H locs hB => ?_)
      subst hR
      exact rv hC hB rfl d_Row_restore_20

set_option maxHeartbeats 400000 in
set_option maxRecDepth 100000 in
theorem c_ST_holdsName  (σ : SC) (π : PJ) (x0 : Int32) (x1 : Int32) : CM l y_ST_holdsName b_ST_holdsName 2 (some .boolean) { frames := 0, cells := 0, slots := 0, locals := 0 } D (tyL cI cL cQ) N0 [.int x0, .int x1] (wsC G cI cL cQ σ π rest) (some (.int (bi (m_ST_holdsName x0 x1)))) (fun w => w = wsC G cI cL cQ σ π rest) 0 0 := by
  generalize hR : m_ST_holdsName x0 x1 = RES
  refine met_of (own := R_ST) (by decide) rfl nwl_ok ?_
  intro p e s m below meth c hC hin hB
  have hx := hC.1
  have hb := hC.2.1
  have hl := lv_entry ([.int x0, .int x1]) (n := 2) (Nat.le_of_ble_eq_true rfl)
  rw [lg_entry_eq]
  generalize (lg_sl ([.int x0, .int x1]) ++ List.replicate (2 - (lg_sl ([.int x0, .int x1])).length) Slot.unset).toArray = ls at hl ⊢
  have hl : lv_has ls 2 [(0, .int x0), (1, .int x1)] := hl
  rw [m_ST_holdsName] at hR
  refine lv_iload_n hx hb d_ST_holdsName_0 rfl (lv_at hl 0 rfl) ?_
  refine lv_iconst (v := 1) hx hb d_ST_holdsName_1 (by decide) ?_
  refine lv_iload_n hx hb d_ST_holdsName_2 rfl (lv_at hl 1 rfl) ?_
  refine lv_ishl hx hb d_ST_holdsName_3 ?_
  refine lv_iand hx hb d_ST_holdsName_4 ?_
  refine lv_if_eq (tgt := 12) hx hb d_ST_holdsName_5 (by decide) (fun c_1 => ?_) (fun c_1 => ?_)
  · rw [if_pos c_1] at hR
    refine lv_iconst (v := 0) hx hb d_ST_holdsName_12 (by decide) ?_
    subst hR
    exact rz (b := false) hC hB rfl d_ST_holdsName_13
  · rw [if_neg c_1] at hR
    refine lv_iconst (v := 1) hx hb d_ST_holdsName_8 (by decide) ?_
    refine lv_goto (tgt := 13) hx hb d_ST_holdsName_9 (by decide) ?_
    subst hR
    exact rz (b := true) hC hB rfl d_ST_holdsName_13

set_option maxHeartbeats 400000 in
set_option maxRecDepth 100000 in
theorem c_ST_read (j : Nat) (hj : j < 7) (σ : SC) (π : PJ) (x1 : Int32) : CM l y_ST_read b_ST_read 2 (some .int) { frames := 0, cells := 0, slots := 0, locals := 0 } D (tyL cI cL cQ) N0 [.ref (G 3 j), .int x1] (wsC G cI cL cQ σ π rest) (some (.int (m_ST_read σ j x1))) (fun w => w = wsC G cI cL cQ σ π rest) 0 0 := by
  generalize hR : m_ST_read σ j x1 = RES
  refine met_of (own := R_ST) (by decide) rfl nwl_ok ?_
  intro p e s m below meth c hC hin hB
  have hx := hC.1
  have hb := hC.2.1
  have hl := lv_entry ([.ref (G 3 j), .int x1]) (n := 2) (Nat.le_of_ble_eq_true rfl)
  rw [lg_entry_eq]
  generalize (lg_sl ([.ref (G 3 j), .int x1]) ++ List.replicate (2 - (lg_sl ([.ref (G 3 j), .int x1])).length) Slot.unset).toArray = ls at hl ⊢
  have hl : lv_has ls 2 [(0, .ref (G 3 j)), (1, .int x1)] := hl
  rw [m_ST_read] at hR
  refine lv_iload_n hx hb d_ST_read_0 rfl (lv_at hl 1 rfl) ?_
  refine lv_if_lt (tgt := 16) hx hb d_ST_read_1 (by decide) (fun c_1 => ?_) (fun c_1 => ?_)
  · rw [if_pos c_1] at hR
    refine lv_iconst (v := (-1)) hx hb d_ST_read_16 (by decide) ?_
    subst hR
    exact ri hC hB rfl d_ST_read_17
  · rw [if_neg c_1] at hR
    refine lv_iload_n hx hb d_ST_read_4 rfl (lv_at hl 1 rfl) ?_
    refine lv_aload_n hx hb d_ST_read_5 rfl (lv_at hl 0 rfl) ?_
    refine va_alen hx hb hC.2.2.2.2.2.2.2.1.1 hB.1 _ 0 (lkC_iarr hj) rfl (v := (nI (lnI j))) rfl d_ST_read_6 ?_
    refine lv_icmp_ge (tgt := 16) hx hb d_ST_read_7 (by decide) (fun c_2 => ?_) (fun c_2 => ?_)
    · rw [if_pos c_2] at hR
      refine lv_iconst (v := (-1)) hx hb d_ST_read_16 (by decide) ?_
      subst hR
      exact ri hC hB rfl d_ST_read_17
    · rw [if_neg c_2] at hR
      refine lv_aload_n hx hb d_ST_read_10 rfl (lv_at hl 0 rfl) ?_
      refine lv_iload_n hx hb d_ST_read_11 rfl (lv_at hl 1 rfl) ?_
      refine va_iald hx hb hC.2.2.2.2.2.2.2.1.1 hB.1 _ 0 (lkC_iarr hj) rfl (vin (by assumption) (by assumption) (lnI_lt j)) d_ST_read_12 ?_
      refine lv_goto (tgt := 17) hx hb d_ST_read_13 (by decide) ?_
      subst hR
      exact ri hC hB rfl d_ST_read_17

set_option maxHeartbeats 400000 in
set_option maxRecDepth 100000 in
theorem c_ST_write (j : Nat) (hj : j < 7) (σ : SC) (π : PJ) (x1 : Int32) (x2 : Int32) : CM l y_ST_write b_ST_write 3 (none) { frames := 0, cells := 0, slots := 0, locals := 0 } D (tyL cI cL cQ) N0 [.ref (G 3 j), .int x1, .int x2] (wsC G cI cL cQ σ π rest) (none) (fun w => w = wsC G cI cL cQ (m_ST_write σ j x1 x2) π rest) 0 0 := by
  generalize hR : m_ST_write σ j x1 x2 = RES
  refine met_of (own := R_ST) (by decide) rfl nwl_ok ?_
  intro p e s m below meth c hC hin hB
  have hx := hC.1
  have hb := hC.2.1
  have hl := lv_entry ([.ref (G 3 j), .int x1, .int x2]) (n := 3) (Nat.le_of_ble_eq_true rfl)
  rw [lg_entry_eq]
  generalize (lg_sl ([.ref (G 3 j), .int x1, .int x2]) ++ List.replicate (3 - (lg_sl ([.ref (G 3 j), .int x1, .int x2])).length) Slot.unset).toArray = ls at hl ⊢
  have hl : lv_has ls 3 [(0, .ref (G 3 j)), (1, .int x1), (2, .int x2)] := hl
  rw [m_ST_write] at hR
  refine lv_iload_n hx hb d_ST_write_0 rfl (lv_at hl 1 rfl) ?_
  refine lv_if_lt (tgt := 14) hx hb d_ST_write_1 (by decide) (fun c_1 => ?_) (fun c_1 => ?_)
  · rw [if_pos c_1] at hR
    subst hR
    exact rv hC hB rfl d_ST_write_14
  · rw [if_neg c_1] at hR
    refine lv_iload_n hx hb d_ST_write_4 rfl (lv_at hl 1 rfl) ?_
    refine lv_aload_n hx hb d_ST_write_5 rfl (lv_at hl 0 rfl) ?_
    refine va_alen hx hb hC.2.2.2.2.2.2.2.1.1 hB.1 _ 0 (lkC_iarr hj) rfl (v := (nI (lnI j))) rfl d_ST_write_6 ?_
    refine lv_icmp_ge (tgt := 14) hx hb d_ST_write_7 (by decide) (fun c_2 => ?_) (fun c_2 => ?_)
    · rw [if_pos c_2] at hR
      subst hR
      exact rv hC hB rfl d_ST_write_14
    · rw [if_neg c_2] at hR
      refine lv_aload_n hx hb d_ST_write_10 rfl (lv_at hl 0 rfl) ?_
      refine lv_iload_n hx hb d_ST_write_11 rfl (lv_at hl 1 rfl) ?_
      refine lv_iload_n hx hb d_ST_write_12 rfl (lv_at hl 2 rfl) ?_
      refine as_i hC hB _ 0 (lkC_iarr hj) rfl (vin (by assumption) (by assumption) (lnI_lt j)) d_ST_write_13 (ws' := wsC G cI cL cQ (zI σ j x1.toNatClampNeg x2) π rest) (setC_iarr hj _ _) (fun H locs hB => ?_)
      subst hR
      exact rv hC hB rfl d_ST_write_14

set_option maxHeartbeats 400000 in
set_option maxRecDepth 100000 in
theorem w_Arrays_fillI_5 {p : Program} {e : Env} {s : State} {m : MethodId} {args : Array Value} {below : List Frame} {meth : Method} {c : Code} {RES : SC} (j : Nat) (hj : j < 7) (π : PJ) (hC : cx D classes (tyL cI cL cQ) NWL ALLW N0 p s m args meth c b_Arrays_fillI 4 (none) R_Arrays) :
    ∀ (n : Nat) (σ : SC) (v1 : Int32) (v2 : Int32) (v3 : Int32), (upI n v3 v2 ∧ v3 = nI (lnI j)) → lp_Arrays_fillI_5 n σ j v1 v2 v3 = RES → ∀ (H : Heap) (locs : List Loc), bd D classes N0 (wsC G cI cL cQ σ π rest) s H locs → ∀ (ls : Array Slot), lv_has ls 4 [(0, .ref (G 3 j)), (1, .int v1), (2, .int v2), (3, .int v3)] → W p l e { frames := 0, cells := 0, slots := 0, locals := 0 } s m args below meth c H locs 0 0 (MQ below (qx D classes N0 (none) (fun w => w = wsC G cI cL cQ RES π rest)) args s 0 0 (ga N0)) (F0 m 5 ls []) := by
  have hx := hC.1
  have hb := hC.2.1
  intro n
  induction n with
  | zero =>
    intro σ v1 v2 v3 hI
    exact absurd hI (fun h => up_zero h.1)
  | succ n ih =>
    intro σ v1 v2 v3 hI hR H locs hB ls hl
    rw [lp_Arrays_fillI_5] at hR
    refine lv_iload_n hx hb d_Arrays_fillI_5 rfl (lv_at hl 2 rfl) ?_
    refine lv_iload_n hx hb d_Arrays_fillI_6 rfl (lv_at hl 3 rfl) ?_
    refine lv_icmp_ge (tgt := 20) hx hb d_Arrays_fillI_7 (by decide) (fun c_1 => ?_) (fun c_1 => ?_)
    · rw [if_pos c_1] at hR
      subst hR
      exact rv hC hB rfl d_Arrays_fillI_20
    · rw [if_neg c_1] at hR
      refine lv_aload_n hx hb d_Arrays_fillI_10 rfl (lv_at hl 0 rfl) ?_
      refine lv_iload_n hx hb d_Arrays_fillI_11 rfl (lv_at hl 2 rfl) ?_
      refine lv_iload_n hx hb d_Arrays_fillI_12 rfl (lv_at hl 1 rfl) ?_
      refine as_i hC hB _ 0 (lkC_iarr hj) rfl (vinU hI.1 hI.2 (by assumption) (lnI_lt j)) d_Arrays_fillI_13 (ws' := wsC G cI cL cQ (zI σ j v2.toNatClampNeg v1) π rest) (setC_iarr hj _ _) (fun H locs hB => ?_)
      refine lv_iinc (v := (v2 + 1)) (lv' := [(2, .int (v2 + 1)), (0, .ref (G 3 j)), (1, .int v1), (3, .int v3)]) hx hb d_Arrays_fillI_14 hl (k := 2) rfl rfl (by decide) rfl (fun ls hl => ?_)
      refine lv_goto (tgt := 5) hx hb d_Arrays_fillI_17 (by decide) ?_
      exact ih (zI σ j v2.toNatClampNeg v1) v1 (v2 + 1) v3 (⟨up_step hI.1 (by assumption), hI.2⟩) hR _ _ hB ls (lv_sub hl [1, 2, 0, 3] rfl)

set_option maxHeartbeats 400000 in
set_option maxRecDepth 100000 in
theorem c_Arrays_fillI (j : Nat) (hj : j < 7) (σ : SC) (π : PJ) (x1 : Int32) : CM l y_Arrays_fillI b_Arrays_fillI 4 (none) { frames := 0, cells := 0, slots := 0, locals := 0 } D (tyL cI cL cQ) N0 [.ref (G 3 j), .int x1] (wsC G cI cL cQ σ π rest) (none) (fun w => w = wsC G cI cL cQ (m_Arrays_fillI σ j x1) π rest) 0 0 := by
  generalize hR : m_Arrays_fillI σ j x1 = RES
  refine met_of (own := R_Arrays) (by decide) rfl nwl_ok ?_
  intro p e s m below meth c hC hin hB
  have hx := hC.1
  have hb := hC.2.1
  have hl := lv_entry ([.ref (G 3 j), .int x1]) (n := 4) (Nat.le_of_ble_eq_true rfl)
  rw [lg_entry_eq]
  generalize (lg_sl ([.ref (G 3 j), .int x1]) ++ List.replicate (4 - (lg_sl ([.ref (G 3 j), .int x1])).length) Slot.unset).toArray = ls at hl ⊢
  have hl : lv_has ls 4 [(0, .ref (G 3 j)), (1, .int x1)] := hl
  rw [m_Arrays_fillI] at hR
  refine lv_iconst (v := 0) hx hb d_Arrays_fillI_0 (by decide) ?_
  refine lv_istore_n (lv' := [(2, .int 0), (0, .ref (G 3 j)), (1, .int x1)]) hx hb d_Arrays_fillI_1 rfl hl (by decide) rfl (fun ls hl => ?_)
  refine lv_aload_n hx hb d_Arrays_fillI_2 rfl (lv_at hl 1 rfl) ?_
  refine va_alen hx hb hC.2.2.2.2.2.2.2.1.1 hB.1 _ 0 (lkC_iarr hj) rfl (v := (nI (lnI j))) rfl d_Arrays_fillI_3 ?_
  refine lv_istore_n (lv' := [(3, .int (nI (lnI j))), (2, .int 0), (0, .ref (G 3 j)), (1, .int x1)]) hx hb d_Arrays_fillI_4 rfl hl (by decide) rfl (fun ls hl => ?_)
  exact w_Arrays_fillI_5 j hj π hC ((nI (lnI j)).toNatClampNeg + 1) σ x1 0 (nI (lnI j)) (⟨up_init _, rfl⟩) hR _ _ hB ls (lv_sub hl [2, 3, 1, 0] rfl)
end SC
end
section
def m_Sheets_sheetCount (σ : SC) : Int32 :=
  (m_Row_at σ 0 0)

def m_Sheets_placementsLeft (σ : SC) : Int32 :=
  (60 - (m_Row_at σ 0 1))

def m_Sheets_isSheet (σ : SC) (x0 : Int32) : Bool :=
  if x0 < 0 then
    false
  else
    if (m_Sheets_sheetCount σ) ≤ x0 then
      false
    else
      true

def m_Sheets_parentOf (σ : SC) (x0 : Int32) : Int32 :=
  (m_Row_at σ 3 x0)

def m_Sheets_isPlacement (σ : SC) (x0 : Int32) : Bool :=
  if (m_Sheets_parentOf σ x0) = (-1) then
    false
  else
    true

def m_Sheets_sheetOf (σ : SC) (x0 : Int32) : Int32 :=
  (m_Row_at σ 2 x0)

def m_Sheets_headOf (σ : SC) (x0 : Int32) : Int32 :=
  (60 + x0)

def m_Sheets_firstOn (σ : SC) (x0 : Int32) : Int32 :=
  (m_Row_at σ 4 (m_Sheets_headOf σ x0))

def m_Sheets_nextOf (σ : SC) (x0 : Int32) : Int32 :=
  (m_Row_at σ 4 x0)

def m_Sheets_tells (σ : SC) (x0 : Int32) (x1 : Int32) : Bool :=
  (m_ST_holdsName (m_Row_at σ 1 x0) x1)

def m_Sheets_jointOf (σ : SC) (x0 : Int32) (x1 : Int32) : Int32 :=
  (m_Row_at σ 5 ((x0 * 32) + x1))

def lp_Sheets_placementsOn_8 : Nat → SC → Int32 → Int32 → Int32 → Int32
  | 0, σ, _, _, _ => 0
  | n + 1, σ, v1, v2, v3 =>
    if v3 = (-1) then
      v2
    else
      if 60 ≤ v2 then
        v2
      else
        lp_Sheets_placementsOn_8 n σ v1 (v2 + 1) (m_Sheets_nextOf σ v3)

def m_Sheets_placementsOn (σ : SC) (x0 : Int32) : Int32 :=
  lp_Sheets_placementsOn_8 ((60 : Int32).toNatClampNeg + 1) σ x0 0 (m_Sheets_firstOn σ x0)

def lp_Sheets_withPlacedOn_4 : Nat → SC → Int32 → Int32 → Int32 → Int32
  | 0, σ, _, _, _ => 0
  | n + 1, σ, v1, v2, v3 =>
    if 60 ≤ v3 then
      v2
    else
      if (bi (m_Sheets_isPlacement σ v3)) = 0 then
        lp_Sheets_withPlacedOn_4 n σ v1 v2 (v3 + 1)
      else
        if (v2 &&& (1 <<< ((m_Sheets_parentOf σ v3) &&& 31))) = 0 then
          lp_Sheets_withPlacedOn_4 n σ v1 v2 (v3 + 1)
        else
          lp_Sheets_withPlacedOn_4 n σ v1 (v2 ||| (1 <<< ((m_Sheets_sheetOf σ v3) &&& 31))) (v3 + 1)

def m_Sheets_withPlacedOn (σ : SC) (x0 : Int32) : Int32 :=
  lp_Sheets_withPlacedOn_4 ((60 : Int32).toNatClampNeg + 1) σ x0 x0 0

def lp_Sheets_holds_10 : Nat → SC → Int32 → Int32 → Int32 → Int32 → Int32 → Bool
  | 0, σ, _, _, _, _, _ => false
  | n + 1, σ, v1, v2, v3, v4, v5 =>
    if 24 ≤ v5 then
      if (v3 &&& (1 <<< (v2 &&& 31))) = 0 then
        false
      else
        true
    else
      if v3 = v4 then
        if (v3 &&& (1 <<< (v2 &&& 31))) = 0 then
          false
        else
          true
      else
        lp_Sheets_holds_10 n σ v1 v2 (m_Sheets_withPlacedOn σ v3) v3 (v5 + 1)

def m_Sheets_holds (σ : SC) (x0 : Int32) (x1 : Int32) : Bool :=
  lp_Sheets_holds_10 ((24 : Int32).toNatClampNeg + 1) σ x0 x1 (1 <<< (x0 &&& 31)) 0 0

def lp_Sheets_cellBefore_9 : Nat → SC → Int32 → Int32 → Int32 → Int32 → Int32
  | 0, σ, _, _, _, _ => 0
  | n + 1, σ, v1, v2, v3, v4 =>
    if 60 ≤ v4 then
      v3
    else
      if (m_Row_at σ 4 v3) = v2 then
        v3
      else
        lp_Sheets_cellBefore_9 n σ v1 v2 (m_Row_at σ 4 v3) (v4 + 1)

def m_Sheets_cellBefore (σ : SC) (x0 : Int32) (x1 : Int32) : Int32 :=
  lp_Sheets_cellBefore_9 ((60 : Int32).toNatClampNeg + 1) σ x0 x1 (m_Sheets_headOf σ x0) 0

section SC
variable {l : Launch} {D : va_G} {N0 : Nat} {G : Nat → Nat → Nat} {cI cL cQ : ClassId} {rest : va_W}
set_option maxHeartbeats 400000 in
set_option maxRecDepth 100000 in
theorem c_Sheets_sheetCount  (σ : SC) (π : PJ)  : CM l y_Sheets_sheetCount b_Sheets_sheetCount 1 (some .int) { frames := 1, cells := 0, slots := 0, locals := 21 } D (tyL cI cL cQ) N0 [.ref (G 0 3)] (wsC G cI cL cQ σ π rest) (some (.int (m_Sheets_sheetCount σ))) (fun w => w = wsC G cI cL cQ σ π rest) 0 0 := by
  generalize hR : m_Sheets_sheetCount σ = RES
  refine met_of (own := R_Sheets) (by decide) rfl nwl_ok ?_
  intro p e s m below meth c hC hin hB
  have hx := hC.1
  have hb := hC.2.1
  have hl := lv_entry ([.ref (G 0 3)]) (n := 1) (Nat.le_of_ble_eq_true rfl)
  rw [lg_entry_eq]
  generalize (lg_sl ([.ref (G 0 3)]) ++ List.replicate (1 - (lg_sl ([.ref (G 0 3)])).length) Slot.unset).toArray = ls at hl ⊢
  have hl : lv_has ls 1 [(0, .ref (G 0 3))] := hl
  rw [m_Sheets_sheetCount] at hR
  refine lv_aload_n hx hb d_Sheets_sheetCount_0 rfl (lv_at hl 0 rfl) ?_
  refine gt hC hB _ lkC_Sheets rfl i_Sheets 0 (by decide) rfl kw_77 rfl d_Sheets_sheetCount_1 ?_
  refine lv_iconst (v := 0) hx hb d_Sheets_sheetCount_4 (by decide) ?_
  refine kV hC hB _ (lkC_row (by decide)) rfl (c_Row_at 0 (by decide) σ π 0) allw_ok mf_Row_at kw_230 kw_231 kw_229 ⟨rfl, rfl, Nat.le_of_ble_eq_true rfl, Nat.le_of_ble_eq_true rfl⟩ rfl rfl hl.1 (Nat.le_of_ble_eq_true rfl) d_Sheets_sheetCount_5 ⟨Nat.le_of_ble_eq_true rfl, Nat.le_of_ble_eq_true rfl⟩ (roK fun H locs hB => ?_)
  subst hR
  exact ri hC hB rfl d_Sheets_sheetCount_8

set_option maxHeartbeats 400000 in
set_option maxRecDepth 100000 in
theorem c_Sheets_placementsLeft  (σ : SC) (π : PJ)  : CM l y_Sheets_placementsLeft b_Sheets_placementsLeft 1 (some .int) { frames := 1, cells := 0, slots := 0, locals := 21 } D (tyL cI cL cQ) N0 [.ref (G 0 3)] (wsC G cI cL cQ σ π rest) (some (.int (m_Sheets_placementsLeft σ))) (fun w => w = wsC G cI cL cQ σ π rest) 0 0 := by
  generalize hR : m_Sheets_placementsLeft σ = RES
  refine met_of (own := R_Sheets) (by decide) rfl nwl_ok ?_
  intro p e s m below meth c hC hin hB
  have hx := hC.1
  have hb := hC.2.1
  have hl := lv_entry ([.ref (G 0 3)]) (n := 1) (Nat.le_of_ble_eq_true rfl)
  rw [lg_entry_eq]
  generalize (lg_sl ([.ref (G 0 3)]) ++ List.replicate (1 - (lg_sl ([.ref (G 0 3)])).length) Slot.unset).toArray = ls at hl ⊢
  have hl : lv_has ls 1 [(0, .ref (G 0 3))] := hl
  rw [m_Sheets_placementsLeft] at hR
  refine lv_bipush (v := 60) hx hb d_Sheets_placementsLeft_0 (by decide) ?_
  refine lv_aload_n hx hb d_Sheets_placementsLeft_2 rfl (lv_at hl 0 rfl) ?_
  refine gt hC hB _ lkC_Sheets rfl i_Sheets 0 (by decide) rfl kw_77 rfl d_Sheets_placementsLeft_3 ?_
  refine lv_iconst (v := 1) hx hb d_Sheets_placementsLeft_6 (by decide) ?_
  refine kV hC hB _ (lkC_row (by decide)) rfl (c_Row_at 0 (by decide) σ π 1) allw_ok mf_Row_at kw_230 kw_231 kw_229 ⟨rfl, rfl, Nat.le_of_ble_eq_true rfl, Nat.le_of_ble_eq_true rfl⟩ rfl rfl hl.1 (Nat.le_of_ble_eq_true rfl) d_Sheets_placementsLeft_7 ⟨Nat.le_of_ble_eq_true rfl, Nat.le_of_ble_eq_true rfl⟩ (roK fun H locs hB => ?_)
  refine lv_isub hx hb d_Sheets_placementsLeft_10 ?_
  subst hR
  exact ri hC hB rfl d_Sheets_placementsLeft_11

set_option maxHeartbeats 400000 in
set_option maxRecDepth 100000 in
theorem c_Sheets_isSheet  (σ : SC) (π : PJ) (x0 : Int32) : CM l y_Sheets_isSheet b_Sheets_isSheet 2 (some .boolean) { frames := 2, cells := 0, slots := 0, locals := 41 } D (tyL cI cL cQ) N0 [.ref (G 0 3), .int x0] (wsC G cI cL cQ σ π rest) (some (.int (bi (m_Sheets_isSheet σ x0)))) (fun w => w = wsC G cI cL cQ σ π rest) 0 0 := by
  generalize hR : m_Sheets_isSheet σ x0 = RES
  refine met_of (own := R_Sheets) (by decide) rfl nwl_ok ?_
  intro p e s m below meth c hC hin hB
  have hx := hC.1
  have hb := hC.2.1
  have hl := lv_entry ([.ref (G 0 3), .int x0]) (n := 2) (Nat.le_of_ble_eq_true rfl)
  rw [lg_entry_eq]
  generalize (lg_sl ([.ref (G 0 3), .int x0]) ++ List.replicate (2 - (lg_sl ([.ref (G 0 3), .int x0])).length) Slot.unset).toArray = ls at hl ⊢
  have hl : lv_has ls 2 [(0, .ref (G 0 3)), (1, .int x0)] := hl
  rw [m_Sheets_isSheet] at hR
  refine lv_iload_n hx hb d_Sheets_isSheet_0 rfl (lv_at hl 1 rfl) ?_
  refine lv_if_lt (tgt := 16) hx hb d_Sheets_isSheet_1 (by decide) (fun c_1 => ?_) (fun c_1 => ?_)
  · rw [if_pos c_1] at hR
    refine lv_iconst (v := 0) hx hb d_Sheets_isSheet_16 (by decide) ?_
    subst hR
    exact rz (b := false) hC hB rfl d_Sheets_isSheet_17
  · rw [if_neg c_1] at hR
    refine lv_iload_n hx hb d_Sheets_isSheet_4 rfl (lv_at hl 1 rfl) ?_
    refine lv_aload_n hx hb d_Sheets_isSheet_5 rfl (lv_at hl 0 rfl) ?_
    refine kV hC hB _ lkC_Sheets rfl (c_Sheets_sheetCount σ π) allw_ok mf_Sheets_sheetCount kw_280 kw_281 kw_287 ⟨rfl, rfl, Nat.le_of_ble_eq_true rfl, Nat.le_of_ble_eq_true rfl⟩ rfl rfl hl.1 (Nat.le_of_ble_eq_true rfl) d_Sheets_isSheet_6 ⟨Nat.le_of_ble_eq_true rfl, Nat.le_of_ble_eq_true rfl⟩ (roK fun H locs hB => ?_)
    refine lv_icmp_ge (tgt := 16) hx hb d_Sheets_isSheet_9 (by decide) (fun c_2 => ?_) (fun c_2 => ?_)
    · rw [if_pos c_2] at hR
      refine lv_iconst (v := 0) hx hb d_Sheets_isSheet_16 (by decide) ?_
      subst hR
      exact rz (b := false) hC hB rfl d_Sheets_isSheet_17
    · rw [if_neg c_2] at hR
      refine lv_iconst (v := 1) hx hb d_Sheets_isSheet_12 (by decide) ?_
      refine lv_goto (tgt := 17) hx hb d_Sheets_isSheet_13 (by decide) ?_
      subst hR
      exact rz (b := true) hC hB rfl d_Sheets_isSheet_17

set_option maxHeartbeats 400000 in
set_option maxRecDepth 100000 in
theorem c_Sheets_parentOf  (σ : SC) (π : PJ) (x0 : Int32) : CM l y_Sheets_parentOf b_Sheets_parentOf 2 (some .int) { frames := 1, cells := 0, slots := 0, locals := 21 } D (tyL cI cL cQ) N0 [.ref (G 0 3), .int x0] (wsC G cI cL cQ σ π rest) (some (.int (m_Sheets_parentOf σ x0))) (fun w => w = wsC G cI cL cQ σ π rest) 0 0 := by
  generalize hR : m_Sheets_parentOf σ x0 = RES
  refine met_of (own := R_Sheets) (by decide) rfl nwl_ok ?_
  intro p e s m below meth c hC hin hB
  have hx := hC.1
  have hb := hC.2.1
  have hl := lv_entry ([.ref (G 0 3), .int x0]) (n := 2) (Nat.le_of_ble_eq_true rfl)
  rw [lg_entry_eq]
  generalize (lg_sl ([.ref (G 0 3), .int x0]) ++ List.replicate (2 - (lg_sl ([.ref (G 0 3), .int x0])).length) Slot.unset).toArray = ls at hl ⊢
  have hl : lv_has ls 2 [(0, .ref (G 0 3)), (1, .int x0)] := hl
  rw [m_Sheets_parentOf] at hR
  refine lv_aload_n hx hb d_Sheets_parentOf_0 rfl (lv_at hl 0 rfl) ?_
  refine gt hC hB _ lkC_Sheets rfl i_Sheets 3 (by decide) rfl kw_80 rfl d_Sheets_parentOf_1 ?_
  refine lv_iload_n hx hb d_Sheets_parentOf_4 rfl (lv_at hl 1 rfl) ?_
  refine kV hC hB _ (lkC_row (by decide)) rfl (c_Row_at 3 (by decide) σ π x0) allw_ok mf_Row_at kw_230 kw_231 kw_229 ⟨rfl, rfl, Nat.le_of_ble_eq_true rfl, Nat.le_of_ble_eq_true rfl⟩ rfl rfl hl.1 (Nat.le_of_ble_eq_true rfl) d_Sheets_parentOf_5 ⟨Nat.le_of_ble_eq_true rfl, Nat.le_of_ble_eq_true rfl⟩ (roK fun H locs hB => ?_)
  subst hR
  exact ri hC hB rfl d_Sheets_parentOf_8

set_option maxHeartbeats 400000 in
set_option maxRecDepth 100000 in
theorem c_Sheets_isPlacement  (σ : SC) (π : PJ) (x0 : Int32) : CM l y_Sheets_isPlacement b_Sheets_isPlacement 2 (some .boolean) { frames := 2, cells := 0, slots := 0, locals := 42 } D (tyL cI cL cQ) N0 [.ref (G 0 3), .int x0] (wsC G cI cL cQ σ π rest) (some (.int (bi (m_Sheets_isPlacement σ x0)))) (fun w => w = wsC G cI cL cQ σ π rest) 0 0 := by
  generalize hR : m_Sheets_isPlacement σ x0 = RES
  refine met_of (own := R_Sheets) (by decide) rfl nwl_ok ?_
  intro p e s m below meth c hC hin hB
  have hx := hC.1
  have hb := hC.2.1
  have hl := lv_entry ([.ref (G 0 3), .int x0]) (n := 2) (Nat.le_of_ble_eq_true rfl)
  rw [lg_entry_eq]
  generalize (lg_sl ([.ref (G 0 3), .int x0]) ++ List.replicate (2 - (lg_sl ([.ref (G 0 3), .int x0])).length) Slot.unset).toArray = ls at hl ⊢
  have hl : lv_has ls 2 [(0, .ref (G 0 3)), (1, .int x0)] := hl
  rw [m_Sheets_isPlacement] at hR
  refine lv_aload_n hx hb d_Sheets_isPlacement_0 rfl (lv_at hl 0 rfl) ?_
  refine lv_iload_n hx hb d_Sheets_isPlacement_1 rfl (lv_at hl 1 rfl) ?_
  refine kV hC hB _ lkC_Sheets rfl (c_Sheets_parentOf σ π x0) allw_ok mf_Sheets_parentOf kw_468 kw_469 kw_467 ⟨rfl, rfl, Nat.le_of_ble_eq_true rfl, Nat.le_of_ble_eq_true rfl⟩ rfl rfl hl.1 (Nat.le_of_ble_eq_true rfl) d_Sheets_isPlacement_2 ⟨Nat.le_of_ble_eq_true rfl, Nat.le_of_ble_eq_true rfl⟩ (roK fun H locs hB => ?_)
  refine lv_iconst (v := (-1)) hx hb d_Sheets_isPlacement_5 (by decide) ?_
  refine lv_icmp_eq (tgt := 13) hx hb d_Sheets_isPlacement_6 (by decide) (fun c_1 => ?_) (fun c_1 => ?_)
  · rw [if_pos c_1] at hR
    refine lv_iconst (v := 0) hx hb d_Sheets_isPlacement_13 (by decide) ?_
    subst hR
    exact rz (b := false) hC hB rfl d_Sheets_isPlacement_14
  · rw [if_neg c_1] at hR
    refine lv_iconst (v := 1) hx hb d_Sheets_isPlacement_9 (by decide) ?_
    refine lv_goto (tgt := 14) hx hb d_Sheets_isPlacement_10 (by decide) ?_
    subst hR
    exact rz (b := true) hC hB rfl d_Sheets_isPlacement_14

set_option maxHeartbeats 400000 in
set_option maxRecDepth 100000 in
theorem c_Sheets_sheetOf  (σ : SC) (π : PJ) (x0 : Int32) : CM l y_Sheets_sheetOf b_Sheets_sheetOf 2 (some .int) { frames := 1, cells := 0, slots := 0, locals := 21 } D (tyL cI cL cQ) N0 [.ref (G 0 3), .int x0] (wsC G cI cL cQ σ π rest) (some (.int (m_Sheets_sheetOf σ x0))) (fun w => w = wsC G cI cL cQ σ π rest) 0 0 := by
  generalize hR : m_Sheets_sheetOf σ x0 = RES
  refine met_of (own := R_Sheets) (by decide) rfl nwl_ok ?_
  intro p e s m below meth c hC hin hB
  have hx := hC.1
  have hb := hC.2.1
  have hl := lv_entry ([.ref (G 0 3), .int x0]) (n := 2) (Nat.le_of_ble_eq_true rfl)
  rw [lg_entry_eq]
  generalize (lg_sl ([.ref (G 0 3), .int x0]) ++ List.replicate (2 - (lg_sl ([.ref (G 0 3), .int x0])).length) Slot.unset).toArray = ls at hl ⊢
  have hl : lv_has ls 2 [(0, .ref (G 0 3)), (1, .int x0)] := hl
  rw [m_Sheets_sheetOf] at hR
  refine lv_aload_n hx hb d_Sheets_sheetOf_0 rfl (lv_at hl 0 rfl) ?_
  refine gt hC hB _ lkC_Sheets rfl i_Sheets 2 (by decide) rfl kw_79 rfl d_Sheets_sheetOf_1 ?_
  refine lv_iload_n hx hb d_Sheets_sheetOf_4 rfl (lv_at hl 1 rfl) ?_
  refine kV hC hB _ (lkC_row (by decide)) rfl (c_Row_at 2 (by decide) σ π x0) allw_ok mf_Row_at kw_230 kw_231 kw_229 ⟨rfl, rfl, Nat.le_of_ble_eq_true rfl, Nat.le_of_ble_eq_true rfl⟩ rfl rfl hl.1 (Nat.le_of_ble_eq_true rfl) d_Sheets_sheetOf_5 ⟨Nat.le_of_ble_eq_true rfl, Nat.le_of_ble_eq_true rfl⟩ (roK fun H locs hB => ?_)
  subst hR
  exact ri hC hB rfl d_Sheets_sheetOf_8

set_option maxHeartbeats 400000 in
set_option maxRecDepth 100000 in
theorem c_Sheets_headOf  (σ : SC) (π : PJ) (x0 : Int32) : CM l y_Sheets_headOf b_Sheets_headOf 2 (some .int) { frames := 0, cells := 0, slots := 0, locals := 0 } D (tyL cI cL cQ) N0 [.ref (G 0 3), .int x0] (wsC G cI cL cQ σ π rest) (some (.int (m_Sheets_headOf σ x0))) (fun w => w = wsC G cI cL cQ σ π rest) 0 0 := by
  generalize hR : m_Sheets_headOf σ x0 = RES
  refine met_of (own := R_Sheets) (by decide) rfl nwl_ok ?_
  intro p e s m below meth c hC hin hB
  have hx := hC.1
  have hb := hC.2.1
  have hl := lv_entry ([.ref (G 0 3), .int x0]) (n := 2) (Nat.le_of_ble_eq_true rfl)
  rw [lg_entry_eq]
  generalize (lg_sl ([.ref (G 0 3), .int x0]) ++ List.replicate (2 - (lg_sl ([.ref (G 0 3), .int x0])).length) Slot.unset).toArray = ls at hl ⊢
  have hl : lv_has ls 2 [(0, .ref (G 0 3)), (1, .int x0)] := hl
  rw [m_Sheets_headOf] at hR
  refine lv_bipush (v := 60) hx hb d_Sheets_headOf_0 (by decide) ?_
  refine lv_iload_n hx hb d_Sheets_headOf_2 rfl (lv_at hl 1 rfl) ?_
  refine lv_iadd hx hb d_Sheets_headOf_3 ?_
  subst hR
  exact ri hC hB rfl d_Sheets_headOf_4

set_option maxHeartbeats 400000 in
set_option maxRecDepth 100000 in
theorem c_Sheets_firstOn  (σ : SC) (π : PJ) (x0 : Int32) : CM l y_Sheets_firstOn b_Sheets_firstOn 2 (some .int) { frames := 1, cells := 0, slots := 0, locals := 21 } D (tyL cI cL cQ) N0 [.ref (G 0 3), .int x0] (wsC G cI cL cQ σ π rest) (some (.int (m_Sheets_firstOn σ x0))) (fun w => w = wsC G cI cL cQ σ π rest) 0 0 := by
  generalize hR : m_Sheets_firstOn σ x0 = RES
  refine met_of (own := R_Sheets) (by decide) rfl nwl_ok ?_
  intro p e s m below meth c hC hin hB
  have hx := hC.1
  have hb := hC.2.1
  have hl := lv_entry ([.ref (G 0 3), .int x0]) (n := 2) (Nat.le_of_ble_eq_true rfl)
  rw [lg_entry_eq]
  generalize (lg_sl ([.ref (G 0 3), .int x0]) ++ List.replicate (2 - (lg_sl ([.ref (G 0 3), .int x0])).length) Slot.unset).toArray = ls at hl ⊢
  have hl : lv_has ls 2 [(0, .ref (G 0 3)), (1, .int x0)] := hl
  rw [m_Sheets_firstOn] at hR
  refine lv_aload_n hx hb d_Sheets_firstOn_0 rfl (lv_at hl 0 rfl) ?_
  refine gt hC hB _ lkC_Sheets rfl i_Sheets 4 (by decide) rfl kw_81 rfl d_Sheets_firstOn_1 ?_
  refine lv_aload_n hx hb d_Sheets_firstOn_4 rfl (lv_at hl 0 rfl) ?_
  refine lv_iload_n hx hb d_Sheets_firstOn_5 rfl (lv_at hl 1 rfl) ?_
  refine kV hC hB _ lkC_Sheets rfl (c_Sheets_headOf σ π x0) allw_ok mf_Sheets_headOf kw_227 ks_1 kw_225 ⟨rfl, rfl, Nat.le_of_ble_eq_true rfl, Nat.le_of_ble_eq_true rfl⟩ rfl rfl hl.1 (Nat.le_of_ble_eq_true rfl) d_Sheets_firstOn_6 ⟨Nat.le_of_ble_eq_true rfl, Nat.le_of_ble_eq_true rfl⟩ (roK fun H locs hB => ?_)
  refine kV hC hB _ (lkC_row (by decide)) rfl (c_Row_at 4 (by decide) σ π (m_Sheets_headOf σ x0)) allw_ok mf_Row_at kw_230 kw_231 kw_229 ⟨rfl, rfl, Nat.le_of_ble_eq_true rfl, Nat.le_of_ble_eq_true rfl⟩ rfl rfl hl.1 (Nat.le_of_ble_eq_true rfl) d_Sheets_firstOn_9 ⟨Nat.le_of_ble_eq_true rfl, Nat.le_of_ble_eq_true rfl⟩ (roK fun H locs hB => ?_)
  subst hR
  exact ri hC hB rfl d_Sheets_firstOn_12

set_option maxHeartbeats 400000 in
set_option maxRecDepth 100000 in
theorem c_Sheets_nextOf  (σ : SC) (π : PJ) (x0 : Int32) : CM l y_Sheets_nextOf b_Sheets_nextOf 2 (some .int) { frames := 1, cells := 0, slots := 0, locals := 21 } D (tyL cI cL cQ) N0 [.ref (G 0 3), .int x0] (wsC G cI cL cQ σ π rest) (some (.int (m_Sheets_nextOf σ x0))) (fun w => w = wsC G cI cL cQ σ π rest) 0 0 := by
  generalize hR : m_Sheets_nextOf σ x0 = RES
  refine met_of (own := R_Sheets) (by decide) rfl nwl_ok ?_
  intro p e s m below meth c hC hin hB
  have hx := hC.1
  have hb := hC.2.1
  have hl := lv_entry ([.ref (G 0 3), .int x0]) (n := 2) (Nat.le_of_ble_eq_true rfl)
  rw [lg_entry_eq]
  generalize (lg_sl ([.ref (G 0 3), .int x0]) ++ List.replicate (2 - (lg_sl ([.ref (G 0 3), .int x0])).length) Slot.unset).toArray = ls at hl ⊢
  have hl : lv_has ls 2 [(0, .ref (G 0 3)), (1, .int x0)] := hl
  rw [m_Sheets_nextOf] at hR
  refine lv_aload_n hx hb d_Sheets_nextOf_0 rfl (lv_at hl 0 rfl) ?_
  refine gt hC hB _ lkC_Sheets rfl i_Sheets 4 (by decide) rfl kw_81 rfl d_Sheets_nextOf_1 ?_
  refine lv_iload_n hx hb d_Sheets_nextOf_4 rfl (lv_at hl 1 rfl) ?_
  refine kV hC hB _ (lkC_row (by decide)) rfl (c_Row_at 4 (by decide) σ π x0) allw_ok mf_Row_at kw_230 kw_231 kw_229 ⟨rfl, rfl, Nat.le_of_ble_eq_true rfl, Nat.le_of_ble_eq_true rfl⟩ rfl rfl hl.1 (Nat.le_of_ble_eq_true rfl) d_Sheets_nextOf_5 ⟨Nat.le_of_ble_eq_true rfl, Nat.le_of_ble_eq_true rfl⟩ (roK fun H locs hB => ?_)
  subst hR
  exact ri hC hB rfl d_Sheets_nextOf_8

set_option maxHeartbeats 400000 in
set_option maxRecDepth 100000 in
theorem c_Sheets_tells  (σ : SC) (π : PJ) (x0 : Int32) (x1 : Int32) : CM l y_Sheets_tells b_Sheets_tells 3 (some .boolean) { frames := 1, cells := 0, slots := 0, locals := 21 } D (tyL cI cL cQ) N0 [.ref (G 0 3), .int x0, .int x1] (wsC G cI cL cQ σ π rest) (some (.int (bi (m_Sheets_tells σ x0 x1)))) (fun w => w = wsC G cI cL cQ σ π rest) 0 0 := by
  generalize hR : m_Sheets_tells σ x0 x1 = RES
  refine met_of (own := R_Sheets) (by decide) rfl nwl_ok ?_
  intro p e s m below meth c hC hin hB
  have hx := hC.1
  have hb := hC.2.1
  have hl := lv_entry ([.ref (G 0 3), .int x0, .int x1]) (n := 3) (Nat.le_of_ble_eq_true rfl)
  rw [lg_entry_eq]
  generalize (lg_sl ([.ref (G 0 3), .int x0, .int x1]) ++ List.replicate (3 - (lg_sl ([.ref (G 0 3), .int x0, .int x1])).length) Slot.unset).toArray = ls at hl ⊢
  have hl : lv_has ls 3 [(0, .ref (G 0 3)), (1, .int x0), (2, .int x1)] := hl
  rw [m_Sheets_tells] at hR
  refine lv_aload_n hx hb d_Sheets_tells_0 rfl (lv_at hl 0 rfl) ?_
  refine gt hC hB _ lkC_Sheets rfl i_Sheets 1 (by decide) rfl kw_78 rfl d_Sheets_tells_1 ?_
  refine lv_iload_n hx hb d_Sheets_tells_4 rfl (lv_at hl 1 rfl) ?_
  refine kV hC hB _ (lkC_row (by decide)) rfl (c_Row_at 1 (by decide) σ π x0) allw_ok mf_Row_at kw_230 kw_231 kw_229 ⟨rfl, rfl, Nat.le_of_ble_eq_true rfl, Nat.le_of_ble_eq_true rfl⟩ rfl rfl hl.1 (Nat.le_of_ble_eq_true rfl) d_Sheets_tells_5 ⟨Nat.le_of_ble_eq_true rfl, Nat.le_of_ble_eq_true rfl⟩ (roK fun H locs hB => ?_)
  refine lv_iload_n hx hb d_Sheets_tells_8 rfl (lv_at hl 2 rfl) ?_
  refine kSN hC hB (c_ST_holdsName σ π (m_Row_at σ 1 x0) x1) allw_ok mf_ST_holdsName kw_337 nw_4 ⟨rfl, rfl, Nat.le_of_ble_eq_true rfl, Nat.le_of_ble_eq_true rfl⟩ rfl rfl hl.1 (Nat.le_of_ble_eq_true rfl) d_Sheets_tells_9 ⟨Nat.le_of_ble_eq_true rfl, Nat.le_of_ble_eq_true rfl⟩ (roK fun H locs hB => ?_)
  subst hR
  exact rz (b := (m_ST_holdsName (m_Row_at σ 1 x0) x1)) hC hB rfl d_Sheets_tells_12

set_option maxHeartbeats 400000 in
set_option maxRecDepth 100000 in
theorem c_Sheets_jointOf  (σ : SC) (π : PJ) (x0 : Int32) (x1 : Int32) : CM l y_Sheets_jointOf b_Sheets_jointOf 3 (some .int) { frames := 1, cells := 0, slots := 0, locals := 21 } D (tyL cI cL cQ) N0 [.ref (G 0 3), .int x0, .int x1] (wsC G cI cL cQ σ π rest) (some (.int (m_Sheets_jointOf σ x0 x1))) (fun w => w = wsC G cI cL cQ σ π rest) 0 0 := by
  generalize hR : m_Sheets_jointOf σ x0 x1 = RES
  refine met_of (own := R_Sheets) (by decide) rfl nwl_ok ?_
  intro p e s m below meth c hC hin hB
  have hx := hC.1
  have hb := hC.2.1
  have hl := lv_entry ([.ref (G 0 3), .int x0, .int x1]) (n := 3) (Nat.le_of_ble_eq_true rfl)
  rw [lg_entry_eq]
  generalize (lg_sl ([.ref (G 0 3), .int x0, .int x1]) ++ List.replicate (3 - (lg_sl ([.ref (G 0 3), .int x0, .int x1])).length) Slot.unset).toArray = ls at hl ⊢
  have hl : lv_has ls 3 [(0, .ref (G 0 3)), (1, .int x0), (2, .int x1)] := hl
  rw [m_Sheets_jointOf] at hR
  refine lv_aload_n hx hb d_Sheets_jointOf_0 rfl (lv_at hl 0 rfl) ?_
  refine gt hC hB _ lkC_Sheets rfl i_Sheets 5 (by decide) rfl kw_82 rfl d_Sheets_jointOf_1 ?_
  refine lv_iload_n hx hb d_Sheets_jointOf_4 rfl (lv_at hl 1 rfl) ?_
  refine lv_bipush (v := 32) hx hb d_Sheets_jointOf_5 (by decide) ?_
  refine lv_imul hx hb d_Sheets_jointOf_7 ?_
  refine lv_iload_n hx hb d_Sheets_jointOf_8 rfl (lv_at hl 2 rfl) ?_
  refine lv_iadd hx hb d_Sheets_jointOf_9 ?_
  refine kV hC hB _ (lkC_row (by decide)) rfl (c_Row_at 5 (by decide) σ π ((x0 * 32) + x1)) allw_ok mf_Row_at kw_230 kw_231 kw_229 ⟨rfl, rfl, Nat.le_of_ble_eq_true rfl, Nat.le_of_ble_eq_true rfl⟩ rfl rfl hl.1 (Nat.le_of_ble_eq_true rfl) d_Sheets_jointOf_10 ⟨Nat.le_of_ble_eq_true rfl, Nat.le_of_ble_eq_true rfl⟩ (roK fun H locs hB => ?_)
  subst hR
  exact ri hC hB rfl d_Sheets_jointOf_13

set_option maxHeartbeats 400000 in
set_option maxRecDepth 100000 in
theorem w_Sheets_placementsOn_8 {p : Program} {e : Env} {s : State} {m : MethodId} {args : Array Value} {below : List Frame} {meth : Method} {c : Code} {RES : Int32}  (σ : SC) (π : PJ) (hC : cx D classes (tyL cI cL cQ) NWL ALLW N0 p s m args meth c b_Sheets_placementsOn 4 (some .int) R_Sheets) :
    ∀ (n : Nat) (v1 : Int32) (v2 : Int32) (v3 : Int32), upI n (60 : Int32) v2 → lp_Sheets_placementsOn_8 n σ  v1 v2 v3 = RES → ∀ (H : Heap) (locs : List Loc), bd D classes N0 (wsC G cI cL cQ σ π rest) s H locs → ∀ (ls : Array Slot), lv_has ls 4 [(0, .ref (G 0 3)), (1, .int v1), (2, .int v2), (3, .int v3)] → W p l e { frames := 2, cells := 0, slots := 0, locals := 42 } s m args below meth c H locs 0 0 (MQ below (qx D classes N0 (some (.int RES)) (fun w => w = wsC G cI cL cQ σ π rest)) args s 0 0 (ga N0)) (F0 m 8 ls []) := by
  have hx := hC.1
  have hb := hC.2.1
  intro n
  induction n with
  | zero =>
    intro v1 v2 v3 hI
    exact absurd hI up_zero
  | succ n ih =>
    intro v1 v2 v3 hI hR H locs hB ls hl
    rw [lp_Sheets_placementsOn_8] at hR
    refine lv_iload_n hx hb d_Sheets_placementsOn_8 rfl (lv_at hl 3 rfl) ?_
    refine lv_iconst (v := (-1)) hx hb d_Sheets_placementsOn_9 (by decide) ?_
    refine lv_icmp_eq (tgt := 31) hx hb d_Sheets_placementsOn_10 (by decide) (fun c_1 => ?_) (fun c_1 => ?_)
    · rw [if_pos c_1] at hR
      refine lv_iload_n hx hb d_Sheets_placementsOn_31 rfl (lv_at hl 2 rfl) ?_
      subst hR
      exact ri hC hB rfl d_Sheets_placementsOn_32
    · rw [if_neg c_1] at hR
      refine lv_iload_n hx hb d_Sheets_placementsOn_13 rfl (lv_at hl 2 rfl) ?_
      refine lv_bipush (v := 60) hx hb d_Sheets_placementsOn_14 (by decide) ?_
      refine lv_icmp_ge (tgt := 31) hx hb d_Sheets_placementsOn_16 (by decide) (fun c_2 => ?_) (fun c_2 => ?_)
      · rw [if_pos c_2] at hR
        refine lv_iload_n hx hb d_Sheets_placementsOn_31 rfl (lv_at hl 2 rfl) ?_
        subst hR
        exact ri hC hB rfl d_Sheets_placementsOn_32
      · rw [if_neg c_2] at hR
        refine lv_iinc (v := (v2 + 1)) (lv' := [(2, .int (v2 + 1)), (0, .ref (G 0 3)), (1, .int v1), (3, .int v3)]) hx hb d_Sheets_placementsOn_19 hl (k := 2) rfl rfl (by decide) rfl (fun ls hl => ?_)
        refine lv_aload_n hx hb d_Sheets_placementsOn_22 rfl (lv_at hl 1 rfl) ?_
        refine lv_iload_n hx hb d_Sheets_placementsOn_23 rfl (lv_at hl 3 rfl) ?_
        refine kV hC hB _ lkC_Sheets rfl (c_Sheets_nextOf σ π v3) allw_ok mf_Sheets_nextOf kw_238 kw_239 kw_514 ⟨rfl, rfl, Nat.le_of_ble_eq_true rfl, Nat.le_of_ble_eq_true rfl⟩ rfl rfl hl.1 (Nat.le_of_ble_eq_true rfl) d_Sheets_placementsOn_24 ⟨Nat.le_of_ble_eq_true rfl, Nat.le_of_ble_eq_true rfl⟩ (roK fun H locs hB => ?_)
        refine lv_istore_n (lv' := [(3, .int (m_Sheets_nextOf σ v3)), (2, .int (v2 + 1)), (0, .ref (G 0 3)), (1, .int v1)]) hx hb d_Sheets_placementsOn_27 rfl hl (by decide) rfl (fun ls hl => ?_)
        refine lv_goto (tgt := 8) hx hb d_Sheets_placementsOn_28 (by decide) ?_
        exact ih v1 (v2 + 1) (m_Sheets_nextOf σ v3) (up_step hI (by assumption)) hR _ _ hB ls (lv_sub hl [2, 3, 1, 0] rfl)

set_option maxHeartbeats 400000 in
set_option maxRecDepth 100000 in
theorem c_Sheets_placementsOn  (σ : SC) (π : PJ) (x0 : Int32) : CM l y_Sheets_placementsOn b_Sheets_placementsOn 4 (some .int) { frames := 2, cells := 0, slots := 0, locals := 42 } D (tyL cI cL cQ) N0 [.ref (G 0 3), .int x0] (wsC G cI cL cQ σ π rest) (some (.int (m_Sheets_placementsOn σ x0))) (fun w => w = wsC G cI cL cQ σ π rest) 0 0 := by
  generalize hR : m_Sheets_placementsOn σ x0 = RES
  refine met_of (own := R_Sheets) (by decide) rfl nwl_ok ?_
  intro p e s m below meth c hC hin hB
  have hx := hC.1
  have hb := hC.2.1
  have hl := lv_entry ([.ref (G 0 3), .int x0]) (n := 4) (Nat.le_of_ble_eq_true rfl)
  rw [lg_entry_eq]
  generalize (lg_sl ([.ref (G 0 3), .int x0]) ++ List.replicate (4 - (lg_sl ([.ref (G 0 3), .int x0])).length) Slot.unset).toArray = ls at hl ⊢
  have hl : lv_has ls 4 [(0, .ref (G 0 3)), (1, .int x0)] := hl
  rw [m_Sheets_placementsOn] at hR
  refine lv_iconst (v := 0) hx hb d_Sheets_placementsOn_0 (by decide) ?_
  refine lv_istore_n (lv' := [(2, .int 0), (0, .ref (G 0 3)), (1, .int x0)]) hx hb d_Sheets_placementsOn_1 rfl hl (by decide) rfl (fun ls hl => ?_)
  refine lv_aload_n hx hb d_Sheets_placementsOn_2 rfl (lv_at hl 1 rfl) ?_
  refine lv_iload_n hx hb d_Sheets_placementsOn_3 rfl (lv_at hl 2 rfl) ?_
  refine kV hC hB _ lkC_Sheets rfl (c_Sheets_firstOn σ π x0) allw_ok mf_Sheets_firstOn kw_222 kw_223 kw_657 ⟨rfl, rfl, Nat.le_of_ble_eq_true rfl, Nat.le_of_ble_eq_true rfl⟩ rfl rfl hl.1 (Nat.le_of_ble_eq_true rfl) d_Sheets_placementsOn_4 ⟨Nat.le_of_ble_eq_true rfl, Nat.le_of_ble_eq_true rfl⟩ (roK fun H locs hB => ?_)
  refine lv_istore_n (lv' := [(3, .int (m_Sheets_firstOn σ x0)), (2, .int 0), (0, .ref (G 0 3)), (1, .int x0)]) hx hb d_Sheets_placementsOn_7 rfl hl (by decide) rfl (fun ls hl => ?_)
  exact w_Sheets_placementsOn_8  σ π hC ((60 : Int32).toNatClampNeg + 1) x0 0 (m_Sheets_firstOn σ x0) (up_init _) hR _ _ hB ls (lv_sub hl [2, 3, 1, 0] rfl)

set_option maxHeartbeats 400000 in
set_option maxRecDepth 100000 in
theorem w_Sheets_withPlacedOn_4 {p : Program} {e : Env} {s : State} {m : MethodId} {args : Array Value} {below : List Frame} {meth : Method} {c : Code} {RES : Int32}  (σ : SC) (π : PJ) (hC : cx D classes (tyL cI cL cQ) NWL ALLW N0 p s m args meth c b_Sheets_withPlacedOn 4 (some .int) R_Sheets) :
    ∀ (n : Nat) (v1 : Int32) (v2 : Int32) (v3 : Int32), upI n (60 : Int32) v3 → lp_Sheets_withPlacedOn_4 n σ  v1 v2 v3 = RES → ∀ (H : Heap) (locs : List Loc), bd D classes N0 (wsC G cI cL cQ σ π rest) s H locs → ∀ (ls : Array Slot), lv_has ls 4 [(0, .ref (G 0 3)), (1, .int v1), (2, .int v2), (3, .int v3)] → W p l e { frames := 3, cells := 0, slots := 0, locals := 63 } s m args below meth c H locs 0 0 (MQ below (qx D classes N0 (some (.int RES)) (fun w => w = wsC G cI cL cQ σ π rest)) args s 0 0 (ga N0)) (F0 m 4 ls []) := by
  have hx := hC.1
  have hb := hC.2.1
  intro n
  induction n with
  | zero =>
    intro v1 v2 v3 hI
    exact absurd hI up_zero
  | succ n ih =>
    intro v1 v2 v3 hI hR H locs hB ls hl
    rw [lp_Sheets_withPlacedOn_4] at hR
    refine lv_iload_n hx hb d_Sheets_withPlacedOn_4 rfl (lv_at hl 3 rfl) ?_
    refine lv_bipush (v := 60) hx hb d_Sheets_withPlacedOn_5 (by decide) ?_
    refine lv_icmp_ge (tgt := 46) hx hb d_Sheets_withPlacedOn_7 (by decide) (fun c_1 => ?_) (fun c_1 => ?_)
    · rw [if_pos c_1] at hR
      refine lv_iload_n hx hb d_Sheets_withPlacedOn_46 rfl (lv_at hl 2 rfl) ?_
      subst hR
      exact ri hC hB rfl d_Sheets_withPlacedOn_47
    · rw [if_neg c_1] at hR
      refine lv_aload_n hx hb d_Sheets_withPlacedOn_10 rfl (lv_at hl 0 rfl) ?_
      refine lv_iload_n hx hb d_Sheets_withPlacedOn_11 rfl (lv_at hl 3 rfl) ?_
      refine kV hC hB _ lkC_Sheets rfl (c_Sheets_isPlacement σ π v3) allw_ok mf_Sheets_isPlacement kw_464 kw_465 kw_463 ⟨rfl, rfl, Nat.le_of_ble_eq_true rfl, Nat.le_of_ble_eq_true rfl⟩ rfl rfl hl.1 (Nat.le_of_ble_eq_true rfl) d_Sheets_withPlacedOn_12 ⟨Nat.le_of_ble_eq_true rfl, Nat.le_of_ble_eq_true rfl⟩ (roK fun H locs hB => ?_)
      refine lv_if_eq (tgt := 40) hx hb d_Sheets_withPlacedOn_15 (by decide) (fun c_2 => ?_) (fun c_2 => ?_)
      · rw [if_pos c_2] at hR
        refine lv_iinc (v := (v3 + 1)) (lv' := [(3, .int (v3 + 1)), (0, .ref (G 0 3)), (1, .int v1), (2, .int v2)]) hx hb d_Sheets_withPlacedOn_40 hl (k := 3) rfl rfl (by decide) rfl (fun ls hl => ?_)
        refine lv_goto (tgt := 4) hx hb d_Sheets_withPlacedOn_43 (by decide) ?_
        exact ih v1 v2 (v3 + 1) (up_step hI (by assumption)) hR _ _ hB ls (lv_sub hl [1, 2, 3, 0] rfl)
      · rw [if_neg c_2] at hR
        refine lv_iload_n hx hb d_Sheets_withPlacedOn_18 rfl (lv_at hl 2 rfl) ?_
        refine lv_iconst (v := 1) hx hb d_Sheets_withPlacedOn_19 (by decide) ?_
        refine lv_aload_n hx hb d_Sheets_withPlacedOn_20 rfl (lv_at hl 0 rfl) ?_
        refine lv_iload_n hx hb d_Sheets_withPlacedOn_21 rfl (lv_at hl 3 rfl) ?_
        refine kV hC hB _ lkC_Sheets rfl (c_Sheets_parentOf σ π v3) allw_ok mf_Sheets_parentOf kw_468 kw_469 kw_467 ⟨rfl, rfl, Nat.le_of_ble_eq_true rfl, Nat.le_of_ble_eq_true rfl⟩ rfl rfl hl.1 (Nat.le_of_ble_eq_true rfl) d_Sheets_withPlacedOn_22 ⟨Nat.le_of_ble_eq_true rfl, Nat.le_of_ble_eq_true rfl⟩ (roK fun H locs hB => ?_)
        refine lv_ishl hx hb d_Sheets_withPlacedOn_25 ?_
        refine lv_iand hx hb d_Sheets_withPlacedOn_26 ?_
        refine lv_if_eq (tgt := 40) hx hb d_Sheets_withPlacedOn_27 (by decide) (fun c_3 => ?_) (fun c_3 => ?_)
        · rw [if_pos c_3] at hR
          refine lv_iinc (v := (v3 + 1)) (lv' := [(3, .int (v3 + 1)), (0, .ref (G 0 3)), (1, .int v1), (2, .int v2)]) hx hb d_Sheets_withPlacedOn_40 hl (k := 3) rfl rfl (by decide) rfl (fun ls hl => ?_)
          refine lv_goto (tgt := 4) hx hb d_Sheets_withPlacedOn_43 (by decide) ?_
          exact ih v1 v2 (v3 + 1) (up_step hI (by assumption)) hR _ _ hB ls (lv_sub hl [1, 2, 3, 0] rfl)
        · rw [if_neg c_3] at hR
          refine lv_iload_n hx hb d_Sheets_withPlacedOn_30 rfl (lv_at hl 2 rfl) ?_
          refine lv_iconst (v := 1) hx hb d_Sheets_withPlacedOn_31 (by decide) ?_
          refine lv_aload_n hx hb d_Sheets_withPlacedOn_32 rfl (lv_at hl 0 rfl) ?_
          refine lv_iload_n hx hb d_Sheets_withPlacedOn_33 rfl (lv_at hl 3 rfl) ?_
          refine kV hC hB _ lkC_Sheets rfl (c_Sheets_sheetOf σ π v3) allw_ok mf_Sheets_sheetOf kw_246 kw_247 kw_471 ⟨rfl, rfl, Nat.le_of_ble_eq_true rfl, Nat.le_of_ble_eq_true rfl⟩ rfl rfl hl.1 (Nat.le_of_ble_eq_true rfl) d_Sheets_withPlacedOn_34 ⟨Nat.le_of_ble_eq_true rfl, Nat.le_of_ble_eq_true rfl⟩ (roK fun H locs hB => ?_)
          refine lv_ishl hx hb d_Sheets_withPlacedOn_37 ?_
          refine lv_ior hx hb d_Sheets_withPlacedOn_38 ?_
          refine lv_istore_n (lv' := [(2, .int (v2 ||| (1 <<< ((m_Sheets_sheetOf σ v3) &&& 31)))), (0, .ref (G 0 3)), (1, .int v1), (3, .int v3)]) hx hb d_Sheets_withPlacedOn_39 rfl hl (by decide) rfl (fun ls hl => ?_)
          refine lv_iinc (v := (v3 + 1)) (lv' := [(3, .int (v3 + 1)), (2, .int (v2 ||| (1 <<< ((m_Sheets_sheetOf σ v3) &&& 31)))), (0, .ref (G 0 3)), (1, .int v1)]) hx hb d_Sheets_withPlacedOn_40 hl (k := 3) rfl rfl (by decide) rfl (fun ls hl => ?_)
          refine lv_goto (tgt := 4) hx hb d_Sheets_withPlacedOn_43 (by decide) ?_
          exact ih v1 (v2 ||| (1 <<< ((m_Sheets_sheetOf σ v3) &&& 31))) (v3 + 1) (up_step hI (by assumption)) hR _ _ hB ls (lv_sub hl [2, 3, 1, 0] rfl)

set_option maxHeartbeats 400000 in
set_option maxRecDepth 100000 in
theorem c_Sheets_withPlacedOn  (σ : SC) (π : PJ) (x0 : Int32) : CM l y_Sheets_withPlacedOn b_Sheets_withPlacedOn 4 (some .int) { frames := 3, cells := 0, slots := 0, locals := 63 } D (tyL cI cL cQ) N0 [.ref (G 0 3), .int x0] (wsC G cI cL cQ σ π rest) (some (.int (m_Sheets_withPlacedOn σ x0))) (fun w => w = wsC G cI cL cQ σ π rest) 0 0 := by
  generalize hR : m_Sheets_withPlacedOn σ x0 = RES
  refine met_of (own := R_Sheets) (by decide) rfl nwl_ok ?_
  intro p e s m below meth c hC hin hB
  have hx := hC.1
  have hb := hC.2.1
  have hl := lv_entry ([.ref (G 0 3), .int x0]) (n := 4) (Nat.le_of_ble_eq_true rfl)
  rw [lg_entry_eq]
  generalize (lg_sl ([.ref (G 0 3), .int x0]) ++ List.replicate (4 - (lg_sl ([.ref (G 0 3), .int x0])).length) Slot.unset).toArray = ls at hl ⊢
  have hl : lv_has ls 4 [(0, .ref (G 0 3)), (1, .int x0)] := hl
  rw [m_Sheets_withPlacedOn] at hR
  refine lv_iload_n hx hb d_Sheets_withPlacedOn_0 rfl (lv_at hl 1 rfl) ?_
  refine lv_istore_n (lv' := [(2, .int x0), (0, .ref (G 0 3)), (1, .int x0)]) hx hb d_Sheets_withPlacedOn_1 rfl hl (by decide) rfl (fun ls hl => ?_)
  refine lv_iconst (v := 0) hx hb d_Sheets_withPlacedOn_2 (by decide) ?_
  refine lv_istore_n (lv' := [(3, .int 0), (2, .int x0), (0, .ref (G 0 3)), (1, .int x0)]) hx hb d_Sheets_withPlacedOn_3 rfl hl (by decide) rfl (fun ls hl => ?_)
  exact w_Sheets_withPlacedOn_4  σ π hC ((60 : Int32).toNatClampNeg + 1) x0 x0 0 (up_init _) hR _ _ hB ls (lv_sub hl [2, 3, 1, 0] rfl)

set_option maxHeartbeats 400000 in
set_option maxRecDepth 100000 in
theorem w_Sheets_holds_10 {p : Program} {e : Env} {s : State} {m : MethodId} {args : Array Value} {below : List Frame} {meth : Method} {c : Code} {RES : Bool}  (σ : SC) (π : PJ) (hC : cx D classes (tyL cI cL cQ) NWL ALLW N0 p s m args meth c b_Sheets_holds 6 (some .boolean) R_Sheets) :
    ∀ (n : Nat) (v1 : Int32) (v2 : Int32) (v3 : Int32) (v4 : Int32) (v5 : Int32), upI n (24 : Int32) v5 → lp_Sheets_holds_10 n σ  v1 v2 v3 v4 v5 = RES → ∀ (H : Heap) (locs : List Loc), bd D classes N0 (wsC G cI cL cQ σ π rest) s H locs → ∀ (ls : Array Slot), lv_has ls 6 [(0, .ref (G 0 3)), (1, .int v1), (2, .int v2), (3, .int v3), (4, .int v4), (5, .int v5)] → W p l e { frames := 4, cells := 0, slots := 0, locals := 86 } s m args below meth c H locs 0 0 (MQ below (qx D classes N0 (some (.int (bi RES))) (fun w => w = wsC G cI cL cQ σ π rest)) args s 0 0 (ga N0)) (F0 m 10 ls []) := by
  have hx := hC.1
  have hb := hC.2.1
  intro n
  induction n with
  | zero =>
    intro v1 v2 v3 v4 v5 hI
    exact absurd hI up_zero
  | succ n ih =>
    intro v1 v2 v3 v4 v5 hI hR H locs hB ls hl
    rw [lp_Sheets_holds_10] at hR
    refine lv_iload hx hb d_Sheets_holds_10 (lv_at hl 5 rfl) ?_
    refine lv_bipush (v := 24) hx hb d_Sheets_holds_12 (by decide) ?_
    refine lv_icmp_ge (tgt := 38) hx hb d_Sheets_holds_14 (by decide) (fun c_1 => ?_) (fun c_1 => ?_)
    · rw [if_pos c_1] at hR
      refine lv_iload_n hx hb d_Sheets_holds_38 rfl (lv_at hl 3 rfl) ?_
      refine lv_iconst (v := 1) hx hb d_Sheets_holds_39 (by decide) ?_
      refine lv_iload_n hx hb d_Sheets_holds_40 rfl (lv_at hl 2 rfl) ?_
      refine lv_ishl hx hb d_Sheets_holds_41 ?_
      refine lv_iand hx hb d_Sheets_holds_42 ?_
      refine lv_if_eq (tgt := 50) hx hb d_Sheets_holds_43 (by decide) (fun c_2 => ?_) (fun c_2 => ?_)
      · rw [if_pos c_2] at hR
        refine lv_iconst (v := 0) hx hb d_Sheets_holds_50 (by decide) ?_
        subst hR
        exact rz (b := false) hC hB rfl d_Sheets_holds_51
      · rw [if_neg c_2] at hR
        refine lv_iconst (v := 1) hx hb d_Sheets_holds_46 (by decide) ?_
        refine lv_goto (tgt := 51) hx hb d_Sheets_holds_47 (by decide) ?_
        subst hR
        exact rz (b := true) hC hB rfl d_Sheets_holds_51
    · rw [if_neg c_1] at hR
      refine lv_iload_n hx hb d_Sheets_holds_17 rfl (lv_at hl 3 rfl) ?_
      refine lv_iload hx hb d_Sheets_holds_18 (lv_at hl 4 rfl) ?_
      refine lv_icmp_eq (tgt := 38) hx hb d_Sheets_holds_20 (by decide) (fun c_3 => ?_) (fun c_3 => ?_)
      · rw [if_pos c_3] at hR
        refine lv_iload_n hx hb d_Sheets_holds_38 rfl (lv_at hl 3 rfl) ?_
        refine lv_iconst (v := 1) hx hb d_Sheets_holds_39 (by decide) ?_
        refine lv_iload_n hx hb d_Sheets_holds_40 rfl (lv_at hl 2 rfl) ?_
        refine lv_ishl hx hb d_Sheets_holds_41 ?_
        refine lv_iand hx hb d_Sheets_holds_42 ?_
        refine lv_if_eq (tgt := 50) hx hb d_Sheets_holds_43 (by decide) (fun c_4 => ?_) (fun c_4 => ?_)
        · rw [if_pos c_4] at hR
          refine lv_iconst (v := 0) hx hb d_Sheets_holds_50 (by decide) ?_
          subst hR
          exact rz (b := false) hC hB rfl d_Sheets_holds_51
        · rw [if_neg c_4] at hR
          refine lv_iconst (v := 1) hx hb d_Sheets_holds_46 (by decide) ?_
          refine lv_goto (tgt := 51) hx hb d_Sheets_holds_47 (by decide) ?_
          subst hR
          exact rz (b := true) hC hB rfl d_Sheets_holds_51
      · rw [if_neg c_3] at hR
        refine lv_iload_n hx hb d_Sheets_holds_23 rfl (lv_at hl 3 rfl) ?_
        refine lv_istore (lv' := [(4, .int v3), (0, .ref (G 0 3)), (1, .int v1), (2, .int v2), (3, .int v3), (5, .int v5)]) hx hb d_Sheets_holds_24 hl (by decide) rfl (fun ls hl => ?_)
        refine lv_aload_n hx hb d_Sheets_holds_26 rfl (lv_at hl 1 rfl) ?_
        refine lv_iload_n hx hb d_Sheets_holds_27 rfl (lv_at hl 4 rfl) ?_
        refine kV hC hB _ lkC_Sheets rfl (c_Sheets_withPlacedOn σ π v3) allw_ok mf_Sheets_withPlacedOn kw_461 ks_6 kw_459 ⟨rfl, rfl, Nat.le_of_ble_eq_true rfl, Nat.le_of_ble_eq_true rfl⟩ rfl rfl hl.1 (Nat.le_of_ble_eq_true rfl) d_Sheets_holds_28 ⟨Nat.le_of_ble_eq_true rfl, Nat.le_of_ble_eq_true rfl⟩ (roK fun H locs hB => ?_)
        refine lv_istore_n (lv' := [(3, .int (m_Sheets_withPlacedOn σ v3)), (4, .int v3), (0, .ref (G 0 3)), (1, .int v1), (2, .int v2), (5, .int v5)]) hx hb d_Sheets_holds_31 rfl hl (by decide) rfl (fun ls hl => ?_)
        refine lv_iinc (v := (v5 + 1)) (lv' := [(5, .int (v5 + 1)), (3, .int (m_Sheets_withPlacedOn σ v3)), (4, .int v3), (0, .ref (G 0 3)), (1, .int v1), (2, .int v2)]) hx hb d_Sheets_holds_32 hl (k := 5) rfl rfl (by decide) rfl (fun ls hl => ?_)
        refine lv_goto (tgt := 10) hx hb d_Sheets_holds_35 (by decide) ?_
        exact ih v1 v2 (m_Sheets_withPlacedOn σ v3) v3 (v5 + 1) (up_step hI (by assumption)) hR _ _ hB ls (lv_sub hl [3, 4, 5, 1, 2, 0] rfl)

set_option maxHeartbeats 400000 in
set_option maxRecDepth 100000 in
theorem c_Sheets_holds  (σ : SC) (π : PJ) (x0 : Int32) (x1 : Int32) : CM l y_Sheets_holds b_Sheets_holds 6 (some .boolean) { frames := 4, cells := 0, slots := 0, locals := 86 } D (tyL cI cL cQ) N0 [.ref (G 0 3), .int x0, .int x1] (wsC G cI cL cQ σ π rest) (some (.int (bi (m_Sheets_holds σ x0 x1)))) (fun w => w = wsC G cI cL cQ σ π rest) 0 0 := by
  generalize hR : m_Sheets_holds σ x0 x1 = RES
  refine met_of (own := R_Sheets) (by decide) rfl nwl_ok ?_
  intro p e s m below meth c hC hin hB
  have hx := hC.1
  have hb := hC.2.1
  have hl := lv_entry ([.ref (G 0 3), .int x0, .int x1]) (n := 6) (Nat.le_of_ble_eq_true rfl)
  rw [lg_entry_eq]
  generalize (lg_sl ([.ref (G 0 3), .int x0, .int x1]) ++ List.replicate (6 - (lg_sl ([.ref (G 0 3), .int x0, .int x1])).length) Slot.unset).toArray = ls at hl ⊢
  have hl : lv_has ls 6 [(0, .ref (G 0 3)), (1, .int x0), (2, .int x1)] := hl
  rw [m_Sheets_holds] at hR
  refine lv_iconst (v := 1) hx hb d_Sheets_holds_0 (by decide) ?_
  refine lv_iload_n hx hb d_Sheets_holds_1 rfl (lv_at hl 1 rfl) ?_
  refine lv_ishl hx hb d_Sheets_holds_2 ?_
  refine lv_istore_n (lv' := [(3, .int (1 <<< (x0 &&& 31))), (0, .ref (G 0 3)), (1, .int x0), (2, .int x1)]) hx hb d_Sheets_holds_3 rfl hl (by decide) rfl (fun ls hl => ?_)
  refine lv_iconst (v := 0) hx hb d_Sheets_holds_4 (by decide) ?_
  refine lv_istore (lv' := [(4, .int 0), (3, .int (1 <<< (x0 &&& 31))), (0, .ref (G 0 3)), (1, .int x0), (2, .int x1)]) hx hb d_Sheets_holds_5 hl (by decide) rfl (fun ls hl => ?_)
  refine lv_iconst (v := 0) hx hb d_Sheets_holds_7 (by decide) ?_
  refine lv_istore (lv' := [(5, .int 0), (4, .int 0), (3, .int (1 <<< (x0 &&& 31))), (0, .ref (G 0 3)), (1, .int x0), (2, .int x1)]) hx hb d_Sheets_holds_8 hl (by decide) rfl (fun ls hl => ?_)
  exact w_Sheets_holds_10  σ π hC ((24 : Int32).toNatClampNeg + 1) x0 x1 (1 <<< (x0 &&& 31)) 0 0 (up_init _) hR _ _ hB ls (lv_sub hl [3, 4, 5, 2, 1, 0] rfl)

set_option maxHeartbeats 400000 in
set_option maxRecDepth 100000 in
theorem w_Sheets_cellBefore_9 {p : Program} {e : Env} {s : State} {m : MethodId} {args : Array Value} {below : List Frame} {meth : Method} {c : Code} {RES : Int32}  (σ : SC) (π : PJ) (hC : cx D classes (tyL cI cL cQ) NWL ALLW N0 p s m args meth c b_Sheets_cellBefore 5 (some .int) R_Sheets) :
    ∀ (n : Nat) (v1 : Int32) (v2 : Int32) (v3 : Int32) (v4 : Int32), upI n (60 : Int32) v4 → lp_Sheets_cellBefore_9 n σ  v1 v2 v3 v4 = RES → ∀ (H : Heap) (locs : List Loc), bd D classes N0 (wsC G cI cL cQ σ π rest) s H locs → ∀ (ls : Array Slot), lv_has ls 5 [(0, .ref (G 0 3)), (1, .int v1), (2, .int v2), (3, .int v3), (4, .int v4)] → W p l e { frames := 1, cells := 0, slots := 0, locals := 21 } s m args below meth c H locs 0 0 (MQ below (qx D classes N0 (some (.int RES)) (fun w => w = wsC G cI cL cQ σ π rest)) args s 0 0 (ga N0)) (F0 m 9 ls []) := by
  have hx := hC.1
  have hb := hC.2.1
  intro n
  induction n with
  | zero =>
    intro v1 v2 v3 v4 hI
    exact absurd hI up_zero
  | succ n ih =>
    intro v1 v2 v3 v4 hI hR H locs hB ls hl
    rw [lp_Sheets_cellBefore_9] at hR
    refine lv_iload hx hb d_Sheets_cellBefore_9 (lv_at hl 4 rfl) ?_
    refine lv_bipush (v := 60) hx hb d_Sheets_cellBefore_11 (by decide) ?_
    refine lv_icmp_ge (tgt := 43) hx hb d_Sheets_cellBefore_13 (by decide) (fun c_1 => ?_) (fun c_1 => ?_)
    · rw [if_pos c_1] at hR
      refine lv_iload_n hx hb d_Sheets_cellBefore_43 rfl (lv_at hl 3 rfl) ?_
      subst hR
      exact ri hC hB rfl d_Sheets_cellBefore_44
    · rw [if_neg c_1] at hR
      refine lv_aload_n hx hb d_Sheets_cellBefore_16 rfl (lv_at hl 0 rfl) ?_
      refine gt hC hB _ lkC_Sheets rfl i_Sheets 4 (by decide) rfl kw_81 rfl d_Sheets_cellBefore_17 ?_
      refine lv_iload_n hx hb d_Sheets_cellBefore_20 rfl (lv_at hl 3 rfl) ?_
      refine kV hC hB _ (lkC_row (by decide)) rfl (c_Row_at 4 (by decide) σ π v3) allw_ok mf_Row_at kw_230 kw_231 kw_229 ⟨rfl, rfl, Nat.le_of_ble_eq_true rfl, Nat.le_of_ble_eq_true rfl⟩ rfl rfl hl.1 (Nat.le_of_ble_eq_true rfl) d_Sheets_cellBefore_21 ⟨Nat.le_of_ble_eq_true rfl, Nat.le_of_ble_eq_true rfl⟩ (roK fun H locs hB => ?_)
      refine lv_iload_n hx hb d_Sheets_cellBefore_24 rfl (lv_at hl 2 rfl) ?_
      refine lv_icmp_eq (tgt := 43) hx hb d_Sheets_cellBefore_25 (by decide) (fun c_2 => ?_) (fun c_2 => ?_)
      · rw [if_pos c_2] at hR
        refine lv_iload_n hx hb d_Sheets_cellBefore_43 rfl (lv_at hl 3 rfl) ?_
        subst hR
        exact ri hC hB rfl d_Sheets_cellBefore_44
      · rw [if_neg c_2] at hR
        refine lv_aload_n hx hb d_Sheets_cellBefore_28 rfl (lv_at hl 0 rfl) ?_
        refine gt hC hB _ lkC_Sheets rfl i_Sheets 4 (by decide) rfl kw_81 rfl d_Sheets_cellBefore_29 ?_
        refine lv_iload_n hx hb d_Sheets_cellBefore_32 rfl (lv_at hl 3 rfl) ?_
        refine kV hC hB _ (lkC_row (by decide)) rfl (c_Row_at 4 (by decide) σ π v3) allw_ok mf_Row_at kw_230 kw_231 kw_229 ⟨rfl, rfl, Nat.le_of_ble_eq_true rfl, Nat.le_of_ble_eq_true rfl⟩ rfl rfl hl.1 (Nat.le_of_ble_eq_true rfl) d_Sheets_cellBefore_33 ⟨Nat.le_of_ble_eq_true rfl, Nat.le_of_ble_eq_true rfl⟩ (roK fun H locs hB => ?_)
        refine lv_istore_n (lv' := [(3, .int (m_Row_at σ 4 v3)), (0, .ref (G 0 3)), (1, .int v1), (2, .int v2), (4, .int v4)]) hx hb d_Sheets_cellBefore_36 rfl hl (by decide) rfl (fun ls hl => ?_)
        refine lv_iinc (v := (v4 + 1)) (lv' := [(4, .int (v4 + 1)), (3, .int (m_Row_at σ 4 v3)), (0, .ref (G 0 3)), (1, .int v1), (2, .int v2)]) hx hb d_Sheets_cellBefore_37 hl (k := 4) rfl rfl (by decide) rfl (fun ls hl => ?_)
        refine lv_goto (tgt := 9) hx hb d_Sheets_cellBefore_40 (by decide) ?_
        exact ih v1 v2 (m_Row_at σ 4 v3) (v4 + 1) (up_step hI (by assumption)) hR _ _ hB ls (lv_sub hl [2, 3, 4, 1, 0] rfl)

set_option maxHeartbeats 400000 in
set_option maxRecDepth 100000 in
theorem c_Sheets_cellBefore  (σ : SC) (π : PJ) (x0 : Int32) (x1 : Int32) : CM l y_Sheets_cellBefore b_Sheets_cellBefore 5 (some .int) { frames := 1, cells := 0, slots := 0, locals := 21 } D (tyL cI cL cQ) N0 [.ref (G 0 3), .int x0, .int x1] (wsC G cI cL cQ σ π rest) (some (.int (m_Sheets_cellBefore σ x0 x1))) (fun w => w = wsC G cI cL cQ σ π rest) 0 0 := by
  generalize hR : m_Sheets_cellBefore σ x0 x1 = RES
  refine met_of (own := R_Sheets) (by decide) rfl nwl_ok ?_
  intro p e s m below meth c hC hin hB
  have hx := hC.1
  have hb := hC.2.1
  have hl := lv_entry ([.ref (G 0 3), .int x0, .int x1]) (n := 5) (Nat.le_of_ble_eq_true rfl)
  rw [lg_entry_eq]
  generalize (lg_sl ([.ref (G 0 3), .int x0, .int x1]) ++ List.replicate (5 - (lg_sl ([.ref (G 0 3), .int x0, .int x1])).length) Slot.unset).toArray = ls at hl ⊢
  have hl : lv_has ls 5 [(0, .ref (G 0 3)), (1, .int x0), (2, .int x1)] := hl
  rw [m_Sheets_cellBefore] at hR
  refine lv_aload_n hx hb d_Sheets_cellBefore_0 rfl (lv_at hl 0 rfl) ?_
  refine lv_iload_n hx hb d_Sheets_cellBefore_1 rfl (lv_at hl 1 rfl) ?_
  refine kV hC hB _ lkC_Sheets rfl (c_Sheets_headOf σ π x0) allw_ok mf_Sheets_headOf kw_227 ks_1 kw_225 ⟨rfl, rfl, Nat.le_of_ble_eq_true rfl, Nat.le_of_ble_eq_true rfl⟩ rfl rfl hl.1 (Nat.le_of_ble_eq_true rfl) d_Sheets_cellBefore_2 ⟨Nat.le_of_ble_eq_true rfl, Nat.le_of_ble_eq_true rfl⟩ (roK fun H locs hB => ?_)
  refine lv_istore_n (lv' := [(3, .int (m_Sheets_headOf σ x0)), (0, .ref (G 0 3)), (1, .int x0), (2, .int x1)]) hx hb d_Sheets_cellBefore_5 rfl hl (by decide) rfl (fun ls hl => ?_)
  refine lv_iconst (v := 0) hx hb d_Sheets_cellBefore_6 (by decide) ?_
  refine lv_istore (lv' := [(4, .int 0), (3, .int (m_Sheets_headOf σ x0)), (0, .ref (G 0 3)), (1, .int x0), (2, .int x1)]) hx hb d_Sheets_cellBefore_7 hl (by decide) rfl (fun ls hl => ?_)
  exact w_Sheets_cellBefore_9  σ π hC ((60 : Int32).toNatClampNeg + 1) x0 x1 (m_Sheets_headOf σ x0) 0 (up_init _) hR _ _ hB ls (lv_sub hl [2, 3, 4, 1, 0] rfl)
end SC
end
section
def m_Journal_note (σ : SC) (k : Nat) (x1 : Int32) (x2 : Int64) : SC := zo σ ((k, x1, x2) :: xo σ)
def gA (π : PJ) (x : Int32) : Option Nat := if x < 0 then none else if nI 50 ≤ x then none else π.2.2.1 x.toNatClampNeg
def gP (π : PJ) (x : Int32) (o : Option Nat) : Nat → Option Nat := if x < 0 then π.2.2.1 else if nI 50 ≤ x then π.2.2.1 else va_up π.2.2.1 x.toNatClampNeg o
def jA (σ : SC) (x : Int32) : List Chg := if x < 0 then [] else if nI 50 ≤ x then [] else xa σ x.toNatClampNeg
def jP (σ : SC) (x : Int32) (t : List Chg) : SC := if x < 0 then σ else if nI 50 ≤ x then σ else za σ x.toNatClampNeg t
def m_Journal_keep (σ : SC) : SC := zn (zn (zo (jP σ (xn σ 1) (xo σ)) []) 1 ((xn σ 1 + 1) - (xn σ 1 + 1) / 50 * 50)) 0 (if (50 : Int32) < xn σ 0 + 1 then 50 else xn σ 0 + 1)
/-- the changes taken back, the latest first -/
def unw : List Chg → SC → SC
  | [], σ => σ
  | x :: t, σ => unw t (m_Row_restore σ x.1 x.2.1 x.2.2)
def m_Journal_takeBack (σ : SC) : SC := zo (unw (xo σ) σ) []
def jNx (σ : SC) : Int32 := (xn σ 1 + 50 - 1) - (xn σ 1 + 50 - 1) / 50 * 50
def m_Journal_stepBack (σ : SC) : Bool × SC := if xn σ 0 = 0 then (false, σ) else (true, m_Journal_takeBack (jP (zo (zn (zn σ 0 (xn σ 0 - 1)) 1 (jNx σ)) (jA σ (jNx σ))) (jNx σ) []))
theorem rj_Row_restore {π : PJ} {σ : SC} (h : RJ π σ) (k : Nat) (x0 : Int32) (x1 : Int64) : RJ π (m_Row_restore σ k x0 x1) := by
  unfold m_Row_restore
  split
  · exact h
  · split
    · exact h
    · exact h
theorem rj_unw {π : PJ} : ∀ {t : List Chg} {σ : SC}, RJ π σ → RJ π (unw t σ)
  | [], _, h => h
  | x :: t, _, h => rj_unw (t := t) (rj_Row_restore h x.1 x.2.1 x.2.2)
theorem xn_restore (σ : SC) (k : Nat) (x0 : Int32) (x1 : Int64) : xn (m_Row_restore σ k x0 x1) = xn σ := by
  unfold m_Row_restore
  split
  · rfl
  · split <;> rfl
theorem xa_unw : ∀ (t : List Chg) (σ : SC), xa (unw t σ) = xa σ
  | [], _ => rfl
  | x :: t, σ => by
    rw [unw, xa_unw t]
    unfold m_Row_restore
    split
    · rfl
    · split <;> rfl
theorem xo_takeBack {LP : List Nat} {cg : Nat → Nat × Int32 × Int64 × Option Nat} (σ : SC) : ch LP cg none (xo (m_Journal_takeBack σ)) := rfl
theorem xa_takeBack (σ : SC) : xa (m_Journal_takeBack σ) = xa σ := xa_unw (xo σ) σ
theorem xa_jP (σ σ' : SC) (x : Int32) (t : List Chg) (h : xa σ = xa σ' := by rfl) : xa (jP σ x t) = xa (jP σ' x t) := by
  unfold jP
  split
  · exact h
  · split
    · exact h
    · show va_up (xa σ) _ t = va_up (xa σ') _ t
      rw [h]
theorem ch_open {π : PJ} {o : Option Nat} {t : List Chg} (h : ch π.1 π.2.1 o t) : ∀ a, o = some a → a ∈ π.1 := by
  intro a ha
  cases t with
  | nil => rw [show o = none from h] at ha; cases ha
  | cons x t =>
    obtain ⟨b, c, h1, h2, -⟩ := h
    rw [h1] at ha; cases ha; exact h2
/-- where a change lies -/
theorem lkC_chg {G : Nat → Nat → Nat} {cI cL cQ : ClassId} {σ : SC} {π : PJ} {rest : va_W} {a : Nat} (ha : a ∈ π.1) : ∃ q : Nat, (wsC G cI cL cQ σ π rest)[q]? = some (a, cgC G π a) := by
  apply List.getElem?_of_mem
  unfold wsC
  simp only [List.mem_append]
  exact Or.inr (Or.inr (Or.inr (Or.inr (Or.inr (List.mem_map.mpr ⟨a, ha, rfl⟩)))))
theorem wsC_push {G : Nat → Nat → Nat} {cI cL cQ : ClassId} {σ : SC} {π : PJ} {rest : va_W} {q : Nat} {c : Nat × Int32 × Int64 × Option Nat} (hq : q ∉ π.1) : wsC G cI cL cQ σ π rest ++ [(q, .inr (CI_Change, [.ref (G 1 c.1), .int c.2.1, .long c.2.2.1, va_rf c.2.2.2]))] = wsC G cI cL cQ σ (π.1 ++ [q], va_up π.2.1 q c, π.2.2) rest := by
  have hf : va_up (cgC G π) q (.inr (CI_Change, [.ref (G 1 c.1), .int c.2.1, .long c.2.2.1, va_rf c.2.2.2])) = cgC G (π.1 ++ [q], va_up π.2.1 q c, π.2.2) := by
    funext a
    by_cases h : a = q
    · subst h; simp [va_up, cgC]
    · simp [va_up, cgC, h]
  unfold wsC
  simp only [List.append_assoc]
  rw [va_pl_push hq, hf]
  rfl
theorem not_pool {N0 : Nat} {G : Nat → Nat → Nat} {cI cL cQ : ClassId} {σ : SC} {π : PJ} {rest : va_W} {q : Nat} {x : va_E} (hD : va_D (ga N0) (wsC G cI cL cQ σ π rest ++ [(q, x)])) : q ∉ π.1 := by
  intro h
  obtain ⟨k, hk⟩ := lkC_chg (G := G) (cI := cI) (cL := cL) (cQ := cQ) (σ := σ) (rest := rest) h
  exact nw_fresh hD k hk
section JO
variable {l : Launch} {D : va_G} {N0 : Nat} {G : Nat → Nat → Nat} {cI cL cQ : ClassId} {rest : va_W}

set_option maxHeartbeats 4000000 in
set_option maxRecDepth 100000 in
theorem c_Change_init {ws : va_W} {q0 h0 : Nat} (hq : ws[q0]? = some (h0, .inr (CI_Change, [.null, .int 0, .long 0, .null]))) (r : Nat) (x1 : Int32) (x2 : Int64) (b : Option Nat) : CM l y_Change_init b_Change_init 6 none { frames := 1, cells := 0, slots := 0, locals := 12 } D (tyL cI cL cQ) N0 [.ref h0, .ref r, .int x1, .long x2, va_rf b] ws none (fun w => w = ws.set q0 (h0, .inr (CI_Change, [.ref r, .int x1, .long x2, va_rf b]))) 0 0 := by
  cases b with
  | none =>
    show CM l y_Change_init b_Change_init 6 none _ D (tyL cI cL cQ) N0 [.ref h0, .ref r, .int x1, .long x2, .null] ws none _ 0 0
    refine met_of (own := R_Change) (by decide) rfl nwl_ok ?_
    intro p e s m below meth c hC hin hB
    have hx := hC.1
    have hb := hC.2.1
    have hl := lv_entry ([.ref h0, .ref r, .int x1, .long x2, .null]) (n := 6) (Nat.le_of_ble_eq_true rfl)
    rw [lg_entry_eq]
    generalize (lg_sl ([.ref h0, .ref r, .int x1, .long x2, .null]) ++ List.replicate (6 - (lg_sl ([.ref h0, .ref r, .int x1, .long x2, .null])).length) Slot.unset).toArray = ls at hl ⊢
    have hl : lv_has ls 6 [(0, .ref h0), (1, .ref r), (2, .int x1), (3, .long x2), (5, .null)] := hl
    have hlt : q0 < ws.length := (List.getElem?_eq_some_iff.mp hq).1
    refine lv_aload_n hx hb d_Change_init_0 rfl (lv_at hl 0 rfl) ?_
    refine oi hC kw_305 kw_23 kw_24 hl.1 d_Change_init_1 (Nat.le_of_ble_eq_true rfl) (Nat.le_of_ble_eq_true rfl) ?_
    refine lv_aload_n hx hb d_Change_init_4 rfl (lv_at hl 0 rfl) ?_
    refine lv_aload_n hx hb d_Change_init_5 rfl (lv_at hl 1 rfl) ?_
    refine ptF (ty := .object "SheetTrees$Row") hC (hin rfl) hB q0 hq rfl i_Change t_Change t_Change_ok n_Change 0 (by decide) rfl rfl rfl kw_306 (by decide +kernel) rfl rfl (Nat.le_of_ble_eq_true rfl) d_Change_init_6 rfl (fun H locs hB => ?_)
    refine lv_aload_n hx hb d_Change_init_9 rfl (lv_at hl 0 rfl) ?_
    refine lv_iload_n hx hb d_Change_init_10 rfl (lv_at hl 2 rfl) ?_
    refine ptF (ty := .int) hC (hin rfl) hB q0 (List.getElem?_set_self (by simpa using hlt)) rfl i_Change t_Change t_Change_ok n_Change 1 (by decide) rfl rfl rfl kw_307 (by decide +kernel) rfl rfl (Nat.le_of_ble_eq_true rfl) d_Change_init_11 rfl (fun H locs hB => ?_)
    refine lv_aload_n hx hb d_Change_init_14 rfl (lv_at hl 0 rfl) ?_
    refine lv_lload_n hx hb d_Change_init_15 rfl (lv_at hl 3 rfl) ?_
    refine ptF (ty := .long) hC (hin rfl) hB q0 (List.getElem?_set_self (by simpa using hlt)) rfl i_Change t_Change t_Change_ok n_Change 2 (by decide) rfl rfl rfl kw_308 (by decide +kernel) rfl rfl (Nat.le_of_ble_eq_true rfl) d_Change_init_16 rfl (fun H locs hB => ?_)
    refine lv_aload_n hx hb d_Change_init_19 rfl (lv_at hl 0 rfl) ?_
    refine lv_aloadN hx hb d_Change_init_20 (lv_at hl 4 rfl) ?_
    refine ptF (ty := .object "SheetTrees$Change") hC (hin rfl) hB q0 (List.getElem?_set_self (by simpa using hlt)) rfl i_Change t_Change t_Change_ok n_Change 3 (by decide) rfl rfl rfl kw_309 (by decide +kernel) rfl rfl (Nat.le_of_ble_eq_true rfl) d_Change_init_22 rfl (fun H locs hB => ?_)
    exact rv hC hB (by simp only [List.set_set]; rfl) d_Change_init_25
  | some a0 =>
    show CM l y_Change_init b_Change_init 6 none _ D (tyL cI cL cQ) N0 [.ref h0, .ref r, .int x1, .long x2, .ref a0] ws none _ 0 0
    refine met_of (own := R_Change) (by decide) rfl nwl_ok ?_
    intro p e s m below meth c hC hin hB
    have hx := hC.1
    have hb := hC.2.1
    have hl := lv_entry ([.ref h0, .ref r, .int x1, .long x2, .ref a0]) (n := 6) (Nat.le_of_ble_eq_true rfl)
    rw [lg_entry_eq]
    generalize (lg_sl ([.ref h0, .ref r, .int x1, .long x2, .ref a0]) ++ List.replicate (6 - (lg_sl ([.ref h0, .ref r, .int x1, .long x2, .ref a0])).length) Slot.unset).toArray = ls at hl ⊢
    have hl : lv_has ls 6 [(0, .ref h0), (1, .ref r), (2, .int x1), (3, .long x2), (5, .ref a0)] := hl
    have hlt : q0 < ws.length := (List.getElem?_eq_some_iff.mp hq).1
    refine lv_aload_n hx hb d_Change_init_0 rfl (lv_at hl 0 rfl) ?_
    refine oi hC kw_305 kw_23 kw_24 hl.1 d_Change_init_1 (Nat.le_of_ble_eq_true rfl) (Nat.le_of_ble_eq_true rfl) ?_
    refine lv_aload_n hx hb d_Change_init_4 rfl (lv_at hl 0 rfl) ?_
    refine lv_aload_n hx hb d_Change_init_5 rfl (lv_at hl 1 rfl) ?_
    refine ptF (ty := .object "SheetTrees$Row") hC (hin rfl) hB q0 hq rfl i_Change t_Change t_Change_ok n_Change 0 (by decide) rfl rfl rfl kw_306 (by decide +kernel) rfl rfl (Nat.le_of_ble_eq_true rfl) d_Change_init_6 rfl (fun H locs hB => ?_)
    refine lv_aload_n hx hb d_Change_init_9 rfl (lv_at hl 0 rfl) ?_
    refine lv_iload_n hx hb d_Change_init_10 rfl (lv_at hl 2 rfl) ?_
    refine ptF (ty := .int) hC (hin rfl) hB q0 (List.getElem?_set_self (by simpa using hlt)) rfl i_Change t_Change t_Change_ok n_Change 1 (by decide) rfl rfl rfl kw_307 (by decide +kernel) rfl rfl (Nat.le_of_ble_eq_true rfl) d_Change_init_11 rfl (fun H locs hB => ?_)
    refine lv_aload_n hx hb d_Change_init_14 rfl (lv_at hl 0 rfl) ?_
    refine lv_lload_n hx hb d_Change_init_15 rfl (lv_at hl 3 rfl) ?_
    refine ptF (ty := .long) hC (hin rfl) hB q0 (List.getElem?_set_self (by simpa using hlt)) rfl i_Change t_Change t_Change_ok n_Change 2 (by decide) rfl rfl rfl kw_308 (by decide +kernel) rfl rfl (Nat.le_of_ble_eq_true rfl) d_Change_init_16 rfl (fun H locs hB => ?_)
    refine lv_aload_n hx hb d_Change_init_19 rfl (lv_at hl 0 rfl) ?_
    refine lv_aload hx hb d_Change_init_20 (lv_at hl 4 rfl) ?_
    refine ptF (ty := .object "SheetTrees$Change") hC (hin rfl) hB q0 (List.getElem?_set_self (by simpa using hlt)) rfl i_Change t_Change t_Change_ok n_Change 3 (by decide) rfl rfl rfl kw_309 (by decide +kernel) rfl rfl (Nat.le_of_ble_eq_true rfl) d_Change_init_22 rfl (fun H locs hB => ?_)
    exact rv hC hB (by simp only [List.set_set]; rfl) d_Change_init_25

set_option maxHeartbeats 4000000 in
set_option maxRecDepth 100000 in
theorem c_Journal_note (k : Nat) (hk : k < 19) (σ : SC) (π : PJ) (hπ : RJ π σ) (x1 : Int32) (x2 : Int64) : CM l y_Journal_note b_Journal_note 5 none { frames := 2, cells := 1, slots := 4, locals := 37 } D (tyL cI cL cQ) N0 [.ref (G 0 1), .ref (G 1 k), .int x1, .long x2] (wsC G cI cL cQ σ π rest) none (pwC G cI cL cQ (m_Journal_note σ k x1 x2) rest) 1 4 := by
  refine met_of (own := R_Journal) (by decide) rfl nwl_ok ?_
  intro p e s m below meth c hC hin hB
  have hx := hC.1
  have hb := hC.2.1
  have hl := lv_entry ([.ref (G 0 1), .ref (G 1 k), .int x1, .long x2]) (n := 5) (Nat.le_of_ble_eq_true rfl)
  rw [lg_entry_eq]
  generalize (lg_sl ([.ref (G 0 1), .ref (G 1 k), .int x1, .long x2]) ++ List.replicate (5 - (lg_sl ([.ref (G 0 1), .ref (G 1 k), .int x1, .long x2])).length) Slot.unset).toArray = ls at hl ⊢
  have hl : lv_has ls 5 [(0, .ref (G 0 1)), (1, .ref (G 1 k)), (2, .int x1), (3, .long x2)] := hl
  refine lv_aload_n hx hb d_Journal_note_0 rfl (lv_at hl 0 rfl) ?_
  refine nwo (ci := CI_Change) (fs := [.null, .int 0, .long 0, .null]) hC hB rfl i_Change t_Change t_Change_ok kw_31 kw_301 kw_11 (fun j hj => by rcases (show j = 0 ∨ j = 1 ∨ j = 2 ∨ j = 3 by omega) with rfl | rfl | rfl | rfl <;> rfl) (Nat.le_of_ble_eq_true rfl) (Nat.le_of_ble_eq_true rfl) d_Journal_note_1 (fun q H hB => ?_)
  have hnp := not_pool hB.2.1
  refine lv_dup hx hb d_Journal_note_4 rfl ?_
  refine lv_aload_n hx hb d_Journal_note_5 rfl (lv_at hl 1 rfl) ?_
  refine lv_iload_n hx hb d_Journal_note_6 rfl (lv_at hl 2 rfl) ?_
  refine lv_lload_n hx hb d_Journal_note_7 rfl (lv_at hl 3 rfl) ?_
  refine lv_aload_n hx hb d_Journal_note_8 rfl (lv_at hl 0 rfl) ?_
  refine gt (fs := [.ref (G 0 2), .int (xn σ 0), .int (xn σ 1), va_rf π.2.2.2]) hC hB 1 rfl rfl i_Journal 3 (by decide) rfl kw_36 rfl d_Journal_note_9 ?_
  refine kI hC hB (c_Change_init (q0 := (wsC G cI cL cQ σ π rest).length) (by simp) (G 1 k) x1 x2 π.2.2.2) allw_ok mf_Change_init kw_303 rfl kw_302 ⟨rfl, rfl, Nat.le_of_ble_eq_true rfl, Nat.le_of_ble_eq_true rfl⟩ rfl rfl hl.1 (Nat.le_of_ble_eq_true rfl) d_Journal_note_12 ⟨Nat.le_of_ble_eq_true rfl, Nat.le_of_ble_eq_true rfl⟩ (fun H locs w hw hB => ?_)
  have hw2 : w = wsC G cI cL cQ σ (π.1 ++ [q], va_up π.2.1 q (k, x1, x2, π.2.2.2), π.2.2) rest := by
    rw [hw, List.set_append_right _ _ (Nat.le_refl _), Nat.sub_self]
    exact wsC_push (c := (k, x1, x2, π.2.2.2)) hnp
  subst hw2
  refine pt (ty := .object "SheetTrees$Change") hC hB _ lkC_Journal rfl i_Journal t_Journal t_Journal_ok n_Journal 3 (by decide) rfl rfl kw_36 (by decide +kernel) rfl rfl (Nat.le_of_ble_eq_true rfl) d_Journal_note_15 (ws' := wsC G cI cL cQ σ (π.1 ++ [q], va_up π.2.1 q (k, x1, x2, π.2.2.2), π.2.2.1, some q) rest) rfl (fun H locs hB => ?_)
  exact rv hC hB ⟨_, ⟨⟨q, π.2.2.2, rfl, List.mem_append_right _ List.mem_cons_self, va_up_self _ _ _, hk, ch_push hnp hπ.1⟩, fun j => ch_push hnp (hπ.2 j)⟩, rfl⟩ d_Journal_note_18

set_option maxHeartbeats 4000000 in
set_option maxRecDepth 100000 in
theorem c_Change_takeBack (σ : SC) (π : PJ) {a k : Nat} {i : Int32} {o : Int64} {b : Option Nat} (ha : a ∈ π.1) (hc : π.2.1 a = (k, i, o, b)) (hk : k < 19) : CM l y_Change_takeBack b_Change_takeBack 1 none { frames := 1, cells := 0, slots := 0, locals := 23 } D (tyL cI cL cQ) N0 [.ref a] (wsC G cI cL cQ σ π rest) none (fun w => w = wsC G cI cL cQ (m_Row_restore σ k i o) π rest) 0 0 := by
  obtain ⟨q0, hq0⟩ := lkC_chg (G := G) (cI := cI) (cL := cL) (cQ := cQ) (σ := σ) (rest := rest) ha
  have hq1 : (wsC G cI cL cQ σ π rest)[q0]? = some (a, .inr (CI_Change, [.ref (G 1 k), .int i, .long o, va_rf b])) := by
    rw [hq0]; unfold cgC; rw [hc]
  refine met_of (own := R_Change) (by decide) rfl nwl_ok ?_
  intro p e s m below meth c hC hin hB
  have hx := hC.1
  have hb := hC.2.1
  have hl := lv_entry ([.ref a]) (n := 1) (Nat.le_of_ble_eq_true rfl)
  rw [lg_entry_eq]
  generalize (lg_sl ([.ref a]) ++ List.replicate (1 - (lg_sl ([.ref a])).length) Slot.unset).toArray = ls at hl ⊢
  have hl : lv_has ls 1 [(0, .ref a)] := hl
  refine lv_aload_n hx hb d_Change_takeBack_0 rfl (lv_at hl 0 rfl) ?_
  refine gt hC hB _ hq1 rfl i_Change 0 (by decide) rfl kw_306 rfl d_Change_takeBack_1 ?_
  refine lv_aload_n hx hb d_Change_takeBack_4 rfl (lv_at hl 0 rfl) ?_
  refine gt hC hB _ hq1 rfl i_Change 1 (by decide) rfl kw_307 rfl d_Change_takeBack_5 ?_
  refine lv_aload_n hx hb d_Change_takeBack_8 rfl (lv_at hl 0 rfl) ?_
  refine gt hC hB _ hq1 rfl i_Change 2 (by decide) rfl kw_308 rfl d_Change_takeBack_9 ?_
  refine kV hC hB _ (lkC_row hk) rfl (c_Row_restore k hk σ π i o) allw_ok mf_Row_restore kw_74 kw_75 kw_359 ⟨rfl, rfl, Nat.le_of_ble_eq_true rfl, Nat.le_of_ble_eq_true rfl⟩ rfl rfl hl.1 (Nat.le_of_ble_eq_true rfl) d_Change_takeBack_12 ⟨Nat.le_of_ble_eq_true rfl, Nat.le_of_ble_eq_true rfl⟩ (roK fun H locs hB => ?_)
  exact rv hC hB rfl d_Change_takeBack_15

set_option maxHeartbeats 4000000 in
set_option maxRecDepth 100000 in
theorem c_Journal_getAct (σ : SC) (π : PJ) (x : Int32) : CM l y_Journal_getAct b_Journal_getAct 2 (some (.object "SheetTrees$Change")) { frames := 0, cells := 0, slots := 0, locals := 0 } D (tyL cI cL cQ) N0 [.ref (G 0 1), .int x] (wsC G cI cL cQ σ π rest) (some (va_rf (gA π x))) (fun w => w = wsC G cI cL cQ σ π rest) 0 0 := by
  generalize hR : gA π x = RES
  refine met_of (own := R_Journal) (by decide) rfl nwl_ok ?_
  intro p e s m below meth c hC hin hB
  have hx := hC.1
  have hb := hC.2.1
  have hl := lv_entry ([.ref (G 0 1), .int x]) (n := 2) (Nat.le_of_ble_eq_true rfl)
  rw [lg_entry_eq]
  generalize (lg_sl ([.ref (G 0 1), .int x]) ++ List.replicate (2 - (lg_sl ([.ref (G 0 1), .int x])).length) Slot.unset).toArray = ls at hl ⊢
  have hl : lv_has ls 2 [(0, .ref (G 0 1)), (1, .int x)] := hl
  rw [gA] at hR
  refine lv_iload_n hx hb d_Journal_getAct_0 rfl (lv_at hl 1 rfl) ?_
  refine lv_if_lt (tgt := 22) hx hb d_Journal_getAct_1 (by decide) (fun c1 => ?_) (fun c1 => ?_)
  · rw [if_pos c1] at hR
    subst hR
    refine lv_null hx hb d_Journal_getAct_22 ?_
    exact ra (x := none) hC hB rfl d_Journal_getAct_23
  rw [if_neg c1] at hR
  refine lv_iload_n hx hb d_Journal_getAct_4 rfl (lv_at hl 1 rfl) ?_
  refine lv_aload_n hx hb d_Journal_getAct_5 rfl (lv_at hl 0 rfl) ?_
  refine gt hC hB _ lkC_Journal rfl i_Journal 0 (by decide) rfl kw_33 rfl d_Journal_getAct_6 ?_
  refine va_alen hx hb hC.2.2.2.2.2.2.2.1.1 hB.1 _ 2 lkC_acts rfl (v := nI 50) rfl d_Journal_getAct_9 ?_
  refine lv_icmp_ge (tgt := 22) hx hb d_Journal_getAct_10 (by decide) (fun c2 => ?_) (fun c2 => ?_)
  · rw [if_pos c2] at hR
    subst hR
    refine lv_null hx hb d_Journal_getAct_22 ?_
    exact ra (x := none) hC hB rfl d_Journal_getAct_23
  rw [if_neg c2] at hR
  subst hR
  refine lv_aload_n hx hb d_Journal_getAct_13 rfl (lv_at hl 0 rfl) ?_
  refine gt hC hB _ lkC_Journal rfl i_Journal 0 (by decide) rfl kw_33 rfl d_Journal_getAct_14 ?_
  refine lv_iload_n hx hb d_Journal_getAct_17 rfl (lv_at hl 1 rfl) ?_
  refine va_aldq (C := "SheetTrees$Change") hx hb hC.2.2.2.2.2.2.2.1.1 hB.1 _ 2 lkC_acts rfl (vin c1 c2 (by decide)) d_Journal_getAct_18 ?_
  refine lv_goto (tgt := 23) hx hb d_Journal_getAct_19 (by decide) ?_
  exact ra hC hB rfl d_Journal_getAct_23

theorem setC_acts {σ : SC} {π : PJ} {x : Int32} {o : Option Nat} : (wsC G cI cL cQ σ π rest).set 2 (G 0 2, .inl (cQ, 50, .inr (.inr (.inr (.inr (va_up π.2.2.1 x.toNatClampNeg o)))))) = wsC G cI cL cQ σ (π.1, π.2.1, va_up π.2.2.1 x.toNatClampNeg o, π.2.2.2) rest := rfl
set_option maxHeartbeats 4000000 in
set_option maxRecDepth 100000 in
theorem c_Journal_putAct (σ : SC) (π : PJ) (x : Int32) (o : Option Nat) (ho : ∀ a, o = some a → a ∈ π.1) : CM l y_Journal_putAct b_Journal_putAct 3 none { frames := 0, cells := 0, slots := 0, locals := 0 } D (tyL cI cL cQ) N0 [.ref (G 0 1), .int x, va_rf o] (wsC G cI cL cQ σ π rest) none (fun w => w = wsC G cI cL cQ σ (π.1, π.2.1, gP π x o, π.2.2.2) rest) 0 0 := by
  generalize hR : gP π x o = RES
  rw [gP] at hR
  cases o with
  | none =>
    show CM l y_Journal_putAct b_Journal_putAct 3 none _ D (tyL cI cL cQ) N0 [.ref (G 0 1), .int x, .null] _ none _ 0 0
    refine met_of (own := R_Journal) (by decide) rfl nwl_ok ?_
    intro p e s m below meth c hC hin hB
    have hx := hC.1
    have hb := hC.2.1
    have hl := lv_entry ([.ref (G 0 1), .int x, .null]) (n := 3) (Nat.le_of_ble_eq_true rfl)
    rw [lg_entry_eq]
    generalize (lg_sl ([.ref (G 0 1), .int x, .null]) ++ List.replicate (3 - (lg_sl ([.ref (G 0 1), .int x, .null])).length) Slot.unset).toArray = ls at hl ⊢
    have hl : lv_has ls 3 [(0, .ref (G 0 1)), (1, .int x), (2, .null)] := hl
    refine lv_iload_n hx hb d_Journal_putAct_0 rfl (lv_at hl 1 rfl) ?_
    refine lv_if_lt (tgt := 20) hx hb d_Journal_putAct_1 (by decide) (fun c1 => ?_) (fun c1 => ?_)
    · rw [if_pos c1] at hR
      subst hR
      exact rv hC hB rfl d_Journal_putAct_20
    rw [if_neg c1] at hR
    refine lv_iload_n hx hb d_Journal_putAct_4 rfl (lv_at hl 1 rfl) ?_
    refine lv_aload_n hx hb d_Journal_putAct_5 rfl (lv_at hl 0 rfl) ?_
    refine gt hC hB _ lkC_Journal rfl i_Journal 0 (by decide) rfl kw_33 rfl d_Journal_putAct_6 ?_
    refine va_alen hx hb hC.2.2.2.2.2.2.2.1.1 hB.1 _ 2 lkC_acts rfl (v := nI 50) rfl d_Journal_putAct_9 ?_
    refine lv_icmp_ge (tgt := 20) hx hb d_Journal_putAct_10 (by decide) (fun c2 => ?_) (fun c2 => ?_)
    · rw [if_pos c2] at hR
      subst hR
      exact rv hC hB rfl d_Journal_putAct_20
    rw [if_neg c2] at hR
    subst hR
    refine lv_aload_n hx hb d_Journal_putAct_13 rfl (lv_at hl 0 rfl) ?_
    refine gt hC hB _ lkC_Journal rfl i_Journal 0 (by decide) rfl kw_33 rfl d_Journal_putAct_14 ?_
    refine lv_iload_n hx hb d_Journal_putAct_17 rfl (lv_at hl 1 rfl) ?_
    refine lv_aload_nN hx hb d_Journal_putAct_18 rfl (lv_at hl 2 rfl) ?_
    refine va_astqN (C := "SheetTrees$Change") hx hb hC.2.2.2.2.2.2.2.1.1 hB.1 hB.2.1 hB.2.2 _ 2 lkC_acts rfl (vin c1 c2 (by decide)) d_Journal_putAct_19 (fun H locs h1 h2 h3 => ?_)
    rw [setC_acts] at h1 h2
    exact rv hC ⟨h1, h2, h3⟩ rfl d_Journal_putAct_20
  | some a =>
    show CM l y_Journal_putAct b_Journal_putAct 3 none _ D (tyL cI cL cQ) N0 [.ref (G 0 1), .int x, .ref a] _ none _ 0 0
    refine met_of (own := R_Journal) (by decide) rfl nwl_ok ?_
    intro p e s m below meth c hC hin hB
    have hx := hC.1
    have hb := hC.2.1
    have hl := lv_entry ([.ref (G 0 1), .int x, .ref a]) (n := 3) (Nat.le_of_ble_eq_true rfl)
    rw [lg_entry_eq]
    generalize (lg_sl ([.ref (G 0 1), .int x, .ref a]) ++ List.replicate (3 - (lg_sl ([.ref (G 0 1), .int x, .ref a])).length) Slot.unset).toArray = ls at hl ⊢
    have hl : lv_has ls 3 [(0, .ref (G 0 1)), (1, .int x), (2, .ref a)] := hl
    refine lv_iload_n hx hb d_Journal_putAct_0 rfl (lv_at hl 1 rfl) ?_
    refine lv_if_lt (tgt := 20) hx hb d_Journal_putAct_1 (by decide) (fun c1 => ?_) (fun c1 => ?_)
    · rw [if_pos c1] at hR
      subst hR
      exact rv hC hB rfl d_Journal_putAct_20
    rw [if_neg c1] at hR
    refine lv_iload_n hx hb d_Journal_putAct_4 rfl (lv_at hl 1 rfl) ?_
    refine lv_aload_n hx hb d_Journal_putAct_5 rfl (lv_at hl 0 rfl) ?_
    refine gt hC hB _ lkC_Journal rfl i_Journal 0 (by decide) rfl kw_33 rfl d_Journal_putAct_6 ?_
    refine va_alen hx hb hC.2.2.2.2.2.2.2.1.1 hB.1 _ 2 lkC_acts rfl (v := nI 50) rfl d_Journal_putAct_9 ?_
    refine lv_icmp_ge (tgt := 20) hx hb d_Journal_putAct_10 (by decide) (fun c2 => ?_) (fun c2 => ?_)
    · rw [if_pos c2] at hR
      subst hR
      exact rv hC hB rfl d_Journal_putAct_20
    rw [if_neg c2] at hR
    subst hR
    refine lv_aload_n hx hb d_Journal_putAct_13 rfl (lv_at hl 0 rfl) ?_
    refine gt hC hB _ lkC_Journal rfl i_Journal 0 (by decide) rfl kw_33 rfl d_Journal_putAct_14 ?_
    refine lv_iload_n hx hb d_Journal_putAct_17 rfl (lv_at hl 1 rfl) ?_
    refine lv_aload_n hx hb d_Journal_putAct_18 rfl (lv_at hl 2 rfl) ?_
    obtain ⟨q0, hq0⟩ := lkC_chg (G := G) (cI := cI) (cL := cL) (cQ := cQ) (σ := σ) (rest := rest) (ho a rfl)
    refine va_astq (r := (R_Change, F_Change, 4)) hx hb hC.2.2.2.2.2.2.2.1.1 hB.1 hB.2.1 hB.2.2 _ 2 q0 CI_Change lkC_acts rfl hq0 rfl (vin c1 c2 (by decide)) d_Journal_putAct_19 (fun H locs h1 h2 h3 => ?_)
    rw [setC_acts] at h1 h2
    exact rv hC ⟨h1, h2, h3⟩ rfl d_Journal_putAct_20

theorem wsC_c {σ σ' : SC} {π : PJ} (h1 : σ.1 = σ'.1) (h2 : σ.2.1 = σ'.2.1) (h3 : σ.2.2.1 = σ'.2.2.1) : wsC G cI cL cQ σ π rest = wsC G cI cL cQ σ' π rest := by
  obtain ⟨a, b, c, d⟩ := σ
  obtain ⟨a', b', c', d'⟩ := σ'
  dsimp only at h1 h2 h3
  subst h1; subst h2; subst h3
  rfl
theorem jP_fr (σ : SC) (x : Int32) (t : List Chg) : (jP σ x t).1 = σ.1 ∧ (jP σ x t).2.1 = σ.2.1 ∧ (jP σ x t).2.2.1 = σ.2.2.1 ∧ (jP σ x t).2.2.2.2 = σ.2.2.2.2 := by
  unfold jP
  split
  · exact ⟨rfl, rfl, rfl, rfl⟩
  · split <;> exact ⟨rfl, rfl, rfl, rfl⟩
theorem ch_put {π : PJ} {σ : SC} {x : Int32} {t : List Chg} {o : Option Nat} (h : ∀ j, ch π.1 π.2.1 (π.2.2.1 j) (xa σ j)) (ho : ch π.1 π.2.1 o t) : ∀ j, ch π.1 π.2.1 (gP π x o j) (xa (jP σ x t) j) := by
  intro j
  unfold gP jP
  split
  · exact h j
  · split
    · exact h j
    · by_cases hj : j = x.toNatClampNeg
      · subst hj
        show ch π.1 π.2.1 (va_up π.2.2.1 _ o _) (va_up (xa σ) _ t _)
        rw [va_up_self, va_up_self]; exact ho
      · show ch π.1 π.2.1 (va_up π.2.2.1 _ o j) (va_up (xa σ) _ t j)
        rw [va_up_ne _ _ hj, va_up_ne _ _ hj]; exact h j
theorem ch_get {π : PJ} {σ : SC} {x : Int32} (h : ∀ j, ch π.1 π.2.1 (π.2.2.1 j) (xa σ j)) : ch π.1 π.2.1 (gA π x) (jA σ x) := by
  unfold gA jA
  split
  · rfl
  · split
    · rfl
    · exact h _
theorem setC_open {σ : SC} {π : PJ} {o : Option Nat} : (wsC G cI cL cQ σ π rest).set 1 (G 0 1, .inr (CI_Journal, ([.ref (G 0 2), .int (xn σ 0), .int (xn σ 1), va_rf π.2.2.2] : List Value).set 3 (va_rf o))) = wsC G cI cL cQ σ (π.1, π.2.1, π.2.2.1, o) rest := rfl
theorem setC_open0 {σ : SC} {π : PJ} : (wsC G cI cL cQ σ π rest).set 1 (G 0 1, .inr (CI_Journal, ([.ref (G 0 2), .int (xn σ 0), .int (xn σ 1), va_rf π.2.2.2] : List Value).set 3 .null)) = wsC G cI cL cQ σ (π.1, π.2.1, π.2.2.1, none) rest := rfl
set_option maxHeartbeats 4000000 in
set_option maxRecDepth 100000 in
theorem c_Journal_keep (σ : SC) (π : PJ) (hπ : RJ π σ) : CM l y_Journal_keep b_Journal_keep 1 none { frames := 1, cells := 0, slots := 0, locals := 22 } D (tyL cI cL cQ) N0 [.ref (G 0 1)] (wsC G cI cL cQ σ π rest) none (pwC G cI cL cQ (m_Journal_keep σ) rest) 0 0 := by
  refine met_of (own := R_Journal) (by decide) rfl nwl_ok ?_
  intro p e s m below meth c hC hin hB
  have hx := hC.1
  have hb := hC.2.1
  have hl := lv_entry ([.ref (G 0 1)]) (n := 1) (Nat.le_of_ble_eq_true rfl)
  rw [lg_entry_eq]
  generalize (lg_sl ([.ref (G 0 1)]) ++ List.replicate (1 - (lg_sl ([.ref (G 0 1)])).length) Slot.unset).toArray = ls at hl ⊢
  have hl : lv_has ls 1 [(0, .ref (G 0 1))] := hl
  refine lv_aload_n hx hb d_Journal_keep_0 rfl (lv_at hl 0 rfl) ?_
  refine lv_aload_n hx hb d_Journal_keep_1 rfl (lv_at hl 0 rfl) ?_
  refine gt hC hB _ lkC_Journal rfl i_Journal 2 (by decide) rfl kw_35 rfl d_Journal_keep_2 ?_
  refine lv_aload_n hx hb d_Journal_keep_5 rfl (lv_at hl 0 rfl) ?_
  refine gt hC hB _ lkC_Journal rfl i_Journal 3 (by decide) rfl kw_36 rfl d_Journal_keep_6 ?_
  refine kV hC hB _ lkC_Journal rfl (c_Journal_putAct σ π (xn σ 1) π.2.2.2 (ch_open hπ.1)) allw_ok mf_Journal_putAct kw_327 ks_2 kw_325 ⟨rfl, rfl, Nat.le_of_ble_eq_true rfl, Nat.le_of_ble_eq_true rfl⟩ rfl rfl hl.1 (Nat.le_of_ble_eq_true rfl) d_Journal_keep_9 ⟨Nat.le_of_ble_eq_true rfl, Nat.le_of_ble_eq_true rfl⟩ (roK fun H locs hB => ?_)
  refine lv_aload_n hx hb d_Journal_keep_12 rfl (lv_at hl 0 rfl) ?_
  refine lv_null hx hb d_Journal_keep_13 ?_
  refine pt (ty := .object "SheetTrees$Change") hC hB _ lkC_Journal rfl i_Journal t_Journal t_Journal_ok n_Journal 3 (by decide) rfl rfl kw_36 (by decide +kernel) rfl rfl (Nat.le_of_ble_eq_true rfl) d_Journal_keep_14 setC_open0 (fun H locs hB => ?_)
  refine lv_aload_n hx hb d_Journal_keep_17 rfl (lv_at hl 0 rfl) ?_
  refine lv_aload_n hx hb d_Journal_keep_18 rfl (lv_at hl 0 rfl) ?_
  refine gt hC hB _ lkC_Journal rfl i_Journal 2 (by decide) rfl kw_35 rfl d_Journal_keep_19 ?_
  refine lv_iconst (v := 1) hx hb d_Journal_keep_22 (by decide) ?_
  refine lv_iadd hx hb d_Journal_keep_23 ?_
  refine lv_bipush (v := 50) hx hb d_Journal_keep_24 (by decide) ?_
  refine lv_irem hx hb d_Journal_keep_26 (by decide) ?_
  refine pt (ty := .int) hC hB _ lkC_Journal rfl i_Journal t_Journal t_Journal_ok n_Journal 2 (by decide) rfl rfl kw_35 (by decide +kernel) rfl rfl (Nat.le_of_ble_eq_true rfl) d_Journal_keep_27 setC_n1 (fun H locs hB => ?_)
  refine lv_aload_n hx hb d_Journal_keep_30 rfl (lv_at hl 0 rfl) ?_
  refine lv_aload_n hx hb d_Journal_keep_31 rfl (lv_at hl 0 rfl) ?_
  refine gt (v := .int (xn σ 0)) hC hB _ lkC_Journal rfl i_Journal 1 (by decide) rfl kw_34 rfl d_Journal_keep_32 ?_
  refine lv_iconst (v := 1) hx hb d_Journal_keep_35 (by decide) ?_
  refine lv_iadd hx hb d_Journal_keep_36 ?_
  refine lv_bipush (v := 50) hx hb d_Journal_keep_37 (by decide) ?_
  refine va_mmin hx hb (hC.2.2.2.1.trans hl.1.symm) hC.2.2.2.2.1 (hC.2.2.2.2.2.1 _ kw_329) (hC.2.2.2.2.2.1 _ kw_330) (hC.2.2.2.2.2.1 _ kw_5) (hC.2.2.2.2.2.1 _ kw_331) (Nat.le_of_ble_eq_true rfl) (Nat.le_of_ble_eq_true rfl) (Nat.le_of_ble_eq_true rfl) (Nat.le_of_ble_eq_true rfl) d_Journal_keep_39 ?_
  refine pt (ty := .int) hC hB _ lkC_Journal rfl i_Journal t_Journal t_Journal_ok n_Journal 1 (by decide) rfl rfl kw_34 (by decide +kernel) rfl rfl (Nat.le_of_ble_eq_true rfl) d_Journal_keep_42 setC_n0 (fun H locs hB => ?_)
  have hj := jP_fr σ (xn σ 1) (xo σ)
  refine rv hC hB ⟨(π.1, π.2.1, gP π (xn σ 1) π.2.2.2, none), ⟨rfl, ch_put hπ.2 hπ.1⟩, wsC_c hj.1.symm hj.2.1.symm ?_⟩ d_Journal_keep_45
  show va_up (va_up σ.2.2.1 1 _) 0 _ = va_up (va_up (jP σ (xn σ 1) (xo σ)).2.2.1 1 _) 0 _
  rw [hj.2.2.1]
set_option maxHeartbeats 4000000 in
set_option maxRecDepth 100000 in
theorem w_Journal_takeBack_5 {p : Program} {e : Env} {s : State} {m : MethodId} {args : Array Value} {below : List Frame} {meth : Method} {c : Code} {RES : SC} (π : PJ) (hC : cx D classes (tyL cI cL cQ) NWL ALLW N0 p s m args meth c b_Journal_takeBack 2 none R_Journal) :
    ∀ (t : List Chg) (σ : SC) (o : Option Nat), ch π.1 π.2.1 o t → zo (unw t σ) [] = RES → ∀ (H : Heap) (locs : List Loc), bd D classes N0 (wsC G cI cL cQ σ π rest) s H locs → ∀ (ls : Array Slot), lv_has ls 2 [(0, .ref (G 0 1)), (1, va_rf o)] → W p l e { frames := 2, cells := 0, slots := 0, locals := 43 } s m args below meth c H locs 0 0 (MQ below (qx D classes N0 none (fun w => w = wsC G cI cL cQ RES (π.1, π.2.1, π.2.2.1, none) rest)) args s 0 0 (ga N0)) (F0 m 5 ls []) := by
  have hx := hC.1
  have hb := hC.2.1
  intro t
  induction t with
  | nil =>
    intro σ o hch hR H locs hB ls hl
    have ho : o = none := hch
    subst ho
    subst hR
    refine kq_aload_n (x := none) hx hb d_Journal_takeBack_5 rfl (lv_at hl 1 rfl) ?_
    refine lv_ifnullN (tgt := 21) hx hb d_Journal_takeBack_6 (by decide) ?_
    refine lv_aload_n hx hb d_Journal_takeBack_21 rfl (lv_at hl 0 rfl) ?_
    refine lv_null hx hb d_Journal_takeBack_22 ?_
    refine pt (ty := .object "SheetTrees$Change") hC hB _ lkC_Journal rfl i_Journal t_Journal t_Journal_ok n_Journal 3 (by decide) rfl rfl kw_36 (by decide +kernel) rfl rfl (Nat.le_of_ble_eq_true rfl) d_Journal_takeBack_23 setC_open0 (fun H locs hB => ?_)
    exact rv hC hB rfl d_Journal_takeBack_26
  | cons x t ih =>
    intro σ o hch hR H locs hB ls hl
    obtain ⟨a, b, rfl, ha, hc, hk, hch⟩ := hch
    obtain ⟨q0, hq0⟩ := lkC_chg (G := G) (cI := cI) (cL := cL) (cQ := cQ) (σ := σ) (rest := rest) ha
    have hl : lv_has ls 2 [(0, .ref (G 0 1)), (1, .ref a)] := hl
    refine lv_aload_n hx hb d_Journal_takeBack_5 rfl (lv_at hl 1 rfl) ?_
    refine lv_ifnull hx hb d_Journal_takeBack_6 ?_
    refine lv_aload_n hx hb d_Journal_takeBack_9 rfl (lv_at hl 1 rfl) ?_
    refine kV hC hB q0 hq0 rfl (c_Change_takeBack σ π ha hc hk) allw_ok mf_Change_takeBack kw_356 kw_357 kw_355 ⟨rfl, rfl, Nat.le_of_ble_eq_true rfl, Nat.le_of_ble_eq_true rfl⟩ rfl rfl hl.1 (Nat.le_of_ble_eq_true rfl) d_Journal_takeBack_10 ⟨Nat.le_of_ble_eq_true rfl, Nat.le_of_ble_eq_true rfl⟩ (roK fun H locs hB => ?_)
    obtain ⟨q1, hq1⟩ := lkC_chg (G := G) (cI := cI) (cL := cL) (cQ := cQ) (σ := m_Row_restore σ x.1 x.2.1 x.2.2) (rest := rest) ha
    have hq2 : (wsC G cI cL cQ (m_Row_restore σ x.1 x.2.1 x.2.2) π rest)[q1]? = some (a, .inr (CI_Change, [.ref (G 1 x.1), .int x.2.1, .long x.2.2, va_rf b])) := by
      rw [hq1]; unfold cgC; rw [hc]
    refine lv_aload_n hx hb d_Journal_takeBack_13 rfl (lv_at hl 1 rfl) ?_
    refine gtN hC hB _ hq2 rfl i_Change 3 (by decide) rfl nw_3 rfl d_Journal_takeBack_14 ?_
    refine kq_astore_n (lv' := [(1, va_rf b), (0, .ref (G 0 1))]) hx hb d_Journal_takeBack_17 rfl hl (by decide) rfl (fun ls hl => ?_)
    refine lv_goto (tgt := 5) hx hb d_Journal_takeBack_18 (by decide) ?_
    exact ih _ b hch hR _ _ hB ls (lv_sub hl [1, 0] rfl)
set_option maxHeartbeats 4000000 in
set_option maxRecDepth 100000 in
theorem c_Journal_takeBack (σ : SC) (π : PJ) (hπ : ch π.1 π.2.1 π.2.2.2 (xo σ)) : CM l y_Journal_takeBack b_Journal_takeBack 2 none { frames := 2, cells := 0, slots := 0, locals := 43 } D (tyL cI cL cQ) N0 [.ref (G 0 1)] (wsC G cI cL cQ σ π rest) none (fun w => w = wsC G cI cL cQ (m_Journal_takeBack σ) (π.1, π.2.1, π.2.2.1, none) rest) 0 0 := by
  refine met_of (own := R_Journal) (by decide) rfl nwl_ok ?_
  intro p e s m below meth c hC hin hB
  have hx := hC.1
  have hb := hC.2.1
  have hl := lv_entry ([.ref (G 0 1)]) (n := 2) (Nat.le_of_ble_eq_true rfl)
  rw [lg_entry_eq]
  generalize (lg_sl ([.ref (G 0 1)]) ++ List.replicate (2 - (lg_sl ([.ref (G 0 1)])).length) Slot.unset).toArray = ls at hl ⊢
  have hl : lv_has ls 2 [(0, .ref (G 0 1))] := hl
  refine lv_aload_n hx hb d_Journal_takeBack_0 rfl (lv_at hl 0 rfl) ?_
  refine gt hC hB _ lkC_Journal rfl i_Journal 3 (by decide) rfl kw_36 rfl d_Journal_takeBack_1 ?_
  refine kq_astore_n (lv' := [(1, va_rf π.2.2.2), (0, .ref (G 0 1))]) hx hb d_Journal_takeBack_4 rfl hl (by decide) rfl (fun ls hl => ?_)
  exact w_Journal_takeBack_5 π hC (xo σ) σ π.2.2.2 hπ rfl _ _ hB ls (lv_sub hl [1, 0] rfl)
set_option maxHeartbeats 4000000 in
set_option maxRecDepth 100000 in
theorem c_Journal_stepBack (σ : SC) (π : PJ) (hπ : RJ π σ) : CM l y_Journal_stepBack b_Journal_stepBack 1 (some .boolean) { frames := 3, cells := 0, slots := 0, locals := 64 } D (tyL cI cL cQ) N0 [.ref (G 0 1)] (wsC G cI cL cQ σ π rest) (some (.int (bi (m_Journal_stepBack σ).1))) (pwC G cI cL cQ (m_Journal_stepBack σ).2 rest) 0 0 := by
  generalize hR : m_Journal_stepBack σ = RES
  obtain ⟨RV, RS⟩ := RES
  dsimp only
  refine met_of (own := R_Journal) (by decide) rfl nwl_ok ?_
  intro p e s m below meth c hC hin hB
  have hx := hC.1
  have hb := hC.2.1
  have hl := lv_entry ([.ref (G 0 1)]) (n := 1) (Nat.le_of_ble_eq_true rfl)
  rw [lg_entry_eq]
  generalize (lg_sl ([.ref (G 0 1)]) ++ List.replicate (1 - (lg_sl ([.ref (G 0 1)])).length) Slot.unset).toArray = ls at hl ⊢
  have hl : lv_has ls 1 [(0, .ref (G 0 1))] := hl
  rw [m_Journal_stepBack] at hR
  refine lv_aload_n hx hb d_Journal_stepBack_0 rfl (lv_at hl 0 rfl) ?_
  refine gt hC hB _ lkC_Journal rfl i_Journal 1 (by decide) rfl kw_34 rfl d_Journal_stepBack_1 ?_
  refine lv_if_ne (tgt := 9) hx hb d_Journal_stepBack_4 (by decide) (fun c1 => ?_) (fun c1 => ?_)
  · rw [if_neg c1] at hR
    obtain ⟨rfl, rfl⟩ := Prod.mk.inj hR
    refine lv_aload_n hx hb d_Journal_stepBack_9 rfl (lv_at hl 0 rfl) ?_
    refine lv_dup hx hb d_Journal_stepBack_10 rfl ?_
    refine gt hC hB _ lkC_Journal rfl i_Journal 1 (by decide) rfl kw_34 rfl d_Journal_stepBack_11 ?_
    refine lv_iconst (v := 1) hx hb d_Journal_stepBack_14 (by decide) ?_
    refine lv_isub hx hb d_Journal_stepBack_15 ?_
    refine pt (ty := .int) hC hB _ lkC_Journal rfl i_Journal t_Journal t_Journal_ok n_Journal 1 (by decide) rfl rfl kw_34 (by decide +kernel) rfl rfl (Nat.le_of_ble_eq_true rfl) d_Journal_stepBack_16 setC_n0 (fun H locs hB => ?_)
    refine lv_aload_n hx hb d_Journal_stepBack_19 rfl (lv_at hl 0 rfl) ?_
    refine lv_aload_n hx hb d_Journal_stepBack_20 rfl (lv_at hl 0 rfl) ?_
    refine gt (v := .int (xn σ 1)) hC hB _ lkC_Journal rfl i_Journal 2 (by decide) rfl kw_35 rfl d_Journal_stepBack_21 ?_
    refine lv_bipush (v := 50) hx hb d_Journal_stepBack_24 (by decide) ?_
    refine lv_iadd hx hb d_Journal_stepBack_26 ?_
    refine lv_iconst (v := 1) hx hb d_Journal_stepBack_27 (by decide) ?_
    refine lv_isub hx hb d_Journal_stepBack_28 ?_
    refine lv_bipush (v := 50) hx hb d_Journal_stepBack_29 (by decide) ?_
    refine lv_irem hx hb d_Journal_stepBack_31 (by decide) ?_
    refine pt (ty := .int) hC hB _ lkC_Journal rfl i_Journal t_Journal t_Journal_ok n_Journal 2 (by decide) rfl rfl kw_35 (by decide +kernel) rfl rfl (Nat.le_of_ble_eq_true rfl) d_Journal_stepBack_32 (setC_n1 (v := jNx σ)) (fun H locs hB => ?_)
    refine lv_aload_n hx hb d_Journal_stepBack_35 rfl (lv_at hl 0 rfl) ?_
    refine lv_aload_n hx hb d_Journal_stepBack_36 rfl (lv_at hl 0 rfl) ?_
    refine lv_aload_n hx hb d_Journal_stepBack_37 rfl (lv_at hl 0 rfl) ?_
    refine gt (v := .int (jNx σ)) hC hB _ lkC_Journal rfl i_Journal 2 (by decide) rfl kw_35 rfl d_Journal_stepBack_38 ?_
    refine kV hC hB _ lkC_Journal rfl (c_Journal_getAct (zn (zn σ 0 (xn σ 0 - 1)) 1 (jNx σ)) π (jNx σ)) allw_ok mf_Journal_getAct kw_349 ks_3 kw_347 ⟨rfl, rfl, Nat.le_of_ble_eq_true rfl, Nat.le_of_ble_eq_true rfl⟩ rfl rfl hl.1 (Nat.le_of_ble_eq_true rfl) d_Journal_stepBack_41 ⟨Nat.le_of_ble_eq_true rfl, Nat.le_of_ble_eq_true rfl⟩ (roK fun H locs hB => ?_)
    refine pt (ty := .object "SheetTrees$Change") (v := va_rf (gA π (jNx σ))) hC hB _ lkC_Journal rfl i_Journal t_Journal t_Journal_ok n_Journal 3 (by decide) rfl rfl kw_36 (by decide +kernel) (nar_rf _ _) (fit_rf _ _) (Nat.le_of_ble_eq_true rfl) d_Journal_stepBack_44 setC_open (fun H locs hB => ?_)
    refine lv_aload_n hx hb d_Journal_stepBack_47 rfl (lv_at hl 0 rfl) ?_
    refine lv_aload_n hx hb d_Journal_stepBack_48 rfl (lv_at hl 0 rfl) ?_
    refine gt (v := .int (jNx σ)) hC hB _ lkC_Journal rfl i_Journal 2 (by decide) rfl kw_35 rfl d_Journal_stepBack_49 ?_
    refine lv_null hx hb d_Journal_stepBack_52 ?_
    refine kV hC hB _ lkC_Journal rfl (c_Journal_putAct (zn (zn σ 0 (xn σ 0 - 1)) 1 (jNx σ)) (π.1, π.2.1, π.2.2.1, gA π (jNx σ)) (jNx σ) none (fun a h => by cases h)) allw_ok mf_Journal_putAct kw_327 ks_2 kw_325 ⟨rfl, rfl, Nat.le_of_ble_eq_true rfl, Nat.le_of_ble_eq_true rfl⟩ rfl rfl hl.1 (Nat.le_of_ble_eq_true rfl) d_Journal_stepBack_53 ⟨Nat.le_of_ble_eq_true rfl, Nat.le_of_ble_eq_true rfl⟩ (roK fun H locs hB => ?_)
    have hj := jP_fr (zo (zn (zn σ 0 (xn σ 0 - 1)) 1 (jNx σ)) (jA σ (jNx σ))) (jNx σ) []
    rw [wsC_c (σ := zn (zn σ 0 (xn σ 0 - 1)) 1 (jNx σ)) (σ' := jP (zo (zn (zn σ 0 (xn σ 0 - 1)) 1 (jNx σ)) (jA σ (jNx σ))) (jNx σ) []) hj.1.symm hj.2.1.symm hj.2.2.1.symm] at hB
    refine lv_aload_n hx hb d_Journal_stepBack_56 rfl (lv_at hl 0 rfl) ?_
    have hch : ch π.1 π.2.1 (gA π (jNx σ)) (xo (jP (zo (zn (zn σ 0 (xn σ 0 - 1)) 1 (jNx σ)) (jA σ (jNx σ))) (jNx σ) [])) := by
      rw [show xo (jP (zo (zn (zn σ 0 (xn σ 0 - 1)) 1 (jNx σ)) (jA σ (jNx σ))) (jNx σ) []) = jA σ (jNx σ) from hj.2.2.2]
      exact ch_get hπ.2
    refine kV hC hB _ lkC_Journal rfl (c_Journal_takeBack (jP (zo (zn (zn σ 0 (xn σ 0 - 1)) 1 (jNx σ)) (jA σ (jNx σ))) (jNx σ) []) (π.1, π.2.1, gP (π.1, π.2.1, π.2.2.1, gA π (jNx σ)) (jNx σ) none, gA π (jNx σ)) hch) allw_ok mf_Journal_takeBack kw_352 kw_353 kw_351 ⟨rfl, rfl, Nat.le_of_ble_eq_true rfl, Nat.le_of_ble_eq_true rfl⟩ rfl rfl hl.1 (Nat.le_of_ble_eq_true rfl) d_Journal_stepBack_57 ⟨Nat.le_of_ble_eq_true rfl, Nat.le_of_ble_eq_true rfl⟩ (roK fun H locs hB => ?_)
    refine lv_iconst (v := 1) hx hb d_Journal_stepBack_60 (by decide) ?_
    refine rz (b := true) hC hB ⟨(π.1, π.2.1, gP (π.1, π.2.1, π.2.2.1, gA π (jNx σ)) (jNx σ) none, none), ⟨xo_takeBack _, fun j => ?_⟩, rfl⟩ d_Journal_stepBack_61
    have h9 := ch_put (π := π) (σ := σ) (x := jNx σ) (t := []) (o := none) hπ.2 rfl j
    rw [xa_takeBack]
    rw [show xa (jP (zo (zn (zn σ 0 (xn σ 0 - 1)) 1 (jNx σ)) (jA σ (jNx σ))) (jNx σ) []) j = xa (jP σ (jNx σ) []) j from congrFun (xa_jP _ σ _ _) j]
    exact h9
  · rw [if_pos c1] at hR
    obtain ⟨rfl, rfl⟩ := Prod.mk.inj hR
    refine lv_iconst (v := 0) hx hb d_Journal_stepBack_7 (by decide) ?_
    exact rz (b := false) hC hB ⟨π, hπ, rfl⟩ d_Journal_stepBack_8

end JO
end
section
def m_Row_set (σ : SC) (k : Nat) (x0 : Int32) (x1 : Int64) : SC :=
  if (lg_cmp (m_Row_longAt σ k x0) x1) = 0 then
    σ
  else
    (m_Row_restore (m_Journal_note σ k x0 (m_Row_longAt σ k x0)) k x0 x1)

def m_Sheets_addSheet (σ : SC) : Int32 × SC :=
  ((m_Sheets_sheetCount σ), (m_Row_set σ 0 0 (((m_Sheets_sheetCount σ) + 1).toInt64)))

def m_Sheets_setJoint (σ : SC) (x0 : Int32) (x1 : Int32) (x2 : Int32) : SC :=
  (m_Row_set σ 5 ((x0 * 32) + x1) x2.toInt64)

def m_Sheets_addName (σ : SC) (x0 : Int32) (x1 : Int32) : SC :=
  (m_Row_set σ 1 x0 (((m_Row_at σ 1 x0) ||| (1 <<< (x1 &&& 31))).toInt64))

def m_Sheets_append (σ : SC) (x0 : Int32) (x1 : Int32) : SC :=
  (m_Row_set (m_Row_set σ 3 x0 x1.toInt64) 4 (m_Sheets_cellBefore (m_Row_set σ 3 x0 x1.toInt64) x1 (-1)) x0.toInt64)

def m_Sheets_unlink (σ : SC) (x0 : Int32) : SC :=
  (m_Row_set (m_Row_set σ 4 (m_Sheets_cellBefore σ (m_Sheets_parentOf σ x0) x0) ((m_Sheets_nextOf σ x0).toInt64)) 4 x0 (-1))

def m_Sheets_takeAway (σ : SC) (x0 : Int32) : SC :=
  (m_Row_set (m_Sheets_unlink σ x0) 3 x0 (-1))

def m_Sheets_addPlacement (σ : SC) (x0 : Int32) (x1 : Int32) : Int32 × SC :=
  ((m_Row_at σ 0 1), (m_Sheets_append (m_Row_set (m_Row_set σ 0 1 (((m_Row_at σ 0 1) + 1).toInt64)) 2 (m_Row_at σ 0 1) x1.toInt64) (m_Row_at σ 0 1) x0))

section SC
variable {l : Launch} {D : va_G} {N0 : Nat} {G : Nat → Nat → Nat} {cI cL cQ : ClassId} {rest : va_W}
set_option maxHeartbeats 400000 in
set_option maxRecDepth 100000 in
theorem c_Row_set (k : Nat) (hk : k < 19) (σ : SC) (π : PJ) (hπ : RJ π σ) (x0 : Int32) (x1 : Int64) : CM l y_Row_set b_Row_set 6 (none) { frames := 3, cells := 1, slots := 4, locals := 61 } D (tyL cI cL cQ) N0 [.ref (G 1 k), .int x0, .long x1] (wsC G cI cL cQ σ π rest) (none) (pwC G cI cL cQ (m_Row_set σ k x0 x1) rest) 1 4 := by
  generalize hR : m_Row_set σ k x0 x1 = RES
  refine met_of (own := R_Row) (by decide) rfl nwl_ok ?_
  intro p e s m below meth c hC hin hB
  have hx := hC.1
  have hb := hC.2.1
  have hl := lv_entry ([.ref (G 1 k), .int x0, .long x1]) (n := 6) (Nat.le_of_ble_eq_true rfl)
  rw [lg_entry_eq]
  generalize (lg_sl ([.ref (G 1 k), .int x0, .long x1]) ++ List.replicate (6 - (lg_sl ([.ref (G 1 k), .int x0, .long x1])).length) Slot.unset).toArray = ls at hl ⊢
  have hl : lv_has ls 6 [(0, .ref (G 1 k)), (1, .int x0), (2, .long x1)] := hl
  rw [m_Row_set] at hR
  refine lv_aload_n hx hb d_Row_set_0 rfl (lv_at hl 0 rfl) ?_
  refine lv_iload_n hx hb d_Row_set_1 rfl (lv_at hl 1 rfl) ?_
  refine kV hC hB _ (lkC_row hk) rfl (c_Row_longAt k hk σ π x0) allw_ok mf_Row_longAt kw_293 kw_294 kw_292 ⟨rfl, rfl, Nat.le_of_ble_eq_true rfl, Nat.le_of_ble_eq_true rfl⟩ rfl rfl hl.1 (Nat.le_of_ble_eq_true rfl) d_Row_set_2 ⟨Nat.le_of_ble_eq_true rfl, Nat.le_of_ble_eq_true rfl⟩ (roK fun H locs hB => ?_)
  refine lv_lstore (lv' := [(4, .long (m_Row_longAt σ k x0)), (0, .ref (G 1 k)), (1, .int x0), (2, .long x1)]) hx hb d_Row_set_5 hl (by decide) rfl (fun ls hl => ?_)
  refine lv_lload hx hb d_Row_set_7 (lv_at hl 0 rfl) ?_
  refine lv_lload_n hx hb d_Row_set_9 rfl (lv_at hl 3 rfl) ?_
  refine W.lcmp hx hb d_Row_set_10 ?_
  refine lv_if_eq (tgt := 31) hx hb d_Row_set_11 (by decide) (fun c_1 => ?_) (fun c_1 => ?_)
  · rw [if_pos c_1] at hR
    subst hR
    refine W.widen (k := 1) (n := 4) (Nat.le_of_ble_eq_true rfl) (Nat.le_of_ble_eq_true rfl) ?_
    exact rv hC hB ⟨π, hπ, rfl⟩ d_Row_set_31
  · rw [if_neg c_1] at hR
    refine lv_aload_n hx hb d_Row_set_14 rfl (lv_at hl 1 rfl) ?_
    refine gt hC hB _ (lkC_row hk) rfl i_Row 0 (by decide) rfl kw_64 rfl d_Row_set_15 ?_
    refine lv_aload_n hx hb d_Row_set_18 rfl (lv_at hl 1 rfl) ?_
    refine lv_iload_n hx hb d_Row_set_19 rfl (lv_at hl 2 rfl) ?_
    refine lv_lload hx hb d_Row_set_20 (lv_at hl 0 rfl) ?_
    refine kV hC hB _ lkC_Journal rfl (c_Journal_note k hk σ π hπ x0 (m_Row_longAt σ k x0)) allw_ok mf_Journal_note kw_298 kw_299 kw_297 ⟨rfl, rfl, Nat.le_of_ble_eq_true rfl, Nat.le_of_ble_eq_true rfl⟩ rfl rfl hl.1 (Nat.le_of_ble_eq_true rfl) d_Row_set_22 ⟨Nat.le_of_ble_eq_true rfl, Nat.le_of_ble_eq_true rfl⟩ (fun H locs w hw hB => ?_)
    obtain ⟨π, hπ, rfl⟩ := hw
    refine lv_aload_n hx hb d_Row_set_25 rfl (lv_at hl 1 rfl) ?_
    refine lv_iload_n hx hb d_Row_set_26 rfl (lv_at hl 2 rfl) ?_
    refine lv_lload_n hx hb d_Row_set_27 rfl (lv_at hl 3 rfl) ?_
    refine kV hC hB _ (lkC_row hk) rfl (c_Row_restore k hk (m_Journal_note σ k x0 (m_Row_longAt σ k x0)) π x0 x1) allw_ok mf_Row_restore kw_74 kw_75 kw_320 ⟨rfl, rfl, Nat.le_of_ble_eq_true rfl, Nat.le_of_ble_eq_true rfl⟩ rfl rfl hl.1 (Nat.le_of_ble_eq_true rfl) d_Row_set_28 ⟨Nat.le_of_ble_eq_true rfl, Nat.le_of_ble_eq_true rfl⟩ (roK fun H locs hB => ?_)
    have hπ := rj_Row_restore hπ k x0 x1
    subst hR
    refine W.widen (k := 1) (n := 4) (Nat.le_of_ble_eq_true rfl) (Nat.le_of_ble_eq_true rfl) ?_
    exact rv hC hB ⟨π, hπ, rfl⟩ d_Row_set_31

set_option maxHeartbeats 400000 in
set_option maxRecDepth 100000 in
theorem c_Sheets_addSheet  (σ : SC) (π : PJ) (hπ : RJ π σ)  : CM l y_Sheets_addSheet b_Sheets_addSheet 2 (some .int) { frames := 4, cells := 1, slots := 4, locals := 86 } D (tyL cI cL cQ) N0 [.ref (G 0 3)] (wsC G cI cL cQ σ π rest) (some (.int ((m_Sheets_addSheet σ).1))) (pwC G cI cL cQ ((m_Sheets_addSheet σ).2) rest) 1 4 := by
  generalize hR : m_Sheets_addSheet σ = RES
  obtain ⟨RV, RS⟩ := RES
  dsimp only
  refine met_of (own := R_Sheets) (by decide) rfl nwl_ok ?_
  intro p e s m below meth c hC hin hB
  have hx := hC.1
  have hb := hC.2.1
  have hl := lv_entry ([.ref (G 0 3)]) (n := 2) (Nat.le_of_ble_eq_true rfl)
  rw [lg_entry_eq]
  generalize (lg_sl ([.ref (G 0 3)]) ++ List.replicate (2 - (lg_sl ([.ref (G 0 3)])).length) Slot.unset).toArray = ls at hl ⊢
  have hl : lv_has ls 2 [(0, .ref (G 0 3))] := hl
  rw [m_Sheets_addSheet] at hR
  refine lv_aload_n hx hb d_Sheets_addSheet_0 rfl (lv_at hl 0 rfl) ?_
  refine kV hC hB _ lkC_Sheets rfl (c_Sheets_sheetCount σ π) allw_ok mf_Sheets_sheetCount kw_280 kw_281 kw_287 ⟨rfl, rfl, Nat.le_of_ble_eq_true rfl, Nat.le_of_ble_eq_true rfl⟩ rfl rfl hl.1 (Nat.le_of_ble_eq_true rfl) d_Sheets_addSheet_1 ⟨Nat.le_of_ble_eq_true rfl, Nat.le_of_ble_eq_true rfl⟩ (roK fun H locs hB => ?_)
  refine lv_istore_n (lv' := [(1, .int (m_Sheets_sheetCount σ)), (0, .ref (G 0 3))]) hx hb d_Sheets_addSheet_4 rfl hl (by decide) rfl (fun ls hl => ?_)
  refine lv_aload_n hx hb d_Sheets_addSheet_5 rfl (lv_at hl 1 rfl) ?_
  refine gt hC hB _ lkC_Sheets rfl i_Sheets 0 (by decide) rfl kw_77 rfl d_Sheets_addSheet_6 ?_
  refine lv_iconst (v := 0) hx hb d_Sheets_addSheet_9 (by decide) ?_
  refine lv_iload_n hx hb d_Sheets_addSheet_10 rfl (lv_at hl 0 rfl) ?_
  refine lv_iconst (v := 1) hx hb d_Sheets_addSheet_11 (by decide) ?_
  refine lv_iadd hx hb d_Sheets_addSheet_12 ?_
  refine lv_i2l hx hb d_Sheets_addSheet_13 rfl ?_
  refine kV hC hB _ (lkC_row (by decide)) rfl (c_Row_set 0 (by decide) σ π hπ 0 (((m_Sheets_sheetCount σ) + 1).toInt64)) allw_ok mf_Row_set kw_289 kw_290 kw_288 ⟨rfl, rfl, Nat.le_of_ble_eq_true rfl, Nat.le_of_ble_eq_true rfl⟩ rfl rfl hl.1 (Nat.le_of_ble_eq_true rfl) d_Sheets_addSheet_14 ⟨Nat.le_of_ble_eq_true rfl, Nat.le_of_ble_eq_true rfl⟩ (fun H locs w hw hB => ?_)
  obtain ⟨π, hπ, rfl⟩ := hw
  refine lv_iload_n hx hb d_Sheets_addSheet_17 rfl (lv_at hl 0 rfl) ?_
  obtain ⟨rfl, rfl⟩ := Prod.mk.inj hR
  refine W.widen (k := 1) (n := 4) (Nat.le_of_ble_eq_true rfl) (Nat.le_of_ble_eq_true rfl) ?_
  exact ri hC hB ⟨π, hπ, rfl⟩ d_Sheets_addSheet_18

set_option maxHeartbeats 400000 in
set_option maxRecDepth 100000 in
theorem c_Sheets_setJoint  (σ : SC) (π : PJ) (hπ : RJ π σ) (x0 : Int32) (x1 : Int32) (x2 : Int32) : CM l y_Sheets_setJoint b_Sheets_setJoint 4 (none) { frames := 4, cells := 1, slots := 4, locals := 86 } D (tyL cI cL cQ) N0 [.ref (G 0 3), .int x0, .int x1, .int x2] (wsC G cI cL cQ σ π rest) (none) (pwC G cI cL cQ (m_Sheets_setJoint σ x0 x1 x2) rest) 1 4 := by
  generalize hR : m_Sheets_setJoint σ x0 x1 x2 = RES
  refine met_of (own := R_Sheets) (by decide) rfl nwl_ok ?_
  intro p e s m below meth c hC hin hB
  have hx := hC.1
  have hb := hC.2.1
  have hl := lv_entry ([.ref (G 0 3), .int x0, .int x1, .int x2]) (n := 4) (Nat.le_of_ble_eq_true rfl)
  rw [lg_entry_eq]
  generalize (lg_sl ([.ref (G 0 3), .int x0, .int x1, .int x2]) ++ List.replicate (4 - (lg_sl ([.ref (G 0 3), .int x0, .int x1, .int x2])).length) Slot.unset).toArray = ls at hl ⊢
  have hl : lv_has ls 4 [(0, .ref (G 0 3)), (1, .int x0), (2, .int x1), (3, .int x2)] := hl
  rw [m_Sheets_setJoint] at hR
  refine lv_aload_n hx hb d_Sheets_setJoint_0 rfl (lv_at hl 0 rfl) ?_
  refine gt hC hB _ lkC_Sheets rfl i_Sheets 5 (by decide) rfl kw_82 rfl d_Sheets_setJoint_1 ?_
  refine lv_iload_n hx hb d_Sheets_setJoint_4 rfl (lv_at hl 1 rfl) ?_
  refine lv_bipush (v := 32) hx hb d_Sheets_setJoint_5 (by decide) ?_
  refine lv_imul hx hb d_Sheets_setJoint_7 ?_
  refine lv_iload_n hx hb d_Sheets_setJoint_8 rfl (lv_at hl 2 rfl) ?_
  refine lv_iadd hx hb d_Sheets_setJoint_9 ?_
  refine lv_iload_n hx hb d_Sheets_setJoint_10 rfl (lv_at hl 3 rfl) ?_
  refine lv_i2l hx hb d_Sheets_setJoint_11 rfl ?_
  refine kV hC hB _ (lkC_row (by decide)) rfl (c_Row_set 5 (by decide) σ π hπ ((x0 * 32) + x1) x2.toInt64) allw_ok mf_Row_set kw_289 kw_290 kw_288 ⟨rfl, rfl, Nat.le_of_ble_eq_true rfl, Nat.le_of_ble_eq_true rfl⟩ rfl rfl hl.1 (Nat.le_of_ble_eq_true rfl) d_Sheets_setJoint_12 ⟨Nat.le_of_ble_eq_true rfl, Nat.le_of_ble_eq_true rfl⟩ (fun H locs w hw hB => ?_)
  obtain ⟨π, hπ, rfl⟩ := hw
  subst hR
  refine W.widen (k := 1) (n := 4) (Nat.le_of_ble_eq_true rfl) (Nat.le_of_ble_eq_true rfl) ?_
  exact rv hC hB ⟨π, hπ, rfl⟩ d_Sheets_setJoint_15

set_option maxHeartbeats 400000 in
set_option maxRecDepth 100000 in
theorem c_Sheets_addName  (σ : SC) (π : PJ) (hπ : RJ π σ) (x0 : Int32) (x1 : Int32) : CM l y_Sheets_addName b_Sheets_addName 3 (none) { frames := 4, cells := 1, slots := 4, locals := 86 } D (tyL cI cL cQ) N0 [.ref (G 0 3), .int x0, .int x1] (wsC G cI cL cQ σ π rest) (none) (pwC G cI cL cQ (m_Sheets_addName σ x0 x1) rest) 1 4 := by
  generalize hR : m_Sheets_addName σ x0 x1 = RES
  refine met_of (own := R_Sheets) (by decide) rfl nwl_ok ?_
  intro p e s m below meth c hC hin hB
  have hx := hC.1
  have hb := hC.2.1
  have hl := lv_entry ([.ref (G 0 3), .int x0, .int x1]) (n := 3) (Nat.le_of_ble_eq_true rfl)
  rw [lg_entry_eq]
  generalize (lg_sl ([.ref (G 0 3), .int x0, .int x1]) ++ List.replicate (3 - (lg_sl ([.ref (G 0 3), .int x0, .int x1])).length) Slot.unset).toArray = ls at hl ⊢
  have hl : lv_has ls 3 [(0, .ref (G 0 3)), (1, .int x0), (2, .int x1)] := hl
  rw [m_Sheets_addName] at hR
  refine lv_aload_n hx hb d_Sheets_addName_0 rfl (lv_at hl 0 rfl) ?_
  refine gt hC hB _ lkC_Sheets rfl i_Sheets 1 (by decide) rfl kw_78 rfl d_Sheets_addName_1 ?_
  refine lv_iload_n hx hb d_Sheets_addName_4 rfl (lv_at hl 1 rfl) ?_
  refine lv_aload_n hx hb d_Sheets_addName_5 rfl (lv_at hl 0 rfl) ?_
  refine gt hC hB _ lkC_Sheets rfl i_Sheets 1 (by decide) rfl kw_78 rfl d_Sheets_addName_6 ?_
  refine lv_iload_n hx hb d_Sheets_addName_9 rfl (lv_at hl 1 rfl) ?_
  refine kV hC hB _ (lkC_row (by decide)) rfl (c_Row_at 1 (by decide) σ π x0) allw_ok mf_Row_at kw_230 kw_231 kw_229 ⟨rfl, rfl, Nat.le_of_ble_eq_true rfl, Nat.le_of_ble_eq_true rfl⟩ rfl rfl hl.1 (Nat.le_of_ble_eq_true rfl) d_Sheets_addName_10 ⟨Nat.le_of_ble_eq_true rfl, Nat.le_of_ble_eq_true rfl⟩ (roK fun H locs hB => ?_)
  refine lv_iconst (v := 1) hx hb d_Sheets_addName_13 (by decide) ?_
  refine lv_iload_n hx hb d_Sheets_addName_14 rfl (lv_at hl 2 rfl) ?_
  refine lv_ishl hx hb d_Sheets_addName_15 ?_
  refine lv_ior hx hb d_Sheets_addName_16 ?_
  refine lv_i2l hx hb d_Sheets_addName_17 rfl ?_
  refine kV hC hB _ (lkC_row (by decide)) rfl (c_Row_set 1 (by decide) σ π hπ x0 (((m_Row_at σ 1 x0) ||| (1 <<< (x1 &&& 31))).toInt64)) allw_ok mf_Row_set kw_289 kw_290 kw_288 ⟨rfl, rfl, Nat.le_of_ble_eq_true rfl, Nat.le_of_ble_eq_true rfl⟩ rfl rfl hl.1 (Nat.le_of_ble_eq_true rfl) d_Sheets_addName_18 ⟨Nat.le_of_ble_eq_true rfl, Nat.le_of_ble_eq_true rfl⟩ (fun H locs w hw hB => ?_)
  obtain ⟨π, hπ, rfl⟩ := hw
  subst hR
  refine W.widen (k := 1) (n := 4) (Nat.le_of_ble_eq_true rfl) (Nat.le_of_ble_eq_true rfl) ?_
  exact rv hC hB ⟨π, hπ, rfl⟩ d_Sheets_addName_21

set_option maxHeartbeats 400000 in
set_option maxRecDepth 100000 in
theorem c_Sheets_append  (σ : SC) (π : PJ) (hπ : RJ π σ) (x0 : Int32) (x1 : Int32) : CM l y_Sheets_append b_Sheets_append 3 (none) { frames := 4, cells := 2, slots := 8, locals := 86 } D (tyL cI cL cQ) N0 [.ref (G 0 3), .int x0, .int x1] (wsC G cI cL cQ σ π rest) (none) (pwC G cI cL cQ (m_Sheets_append σ x0 x1) rest) 2 8 := by
  generalize hR : m_Sheets_append σ x0 x1 = RES
  refine met_of (own := R_Sheets) (by decide) rfl nwl_ok ?_
  intro p e s m below meth c hC hin hB
  have hx := hC.1
  have hb := hC.2.1
  have hl := lv_entry ([.ref (G 0 3), .int x0, .int x1]) (n := 3) (Nat.le_of_ble_eq_true rfl)
  rw [lg_entry_eq]
  generalize (lg_sl ([.ref (G 0 3), .int x0, .int x1]) ++ List.replicate (3 - (lg_sl ([.ref (G 0 3), .int x0, .int x1])).length) Slot.unset).toArray = ls at hl ⊢
  have hl : lv_has ls 3 [(0, .ref (G 0 3)), (1, .int x0), (2, .int x1)] := hl
  rw [m_Sheets_append] at hR
  refine lv_aload_n hx hb d_Sheets_append_0 rfl (lv_at hl 0 rfl) ?_
  refine gt hC hB _ lkC_Sheets rfl i_Sheets 3 (by decide) rfl kw_80 rfl d_Sheets_append_1 ?_
  refine lv_iload_n hx hb d_Sheets_append_4 rfl (lv_at hl 1 rfl) ?_
  refine lv_iload_n hx hb d_Sheets_append_5 rfl (lv_at hl 2 rfl) ?_
  refine lv_i2l hx hb d_Sheets_append_6 rfl ?_
  refine kV hC hB _ (lkC_row (by decide)) rfl (c_Row_set 3 (by decide) σ π hπ x0 x1.toInt64) allw_ok mf_Row_set kw_289 kw_290 kw_288 ⟨rfl, rfl, Nat.le_of_ble_eq_true rfl, Nat.le_of_ble_eq_true rfl⟩ rfl rfl hl.1 (Nat.le_of_ble_eq_true rfl) d_Sheets_append_7 ⟨Nat.le_of_ble_eq_true rfl, Nat.le_of_ble_eq_true rfl⟩ (fun H locs w hw hB => ?_)
  obtain ⟨π, hπ, rfl⟩ := hw
  refine lv_aload_n hx hb d_Sheets_append_10 rfl (lv_at hl 0 rfl) ?_
  refine gt hC hB _ lkC_Sheets rfl i_Sheets 4 (by decide) rfl kw_81 rfl d_Sheets_append_11 ?_
  refine lv_aload_n hx hb d_Sheets_append_14 rfl (lv_at hl 0 rfl) ?_
  refine lv_iload_n hx hb d_Sheets_append_15 rfl (lv_at hl 2 rfl) ?_
  refine lv_iconst (v := (-1)) hx hb d_Sheets_append_16 (by decide) ?_
  refine kV hC hB _ lkC_Sheets rfl (c_Sheets_cellBefore (m_Row_set σ 3 x0 x1.toInt64) π x1 (-1)) allw_ok mf_Sheets_cellBefore kw_482 ks_8 kw_480 ⟨rfl, rfl, Nat.le_of_ble_eq_true rfl, Nat.le_of_ble_eq_true rfl⟩ rfl rfl hl.1 (Nat.le_of_ble_eq_true rfl) d_Sheets_append_17 ⟨Nat.le_of_ble_eq_true rfl, Nat.le_of_ble_eq_true rfl⟩ (roK fun H locs hB => ?_)
  refine lv_iload_n hx hb d_Sheets_append_20 rfl (lv_at hl 1 rfl) ?_
  refine lv_i2l hx hb d_Sheets_append_21 rfl ?_
  refine kV hC hB _ (lkC_row (by decide)) rfl (c_Row_set 4 (by decide) (m_Row_set σ 3 x0 x1.toInt64) π hπ (m_Sheets_cellBefore (m_Row_set σ 3 x0 x1.toInt64) x1 (-1)) x0.toInt64) allw_ok mf_Row_set kw_289 kw_290 kw_288 ⟨rfl, rfl, Nat.le_of_ble_eq_true rfl, Nat.le_of_ble_eq_true rfl⟩ rfl rfl hl.1 (Nat.le_of_ble_eq_true rfl) d_Sheets_append_22 ⟨Nat.le_of_ble_eq_true rfl, Nat.le_of_ble_eq_true rfl⟩ (fun H locs w hw hB => ?_)
  obtain ⟨π, hπ, rfl⟩ := hw
  subst hR
  refine W.widen (k := 2) (n := 8) (Nat.le_of_ble_eq_true rfl) (Nat.le_of_ble_eq_true rfl) ?_
  exact rv hC hB ⟨π, hπ, rfl⟩ d_Sheets_append_25

set_option maxHeartbeats 400000 in
set_option maxRecDepth 100000 in
theorem c_Sheets_unlink  (σ : SC) (π : PJ) (hπ : RJ π σ) (x0 : Int32) : CM l y_Sheets_unlink b_Sheets_unlink 2 (none) { frames := 4, cells := 2, slots := 8, locals := 86 } D (tyL cI cL cQ) N0 [.ref (G 0 3), .int x0] (wsC G cI cL cQ σ π rest) (none) (pwC G cI cL cQ (m_Sheets_unlink σ x0) rest) 2 8 := by
  generalize hR : m_Sheets_unlink σ x0 = RES
  refine met_of (own := R_Sheets) (by decide) rfl nwl_ok ?_
  intro p e s m below meth c hC hin hB
  have hx := hC.1
  have hb := hC.2.1
  have hl := lv_entry ([.ref (G 0 3), .int x0]) (n := 2) (Nat.le_of_ble_eq_true rfl)
  rw [lg_entry_eq]
  generalize (lg_sl ([.ref (G 0 3), .int x0]) ++ List.replicate (2 - (lg_sl ([.ref (G 0 3), .int x0])).length) Slot.unset).toArray = ls at hl ⊢
  have hl : lv_has ls 2 [(0, .ref (G 0 3)), (1, .int x0)] := hl
  rw [m_Sheets_unlink] at hR
  refine lv_aload_n hx hb d_Sheets_unlink_0 rfl (lv_at hl 0 rfl) ?_
  refine gt hC hB _ lkC_Sheets rfl i_Sheets 4 (by decide) rfl kw_81 rfl d_Sheets_unlink_1 ?_
  refine lv_aload_n hx hb d_Sheets_unlink_4 rfl (lv_at hl 0 rfl) ?_
  refine lv_aload_n hx hb d_Sheets_unlink_5 rfl (lv_at hl 0 rfl) ?_
  refine lv_iload_n hx hb d_Sheets_unlink_6 rfl (lv_at hl 1 rfl) ?_
  refine kV hC hB _ lkC_Sheets rfl (c_Sheets_parentOf σ π x0) allw_ok mf_Sheets_parentOf kw_468 kw_469 kw_467 ⟨rfl, rfl, Nat.le_of_ble_eq_true rfl, Nat.le_of_ble_eq_true rfl⟩ rfl rfl hl.1 (Nat.le_of_ble_eq_true rfl) d_Sheets_unlink_7 ⟨Nat.le_of_ble_eq_true rfl, Nat.le_of_ble_eq_true rfl⟩ (roK fun H locs hB => ?_)
  refine lv_iload_n hx hb d_Sheets_unlink_10 rfl (lv_at hl 1 rfl) ?_
  refine kV hC hB _ lkC_Sheets rfl (c_Sheets_cellBefore σ π (m_Sheets_parentOf σ x0) x0) allw_ok mf_Sheets_cellBefore kw_482 ks_8 kw_480 ⟨rfl, rfl, Nat.le_of_ble_eq_true rfl, Nat.le_of_ble_eq_true rfl⟩ rfl rfl hl.1 (Nat.le_of_ble_eq_true rfl) d_Sheets_unlink_11 ⟨Nat.le_of_ble_eq_true rfl, Nat.le_of_ble_eq_true rfl⟩ (roK fun H locs hB => ?_)
  refine lv_aload_n hx hb d_Sheets_unlink_14 rfl (lv_at hl 0 rfl) ?_
  refine lv_iload_n hx hb d_Sheets_unlink_15 rfl (lv_at hl 1 rfl) ?_
  refine kV hC hB _ lkC_Sheets rfl (c_Sheets_nextOf σ π x0) allw_ok mf_Sheets_nextOf kw_238 kw_239 kw_514 ⟨rfl, rfl, Nat.le_of_ble_eq_true rfl, Nat.le_of_ble_eq_true rfl⟩ rfl rfl hl.1 (Nat.le_of_ble_eq_true rfl) d_Sheets_unlink_16 ⟨Nat.le_of_ble_eq_true rfl, Nat.le_of_ble_eq_true rfl⟩ (roK fun H locs hB => ?_)
  refine lv_i2l hx hb d_Sheets_unlink_19 rfl ?_
  refine kV hC hB _ (lkC_row (by decide)) rfl (c_Row_set 4 (by decide) σ π hπ (m_Sheets_cellBefore σ (m_Sheets_parentOf σ x0) x0) ((m_Sheets_nextOf σ x0).toInt64)) allw_ok mf_Row_set kw_289 kw_290 kw_288 ⟨rfl, rfl, Nat.le_of_ble_eq_true rfl, Nat.le_of_ble_eq_true rfl⟩ rfl rfl hl.1 (Nat.le_of_ble_eq_true rfl) d_Sheets_unlink_20 ⟨Nat.le_of_ble_eq_true rfl, Nat.le_of_ble_eq_true rfl⟩ (fun H locs w hw hB => ?_)
  obtain ⟨π, hπ, rfl⟩ := hw
  refine lv_aload_n hx hb d_Sheets_unlink_23 rfl (lv_at hl 0 rfl) ?_
  refine gt hC hB _ lkC_Sheets rfl i_Sheets 4 (by decide) rfl kw_81 rfl d_Sheets_unlink_24 ?_
  refine lv_iload_n hx hb d_Sheets_unlink_27 rfl (lv_at hl 1 rfl) ?_
  refine lv_ldc2 (v := (-1)) hx hb hC.2.2.2.2.1 (hC.2.2.2.2.2.1 _ kw_72) d_Sheets_unlink_28 ?_
  refine kV hC hB _ (lkC_row (by decide)) rfl (c_Row_set 4 (by decide) (m_Row_set σ 4 (m_Sheets_cellBefore σ (m_Sheets_parentOf σ x0) x0) ((m_Sheets_nextOf σ x0).toInt64)) π hπ x0 (-1)) allw_ok mf_Row_set kw_289 kw_290 kw_288 ⟨rfl, rfl, Nat.le_of_ble_eq_true rfl, Nat.le_of_ble_eq_true rfl⟩ rfl rfl hl.1 (Nat.le_of_ble_eq_true rfl) d_Sheets_unlink_31 ⟨Nat.le_of_ble_eq_true rfl, Nat.le_of_ble_eq_true rfl⟩ (fun H locs w hw hB => ?_)
  obtain ⟨π, hπ, rfl⟩ := hw
  subst hR
  refine W.widen (k := 2) (n := 8) (Nat.le_of_ble_eq_true rfl) (Nat.le_of_ble_eq_true rfl) ?_
  exact rv hC hB ⟨π, hπ, rfl⟩ d_Sheets_unlink_34

set_option maxHeartbeats 400000 in
set_option maxRecDepth 100000 in
theorem c_Sheets_takeAway  (σ : SC) (π : PJ) (hπ : RJ π σ) (x0 : Int32) : CM l y_Sheets_takeAway b_Sheets_takeAway 2 (none) { frames := 5, cells := 3, slots := 12, locals := 107 } D (tyL cI cL cQ) N0 [.ref (G 0 3), .int x0] (wsC G cI cL cQ σ π rest) (none) (pwC G cI cL cQ (m_Sheets_takeAway σ x0) rest) 3 12 := by
  generalize hR : m_Sheets_takeAway σ x0 = RES
  refine met_of (own := R_Sheets) (by decide) rfl nwl_ok ?_
  intro p e s m below meth c hC hin hB
  have hx := hC.1
  have hb := hC.2.1
  have hl := lv_entry ([.ref (G 0 3), .int x0]) (n := 2) (Nat.le_of_ble_eq_true rfl)
  rw [lg_entry_eq]
  generalize (lg_sl ([.ref (G 0 3), .int x0]) ++ List.replicate (2 - (lg_sl ([.ref (G 0 3), .int x0])).length) Slot.unset).toArray = ls at hl ⊢
  have hl : lv_has ls 2 [(0, .ref (G 0 3)), (1, .int x0)] := hl
  rw [m_Sheets_takeAway] at hR
  refine lv_aload_n hx hb d_Sheets_takeAway_0 rfl (lv_at hl 0 rfl) ?_
  refine lv_iload_n hx hb d_Sheets_takeAway_1 rfl (lv_at hl 1 rfl) ?_
  refine kV hC hB _ lkC_Sheets rfl (c_Sheets_unlink σ π hπ x0) allw_ok mf_Sheets_unlink kw_512 ks_11 kw_510 ⟨rfl, rfl, Nat.le_of_ble_eq_true rfl, Nat.le_of_ble_eq_true rfl⟩ rfl rfl hl.1 (Nat.le_of_ble_eq_true rfl) d_Sheets_takeAway_2 ⟨Nat.le_of_ble_eq_true rfl, Nat.le_of_ble_eq_true rfl⟩ (fun H locs w hw hB => ?_)
  obtain ⟨π, hπ, rfl⟩ := hw
  refine lv_aload_n hx hb d_Sheets_takeAway_5 rfl (lv_at hl 0 rfl) ?_
  refine gt hC hB _ lkC_Sheets rfl i_Sheets 3 (by decide) rfl kw_80 rfl d_Sheets_takeAway_6 ?_
  refine lv_iload_n hx hb d_Sheets_takeAway_9 rfl (lv_at hl 1 rfl) ?_
  refine lv_ldc2 (v := (-1)) hx hb hC.2.2.2.2.1 (hC.2.2.2.2.2.1 _ kw_72) d_Sheets_takeAway_10 ?_
  refine kV hC hB _ (lkC_row (by decide)) rfl (c_Row_set 3 (by decide) (m_Sheets_unlink σ x0) π hπ x0 (-1)) allw_ok mf_Row_set kw_289 kw_290 kw_288 ⟨rfl, rfl, Nat.le_of_ble_eq_true rfl, Nat.le_of_ble_eq_true rfl⟩ rfl rfl hl.1 (Nat.le_of_ble_eq_true rfl) d_Sheets_takeAway_13 ⟨Nat.le_of_ble_eq_true rfl, Nat.le_of_ble_eq_true rfl⟩ (fun H locs w hw hB => ?_)
  obtain ⟨π, hπ, rfl⟩ := hw
  subst hR
  refine W.widen (k := 3) (n := 12) (Nat.le_of_ble_eq_true rfl) (Nat.le_of_ble_eq_true rfl) ?_
  exact rv hC hB ⟨π, hπ, rfl⟩ d_Sheets_takeAway_16

set_option maxHeartbeats 400000 in
set_option maxRecDepth 100000 in
theorem c_Sheets_addPlacement  (σ : SC) (π : PJ) (hπ : RJ π σ) (x0 : Int32) (x1 : Int32) : CM l y_Sheets_addPlacement b_Sheets_addPlacement 4 (some .int) { frames := 5, cells := 4, slots := 16, locals := 108 } D (tyL cI cL cQ) N0 [.ref (G 0 3), .int x0, .int x1] (wsC G cI cL cQ σ π rest) (some (.int ((m_Sheets_addPlacement σ x0 x1).1))) (pwC G cI cL cQ ((m_Sheets_addPlacement σ x0 x1).2) rest) 4 16 := by
  generalize hR : m_Sheets_addPlacement σ x0 x1 = RES
  obtain ⟨RV, RS⟩ := RES
  dsimp only
  refine met_of (own := R_Sheets) (by decide) rfl nwl_ok ?_
  intro p e s m below meth c hC hin hB
  have hx := hC.1
  have hb := hC.2.1
  have hl := lv_entry ([.ref (G 0 3), .int x0, .int x1]) (n := 4) (Nat.le_of_ble_eq_true rfl)
  rw [lg_entry_eq]
  generalize (lg_sl ([.ref (G 0 3), .int x0, .int x1]) ++ List.replicate (4 - (lg_sl ([.ref (G 0 3), .int x0, .int x1])).length) Slot.unset).toArray = ls at hl ⊢
  have hl : lv_has ls 4 [(0, .ref (G 0 3)), (1, .int x0), (2, .int x1)] := hl
  rw [m_Sheets_addPlacement] at hR
  refine lv_aload_n hx hb d_Sheets_addPlacement_0 rfl (lv_at hl 0 rfl) ?_
  refine gt hC hB _ lkC_Sheets rfl i_Sheets 0 (by decide) rfl kw_77 rfl d_Sheets_addPlacement_1 ?_
  refine lv_iconst (v := 1) hx hb d_Sheets_addPlacement_4 (by decide) ?_
  refine kV hC hB _ (lkC_row (by decide)) rfl (c_Row_at 0 (by decide) σ π 1) allw_ok mf_Row_at kw_230 kw_231 kw_229 ⟨rfl, rfl, Nat.le_of_ble_eq_true rfl, Nat.le_of_ble_eq_true rfl⟩ rfl rfl hl.1 (Nat.le_of_ble_eq_true rfl) d_Sheets_addPlacement_5 ⟨Nat.le_of_ble_eq_true rfl, Nat.le_of_ble_eq_true rfl⟩ (roK fun H locs hB => ?_)
  refine lv_istore_n (lv' := [(3, .int (m_Row_at σ 0 1)), (0, .ref (G 0 3)), (1, .int x0), (2, .int x1)]) hx hb d_Sheets_addPlacement_8 rfl hl (by decide) rfl (fun ls hl => ?_)
  refine lv_aload_n hx hb d_Sheets_addPlacement_9 rfl (lv_at hl 1 rfl) ?_
  refine gt hC hB _ lkC_Sheets rfl i_Sheets 0 (by decide) rfl kw_77 rfl d_Sheets_addPlacement_10 ?_
  refine lv_iconst (v := 1) hx hb d_Sheets_addPlacement_13 (by decide) ?_
  refine lv_iload_n hx hb d_Sheets_addPlacement_14 rfl (lv_at hl 0 rfl) ?_
  refine lv_iconst (v := 1) hx hb d_Sheets_addPlacement_15 (by decide) ?_
  refine lv_iadd hx hb d_Sheets_addPlacement_16 ?_
  refine lv_i2l hx hb d_Sheets_addPlacement_17 rfl ?_
  refine kV hC hB _ (lkC_row (by decide)) rfl (c_Row_set 0 (by decide) σ π hπ 1 (((m_Row_at σ 0 1) + 1).toInt64)) allw_ok mf_Row_set kw_289 kw_290 kw_288 ⟨rfl, rfl, Nat.le_of_ble_eq_true rfl, Nat.le_of_ble_eq_true rfl⟩ rfl rfl hl.1 (Nat.le_of_ble_eq_true rfl) d_Sheets_addPlacement_18 ⟨Nat.le_of_ble_eq_true rfl, Nat.le_of_ble_eq_true rfl⟩ (fun H locs w hw hB => ?_)
  obtain ⟨π, hπ, rfl⟩ := hw
  refine lv_aload_n hx hb d_Sheets_addPlacement_21 rfl (lv_at hl 1 rfl) ?_
  refine gt hC hB _ lkC_Sheets rfl i_Sheets 2 (by decide) rfl kw_79 rfl d_Sheets_addPlacement_22 ?_
  refine lv_iload_n hx hb d_Sheets_addPlacement_25 rfl (lv_at hl 0 rfl) ?_
  refine lv_iload_n hx hb d_Sheets_addPlacement_26 rfl (lv_at hl 3 rfl) ?_
  refine lv_i2l hx hb d_Sheets_addPlacement_27 rfl ?_
  refine kV hC hB _ (lkC_row (by decide)) rfl (c_Row_set 2 (by decide) (m_Row_set σ 0 1 (((m_Row_at σ 0 1) + 1).toInt64)) π hπ (m_Row_at σ 0 1) x1.toInt64) allw_ok mf_Row_set kw_289 kw_290 kw_288 ⟨rfl, rfl, Nat.le_of_ble_eq_true rfl, Nat.le_of_ble_eq_true rfl⟩ rfl rfl hl.1 (Nat.le_of_ble_eq_true rfl) d_Sheets_addPlacement_28 ⟨Nat.le_of_ble_eq_true rfl, Nat.le_of_ble_eq_true rfl⟩ (fun H locs w hw hB => ?_)
  obtain ⟨π, hπ, rfl⟩ := hw
  refine lv_aload_n hx hb d_Sheets_addPlacement_31 rfl (lv_at hl 1 rfl) ?_
  refine lv_iload_n hx hb d_Sheets_addPlacement_32 rfl (lv_at hl 0 rfl) ?_
  refine lv_iload_n hx hb d_Sheets_addPlacement_33 rfl (lv_at hl 2 rfl) ?_
  refine kV hC hB _ lkC_Sheets rfl (c_Sheets_append (m_Row_set (m_Row_set σ 0 1 (((m_Row_at σ 0 1) + 1).toInt64)) 2 (m_Row_at σ 0 1) x1.toInt64) π hπ (m_Row_at σ 0 1) x0) allw_ok mf_Sheets_append kw_478 ks_7 kw_476 ⟨rfl, rfl, Nat.le_of_ble_eq_true rfl, Nat.le_of_ble_eq_true rfl⟩ rfl rfl hl.1 (Nat.le_of_ble_eq_true rfl) d_Sheets_addPlacement_34 ⟨Nat.le_of_ble_eq_true rfl, Nat.le_of_ble_eq_true rfl⟩ (fun H locs w hw hB => ?_)
  obtain ⟨π, hπ, rfl⟩ := hw
  refine lv_iload_n hx hb d_Sheets_addPlacement_37 rfl (lv_at hl 0 rfl) ?_
  obtain ⟨rfl, rfl⟩ := Prod.mk.inj hR
  refine W.widen (k := 4) (n := 16) (Nat.le_of_ble_eq_true rfl) (Nat.le_of_ble_eq_true rfl) ?_
  exact ri hC hB ⟨π, hπ, rfl⟩ d_Sheets_addPlacement_38
end SC
end
section
def m_Book_count (σ : SC) : Int32 :=
  (xn σ 2)

def m_Book_isWithinLimit (σ : SC) : Bool :=
  if 300 < (xn σ 2) then
    false
  else
    true

def m_Book_sheetAt (σ : SC) (x0 : Int32) : Int32 :=
  (m_ST_read σ 0 x0)

def m_Book_placementAt (σ : SC) (x0 : Int32) : Int32 :=
  (m_ST_read σ 1 x0)

def m_Book_pageAbove (σ : SC) (x0 : Int32) : Int32 :=
  (m_ST_read σ 2 x0)

def m_Book_depthAt (σ : SC) (x0 : Int32) : Int32 :=
  (m_ST_read σ 3 x0)

def m_Book_comingAt (σ : SC) (x0 : Int32) : Int32 :=
  (m_ST_read σ 4 x0)

def m_Book_comingsOf (σ : SC) (x0 : Int32) : Int32 :=
  (if (m_ST_read σ 5 x0) < 0 then 0 else (m_ST_read σ 5 x0))

def m_Book_addPage (σ : SC) (x0 : Int32) (x1 : Int32) (x2 : Int32) (x3 : Int32) : Int32 × SC :=
  ((xn σ 2), (zn (m_ST_write (m_ST_write (m_ST_write (m_ST_write (m_ST_write (m_ST_write σ 0 (xn σ 2) x0) 1 (xn σ 2) x1) 2 (xn σ 2) x2) 3 (xn σ 2) x3) 4 (xn σ 2) (m_Book_comingsOf (m_ST_write (m_ST_write (m_ST_write (m_ST_write σ 0 (xn σ 2) x0) 1 (xn σ 2) x1) 2 (xn σ 2) x2) 3 (xn σ 2) x3) x0)) 5 x0 ((m_Book_comingsOf (m_ST_write (m_ST_write (m_ST_write (m_ST_write (m_ST_write σ 0 (xn σ 2) x0) 1 (xn σ 2) x1) 2 (xn σ 2) x2) 3 (xn σ 2) x3) 4 (xn σ 2) (m_Book_comingsOf (m_ST_write (m_ST_write (m_ST_write (m_ST_write σ 0 (xn σ 2) x0) 1 (xn σ 2) x1) 2 (xn σ 2) x2) 3 (xn σ 2) x3) x0)) x0) + 1)) 2 ((xn (m_ST_write (m_ST_write (m_ST_write (m_ST_write (m_ST_write (m_ST_write σ 0 (xn σ 2) x0) 1 (xn σ 2) x1) 2 (xn σ 2) x2) 3 (xn σ 2) x3) 4 (xn σ 2) (m_Book_comingsOf (m_ST_write (m_ST_write (m_ST_write (m_ST_write σ 0 (xn σ 2) x0) 1 (xn σ 2) x1) 2 (xn σ 2) x2) 3 (xn σ 2) x3) x0)) 5 x0 ((m_Book_comingsOf (m_ST_write (m_ST_write (m_ST_write (m_ST_write (m_ST_write σ 0 (xn σ 2) x0) 1 (xn σ 2) x1) 2 (xn σ 2) x2) 3 (xn σ 2) x3) 4 (xn σ 2) (m_Book_comingsOf (m_ST_write (m_ST_write (m_ST_write (m_ST_write σ 0 (xn σ 2) x0) 1 (xn σ 2) x1) 2 (xn σ 2) x2) 3 (xn σ 2) x3) x0)) x0) + 1)) 2) + 1)))

def lp_Book_pageOfComing_2 : Nat → SC → Int32 → Int32 → Int32 → Int32
  | 0, σ, _, _, _ => 0
  | n + 1, σ, v1, v2, v3 =>
    if (xn σ 2) ≤ v3 then
      (-1)
    else
      if (m_Book_sheetAt σ v3) = v1 then
        if (m_Book_comingAt σ v3) = v2 then
          v3
        else
          lp_Book_pageOfComing_2 n σ v1 v2 (v3 + 1)
      else
        lp_Book_pageOfComing_2 n σ v1 v2 (v3 + 1)

def m_Book_pageOfComing (σ : SC) (x0 : Int32) (x1 : Int32) : Int32 :=
  lp_Book_pageOfComing_2 ((xn σ 2).toNatClampNeg + 1) σ x0 x1 0

section SC
variable {l : Launch} {D : va_G} {N0 : Nat} {G : Nat → Nat → Nat} {cI cL cQ : ClassId} {rest : va_W}
set_option maxHeartbeats 400000 in
set_option maxRecDepth 100000 in
theorem c_Book_count  (σ : SC) (π : PJ)  : CM l y_Book_count b_Book_count 1 (some .int) { frames := 0, cells := 0, slots := 0, locals := 0 } D (tyL cI cL cQ) N0 [.ref (G 0 4)] (wsC G cI cL cQ σ π rest) (some (.int (m_Book_count σ))) (fun w => w = wsC G cI cL cQ σ π rest) 0 0 := by
  generalize hR : m_Book_count σ = RES
  refine met_of (own := R_Book) (by decide) rfl nwl_ok ?_
  intro p e s m below meth c hC hin hB
  have hx := hC.1
  have hb := hC.2.1
  have hl := lv_entry ([.ref (G 0 4)]) (n := 1) (Nat.le_of_ble_eq_true rfl)
  rw [lg_entry_eq]
  generalize (lg_sl ([.ref (G 0 4)]) ++ List.replicate (1 - (lg_sl ([.ref (G 0 4)])).length) Slot.unset).toArray = ls at hl ⊢
  have hl : lv_has ls 1 [(0, .ref (G 0 4))] := hl
  rw [m_Book_count] at hR
  refine lv_aload_n hx hb d_Book_count_0 rfl (lv_at hl 0 rfl) ?_
  refine gt hC hB _ lkC_Book rfl i_Book 7 (by decide) rfl kw_109 rfl d_Book_count_1 ?_
  subst hR
  exact ri hC hB rfl d_Book_count_4

set_option maxHeartbeats 400000 in
set_option maxRecDepth 100000 in
theorem c_Book_isWithinLimit  (σ : SC) (π : PJ)  : CM l y_Book_isWithinLimit b_Book_isWithinLimit 1 (some .boolean) { frames := 0, cells := 0, slots := 0, locals := 0 } D (tyL cI cL cQ) N0 [.ref (G 0 4)] (wsC G cI cL cQ σ π rest) (some (.int (bi (m_Book_isWithinLimit σ)))) (fun w => w = wsC G cI cL cQ σ π rest) 0 0 := by
  generalize hR : m_Book_isWithinLimit σ = RES
  refine met_of (own := R_Book) (by decide) rfl nwl_ok ?_
  intro p e s m below meth c hC hin hB
  have hx := hC.1
  have hb := hC.2.1
  have hl := lv_entry ([.ref (G 0 4)]) (n := 1) (Nat.le_of_ble_eq_true rfl)
  rw [lg_entry_eq]
  generalize (lg_sl ([.ref (G 0 4)]) ++ List.replicate (1 - (lg_sl ([.ref (G 0 4)])).length) Slot.unset).toArray = ls at hl ⊢
  have hl : lv_has ls 1 [(0, .ref (G 0 4))] := hl
  rw [m_Book_isWithinLimit] at hR
  refine lv_aload_n hx hb d_Book_isWithinLimit_0 rfl (lv_at hl 0 rfl) ?_
  refine gt hC hB _ lkC_Book rfl i_Book 7 (by decide) rfl kw_109 rfl d_Book_isWithinLimit_1 ?_
  refine lv_sipush (v := 300) hx hb d_Book_isWithinLimit_4 (by decide) ?_
  refine lv_icmp_gt (tgt := 14) hx hb d_Book_isWithinLimit_7 (by decide) (fun c_1 => ?_) (fun c_1 => ?_)
  · rw [if_pos c_1] at hR
    refine lv_iconst (v := 0) hx hb d_Book_isWithinLimit_14 (by decide) ?_
    subst hR
    exact rz (b := false) hC hB rfl d_Book_isWithinLimit_15
  · rw [if_neg c_1] at hR
    refine lv_iconst (v := 1) hx hb d_Book_isWithinLimit_10 (by decide) ?_
    refine lv_goto (tgt := 15) hx hb d_Book_isWithinLimit_11 (by decide) ?_
    subst hR
    exact rz (b := true) hC hB rfl d_Book_isWithinLimit_15

set_option maxHeartbeats 400000 in
set_option maxRecDepth 100000 in
theorem c_Book_sheetAt  (σ : SC) (π : PJ) (x0 : Int32) : CM l y_Book_sheetAt b_Book_sheetAt 2 (some .int) { frames := 1, cells := 0, slots := 0, locals := 21 } D (tyL cI cL cQ) N0 [.ref (G 0 4), .int x0] (wsC G cI cL cQ σ π rest) (some (.int (m_Book_sheetAt σ x0))) (fun w => w = wsC G cI cL cQ σ π rest) 0 0 := by
  generalize hR : m_Book_sheetAt σ x0 = RES
  refine met_of (own := R_Book) (by decide) rfl nwl_ok ?_
  intro p e s m below meth c hC hin hB
  have hx := hC.1
  have hb := hC.2.1
  have hl := lv_entry ([.ref (G 0 4), .int x0]) (n := 2) (Nat.le_of_ble_eq_true rfl)
  rw [lg_entry_eq]
  generalize (lg_sl ([.ref (G 0 4), .int x0]) ++ List.replicate (2 - (lg_sl ([.ref (G 0 4), .int x0])).length) Slot.unset).toArray = ls at hl ⊢
  have hl : lv_has ls 2 [(0, .ref (G 0 4)), (1, .int x0)] := hl
  rw [m_Book_sheetAt] at hR
  refine lv_aload_n hx hb d_Book_sheetAt_0 rfl (lv_at hl 0 rfl) ?_
  refine gt hC hB _ lkC_Book rfl i_Book 1 (by decide) rfl kw_103 rfl d_Book_sheetAt_1 ?_
  refine lv_iload_n hx hb d_Book_sheetAt_4 rfl (lv_at hl 1 rfl) ?_
  refine kSN hC hB (c_ST_read 0 (by decide) σ π x0) allw_ok mf_ST_read kw_214 nw_2 ⟨rfl, rfl, Nat.le_of_ble_eq_true rfl, Nat.le_of_ble_eq_true rfl⟩ rfl rfl hl.1 (Nat.le_of_ble_eq_true rfl) d_Book_sheetAt_5 ⟨Nat.le_of_ble_eq_true rfl, Nat.le_of_ble_eq_true rfl⟩ (roK fun H locs hB => ?_)
  subst hR
  exact ri hC hB rfl d_Book_sheetAt_8

set_option maxHeartbeats 400000 in
set_option maxRecDepth 100000 in
theorem c_Book_placementAt  (σ : SC) (π : PJ) (x0 : Int32) : CM l y_Book_placementAt b_Book_placementAt 2 (some .int) { frames := 1, cells := 0, slots := 0, locals := 21 } D (tyL cI cL cQ) N0 [.ref (G 0 4), .int x0] (wsC G cI cL cQ σ π rest) (some (.int (m_Book_placementAt σ x0))) (fun w => w = wsC G cI cL cQ σ π rest) 0 0 := by
  generalize hR : m_Book_placementAt σ x0 = RES
  refine met_of (own := R_Book) (by decide) rfl nwl_ok ?_
  intro p e s m below meth c hC hin hB
  have hx := hC.1
  have hb := hC.2.1
  have hl := lv_entry ([.ref (G 0 4), .int x0]) (n := 2) (Nat.le_of_ble_eq_true rfl)
  rw [lg_entry_eq]
  generalize (lg_sl ([.ref (G 0 4), .int x0]) ++ List.replicate (2 - (lg_sl ([.ref (G 0 4), .int x0])).length) Slot.unset).toArray = ls at hl ⊢
  have hl : lv_has ls 2 [(0, .ref (G 0 4)), (1, .int x0)] := hl
  rw [m_Book_placementAt] at hR
  refine lv_aload_n hx hb d_Book_placementAt_0 rfl (lv_at hl 0 rfl) ?_
  refine gt hC hB _ lkC_Book rfl i_Book 2 (by decide) rfl kw_104 rfl d_Book_placementAt_1 ?_
  refine lv_iload_n hx hb d_Book_placementAt_4 rfl (lv_at hl 1 rfl) ?_
  refine kSN hC hB (c_ST_read 1 (by decide) σ π x0) allw_ok mf_ST_read kw_214 nw_2 ⟨rfl, rfl, Nat.le_of_ble_eq_true rfl, Nat.le_of_ble_eq_true rfl⟩ rfl rfl hl.1 (Nat.le_of_ble_eq_true rfl) d_Book_placementAt_5 ⟨Nat.le_of_ble_eq_true rfl, Nat.le_of_ble_eq_true rfl⟩ (roK fun H locs hB => ?_)
  subst hR
  exact ri hC hB rfl d_Book_placementAt_8

set_option maxHeartbeats 400000 in
set_option maxRecDepth 100000 in
theorem c_Book_pageAbove  (σ : SC) (π : PJ) (x0 : Int32) : CM l y_Book_pageAbove b_Book_pageAbove 2 (some .int) { frames := 1, cells := 0, slots := 0, locals := 21 } D (tyL cI cL cQ) N0 [.ref (G 0 4), .int x0] (wsC G cI cL cQ σ π rest) (some (.int (m_Book_pageAbove σ x0))) (fun w => w = wsC G cI cL cQ σ π rest) 0 0 := by
  generalize hR : m_Book_pageAbove σ x0 = RES
  refine met_of (own := R_Book) (by decide) rfl nwl_ok ?_
  intro p e s m below meth c hC hin hB
  have hx := hC.1
  have hb := hC.2.1
  have hl := lv_entry ([.ref (G 0 4), .int x0]) (n := 2) (Nat.le_of_ble_eq_true rfl)
  rw [lg_entry_eq]
  generalize (lg_sl ([.ref (G 0 4), .int x0]) ++ List.replicate (2 - (lg_sl ([.ref (G 0 4), .int x0])).length) Slot.unset).toArray = ls at hl ⊢
  have hl : lv_has ls 2 [(0, .ref (G 0 4)), (1, .int x0)] := hl
  rw [m_Book_pageAbove] at hR
  refine lv_aload_n hx hb d_Book_pageAbove_0 rfl (lv_at hl 0 rfl) ?_
  refine gt hC hB _ lkC_Book rfl i_Book 3 (by decide) rfl kw_105 rfl d_Book_pageAbove_1 ?_
  refine lv_iload_n hx hb d_Book_pageAbove_4 rfl (lv_at hl 1 rfl) ?_
  refine kSN hC hB (c_ST_read 2 (by decide) σ π x0) allw_ok mf_ST_read kw_214 nw_2 ⟨rfl, rfl, Nat.le_of_ble_eq_true rfl, Nat.le_of_ble_eq_true rfl⟩ rfl rfl hl.1 (Nat.le_of_ble_eq_true rfl) d_Book_pageAbove_5 ⟨Nat.le_of_ble_eq_true rfl, Nat.le_of_ble_eq_true rfl⟩ (roK fun H locs hB => ?_)
  subst hR
  exact ri hC hB rfl d_Book_pageAbove_8

set_option maxHeartbeats 400000 in
set_option maxRecDepth 100000 in
theorem c_Book_depthAt  (σ : SC) (π : PJ) (x0 : Int32) : CM l y_Book_depthAt b_Book_depthAt 2 (some .int) { frames := 1, cells := 0, slots := 0, locals := 21 } D (tyL cI cL cQ) N0 [.ref (G 0 4), .int x0] (wsC G cI cL cQ σ π rest) (some (.int (m_Book_depthAt σ x0))) (fun w => w = wsC G cI cL cQ σ π rest) 0 0 := by
  generalize hR : m_Book_depthAt σ x0 = RES
  refine met_of (own := R_Book) (by decide) rfl nwl_ok ?_
  intro p e s m below meth c hC hin hB
  have hx := hC.1
  have hb := hC.2.1
  have hl := lv_entry ([.ref (G 0 4), .int x0]) (n := 2) (Nat.le_of_ble_eq_true rfl)
  rw [lg_entry_eq]
  generalize (lg_sl ([.ref (G 0 4), .int x0]) ++ List.replicate (2 - (lg_sl ([.ref (G 0 4), .int x0])).length) Slot.unset).toArray = ls at hl ⊢
  have hl : lv_has ls 2 [(0, .ref (G 0 4)), (1, .int x0)] := hl
  rw [m_Book_depthAt] at hR
  refine lv_aload_n hx hb d_Book_depthAt_0 rfl (lv_at hl 0 rfl) ?_
  refine gt hC hB _ lkC_Book rfl i_Book 4 (by decide) rfl kw_106 rfl d_Book_depthAt_1 ?_
  refine lv_iload_n hx hb d_Book_depthAt_4 rfl (lv_at hl 1 rfl) ?_
  refine kSN hC hB (c_ST_read 3 (by decide) σ π x0) allw_ok mf_ST_read kw_214 nw_2 ⟨rfl, rfl, Nat.le_of_ble_eq_true rfl, Nat.le_of_ble_eq_true rfl⟩ rfl rfl hl.1 (Nat.le_of_ble_eq_true rfl) d_Book_depthAt_5 ⟨Nat.le_of_ble_eq_true rfl, Nat.le_of_ble_eq_true rfl⟩ (roK fun H locs hB => ?_)
  subst hR
  exact ri hC hB rfl d_Book_depthAt_8

set_option maxHeartbeats 400000 in
set_option maxRecDepth 100000 in
theorem c_Book_comingAt  (σ : SC) (π : PJ) (x0 : Int32) : CM l y_Book_comingAt b_Book_comingAt 2 (some .int) { frames := 1, cells := 0, slots := 0, locals := 21 } D (tyL cI cL cQ) N0 [.ref (G 0 4), .int x0] (wsC G cI cL cQ σ π rest) (some (.int (m_Book_comingAt σ x0))) (fun w => w = wsC G cI cL cQ σ π rest) 0 0 := by
  generalize hR : m_Book_comingAt σ x0 = RES
  refine met_of (own := R_Book) (by decide) rfl nwl_ok ?_
  intro p e s m below meth c hC hin hB
  have hx := hC.1
  have hb := hC.2.1
  have hl := lv_entry ([.ref (G 0 4), .int x0]) (n := 2) (Nat.le_of_ble_eq_true rfl)
  rw [lg_entry_eq]
  generalize (lg_sl ([.ref (G 0 4), .int x0]) ++ List.replicate (2 - (lg_sl ([.ref (G 0 4), .int x0])).length) Slot.unset).toArray = ls at hl ⊢
  have hl : lv_has ls 2 [(0, .ref (G 0 4)), (1, .int x0)] := hl
  rw [m_Book_comingAt] at hR
  refine lv_aload_n hx hb d_Book_comingAt_0 rfl (lv_at hl 0 rfl) ?_
  refine gt hC hB _ lkC_Book rfl i_Book 5 (by decide) rfl kw_107 rfl d_Book_comingAt_1 ?_
  refine lv_iload_n hx hb d_Book_comingAt_4 rfl (lv_at hl 1 rfl) ?_
  refine kSN hC hB (c_ST_read 4 (by decide) σ π x0) allw_ok mf_ST_read kw_214 nw_2 ⟨rfl, rfl, Nat.le_of_ble_eq_true rfl, Nat.le_of_ble_eq_true rfl⟩ rfl rfl hl.1 (Nat.le_of_ble_eq_true rfl) d_Book_comingAt_5 ⟨Nat.le_of_ble_eq_true rfl, Nat.le_of_ble_eq_true rfl⟩ (roK fun H locs hB => ?_)
  subst hR
  exact ri hC hB rfl d_Book_comingAt_8

set_option maxHeartbeats 400000 in
set_option maxRecDepth 100000 in
theorem c_Book_comingsOf  (σ : SC) (π : PJ) (x0 : Int32) : CM l y_Book_comingsOf b_Book_comingsOf 2 (some .int) { frames := 1, cells := 0, slots := 0, locals := 21 } D (tyL cI cL cQ) N0 [.ref (G 0 4), .int x0] (wsC G cI cL cQ σ π rest) (some (.int (m_Book_comingsOf σ x0))) (fun w => w = wsC G cI cL cQ σ π rest) 0 0 := by
  generalize hR : m_Book_comingsOf σ x0 = RES
  refine met_of (own := R_Book) (by decide) rfl nwl_ok ?_
  intro p e s m below meth c hC hin hB
  have hx := hC.1
  have hb := hC.2.1
  have hl := lv_entry ([.ref (G 0 4), .int x0]) (n := 2) (Nat.le_of_ble_eq_true rfl)
  rw [lg_entry_eq]
  generalize (lg_sl ([.ref (G 0 4), .int x0]) ++ List.replicate (2 - (lg_sl ([.ref (G 0 4), .int x0])).length) Slot.unset).toArray = ls at hl ⊢
  have hl : lv_has ls 2 [(0, .ref (G 0 4)), (1, .int x0)] := hl
  rw [m_Book_comingsOf] at hR
  refine lv_aload_n hx hb d_Book_comingsOf_0 rfl (lv_at hl 0 rfl) ?_
  refine gt hC hB _ lkC_Book rfl i_Book 6 (by decide) rfl kw_108 rfl d_Book_comingsOf_1 ?_
  refine lv_iload_n hx hb d_Book_comingsOf_4 rfl (lv_at hl 1 rfl) ?_
  refine kSN hC hB (c_ST_read 5 (by decide) σ π x0) allw_ok mf_ST_read kw_214 nw_2 ⟨rfl, rfl, Nat.le_of_ble_eq_true rfl, Nat.le_of_ble_eq_true rfl⟩ rfl rfl hl.1 (Nat.le_of_ble_eq_true rfl) d_Book_comingsOf_5 ⟨Nat.le_of_ble_eq_true rfl, Nat.le_of_ble_eq_true rfl⟩ (roK fun H locs hB => ?_)
  refine lv_iconst (v := 0) hx hb d_Book_comingsOf_8 (by decide) ?_
  refine va_mmax hx hb (hC.2.2.2.1.trans hl.1.symm) hC.2.2.2.2.1 (hC.2.2.2.2.2.1 _ kw_216) (hC.2.2.2.2.2.1 _ kw_59) (hC.2.2.2.2.2.1 _ kw_5) (hC.2.2.2.2.2.1 _ kw_60) (Nat.le_of_ble_eq_true rfl) (Nat.le_of_ble_eq_true rfl) (Nat.le_of_ble_eq_true rfl) (Nat.le_of_ble_eq_true rfl) d_Book_comingsOf_9 ?_
  subst hR
  exact ri hC hB rfl d_Book_comingsOf_12

set_option maxHeartbeats 400000 in
set_option maxRecDepth 100000 in
theorem c_Book_addPage  (σ : SC) (π : PJ) (x0 : Int32) (x1 : Int32) (x2 : Int32) (x3 : Int32) : CM l y_Book_addPage b_Book_addPage 6 (some .int) { frames := 2, cells := 0, slots := 0, locals := 42 } D (tyL cI cL cQ) N0 [.ref (G 0 4), .int x0, .int x1, .int x2, .int x3] (wsC G cI cL cQ σ π rest) (some (.int ((m_Book_addPage σ x0 x1 x2 x3).1))) (fun w => w = wsC G cI cL cQ ((m_Book_addPage σ x0 x1 x2 x3).2) π rest) 0 0 := by
  generalize hR : m_Book_addPage σ x0 x1 x2 x3 = RES
  obtain ⟨RV, RS⟩ := RES
  dsimp only
  refine met_of (own := R_Book) (by decide) rfl nwl_ok ?_
  intro p e s m below meth c hC hin hB
  have hx := hC.1
  have hb := hC.2.1
  have hl := lv_entry ([.ref (G 0 4), .int x0, .int x1, .int x2, .int x3]) (n := 6) (Nat.le_of_ble_eq_true rfl)
  rw [lg_entry_eq]
  generalize (lg_sl ([.ref (G 0 4), .int x0, .int x1, .int x2, .int x3]) ++ List.replicate (6 - (lg_sl ([.ref (G 0 4), .int x0, .int x1, .int x2, .int x3])).length) Slot.unset).toArray = ls at hl ⊢
  have hl : lv_has ls 6 [(0, .ref (G 0 4)), (1, .int x0), (2, .int x1), (3, .int x2), (4, .int x3)] := hl
  rw [m_Book_addPage] at hR
  refine lv_aload_n hx hb d_Book_addPage_0 rfl (lv_at hl 0 rfl) ?_
  refine gt hC hB _ lkC_Book rfl i_Book 7 (by decide) rfl kw_109 rfl d_Book_addPage_1 ?_
  refine lv_istore (lv' := [(5, .int (xn σ 2)), (0, .ref (G 0 4)), (1, .int x0), (2, .int x1), (3, .int x2), (4, .int x3)]) hx hb d_Book_addPage_4 hl (by decide) rfl (fun ls hl => ?_)
  refine lv_aload_n hx hb d_Book_addPage_6 rfl (lv_at hl 1 rfl) ?_
  refine gt hC hB _ lkC_Book rfl i_Book 1 (by decide) rfl kw_103 rfl d_Book_addPage_7 ?_
  refine lv_iload hx hb d_Book_addPage_10 (lv_at hl 0 rfl) ?_
  refine lv_iload_n hx hb d_Book_addPage_12 rfl (lv_at hl 2 rfl) ?_
  refine kSN hC hB (c_ST_write 0 (by decide) σ π (xn σ 2) x0) allw_ok mf_ST_write kw_207 nw_1 ⟨rfl, rfl, Nat.le_of_ble_eq_true rfl, Nat.le_of_ble_eq_true rfl⟩ rfl rfl hl.1 (Nat.le_of_ble_eq_true rfl) d_Book_addPage_13 ⟨Nat.le_of_ble_eq_true rfl, Nat.le_of_ble_eq_true rfl⟩ (roK fun H locs hB => ?_)
  refine lv_aload_n hx hb d_Book_addPage_16 rfl (lv_at hl 1 rfl) ?_
  refine gt hC hB _ lkC_Book rfl i_Book 2 (by decide) rfl kw_104 rfl d_Book_addPage_17 ?_
  refine lv_iload hx hb d_Book_addPage_20 (lv_at hl 0 rfl) ?_
  refine lv_iload_n hx hb d_Book_addPage_22 rfl (lv_at hl 3 rfl) ?_
  refine kSN hC hB (c_ST_write 1 (by decide) (m_ST_write σ 0 (xn σ 2) x0) π (xn σ 2) x1) allw_ok mf_ST_write kw_207 nw_1 ⟨rfl, rfl, Nat.le_of_ble_eq_true rfl, Nat.le_of_ble_eq_true rfl⟩ rfl rfl hl.1 (Nat.le_of_ble_eq_true rfl) d_Book_addPage_23 ⟨Nat.le_of_ble_eq_true rfl, Nat.le_of_ble_eq_true rfl⟩ (roK fun H locs hB => ?_)
  refine lv_aload_n hx hb d_Book_addPage_26 rfl (lv_at hl 1 rfl) ?_
  refine gt hC hB _ lkC_Book rfl i_Book 3 (by decide) rfl kw_105 rfl d_Book_addPage_27 ?_
  refine lv_iload hx hb d_Book_addPage_30 (lv_at hl 0 rfl) ?_
  refine lv_iload_n hx hb d_Book_addPage_32 rfl (lv_at hl 4 rfl) ?_
  refine kSN hC hB (c_ST_write 2 (by decide) (m_ST_write (m_ST_write σ 0 (xn σ 2) x0) 1 (xn σ 2) x1) π (xn σ 2) x2) allw_ok mf_ST_write kw_207 nw_1 ⟨rfl, rfl, Nat.le_of_ble_eq_true rfl, Nat.le_of_ble_eq_true rfl⟩ rfl rfl hl.1 (Nat.le_of_ble_eq_true rfl) d_Book_addPage_33 ⟨Nat.le_of_ble_eq_true rfl, Nat.le_of_ble_eq_true rfl⟩ (roK fun H locs hB => ?_)
  refine lv_aload_n hx hb d_Book_addPage_36 rfl (lv_at hl 1 rfl) ?_
  refine gt hC hB _ lkC_Book rfl i_Book 4 (by decide) rfl kw_106 rfl d_Book_addPage_37 ?_
  refine lv_iload hx hb d_Book_addPage_40 (lv_at hl 0 rfl) ?_
  refine lv_iload hx hb d_Book_addPage_42 (lv_at hl 5 rfl) ?_
  refine kSN hC hB (c_ST_write 3 (by decide) (m_ST_write (m_ST_write (m_ST_write σ 0 (xn σ 2) x0) 1 (xn σ 2) x1) 2 (xn σ 2) x2) π (xn σ 2) x3) allw_ok mf_ST_write kw_207 nw_1 ⟨rfl, rfl, Nat.le_of_ble_eq_true rfl, Nat.le_of_ble_eq_true rfl⟩ rfl rfl hl.1 (Nat.le_of_ble_eq_true rfl) d_Book_addPage_44 ⟨Nat.le_of_ble_eq_true rfl, Nat.le_of_ble_eq_true rfl⟩ (roK fun H locs hB => ?_)
  refine lv_aload_n hx hb d_Book_addPage_47 rfl (lv_at hl 1 rfl) ?_
  refine gt hC hB _ lkC_Book rfl i_Book 5 (by decide) rfl kw_107 rfl d_Book_addPage_48 ?_
  refine lv_iload hx hb d_Book_addPage_51 (lv_at hl 0 rfl) ?_
  refine lv_aload_n hx hb d_Book_addPage_53 rfl (lv_at hl 1 rfl) ?_
  refine lv_iload_n hx hb d_Book_addPage_54 rfl (lv_at hl 2 rfl) ?_
  refine kV hC hB _ lkC_Book rfl (c_Book_comingsOf (m_ST_write (m_ST_write (m_ST_write (m_ST_write σ 0 (xn σ 2) x0) 1 (xn σ 2) x1) 2 (xn σ 2) x2) 3 (xn σ 2) x3) π x0) allw_ok mf_Book_comingsOf kw_210 kw_211 kw_209 ⟨rfl, rfl, Nat.le_of_ble_eq_true rfl, Nat.le_of_ble_eq_true rfl⟩ rfl rfl hl.1 (Nat.le_of_ble_eq_true rfl) d_Book_addPage_55 ⟨Nat.le_of_ble_eq_true rfl, Nat.le_of_ble_eq_true rfl⟩ (roK fun H locs hB => ?_)
  refine kSN hC hB (c_ST_write 4 (by decide) (m_ST_write (m_ST_write (m_ST_write (m_ST_write σ 0 (xn σ 2) x0) 1 (xn σ 2) x1) 2 (xn σ 2) x2) 3 (xn σ 2) x3) π (xn σ 2) (m_Book_comingsOf (m_ST_write (m_ST_write (m_ST_write (m_ST_write σ 0 (xn σ 2) x0) 1 (xn σ 2) x1) 2 (xn σ 2) x2) 3 (xn σ 2) x3) x0)) allw_ok mf_ST_write kw_207 nw_1 ⟨rfl, rfl, Nat.le_of_ble_eq_true rfl, Nat.le_of_ble_eq_true rfl⟩ rfl rfl hl.1 (Nat.le_of_ble_eq_true rfl) d_Book_addPage_58 ⟨Nat.le_of_ble_eq_true rfl, Nat.le_of_ble_eq_true rfl⟩ (roK fun H locs hB => ?_)
  refine lv_aload_n hx hb d_Book_addPage_61 rfl (lv_at hl 1 rfl) ?_
  refine gt hC hB _ lkC_Book rfl i_Book 6 (by decide) rfl kw_108 rfl d_Book_addPage_62 ?_
  refine lv_iload_n hx hb d_Book_addPage_65 rfl (lv_at hl 2 rfl) ?_
  refine lv_aload_n hx hb d_Book_addPage_66 rfl (lv_at hl 1 rfl) ?_
  refine lv_iload_n hx hb d_Book_addPage_67 rfl (lv_at hl 2 rfl) ?_
  refine kV hC hB _ lkC_Book rfl (c_Book_comingsOf (m_ST_write (m_ST_write (m_ST_write (m_ST_write (m_ST_write σ 0 (xn σ 2) x0) 1 (xn σ 2) x1) 2 (xn σ 2) x2) 3 (xn σ 2) x3) 4 (xn σ 2) (m_Book_comingsOf (m_ST_write (m_ST_write (m_ST_write (m_ST_write σ 0 (xn σ 2) x0) 1 (xn σ 2) x1) 2 (xn σ 2) x2) 3 (xn σ 2) x3) x0)) π x0) allw_ok mf_Book_comingsOf kw_210 kw_211 kw_209 ⟨rfl, rfl, Nat.le_of_ble_eq_true rfl, Nat.le_of_ble_eq_true rfl⟩ rfl rfl hl.1 (Nat.le_of_ble_eq_true rfl) d_Book_addPage_68 ⟨Nat.le_of_ble_eq_true rfl, Nat.le_of_ble_eq_true rfl⟩ (roK fun H locs hB => ?_)
  refine lv_iconst (v := 1) hx hb d_Book_addPage_71 (by decide) ?_
  refine lv_iadd hx hb d_Book_addPage_72 ?_
  refine kSN hC hB (c_ST_write 5 (by decide) (m_ST_write (m_ST_write (m_ST_write (m_ST_write (m_ST_write σ 0 (xn σ 2) x0) 1 (xn σ 2) x1) 2 (xn σ 2) x2) 3 (xn σ 2) x3) 4 (xn σ 2) (m_Book_comingsOf (m_ST_write (m_ST_write (m_ST_write (m_ST_write σ 0 (xn σ 2) x0) 1 (xn σ 2) x1) 2 (xn σ 2) x2) 3 (xn σ 2) x3) x0)) π x0 ((m_Book_comingsOf (m_ST_write (m_ST_write (m_ST_write (m_ST_write (m_ST_write σ 0 (xn σ 2) x0) 1 (xn σ 2) x1) 2 (xn σ 2) x2) 3 (xn σ 2) x3) 4 (xn σ 2) (m_Book_comingsOf (m_ST_write (m_ST_write (m_ST_write (m_ST_write σ 0 (xn σ 2) x0) 1 (xn σ 2) x1) 2 (xn σ 2) x2) 3 (xn σ 2) x3) x0)) x0) + 1)) allw_ok mf_ST_write kw_207 nw_1 ⟨rfl, rfl, Nat.le_of_ble_eq_true rfl, Nat.le_of_ble_eq_true rfl⟩ rfl rfl hl.1 (Nat.le_of_ble_eq_true rfl) d_Book_addPage_73 ⟨Nat.le_of_ble_eq_true rfl, Nat.le_of_ble_eq_true rfl⟩ (roK fun H locs hB => ?_)
  refine lv_aload_n hx hb d_Book_addPage_76 rfl (lv_at hl 1 rfl) ?_
  refine lv_dup hx hb d_Book_addPage_77 rfl ?_
  refine gt hC hB _ lkC_Book rfl i_Book 7 (by decide) rfl kw_109 rfl d_Book_addPage_78 ?_
  refine lv_iconst (v := 1) hx hb d_Book_addPage_81 (by decide) ?_
  refine lv_iadd hx hb d_Book_addPage_82 ?_
  refine pt (ty := .int) hC hB _ lkC_Book rfl i_Book t_Book t_Book_ok n_Book 7 (by decide) rfl rfl kw_109 (by decide +kernel) rfl rfl (Nat.le_of_ble_eq_true rfl) d_Book_addPage_83 (ws' := wsC G cI cL cQ (zn (m_ST_write (m_ST_write (m_ST_write (m_ST_write (m_ST_write (m_ST_write σ 0 (xn σ 2) x0) 1 (xn σ 2) x1) 2 (xn σ 2) x2) 3 (xn σ 2) x3) 4 (xn σ 2) (m_Book_comingsOf (m_ST_write (m_ST_write (m_ST_write (m_ST_write σ 0 (xn σ 2) x0) 1 (xn σ 2) x1) 2 (xn σ 2) x2) 3 (xn σ 2) x3) x0)) 5 x0 ((m_Book_comingsOf (m_ST_write (m_ST_write (m_ST_write (m_ST_write (m_ST_write σ 0 (xn σ 2) x0) 1 (xn σ 2) x1) 2 (xn σ 2) x2) 3 (xn σ 2) x3) 4 (xn σ 2) (m_Book_comingsOf (m_ST_write (m_ST_write (m_ST_write (m_ST_write σ 0 (xn σ 2) x0) 1 (xn σ 2) x1) 2 (xn σ 2) x2) 3 (xn σ 2) x3) x0)) x0) + 1)) 2 ((xn (m_ST_write (m_ST_write (m_ST_write (m_ST_write (m_ST_write (m_ST_write σ 0 (xn σ 2) x0) 1 (xn σ 2) x1) 2 (xn σ 2) x2) 3 (xn σ 2) x3) 4 (xn σ 2) (m_Book_comingsOf (m_ST_write (m_ST_write (m_ST_write (m_ST_write σ 0 (xn σ 2) x0) 1 (xn σ 2) x1) 2 (xn σ 2) x2) 3 (xn σ 2) x3) x0)) 5 x0 ((m_Book_comingsOf (m_ST_write (m_ST_write (m_ST_write (m_ST_write (m_ST_write σ 0 (xn σ 2) x0) 1 (xn σ 2) x1) 2 (xn σ 2) x2) 3 (xn σ 2) x3) 4 (xn σ 2) (m_Book_comingsOf (m_ST_write (m_ST_write (m_ST_write (m_ST_write σ 0 (xn σ 2) x0) 1 (xn σ 2) x1) 2 (xn σ 2) x2) 3 (xn σ 2) x3) x0)) x0) + 1)) 2) + 1)) π rest) setC_n2 (fun H locs hB => ?_)
  refine lv_iload hx hb d_Book_addPage_86 (lv_at hl 0 rfl) ?_
  obtain ⟨rfl, rfl⟩ := Prod.mk.inj hR
  exact ri hC hB rfl d_Book_addPage_88

set_option maxHeartbeats 400000 in
set_option maxRecDepth 100000 in
theorem w_Book_pageOfComing_2 {p : Program} {e : Env} {s : State} {m : MethodId} {args : Array Value} {below : List Frame} {meth : Method} {c : Code} {RES : Int32}  (σ : SC) (π : PJ) (hC : cx D classes (tyL cI cL cQ) NWL ALLW N0 p s m args meth c b_Book_pageOfComing 4 (some .int) R_Book) :
    ∀ (n : Nat) (v1 : Int32) (v2 : Int32) (v3 : Int32), upI n (xn σ 2) v3 → lp_Book_pageOfComing_2 n σ  v1 v2 v3 = RES → ∀ (H : Heap) (locs : List Loc), bd D classes N0 (wsC G cI cL cQ σ π rest) s H locs → ∀ (ls : Array Slot), lv_has ls 4 [(0, .ref (G 0 4)), (1, .int v1), (2, .int v2), (3, .int v3)] → W p l e { frames := 2, cells := 0, slots := 0, locals := 42 } s m args below meth c H locs 0 0 (MQ below (qx D classes N0 (some (.int RES)) (fun w => w = wsC G cI cL cQ σ π rest)) args s 0 0 (ga N0)) (F0 m 2 ls []) := by
  have hx := hC.1
  have hb := hC.2.1
  intro n
  induction n with
  | zero =>
    intro v1 v2 v3 hI
    exact absurd hI up_zero
  | succ n ih =>
    intro v1 v2 v3 hI hR H locs hB ls hl
    rw [lp_Book_pageOfComing_2] at hR
    refine lv_iload_n hx hb d_Book_pageOfComing_2 rfl (lv_at hl 3 rfl) ?_
    refine lv_aload_n hx hb d_Book_pageOfComing_3 rfl (lv_at hl 0 rfl) ?_
    refine gt hC hB _ lkC_Book rfl i_Book 7 (by decide) rfl kw_109 rfl d_Book_pageOfComing_4 ?_
    refine lv_icmp_ge (tgt := 36) hx hb d_Book_pageOfComing_7 (by decide) (fun c_1 => ?_) (fun c_1 => ?_)
    · rw [if_pos c_1] at hR
      refine lv_iconst (v := (-1)) hx hb d_Book_pageOfComing_36 (by decide) ?_
      subst hR
      exact ri hC hB rfl d_Book_pageOfComing_37
    · rw [if_neg c_1] at hR
      refine lv_aload_n hx hb d_Book_pageOfComing_10 rfl (lv_at hl 0 rfl) ?_
      refine lv_iload_n hx hb d_Book_pageOfComing_11 rfl (lv_at hl 3 rfl) ?_
      refine kV hC hB _ lkC_Book rfl (c_Book_sheetAt σ π v3) allw_ok mf_Book_sheetAt kw_218 kw_219 kw_217 ⟨rfl, rfl, Nat.le_of_ble_eq_true rfl, Nat.le_of_ble_eq_true rfl⟩ rfl rfl hl.1 (Nat.le_of_ble_eq_true rfl) d_Book_pageOfComing_12 ⟨Nat.le_of_ble_eq_true rfl, Nat.le_of_ble_eq_true rfl⟩ (roK fun H locs hB => ?_)
      refine lv_iload_n hx hb d_Book_pageOfComing_15 rfl (lv_at hl 1 rfl) ?_
      refine lv_icmp_ne (tgt := 30) hx hb d_Book_pageOfComing_16 (by decide) (fun c_2 => ?_) (fun c_2 => ?_)
      · rw [if_neg c_2] at hR
        refine lv_iinc (v := (v3 + 1)) (lv' := [(3, .int (v3 + 1)), (0, .ref (G 0 4)), (1, .int v1), (2, .int v2)]) hx hb d_Book_pageOfComing_30 hl (k := 3) rfl rfl (by decide) rfl (fun ls hl => ?_)
        refine lv_goto (tgt := 2) hx hb d_Book_pageOfComing_33 (by decide) ?_
        exact ih v1 v2 (v3 + 1) (up_step hI (by assumption)) hR _ _ hB ls (lv_sub hl [1, 2, 3, 0] rfl)
      · rw [if_pos c_2] at hR
        refine lv_aload_n hx hb d_Book_pageOfComing_19 rfl (lv_at hl 0 rfl) ?_
        refine lv_iload_n hx hb d_Book_pageOfComing_20 rfl (lv_at hl 3 rfl) ?_
        refine kV hC hB _ lkC_Book rfl (c_Book_comingAt σ π v3) allw_ok mf_Book_comingAt kw_851 kw_852 kw_850 ⟨rfl, rfl, Nat.le_of_ble_eq_true rfl, Nat.le_of_ble_eq_true rfl⟩ rfl rfl hl.1 (Nat.le_of_ble_eq_true rfl) d_Book_pageOfComing_21 ⟨Nat.le_of_ble_eq_true rfl, Nat.le_of_ble_eq_true rfl⟩ (roK fun H locs hB => ?_)
        refine lv_iload_n hx hb d_Book_pageOfComing_24 rfl (lv_at hl 2 rfl) ?_
        refine lv_icmp_ne (tgt := 30) hx hb d_Book_pageOfComing_25 (by decide) (fun c_3 => ?_) (fun c_3 => ?_)
        · rw [if_neg c_3] at hR
          refine lv_iinc (v := (v3 + 1)) (lv' := [(3, .int (v3 + 1)), (0, .ref (G 0 4)), (1, .int v1), (2, .int v2)]) hx hb d_Book_pageOfComing_30 hl (k := 3) rfl rfl (by decide) rfl (fun ls hl => ?_)
          refine lv_goto (tgt := 2) hx hb d_Book_pageOfComing_33 (by decide) ?_
          exact ih v1 v2 (v3 + 1) (up_step hI (by assumption)) hR _ _ hB ls (lv_sub hl [1, 2, 3, 0] rfl)
        · rw [if_pos c_3] at hR
          refine lv_iload_n hx hb d_Book_pageOfComing_28 rfl (lv_at hl 3 rfl) ?_
          subst hR
          exact ri hC hB rfl d_Book_pageOfComing_29

set_option maxHeartbeats 400000 in
set_option maxRecDepth 100000 in
theorem c_Book_pageOfComing  (σ : SC) (π : PJ) (x0 : Int32) (x1 : Int32) : CM l y_Book_pageOfComing b_Book_pageOfComing 4 (some .int) { frames := 2, cells := 0, slots := 0, locals := 42 } D (tyL cI cL cQ) N0 [.ref (G 0 4), .int x0, .int x1] (wsC G cI cL cQ σ π rest) (some (.int (m_Book_pageOfComing σ x0 x1))) (fun w => w = wsC G cI cL cQ σ π rest) 0 0 := by
  generalize hR : m_Book_pageOfComing σ x0 x1 = RES
  refine met_of (own := R_Book) (by decide) rfl nwl_ok ?_
  intro p e s m below meth c hC hin hB
  have hx := hC.1
  have hb := hC.2.1
  have hl := lv_entry ([.ref (G 0 4), .int x0, .int x1]) (n := 4) (Nat.le_of_ble_eq_true rfl)
  rw [lg_entry_eq]
  generalize (lg_sl ([.ref (G 0 4), .int x0, .int x1]) ++ List.replicate (4 - (lg_sl ([.ref (G 0 4), .int x0, .int x1])).length) Slot.unset).toArray = ls at hl ⊢
  have hl : lv_has ls 4 [(0, .ref (G 0 4)), (1, .int x0), (2, .int x1)] := hl
  rw [m_Book_pageOfComing] at hR
  refine lv_iconst (v := 0) hx hb d_Book_pageOfComing_0 (by decide) ?_
  refine lv_istore_n (lv' := [(3, .int 0), (0, .ref (G 0 4)), (1, .int x0), (2, .int x1)]) hx hb d_Book_pageOfComing_1 rfl hl (by decide) rfl (fun ls hl => ?_)
  exact w_Book_pageOfComing_2  σ π hC ((xn σ 2).toNatClampNeg + 1) x0 x1 0 (up_init _) hR _ _ hB ls (lv_sub hl [1, 2, 3, 0] rfl)
end SC
end
section
def m_Parts_isPart (σ : SC) (x0 : Int32) : Bool :=
  if x0 < 0 then
    false
  else
    if (m_Row_at σ 6 0) ≤ x0 then
      false
    else
      true

def m_Parts_partsLeft (σ : SC) : Int32 :=
  (30 - (m_Row_at σ 6 0))

def m_Parts_letterOf (σ : SC) (x0 : Int32) : Int32 :=
  (m_Row_at σ 7 x0)

def m_Parts_gateCount (σ : SC) (x0 : Int32) : Int32 :=
  (m_Row_at σ 8 x0)

def m_Parts_sheetOfGate (σ : SC) (x0 : Int32) (x1 : Int32) : Int32 :=
  (m_Row_at σ 9 ((x0 * 8) + x1))

def m_Parts_gatesOn (σ : SC) (x0 : Int32) : Int32 :=
  (m_Row_at σ 11 x0)

def m_Parts_gateAt (σ : SC) (x0 : Int32) (x1 : Int32) : Int32 :=
  (m_Row_at σ 10 ((x0 * 20) + x1))

def m_Parts_partAt (σ : SC) (x0 : Int32) (x1 : Int32) : Int32 :=
  ((m_Parts_gateAt σ x0 x1) / 8)

def lp_Parts_unitCount_4 : Nat → SC → Int32 → Int32 → Int32 → Int32
  | 0, σ, _, _, _ => 0
  | n + 1, σ, v1, v2, v3 =>
    if (m_Parts_gateCount σ v1) ≤ v3 then
      v2
    else
      lp_Parts_unitCount_4 n σ v1 (if v2 < (m_Book_comingsOf σ (m_Parts_sheetOfGate σ v1 v3)) then (m_Book_comingsOf σ (m_Parts_sheetOfGate σ v1 v3)) else v2) (v3 + 1)

def m_Parts_unitCount (σ : SC) (x0 : Int32) : Int32 :=
  lp_Parts_unitCount_4 ((m_Parts_gateCount σ x0).toNatClampNeg + 1) σ x0 0 0

def lp_Parts_partsOn_12 : Nat → SC → Int32 → Int32 → Int32 → Int32 × SC
  | 0, σ, _, _, _ => (0, σ)
  | n + 1, σ, v1, v2, v3 =>
    if (m_Parts_gatesOn σ v1) ≤ v3 then
      (v2, σ)
    else
      if (m_ST_read σ 6 (m_Parts_partAt σ v1 v3)) = (-1) then
        lp_Parts_partsOn_12 n (m_ST_write σ 6 (m_Parts_partAt σ v1 v3) (m_Parts_partAt σ v1 v3)) v1 (v2 + 1) (v3 + 1)
      else
        lp_Parts_partsOn_12 n σ v1 v2 (v3 + 1)

def m_Parts_partsOn (σ : SC) (x0 : Int32) : Int32 × SC :=
  lp_Parts_partsOn_12 ((m_Parts_gatesOn (m_Arrays_fillI σ 6 (-1)) x0).toNatClampNeg + 1) (m_Arrays_fillI σ 6 (-1)) x0 0 0

def lp_Parts_newUnitsAt_26 : Nat → SC → Int32 → Int32 → Int32 → Int32 → Int32 → Int32 → Int32 → Int32 × SC
  | 0, σ, _, _, _, _, _, _, _ => (0, σ)
  | n + 1, σ, v1, v2, v3, v4, v5, v6, v7 =>
    if (m_Parts_gatesOn σ v4) ≤ v7 then
      (v6, σ)
    else
      if (m_Parts_letterOf σ (m_Parts_partAt σ v4 v7)) = (m_Parts_letterOf σ v2) then
        if (m_ST_read σ 6 (m_Parts_partAt σ v4 v7)) = v5 then
          if (m_Parts_partAt σ v4 v7) = v2 then
            if v5 = v3 then
              ((v6 + 1), (m_ST_write σ 6 (m_Parts_partAt σ v4 v7) (v5 + 1)))
            else
              lp_Parts_newUnitsAt_26 n (m_ST_write σ 6 (m_Parts_partAt σ v4 v7) (v5 + 1)) v1 v2 v3 v4 v5 (v6 + 1) (v7 + 1)
          else
            lp_Parts_newUnitsAt_26 n (m_ST_write σ 6 (m_Parts_partAt σ v4 v7) (v5 + 1)) v1 v2 v3 v4 v5 (v6 + 1) (v7 + 1)
        else
          lp_Parts_newUnitsAt_26 n σ v1 v2 v3 v4 v5 v6 (v7 + 1)
      else
        lp_Parts_newUnitsAt_26 n σ v1 v2 v3 v4 v5 v6 (v7 + 1)

def m_Parts_newUnitsAt (σ : SC) (x0 : Int32) (x1 : Int32) (x2 : Int32) : Int32 × SC :=
  lp_Parts_newUnitsAt_26 ((m_Parts_gatesOn σ (m_Book_sheetAt σ x0)).toNatClampNeg + 1) σ x0 x1 x2 (m_Book_sheetAt σ x0) (m_Book_comingAt σ x0) 0 0

def lp_Parts_numberOf_14 : Nat → SC → Int32 → Int32 → Bool → Int32 → Int32 → Int32 × SC
  | 0, σ, _, _, _, _, _ => (0, σ)
  | n + 1, σ, v1, v2, v3, v4, v5 =>
    if (m_Book_count σ) ≤ v5 then
      ((-1), σ)
    else
      if (bi v3) = 0 then
        if (m_ST_read ((m_Parts_newUnitsAt σ v5 v1 v2).2) 6 v1) ≤ v2 then
          lp_Parts_numberOf_14 n ((m_Parts_newUnitsAt σ v5 v1 v2).2) v1 v2 v3 (v4 + (m_Parts_newUnitsAt σ v5 v1 v2).1) (v5 + 1)
        else
          ((v4 + (m_Parts_newUnitsAt σ v5 v1 v2).1), (m_Parts_newUnitsAt σ v5 v1 v2).2)
      else
        if (m_ST_read ((m_Parts_newUnitsAt σ v5 v1 v2).2) 6 v1) ≤ v2 then
          lp_Parts_numberOf_14 n ((m_Parts_newUnitsAt σ v5 v1 v2).2) v1 v2 v3 ((v5 * 100) + (m_Parts_newUnitsAt σ v5 v1 v2).1) (v5 + 1)
        else
          (((v5 * 100) + (m_Parts_newUnitsAt σ v5 v1 v2).1), (m_Parts_newUnitsAt σ v5 v1 v2).2)

def m_Parts_numberOf (σ : SC) (x0 : Int32) (x1 : Int32) (x2 : Bool) : Int32 × SC :=
  lp_Parts_numberOf_14 ((m_Book_count (m_Arrays_fillI σ 6 0)).toNatClampNeg + 1) (m_Arrays_fillI σ 6 0) x0 x1 x2 0 0

def m_Parts_addPart (σ : SC) (x0 : Int32) (x1 : Int32) : Int32 × SC :=
  ((m_Row_at σ 6 0), (m_Row_set (m_Row_set (m_Row_set σ 6 0 (((m_Row_at σ 6 0) + 1).toInt64)) 7 (m_Row_at σ 6 0) x0.toInt64) 8 (m_Row_at σ 6 0) x1.toInt64))

def m_Parts_layGate (σ : SC) (x0 : Int32) (x1 : Int32) (x2 : Int32) : SC :=
  (m_Row_set (m_Row_set (m_Row_set σ 9 ((x1 * 8) + x2) x0.toInt64) 10 ((x0 * 20) + (m_Parts_gatesOn σ x0)) (((x1 * 8) + x2).toInt64)) 11 x0 (((m_Parts_gatesOn σ x0) + 1).toInt64))

/-! what stays where marks are written -/
theorem fr_write (σ : SC) (j : Nat) (x y : Int32) : (m_ST_write σ j x y).1 = σ.1 ∧ (m_ST_write σ j x y).2.2 = σ.2.2 := by
  unfold m_ST_write
  split
  · exact ⟨rfl, rfl⟩
  · split <;> exact ⟨rfl, rfl⟩
theorem at_c {σ σ' : SC} (h : σ'.1 = σ.1) (k : Nat) (i : Int32) : m_Row_at σ' k i = m_Row_at σ k i := by
  unfold m_Row_at xL
  rw [h]
theorem gO_w (σ : SC) (j : Nat) (x y s : Int32) : m_Parts_gatesOn (m_ST_write σ j x y) s = m_Parts_gatesOn σ s := by
  unfold m_Parts_gatesOn
  exact at_c (fr_write σ j x y).1 _ _
theorem fr_nu : ∀ (n : Nat) (σ : SC) (v1 v2 v3 v4 v5 v6 v7 : Int32), (lp_Parts_newUnitsAt_26 n σ v1 v2 v3 v4 v5 v6 v7).2.1 = σ.1 ∧ (lp_Parts_newUnitsAt_26 n σ v1 v2 v3 v4 v5 v6 v7).2.2.2 = σ.2.2
  | 0, _, _, _, _, _, _, _, _ => ⟨rfl, rfl⟩
  | n + 1, σ, v1, v2, v3, v4, v5, v6, v7 => by
    have hw := fr_write σ 6 (m_Parts_partAt σ v4 v7) (v5 + 1)
    rw [lp_Parts_newUnitsAt_26]
    repeat' split
    all_goals first | exact ⟨rfl, rfl⟩ | exact fr_nu n _ _ _ _ _ _ _ _ | exact hw | exact ⟨(fr_nu n _ _ _ _ _ _ _ _).1.trans hw.1, (fr_nu n _ _ _ _ _ _ _ _).2.trans hw.2⟩
theorem bC_n (σ : SC) (x y z : Int32) : m_Book_count (m_Parts_newUnitsAt σ x y z).2 = m_Book_count σ := by
  have h : (m_Parts_newUnitsAt σ x y z).2.2.2 = σ.2.2 := by
    unfold m_Parts_newUnitsAt
    exact (fr_nu _ _ _ _ _ _ _ _ _).2
  unfold m_Book_count xn
  rw [h]
section SC
variable {l : Launch} {D : va_G} {N0 : Nat} {G : Nat → Nat → Nat} {cI cL cQ : ClassId} {rest : va_W}
set_option maxHeartbeats 400000 in
set_option maxRecDepth 100000 in
theorem c_Parts_isPart  (σ : SC) (π : PJ) (x0 : Int32) : CM l y_Parts_isPart b_Parts_isPart 2 (some .boolean) { frames := 1, cells := 0, slots := 0, locals := 21 } D (tyL cI cL cQ) N0 [.ref (G 0 5), .int x0] (wsC G cI cL cQ σ π rest) (some (.int (bi (m_Parts_isPart σ x0)))) (fun w => w = wsC G cI cL cQ σ π rest) 0 0 := by
  generalize hR : m_Parts_isPart σ x0 = RES
  refine met_of (own := R_Parts) (by decide) rfl nwl_ok ?_
  intro p e s m below meth c hC hin hB
  have hx := hC.1
  have hb := hC.2.1
  have hl := lv_entry ([.ref (G 0 5), .int x0]) (n := 2) (Nat.le_of_ble_eq_true rfl)
  rw [lg_entry_eq]
  generalize (lg_sl ([.ref (G 0 5), .int x0]) ++ List.replicate (2 - (lg_sl ([.ref (G 0 5), .int x0])).length) Slot.unset).toArray = ls at hl ⊢
  have hl : lv_has ls 2 [(0, .ref (G 0 5)), (1, .int x0)] := hl
  rw [m_Parts_isPart] at hR
  refine lv_iload_n hx hb d_Parts_isPart_0 rfl (lv_at hl 1 rfl) ?_
  refine lv_if_lt (tgt := 20) hx hb d_Parts_isPart_1 (by decide) (fun c_1 => ?_) (fun c_1 => ?_)
  · rw [if_pos c_1] at hR
    refine lv_iconst (v := 0) hx hb d_Parts_isPart_20 (by decide) ?_
    subst hR
    exact rz (b := false) hC hB rfl d_Parts_isPart_21
  · rw [if_neg c_1] at hR
    refine lv_iload_n hx hb d_Parts_isPart_4 rfl (lv_at hl 1 rfl) ?_
    refine lv_aload_n hx hb d_Parts_isPart_5 rfl (lv_at hl 0 rfl) ?_
    refine gt hC hB _ lkC_Parts rfl i_Parts 1 (by decide) rfl kw_138 rfl d_Parts_isPart_6 ?_
    refine lv_iconst (v := 0) hx hb d_Parts_isPart_9 (by decide) ?_
    refine kV hC hB _ (lkC_row (by decide)) rfl (c_Row_at 6 (by decide) σ π 0) allw_ok mf_Row_at kw_230 kw_231 kw_602 ⟨rfl, rfl, Nat.le_of_ble_eq_true rfl, Nat.le_of_ble_eq_true rfl⟩ rfl rfl hl.1 (Nat.le_of_ble_eq_true rfl) d_Parts_isPart_10 ⟨Nat.le_of_ble_eq_true rfl, Nat.le_of_ble_eq_true rfl⟩ (roK fun H locs hB => ?_)
    refine lv_icmp_ge (tgt := 20) hx hb d_Parts_isPart_13 (by decide) (fun c_2 => ?_) (fun c_2 => ?_)
    · rw [if_pos c_2] at hR
      refine lv_iconst (v := 0) hx hb d_Parts_isPart_20 (by decide) ?_
      subst hR
      exact rz (b := false) hC hB rfl d_Parts_isPart_21
    · rw [if_neg c_2] at hR
      refine lv_iconst (v := 1) hx hb d_Parts_isPart_16 (by decide) ?_
      refine lv_goto (tgt := 21) hx hb d_Parts_isPart_17 (by decide) ?_
      subst hR
      exact rz (b := true) hC hB rfl d_Parts_isPart_21

set_option maxHeartbeats 400000 in
set_option maxRecDepth 100000 in
theorem c_Parts_partsLeft  (σ : SC) (π : PJ)  : CM l y_Parts_partsLeft b_Parts_partsLeft 1 (some .int) { frames := 1, cells := 0, slots := 0, locals := 21 } D (tyL cI cL cQ) N0 [.ref (G 0 5)] (wsC G cI cL cQ σ π rest) (some (.int (m_Parts_partsLeft σ))) (fun w => w = wsC G cI cL cQ σ π rest) 0 0 := by
  generalize hR : m_Parts_partsLeft σ = RES
  refine met_of (own := R_Parts) (by decide) rfl nwl_ok ?_
  intro p e s m below meth c hC hin hB
  have hx := hC.1
  have hb := hC.2.1
  have hl := lv_entry ([.ref (G 0 5)]) (n := 1) (Nat.le_of_ble_eq_true rfl)
  rw [lg_entry_eq]
  generalize (lg_sl ([.ref (G 0 5)]) ++ List.replicate (1 - (lg_sl ([.ref (G 0 5)])).length) Slot.unset).toArray = ls at hl ⊢
  have hl : lv_has ls 1 [(0, .ref (G 0 5))] := hl
  rw [m_Parts_partsLeft] at hR
  refine lv_bipush (v := 30) hx hb d_Parts_partsLeft_0 (by decide) ?_
  refine lv_aload_n hx hb d_Parts_partsLeft_2 rfl (lv_at hl 0 rfl) ?_
  refine gt hC hB _ lkC_Parts rfl i_Parts 1 (by decide) rfl kw_138 rfl d_Parts_partsLeft_3 ?_
  refine lv_iconst (v := 0) hx hb d_Parts_partsLeft_6 (by decide) ?_
  refine kV hC hB _ (lkC_row (by decide)) rfl (c_Row_at 6 (by decide) σ π 0) allw_ok mf_Row_at kw_230 kw_231 kw_602 ⟨rfl, rfl, Nat.le_of_ble_eq_true rfl, Nat.le_of_ble_eq_true rfl⟩ rfl rfl hl.1 (Nat.le_of_ble_eq_true rfl) d_Parts_partsLeft_7 ⟨Nat.le_of_ble_eq_true rfl, Nat.le_of_ble_eq_true rfl⟩ (roK fun H locs hB => ?_)
  refine lv_isub hx hb d_Parts_partsLeft_10 ?_
  subst hR
  exact ri hC hB rfl d_Parts_partsLeft_11

set_option maxHeartbeats 400000 in
set_option maxRecDepth 100000 in
theorem c_Parts_letterOf  (σ : SC) (π : PJ) (x0 : Int32) : CM l y_Parts_letterOf b_Parts_letterOf 2 (some .int) { frames := 1, cells := 0, slots := 0, locals := 21 } D (tyL cI cL cQ) N0 [.ref (G 0 5), .int x0] (wsC G cI cL cQ σ π rest) (some (.int (m_Parts_letterOf σ x0))) (fun w => w = wsC G cI cL cQ σ π rest) 0 0 := by
  generalize hR : m_Parts_letterOf σ x0 = RES
  refine met_of (own := R_Parts) (by decide) rfl nwl_ok ?_
  intro p e s m below meth c hC hin hB
  have hx := hC.1
  have hb := hC.2.1
  have hl := lv_entry ([.ref (G 0 5), .int x0]) (n := 2) (Nat.le_of_ble_eq_true rfl)
  rw [lg_entry_eq]
  generalize (lg_sl ([.ref (G 0 5), .int x0]) ++ List.replicate (2 - (lg_sl ([.ref (G 0 5), .int x0])).length) Slot.unset).toArray = ls at hl ⊢
  have hl : lv_has ls 2 [(0, .ref (G 0 5)), (1, .int x0)] := hl
  rw [m_Parts_letterOf] at hR
  refine lv_aload_n hx hb d_Parts_letterOf_0 rfl (lv_at hl 0 rfl) ?_
  refine gt hC hB _ lkC_Parts rfl i_Parts 2 (by decide) rfl kw_139 rfl d_Parts_letterOf_1 ?_
  refine lv_iload_n hx hb d_Parts_letterOf_4 rfl (lv_at hl 1 rfl) ?_
  refine kV hC hB _ (lkC_row (by decide)) rfl (c_Row_at 7 (by decide) σ π x0) allw_ok mf_Row_at kw_230 kw_231 kw_602 ⟨rfl, rfl, Nat.le_of_ble_eq_true rfl, Nat.le_of_ble_eq_true rfl⟩ rfl rfl hl.1 (Nat.le_of_ble_eq_true rfl) d_Parts_letterOf_5 ⟨Nat.le_of_ble_eq_true rfl, Nat.le_of_ble_eq_true rfl⟩ (roK fun H locs hB => ?_)
  subst hR
  exact ri hC hB rfl d_Parts_letterOf_8

set_option maxHeartbeats 400000 in
set_option maxRecDepth 100000 in
theorem c_Parts_gateCount  (σ : SC) (π : PJ) (x0 : Int32) : CM l y_Parts_gateCount b_Parts_gateCount 2 (some .int) { frames := 1, cells := 0, slots := 0, locals := 21 } D (tyL cI cL cQ) N0 [.ref (G 0 5), .int x0] (wsC G cI cL cQ σ π rest) (some (.int (m_Parts_gateCount σ x0))) (fun w => w = wsC G cI cL cQ σ π rest) 0 0 := by
  generalize hR : m_Parts_gateCount σ x0 = RES
  refine met_of (own := R_Parts) (by decide) rfl nwl_ok ?_
  intro p e s m below meth c hC hin hB
  have hx := hC.1
  have hb := hC.2.1
  have hl := lv_entry ([.ref (G 0 5), .int x0]) (n := 2) (Nat.le_of_ble_eq_true rfl)
  rw [lg_entry_eq]
  generalize (lg_sl ([.ref (G 0 5), .int x0]) ++ List.replicate (2 - (lg_sl ([.ref (G 0 5), .int x0])).length) Slot.unset).toArray = ls at hl ⊢
  have hl : lv_has ls 2 [(0, .ref (G 0 5)), (1, .int x0)] := hl
  rw [m_Parts_gateCount] at hR
  refine lv_aload_n hx hb d_Parts_gateCount_0 rfl (lv_at hl 0 rfl) ?_
  refine gt hC hB _ lkC_Parts rfl i_Parts 3 (by decide) rfl kw_140 rfl d_Parts_gateCount_1 ?_
  refine lv_iload_n hx hb d_Parts_gateCount_4 rfl (lv_at hl 1 rfl) ?_
  refine kV hC hB _ (lkC_row (by decide)) rfl (c_Row_at 8 (by decide) σ π x0) allw_ok mf_Row_at kw_230 kw_231 kw_602 ⟨rfl, rfl, Nat.le_of_ble_eq_true rfl, Nat.le_of_ble_eq_true rfl⟩ rfl rfl hl.1 (Nat.le_of_ble_eq_true rfl) d_Parts_gateCount_5 ⟨Nat.le_of_ble_eq_true rfl, Nat.le_of_ble_eq_true rfl⟩ (roK fun H locs hB => ?_)
  subst hR
  exact ri hC hB rfl d_Parts_gateCount_8

set_option maxHeartbeats 400000 in
set_option maxRecDepth 100000 in
theorem c_Parts_sheetOfGate  (σ : SC) (π : PJ) (x0 : Int32) (x1 : Int32) : CM l y_Parts_sheetOfGate b_Parts_sheetOfGate 3 (some .int) { frames := 1, cells := 0, slots := 0, locals := 21 } D (tyL cI cL cQ) N0 [.ref (G 0 5), .int x0, .int x1] (wsC G cI cL cQ σ π rest) (some (.int (m_Parts_sheetOfGate σ x0 x1))) (fun w => w = wsC G cI cL cQ σ π rest) 0 0 := by
  generalize hR : m_Parts_sheetOfGate σ x0 x1 = RES
  refine met_of (own := R_Parts) (by decide) rfl nwl_ok ?_
  intro p e s m below meth c hC hin hB
  have hx := hC.1
  have hb := hC.2.1
  have hl := lv_entry ([.ref (G 0 5), .int x0, .int x1]) (n := 3) (Nat.le_of_ble_eq_true rfl)
  rw [lg_entry_eq]
  generalize (lg_sl ([.ref (G 0 5), .int x0, .int x1]) ++ List.replicate (3 - (lg_sl ([.ref (G 0 5), .int x0, .int x1])).length) Slot.unset).toArray = ls at hl ⊢
  have hl : lv_has ls 3 [(0, .ref (G 0 5)), (1, .int x0), (2, .int x1)] := hl
  rw [m_Parts_sheetOfGate] at hR
  refine lv_aload_n hx hb d_Parts_sheetOfGate_0 rfl (lv_at hl 0 rfl) ?_
  refine gt hC hB _ lkC_Parts rfl i_Parts 4 (by decide) rfl kw_141 rfl d_Parts_sheetOfGate_1 ?_
  refine lv_iload_n hx hb d_Parts_sheetOfGate_4 rfl (lv_at hl 1 rfl) ?_
  refine lv_bipush (v := 8) hx hb d_Parts_sheetOfGate_5 (by decide) ?_
  refine lv_imul hx hb d_Parts_sheetOfGate_7 ?_
  refine lv_iload_n hx hb d_Parts_sheetOfGate_8 rfl (lv_at hl 2 rfl) ?_
  refine lv_iadd hx hb d_Parts_sheetOfGate_9 ?_
  refine kV hC hB _ (lkC_row (by decide)) rfl (c_Row_at 9 (by decide) σ π ((x0 * 8) + x1)) allw_ok mf_Row_at kw_230 kw_231 kw_602 ⟨rfl, rfl, Nat.le_of_ble_eq_true rfl, Nat.le_of_ble_eq_true rfl⟩ rfl rfl hl.1 (Nat.le_of_ble_eq_true rfl) d_Parts_sheetOfGate_10 ⟨Nat.le_of_ble_eq_true rfl, Nat.le_of_ble_eq_true rfl⟩ (roK fun H locs hB => ?_)
  subst hR
  exact ri hC hB rfl d_Parts_sheetOfGate_13

set_option maxHeartbeats 400000 in
set_option maxRecDepth 100000 in
theorem c_Parts_gatesOn  (σ : SC) (π : PJ) (x0 : Int32) : CM l y_Parts_gatesOn b_Parts_gatesOn 2 (some .int) { frames := 1, cells := 0, slots := 0, locals := 21 } D (tyL cI cL cQ) N0 [.ref (G 0 5), .int x0] (wsC G cI cL cQ σ π rest) (some (.int (m_Parts_gatesOn σ x0))) (fun w => w = wsC G cI cL cQ σ π rest) 0 0 := by
  generalize hR : m_Parts_gatesOn σ x0 = RES
  refine met_of (own := R_Parts) (by decide) rfl nwl_ok ?_
  intro p e s m below meth c hC hin hB
  have hx := hC.1
  have hb := hC.2.1
  have hl := lv_entry ([.ref (G 0 5), .int x0]) (n := 2) (Nat.le_of_ble_eq_true rfl)
  rw [lg_entry_eq]
  generalize (lg_sl ([.ref (G 0 5), .int x0]) ++ List.replicate (2 - (lg_sl ([.ref (G 0 5), .int x0])).length) Slot.unset).toArray = ls at hl ⊢
  have hl : lv_has ls 2 [(0, .ref (G 0 5)), (1, .int x0)] := hl
  rw [m_Parts_gatesOn] at hR
  refine lv_aload_n hx hb d_Parts_gatesOn_0 rfl (lv_at hl 0 rfl) ?_
  refine gt hC hB _ lkC_Parts rfl i_Parts 6 (by decide) rfl kw_143 rfl d_Parts_gatesOn_1 ?_
  refine lv_iload_n hx hb d_Parts_gatesOn_4 rfl (lv_at hl 1 rfl) ?_
  refine kV hC hB _ (lkC_row (by decide)) rfl (c_Row_at 11 (by decide) σ π x0) allw_ok mf_Row_at kw_230 kw_231 kw_602 ⟨rfl, rfl, Nat.le_of_ble_eq_true rfl, Nat.le_of_ble_eq_true rfl⟩ rfl rfl hl.1 (Nat.le_of_ble_eq_true rfl) d_Parts_gatesOn_5 ⟨Nat.le_of_ble_eq_true rfl, Nat.le_of_ble_eq_true rfl⟩ (roK fun H locs hB => ?_)
  subst hR
  exact ri hC hB rfl d_Parts_gatesOn_8

set_option maxHeartbeats 400000 in
set_option maxRecDepth 100000 in
theorem c_Parts_gateAt  (σ : SC) (π : PJ) (x0 : Int32) (x1 : Int32) : CM l y_Parts_gateAt b_Parts_gateAt 3 (some .int) { frames := 1, cells := 0, slots := 0, locals := 21 } D (tyL cI cL cQ) N0 [.ref (G 0 5), .int x0, .int x1] (wsC G cI cL cQ σ π rest) (some (.int (m_Parts_gateAt σ x0 x1))) (fun w => w = wsC G cI cL cQ σ π rest) 0 0 := by
  generalize hR : m_Parts_gateAt σ x0 x1 = RES
  refine met_of (own := R_Parts) (by decide) rfl nwl_ok ?_
  intro p e s m below meth c hC hin hB
  have hx := hC.1
  have hb := hC.2.1
  have hl := lv_entry ([.ref (G 0 5), .int x0, .int x1]) (n := 3) (Nat.le_of_ble_eq_true rfl)
  rw [lg_entry_eq]
  generalize (lg_sl ([.ref (G 0 5), .int x0, .int x1]) ++ List.replicate (3 - (lg_sl ([.ref (G 0 5), .int x0, .int x1])).length) Slot.unset).toArray = ls at hl ⊢
  have hl : lv_has ls 3 [(0, .ref (G 0 5)), (1, .int x0), (2, .int x1)] := hl
  rw [m_Parts_gateAt] at hR
  refine lv_aload_n hx hb d_Parts_gateAt_0 rfl (lv_at hl 0 rfl) ?_
  refine gt hC hB _ lkC_Parts rfl i_Parts 5 (by decide) rfl kw_142 rfl d_Parts_gateAt_1 ?_
  refine lv_iload_n hx hb d_Parts_gateAt_4 rfl (lv_at hl 1 rfl) ?_
  refine lv_bipush (v := 20) hx hb d_Parts_gateAt_5 (by decide) ?_
  refine lv_imul hx hb d_Parts_gateAt_7 ?_
  refine lv_iload_n hx hb d_Parts_gateAt_8 rfl (lv_at hl 2 rfl) ?_
  refine lv_iadd hx hb d_Parts_gateAt_9 ?_
  refine kV hC hB _ (lkC_row (by decide)) rfl (c_Row_at 10 (by decide) σ π ((x0 * 20) + x1)) allw_ok mf_Row_at kw_230 kw_231 kw_602 ⟨rfl, rfl, Nat.le_of_ble_eq_true rfl, Nat.le_of_ble_eq_true rfl⟩ rfl rfl hl.1 (Nat.le_of_ble_eq_true rfl) d_Parts_gateAt_10 ⟨Nat.le_of_ble_eq_true rfl, Nat.le_of_ble_eq_true rfl⟩ (roK fun H locs hB => ?_)
  subst hR
  exact ri hC hB rfl d_Parts_gateAt_13

set_option maxHeartbeats 400000 in
set_option maxRecDepth 100000 in
theorem c_Parts_partAt  (σ : SC) (π : PJ) (x0 : Int32) (x1 : Int32) : CM l y_Parts_partAt b_Parts_partAt 3 (some .int) { frames := 2, cells := 0, slots := 0, locals := 43 } D (tyL cI cL cQ) N0 [.ref (G 0 5), .int x0, .int x1] (wsC G cI cL cQ σ π rest) (some (.int (m_Parts_partAt σ x0 x1))) (fun w => w = wsC G cI cL cQ σ π rest) 0 0 := by
  generalize hR : m_Parts_partAt σ x0 x1 = RES
  refine met_of (own := R_Parts) (by decide) rfl nwl_ok ?_
  intro p e s m below meth c hC hin hB
  have hx := hC.1
  have hb := hC.2.1
  have hl := lv_entry ([.ref (G 0 5), .int x0, .int x1]) (n := 3) (Nat.le_of_ble_eq_true rfl)
  rw [lg_entry_eq]
  generalize (lg_sl ([.ref (G 0 5), .int x0, .int x1]) ++ List.replicate (3 - (lg_sl ([.ref (G 0 5), .int x0, .int x1])).length) Slot.unset).toArray = ls at hl ⊢
  have hl : lv_has ls 3 [(0, .ref (G 0 5)), (1, .int x0), (2, .int x1)] := hl
  rw [m_Parts_partAt] at hR
  refine lv_aload_n hx hb d_Parts_partAt_0 rfl (lv_at hl 0 rfl) ?_
  refine lv_iload_n hx hb d_Parts_partAt_1 rfl (lv_at hl 1 rfl) ?_
  refine lv_iload_n hx hb d_Parts_partAt_2 rfl (lv_at hl 2 rfl) ?_
  refine kV hC hB _ lkC_Parts rfl (c_Parts_gateAt σ π x0 x1) allw_ok mf_Parts_gateAt kw_669 ks_16 kw_667 ⟨rfl, rfl, Nat.le_of_ble_eq_true rfl, Nat.le_of_ble_eq_true rfl⟩ rfl rfl hl.1 (Nat.le_of_ble_eq_true rfl) d_Parts_partAt_3 ⟨Nat.le_of_ble_eq_true rfl, Nat.le_of_ble_eq_true rfl⟩ (roK fun H locs hB => ?_)
  refine lv_bipush (v := 8) hx hb d_Parts_partAt_6 (by decide) ?_
  refine lv_idiv hx hb d_Parts_partAt_8 (by decide) ?_
  subst hR
  exact ri hC hB rfl d_Parts_partAt_9

set_option maxHeartbeats 400000 in
set_option maxRecDepth 100000 in
theorem w_Parts_unitCount_4 {p : Program} {e : Env} {s : State} {m : MethodId} {args : Array Value} {below : List Frame} {meth : Method} {c : Code} {RES : Int32}  (σ : SC) (π : PJ) (hC : cx D classes (tyL cI cL cQ) NWL ALLW N0 p s m args meth c b_Parts_unitCount 4 (some .int) R_Parts) :
    ∀ (n : Nat) (v1 : Int32) (v2 : Int32) (v3 : Int32), upI n (m_Parts_gateCount σ v1) v3 → lp_Parts_unitCount_4 n σ  v1 v2 v3 = RES → ∀ (H : Heap) (locs : List Loc), bd D classes N0 (wsC G cI cL cQ σ π rest) s H locs → ∀ (ls : Array Slot), lv_has ls 4 [(0, .ref (G 0 5)), (1, .int v1), (2, .int v2), (3, .int v3)] → W p l e { frames := 2, cells := 0, slots := 0, locals := 43 } s m args below meth c H locs 0 0 (MQ below (qx D classes N0 (some (.int RES)) (fun w => w = wsC G cI cL cQ σ π rest)) args s 0 0 (ga N0)) (F0 m 4 ls []) := by
  have hx := hC.1
  have hb := hC.2.1
  intro n
  induction n with
  | zero =>
    intro v1 v2 v3 hI
    exact absurd hI up_zero
  | succ n ih =>
    intro v1 v2 v3 hI hR H locs hB ls hl
    rw [lp_Parts_unitCount_4] at hR
    refine lv_iload_n hx hb d_Parts_unitCount_4 rfl (lv_at hl 3 rfl) ?_
    refine lv_aload_n hx hb d_Parts_unitCount_5 rfl (lv_at hl 0 rfl) ?_
    refine lv_iload_n hx hb d_Parts_unitCount_6 rfl (lv_at hl 1 rfl) ?_
    refine kV hC hB _ lkC_Parts rfl (c_Parts_gateCount σ π v1) allw_ok mf_Parts_gateCount kw_629 kw_630 kw_691 ⟨rfl, rfl, Nat.le_of_ble_eq_true rfl, Nat.le_of_ble_eq_true rfl⟩ rfl rfl hl.1 (Nat.le_of_ble_eq_true rfl) d_Parts_unitCount_7 ⟨Nat.le_of_ble_eq_true rfl, Nat.le_of_ble_eq_true rfl⟩ (roK fun H locs hB => ?_)
    refine lv_icmp_ge (tgt := 37) hx hb d_Parts_unitCount_10 (by decide) (fun c_1 => ?_) (fun c_1 => ?_)
    · rw [if_pos c_1] at hR
      refine lv_iload_n hx hb d_Parts_unitCount_37 rfl (lv_at hl 2 rfl) ?_
      subst hR
      exact ri hC hB rfl d_Parts_unitCount_38
    · rw [if_neg c_1] at hR
      refine lv_iload_n hx hb d_Parts_unitCount_13 rfl (lv_at hl 2 rfl) ?_
      refine lv_aload_n hx hb d_Parts_unitCount_14 rfl (lv_at hl 0 rfl) ?_
      refine gt hC hB _ lkC_Parts rfl i_Parts 0 (by decide) rfl kw_137 rfl d_Parts_unitCount_15 ?_
      refine lv_aload_n hx hb d_Parts_unitCount_18 rfl (lv_at hl 0 rfl) ?_
      refine lv_iload_n hx hb d_Parts_unitCount_19 rfl (lv_at hl 1 rfl) ?_
      refine lv_iload_n hx hb d_Parts_unitCount_20 rfl (lv_at hl 3 rfl) ?_
      refine kV hC hB _ lkC_Parts rfl (c_Parts_sheetOfGate σ π v1 v3) allw_ok mf_Parts_sheetOfGate kw_634 kw_635 kw_831 ⟨rfl, rfl, Nat.le_of_ble_eq_true rfl, Nat.le_of_ble_eq_true rfl⟩ rfl rfl hl.1 (Nat.le_of_ble_eq_true rfl) d_Parts_unitCount_21 ⟨Nat.le_of_ble_eq_true rfl, Nat.le_of_ble_eq_true rfl⟩ (roK fun H locs hB => ?_)
      refine kV hC hB _ lkC_Book rfl (c_Book_comingsOf σ π (m_Parts_sheetOfGate σ v1 v3)) allw_ok mf_Book_comingsOf kw_210 kw_211 kw_832 ⟨rfl, rfl, Nat.le_of_ble_eq_true rfl, Nat.le_of_ble_eq_true rfl⟩ rfl rfl hl.1 (Nat.le_of_ble_eq_true rfl) d_Parts_unitCount_24 ⟨Nat.le_of_ble_eq_true rfl, Nat.le_of_ble_eq_true rfl⟩ (roK fun H locs hB => ?_)
      refine va_mmax hx hb (hC.2.2.2.1.trans hl.1.symm) hC.2.2.2.2.1 (hC.2.2.2.2.2.1 _ kw_833) (hC.2.2.2.2.2.1 _ kw_59) (hC.2.2.2.2.2.1 _ kw_5) (hC.2.2.2.2.2.1 _ kw_60) (Nat.le_of_ble_eq_true rfl) (Nat.le_of_ble_eq_true rfl) (Nat.le_of_ble_eq_true rfl) (Nat.le_of_ble_eq_true rfl) d_Parts_unitCount_27 ?_
      refine lv_istore_n (lv' := [(2, .int (if v2 < (m_Book_comingsOf σ (m_Parts_sheetOfGate σ v1 v3)) then (m_Book_comingsOf σ (m_Parts_sheetOfGate σ v1 v3)) else v2)), (0, .ref (G 0 5)), (1, .int v1), (3, .int v3)]) hx hb d_Parts_unitCount_30 rfl hl (by decide) rfl (fun ls hl => ?_)
      refine lv_iinc (v := (v3 + 1)) (lv' := [(3, .int (v3 + 1)), (2, .int (if v2 < (m_Book_comingsOf σ (m_Parts_sheetOfGate σ v1 v3)) then (m_Book_comingsOf σ (m_Parts_sheetOfGate σ v1 v3)) else v2)), (0, .ref (G 0 5)), (1, .int v1)]) hx hb d_Parts_unitCount_31 hl (k := 3) rfl rfl (by decide) rfl (fun ls hl => ?_)
      refine lv_goto (tgt := 4) hx hb d_Parts_unitCount_34 (by decide) ?_
      exact ih v1 (if v2 < (m_Book_comingsOf σ (m_Parts_sheetOfGate σ v1 v3)) then (m_Book_comingsOf σ (m_Parts_sheetOfGate σ v1 v3)) else v2) (v3 + 1) (up_step hI (by assumption)) hR _ _ hB ls (lv_sub hl [2, 3, 1, 0] rfl)

set_option maxHeartbeats 400000 in
set_option maxRecDepth 100000 in
theorem c_Parts_unitCount  (σ : SC) (π : PJ) (x0 : Int32) : CM l y_Parts_unitCount b_Parts_unitCount 4 (some .int) { frames := 2, cells := 0, slots := 0, locals := 43 } D (tyL cI cL cQ) N0 [.ref (G 0 5), .int x0] (wsC G cI cL cQ σ π rest) (some (.int (m_Parts_unitCount σ x0))) (fun w => w = wsC G cI cL cQ σ π rest) 0 0 := by
  generalize hR : m_Parts_unitCount σ x0 = RES
  refine met_of (own := R_Parts) (by decide) rfl nwl_ok ?_
  intro p e s m below meth c hC hin hB
  have hx := hC.1
  have hb := hC.2.1
  have hl := lv_entry ([.ref (G 0 5), .int x0]) (n := 4) (Nat.le_of_ble_eq_true rfl)
  rw [lg_entry_eq]
  generalize (lg_sl ([.ref (G 0 5), .int x0]) ++ List.replicate (4 - (lg_sl ([.ref (G 0 5), .int x0])).length) Slot.unset).toArray = ls at hl ⊢
  have hl : lv_has ls 4 [(0, .ref (G 0 5)), (1, .int x0)] := hl
  rw [m_Parts_unitCount] at hR
  refine lv_iconst (v := 0) hx hb d_Parts_unitCount_0 (by decide) ?_
  refine lv_istore_n (lv' := [(2, .int 0), (0, .ref (G 0 5)), (1, .int x0)]) hx hb d_Parts_unitCount_1 rfl hl (by decide) rfl (fun ls hl => ?_)
  refine lv_iconst (v := 0) hx hb d_Parts_unitCount_2 (by decide) ?_
  refine lv_istore_n (lv' := [(3, .int 0), (2, .int 0), (0, .ref (G 0 5)), (1, .int x0)]) hx hb d_Parts_unitCount_3 rfl hl (by decide) rfl (fun ls hl => ?_)
  exact w_Parts_unitCount_4  σ π hC ((m_Parts_gateCount σ x0).toNatClampNeg + 1) x0 0 0 (up_init _) hR _ _ hB ls (lv_sub hl [2, 3, 1, 0] rfl)

set_option maxHeartbeats 400000 in
set_option maxRecDepth 100000 in
theorem w_Parts_partsOn_12 {p : Program} {e : Env} {s : State} {m : MethodId} {args : Array Value} {below : List Frame} {meth : Method} {c : Code} {RES : Int32 × SC}  (π : PJ) (hC : cx D classes (tyL cI cL cQ) NWL ALLW N0 p s m args meth c b_Parts_partsOn 5 (some .int) R_Parts) :
    ∀ (n : Nat) (σ : SC) (v1 : Int32) (v2 : Int32) (v3 : Int32), upI n (m_Parts_gatesOn σ v1) v3 → lp_Parts_partsOn_12 n σ  v1 v2 v3 = RES → ∀ (H : Heap) (locs : List Loc), bd D classes N0 (wsC G cI cL cQ σ π rest) s H locs → ∀ (ls : Array Slot), lv_has ls 5 [(0, .ref (G 0 5)), (1, .int v1), (2, .int v2), (3, .int v3)] → W p l e { frames := 3, cells := 0, slots := 0, locals := 65 } s m args below meth c H locs 0 0 (MQ below (qx D classes N0 (some (.int RES.1)) (fun w => w = wsC G cI cL cQ RES.2 π rest)) args s 0 0 (ga N0)) (F0 m 12 ls []) := by
  obtain ⟨RV, RS⟩ := RES
  dsimp only
  have hx := hC.1
  have hb := hC.2.1
  intro n
  induction n with
  | zero =>
    intro σ v1 v2 v3 hI
    exact absurd hI up_zero
  | succ n ih =>
    intro σ v1 v2 v3 hI hR H locs hB ls hl
    rw [lp_Parts_partsOn_12] at hR
    refine lv_iload_n hx hb d_Parts_partsOn_12 rfl (lv_at hl 3 rfl) ?_
    refine lv_aload_n hx hb d_Parts_partsOn_13 rfl (lv_at hl 0 rfl) ?_
    refine lv_iload_n hx hb d_Parts_partsOn_14 rfl (lv_at hl 1 rfl) ?_
    refine kV hC hB _ lkC_Parts rfl (c_Parts_gatesOn σ π v1) allw_ok mf_Parts_gatesOn kw_638 kw_639 kw_645 ⟨rfl, rfl, Nat.le_of_ble_eq_true rfl, Nat.le_of_ble_eq_true rfl⟩ rfl rfl hl.1 (Nat.le_of_ble_eq_true rfl) d_Parts_partsOn_15 ⟨Nat.le_of_ble_eq_true rfl, Nat.le_of_ble_eq_true rfl⟩ (roK fun H locs hB => ?_)
    refine lv_icmp_ge (tgt := 62) hx hb d_Parts_partsOn_18 (by decide) (fun c_1 => ?_) (fun c_1 => ?_)
    · rw [if_pos c_1] at hR
      refine lv_iload_n hx hb d_Parts_partsOn_62 rfl (lv_at hl 2 rfl) ?_
      obtain ⟨rfl, rfl⟩ := Prod.mk.inj hR
      exact ri hC hB rfl d_Parts_partsOn_63
    · rw [if_neg c_1] at hR
      refine lv_aload_n hx hb d_Parts_partsOn_21 rfl (lv_at hl 0 rfl) ?_
      refine lv_iload_n hx hb d_Parts_partsOn_22 rfl (lv_at hl 1 rfl) ?_
      refine lv_iload_n hx hb d_Parts_partsOn_23 rfl (lv_at hl 3 rfl) ?_
      refine kV hC hB _ lkC_Parts rfl (c_Parts_partAt σ π v1 v3) allw_ok mf_Parts_partAt kw_665 ks_15 kw_663 ⟨rfl, rfl, Nat.le_of_ble_eq_true rfl, Nat.le_of_ble_eq_true rfl⟩ rfl rfl hl.1 (Nat.le_of_ble_eq_true rfl) d_Parts_partsOn_24 ⟨Nat.le_of_ble_eq_true rfl, Nat.le_of_ble_eq_true rfl⟩ (roK fun H locs hB => ?_)
      refine lv_istore (lv' := [(4, .int (m_Parts_partAt σ v1 v3)), (0, .ref (G 0 5)), (1, .int v1), (2, .int v2), (3, .int v3)]) hx hb d_Parts_partsOn_27 hl (by decide) rfl (fun ls hl => ?_)
      refine lv_aload_n hx hb d_Parts_partsOn_29 rfl (lv_at hl 1 rfl) ?_
      refine gt hC hB _ lkC_Parts rfl i_Parts 7 (by decide) rfl kw_144 rfl d_Parts_partsOn_30 ?_
      refine lv_iload hx hb d_Parts_partsOn_33 (lv_at hl 0 rfl) ?_
      refine kSN hC hB (c_ST_read 6 (by decide) σ π (m_Parts_partAt σ v1 v3)) allw_ok mf_ST_read kw_214 nw_5 ⟨rfl, rfl, Nat.le_of_ble_eq_true rfl, Nat.le_of_ble_eq_true rfl⟩ rfl rfl hl.1 (Nat.le_of_ble_eq_true rfl) d_Parts_partsOn_35 ⟨Nat.le_of_ble_eq_true rfl, Nat.le_of_ble_eq_true rfl⟩ (roK fun H locs hB => ?_)
      refine lv_iconst (v := (-1)) hx hb d_Parts_partsOn_38 (by decide) ?_
      refine lv_icmp_ne (tgt := 56) hx hb d_Parts_partsOn_39 (by decide) (fun c_2 => ?_) (fun c_2 => ?_)
      · rw [if_neg c_2] at hR
        refine lv_iinc (v := (v3 + 1)) (lv' := [(3, .int (v3 + 1)), (4, .int (m_Parts_partAt σ v1 v3)), (0, .ref (G 0 5)), (1, .int v1), (2, .int v2)]) hx hb d_Parts_partsOn_56 hl (k := 4) rfl rfl (by decide) rfl (fun ls hl => ?_)
        refine lv_goto (tgt := 12) hx hb d_Parts_partsOn_59 (by decide) ?_
        exact ih σ v1 v2 (v3 + 1) (by first | (rw [gO_w]; exact up_step hI (by assumption)) | exact up_step hI (by assumption)) hR _ _ hB ls (lv_sub hl [2, 3, 4, 0] rfl)
      · rw [if_pos c_2] at hR
        refine lv_aload_n hx hb d_Parts_partsOn_42 rfl (lv_at hl 1 rfl) ?_
        refine gt hC hB _ lkC_Parts rfl i_Parts 7 (by decide) rfl kw_144 rfl d_Parts_partsOn_43 ?_
        refine lv_iload hx hb d_Parts_partsOn_46 (lv_at hl 0 rfl) ?_
        refine lv_iload hx hb d_Parts_partsOn_48 (lv_at hl 0 rfl) ?_
        refine kSN hC hB (c_ST_write 6 (by decide) σ π (m_Parts_partAt σ v1 v3) (m_Parts_partAt σ v1 v3)) allw_ok mf_ST_write kw_207 nw_6 ⟨rfl, rfl, Nat.le_of_ble_eq_true rfl, Nat.le_of_ble_eq_true rfl⟩ rfl rfl hl.1 (Nat.le_of_ble_eq_true rfl) d_Parts_partsOn_50 ⟨Nat.le_of_ble_eq_true rfl, Nat.le_of_ble_eq_true rfl⟩ (roK fun H locs hB => ?_)
        refine lv_iinc (v := (v2 + 1)) (lv' := [(2, .int (v2 + 1)), (4, .int (m_Parts_partAt σ v1 v3)), (0, .ref (G 0 5)), (1, .int v1), (3, .int v3)]) hx hb d_Parts_partsOn_53 hl (k := 3) rfl rfl (by decide) rfl (fun ls hl => ?_)
        refine lv_iinc (v := (v3 + 1)) (lv' := [(3, .int (v3 + 1)), (2, .int (v2 + 1)), (4, .int (m_Parts_partAt σ v1 v3)), (0, .ref (G 0 5)), (1, .int v1)]) hx hb d_Parts_partsOn_56 hl (k := 4) rfl rfl (by decide) rfl (fun ls hl => ?_)
        refine lv_goto (tgt := 12) hx hb d_Parts_partsOn_59 (by decide) ?_
        exact ih (m_ST_write σ 6 (m_Parts_partAt σ v1 v3) (m_Parts_partAt σ v1 v3)) v1 (v2 + 1) (v3 + 1) (by first | (rw [gO_w]; exact up_step hI (by assumption)) | exact up_step hI (by assumption)) hR _ _ hB ls (lv_sub hl [3, 4, 1, 0] rfl)

set_option maxHeartbeats 400000 in
set_option maxRecDepth 100000 in
theorem c_Parts_partsOn  (σ : SC) (π : PJ) (x0 : Int32) : CM l y_Parts_partsOn b_Parts_partsOn 5 (some .int) { frames := 3, cells := 0, slots := 0, locals := 65 } D (tyL cI cL cQ) N0 [.ref (G 0 5), .int x0] (wsC G cI cL cQ σ π rest) (some (.int ((m_Parts_partsOn σ x0).1))) (fun w => w = wsC G cI cL cQ ((m_Parts_partsOn σ x0).2) π rest) 0 0 := by
  generalize hR : m_Parts_partsOn σ x0 = RES
  obtain ⟨RV, RS⟩ := RES
  dsimp only
  refine met_of (own := R_Parts) (by decide) rfl nwl_ok ?_
  intro p e s m below meth c hC hin hB
  have hx := hC.1
  have hb := hC.2.1
  have hl := lv_entry ([.ref (G 0 5), .int x0]) (n := 5) (Nat.le_of_ble_eq_true rfl)
  rw [lg_entry_eq]
  generalize (lg_sl ([.ref (G 0 5), .int x0]) ++ List.replicate (5 - (lg_sl ([.ref (G 0 5), .int x0])).length) Slot.unset).toArray = ls at hl ⊢
  have hl : lv_has ls 5 [(0, .ref (G 0 5)), (1, .int x0)] := hl
  rw [m_Parts_partsOn] at hR
  refine lv_aload_n hx hb d_Parts_partsOn_0 rfl (lv_at hl 0 rfl) ?_
  refine gt hC hB _ lkC_Parts rfl i_Parts 7 (by decide) rfl kw_144 rfl d_Parts_partsOn_1 ?_
  refine lv_iconst (v := (-1)) hx hb d_Parts_partsOn_4 (by decide) ?_
  refine kS hC hB (c_Arrays_fillI 6 (by decide) σ π (-1)) allw_ok mf_Arrays_fillI kw_200 kw_662 ⟨rfl, rfl, Nat.le_of_ble_eq_true rfl, Nat.le_of_ble_eq_true rfl⟩ rfl rfl hl.1 (Nat.le_of_ble_eq_true rfl) d_Parts_partsOn_5 ⟨Nat.le_of_ble_eq_true rfl, Nat.le_of_ble_eq_true rfl⟩ (roK fun H locs hB => ?_)
  refine lv_iconst (v := 0) hx hb d_Parts_partsOn_8 (by decide) ?_
  refine lv_istore_n (lv' := [(2, .int 0), (0, .ref (G 0 5)), (1, .int x0)]) hx hb d_Parts_partsOn_9 rfl hl (by decide) rfl (fun ls hl => ?_)
  refine lv_iconst (v := 0) hx hb d_Parts_partsOn_10 (by decide) ?_
  refine lv_istore_n (lv' := [(3, .int 0), (2, .int 0), (0, .ref (G 0 5)), (1, .int x0)]) hx hb d_Parts_partsOn_11 rfl hl (by decide) rfl (fun ls hl => ?_)
  exact w_Parts_partsOn_12  π hC ((m_Parts_gatesOn (m_Arrays_fillI σ 6 (-1)) x0).toNatClampNeg + 1) (m_Arrays_fillI σ 6 (-1)) x0 0 0 (up_init _) hR _ _ hB ls (lv_sub hl [2, 3, 1, 0] rfl)

set_option maxHeartbeats 400000 in
set_option maxRecDepth 100000 in
theorem w_Parts_newUnitsAt_26 {p : Program} {e : Env} {s : State} {m : MethodId} {args : Array Value} {below : List Frame} {meth : Method} {c : Code} {RES : Int32 × SC}  (π : PJ) (hC : cx D classes (tyL cI cL cQ) NWL ALLW N0 p s m args meth c b_Parts_newUnitsAt 9 (some .int) R_Parts) :
    ∀ (n : Nat) (σ : SC) (v1 : Int32) (v2 : Int32) (v3 : Int32) (v4 : Int32) (v5 : Int32) (v6 : Int32) (v7 : Int32), upI n (m_Parts_gatesOn σ v4) v7 → lp_Parts_newUnitsAt_26 n σ  v1 v2 v3 v4 v5 v6 v7 = RES → ∀ (H : Heap) (locs : List Loc), bd D classes N0 (wsC G cI cL cQ σ π rest) s H locs → ∀ (ls : Array Slot), lv_has ls 9 [(0, .ref (G 0 5)), (1, .int v1), (2, .int v2), (3, .int v3), (4, .int v4), (5, .int v5), (6, .int v6), (7, .int v7)] → W p l e { frames := 3, cells := 0, slots := 0, locals := 65 } s m args below meth c H locs 0 0 (MQ below (qx D classes N0 (some (.int RES.1)) (fun w => w = wsC G cI cL cQ RES.2 π rest)) args s 0 0 (ga N0)) (F0 m 26 ls []) := by
  obtain ⟨RV, RS⟩ := RES
  dsimp only
  have hx := hC.1
  have hb := hC.2.1
  intro n
  induction n with
  | zero =>
    intro σ v1 v2 v3 v4 v5 v6 v7 hI
    exact absurd hI up_zero
  | succ n ih =>
    intro σ v1 v2 v3 v4 v5 v6 v7 hI hR H locs hB ls hl
    rw [lp_Parts_newUnitsAt_26] at hR
    refine lv_iload hx hb d_Parts_newUnitsAt_26 (lv_at hl 7 rfl) ?_
    refine lv_aload_n hx hb d_Parts_newUnitsAt_28 rfl (lv_at hl 0 rfl) ?_
    refine lv_iload hx hb d_Parts_newUnitsAt_29 (lv_at hl 4 rfl) ?_
    refine kV hC hB _ lkC_Parts rfl (c_Parts_gatesOn σ π v4) allw_ok mf_Parts_gatesOn kw_638 kw_639 kw_645 ⟨rfl, rfl, Nat.le_of_ble_eq_true rfl, Nat.le_of_ble_eq_true rfl⟩ rfl rfl hl.1 (Nat.le_of_ble_eq_true rfl) d_Parts_newUnitsAt_31 ⟨Nat.le_of_ble_eq_true rfl, Nat.le_of_ble_eq_true rfl⟩ (roK fun H locs hB => ?_)
    refine lv_icmp_ge (tgt := 112) hx hb d_Parts_newUnitsAt_34 (by decide) (fun c_1 => ?_) (fun c_1 => ?_)
    · rw [if_pos c_1] at hR
      refine lv_iload hx hb d_Parts_newUnitsAt_112 (lv_at hl 6 rfl) ?_
      obtain ⟨rfl, rfl⟩ := Prod.mk.inj hR
      exact ri hC hB rfl d_Parts_newUnitsAt_114
    · rw [if_neg c_1] at hR
      refine lv_aload_n hx hb d_Parts_newUnitsAt_37 rfl (lv_at hl 0 rfl) ?_
      refine lv_iload hx hb d_Parts_newUnitsAt_38 (lv_at hl 4 rfl) ?_
      refine lv_iload hx hb d_Parts_newUnitsAt_40 (lv_at hl 7 rfl) ?_
      refine kV hC hB _ lkC_Parts rfl (c_Parts_partAt σ π v4 v7) allw_ok mf_Parts_partAt kw_665 ks_15 kw_663 ⟨rfl, rfl, Nat.le_of_ble_eq_true rfl, Nat.le_of_ble_eq_true rfl⟩ rfl rfl hl.1 (Nat.le_of_ble_eq_true rfl) d_Parts_newUnitsAt_42 ⟨Nat.le_of_ble_eq_true rfl, Nat.le_of_ble_eq_true rfl⟩ (roK fun H locs hB => ?_)
      refine lv_istore (lv' := [(8, .int (m_Parts_partAt σ v4 v7)), (0, .ref (G 0 5)), (1, .int v1), (2, .int v2), (3, .int v3), (4, .int v4), (5, .int v5), (6, .int v6), (7, .int v7)]) hx hb d_Parts_newUnitsAt_45 hl (by decide) rfl (fun ls hl => ?_)
      refine lv_aload_n hx hb d_Parts_newUnitsAt_47 rfl (lv_at hl 1 rfl) ?_
      refine lv_iload hx hb d_Parts_newUnitsAt_48 (lv_at hl 0 rfl) ?_
      refine kV hC hB _ lkC_Parts rfl (c_Parts_letterOf σ π (m_Parts_partAt σ v4 v7)) allw_ok mf_Parts_letterOf kw_688 kw_689 kw_687 ⟨rfl, rfl, Nat.le_of_ble_eq_true rfl, Nat.le_of_ble_eq_true rfl⟩ rfl rfl hl.1 (Nat.le_of_ble_eq_true rfl) d_Parts_newUnitsAt_50 ⟨Nat.le_of_ble_eq_true rfl, Nat.le_of_ble_eq_true rfl⟩ (roK fun H locs hB => ?_)
      refine lv_aload_n hx hb d_Parts_newUnitsAt_53 rfl (lv_at hl 1 rfl) ?_
      refine lv_iload_n hx hb d_Parts_newUnitsAt_54 rfl (lv_at hl 3 rfl) ?_
      refine kV hC hB _ lkC_Parts rfl (c_Parts_letterOf σ π v2) allw_ok mf_Parts_letterOf kw_688 kw_689 kw_687 ⟨rfl, rfl, Nat.le_of_ble_eq_true rfl, Nat.le_of_ble_eq_true rfl⟩ rfl rfl hl.1 (Nat.le_of_ble_eq_true rfl) d_Parts_newUnitsAt_55 ⟨Nat.le_of_ble_eq_true rfl, Nat.le_of_ble_eq_true rfl⟩ (roK fun H locs hB => ?_)
      refine lv_icmp_ne (tgt := 106) hx hb d_Parts_newUnitsAt_58 (by decide) (fun c_2 => ?_) (fun c_2 => ?_)
      · rw [if_neg c_2] at hR
        refine lv_iinc (v := (v7 + 1)) (lv' := [(7, .int (v7 + 1)), (8, .int (m_Parts_partAt σ v4 v7)), (0, .ref (G 0 5)), (1, .int v1), (2, .int v2), (3, .int v3), (4, .int v4), (5, .int v5), (6, .int v6)]) hx hb d_Parts_newUnitsAt_106 hl (k := 8) rfl rfl (by decide) rfl (fun ls hl => ?_)
        refine lv_goto (tgt := 26) hx hb d_Parts_newUnitsAt_109 (by decide) ?_
        exact ih σ v1 v2 v3 v4 v5 v6 (v7 + 1) (by first | (rw [gO_w]; exact up_step hI (by assumption)) | exact up_step hI (by assumption)) hR _ _ hB ls (lv_sub hl [2, 3, 4, 5, 6, 7, 8, 0] rfl)
      · rw [if_pos c_2] at hR
        refine lv_aload_n hx hb d_Parts_newUnitsAt_61 rfl (lv_at hl 1 rfl) ?_
        refine gt hC hB _ lkC_Parts rfl i_Parts 7 (by decide) rfl kw_144 rfl d_Parts_newUnitsAt_62 ?_
        refine lv_iload hx hb d_Parts_newUnitsAt_65 (lv_at hl 0 rfl) ?_
        refine kSN hC hB (c_ST_read 6 (by decide) σ π (m_Parts_partAt σ v4 v7)) allw_ok mf_ST_read kw_214 nw_5 ⟨rfl, rfl, Nat.le_of_ble_eq_true rfl, Nat.le_of_ble_eq_true rfl⟩ rfl rfl hl.1 (Nat.le_of_ble_eq_true rfl) d_Parts_newUnitsAt_67 ⟨Nat.le_of_ble_eq_true rfl, Nat.le_of_ble_eq_true rfl⟩ (roK fun H locs hB => ?_)
        refine lv_iload hx hb d_Parts_newUnitsAt_70 (lv_at hl 6 rfl) ?_
        refine lv_icmp_ne (tgt := 106) hx hb d_Parts_newUnitsAt_72 (by decide) (fun c_3 => ?_) (fun c_3 => ?_)
        · rw [if_neg c_3] at hR
          refine lv_iinc (v := (v7 + 1)) (lv' := [(7, .int (v7 + 1)), (8, .int (m_Parts_partAt σ v4 v7)), (0, .ref (G 0 5)), (1, .int v1), (2, .int v2), (3, .int v3), (4, .int v4), (5, .int v5), (6, .int v6)]) hx hb d_Parts_newUnitsAt_106 hl (k := 8) rfl rfl (by decide) rfl (fun ls hl => ?_)
          refine lv_goto (tgt := 26) hx hb d_Parts_newUnitsAt_109 (by decide) ?_
          exact ih σ v1 v2 v3 v4 v5 v6 (v7 + 1) (by first | (rw [gO_w]; exact up_step hI (by assumption)) | exact up_step hI (by assumption)) hR _ _ hB ls (lv_sub hl [2, 3, 4, 5, 6, 7, 8, 0] rfl)
        · rw [if_pos c_3] at hR
          refine lv_aload_n hx hb d_Parts_newUnitsAt_75 rfl (lv_at hl 1 rfl) ?_
          refine gt hC hB _ lkC_Parts rfl i_Parts 7 (by decide) rfl kw_144 rfl d_Parts_newUnitsAt_76 ?_
          refine lv_iload hx hb d_Parts_newUnitsAt_79 (lv_at hl 0 rfl) ?_
          refine lv_iload hx hb d_Parts_newUnitsAt_81 (lv_at hl 6 rfl) ?_
          refine lv_iconst (v := 1) hx hb d_Parts_newUnitsAt_83 (by decide) ?_
          refine lv_iadd hx hb d_Parts_newUnitsAt_84 ?_
          refine kSN hC hB (c_ST_write 6 (by decide) σ π (m_Parts_partAt σ v4 v7) (v5 + 1)) allw_ok mf_ST_write kw_207 nw_6 ⟨rfl, rfl, Nat.le_of_ble_eq_true rfl, Nat.le_of_ble_eq_true rfl⟩ rfl rfl hl.1 (Nat.le_of_ble_eq_true rfl) d_Parts_newUnitsAt_85 ⟨Nat.le_of_ble_eq_true rfl, Nat.le_of_ble_eq_true rfl⟩ (roK fun H locs hB => ?_)
          refine lv_iinc (v := (v6 + 1)) (lv' := [(6, .int (v6 + 1)), (8, .int (m_Parts_partAt σ v4 v7)), (0, .ref (G 0 5)), (1, .int v1), (2, .int v2), (3, .int v3), (4, .int v4), (5, .int v5), (7, .int v7)]) hx hb d_Parts_newUnitsAt_88 hl (k := 7) rfl rfl (by decide) rfl (fun ls hl => ?_)
          refine lv_iload hx hb d_Parts_newUnitsAt_91 (lv_at hl 1 rfl) ?_
          refine lv_iload_n hx hb d_Parts_newUnitsAt_93 rfl (lv_at hl 4 rfl) ?_
          refine lv_icmp_ne (tgt := 106) hx hb d_Parts_newUnitsAt_94 (by decide) (fun c_4 => ?_) (fun c_4 => ?_)
          · rw [if_neg c_4] at hR
            refine lv_iinc (v := (v7 + 1)) (lv' := [(7, .int (v7 + 1)), (6, .int (v6 + 1)), (8, .int (m_Parts_partAt σ v4 v7)), (0, .ref (G 0 5)), (1, .int v1), (2, .int v2), (3, .int v3), (4, .int v4), (5, .int v5)]) hx hb d_Parts_newUnitsAt_106 hl (k := 8) rfl rfl (by decide) rfl (fun ls hl => ?_)
            refine lv_goto (tgt := 26) hx hb d_Parts_newUnitsAt_109 (by decide) ?_
            exact ih (m_ST_write σ 6 (m_Parts_partAt σ v4 v7) (v5 + 1)) v1 v2 v3 v4 v5 (v6 + 1) (v7 + 1) (by first | (rw [gO_w]; exact up_step hI (by assumption)) | exact up_step hI (by assumption)) hR _ _ hB ls (lv_sub hl [3, 4, 5, 6, 7, 8, 1, 0] rfl)
          · rw [if_pos c_4] at hR
            refine lv_iload hx hb d_Parts_newUnitsAt_97 (lv_at hl 7 rfl) ?_
            refine lv_iload_n hx hb d_Parts_newUnitsAt_99 rfl (lv_at hl 5 rfl) ?_
            refine lv_icmp_ne (tgt := 106) hx hb d_Parts_newUnitsAt_100 (by decide) (fun c_5 => ?_) (fun c_5 => ?_)
            · rw [if_neg c_5] at hR
              refine lv_iinc (v := (v7 + 1)) (lv' := [(7, .int (v7 + 1)), (6, .int (v6 + 1)), (8, .int (m_Parts_partAt σ v4 v7)), (0, .ref (G 0 5)), (1, .int v1), (2, .int v2), (3, .int v3), (4, .int v4), (5, .int v5)]) hx hb d_Parts_newUnitsAt_106 hl (k := 8) rfl rfl (by decide) rfl (fun ls hl => ?_)
              refine lv_goto (tgt := 26) hx hb d_Parts_newUnitsAt_109 (by decide) ?_
              exact ih (m_ST_write σ 6 (m_Parts_partAt σ v4 v7) (v5 + 1)) v1 v2 v3 v4 v5 (v6 + 1) (v7 + 1) (by first | (rw [gO_w]; exact up_step hI (by assumption)) | exact up_step hI (by assumption)) hR _ _ hB ls (lv_sub hl [3, 4, 5, 6, 7, 8, 1, 0] rfl)
            · rw [if_pos c_5] at hR
              refine lv_iload hx hb d_Parts_newUnitsAt_103 (lv_at hl 0 rfl) ?_
              obtain ⟨rfl, rfl⟩ := Prod.mk.inj hR
              exact ri hC hB rfl d_Parts_newUnitsAt_105

set_option maxHeartbeats 400000 in
set_option maxRecDepth 100000 in
theorem c_Parts_newUnitsAt  (σ : SC) (π : PJ) (x0 : Int32) (x1 : Int32) (x2 : Int32) : CM l y_Parts_newUnitsAt b_Parts_newUnitsAt 9 (some .int) { frames := 3, cells := 0, slots := 0, locals := 65 } D (tyL cI cL cQ) N0 [.ref (G 0 5), .int x0, .int x1, .int x2] (wsC G cI cL cQ σ π rest) (some (.int ((m_Parts_newUnitsAt σ x0 x1 x2).1))) (fun w => w = wsC G cI cL cQ ((m_Parts_newUnitsAt σ x0 x1 x2).2) π rest) 0 0 := by
  generalize hR : m_Parts_newUnitsAt σ x0 x1 x2 = RES
  obtain ⟨RV, RS⟩ := RES
  dsimp only
  refine met_of (own := R_Parts) (by decide) rfl nwl_ok ?_
  intro p e s m below meth c hC hin hB
  have hx := hC.1
  have hb := hC.2.1
  have hl := lv_entry ([.ref (G 0 5), .int x0, .int x1, .int x2]) (n := 9) (Nat.le_of_ble_eq_true rfl)
  rw [lg_entry_eq]
  generalize (lg_sl ([.ref (G 0 5), .int x0, .int x1, .int x2]) ++ List.replicate (9 - (lg_sl ([.ref (G 0 5), .int x0, .int x1, .int x2])).length) Slot.unset).toArray = ls at hl ⊢
  have hl : lv_has ls 9 [(0, .ref (G 0 5)), (1, .int x0), (2, .int x1), (3, .int x2)] := hl
  rw [m_Parts_newUnitsAt] at hR
  refine lv_aload_n hx hb d_Parts_newUnitsAt_0 rfl (lv_at hl 0 rfl) ?_
  refine gt hC hB _ lkC_Parts rfl i_Parts 0 (by decide) rfl kw_137 rfl d_Parts_newUnitsAt_1 ?_
  refine lv_iload_n hx hb d_Parts_newUnitsAt_4 rfl (lv_at hl 1 rfl) ?_
  refine kV hC hB _ lkC_Book rfl (c_Book_sheetAt σ π x0) allw_ok mf_Book_sheetAt kw_218 kw_219 kw_870 ⟨rfl, rfl, Nat.le_of_ble_eq_true rfl, Nat.le_of_ble_eq_true rfl⟩ rfl rfl hl.1 (Nat.le_of_ble_eq_true rfl) d_Parts_newUnitsAt_5 ⟨Nat.le_of_ble_eq_true rfl, Nat.le_of_ble_eq_true rfl⟩ (roK fun H locs hB => ?_)
  refine lv_istore (lv' := [(4, .int (m_Book_sheetAt σ x0)), (0, .ref (G 0 5)), (1, .int x0), (2, .int x1), (3, .int x2)]) hx hb d_Parts_newUnitsAt_8 hl (by decide) rfl (fun ls hl => ?_)
  refine lv_aload_n hx hb d_Parts_newUnitsAt_10 rfl (lv_at hl 1 rfl) ?_
  refine gt hC hB _ lkC_Parts rfl i_Parts 0 (by decide) rfl kw_137 rfl d_Parts_newUnitsAt_11 ?_
  refine lv_iload_n hx hb d_Parts_newUnitsAt_14 rfl (lv_at hl 2 rfl) ?_
  refine kV hC hB _ lkC_Book rfl (c_Book_comingAt σ π x0) allw_ok mf_Book_comingAt kw_851 kw_852 kw_871 ⟨rfl, rfl, Nat.le_of_ble_eq_true rfl, Nat.le_of_ble_eq_true rfl⟩ rfl rfl hl.1 (Nat.le_of_ble_eq_true rfl) d_Parts_newUnitsAt_15 ⟨Nat.le_of_ble_eq_true rfl, Nat.le_of_ble_eq_true rfl⟩ (roK fun H locs hB => ?_)
  refine lv_istore (lv' := [(5, .int (m_Book_comingAt σ x0)), (4, .int (m_Book_sheetAt σ x0)), (0, .ref (G 0 5)), (1, .int x0), (2, .int x1), (3, .int x2)]) hx hb d_Parts_newUnitsAt_18 hl (by decide) rfl (fun ls hl => ?_)
  refine lv_iconst (v := 0) hx hb d_Parts_newUnitsAt_20 (by decide) ?_
  refine lv_istore (lv' := [(6, .int 0), (5, .int (m_Book_comingAt σ x0)), (4, .int (m_Book_sheetAt σ x0)), (0, .ref (G 0 5)), (1, .int x0), (2, .int x1), (3, .int x2)]) hx hb d_Parts_newUnitsAt_21 hl (by decide) rfl (fun ls hl => ?_)
  refine lv_iconst (v := 0) hx hb d_Parts_newUnitsAt_23 (by decide) ?_
  refine lv_istore (lv' := [(7, .int 0), (6, .int 0), (5, .int (m_Book_comingAt σ x0)), (4, .int (m_Book_sheetAt σ x0)), (0, .ref (G 0 5)), (1, .int x0), (2, .int x1), (3, .int x2)]) hx hb d_Parts_newUnitsAt_24 hl (by decide) rfl (fun ls hl => ?_)
  exact w_Parts_newUnitsAt_26  π hC ((m_Parts_gatesOn σ (m_Book_sheetAt σ x0)).toNatClampNeg + 1) σ x0 x1 x2 (m_Book_sheetAt σ x0) (m_Book_comingAt σ x0) 0 0 (up_init _) hR _ _ hB ls (lv_sub hl [4, 5, 6, 7, 3, 2, 1, 0] rfl)

set_option maxHeartbeats 400000 in
set_option maxRecDepth 100000 in
theorem w_Parts_numberOf_14 {p : Program} {e : Env} {s : State} {m : MethodId} {args : Array Value} {below : List Frame} {meth : Method} {c : Code} {RES : Int32 × SC}  (π : PJ) (hC : cx D classes (tyL cI cL cQ) NWL ALLW N0 p s m args meth c b_Parts_numberOf 6 (some .int) R_Parts) :
    ∀ (n : Nat) (σ : SC) (v1 : Int32) (v2 : Int32) (v3 : Bool) (v4 : Int32) (v5 : Int32), upI n (m_Book_count σ) v5 → lp_Parts_numberOf_14 n σ  v1 v2 v3 v4 v5 = RES → ∀ (H : Heap) (locs : List Loc), bd D classes N0 (wsC G cI cL cQ σ π rest) s H locs → ∀ (ls : Array Slot), lv_has ls 6 [(0, .ref (G 0 5)), (1, .int v1), (2, .int v2), (3, .int (bi v3)), (4, .int v4), (5, .int v5)] → W p l e { frames := 4, cells := 0, slots := 0, locals := 93 } s m args below meth c H locs 0 0 (MQ below (qx D classes N0 (some (.int RES.1)) (fun w => w = wsC G cI cL cQ RES.2 π rest)) args s 0 0 (ga N0)) (F0 m 14 ls []) := by
  obtain ⟨RV, RS⟩ := RES
  dsimp only
  have hx := hC.1
  have hb := hC.2.1
  intro n
  induction n with
  | zero =>
    intro σ v1 v2 v3 v4 v5 hI
    exact absurd hI up_zero
  | succ n ih =>
    intro σ v1 v2 v3 v4 v5 hI hR H locs hB ls hl
    rw [lp_Parts_numberOf_14] at hR
    refine lv_iload hx hb d_Parts_numberOf_14 (lv_at hl 5 rfl) ?_
    refine lv_aload_n hx hb d_Parts_numberOf_16 rfl (lv_at hl 0 rfl) ?_
    refine gt hC hB _ lkC_Parts rfl i_Parts 0 (by decide) rfl kw_137 rfl d_Parts_numberOf_17 ?_
    refine kV hC hB _ lkC_Book rfl (c_Book_count σ π) allw_ok mf_Book_count kw_365 kw_366 kw_865 ⟨rfl, rfl, Nat.le_of_ble_eq_true rfl, Nat.le_of_ble_eq_true rfl⟩ rfl rfl hl.1 (Nat.le_of_ble_eq_true rfl) d_Parts_numberOf_20 ⟨Nat.le_of_ble_eq_true rfl, Nat.le_of_ble_eq_true rfl⟩ (roK fun H locs hB => ?_)
    refine lv_icmp_ge (tgt := 71) hx hb d_Parts_numberOf_23 (by decide) (fun c_1 => ?_) (fun c_1 => ?_)
    · rw [if_pos c_1] at hR
      refine lv_iconst (v := (-1)) hx hb d_Parts_numberOf_71 (by decide) ?_
      obtain ⟨rfl, rfl⟩ := Prod.mk.inj hR
      exact ri hC hB rfl d_Parts_numberOf_72
    · rw [if_neg c_1] at hR
      refine lv_iload_n hx hb d_Parts_numberOf_26 rfl (lv_at hl 3 rfl) ?_
      refine lv_if_eq (tgt := 37) hx hb d_Parts_numberOf_27 (by decide) (fun c_2 => ?_) (fun c_2 => ?_)
      · rw [if_pos c_2] at hR
        refine lv_iload hx hb d_Parts_numberOf_37 (lv_at hl 4 rfl) ?_
        refine lv_aload_n hx hb d_Parts_numberOf_39 rfl (lv_at hl 0 rfl) ?_
        refine lv_iload hx hb d_Parts_numberOf_40 (lv_at hl 5 rfl) ?_
        refine lv_iload_n hx hb d_Parts_numberOf_42 rfl (lv_at hl 1 rfl) ?_
        refine lv_iload_n hx hb d_Parts_numberOf_43 rfl (lv_at hl 2 rfl) ?_
        refine kV hC hB _ lkC_Parts rfl (c_Parts_newUnitsAt σ π v5 v1 v2) allw_ok mf_Parts_newUnitsAt kw_868 ks_27 kw_866 ⟨rfl, rfl, Nat.le_of_ble_eq_true rfl, Nat.le_of_ble_eq_true rfl⟩ rfl rfl hl.1 (Nat.le_of_ble_eq_true rfl) d_Parts_numberOf_44 ⟨Nat.le_of_ble_eq_true rfl, Nat.le_of_ble_eq_true rfl⟩ (roK fun H locs hB => ?_)
        refine lv_iadd hx hb d_Parts_numberOf_47 ?_
        refine lv_istore (lv' := [(4, .int (v4 + (m_Parts_newUnitsAt σ v5 v1 v2).1)), (0, .ref (G 0 5)), (1, .int v1), (2, .int v2), (3, .int (bi v3)), (5, .int v5)]) hx hb d_Parts_numberOf_48 hl (by decide) rfl (fun ls hl => ?_)
        refine lv_aload_n hx hb d_Parts_numberOf_50 rfl (lv_at hl 1 rfl) ?_
        refine gt hC hB _ lkC_Parts rfl i_Parts 7 (by decide) rfl kw_144 rfl d_Parts_numberOf_51 ?_
        refine lv_iload_n hx hb d_Parts_numberOf_54 rfl (lv_at hl 2 rfl) ?_
        refine kSN hC hB (c_ST_read 6 (by decide) ((m_Parts_newUnitsAt σ v5 v1 v2).2) π v1) allw_ok mf_ST_read kw_214 nw_5 ⟨rfl, rfl, Nat.le_of_ble_eq_true rfl, Nat.le_of_ble_eq_true rfl⟩ rfl rfl hl.1 (Nat.le_of_ble_eq_true rfl) d_Parts_numberOf_55 ⟨Nat.le_of_ble_eq_true rfl, Nat.le_of_ble_eq_true rfl⟩ (roK fun H locs hB => ?_)
        refine lv_iload_n hx hb d_Parts_numberOf_58 rfl (lv_at hl 3 rfl) ?_
        refine lv_icmp_le (tgt := 65) hx hb d_Parts_numberOf_59 (by decide) (fun c_3 => ?_) (fun c_3 => ?_)
        · rw [if_pos c_3] at hR
          refine lv_iinc (v := (v5 + 1)) (lv' := [(5, .int (v5 + 1)), (4, .int (v4 + (m_Parts_newUnitsAt σ v5 v1 v2).1)), (0, .ref (G 0 5)), (1, .int v1), (2, .int v2), (3, .int (bi v3))]) hx hb d_Parts_numberOf_65 hl (k := 5) rfl rfl (by decide) rfl (fun ls hl => ?_)
          refine lv_goto (tgt := 14) hx hb d_Parts_numberOf_68 (by decide) ?_
          exact ih ((m_Parts_newUnitsAt σ v5 v1 v2).2) v1 v2 v3 (v4 + (m_Parts_newUnitsAt σ v5 v1 v2).1) (v5 + 1) (by first | (rw [bC_n]; exact up_step hI (by assumption)) | exact up_step hI (by assumption)) hR _ _ hB ls (lv_sub hl [2, 3, 4, 5, 1, 0] rfl)
        · rw [if_neg c_3] at hR
          refine lv_iload hx hb d_Parts_numberOf_62 (lv_at hl 0 rfl) ?_
          obtain ⟨rfl, rfl⟩ := Prod.mk.inj hR
          exact ri hC hB rfl d_Parts_numberOf_64
      · rw [if_neg c_2] at hR
        refine lv_iload hx hb d_Parts_numberOf_30 (lv_at hl 5 rfl) ?_
        refine lv_bipush (v := 100) hx hb d_Parts_numberOf_32 (by decide) ?_
        refine lv_imul hx hb d_Parts_numberOf_34 ?_
        refine lv_istore (lv' := [(4, .int (v5 * 100)), (0, .ref (G 0 5)), (1, .int v1), (2, .int v2), (3, .int (bi v3)), (5, .int v5)]) hx hb d_Parts_numberOf_35 hl (by decide) rfl (fun ls hl => ?_)
        refine lv_iload hx hb d_Parts_numberOf_37 (lv_at hl 0 rfl) ?_
        refine lv_aload_n hx hb d_Parts_numberOf_39 rfl (lv_at hl 1 rfl) ?_
        refine lv_iload hx hb d_Parts_numberOf_40 (lv_at hl 5 rfl) ?_
        refine lv_iload_n hx hb d_Parts_numberOf_42 rfl (lv_at hl 2 rfl) ?_
        refine lv_iload_n hx hb d_Parts_numberOf_43 rfl (lv_at hl 3 rfl) ?_
        refine kV hC hB _ lkC_Parts rfl (c_Parts_newUnitsAt σ π v5 v1 v2) allw_ok mf_Parts_newUnitsAt kw_868 ks_27 kw_866 ⟨rfl, rfl, Nat.le_of_ble_eq_true rfl, Nat.le_of_ble_eq_true rfl⟩ rfl rfl hl.1 (Nat.le_of_ble_eq_true rfl) d_Parts_numberOf_44 ⟨Nat.le_of_ble_eq_true rfl, Nat.le_of_ble_eq_true rfl⟩ (roK fun H locs hB => ?_)
        refine lv_iadd hx hb d_Parts_numberOf_47 ?_
        refine lv_istore (lv' := [(4, .int ((v5 * 100) + (m_Parts_newUnitsAt σ v5 v1 v2).1)), (0, .ref (G 0 5)), (1, .int v1), (2, .int v2), (3, .int (bi v3)), (5, .int v5)]) hx hb d_Parts_numberOf_48 hl (by decide) rfl (fun ls hl => ?_)
        refine lv_aload_n hx hb d_Parts_numberOf_50 rfl (lv_at hl 1 rfl) ?_
        refine gt hC hB _ lkC_Parts rfl i_Parts 7 (by decide) rfl kw_144 rfl d_Parts_numberOf_51 ?_
        refine lv_iload_n hx hb d_Parts_numberOf_54 rfl (lv_at hl 2 rfl) ?_
        refine kSN hC hB (c_ST_read 6 (by decide) ((m_Parts_newUnitsAt σ v5 v1 v2).2) π v1) allw_ok mf_ST_read kw_214 nw_5 ⟨rfl, rfl, Nat.le_of_ble_eq_true rfl, Nat.le_of_ble_eq_true rfl⟩ rfl rfl hl.1 (Nat.le_of_ble_eq_true rfl) d_Parts_numberOf_55 ⟨Nat.le_of_ble_eq_true rfl, Nat.le_of_ble_eq_true rfl⟩ (roK fun H locs hB => ?_)
        refine lv_iload_n hx hb d_Parts_numberOf_58 rfl (lv_at hl 3 rfl) ?_
        refine lv_icmp_le (tgt := 65) hx hb d_Parts_numberOf_59 (by decide) (fun c_4 => ?_) (fun c_4 => ?_)
        · rw [if_pos c_4] at hR
          refine lv_iinc (v := (v5 + 1)) (lv' := [(5, .int (v5 + 1)), (4, .int ((v5 * 100) + (m_Parts_newUnitsAt σ v5 v1 v2).1)), (0, .ref (G 0 5)), (1, .int v1), (2, .int v2), (3, .int (bi v3))]) hx hb d_Parts_numberOf_65 hl (k := 5) rfl rfl (by decide) rfl (fun ls hl => ?_)
          refine lv_goto (tgt := 14) hx hb d_Parts_numberOf_68 (by decide) ?_
          exact ih ((m_Parts_newUnitsAt σ v5 v1 v2).2) v1 v2 v3 ((v5 * 100) + (m_Parts_newUnitsAt σ v5 v1 v2).1) (v5 + 1) (by first | (rw [bC_n]; exact up_step hI (by assumption)) | exact up_step hI (by assumption)) hR _ _ hB ls (lv_sub hl [2, 3, 4, 5, 1, 0] rfl)
        · rw [if_neg c_4] at hR
          refine lv_iload hx hb d_Parts_numberOf_62 (lv_at hl 0 rfl) ?_
          obtain ⟨rfl, rfl⟩ := Prod.mk.inj hR
          exact ri hC hB rfl d_Parts_numberOf_64

set_option maxHeartbeats 400000 in
set_option maxRecDepth 100000 in
theorem c_Parts_numberOf  (σ : SC) (π : PJ) (x0 : Int32) (x1 : Int32) (x2 : Bool) : CM l y_Parts_numberOf b_Parts_numberOf 6 (some .int) { frames := 4, cells := 0, slots := 0, locals := 93 } D (tyL cI cL cQ) N0 [.ref (G 0 5), .int x0, .int x1, .int (bi x2)] (wsC G cI cL cQ σ π rest) (some (.int ((m_Parts_numberOf σ x0 x1 x2).1))) (fun w => w = wsC G cI cL cQ ((m_Parts_numberOf σ x0 x1 x2).2) π rest) 0 0 := by
  generalize hR : m_Parts_numberOf σ x0 x1 x2 = RES
  obtain ⟨RV, RS⟩ := RES
  dsimp only
  refine met_of (own := R_Parts) (by decide) rfl nwl_ok ?_
  intro p e s m below meth c hC hin hB
  have hx := hC.1
  have hb := hC.2.1
  have hl := lv_entry ([.ref (G 0 5), .int x0, .int x1, .int (bi x2)]) (n := 6) (Nat.le_of_ble_eq_true rfl)
  rw [lg_entry_eq]
  generalize (lg_sl ([.ref (G 0 5), .int x0, .int x1, .int (bi x2)]) ++ List.replicate (6 - (lg_sl ([.ref (G 0 5), .int x0, .int x1, .int (bi x2)])).length) Slot.unset).toArray = ls at hl ⊢
  have hl : lv_has ls 6 [(0, .ref (G 0 5)), (1, .int x0), (2, .int x1), (3, .int (bi x2))] := hl
  rw [m_Parts_numberOf] at hR
  refine lv_aload_n hx hb d_Parts_numberOf_0 rfl (lv_at hl 0 rfl) ?_
  refine gt hC hB _ lkC_Parts rfl i_Parts 7 (by decide) rfl kw_144 rfl d_Parts_numberOf_1 ?_
  refine lv_iconst (v := 0) hx hb d_Parts_numberOf_4 (by decide) ?_
  refine kS hC hB (c_Arrays_fillI 6 (by decide) σ π 0) allw_ok mf_Arrays_fillI kw_200 kw_662 ⟨rfl, rfl, Nat.le_of_ble_eq_true rfl, Nat.le_of_ble_eq_true rfl⟩ rfl rfl hl.1 (Nat.le_of_ble_eq_true rfl) d_Parts_numberOf_5 ⟨Nat.le_of_ble_eq_true rfl, Nat.le_of_ble_eq_true rfl⟩ (roK fun H locs hB => ?_)
  refine lv_iconst (v := 0) hx hb d_Parts_numberOf_8 (by decide) ?_
  refine lv_istore (lv' := [(4, .int 0), (0, .ref (G 0 5)), (1, .int x0), (2, .int x1), (3, .int (bi x2))]) hx hb d_Parts_numberOf_9 hl (by decide) rfl (fun ls hl => ?_)
  refine lv_iconst (v := 0) hx hb d_Parts_numberOf_11 (by decide) ?_
  refine lv_istore (lv' := [(5, .int 0), (4, .int 0), (0, .ref (G 0 5)), (1, .int x0), (2, .int x1), (3, .int (bi x2))]) hx hb d_Parts_numberOf_12 hl (by decide) rfl (fun ls hl => ?_)
  exact w_Parts_numberOf_14  π hC ((m_Book_count (m_Arrays_fillI σ 6 0)).toNatClampNeg + 1) (m_Arrays_fillI σ 6 0) x0 x1 x2 0 0 (up_init _) hR _ _ hB ls (lv_sub hl [2, 3, 4, 5, 1, 0] rfl)

set_option maxHeartbeats 400000 in
set_option maxRecDepth 100000 in
theorem c_Parts_addPart  (σ : SC) (π : PJ) (hπ : RJ π σ) (x0 : Int32) (x1 : Int32) : CM l y_Parts_addPart b_Parts_addPart 4 (some .int) { frames := 4, cells := 3, slots := 12, locals := 86 } D (tyL cI cL cQ) N0 [.ref (G 0 5), .int x0, .int x1] (wsC G cI cL cQ σ π rest) (some (.int ((m_Parts_addPart σ x0 x1).1))) (pwC G cI cL cQ ((m_Parts_addPart σ x0 x1).2) rest) 3 12 := by
  generalize hR : m_Parts_addPart σ x0 x1 = RES
  obtain ⟨RV, RS⟩ := RES
  dsimp only
  refine met_of (own := R_Parts) (by decide) rfl nwl_ok ?_
  intro p e s m below meth c hC hin hB
  have hx := hC.1
  have hb := hC.2.1
  have hl := lv_entry ([.ref (G 0 5), .int x0, .int x1]) (n := 4) (Nat.le_of_ble_eq_true rfl)
  rw [lg_entry_eq]
  generalize (lg_sl ([.ref (G 0 5), .int x0, .int x1]) ++ List.replicate (4 - (lg_sl ([.ref (G 0 5), .int x0, .int x1])).length) Slot.unset).toArray = ls at hl ⊢
  have hl : lv_has ls 4 [(0, .ref (G 0 5)), (1, .int x0), (2, .int x1)] := hl
  rw [m_Parts_addPart] at hR
  refine lv_aload_n hx hb d_Parts_addPart_0 rfl (lv_at hl 0 rfl) ?_
  refine gt hC hB _ lkC_Parts rfl i_Parts 1 (by decide) rfl kw_138 rfl d_Parts_addPart_1 ?_
  refine lv_iconst (v := 0) hx hb d_Parts_addPart_4 (by decide) ?_
  refine kV hC hB _ (lkC_row (by decide)) rfl (c_Row_at 6 (by decide) σ π 0) allw_ok mf_Row_at kw_230 kw_231 kw_602 ⟨rfl, rfl, Nat.le_of_ble_eq_true rfl, Nat.le_of_ble_eq_true rfl⟩ rfl rfl hl.1 (Nat.le_of_ble_eq_true rfl) d_Parts_addPart_5 ⟨Nat.le_of_ble_eq_true rfl, Nat.le_of_ble_eq_true rfl⟩ (roK fun H locs hB => ?_)
  refine lv_istore_n (lv' := [(3, .int (m_Row_at σ 6 0)), (0, .ref (G 0 5)), (1, .int x0), (2, .int x1)]) hx hb d_Parts_addPart_8 rfl hl (by decide) rfl (fun ls hl => ?_)
  refine lv_aload_n hx hb d_Parts_addPart_9 rfl (lv_at hl 1 rfl) ?_
  refine gt hC hB _ lkC_Parts rfl i_Parts 1 (by decide) rfl kw_138 rfl d_Parts_addPart_10 ?_
  refine lv_iconst (v := 0) hx hb d_Parts_addPart_13 (by decide) ?_
  refine lv_iload_n hx hb d_Parts_addPart_14 rfl (lv_at hl 0 rfl) ?_
  refine lv_iconst (v := 1) hx hb d_Parts_addPart_15 (by decide) ?_
  refine lv_iadd hx hb d_Parts_addPart_16 ?_
  refine lv_i2l hx hb d_Parts_addPart_17 rfl ?_
  refine kV hC hB _ (lkC_row (by decide)) rfl (c_Row_set 6 (by decide) σ π hπ 0 (((m_Row_at σ 6 0) + 1).toInt64)) allw_ok mf_Row_set kw_289 kw_290 kw_607 ⟨rfl, rfl, Nat.le_of_ble_eq_true rfl, Nat.le_of_ble_eq_true rfl⟩ rfl rfl hl.1 (Nat.le_of_ble_eq_true rfl) d_Parts_addPart_18 ⟨Nat.le_of_ble_eq_true rfl, Nat.le_of_ble_eq_true rfl⟩ (fun H locs w hw hB => ?_)
  obtain ⟨π, hπ, rfl⟩ := hw
  refine lv_aload_n hx hb d_Parts_addPart_21 rfl (lv_at hl 1 rfl) ?_
  refine gt hC hB _ lkC_Parts rfl i_Parts 2 (by decide) rfl kw_139 rfl d_Parts_addPart_22 ?_
  refine lv_iload_n hx hb d_Parts_addPart_25 rfl (lv_at hl 0 rfl) ?_
  refine lv_iload_n hx hb d_Parts_addPart_26 rfl (lv_at hl 2 rfl) ?_
  refine lv_i2l hx hb d_Parts_addPart_27 rfl ?_
  refine kV hC hB _ (lkC_row (by decide)) rfl (c_Row_set 7 (by decide) (m_Row_set σ 6 0 (((m_Row_at σ 6 0) + 1).toInt64)) π hπ (m_Row_at σ 6 0) x0.toInt64) allw_ok mf_Row_set kw_289 kw_290 kw_607 ⟨rfl, rfl, Nat.le_of_ble_eq_true rfl, Nat.le_of_ble_eq_true rfl⟩ rfl rfl hl.1 (Nat.le_of_ble_eq_true rfl) d_Parts_addPart_28 ⟨Nat.le_of_ble_eq_true rfl, Nat.le_of_ble_eq_true rfl⟩ (fun H locs w hw hB => ?_)
  obtain ⟨π, hπ, rfl⟩ := hw
  refine lv_aload_n hx hb d_Parts_addPart_31 rfl (lv_at hl 1 rfl) ?_
  refine gt hC hB _ lkC_Parts rfl i_Parts 3 (by decide) rfl kw_140 rfl d_Parts_addPart_32 ?_
  refine lv_iload_n hx hb d_Parts_addPart_35 rfl (lv_at hl 0 rfl) ?_
  refine lv_iload_n hx hb d_Parts_addPart_36 rfl (lv_at hl 3 rfl) ?_
  refine lv_i2l hx hb d_Parts_addPart_37 rfl ?_
  refine kV hC hB _ (lkC_row (by decide)) rfl (c_Row_set 8 (by decide) (m_Row_set (m_Row_set σ 6 0 (((m_Row_at σ 6 0) + 1).toInt64)) 7 (m_Row_at σ 6 0) x0.toInt64) π hπ (m_Row_at σ 6 0) x1.toInt64) allw_ok mf_Row_set kw_289 kw_290 kw_607 ⟨rfl, rfl, Nat.le_of_ble_eq_true rfl, Nat.le_of_ble_eq_true rfl⟩ rfl rfl hl.1 (Nat.le_of_ble_eq_true rfl) d_Parts_addPart_38 ⟨Nat.le_of_ble_eq_true rfl, Nat.le_of_ble_eq_true rfl⟩ (fun H locs w hw hB => ?_)
  obtain ⟨π, hπ, rfl⟩ := hw
  refine lv_iload_n hx hb d_Parts_addPart_41 rfl (lv_at hl 0 rfl) ?_
  obtain ⟨rfl, rfl⟩ := Prod.mk.inj hR
  refine W.widen (k := 3) (n := 12) (Nat.le_of_ble_eq_true rfl) (Nat.le_of_ble_eq_true rfl) ?_
  exact ri hC hB ⟨π, hπ, rfl⟩ d_Parts_addPart_42

set_option maxHeartbeats 400000 in
set_option maxRecDepth 100000 in
theorem c_Parts_layGate  (σ : SC) (π : PJ) (hπ : RJ π σ) (x0 : Int32) (x1 : Int32) (x2 : Int32) : CM l y_Parts_layGate b_Parts_layGate 5 (none) { frames := 4, cells := 3, slots := 12, locals := 86 } D (tyL cI cL cQ) N0 [.ref (G 0 5), .int x0, .int x1, .int x2] (wsC G cI cL cQ σ π rest) (none) (pwC G cI cL cQ (m_Parts_layGate σ x0 x1 x2) rest) 3 12 := by
  generalize hR : m_Parts_layGate σ x0 x1 x2 = RES
  refine met_of (own := R_Parts) (by decide) rfl nwl_ok ?_
  intro p e s m below meth c hC hin hB
  have hx := hC.1
  have hb := hC.2.1
  have hl := lv_entry ([.ref (G 0 5), .int x0, .int x1, .int x2]) (n := 5) (Nat.le_of_ble_eq_true rfl)
  rw [lg_entry_eq]
  generalize (lg_sl ([.ref (G 0 5), .int x0, .int x1, .int x2]) ++ List.replicate (5 - (lg_sl ([.ref (G 0 5), .int x0, .int x1, .int x2])).length) Slot.unset).toArray = ls at hl ⊢
  have hl : lv_has ls 5 [(0, .ref (G 0 5)), (1, .int x0), (2, .int x1), (3, .int x2)] := hl
  rw [m_Parts_layGate] at hR
  refine lv_aload_n hx hb d_Parts_layGate_0 rfl (lv_at hl 0 rfl) ?_
  refine lv_iload_n hx hb d_Parts_layGate_1 rfl (lv_at hl 1 rfl) ?_
  refine kV hC hB _ lkC_Parts rfl (c_Parts_gatesOn σ π x0) allw_ok mf_Parts_gatesOn kw_638 kw_639 kw_645 ⟨rfl, rfl, Nat.le_of_ble_eq_true rfl, Nat.le_of_ble_eq_true rfl⟩ rfl rfl hl.1 (Nat.le_of_ble_eq_true rfl) d_Parts_layGate_2 ⟨Nat.le_of_ble_eq_true rfl, Nat.le_of_ble_eq_true rfl⟩ (roK fun H locs hB => ?_)
  refine lv_istore (lv' := [(4, .int (m_Parts_gatesOn σ x0)), (0, .ref (G 0 5)), (1, .int x0), (2, .int x1), (3, .int x2)]) hx hb d_Parts_layGate_5 hl (by decide) rfl (fun ls hl => ?_)
  refine lv_aload_n hx hb d_Parts_layGate_7 rfl (lv_at hl 1 rfl) ?_
  refine gt hC hB _ lkC_Parts rfl i_Parts 4 (by decide) rfl kw_141 rfl d_Parts_layGate_8 ?_
  refine lv_iload_n hx hb d_Parts_layGate_11 rfl (lv_at hl 3 rfl) ?_
  refine lv_bipush (v := 8) hx hb d_Parts_layGate_12 (by decide) ?_
  refine lv_imul hx hb d_Parts_layGate_14 ?_
  refine lv_iload_n hx hb d_Parts_layGate_15 rfl (lv_at hl 4 rfl) ?_
  refine lv_iadd hx hb d_Parts_layGate_16 ?_
  refine lv_iload_n hx hb d_Parts_layGate_17 rfl (lv_at hl 2 rfl) ?_
  refine lv_i2l hx hb d_Parts_layGate_18 rfl ?_
  refine kV hC hB _ (lkC_row (by decide)) rfl (c_Row_set 9 (by decide) σ π hπ ((x1 * 8) + x2) x0.toInt64) allw_ok mf_Row_set kw_289 kw_290 kw_607 ⟨rfl, rfl, Nat.le_of_ble_eq_true rfl, Nat.le_of_ble_eq_true rfl⟩ rfl rfl hl.1 (Nat.le_of_ble_eq_true rfl) d_Parts_layGate_19 ⟨Nat.le_of_ble_eq_true rfl, Nat.le_of_ble_eq_true rfl⟩ (fun H locs w hw hB => ?_)
  obtain ⟨π, hπ, rfl⟩ := hw
  refine lv_aload_n hx hb d_Parts_layGate_22 rfl (lv_at hl 1 rfl) ?_
  refine gt hC hB _ lkC_Parts rfl i_Parts 5 (by decide) rfl kw_142 rfl d_Parts_layGate_23 ?_
  refine lv_iload_n hx hb d_Parts_layGate_26 rfl (lv_at hl 2 rfl) ?_
  refine lv_bipush (v := 20) hx hb d_Parts_layGate_27 (by decide) ?_
  refine lv_imul hx hb d_Parts_layGate_29 ?_
  refine lv_iload hx hb d_Parts_layGate_30 (lv_at hl 0 rfl) ?_
  refine lv_iadd hx hb d_Parts_layGate_32 ?_
  refine lv_iload_n hx hb d_Parts_layGate_33 rfl (lv_at hl 3 rfl) ?_
  refine lv_bipush (v := 8) hx hb d_Parts_layGate_34 (by decide) ?_
  refine lv_imul hx hb d_Parts_layGate_36 ?_
  refine lv_iload_n hx hb d_Parts_layGate_37 rfl (lv_at hl 4 rfl) ?_
  refine lv_iadd hx hb d_Parts_layGate_38 ?_
  refine lv_i2l hx hb d_Parts_layGate_39 rfl ?_
  refine kV hC hB _ (lkC_row (by decide)) rfl (c_Row_set 10 (by decide) (m_Row_set σ 9 ((x1 * 8) + x2) x0.toInt64) π hπ ((x0 * 20) + (m_Parts_gatesOn σ x0)) (((x1 * 8) + x2).toInt64)) allw_ok mf_Row_set kw_289 kw_290 kw_607 ⟨rfl, rfl, Nat.le_of_ble_eq_true rfl, Nat.le_of_ble_eq_true rfl⟩ rfl rfl hl.1 (Nat.le_of_ble_eq_true rfl) d_Parts_layGate_40 ⟨Nat.le_of_ble_eq_true rfl, Nat.le_of_ble_eq_true rfl⟩ (fun H locs w hw hB => ?_)
  obtain ⟨π, hπ, rfl⟩ := hw
  refine lv_aload_n hx hb d_Parts_layGate_43 rfl (lv_at hl 1 rfl) ?_
  refine gt hC hB _ lkC_Parts rfl i_Parts 6 (by decide) rfl kw_143 rfl d_Parts_layGate_44 ?_
  refine lv_iload_n hx hb d_Parts_layGate_47 rfl (lv_at hl 2 rfl) ?_
  refine lv_iload hx hb d_Parts_layGate_48 (lv_at hl 0 rfl) ?_
  refine lv_iconst (v := 1) hx hb d_Parts_layGate_50 (by decide) ?_
  refine lv_iadd hx hb d_Parts_layGate_51 ?_
  refine lv_i2l hx hb d_Parts_layGate_52 rfl ?_
  refine kV hC hB _ (lkC_row (by decide)) rfl (c_Row_set 11 (by decide) (m_Row_set (m_Row_set σ 9 ((x1 * 8) + x2) x0.toInt64) 10 ((x0 * 20) + (m_Parts_gatesOn σ x0)) (((x1 * 8) + x2).toInt64)) π hπ x0 (((m_Parts_gatesOn σ x0) + 1).toInt64)) allw_ok mf_Row_set kw_289 kw_290 kw_607 ⟨rfl, rfl, Nat.le_of_ble_eq_true rfl, Nat.le_of_ble_eq_true rfl⟩ rfl rfl hl.1 (Nat.le_of_ble_eq_true rfl) d_Parts_layGate_53 ⟨Nat.le_of_ble_eq_true rfl, Nat.le_of_ble_eq_true rfl⟩ (fun H locs w hw hB => ?_)
  obtain ⟨π, hπ, rfl⟩ := hw
  subst hR
  refine W.widen (k := 3) (n := 12) (Nat.le_of_ble_eq_true rfl) (Nat.le_of_ble_eq_true rfl) ?_
  exact rv hC hB ⟨π, hπ, rfl⟩ d_Parts_layGate_56
end SC
end
section
def m_Variants_count (σ : SC) : Int32 :=
  (m_Row_at σ 12 0)

def m_Variants_isVariant (σ : SC) (x0 : Int32) : Bool :=
  if x0 < 0 then
    false
  else
    if (m_Variants_count σ) ≤ x0 then
      false
    else
      true

def m_Variants_content (σ : SC) (x0 : Int32) : Int64 :=
  (m_Row_longAt σ 15 x0)

def m_Variants_subjectOf (x0 : Int32) (x1 : Int32) (x2 : Int32) : Int32 :=
  ((((x0 * 10) + x1) * 30) + x2)

def lp_Variants_isAt_31 : Nat → SC → Int32 → Int32 → Int32 → Int32 → Int32 → Bool
  | 0, σ, _, _, _, _, _ => false
  | n + 1, σ, v1, v2, v3, v4, v5 =>
    if v5 < 0 then
      true
    else
      if (m_Row_at σ 17 ((v1 * 23) + v5)) = (m_Book_placementAt σ v4) then
        lp_Variants_isAt_31 n σ v1 v2 v3 (m_Book_pageAbove σ v4) (v5 + (-1))
      else
        false

def m_Variants_isAt (σ : SC) (x0 : Int32) (x1 : Int32) : Bool :=
  if (m_Row_at σ 16 x0) = (m_Book_depthAt σ x1) then
    lp_Variants_isAt_31 (((m_Book_depthAt σ x1) - 1).toNatClampNeg + 2) σ x0 x1 (m_Book_depthAt σ x1) x1 ((m_Book_depthAt σ x1) - 1)
  else
    false

def lp_Variants_find_2 : Nat → SC → Int32 → Int32 → Int32 → Int32
  | 0, σ, _, _, _ => 0
  | n + 1, σ, v1, v2, v3 =>
    if (m_Row_at σ 12 1) ≤ v3 then
      (-1)
    else
      if (m_Row_at σ 14 v3) = v1 then
        if (bi (m_Variants_isAt σ v3 v2)) = 0 then
          lp_Variants_find_2 n σ v1 v2 (v3 + 1)
        else
          v3
      else
        lp_Variants_find_2 n σ v1 v2 (v3 + 1)

def m_Variants_find (σ : SC) (x0 : Int32) (x1 : Int32) : Int32 :=
  lp_Variants_find_2 ((m_Row_at σ 12 1).toNatClampNeg + 1) σ x0 x1 0

def m_Variants_addVariant (σ : SC) (x0 : Int32) : Int32 × SC :=
  ((m_Variants_count σ), (m_Row_set (m_Row_set σ 12 0 (((m_Variants_count σ) + 1).toInt64)) 13 (m_Variants_count σ) x0.toInt64))

section SC
variable {l : Launch} {D : va_G} {N0 : Nat} {G : Nat → Nat → Nat} {cI cL cQ : ClassId} {rest : va_W}
set_option maxHeartbeats 400000 in
set_option maxRecDepth 100000 in
theorem c_Variants_count  (σ : SC) (π : PJ)  : CM l y_Variants_count b_Variants_count 1 (some .int) { frames := 1, cells := 0, slots := 0, locals := 21 } D (tyL cI cL cQ) N0 [.ref (G 0 6)] (wsC G cI cL cQ σ π rest) (some (.int (m_Variants_count σ))) (fun w => w = wsC G cI cL cQ σ π rest) 0 0 := by
  generalize hR : m_Variants_count σ = RES
  refine met_of (own := R_Variants) (by decide) rfl nwl_ok ?_
  intro p e s m below meth c hC hin hB
  have hx := hC.1
  have hb := hC.2.1
  have hl := lv_entry ([.ref (G 0 6)]) (n := 1) (Nat.le_of_ble_eq_true rfl)
  rw [lg_entry_eq]
  generalize (lg_sl ([.ref (G 0 6)]) ++ List.replicate (1 - (lg_sl ([.ref (G 0 6)])).length) Slot.unset).toArray = ls at hl ⊢
  have hl : lv_has ls 1 [(0, .ref (G 0 6))] := hl
  rw [m_Variants_count] at hR
  refine lv_aload_n hx hb d_Variants_count_0 rfl (lv_at hl 0 rfl) ?_
  refine gt hC hB _ lkC_Variants rfl i_Variants 1 (by decide) rfl kw_172 rfl d_Variants_count_1 ?_
  refine lv_iconst (v := 0) hx hb d_Variants_count_4 (by decide) ?_
  refine kV hC hB _ (lkC_row (by decide)) rfl (c_Row_at 12 (by decide) σ π 0) allw_ok mf_Row_at kw_230 kw_231 kw_727 ⟨rfl, rfl, Nat.le_of_ble_eq_true rfl, Nat.le_of_ble_eq_true rfl⟩ rfl rfl hl.1 (Nat.le_of_ble_eq_true rfl) d_Variants_count_5 ⟨Nat.le_of_ble_eq_true rfl, Nat.le_of_ble_eq_true rfl⟩ (roK fun H locs hB => ?_)
  subst hR
  exact ri hC hB rfl d_Variants_count_8

set_option maxHeartbeats 400000 in
set_option maxRecDepth 100000 in
theorem c_Variants_isVariant  (σ : SC) (π : PJ) (x0 : Int32) : CM l y_Variants_isVariant b_Variants_isVariant 2 (some .boolean) { frames := 2, cells := 0, slots := 0, locals := 41 } D (tyL cI cL cQ) N0 [.ref (G 0 6), .int x0] (wsC G cI cL cQ σ π rest) (some (.int (bi (m_Variants_isVariant σ x0)))) (fun w => w = wsC G cI cL cQ σ π rest) 0 0 := by
  generalize hR : m_Variants_isVariant σ x0 = RES
  refine met_of (own := R_Variants) (by decide) rfl nwl_ok ?_
  intro p e s m below meth c hC hin hB
  have hx := hC.1
  have hb := hC.2.1
  have hl := lv_entry ([.ref (G 0 6), .int x0]) (n := 2) (Nat.le_of_ble_eq_true rfl)
  rw [lg_entry_eq]
  generalize (lg_sl ([.ref (G 0 6), .int x0]) ++ List.replicate (2 - (lg_sl ([.ref (G 0 6), .int x0])).length) Slot.unset).toArray = ls at hl ⊢
  have hl : lv_has ls 2 [(0, .ref (G 0 6)), (1, .int x0)] := hl
  rw [m_Variants_isVariant] at hR
  refine lv_iload_n hx hb d_Variants_isVariant_0 rfl (lv_at hl 1 rfl) ?_
  refine lv_if_lt (tgt := 16) hx hb d_Variants_isVariant_1 (by decide) (fun c_1 => ?_) (fun c_1 => ?_)
  · rw [if_pos c_1] at hR
    refine lv_iconst (v := 0) hx hb d_Variants_isVariant_16 (by decide) ?_
    subst hR
    exact rz (b := false) hC hB rfl d_Variants_isVariant_17
  · rw [if_neg c_1] at hR
    refine lv_iload_n hx hb d_Variants_isVariant_4 rfl (lv_at hl 1 rfl) ?_
    refine lv_aload_n hx hb d_Variants_isVariant_5 rfl (lv_at hl 0 rfl) ?_
    refine kV hC hB _ lkC_Variants rfl (c_Variants_count σ π) allw_ok mf_Variants_count kw_724 kw_725 kw_723 ⟨rfl, rfl, Nat.le_of_ble_eq_true rfl, Nat.le_of_ble_eq_true rfl⟩ rfl rfl hl.1 (Nat.le_of_ble_eq_true rfl) d_Variants_isVariant_6 ⟨Nat.le_of_ble_eq_true rfl, Nat.le_of_ble_eq_true rfl⟩ (roK fun H locs hB => ?_)
    refine lv_icmp_ge (tgt := 16) hx hb d_Variants_isVariant_9 (by decide) (fun c_2 => ?_) (fun c_2 => ?_)
    · rw [if_pos c_2] at hR
      refine lv_iconst (v := 0) hx hb d_Variants_isVariant_16 (by decide) ?_
      subst hR
      exact rz (b := false) hC hB rfl d_Variants_isVariant_17
    · rw [if_neg c_2] at hR
      refine lv_iconst (v := 1) hx hb d_Variants_isVariant_12 (by decide) ?_
      refine lv_goto (tgt := 17) hx hb d_Variants_isVariant_13 (by decide) ?_
      subst hR
      exact rz (b := true) hC hB rfl d_Variants_isVariant_17

set_option maxHeartbeats 400000 in
set_option maxRecDepth 100000 in
theorem c_Variants_content  (σ : SC) (π : PJ) (x0 : Int32) : CM l y_Variants_content b_Variants_content 2 (some .long) { frames := 1, cells := 0, slots := 0, locals := 21 } D (tyL cI cL cQ) N0 [.ref (G 0 6), .int x0] (wsC G cI cL cQ σ π rest) (some (.long (m_Variants_content σ x0))) (fun w => w = wsC G cI cL cQ σ π rest) 0 0 := by
  generalize hR : m_Variants_content σ x0 = RES
  refine met_of (own := R_Variants) (by decide) rfl nwl_ok ?_
  intro p e s m below meth c hC hin hB
  have hx := hC.1
  have hb := hC.2.1
  have hl := lv_entry ([.ref (G 0 6), .int x0]) (n := 2) (Nat.le_of_ble_eq_true rfl)
  rw [lg_entry_eq]
  generalize (lg_sl ([.ref (G 0 6), .int x0]) ++ List.replicate (2 - (lg_sl ([.ref (G 0 6), .int x0])).length) Slot.unset).toArray = ls at hl ⊢
  have hl : lv_has ls 2 [(0, .ref (G 0 6)), (1, .int x0)] := hl
  rw [m_Variants_content] at hR
  refine lv_aload_n hx hb d_Variants_content_0 rfl (lv_at hl 0 rfl) ?_
  refine gt hC hB _ lkC_Variants rfl i_Variants 4 (by decide) rfl kw_175 rfl d_Variants_content_1 ?_
  refine lv_iload_n hx hb d_Variants_content_4 rfl (lv_at hl 1 rfl) ?_
  refine kV hC hB _ (lkC_row (by decide)) rfl (c_Row_longAt 15 (by decide) σ π x0) allw_ok mf_Row_longAt kw_293 kw_294 kw_773 ⟨rfl, rfl, Nat.le_of_ble_eq_true rfl, Nat.le_of_ble_eq_true rfl⟩ rfl rfl hl.1 (Nat.le_of_ble_eq_true rfl) d_Variants_content_5 ⟨Nat.le_of_ble_eq_true rfl, Nat.le_of_ble_eq_true rfl⟩ (roK fun H locs hB => ?_)
  subst hR
  exact rl hC hB rfl d_Variants_content_8

set_option maxHeartbeats 400000 in
set_option maxRecDepth 100000 in
theorem c_Variants_subjectOf  (σ : SC) (π : PJ) (x0 : Int32) (x1 : Int32) (x2 : Int32) : CM l y_Variants_subjectOf b_Variants_subjectOf 3 (some .int) { frames := 0, cells := 0, slots := 0, locals := 0 } D (tyL cI cL cQ) N0 [.int x0, .int x1, .int x2] (wsC G cI cL cQ σ π rest) (some (.int (m_Variants_subjectOf x0 x1 x2))) (fun w => w = wsC G cI cL cQ σ π rest) 0 0 := by
  generalize hR : m_Variants_subjectOf x0 x1 x2 = RES
  refine met_of (own := R_Variants) (by decide) rfl nwl_ok ?_
  intro p e s m below meth c hC hin hB
  have hx := hC.1
  have hb := hC.2.1
  have hl := lv_entry ([.int x0, .int x1, .int x2]) (n := 3) (Nat.le_of_ble_eq_true rfl)
  rw [lg_entry_eq]
  generalize (lg_sl ([.int x0, .int x1, .int x2]) ++ List.replicate (3 - (lg_sl ([.int x0, .int x1, .int x2])).length) Slot.unset).toArray = ls at hl ⊢
  have hl : lv_has ls 3 [(0, .int x0), (1, .int x1), (2, .int x2)] := hl
  rw [m_Variants_subjectOf] at hR
  refine lv_iload_n hx hb d_Variants_subjectOf_0 rfl (lv_at hl 0 rfl) ?_
  refine lv_bipush (v := 10) hx hb d_Variants_subjectOf_1 (by decide) ?_
  refine lv_imul hx hb d_Variants_subjectOf_3 ?_
  refine lv_iload_n hx hb d_Variants_subjectOf_4 rfl (lv_at hl 1 rfl) ?_
  refine lv_iadd hx hb d_Variants_subjectOf_5 ?_
  refine lv_bipush (v := 30) hx hb d_Variants_subjectOf_6 (by decide) ?_
  refine lv_imul hx hb d_Variants_subjectOf_8 ?_
  refine lv_iload_n hx hb d_Variants_subjectOf_9 rfl (lv_at hl 2 rfl) ?_
  refine lv_iadd hx hb d_Variants_subjectOf_10 ?_
  subst hR
  exact ri hC hB rfl d_Variants_subjectOf_11

set_option maxHeartbeats 400000 in
set_option maxRecDepth 100000 in
theorem w_Variants_isAt_31 {p : Program} {e : Env} {s : State} {m : MethodId} {args : Array Value} {below : List Frame} {meth : Method} {c : Code} {RES : Bool}  (σ : SC) (π : PJ) (hC : cx D classes (tyL cI cL cQ) NWL ALLW N0 p s m args meth c b_Variants_isAt 6 (some .boolean) R_Variants) :
    ∀ (n : Nat) (v1 : Int32) (v2 : Int32) (v3 : Int32) (v4 : Int32) (v5 : Int32), dnI n v5 → lp_Variants_isAt_31 n σ  v1 v2 v3 v4 v5 = RES → ∀ (H : Heap) (locs : List Loc), bd D classes N0 (wsC G cI cL cQ σ π rest) s H locs → ∀ (ls : Array Slot), lv_has ls 6 [(0, .ref (G 0 6)), (1, .int v1), (2, .int v2), (3, .int v3), (4, .int v4), (5, .int v5)] → W p l e { frames := 2, cells := 0, slots := 0, locals := 42 } s m args below meth c H locs 0 0 (MQ below (qx D classes N0 (some (.int (bi RES))) (fun w => w = wsC G cI cL cQ σ π rest)) args s 0 0 (ga N0)) (F0 m 31 ls []) := by
  have hx := hC.1
  have hb := hC.2.1
  intro n
  induction n with
  | zero =>
    intro v1 v2 v3 v4 v5 hI
    exact absurd hI dn_zero
  | succ n ih =>
    intro v1 v2 v3 v4 v5 hI hR H locs hB ls hl
    rw [lp_Variants_isAt_31] at hR
    refine lv_iload hx hb d_Variants_isAt_31 (lv_at hl 5 rfl) ?_
    refine lv_if_lt (tgt := 81) hx hb d_Variants_isAt_33 (by decide) (fun c_1 => ?_) (fun c_1 => ?_)
    · rw [if_pos c_1] at hR
      refine lv_iconst (v := 1) hx hb d_Variants_isAt_81 (by decide) ?_
      subst hR
      exact rz (b := true) hC hB rfl d_Variants_isAt_82
    · rw [if_neg c_1] at hR
      refine lv_aload_n hx hb d_Variants_isAt_36 rfl (lv_at hl 0 rfl) ?_
      refine gt hC hB _ lkC_Variants rfl i_Variants 6 (by decide) rfl kw_177 rfl d_Variants_isAt_37 ?_
      refine lv_iload_n hx hb d_Variants_isAt_40 rfl (lv_at hl 1 rfl) ?_
      refine lv_bipush (v := 23) hx hb d_Variants_isAt_41 (by decide) ?_
      refine lv_imul hx hb d_Variants_isAt_43 ?_
      refine lv_iload hx hb d_Variants_isAt_44 (lv_at hl 5 rfl) ?_
      refine lv_iadd hx hb d_Variants_isAt_46 ?_
      refine kV hC hB _ (lkC_row (by decide)) rfl (c_Row_at 17 (by decide) σ π ((v1 * 23) + v5)) allw_ok mf_Row_at kw_230 kw_231 kw_727 ⟨rfl, rfl, Nat.le_of_ble_eq_true rfl, Nat.le_of_ble_eq_true rfl⟩ rfl rfl hl.1 (Nat.le_of_ble_eq_true rfl) d_Variants_isAt_47 ⟨Nat.le_of_ble_eq_true rfl, Nat.le_of_ble_eq_true rfl⟩ (roK fun H locs hB => ?_)
      refine lv_aload_n hx hb d_Variants_isAt_50 rfl (lv_at hl 0 rfl) ?_
      refine gt hC hB _ lkC_Variants rfl i_Variants 0 (by decide) rfl kw_171 rfl d_Variants_isAt_51 ?_
      refine lv_iload hx hb d_Variants_isAt_54 (lv_at hl 4 rfl) ?_
      refine kV hC hB _ lkC_Book rfl (c_Book_placementAt σ π v4) allw_ok mf_Book_placementAt kw_234 kw_235 kw_767 ⟨rfl, rfl, Nat.le_of_ble_eq_true rfl, Nat.le_of_ble_eq_true rfl⟩ rfl rfl hl.1 (Nat.le_of_ble_eq_true rfl) d_Variants_isAt_56 ⟨Nat.le_of_ble_eq_true rfl, Nat.le_of_ble_eq_true rfl⟩ (roK fun H locs hB => ?_)
      refine lv_icmp_eq (tgt := 64) hx hb d_Variants_isAt_59 (by decide) (fun c_2 => ?_) (fun c_2 => ?_)
      · rw [if_pos c_2] at hR
        refine lv_aload_n hx hb d_Variants_isAt_64 rfl (lv_at hl 0 rfl) ?_
        refine gt hC hB _ lkC_Variants rfl i_Variants 0 (by decide) rfl kw_171 rfl d_Variants_isAt_65 ?_
        refine lv_iload hx hb d_Variants_isAt_68 (lv_at hl 4 rfl) ?_
        refine kV hC hB _ lkC_Book rfl (c_Book_pageAbove σ π v4) allw_ok mf_Book_pageAbove kw_242 kw_243 kw_768 ⟨rfl, rfl, Nat.le_of_ble_eq_true rfl, Nat.le_of_ble_eq_true rfl⟩ rfl rfl hl.1 (Nat.le_of_ble_eq_true rfl) d_Variants_isAt_70 ⟨Nat.le_of_ble_eq_true rfl, Nat.le_of_ble_eq_true rfl⟩ (roK fun H locs hB => ?_)
        refine lv_istore (lv' := [(4, .int (m_Book_pageAbove σ v4)), (0, .ref (G 0 6)), (1, .int v1), (2, .int v2), (3, .int v3), (5, .int v5)]) hx hb d_Variants_isAt_73 hl (by decide) rfl (fun ls hl => ?_)
        refine lv_iinc (v := (v5 + (-1))) (lv' := [(5, .int (v5 + (-1))), (4, .int (m_Book_pageAbove σ v4)), (0, .ref (G 0 6)), (1, .int v1), (2, .int v2), (3, .int v3)]) hx hb d_Variants_isAt_75 hl (k := 5) rfl rfl (by decide) rfl (fun ls hl => ?_)
        refine lv_goto (tgt := 31) hx hb d_Variants_isAt_78 (by decide) ?_
        exact ih v1 v2 v3 (m_Book_pageAbove σ v4) (v5 + (-1)) (dn_step hI (by assumption)) hR _ _ hB ls (lv_sub hl [2, 3, 4, 5, 1, 0] rfl)
      · rw [if_neg c_2] at hR
        refine lv_iconst (v := 0) hx hb d_Variants_isAt_62 (by decide) ?_
        subst hR
        exact rz (b := false) hC hB rfl d_Variants_isAt_63

set_option maxHeartbeats 400000 in
set_option maxRecDepth 100000 in
theorem c_Variants_isAt  (σ : SC) (π : PJ) (x0 : Int32) (x1 : Int32) : CM l y_Variants_isAt b_Variants_isAt 6 (some .boolean) { frames := 2, cells := 0, slots := 0, locals := 42 } D (tyL cI cL cQ) N0 [.ref (G 0 6), .int x0, .int x1] (wsC G cI cL cQ σ π rest) (some (.int (bi (m_Variants_isAt σ x0 x1)))) (fun w => w = wsC G cI cL cQ σ π rest) 0 0 := by
  generalize hR : m_Variants_isAt σ x0 x1 = RES
  refine met_of (own := R_Variants) (by decide) rfl nwl_ok ?_
  intro p e s m below meth c hC hin hB
  have hx := hC.1
  have hb := hC.2.1
  have hl := lv_entry ([.ref (G 0 6), .int x0, .int x1]) (n := 6) (Nat.le_of_ble_eq_true rfl)
  rw [lg_entry_eq]
  generalize (lg_sl ([.ref (G 0 6), .int x0, .int x1]) ++ List.replicate (6 - (lg_sl ([.ref (G 0 6), .int x0, .int x1])).length) Slot.unset).toArray = ls at hl ⊢
  have hl : lv_has ls 6 [(0, .ref (G 0 6)), (1, .int x0), (2, .int x1)] := hl
  rw [m_Variants_isAt] at hR
  refine lv_aload_n hx hb d_Variants_isAt_0 rfl (lv_at hl 0 rfl) ?_
  refine gt hC hB _ lkC_Variants rfl i_Variants 0 (by decide) rfl kw_171 rfl d_Variants_isAt_1 ?_
  refine lv_iload_n hx hb d_Variants_isAt_4 rfl (lv_at hl 2 rfl) ?_
  refine kV hC hB _ lkC_Book rfl (c_Book_depthAt σ π x1) allw_ok mf_Book_depthAt kw_250 kw_251 kw_766 ⟨rfl, rfl, Nat.le_of_ble_eq_true rfl, Nat.le_of_ble_eq_true rfl⟩ rfl rfl hl.1 (Nat.le_of_ble_eq_true rfl) d_Variants_isAt_5 ⟨Nat.le_of_ble_eq_true rfl, Nat.le_of_ble_eq_true rfl⟩ (roK fun H locs hB => ?_)
  refine lv_istore_n (lv' := [(3, .int (m_Book_depthAt σ x1)), (0, .ref (G 0 6)), (1, .int x0), (2, .int x1)]) hx hb d_Variants_isAt_8 rfl hl (by decide) rfl (fun ls hl => ?_)
  refine lv_aload_n hx hb d_Variants_isAt_9 rfl (lv_at hl 1 rfl) ?_
  refine gt hC hB _ lkC_Variants rfl i_Variants 5 (by decide) rfl kw_176 rfl d_Variants_isAt_10 ?_
  refine lv_iload_n hx hb d_Variants_isAt_13 rfl (lv_at hl 2 rfl) ?_
  refine kV hC hB _ (lkC_row (by decide)) rfl (c_Row_at 16 (by decide) σ π x0) allw_ok mf_Row_at kw_230 kw_231 kw_727 ⟨rfl, rfl, Nat.le_of_ble_eq_true rfl, Nat.le_of_ble_eq_true rfl⟩ rfl rfl hl.1 (Nat.le_of_ble_eq_true rfl) d_Variants_isAt_14 ⟨Nat.le_of_ble_eq_true rfl, Nat.le_of_ble_eq_true rfl⟩ (roK fun H locs hB => ?_)
  refine lv_iload_n hx hb d_Variants_isAt_17 rfl (lv_at hl 0 rfl) ?_
  refine lv_icmp_eq (tgt := 23) hx hb d_Variants_isAt_18 (by decide) (fun c_1 => ?_) (fun c_1 => ?_)
  · rw [if_pos c_1] at hR
    refine lv_iload_n hx hb d_Variants_isAt_23 rfl (lv_at hl 3 rfl) ?_
    refine lv_istore (lv' := [(4, .int x1), (3, .int (m_Book_depthAt σ x1)), (0, .ref (G 0 6)), (1, .int x0), (2, .int x1)]) hx hb d_Variants_isAt_24 hl (by decide) rfl (fun ls hl => ?_)
    refine lv_iload_n hx hb d_Variants_isAt_26 rfl (lv_at hl 1 rfl) ?_
    refine lv_iconst (v := 1) hx hb d_Variants_isAt_27 (by decide) ?_
    refine lv_isub hx hb d_Variants_isAt_28 ?_
    refine lv_istore (lv' := [(5, .int ((m_Book_depthAt σ x1) - 1)), (4, .int x1), (3, .int (m_Book_depthAt σ x1)), (0, .ref (G 0 6)), (1, .int x0), (2, .int x1)]) hx hb d_Variants_isAt_29 hl (by decide) rfl (fun ls hl => ?_)
    exact w_Variants_isAt_31  σ π hC (((m_Book_depthAt σ x1) - 1).toNatClampNeg + 2) x0 x1 (m_Book_depthAt σ x1) x1 ((m_Book_depthAt σ x1) - 1) (dn_init _) hR _ _ hB ls (lv_sub hl [3, 4, 5, 2, 1, 0] rfl)
  · rw [if_neg c_1] at hR
    refine lv_iconst (v := 0) hx hb d_Variants_isAt_21 (by decide) ?_
    subst hR
    exact rz (b := false) hC hB rfl d_Variants_isAt_22

set_option maxHeartbeats 400000 in
set_option maxRecDepth 100000 in
theorem w_Variants_find_2 {p : Program} {e : Env} {s : State} {m : MethodId} {args : Array Value} {below : List Frame} {meth : Method} {c : Code} {RES : Int32}  (σ : SC) (π : PJ) (hC : cx D classes (tyL cI cL cQ) NWL ALLW N0 p s m args meth c b_Variants_find 4 (some .int) R_Variants) :
    ∀ (n : Nat) (v1 : Int32) (v2 : Int32) (v3 : Int32), upI n (m_Row_at σ 12 1) v3 → lp_Variants_find_2 n σ  v1 v2 v3 = RES → ∀ (H : Heap) (locs : List Loc), bd D classes N0 (wsC G cI cL cQ σ π rest) s H locs → ∀ (ls : Array Slot), lv_has ls 4 [(0, .ref (G 0 6)), (1, .int v1), (2, .int v2), (3, .int v3)] → W p l e { frames := 3, cells := 0, slots := 0, locals := 67 } s m args below meth c H locs 0 0 (MQ below (qx D classes N0 (some (.int RES)) (fun w => w = wsC G cI cL cQ σ π rest)) args s 0 0 (ga N0)) (F0 m 2 ls []) := by
  have hx := hC.1
  have hb := hC.2.1
  intro n
  induction n with
  | zero =>
    intro v1 v2 v3 hI
    exact absurd hI up_zero
  | succ n ih =>
    intro v1 v2 v3 hI hR H locs hB ls hl
    rw [lp_Variants_find_2] at hR
    refine lv_iload_n hx hb d_Variants_find_2 rfl (lv_at hl 3 rfl) ?_
    refine lv_aload_n hx hb d_Variants_find_3 rfl (lv_at hl 0 rfl) ?_
    refine gt hC hB _ lkC_Variants rfl i_Variants 1 (by decide) rfl kw_172 rfl d_Variants_find_4 ?_
    refine lv_iconst (v := 1) hx hb d_Variants_find_7 (by decide) ?_
    refine kV hC hB _ (lkC_row (by decide)) rfl (c_Row_at 12 (by decide) σ π 1) allw_ok mf_Row_at kw_230 kw_231 kw_727 ⟨rfl, rfl, Nat.le_of_ble_eq_true rfl, Nat.le_of_ble_eq_true rfl⟩ rfl rfl hl.1 (Nat.le_of_ble_eq_true rfl) d_Variants_find_8 ⟨Nat.le_of_ble_eq_true rfl, Nat.le_of_ble_eq_true rfl⟩ (roK fun H locs hB => ?_)
    refine lv_icmp_ge (tgt := 43) hx hb d_Variants_find_11 (by decide) (fun c_1 => ?_) (fun c_1 => ?_)
    · rw [if_pos c_1] at hR
      refine lv_iconst (v := (-1)) hx hb d_Variants_find_43 (by decide) ?_
      subst hR
      exact ri hC hB rfl d_Variants_find_44
    · rw [if_neg c_1] at hR
      refine lv_aload_n hx hb d_Variants_find_14 rfl (lv_at hl 0 rfl) ?_
      refine gt hC hB _ lkC_Variants rfl i_Variants 3 (by decide) rfl kw_174 rfl d_Variants_find_15 ?_
      refine lv_iload_n hx hb d_Variants_find_18 rfl (lv_at hl 3 rfl) ?_
      refine kV hC hB _ (lkC_row (by decide)) rfl (c_Row_at 14 (by decide) σ π v3) allw_ok mf_Row_at kw_230 kw_231 kw_727 ⟨rfl, rfl, Nat.le_of_ble_eq_true rfl, Nat.le_of_ble_eq_true rfl⟩ rfl rfl hl.1 (Nat.le_of_ble_eq_true rfl) d_Variants_find_19 ⟨Nat.le_of_ble_eq_true rfl, Nat.le_of_ble_eq_true rfl⟩ (roK fun H locs hB => ?_)
      refine lv_iload_n hx hb d_Variants_find_22 rfl (lv_at hl 1 rfl) ?_
      refine lv_icmp_ne (tgt := 37) hx hb d_Variants_find_23 (by decide) (fun c_2 => ?_) (fun c_2 => ?_)
      · rw [if_neg c_2] at hR
        refine lv_iinc (v := (v3 + 1)) (lv' := [(3, .int (v3 + 1)), (0, .ref (G 0 6)), (1, .int v1), (2, .int v2)]) hx hb d_Variants_find_37 hl (k := 3) rfl rfl (by decide) rfl (fun ls hl => ?_)
        refine lv_goto (tgt := 2) hx hb d_Variants_find_40 (by decide) ?_
        exact ih v1 v2 (v3 + 1) (up_step hI (by assumption)) hR _ _ hB ls (lv_sub hl [1, 2, 3, 0] rfl)
      · rw [if_pos c_2] at hR
        refine lv_aload_n hx hb d_Variants_find_26 rfl (lv_at hl 0 rfl) ?_
        refine lv_iload_n hx hb d_Variants_find_27 rfl (lv_at hl 3 rfl) ?_
        refine lv_iload_n hx hb d_Variants_find_28 rfl (lv_at hl 2 rfl) ?_
        refine kV hC hB _ lkC_Variants rfl (c_Variants_isAt σ π v3 v2) allw_ok mf_Variants_isAt kw_764 ks_23 kw_762 ⟨rfl, rfl, Nat.le_of_ble_eq_true rfl, Nat.le_of_ble_eq_true rfl⟩ rfl rfl hl.1 (Nat.le_of_ble_eq_true rfl) d_Variants_find_29 ⟨Nat.le_of_ble_eq_true rfl, Nat.le_of_ble_eq_true rfl⟩ (roK fun H locs hB => ?_)
        refine lv_if_eq (tgt := 37) hx hb d_Variants_find_32 (by decide) (fun c_3 => ?_) (fun c_3 => ?_)
        · rw [if_pos c_3] at hR
          refine lv_iinc (v := (v3 + 1)) (lv' := [(3, .int (v3 + 1)), (0, .ref (G 0 6)), (1, .int v1), (2, .int v2)]) hx hb d_Variants_find_37 hl (k := 3) rfl rfl (by decide) rfl (fun ls hl => ?_)
          refine lv_goto (tgt := 2) hx hb d_Variants_find_40 (by decide) ?_
          exact ih v1 v2 (v3 + 1) (up_step hI (by assumption)) hR _ _ hB ls (lv_sub hl [1, 2, 3, 0] rfl)
        · rw [if_neg c_3] at hR
          refine lv_iload_n hx hb d_Variants_find_35 rfl (lv_at hl 3 rfl) ?_
          subst hR
          exact ri hC hB rfl d_Variants_find_36

set_option maxHeartbeats 400000 in
set_option maxRecDepth 100000 in
theorem c_Variants_find  (σ : SC) (π : PJ) (x0 : Int32) (x1 : Int32) : CM l y_Variants_find b_Variants_find 4 (some .int) { frames := 3, cells := 0, slots := 0, locals := 67 } D (tyL cI cL cQ) N0 [.ref (G 0 6), .int x0, .int x1] (wsC G cI cL cQ σ π rest) (some (.int (m_Variants_find σ x0 x1))) (fun w => w = wsC G cI cL cQ σ π rest) 0 0 := by
  generalize hR : m_Variants_find σ x0 x1 = RES
  refine met_of (own := R_Variants) (by decide) rfl nwl_ok ?_
  intro p e s m below meth c hC hin hB
  have hx := hC.1
  have hb := hC.2.1
  have hl := lv_entry ([.ref (G 0 6), .int x0, .int x1]) (n := 4) (Nat.le_of_ble_eq_true rfl)
  rw [lg_entry_eq]
  generalize (lg_sl ([.ref (G 0 6), .int x0, .int x1]) ++ List.replicate (4 - (lg_sl ([.ref (G 0 6), .int x0, .int x1])).length) Slot.unset).toArray = ls at hl ⊢
  have hl : lv_has ls 4 [(0, .ref (G 0 6)), (1, .int x0), (2, .int x1)] := hl
  rw [m_Variants_find] at hR
  refine lv_iconst (v := 0) hx hb d_Variants_find_0 (by decide) ?_
  refine lv_istore_n (lv' := [(3, .int 0), (0, .ref (G 0 6)), (1, .int x0), (2, .int x1)]) hx hb d_Variants_find_1 rfl hl (by decide) rfl (fun ls hl => ?_)
  exact w_Variants_find_2  σ π hC ((m_Row_at σ 12 1).toNatClampNeg + 1) x0 x1 0 (up_init _) hR _ _ hB ls (lv_sub hl [1, 2, 3, 0] rfl)

set_option maxHeartbeats 400000 in
set_option maxRecDepth 100000 in
theorem c_Variants_addVariant  (σ : SC) (π : PJ) (hπ : RJ π σ) (x0 : Int32) : CM l y_Variants_addVariant b_Variants_addVariant 3 (some .int) { frames := 4, cells := 2, slots := 8, locals := 86 } D (tyL cI cL cQ) N0 [.ref (G 0 6), .int x0] (wsC G cI cL cQ σ π rest) (some (.int ((m_Variants_addVariant σ x0).1))) (pwC G cI cL cQ ((m_Variants_addVariant σ x0).2) rest) 2 8 := by
  generalize hR : m_Variants_addVariant σ x0 = RES
  obtain ⟨RV, RS⟩ := RES
  dsimp only
  refine met_of (own := R_Variants) (by decide) rfl nwl_ok ?_
  intro p e s m below meth c hC hin hB
  have hx := hC.1
  have hb := hC.2.1
  have hl := lv_entry ([.ref (G 0 6), .int x0]) (n := 3) (Nat.le_of_ble_eq_true rfl)
  rw [lg_entry_eq]
  generalize (lg_sl ([.ref (G 0 6), .int x0]) ++ List.replicate (3 - (lg_sl ([.ref (G 0 6), .int x0])).length) Slot.unset).toArray = ls at hl ⊢
  have hl : lv_has ls 3 [(0, .ref (G 0 6)), (1, .int x0)] := hl
  rw [m_Variants_addVariant] at hR
  refine lv_aload_n hx hb d_Variants_addVariant_0 rfl (lv_at hl 0 rfl) ?_
  refine kV hC hB _ lkC_Variants rfl (c_Variants_count σ π) allw_ok mf_Variants_count kw_724 kw_725 kw_723 ⟨rfl, rfl, Nat.le_of_ble_eq_true rfl, Nat.le_of_ble_eq_true rfl⟩ rfl rfl hl.1 (Nat.le_of_ble_eq_true rfl) d_Variants_addVariant_1 ⟨Nat.le_of_ble_eq_true rfl, Nat.le_of_ble_eq_true rfl⟩ (roK fun H locs hB => ?_)
  refine lv_istore_n (lv' := [(2, .int (m_Variants_count σ)), (0, .ref (G 0 6)), (1, .int x0)]) hx hb d_Variants_addVariant_4 rfl hl (by decide) rfl (fun ls hl => ?_)
  refine lv_aload_n hx hb d_Variants_addVariant_5 rfl (lv_at hl 1 rfl) ?_
  refine gt hC hB _ lkC_Variants rfl i_Variants 1 (by decide) rfl kw_172 rfl d_Variants_addVariant_6 ?_
  refine lv_iconst (v := 0) hx hb d_Variants_addVariant_9 (by decide) ?_
  refine lv_iload_n hx hb d_Variants_addVariant_10 rfl (lv_at hl 0 rfl) ?_
  refine lv_iconst (v := 1) hx hb d_Variants_addVariant_11 (by decide) ?_
  refine lv_iadd hx hb d_Variants_addVariant_12 ?_
  refine lv_i2l hx hb d_Variants_addVariant_13 rfl ?_
  refine kV hC hB _ (lkC_row (by decide)) rfl (c_Row_set 12 (by decide) σ π hπ 0 (((m_Variants_count σ) + 1).toInt64)) allw_ok mf_Row_set kw_289 kw_290 kw_734 ⟨rfl, rfl, Nat.le_of_ble_eq_true rfl, Nat.le_of_ble_eq_true rfl⟩ rfl rfl hl.1 (Nat.le_of_ble_eq_true rfl) d_Variants_addVariant_14 ⟨Nat.le_of_ble_eq_true rfl, Nat.le_of_ble_eq_true rfl⟩ (fun H locs w hw hB => ?_)
  obtain ⟨π, hπ, rfl⟩ := hw
  refine lv_aload_n hx hb d_Variants_addVariant_17 rfl (lv_at hl 1 rfl) ?_
  refine gt hC hB _ lkC_Variants rfl i_Variants 2 (by decide) rfl kw_173 rfl d_Variants_addVariant_18 ?_
  refine lv_iload_n hx hb d_Variants_addVariant_21 rfl (lv_at hl 0 rfl) ?_
  refine lv_iload_n hx hb d_Variants_addVariant_22 rfl (lv_at hl 2 rfl) ?_
  refine lv_i2l hx hb d_Variants_addVariant_23 rfl ?_
  refine kV hC hB _ (lkC_row (by decide)) rfl (c_Row_set 13 (by decide) (m_Row_set σ 12 0 (((m_Variants_count σ) + 1).toInt64)) π hπ (m_Variants_count σ) x0.toInt64) allw_ok mf_Row_set kw_289 kw_290 kw_734 ⟨rfl, rfl, Nat.le_of_ble_eq_true rfl, Nat.le_of_ble_eq_true rfl⟩ rfl rfl hl.1 (Nat.le_of_ble_eq_true rfl) d_Variants_addVariant_24 ⟨Nat.le_of_ble_eq_true rfl, Nat.le_of_ble_eq_true rfl⟩ (fun H locs w hw hB => ?_)
  obtain ⟨π, hπ, rfl⟩ := hw
  refine lv_iload_n hx hb d_Variants_addVariant_27 rfl (lv_at hl 0 rfl) ?_
  obtain ⟨rfl, rfl⟩ := Prod.mk.inj hR
  refine W.widen (k := 2) (n := 8) (Nat.le_of_ble_eq_true rfl) (Nat.le_of_ble_eq_true rfl) ?_
  exact ri hC hB ⟨π, hπ, rfl⟩ d_Variants_addVariant_28
end SC
end
section
def lp_Variants_nearest_35 (K : SC → Int32 → Int32 → Int32 → Int32 → Int32 → Int32 → Int32) : Nat → SC → Int32 → Int32 → Int32 → Int32 → Int32 → Int32 → Int32 → Int32 → Int32 → Int32
  | 0, σ, _, _, _, _, _, _, _, _, _ => 0
  | n + 1, σ, v1, v2, v3, v4, v5, v6, v7, v8, v9 =>
    if 24 ≤ v9 then
      K σ v1 v2 v3 v4 (m_Row_at σ 13 v5) (v6 + 1)
    else
      if v8 = (-1) then
        K σ v1 v2 v3 v4 (m_Row_at σ 13 v5) (v6 + 1)
      else
        if (m_Variants_find σ v7 v8) = (-1) then
          lp_Variants_nearest_35 K n σ v1 v2 v3 v4 v5 v6 v7 (m_Book_pageAbove σ v8) (v9 + 1)
        else
          (m_Variants_find σ v7 v8)

def lp_Variants_nearest_6 : Nat → SC → Int32 → Int32 → Int32 → Int32 → Int32 → Int32 → Int32
  | 0, σ, _, _, _, _, _, _ => 0
  | n + 1, σ, v1, v2, v3, v4, v5, v6 =>
    if 10 ≤ v6 then
      (-1)
    else
      if v5 = (-1) then
        (-1)
      else
        lp_Variants_nearest_35 (lp_Variants_nearest_6 n) ((24 : Int32).toNatClampNeg + 1) σ v1 v2 v3 v4 v5 v6 (m_Variants_subjectOf v1 v5 v4) v3 0

def m_Variants_nearest (σ : SC) (x0 : Int32) (x1 : Int32) (x2 : Int32) (x3 : Int32) : Int32 :=
  lp_Variants_nearest_6 ((10 : Int32).toNatClampNeg + 1) σ x0 x1 x2 x3 x1 0

def lp_Book_lay_49 (K : SC → Int32 → Int32 → SC) : Nat → SC → Int32 → Int32 → Int32 → Int32 → SC
  | 0, σ, _, _, _, _ => σ
  | n + 1, σ, v1, v2, v3, v4 =>
    if 24 ≤ v4 then
      if v3 = (-1) then
        σ
      else
        K ((m_Book_addPage σ (m_Sheets_sheetOf σ v3) v3 v1 ((m_Book_depthAt σ v1) + 1)).2) ((m_Book_addPage σ (m_Sheets_sheetOf σ v3) v3 v1 ((m_Book_depthAt σ v1) + 1)).1) (v2 + 1)
    else
      if v3 = (-1) then
        if v1 ≤ 0 then
          if v3 = (-1) then
            σ
          else
            K ((m_Book_addPage σ (m_Sheets_sheetOf σ v3) v3 v1 ((m_Book_depthAt σ v1) + 1)).2) ((m_Book_addPage σ (m_Sheets_sheetOf σ v3) v3 v1 ((m_Book_depthAt σ v1) + 1)).1) (v2 + 1)
        else
          lp_Book_lay_49 K n σ (m_Book_pageAbove σ v1) v2 (m_Sheets_nextOf σ (m_Book_placementAt σ v1)) (v4 + 1)
      else
        if v3 = (-1) then
          σ
        else
          K ((m_Book_addPage σ (m_Sheets_sheetOf σ v3) v3 v1 ((m_Book_depthAt σ v1) + 1)).2) ((m_Book_addPage σ (m_Sheets_sheetOf σ v3) v3 v1 ((m_Book_depthAt σ v1) + 1)).1) (v2 + 1)

def lp_Book_lay_26 : Nat → SC → Int32 → Int32 → SC
  | 0, σ, _, _ => σ
  | n + 1, σ, v1, v2 =>
    if 300 ≤ v2 then
      σ
    else
      lp_Book_lay_49 (lp_Book_lay_26 n) ((24 : Int32).toNatClampNeg + 1) σ v1 v2 (m_Sheets_firstOn σ (m_Book_sheetAt σ v1)) 0

def m_Book_lay (σ : SC) : SC :=
  lp_Book_lay_26 ((300 : Int32).toNatClampNeg + 1) ((m_Book_addPage (zn (m_Arrays_fillI σ 5 0) 2 0) 0 (-1) (-1) 0).2) 0 0

section SC
variable {l : Launch} {D : va_G} {N0 : Nat} {G : Nat → Nat → Nat} {cI cL cQ : ClassId} {rest : va_W}
set_option maxHeartbeats 400000 in
set_option maxRecDepth 100000 in
theorem w_Variants_nearest_35 {p : Program} {e : Env} {s : State} {m : MethodId} {args : Array Value} {below : List Frame} {meth : Method} {c : Code} {RES : Int32} (K : SC → Int32 → Int32 → Int32 → Int32 → Int32 → Int32 → Int32)  (σ : SC) (π : PJ) (hC : cx D classes (tyL cI cL cQ) NWL ALLW N0 p s m args meth c b_Variants_nearest 11 (some .int) R_Variants) {nO : Nat} (hK : ∀ (v1 : Int32) (v2 : Int32) (v3 : Int32) (v4 : Int32) (v5 : Int32) (v6 : Int32), upI nO (10 : Int32) v6 → K σ  v1 v2 v3 v4 v5 v6 = RES → ∀ (H : Heap) (locs : List Loc), bd D classes N0 (wsC G cI cL cQ σ π rest) s H locs → ∀ (ls : Array Slot), lv_has ls 11 [(0, .ref (G 0 6)), (1, .int v1), (2, .int v2), (3, .int v3), (4, .int v4), (5, .int v5), (6, .int v6)] → W p l e { frames := 4, cells := 0, slots := 0, locals := 90 } s m args below meth c H locs 0 0 (MQ below (qx D classes N0 (some (.int RES)) (fun w => w = wsC G cI cL cQ σ π rest)) args s 0 0 (ga N0)) (F0 m 6 ls [])) :
    ∀ (n : Nat) (v1 : Int32) (v2 : Int32) (v3 : Int32) (v4 : Int32) (v5 : Int32) (v6 : Int32) (v7 : Int32) (v8 : Int32) (v9 : Int32), (upI n (24 : Int32) v9 ∧ upI nO (10 : Int32) (v6 + 1)) → lp_Variants_nearest_35 K n σ  v1 v2 v3 v4 v5 v6 v7 v8 v9 = RES → ∀ (H : Heap) (locs : List Loc), bd D classes N0 (wsC G cI cL cQ σ π rest) s H locs → ∀ (ls : Array Slot), lv_has ls 11 [(0, .ref (G 0 6)), (1, .int v1), (2, .int v2), (3, .int v3), (4, .int v4), (5, .int v5), (6, .int v6), (7, .int v7), (8, .int v8), (9, .int v9)] → W p l e { frames := 4, cells := 0, slots := 0, locals := 90 } s m args below meth c H locs 0 0 (MQ below (qx D classes N0 (some (.int RES)) (fun w => w = wsC G cI cL cQ σ π rest)) args s 0 0 (ga N0)) (F0 m 35 ls []) := by
  have hx := hC.1
  have hb := hC.2.1
  intro n
  induction n with
  | zero =>
    intro v1 v2 v3 v4 v5 v6 v7 v8 v9 hI
    exact absurd hI (fun h => up_zero h.1)
  | succ n ih =>
    intro v1 v2 v3 v4 v5 v6 v7 v8 v9 hI hR H locs hB ls hl
    rw [lp_Variants_nearest_35] at hR
    refine lv_iload hx hb d_Variants_nearest_35 (lv_at hl 9 rfl) ?_
    refine lv_bipush (v := 24) hx hb d_Variants_nearest_37 (by decide) ?_
    refine lv_icmp_ge (tgt := 84) hx hb d_Variants_nearest_39 (by decide) (fun c_1 => ?_) (fun c_1 => ?_)
    · rw [if_pos c_1] at hR
      refine lv_aload_n hx hb d_Variants_nearest_84 rfl (lv_at hl 0 rfl) ?_
      refine gt hC hB _ lkC_Variants rfl i_Variants 2 (by decide) rfl kw_173 rfl d_Variants_nearest_85 ?_
      refine lv_iload hx hb d_Variants_nearest_88 (lv_at hl 5 rfl) ?_
      refine kV hC hB _ (lkC_row (by decide)) rfl (c_Row_at 13 (by decide) σ π v5) allw_ok mf_Row_at kw_230 kw_231 kw_727 ⟨rfl, rfl, Nat.le_of_ble_eq_true rfl, Nat.le_of_ble_eq_true rfl⟩ rfl rfl hl.1 (Nat.le_of_ble_eq_true rfl) d_Variants_nearest_90 ⟨Nat.le_of_ble_eq_true rfl, Nat.le_of_ble_eq_true rfl⟩ (roK fun H locs hB => ?_)
      refine lv_istore (lv' := [(5, .int (m_Row_at σ 13 v5)), (0, .ref (G 0 6)), (1, .int v1), (2, .int v2), (3, .int v3), (4, .int v4), (6, .int v6), (7, .int v7), (8, .int v8), (9, .int v9)]) hx hb d_Variants_nearest_93 hl (by decide) rfl (fun ls hl => ?_)
      refine lv_iinc (v := (v6 + 1)) (lv' := [(6, .int (v6 + 1)), (5, .int (m_Row_at σ 13 v5)), (0, .ref (G 0 6)), (1, .int v1), (2, .int v2), (3, .int v3), (4, .int v4), (7, .int v7), (8, .int v8), (9, .int v9)]) hx hb d_Variants_nearest_95 hl (k := 6) rfl rfl (by decide) rfl (fun ls hl => ?_)
      refine lv_goto (tgt := 6) hx hb d_Variants_nearest_98 (by decide) ?_
      exact hK v1 v2 v3 v4 (m_Row_at σ 13 v5) (v6 + 1) (hI.2) hR _ _ hB ls (lv_sub hl [2, 3, 4, 5, 6, 1, 0] rfl)
    · rw [if_neg c_1] at hR
      refine lv_iload hx hb d_Variants_nearest_42 (lv_at hl 8 rfl) ?_
      refine lv_iconst (v := (-1)) hx hb d_Variants_nearest_44 (by decide) ?_
      refine lv_icmp_eq (tgt := 84) hx hb d_Variants_nearest_45 (by decide) (fun c_2 => ?_) (fun c_2 => ?_)
      · rw [if_pos c_2] at hR
        refine lv_aload_n hx hb d_Variants_nearest_84 rfl (lv_at hl 0 rfl) ?_
        refine gt hC hB _ lkC_Variants rfl i_Variants 2 (by decide) rfl kw_173 rfl d_Variants_nearest_85 ?_
        refine lv_iload hx hb d_Variants_nearest_88 (lv_at hl 5 rfl) ?_
        refine kV hC hB _ (lkC_row (by decide)) rfl (c_Row_at 13 (by decide) σ π v5) allw_ok mf_Row_at kw_230 kw_231 kw_727 ⟨rfl, rfl, Nat.le_of_ble_eq_true rfl, Nat.le_of_ble_eq_true rfl⟩ rfl rfl hl.1 (Nat.le_of_ble_eq_true rfl) d_Variants_nearest_90 ⟨Nat.le_of_ble_eq_true rfl, Nat.le_of_ble_eq_true rfl⟩ (roK fun H locs hB => ?_)
        refine lv_istore (lv' := [(5, .int (m_Row_at σ 13 v5)), (0, .ref (G 0 6)), (1, .int v1), (2, .int v2), (3, .int v3), (4, .int v4), (6, .int v6), (7, .int v7), (8, .int v8), (9, .int v9)]) hx hb d_Variants_nearest_93 hl (by decide) rfl (fun ls hl => ?_)
        refine lv_iinc (v := (v6 + 1)) (lv' := [(6, .int (v6 + 1)), (5, .int (m_Row_at σ 13 v5)), (0, .ref (G 0 6)), (1, .int v1), (2, .int v2), (3, .int v3), (4, .int v4), (7, .int v7), (8, .int v8), (9, .int v9)]) hx hb d_Variants_nearest_95 hl (k := 6) rfl rfl (by decide) rfl (fun ls hl => ?_)
        refine lv_goto (tgt := 6) hx hb d_Variants_nearest_98 (by decide) ?_
        exact hK v1 v2 v3 v4 (m_Row_at σ 13 v5) (v6 + 1) (hI.2) hR _ _ hB ls (lv_sub hl [2, 3, 4, 5, 6, 1, 0] rfl)
      · rw [if_neg c_2] at hR
        refine lv_aload_n hx hb d_Variants_nearest_48 rfl (lv_at hl 0 rfl) ?_
        refine lv_iload hx hb d_Variants_nearest_49 (lv_at hl 7 rfl) ?_
        refine lv_iload hx hb d_Variants_nearest_51 (lv_at hl 8 rfl) ?_
        refine kV hC hB _ lkC_Variants rfl (c_Variants_find σ π v7 v8) allw_ok mf_Variants_find kw_760 ks_22 kw_758 ⟨rfl, rfl, Nat.le_of_ble_eq_true rfl, Nat.le_of_ble_eq_true rfl⟩ rfl rfl hl.1 (Nat.le_of_ble_eq_true rfl) d_Variants_nearest_53 ⟨Nat.le_of_ble_eq_true rfl, Nat.le_of_ble_eq_true rfl⟩ (roK fun H locs hB => ?_)
        refine lv_istore (lv' := [(10, .int (m_Variants_find σ v7 v8)), (0, .ref (G 0 6)), (1, .int v1), (2, .int v2), (3, .int v3), (4, .int v4), (5, .int v5), (6, .int v6), (7, .int v7), (8, .int v8), (9, .int v9)]) hx hb d_Variants_nearest_56 hl (by decide) rfl (fun ls hl => ?_)
        refine lv_iload hx hb d_Variants_nearest_58 (lv_at hl 0 rfl) ?_
        refine lv_iconst (v := (-1)) hx hb d_Variants_nearest_60 (by decide) ?_
        refine lv_icmp_eq (tgt := 67) hx hb d_Variants_nearest_61 (by decide) (fun c_3 => ?_) (fun c_3 => ?_)
        · rw [if_pos c_3] at hR
          refine lv_aload_n hx hb d_Variants_nearest_67 rfl (lv_at hl 1 rfl) ?_
          refine gt hC hB _ lkC_Variants rfl i_Variants 0 (by decide) rfl kw_171 rfl d_Variants_nearest_68 ?_
          refine lv_iload hx hb d_Variants_nearest_71 (lv_at hl 9 rfl) ?_
          refine kV hC hB _ lkC_Book rfl (c_Book_pageAbove σ π v8) allw_ok mf_Book_pageAbove kw_242 kw_243 kw_768 ⟨rfl, rfl, Nat.le_of_ble_eq_true rfl, Nat.le_of_ble_eq_true rfl⟩ rfl rfl hl.1 (Nat.le_of_ble_eq_true rfl) d_Variants_nearest_73 ⟨Nat.le_of_ble_eq_true rfl, Nat.le_of_ble_eq_true rfl⟩ (roK fun H locs hB => ?_)
          refine lv_istore (lv' := [(8, .int (m_Book_pageAbove σ v8)), (10, .int (m_Variants_find σ v7 v8)), (0, .ref (G 0 6)), (1, .int v1), (2, .int v2), (3, .int v3), (4, .int v4), (5, .int v5), (6, .int v6), (7, .int v7), (9, .int v9)]) hx hb d_Variants_nearest_76 hl (by decide) rfl (fun ls hl => ?_)
          refine lv_iinc (v := (v9 + 1)) (lv' := [(9, .int (v9 + 1)), (8, .int (m_Book_pageAbove σ v8)), (10, .int (m_Variants_find σ v7 v8)), (0, .ref (G 0 6)), (1, .int v1), (2, .int v2), (3, .int v3), (4, .int v4), (5, .int v5), (6, .int v6), (7, .int v7)]) hx hb d_Variants_nearest_78 hl (k := 10) rfl rfl (by decide) rfl (fun ls hl => ?_)
          refine lv_goto (tgt := 35) hx hb d_Variants_nearest_81 (by decide) ?_
          exact ih v1 v2 v3 v4 v5 v6 v7 (m_Book_pageAbove σ v8) (v9 + 1) (⟨up_step hI.1 (by assumption), hI.2⟩) hR _ _ hB ls (lv_sub hl [3, 4, 5, 6, 7, 8, 9, 10, 1, 0] rfl)
        · rw [if_neg c_3] at hR
          refine lv_iload hx hb d_Variants_nearest_64 (lv_at hl 0 rfl) ?_
          subst hR
          exact ri hC hB rfl d_Variants_nearest_66

set_option maxHeartbeats 400000 in
set_option maxRecDepth 100000 in
theorem w_Variants_nearest_6 {p : Program} {e : Env} {s : State} {m : MethodId} {args : Array Value} {below : List Frame} {meth : Method} {c : Code} {RES : Int32}  (σ : SC) (π : PJ) (hC : cx D classes (tyL cI cL cQ) NWL ALLW N0 p s m args meth c b_Variants_nearest 11 (some .int) R_Variants) :
    ∀ (n : Nat) (v1 : Int32) (v2 : Int32) (v3 : Int32) (v4 : Int32) (v5 : Int32) (v6 : Int32), upI n (10 : Int32) v6 → lp_Variants_nearest_6 n σ  v1 v2 v3 v4 v5 v6 = RES → ∀ (H : Heap) (locs : List Loc), bd D classes N0 (wsC G cI cL cQ σ π rest) s H locs → ∀ (ls : Array Slot), lv_has ls 11 [(0, .ref (G 0 6)), (1, .int v1), (2, .int v2), (3, .int v3), (4, .int v4), (5, .int v5), (6, .int v6)] → W p l e { frames := 4, cells := 0, slots := 0, locals := 90 } s m args below meth c H locs 0 0 (MQ below (qx D classes N0 (some (.int RES)) (fun w => w = wsC G cI cL cQ σ π rest)) args s 0 0 (ga N0)) (F0 m 6 ls []) := by
  have hx := hC.1
  have hb := hC.2.1
  intro n
  induction n with
  | zero =>
    intro v1 v2 v3 v4 v5 v6 hI
    exact absurd hI up_zero
  | succ n ih =>
    intro v1 v2 v3 v4 v5 v6 hI hR H locs hB ls hl
    rw [lp_Variants_nearest_6] at hR
    refine lv_iload hx hb d_Variants_nearest_6 (lv_at hl 6 rfl) ?_
    refine lv_bipush (v := 10) hx hb d_Variants_nearest_8 (by decide) ?_
    refine lv_icmp_ge (tgt := 101) hx hb d_Variants_nearest_10 (by decide) (fun c_1 => ?_) (fun c_1 => ?_)
    · rw [if_pos c_1] at hR
      refine lv_iconst (v := (-1)) hx hb d_Variants_nearest_101 (by decide) ?_
      subst hR
      exact ri hC hB rfl d_Variants_nearest_102
    · rw [if_neg c_1] at hR
      refine lv_iload hx hb d_Variants_nearest_13 (lv_at hl 5 rfl) ?_
      refine lv_iconst (v := (-1)) hx hb d_Variants_nearest_15 (by decide) ?_
      refine lv_icmp_eq (tgt := 101) hx hb d_Variants_nearest_16 (by decide) (fun c_2 => ?_) (fun c_2 => ?_)
      · rw [if_pos c_2] at hR
        refine lv_iconst (v := (-1)) hx hb d_Variants_nearest_101 (by decide) ?_
        subst hR
        exact ri hC hB rfl d_Variants_nearest_102
      · rw [if_neg c_2] at hR
        refine lv_iload_n hx hb d_Variants_nearest_19 rfl (lv_at hl 1 rfl) ?_
        refine lv_iload hx hb d_Variants_nearest_20 (lv_at hl 5 rfl) ?_
        refine lv_iload hx hb d_Variants_nearest_22 (lv_at hl 4 rfl) ?_
        refine kS hC hB (c_Variants_subjectOf σ π v1 v5 v4) allw_ok mf_Variants_subjectOf kw_756 kw_755 ⟨rfl, rfl, Nat.le_of_ble_eq_true rfl, Nat.le_of_ble_eq_true rfl⟩ rfl rfl hl.1 (Nat.le_of_ble_eq_true rfl) d_Variants_nearest_24 ⟨Nat.le_of_ble_eq_true rfl, Nat.le_of_ble_eq_true rfl⟩ (roK fun H locs hB => ?_)
        refine lv_istore (lv' := [(7, .int (m_Variants_subjectOf v1 v5 v4)), (0, .ref (G 0 6)), (1, .int v1), (2, .int v2), (3, .int v3), (4, .int v4), (5, .int v5), (6, .int v6)]) hx hb d_Variants_nearest_27 hl (by decide) rfl (fun ls hl => ?_)
        refine lv_iload_n hx hb d_Variants_nearest_29 rfl (lv_at hl 4 rfl) ?_
        refine lv_istore (lv' := [(8, .int v3), (7, .int (m_Variants_subjectOf v1 v5 v4)), (0, .ref (G 0 6)), (1, .int v1), (2, .int v2), (3, .int v3), (4, .int v4), (5, .int v5), (6, .int v6)]) hx hb d_Variants_nearest_30 hl (by decide) rfl (fun ls hl => ?_)
        refine lv_iconst (v := 0) hx hb d_Variants_nearest_32 (by decide) ?_
        refine lv_istore (lv' := [(9, .int 0), (8, .int v3), (7, .int (m_Variants_subjectOf v1 v5 v4)), (0, .ref (G 0 6)), (1, .int v1), (2, .int v2), (3, .int v3), (4, .int v4), (5, .int v5), (6, .int v6)]) hx hb d_Variants_nearest_33 hl (by decide) rfl (fun ls hl => ?_)
        exact w_Variants_nearest_35 (lp_Variants_nearest_6 n)  σ π hC ih ((24 : Int32).toNatClampNeg + 1) v1 v2 v3 v4 v5 v6 (m_Variants_subjectOf v1 v5 v4) v3 0 (⟨up_init _, up_step hI (by assumption)⟩) hR _ _ hB ls (lv_sub hl [3, 4, 5, 6, 7, 8, 9, 2, 1, 0] rfl)

set_option maxHeartbeats 400000 in
set_option maxRecDepth 100000 in
theorem c_Variants_nearest  (σ : SC) (π : PJ) (x0 : Int32) (x1 : Int32) (x2 : Int32) (x3 : Int32) : CM l y_Variants_nearest b_Variants_nearest 11 (some .int) { frames := 4, cells := 0, slots := 0, locals := 90 } D (tyL cI cL cQ) N0 [.ref (G 0 6), .int x0, .int x1, .int x2, .int x3] (wsC G cI cL cQ σ π rest) (some (.int (m_Variants_nearest σ x0 x1 x2 x3))) (fun w => w = wsC G cI cL cQ σ π rest) 0 0 := by
  generalize hR : m_Variants_nearest σ x0 x1 x2 x3 = RES
  refine met_of (own := R_Variants) (by decide) rfl nwl_ok ?_
  intro p e s m below meth c hC hin hB
  have hx := hC.1
  have hb := hC.2.1
  have hl := lv_entry ([.ref (G 0 6), .int x0, .int x1, .int x2, .int x3]) (n := 11) (Nat.le_of_ble_eq_true rfl)
  rw [lg_entry_eq]
  generalize (lg_sl ([.ref (G 0 6), .int x0, .int x1, .int x2, .int x3]) ++ List.replicate (11 - (lg_sl ([.ref (G 0 6), .int x0, .int x1, .int x2, .int x3])).length) Slot.unset).toArray = ls at hl ⊢
  have hl : lv_has ls 11 [(0, .ref (G 0 6)), (1, .int x0), (2, .int x1), (3, .int x2), (4, .int x3)] := hl
  rw [m_Variants_nearest] at hR
  refine lv_iload_n hx hb d_Variants_nearest_0 rfl (lv_at hl 2 rfl) ?_
  refine lv_istore (lv' := [(5, .int x1), (0, .ref (G 0 6)), (1, .int x0), (2, .int x1), (3, .int x2), (4, .int x3)]) hx hb d_Variants_nearest_1 hl (by decide) rfl (fun ls hl => ?_)
  refine lv_iconst (v := 0) hx hb d_Variants_nearest_3 (by decide) ?_
  refine lv_istore (lv' := [(6, .int 0), (5, .int x1), (0, .ref (G 0 6)), (1, .int x0), (2, .int x1), (3, .int x2), (4, .int x3)]) hx hb d_Variants_nearest_4 hl (by decide) rfl (fun ls hl => ?_)
  exact w_Variants_nearest_6  σ π hC ((10 : Int32).toNatClampNeg + 1) x0 x1 x2 x3 x1 0 (up_init _) hR _ _ hB ls (lv_sub hl [2, 3, 4, 5, 6, 1, 0] rfl)

set_option maxHeartbeats 400000 in
set_option maxRecDepth 100000 in
theorem w_Book_lay_49 {p : Program} {e : Env} {s : State} {m : MethodId} {args : Array Value} {below : List Frame} {meth : Method} {c : Code} {RES : SC} (K : SC → Int32 → Int32 → SC)  (π : PJ) (hC : cx D classes (tyL cI cL cQ) NWL ALLW N0 p s m args meth c b_Book_lay 5 (none) R_Book) {nO : Nat} (hK : ∀ (σ : SC) (v1 : Int32) (v2 : Int32), upI nO (300 : Int32) v2 → K σ  v1 v2 = RES → ∀ (H : Heap) (locs : List Loc), bd D classes N0 (wsC G cI cL cQ σ π rest) s H locs → ∀ (ls : Array Slot), lv_has ls 5 [(0, .ref (G 0 4)), (1, .int v1), (2, .int v2)] → W p l e { frames := 3, cells := 0, slots := 0, locals := 67 } s m args below meth c H locs 0 0 (MQ below (qx D classes N0 (none) (fun w => w = wsC G cI cL cQ RES π rest)) args s 0 0 (ga N0)) (F0 m 26 ls [])) :
    ∀ (n : Nat) (σ : SC) (v1 : Int32) (v2 : Int32) (v3 : Int32) (v4 : Int32), (upI n (24 : Int32) v4 ∧ upI nO (300 : Int32) (v2 + 1)) → lp_Book_lay_49 K n σ  v1 v2 v3 v4 = RES → ∀ (H : Heap) (locs : List Loc), bd D classes N0 (wsC G cI cL cQ σ π rest) s H locs → ∀ (ls : Array Slot), lv_has ls 5 [(0, .ref (G 0 4)), (1, .int v1), (2, .int v2), (3, .int v3), (4, .int v4)] → W p l e { frames := 3, cells := 0, slots := 0, locals := 67 } s m args below meth c H locs 0 0 (MQ below (qx D classes N0 (none) (fun w => w = wsC G cI cL cQ RES π rest)) args s 0 0 (ga N0)) (F0 m 49 ls []) := by
  have hx := hC.1
  have hb := hC.2.1
  intro n
  induction n with
  | zero =>
    intro σ v1 v2 v3 v4 hI
    exact absurd hI (fun h => up_zero h.1)
  | succ n ih =>
    intro σ v1 v2 v3 v4 hI hR H locs hB ls hl
    rw [lp_Book_lay_49] at hR
    refine lv_iload hx hb d_Book_lay_49 (lv_at hl 4 rfl) ?_
    refine lv_bipush (v := 24) hx hb d_Book_lay_51 (by decide) ?_
    refine lv_icmp_ge (tgt := 90) hx hb d_Book_lay_53 (by decide) (fun c_1 => ?_) (fun c_1 => ?_)
    · rw [if_pos c_1] at hR
      refine lv_iload_n hx hb d_Book_lay_90 rfl (lv_at hl 3 rfl) ?_
      refine lv_iconst (v := (-1)) hx hb d_Book_lay_91 (by decide) ?_
      refine lv_icmp_ne (tgt := 96) hx hb d_Book_lay_92 (by decide) (fun c_2 => ?_) (fun c_2 => ?_)
      · rw [if_neg c_2] at hR
        refine lv_aload_n hx hb d_Book_lay_96 rfl (lv_at hl 0 rfl) ?_
        refine lv_aload_n hx hb d_Book_lay_97 rfl (lv_at hl 0 rfl) ?_
        refine gt hC hB _ lkC_Book rfl i_Book 0 (by decide) rfl kw_102 rfl d_Book_lay_98 ?_
        refine lv_iload_n hx hb d_Book_lay_101 rfl (lv_at hl 3 rfl) ?_
        refine kV hC hB _ lkC_Sheets rfl (c_Sheets_sheetOf σ π v3) allw_ok mf_Sheets_sheetOf kw_246 kw_247 kw_245 ⟨rfl, rfl, Nat.le_of_ble_eq_true rfl, Nat.le_of_ble_eq_true rfl⟩ rfl rfl hl.1 (Nat.le_of_ble_eq_true rfl) d_Book_lay_102 ⟨Nat.le_of_ble_eq_true rfl, Nat.le_of_ble_eq_true rfl⟩ (roK fun H locs hB => ?_)
        refine lv_iload_n hx hb d_Book_lay_105 rfl (lv_at hl 3 rfl) ?_
        refine lv_iload_n hx hb d_Book_lay_106 rfl (lv_at hl 1 rfl) ?_
        refine lv_aload_n hx hb d_Book_lay_107 rfl (lv_at hl 0 rfl) ?_
        refine lv_iload_n hx hb d_Book_lay_108 rfl (lv_at hl 1 rfl) ?_
        refine kV hC hB _ lkC_Book rfl (c_Book_depthAt σ π v1) allw_ok mf_Book_depthAt kw_250 kw_251 kw_249 ⟨rfl, rfl, Nat.le_of_ble_eq_true rfl, Nat.le_of_ble_eq_true rfl⟩ rfl rfl hl.1 (Nat.le_of_ble_eq_true rfl) d_Book_lay_109 ⟨Nat.le_of_ble_eq_true rfl, Nat.le_of_ble_eq_true rfl⟩ (roK fun H locs hB => ?_)
        refine lv_iconst (v := 1) hx hb d_Book_lay_112 (by decide) ?_
        refine lv_iadd hx hb d_Book_lay_113 ?_
        refine kV hC hB _ lkC_Book rfl (c_Book_addPage σ π (m_Sheets_sheetOf σ v3) v3 v1 ((m_Book_depthAt σ v1) + 1)) allw_ok mf_Book_addPage kw_204 ks_0 kw_202 ⟨rfl, rfl, Nat.le_of_ble_eq_true rfl, Nat.le_of_ble_eq_true rfl⟩ rfl rfl hl.1 (Nat.le_of_ble_eq_true rfl) d_Book_lay_114 ⟨Nat.le_of_ble_eq_true rfl, Nat.le_of_ble_eq_true rfl⟩ (roK fun H locs hB => ?_)
        refine lv_istore_n (lv' := [(1, .int ((m_Book_addPage σ (m_Sheets_sheetOf σ v3) v3 v1 ((m_Book_depthAt σ v1) + 1)).1)), (0, .ref (G 0 4)), (2, .int v2), (3, .int v3), (4, .int v4)]) hx hb d_Book_lay_117 rfl hl (by decide) rfl (fun ls hl => ?_)
        refine lv_iinc (v := (v2 + 1)) (lv' := [(2, .int (v2 + 1)), (1, .int ((m_Book_addPage σ (m_Sheets_sheetOf σ v3) v3 v1 ((m_Book_depthAt σ v1) + 1)).1)), (0, .ref (G 0 4)), (3, .int v3), (4, .int v4)]) hx hb d_Book_lay_118 hl (k := 2) rfl rfl (by decide) rfl (fun ls hl => ?_)
        refine lv_goto (tgt := 26) hx hb d_Book_lay_121 (by decide) ?_
        exact hK ((m_Book_addPage σ (m_Sheets_sheetOf σ v3) v3 v1 ((m_Book_depthAt σ v1) + 1)).2) ((m_Book_addPage σ (m_Sheets_sheetOf σ v3) v3 v1 ((m_Book_depthAt σ v1) + 1)).1) (v2 + 1) (hI.2) hR _ _ hB ls (lv_sub hl [2, 1, 0] rfl)
      · rw [if_pos c_2] at hR
        subst hR
        exact rv hC hB rfl d_Book_lay_95
    · rw [if_neg c_1] at hR
      refine lv_iload_n hx hb d_Book_lay_56 rfl (lv_at hl 3 rfl) ?_
      refine lv_iconst (v := (-1)) hx hb d_Book_lay_57 (by decide) ?_
      refine lv_icmp_ne (tgt := 90) hx hb d_Book_lay_58 (by decide) (fun c_3 => ?_) (fun c_3 => ?_)
      · rw [if_neg c_3] at hR
        refine lv_iload_n hx hb d_Book_lay_90 rfl (lv_at hl 3 rfl) ?_
        refine lv_iconst (v := (-1)) hx hb d_Book_lay_91 (by decide) ?_
        refine lv_icmp_ne (tgt := 96) hx hb d_Book_lay_92 (by decide) (fun c_6 => ?_) (fun c_6 => ?_)
        · rw [if_neg c_6] at hR
          refine lv_aload_n hx hb d_Book_lay_96 rfl (lv_at hl 0 rfl) ?_
          refine lv_aload_n hx hb d_Book_lay_97 rfl (lv_at hl 0 rfl) ?_
          refine gt hC hB _ lkC_Book rfl i_Book 0 (by decide) rfl kw_102 rfl d_Book_lay_98 ?_
          refine lv_iload_n hx hb d_Book_lay_101 rfl (lv_at hl 3 rfl) ?_
          refine kV hC hB _ lkC_Sheets rfl (c_Sheets_sheetOf σ π v3) allw_ok mf_Sheets_sheetOf kw_246 kw_247 kw_245 ⟨rfl, rfl, Nat.le_of_ble_eq_true rfl, Nat.le_of_ble_eq_true rfl⟩ rfl rfl hl.1 (Nat.le_of_ble_eq_true rfl) d_Book_lay_102 ⟨Nat.le_of_ble_eq_true rfl, Nat.le_of_ble_eq_true rfl⟩ (roK fun H locs hB => ?_)
          refine lv_iload_n hx hb d_Book_lay_105 rfl (lv_at hl 3 rfl) ?_
          refine lv_iload_n hx hb d_Book_lay_106 rfl (lv_at hl 1 rfl) ?_
          refine lv_aload_n hx hb d_Book_lay_107 rfl (lv_at hl 0 rfl) ?_
          refine lv_iload_n hx hb d_Book_lay_108 rfl (lv_at hl 1 rfl) ?_
          refine kV hC hB _ lkC_Book rfl (c_Book_depthAt σ π v1) allw_ok mf_Book_depthAt kw_250 kw_251 kw_249 ⟨rfl, rfl, Nat.le_of_ble_eq_true rfl, Nat.le_of_ble_eq_true rfl⟩ rfl rfl hl.1 (Nat.le_of_ble_eq_true rfl) d_Book_lay_109 ⟨Nat.le_of_ble_eq_true rfl, Nat.le_of_ble_eq_true rfl⟩ (roK fun H locs hB => ?_)
          refine lv_iconst (v := 1) hx hb d_Book_lay_112 (by decide) ?_
          refine lv_iadd hx hb d_Book_lay_113 ?_
          refine kV hC hB _ lkC_Book rfl (c_Book_addPage σ π (m_Sheets_sheetOf σ v3) v3 v1 ((m_Book_depthAt σ v1) + 1)) allw_ok mf_Book_addPage kw_204 ks_0 kw_202 ⟨rfl, rfl, Nat.le_of_ble_eq_true rfl, Nat.le_of_ble_eq_true rfl⟩ rfl rfl hl.1 (Nat.le_of_ble_eq_true rfl) d_Book_lay_114 ⟨Nat.le_of_ble_eq_true rfl, Nat.le_of_ble_eq_true rfl⟩ (roK fun H locs hB => ?_)
          refine lv_istore_n (lv' := [(1, .int ((m_Book_addPage σ (m_Sheets_sheetOf σ v3) v3 v1 ((m_Book_depthAt σ v1) + 1)).1)), (0, .ref (G 0 4)), (2, .int v2), (3, .int v3), (4, .int v4)]) hx hb d_Book_lay_117 rfl hl (by decide) rfl (fun ls hl => ?_)
          refine lv_iinc (v := (v2 + 1)) (lv' := [(2, .int (v2 + 1)), (1, .int ((m_Book_addPage σ (m_Sheets_sheetOf σ v3) v3 v1 ((m_Book_depthAt σ v1) + 1)).1)), (0, .ref (G 0 4)), (3, .int v3), (4, .int v4)]) hx hb d_Book_lay_118 hl (k := 2) rfl rfl (by decide) rfl (fun ls hl => ?_)
          refine lv_goto (tgt := 26) hx hb d_Book_lay_121 (by decide) ?_
          exact hK ((m_Book_addPage σ (m_Sheets_sheetOf σ v3) v3 v1 ((m_Book_depthAt σ v1) + 1)).2) ((m_Book_addPage σ (m_Sheets_sheetOf σ v3) v3 v1 ((m_Book_depthAt σ v1) + 1)).1) (v2 + 1) (hI.2) hR _ _ hB ls (lv_sub hl [2, 1, 0] rfl)
        · rw [if_pos c_6] at hR
          subst hR
          exact rv hC hB rfl d_Book_lay_95
      · rw [if_pos c_3] at hR
        refine lv_iload_n hx hb d_Book_lay_61 rfl (lv_at hl 1 rfl) ?_
        refine lv_if_le (tgt := 90) hx hb d_Book_lay_62 (by decide) (fun c_4 => ?_) (fun c_4 => ?_)
        · rw [if_pos c_4] at hR
          refine lv_iload_n hx hb d_Book_lay_90 rfl (lv_at hl 3 rfl) ?_
          refine lv_iconst (v := (-1)) hx hb d_Book_lay_91 (by decide) ?_
          refine lv_icmp_ne (tgt := 96) hx hb d_Book_lay_92 (by decide) (fun c_5 => ?_) (fun c_5 => ?_)
          · rw [if_neg c_5] at hR
            refine lv_aload_n hx hb d_Book_lay_96 rfl (lv_at hl 0 rfl) ?_
            refine lv_aload_n hx hb d_Book_lay_97 rfl (lv_at hl 0 rfl) ?_
            refine gt hC hB _ lkC_Book rfl i_Book 0 (by decide) rfl kw_102 rfl d_Book_lay_98 ?_
            refine lv_iload_n hx hb d_Book_lay_101 rfl (lv_at hl 3 rfl) ?_
            refine kV hC hB _ lkC_Sheets rfl (c_Sheets_sheetOf σ π v3) allw_ok mf_Sheets_sheetOf kw_246 kw_247 kw_245 ⟨rfl, rfl, Nat.le_of_ble_eq_true rfl, Nat.le_of_ble_eq_true rfl⟩ rfl rfl hl.1 (Nat.le_of_ble_eq_true rfl) d_Book_lay_102 ⟨Nat.le_of_ble_eq_true rfl, Nat.le_of_ble_eq_true rfl⟩ (roK fun H locs hB => ?_)
            refine lv_iload_n hx hb d_Book_lay_105 rfl (lv_at hl 3 rfl) ?_
            refine lv_iload_n hx hb d_Book_lay_106 rfl (lv_at hl 1 rfl) ?_
            refine lv_aload_n hx hb d_Book_lay_107 rfl (lv_at hl 0 rfl) ?_
            refine lv_iload_n hx hb d_Book_lay_108 rfl (lv_at hl 1 rfl) ?_
            refine kV hC hB _ lkC_Book rfl (c_Book_depthAt σ π v1) allw_ok mf_Book_depthAt kw_250 kw_251 kw_249 ⟨rfl, rfl, Nat.le_of_ble_eq_true rfl, Nat.le_of_ble_eq_true rfl⟩ rfl rfl hl.1 (Nat.le_of_ble_eq_true rfl) d_Book_lay_109 ⟨Nat.le_of_ble_eq_true rfl, Nat.le_of_ble_eq_true rfl⟩ (roK fun H locs hB => ?_)
            refine lv_iconst (v := 1) hx hb d_Book_lay_112 (by decide) ?_
            refine lv_iadd hx hb d_Book_lay_113 ?_
            refine kV hC hB _ lkC_Book rfl (c_Book_addPage σ π (m_Sheets_sheetOf σ v3) v3 v1 ((m_Book_depthAt σ v1) + 1)) allw_ok mf_Book_addPage kw_204 ks_0 kw_202 ⟨rfl, rfl, Nat.le_of_ble_eq_true rfl, Nat.le_of_ble_eq_true rfl⟩ rfl rfl hl.1 (Nat.le_of_ble_eq_true rfl) d_Book_lay_114 ⟨Nat.le_of_ble_eq_true rfl, Nat.le_of_ble_eq_true rfl⟩ (roK fun H locs hB => ?_)
            refine lv_istore_n (lv' := [(1, .int ((m_Book_addPage σ (m_Sheets_sheetOf σ v3) v3 v1 ((m_Book_depthAt σ v1) + 1)).1)), (0, .ref (G 0 4)), (2, .int v2), (3, .int v3), (4, .int v4)]) hx hb d_Book_lay_117 rfl hl (by decide) rfl (fun ls hl => ?_)
            refine lv_iinc (v := (v2 + 1)) (lv' := [(2, .int (v2 + 1)), (1, .int ((m_Book_addPage σ (m_Sheets_sheetOf σ v3) v3 v1 ((m_Book_depthAt σ v1) + 1)).1)), (0, .ref (G 0 4)), (3, .int v3), (4, .int v4)]) hx hb d_Book_lay_118 hl (k := 2) rfl rfl (by decide) rfl (fun ls hl => ?_)
            refine lv_goto (tgt := 26) hx hb d_Book_lay_121 (by decide) ?_
            exact hK ((m_Book_addPage σ (m_Sheets_sheetOf σ v3) v3 v1 ((m_Book_depthAt σ v1) + 1)).2) ((m_Book_addPage σ (m_Sheets_sheetOf σ v3) v3 v1 ((m_Book_depthAt σ v1) + 1)).1) (v2 + 1) (hI.2) hR _ _ hB ls (lv_sub hl [2, 1, 0] rfl)
          · rw [if_pos c_5] at hR
            subst hR
            exact rv hC hB rfl d_Book_lay_95
        · rw [if_neg c_4] at hR
          refine lv_aload_n hx hb d_Book_lay_65 rfl (lv_at hl 0 rfl) ?_
          refine gt hC hB _ lkC_Book rfl i_Book 0 (by decide) rfl kw_102 rfl d_Book_lay_66 ?_
          refine lv_aload_n hx hb d_Book_lay_69 rfl (lv_at hl 0 rfl) ?_
          refine lv_iload_n hx hb d_Book_lay_70 rfl (lv_at hl 1 rfl) ?_
          refine kV hC hB _ lkC_Book rfl (c_Book_placementAt σ π v1) allw_ok mf_Book_placementAt kw_234 kw_235 kw_233 ⟨rfl, rfl, Nat.le_of_ble_eq_true rfl, Nat.le_of_ble_eq_true rfl⟩ rfl rfl hl.1 (Nat.le_of_ble_eq_true rfl) d_Book_lay_71 ⟨Nat.le_of_ble_eq_true rfl, Nat.le_of_ble_eq_true rfl⟩ (roK fun H locs hB => ?_)
          refine kV hC hB _ lkC_Sheets rfl (c_Sheets_nextOf σ π (m_Book_placementAt σ v1)) allw_ok mf_Sheets_nextOf kw_238 kw_239 kw_237 ⟨rfl, rfl, Nat.le_of_ble_eq_true rfl, Nat.le_of_ble_eq_true rfl⟩ rfl rfl hl.1 (Nat.le_of_ble_eq_true rfl) d_Book_lay_74 ⟨Nat.le_of_ble_eq_true rfl, Nat.le_of_ble_eq_true rfl⟩ (roK fun H locs hB => ?_)
          refine lv_istore_n (lv' := [(3, .int (m_Sheets_nextOf σ (m_Book_placementAt σ v1))), (0, .ref (G 0 4)), (1, .int v1), (2, .int v2), (4, .int v4)]) hx hb d_Book_lay_77 rfl hl (by decide) rfl (fun ls hl => ?_)
          refine lv_aload_n hx hb d_Book_lay_78 rfl (lv_at hl 1 rfl) ?_
          refine lv_iload_n hx hb d_Book_lay_79 rfl (lv_at hl 2 rfl) ?_
          refine kV hC hB _ lkC_Book rfl (c_Book_pageAbove σ π v1) allw_ok mf_Book_pageAbove kw_242 kw_243 kw_241 ⟨rfl, rfl, Nat.le_of_ble_eq_true rfl, Nat.le_of_ble_eq_true rfl⟩ rfl rfl hl.1 (Nat.le_of_ble_eq_true rfl) d_Book_lay_80 ⟨Nat.le_of_ble_eq_true rfl, Nat.le_of_ble_eq_true rfl⟩ (roK fun H locs hB => ?_)
          refine lv_istore_n (lv' := [(1, .int (m_Book_pageAbove σ v1)), (3, .int (m_Sheets_nextOf σ (m_Book_placementAt σ v1))), (0, .ref (G 0 4)), (2, .int v2), (4, .int v4)]) hx hb d_Book_lay_83 rfl hl (by decide) rfl (fun ls hl => ?_)
          refine lv_iinc (v := (v4 + 1)) (lv' := [(4, .int (v4 + 1)), (1, .int (m_Book_pageAbove σ v1)), (3, .int (m_Sheets_nextOf σ (m_Book_placementAt σ v1))), (0, .ref (G 0 4)), (2, .int v2)]) hx hb d_Book_lay_84 hl (k := 4) rfl rfl (by decide) rfl (fun ls hl => ?_)
          refine lv_goto (tgt := 49) hx hb d_Book_lay_87 (by decide) ?_
          exact ih σ (m_Book_pageAbove σ v1) v2 (m_Sheets_nextOf σ (m_Book_placementAt σ v1)) (v4 + 1) (⟨up_step hI.1 (by assumption), hI.2⟩) hR _ _ hB ls (lv_sub hl [3, 1, 4, 2, 0] rfl)

set_option maxHeartbeats 400000 in
set_option maxRecDepth 100000 in
theorem w_Book_lay_26 {p : Program} {e : Env} {s : State} {m : MethodId} {args : Array Value} {below : List Frame} {meth : Method} {c : Code} {RES : SC}  (π : PJ) (hC : cx D classes (tyL cI cL cQ) NWL ALLW N0 p s m args meth c b_Book_lay 5 (none) R_Book) :
    ∀ (n : Nat) (σ : SC) (v1 : Int32) (v2 : Int32), upI n (300 : Int32) v2 → lp_Book_lay_26 n σ  v1 v2 = RES → ∀ (H : Heap) (locs : List Loc), bd D classes N0 (wsC G cI cL cQ σ π rest) s H locs → ∀ (ls : Array Slot), lv_has ls 5 [(0, .ref (G 0 4)), (1, .int v1), (2, .int v2)] → W p l e { frames := 3, cells := 0, slots := 0, locals := 67 } s m args below meth c H locs 0 0 (MQ below (qx D classes N0 (none) (fun w => w = wsC G cI cL cQ RES π rest)) args s 0 0 (ga N0)) (F0 m 26 ls []) := by
  have hx := hC.1
  have hb := hC.2.1
  intro n
  induction n with
  | zero =>
    intro σ v1 v2 hI
    exact absurd hI up_zero
  | succ n ih =>
    intro σ v1 v2 hI hR H locs hB ls hl
    rw [lp_Book_lay_26] at hR
    refine lv_iload_n hx hb d_Book_lay_26 rfl (lv_at hl 2 rfl) ?_
    refine lv_sipush (v := 300) hx hb d_Book_lay_27 (by decide) ?_
    refine lv_icmp_ge (tgt := 124) hx hb d_Book_lay_30 (by decide) (fun c_1 => ?_) (fun c_1 => ?_)
    · rw [if_pos c_1] at hR
      subst hR
      exact rv hC hB rfl d_Book_lay_124
    · rw [if_neg c_1] at hR
      refine lv_aload_n hx hb d_Book_lay_33 rfl (lv_at hl 0 rfl) ?_
      refine gt hC hB _ lkC_Book rfl i_Book 0 (by decide) rfl kw_102 rfl d_Book_lay_34 ?_
      refine lv_aload_n hx hb d_Book_lay_37 rfl (lv_at hl 0 rfl) ?_
      refine lv_iload_n hx hb d_Book_lay_38 rfl (lv_at hl 1 rfl) ?_
      refine kV hC hB _ lkC_Book rfl (c_Book_sheetAt σ π v1) allw_ok mf_Book_sheetAt kw_218 kw_219 kw_217 ⟨rfl, rfl, Nat.le_of_ble_eq_true rfl, Nat.le_of_ble_eq_true rfl⟩ rfl rfl hl.1 (Nat.le_of_ble_eq_true rfl) d_Book_lay_39 ⟨Nat.le_of_ble_eq_true rfl, Nat.le_of_ble_eq_true rfl⟩ (roK fun H locs hB => ?_)
      refine kV hC hB _ lkC_Sheets rfl (c_Sheets_firstOn σ π (m_Book_sheetAt σ v1)) allw_ok mf_Sheets_firstOn kw_222 kw_223 kw_221 ⟨rfl, rfl, Nat.le_of_ble_eq_true rfl, Nat.le_of_ble_eq_true rfl⟩ rfl rfl hl.1 (Nat.le_of_ble_eq_true rfl) d_Book_lay_42 ⟨Nat.le_of_ble_eq_true rfl, Nat.le_of_ble_eq_true rfl⟩ (roK fun H locs hB => ?_)
      refine lv_istore_n (lv' := [(3, .int (m_Sheets_firstOn σ (m_Book_sheetAt σ v1))), (0, .ref (G 0 4)), (1, .int v1), (2, .int v2)]) hx hb d_Book_lay_45 rfl hl (by decide) rfl (fun ls hl => ?_)
      refine lv_iconst (v := 0) hx hb d_Book_lay_46 (by decide) ?_
      refine lv_istore (lv' := [(4, .int 0), (3, .int (m_Sheets_firstOn σ (m_Book_sheetAt σ v1))), (0, .ref (G 0 4)), (1, .int v1), (2, .int v2)]) hx hb d_Book_lay_47 hl (by decide) rfl (fun ls hl => ?_)
      exact w_Book_lay_49 (lp_Book_lay_26 n)  π hC ih ((24 : Int32).toNatClampNeg + 1) σ v1 v2 (m_Sheets_firstOn σ (m_Book_sheetAt σ v1)) 0 (⟨up_init _, up_step hI (by assumption)⟩) hR _ _ hB ls (lv_sub hl [2, 3, 4, 1, 0] rfl)

set_option maxHeartbeats 400000 in
set_option maxRecDepth 100000 in
theorem c_Book_lay  (σ : SC) (π : PJ)  : CM l y_Book_lay b_Book_lay 5 (none) { frames := 3, cells := 0, slots := 0, locals := 67 } D (tyL cI cL cQ) N0 [.ref (G 0 4)] (wsC G cI cL cQ σ π rest) (none) (fun w => w = wsC G cI cL cQ (m_Book_lay σ) π rest) 0 0 := by
  generalize hR : m_Book_lay σ = RES
  refine met_of (own := R_Book) (by decide) rfl nwl_ok ?_
  intro p e s m below meth c hC hin hB
  have hx := hC.1
  have hb := hC.2.1
  have hl := lv_entry ([.ref (G 0 4)]) (n := 5) (Nat.le_of_ble_eq_true rfl)
  rw [lg_entry_eq]
  generalize (lg_sl ([.ref (G 0 4)]) ++ List.replicate (5 - (lg_sl ([.ref (G 0 4)])).length) Slot.unset).toArray = ls at hl ⊢
  have hl : lv_has ls 5 [(0, .ref (G 0 4))] := hl
  rw [m_Book_lay] at hR
  refine lv_aload_n hx hb d_Book_lay_0 rfl (lv_at hl 0 rfl) ?_
  refine gt hC hB _ lkC_Book rfl i_Book 6 (by decide) rfl kw_108 rfl d_Book_lay_1 ?_
  refine lv_iconst (v := 0) hx hb d_Book_lay_4 (by decide) ?_
  refine kS hC hB (c_Arrays_fillI 5 (by decide) σ π 0) allw_ok mf_Arrays_fillI kw_200 kw_199 ⟨rfl, rfl, Nat.le_of_ble_eq_true rfl, Nat.le_of_ble_eq_true rfl⟩ rfl rfl hl.1 (Nat.le_of_ble_eq_true rfl) d_Book_lay_5 ⟨Nat.le_of_ble_eq_true rfl, Nat.le_of_ble_eq_true rfl⟩ (roK fun H locs hB => ?_)
  refine lv_aload_n hx hb d_Book_lay_8 rfl (lv_at hl 0 rfl) ?_
  refine lv_iconst (v := 0) hx hb d_Book_lay_9 (by decide) ?_
  refine pt (ty := .int) hC hB _ lkC_Book rfl i_Book t_Book t_Book_ok n_Book 7 (by decide) rfl rfl kw_109 (by decide +kernel) rfl rfl (Nat.le_of_ble_eq_true rfl) d_Book_lay_10 (ws' := wsC G cI cL cQ (zn (m_Arrays_fillI σ 5 0) 2 0) π rest) setC_n2 (fun H locs hB => ?_)
  refine lv_aload_n hx hb d_Book_lay_13 rfl (lv_at hl 0 rfl) ?_
  refine lv_iconst (v := 0) hx hb d_Book_lay_14 (by decide) ?_
  refine lv_iconst (v := (-1)) hx hb d_Book_lay_15 (by decide) ?_
  refine lv_iconst (v := (-1)) hx hb d_Book_lay_16 (by decide) ?_
  refine lv_iconst (v := 0) hx hb d_Book_lay_17 (by decide) ?_
  refine kV hC hB _ lkC_Book rfl (c_Book_addPage (zn (m_Arrays_fillI σ 5 0) 2 0) π 0 (-1) (-1) 0) allw_ok mf_Book_addPage kw_204 ks_0 kw_202 ⟨rfl, rfl, Nat.le_of_ble_eq_true rfl, Nat.le_of_ble_eq_true rfl⟩ rfl rfl hl.1 (Nat.le_of_ble_eq_true rfl) d_Book_lay_18 ⟨Nat.le_of_ble_eq_true rfl, Nat.le_of_ble_eq_true rfl⟩ (roK fun H locs hB => ?_)
  refine lv_pop hx hb d_Book_lay_21 rfl ?_
  refine lv_iconst (v := 0) hx hb d_Book_lay_22 (by decide) ?_
  refine lv_istore_n (lv' := [(1, .int 0), (0, .ref (G 0 4))]) hx hb d_Book_lay_23 rfl hl (by decide) rfl (fun ls hl => ?_)
  refine lv_iconst (v := 0) hx hb d_Book_lay_24 (by decide) ?_
  refine lv_istore_n (lv' := [(2, .int 0), (1, .int 0), (0, .ref (G 0 4))]) hx hb d_Book_lay_25 rfl hl (by decide) rfl (fun ls hl => ?_)
  exact w_Book_lay_26  π hC ((300 : Int32).toNatClampNeg + 1) ((m_Book_addPage (zn (m_Arrays_fillI σ 5 0) 2 0) 0 (-1) (-1) 0).2) 0 0 (up_init _) hR _ _ hB ls (lv_sub hl [2, 1, 0] rfl)
end SC
end
section
def lp_Sheets_copyJoints_2 : Nat → SC → Int32 → Int32 → Int32 → SC
  | 0, σ, _, _, _ => σ
  | n + 1, σ, v1, v2, v3 =>
    if 32 ≤ v3 then
      σ
    else
      lp_Sheets_copyJoints_2 n (m_Sheets_setJoint σ v2 v3 (m_Sheets_jointOf σ v1 v3)) v1 v2 (v3 + 1)

def m_Sheets_copyJoints (σ : SC) (x0 : Int32) (x1 : Int32) : SC :=
  lp_Sheets_copyJoints_2 ((32 : Int32).toNatClampNeg + 1) σ x0 x1 0

def lp_Sheets_bringTo_16 : Nat → SC → Int32 → Int32 → Int32 → Int32 → Int32 × SC
  | 0, σ, _, _, _, _ => (0, σ)
  | n + 1, σ, v1, v2, v3, v4 =>
    if 32 ≤ v4 then
      (v3, σ)
    else
      if (m_Sheets_jointOf σ v1 v4) = (-1) then
        lp_Sheets_bringTo_16 n σ v1 v2 v3 (v4 + 1)
      else
        if (bi (m_Sheets_tells σ v2 (m_Sheets_jointOf σ v1 v4))) = 0 then
          lp_Sheets_bringTo_16 n (m_Sheets_setJoint σ v1 v4 (-1)) v1 v2 (v3 ||| (1 <<< (v4 &&& 31))) (v4 + 1)
        else
          lp_Sheets_bringTo_16 n σ v1 v2 v3 (v4 + 1)

def m_Sheets_bringTo (σ : SC) (x0 : Int32) (x1 : Int32) : Int32 × SC :=
  lp_Sheets_bringTo_16 ((32 : Int32).toNatClampNeg + 1) (m_Sheets_append (m_Sheets_unlink σ x0) x0 x1) x0 x1 0 0

def lp_Sheets_addSheetLike_31 : Nat → SC → Int32 → Int32 → Int32 → Int32 → Int32 × SC
  | 0, σ, _, _, _, _ => (0, σ)
  | n + 1, σ, v1, v2, v3, v4 =>
    if 60 ≤ v4 then
      (v2, σ)
    else
      if v3 = (-1) then
        (v2, σ)
      else
        lp_Sheets_addSheetLike_31 n (m_Sheets_copyJoints ((m_Sheets_addPlacement σ v2 (m_Sheets_sheetOf σ v3)).2) v3 ((m_Sheets_addPlacement σ v2 (m_Sheets_sheetOf σ v3)).1)) v1 v2 (m_Sheets_nextOf (m_Sheets_copyJoints ((m_Sheets_addPlacement σ v2 (m_Sheets_sheetOf σ v3)).2) v3 ((m_Sheets_addPlacement σ v2 (m_Sheets_sheetOf σ v3)).1)) v3) (v4 + 1)
def ct_Sheets_addSheetLike_31 : Nat → SC → Int32 → Int32 → Int32 → Int32 → Nat
  | 0, _, _, _, _, _ => 0
  | n + 1, σ, v1, v2, v3, v4 =>
    if 60 ≤ v4 then
      0
    else
      if v3 = (-1) then
        0
      else
        (1 + ct_Sheets_addSheetLike_31 n (m_Sheets_copyJoints ((m_Sheets_addPlacement σ v2 (m_Sheets_sheetOf σ v3)).2) v3 ((m_Sheets_addPlacement σ v2 (m_Sheets_sheetOf σ v3)).1)) v1 v2 (m_Sheets_nextOf (m_Sheets_copyJoints ((m_Sheets_addPlacement σ v2 (m_Sheets_sheetOf σ v3)).2) v3 ((m_Sheets_addPlacement σ v2 (m_Sheets_sheetOf σ v3)).1)) v3) (v4 + 1))

def m_Sheets_addSheetLike (σ : SC) (x0 : Int32) : Int32 × SC :=
  lp_Sheets_addSheetLike_31 ((60 : Int32).toNatClampNeg + 1) (m_Row_set ((m_Sheets_addSheet σ).2) 1 ((m_Sheets_addSheet σ).1) ((m_Row_at ((m_Sheets_addSheet σ).2) 1 x0).toInt64)) x0 ((m_Sheets_addSheet σ).1) (m_Sheets_firstOn (m_Row_set ((m_Sheets_addSheet σ).2) 1 ((m_Sheets_addSheet σ).1) ((m_Row_at ((m_Sheets_addSheet σ).2) 1 x0).toInt64)) x0) 0

def lp_Parts_addPartsLike_17 : Nat → SC → Int32 → Int32 → Int32 → Int32 → SC
  | 0, σ, _, _, _, _ => σ
  | n + 1, σ, v1, v2, v3, v4 =>
    if v3 ≤ v4 then
      σ
    else
      if (m_ST_read σ 6 (m_Parts_partAt σ v1 v4)) = (-1) then
        lp_Parts_addPartsLike_17 n (m_Parts_layGate (m_ST_write ((m_Parts_addPart σ (m_Parts_letterOf σ (m_Parts_partAt σ v1 v4)) (m_Parts_gateCount σ (m_Parts_partAt σ v1 v4))).2) 6 (m_Parts_partAt σ v1 v4) ((m_Parts_addPart σ (m_Parts_letterOf σ (m_Parts_partAt σ v1 v4)) (m_Parts_gateCount σ (m_Parts_partAt σ v1 v4))).1)) v2 (m_ST_read (m_ST_write ((m_Parts_addPart σ (m_Parts_letterOf σ (m_Parts_partAt σ v1 v4)) (m_Parts_gateCount σ (m_Parts_partAt σ v1 v4))).2) 6 (m_Parts_partAt σ v1 v4) ((m_Parts_addPart σ (m_Parts_letterOf σ (m_Parts_partAt σ v1 v4)) (m_Parts_gateCount σ (m_Parts_partAt σ v1 v4))).1)) 6 (m_Parts_partAt σ v1 v4)) ((m_Parts_gateAt (m_ST_write ((m_Parts_addPart σ (m_Parts_letterOf σ (m_Parts_partAt σ v1 v4)) (m_Parts_gateCount σ (m_Parts_partAt σ v1 v4))).2) 6 (m_Parts_partAt σ v1 v4) ((m_Parts_addPart σ (m_Parts_letterOf σ (m_Parts_partAt σ v1 v4)) (m_Parts_gateCount σ (m_Parts_partAt σ v1 v4))).1)) v1 v4) - (m_Parts_gateAt (m_ST_write ((m_Parts_addPart σ (m_Parts_letterOf σ (m_Parts_partAt σ v1 v4)) (m_Parts_gateCount σ (m_Parts_partAt σ v1 v4))).2) 6 (m_Parts_partAt σ v1 v4) ((m_Parts_addPart σ (m_Parts_letterOf σ (m_Parts_partAt σ v1 v4)) (m_Parts_gateCount σ (m_Parts_partAt σ v1 v4))).1)) v1 v4) / 8 * 8)) v1 v2 v3 (v4 + 1)
      else
        lp_Parts_addPartsLike_17 n (m_Parts_layGate σ v2 (m_ST_read σ 6 (m_Parts_partAt σ v1 v4)) ((m_Parts_gateAt σ v1 v4) - (m_Parts_gateAt σ v1 v4) / 8 * 8)) v1 v2 v3 (v4 + 1)

def m_Parts_addPartsLike (σ : SC) (x0 : Int32) (x1 : Int32) : SC :=
  lp_Parts_addPartsLike_17 ((m_Parts_gatesOn (m_Arrays_fillI σ 6 (-1)) x0).toNatClampNeg + 1) (m_Arrays_fillI σ 6 (-1)) x0 x1 (m_Parts_gatesOn (m_Arrays_fillI σ 6 (-1)) x0) 0

def lp_Variants_addTelling_63 : Nat → SC → Int32 → Int32 → Int32 → Int32 → Int32 → Int32 × SC
  | 0, σ, _, _, _, _, _ => (0, σ)
  | n + 1, σ, v1, v2, v3, v4, v5 =>
    if v5 < 0 then
      (v3, σ)
    else
      lp_Variants_addTelling_63 n (m_Row_set σ 17 ((v3 * 23) + v5) ((m_Book_placementAt σ v4).toInt64)) v1 v2 v3 (m_Book_pageAbove (m_Row_set σ 17 ((v3 * 23) + v5) ((m_Book_placementAt σ v4).toInt64)) v4) (v5 + (-1))

def m_Variants_addTelling (σ : SC) (x0 : Int32) (x1 : Int32) : Int32 × SC :=
  lp_Variants_addTelling_63 (((m_Book_depthAt (m_Row_set (m_Row_set (m_Row_set σ 12 1 (((m_Row_at σ 12 1) + 1).toInt64)) 14 (m_Row_at σ 12 1) x0.toInt64) 16 (m_Row_at σ 12 1) ((m_Book_depthAt (m_Row_set (m_Row_set σ 12 1 (((m_Row_at σ 12 1) + 1).toInt64)) 14 (m_Row_at σ 12 1) x0.toInt64) x1).toInt64)) x1) - 1).toNatClampNeg + 2) (m_Row_set (m_Row_set (m_Row_set σ 12 1 (((m_Row_at σ 12 1) + 1).toInt64)) 14 (m_Row_at σ 12 1) x0.toInt64) 16 (m_Row_at σ 12 1) ((m_Book_depthAt (m_Row_set (m_Row_set σ 12 1 (((m_Row_at σ 12 1) + 1).toInt64)) 14 (m_Row_at σ 12 1) x0.toInt64) x1).toInt64)) x0 x1 (m_Row_at σ 12 1) x1 ((m_Book_depthAt (m_Row_set (m_Row_set (m_Row_set σ 12 1 (((m_Row_at σ 12 1) + 1).toInt64)) 14 (m_Row_at σ 12 1) x0.toInt64) 16 (m_Row_at σ 12 1) ((m_Book_depthAt (m_Row_set (m_Row_set σ 12 1 (((m_Row_at σ 12 1) + 1).toInt64)) 14 (m_Row_at σ 12 1) x0.toInt64) x1).toInt64)) x1) - 1)

theorem rj_ST_write {π : PJ} {σ : SC} (h : RJ π σ) (j : Nat) (x y : Int32) : RJ π (m_ST_write σ j x y) := by
  unfold m_ST_write
  split
  · exact h
  · split <;> exact h
theorem rj_fill {π : PJ} : ∀ (n : Nat) (σ : SC) (j : Nat) (v1 v2 v3 : Int32), RJ π σ → RJ π (lp_Arrays_fillI_5 n σ j v1 v2 v3)
  | 0, _, _, _, _, _, h => h
  | n + 1, σ, j, v1, v2, v3, h => by
    rw [lp_Arrays_fillI_5]
    split
    · exact h
    · exact rj_fill n _ _ _ _ _ h
theorem rj_Arrays_fillI {π : PJ} {σ : SC} (h : RJ π σ) (j : Nat) (x : Int32) : RJ π (m_Arrays_fillI σ j x) := rj_fill _ _ _ _ _ _ h
section SC
variable {l : Launch} {D : va_G} {N0 : Nat} {G : Nat → Nat → Nat} {cI cL cQ : ClassId} {rest : va_W}
set_option maxHeartbeats 400000 in
set_option maxRecDepth 100000 in
theorem w_Sheets_copyJoints_2 {p : Program} {e : Env} {s : State} {m : MethodId} {args : Array Value} {below : List Frame} {meth : Method} {c : Code} {RES : SC}  (hC : cx D classes (tyL cI cL cQ) NWL ALLW N0 p s m args meth c b_Sheets_copyJoints 4 (none) R_Sheets) :
    ∀ (n : Nat) (σ : SC) (v1 : Int32) (v2 : Int32) (v3 : Int32) (cells slots : Nat), upI n (32 : Int32) v3 → cells + 1 * n ≤ 33 → slots + 4 * n ≤ 132 → lp_Sheets_copyJoints_2 n σ  v1 v2 v3 = RES → ∀ (π : PJ) (hπ : RJ π σ) (H : Heap) (locs : List Loc), bd D classes N0 (wsC G cI cL cQ σ π rest) s H locs → ∀ (ls : Array Slot), lv_has ls 4 [(0, .ref (G 0 3)), (1, .int v1), (2, .int v2), (3, .int v3)] → W p l e { frames := 5, cells := 33, slots := 132, locals := 109 } s m args below meth c H locs cells slots (MQ below (qx D classes N0 (none) (pwC G cI cL cQ RES rest)) args s 33 132 (ga N0)) (F0 m 2 ls []) := by
  have hx := hC.1
  have hb := hC.2.1
  intro n
  induction n with
  | zero =>
    intro σ v1 v2 v3 cells slots hI
    exact absurd hI up_zero
  | succ n ih =>
    intro σ v1 v2 v3 cells slots hI hc1 hc2 hR π hπ H locs hB ls hl
    rw [lp_Sheets_copyJoints_2] at hR
    refine lv_iload_n hx hb d_Sheets_copyJoints_2 rfl (lv_at hl 3 rfl) ?_
    refine lv_bipush (v := 32) hx hb d_Sheets_copyJoints_3 (by decide) ?_
    refine lv_icmp_ge (tgt := 26) hx hb d_Sheets_copyJoints_5 (by decide) (fun c_1 => ?_) (fun c_1 => ?_)
    · rw [if_pos c_1] at hR
      subst hR
      refine W.widen (k := 33) (n := 132) (by (try dsimp only); omega) (by (try dsimp only); omega) ?_
      exact rv hC hB ⟨π, hπ, rfl⟩ d_Sheets_copyJoints_26
    · rw [if_neg c_1] at hR
      refine lv_aload_n hx hb d_Sheets_copyJoints_8 rfl (lv_at hl 0 rfl) ?_
      refine lv_iload_n hx hb d_Sheets_copyJoints_9 rfl (lv_at hl 2 rfl) ?_
      refine lv_iload_n hx hb d_Sheets_copyJoints_10 rfl (lv_at hl 3 rfl) ?_
      refine lv_aload_n hx hb d_Sheets_copyJoints_11 rfl (lv_at hl 0 rfl) ?_
      refine lv_iload_n hx hb d_Sheets_copyJoints_12 rfl (lv_at hl 1 rfl) ?_
      refine lv_iload_n hx hb d_Sheets_copyJoints_13 rfl (lv_at hl 3 rfl) ?_
      refine kV hC hB _ lkC_Sheets rfl (c_Sheets_jointOf σ π v1 v3) allw_ok mf_Sheets_jointOf kw_528 kw_529 kw_527 ⟨rfl, rfl, Nat.le_of_ble_eq_true rfl, Nat.le_of_ble_eq_true rfl⟩ rfl rfl hl.1 (Nat.le_of_ble_eq_true rfl) d_Sheets_copyJoints_14 (by constructor <;> (try dsimp only) <;> omega) (roK fun H locs hB => ?_)
      refine kV hC hB _ lkC_Sheets rfl (c_Sheets_setJoint σ π hπ v2 v3 (m_Sheets_jointOf σ v1 v3)) allw_ok mf_Sheets_setJoint kw_537 kw_538 kw_536 ⟨rfl, rfl, Nat.le_of_ble_eq_true rfl, Nat.le_of_ble_eq_true rfl⟩ rfl rfl hl.1 (Nat.le_of_ble_eq_true rfl) d_Sheets_copyJoints_17 (by constructor <;> (try dsimp only) <;> omega) (fun H locs w hw hB => ?_)
      obtain ⟨π, hπ, rfl⟩ := hw
      refine lv_iinc (v := (v3 + 1)) (lv' := [(3, .int (v3 + 1)), (0, .ref (G 0 3)), (1, .int v1), (2, .int v2)]) hx hb d_Sheets_copyJoints_20 hl (k := 3) rfl rfl (by decide) rfl (fun ls hl => ?_)
      refine lv_goto (tgt := 2) hx hb d_Sheets_copyJoints_23 (by decide) ?_
      exact ih (m_Sheets_setJoint σ v2 v3 (m_Sheets_jointOf σ v1 v3)) v1 v2 (v3 + 1) _ _ (up_step hI (by assumption)) (by omega) (by omega) hR π hπ _ _ hB ls (lv_sub hl [1, 2, 3, 0] rfl)

set_option maxHeartbeats 400000 in
set_option maxRecDepth 100000 in
theorem c_Sheets_copyJoints  (σ : SC) (π : PJ) (hπ : RJ π σ) (x0 : Int32) (x1 : Int32) : CM l y_Sheets_copyJoints b_Sheets_copyJoints 4 (none) { frames := 5, cells := 33, slots := 132, locals := 109 } D (tyL cI cL cQ) N0 [.ref (G 0 3), .int x0, .int x1] (wsC G cI cL cQ σ π rest) (none) (pwC G cI cL cQ (m_Sheets_copyJoints σ x0 x1) rest) 33 132 := by
  generalize hR : m_Sheets_copyJoints σ x0 x1 = RES
  refine met_of (own := R_Sheets) (by decide) rfl nwl_ok ?_
  intro p e s m below meth c hC hin hB
  have hx := hC.1
  have hb := hC.2.1
  have hl := lv_entry ([.ref (G 0 3), .int x0, .int x1]) (n := 4) (Nat.le_of_ble_eq_true rfl)
  rw [lg_entry_eq]
  generalize (lg_sl ([.ref (G 0 3), .int x0, .int x1]) ++ List.replicate (4 - (lg_sl ([.ref (G 0 3), .int x0, .int x1])).length) Slot.unset).toArray = ls at hl ⊢
  have hl : lv_has ls 4 [(0, .ref (G 0 3)), (1, .int x0), (2, .int x1)] := hl
  rw [m_Sheets_copyJoints] at hR
  refine lv_iconst (v := 0) hx hb d_Sheets_copyJoints_0 (by decide) ?_
  refine lv_istore_n (lv' := [(3, .int 0), (0, .ref (G 0 3)), (1, .int x0), (2, .int x1)]) hx hb d_Sheets_copyJoints_1 rfl hl (by decide) rfl (fun ls hl => ?_)
  have hf_ : (32 : Int32).toNatClampNeg = 32 := by decide
  exact w_Sheets_copyJoints_2  hC ((32 : Int32).toNatClampNeg + 1) σ x0 x1 0 _ _ (up_init _) (by omega) (by omega) hR π hπ _ _ hB ls (lv_sub hl [1, 2, 3, 0] rfl)

set_option maxHeartbeats 400000 in
set_option maxRecDepth 100000 in
theorem w_Sheets_bringTo_16 {p : Program} {e : Env} {s : State} {m : MethodId} {args : Array Value} {below : List Frame} {meth : Method} {c : Code} {RES : Int32 × SC}  (hC : cx D classes (tyL cI cL cQ) NWL ALLW N0 p s m args meth c b_Sheets_bringTo 6 (some .int) R_Sheets) :
    ∀ (n : Nat) (σ : SC) (v1 : Int32) (v2 : Int32) (v3 : Int32) (v4 : Int32) (cells slots : Nat), upI n (32 : Int32) v4 → cells + 1 * n ≤ 37 → slots + 4 * n ≤ 148 → lp_Sheets_bringTo_16 n σ  v1 v2 v3 v4 = RES → ∀ (π : PJ) (hπ : RJ π σ) (H : Heap) (locs : List Loc), bd D classes N0 (wsC G cI cL cQ σ π rest) s H locs → ∀ (ls : Array Slot), lv_has ls 6 [(0, .ref (G 0 3)), (1, .int v1), (2, .int v2), (3, .int v3), (4, .int v4)] → W p l e { frames := 5, cells := 37, slots := 148, locals := 109 } s m args below meth c H locs cells slots (MQ below (qx D classes N0 (some (.int RES.1)) (pwC G cI cL cQ RES.2 rest)) args s 37 148 (ga N0)) (F0 m 16 ls []) := by
  obtain ⟨RV, RS⟩ := RES
  dsimp only
  have hx := hC.1
  have hb := hC.2.1
  intro n
  induction n with
  | zero =>
    intro σ v1 v2 v3 v4 cells slots hI
    exact absurd hI up_zero
  | succ n ih =>
    intro σ v1 v2 v3 v4 cells slots hI hc1 hc2 hR π hπ H locs hB ls hl
    rw [lp_Sheets_bringTo_16] at hR
    refine lv_iload hx hb d_Sheets_bringTo_16 (lv_at hl 4 rfl) ?_
    refine lv_bipush (v := 32) hx hb d_Sheets_bringTo_18 (by decide) ?_
    refine lv_icmp_ge (tgt := 69) hx hb d_Sheets_bringTo_20 (by decide) (fun c_1 => ?_) (fun c_1 => ?_)
    · rw [if_pos c_1] at hR
      refine lv_iload_n hx hb d_Sheets_bringTo_69 rfl (lv_at hl 3 rfl) ?_
      obtain ⟨rfl, rfl⟩ := Prod.mk.inj hR
      refine W.widen (k := 37) (n := 148) (by (try dsimp only); omega) (by (try dsimp only); omega) ?_
      exact ri hC hB ⟨π, hπ, rfl⟩ d_Sheets_bringTo_70
    · rw [if_neg c_1] at hR
      refine lv_aload_n hx hb d_Sheets_bringTo_23 rfl (lv_at hl 0 rfl) ?_
      refine lv_iload_n hx hb d_Sheets_bringTo_24 rfl (lv_at hl 1 rfl) ?_
      refine lv_iload hx hb d_Sheets_bringTo_25 (lv_at hl 4 rfl) ?_
      refine kV hC hB _ lkC_Sheets rfl (c_Sheets_jointOf σ π v1 v4) allw_ok mf_Sheets_jointOf kw_528 kw_529 kw_527 ⟨rfl, rfl, Nat.le_of_ble_eq_true rfl, Nat.le_of_ble_eq_true rfl⟩ rfl rfl hl.1 (Nat.le_of_ble_eq_true rfl) d_Sheets_bringTo_27 (by constructor <;> (try dsimp only) <;> omega) (roK fun H locs hB => ?_)
      refine lv_istore (lv' := [(5, .int (m_Sheets_jointOf σ v1 v4)), (0, .ref (G 0 3)), (1, .int v1), (2, .int v2), (3, .int v3), (4, .int v4)]) hx hb d_Sheets_bringTo_30 hl (by decide) rfl (fun ls hl => ?_)
      refine lv_iload hx hb d_Sheets_bringTo_32 (lv_at hl 0 rfl) ?_
      refine lv_iconst (v := (-1)) hx hb d_Sheets_bringTo_34 (by decide) ?_
      refine lv_icmp_eq (tgt := 63) hx hb d_Sheets_bringTo_35 (by decide) (fun c_2 => ?_) (fun c_2 => ?_)
      · rw [if_pos c_2] at hR
        refine lv_iinc (v := (v4 + 1)) (lv' := [(4, .int (v4 + 1)), (5, .int (m_Sheets_jointOf σ v1 v4)), (0, .ref (G 0 3)), (1, .int v1), (2, .int v2), (3, .int v3)]) hx hb d_Sheets_bringTo_63 hl (k := 5) rfl rfl (by decide) rfl (fun ls hl => ?_)
        refine lv_goto (tgt := 16) hx hb d_Sheets_bringTo_66 (by decide) ?_
        exact ih σ v1 v2 v3 (v4 + 1) _ _ (up_step hI (by assumption)) (by omega) (by omega) hR π hπ _ _ hB ls (lv_sub hl [2, 3, 4, 5, 0] rfl)
      · rw [if_neg c_2] at hR
        refine lv_aload_n hx hb d_Sheets_bringTo_38 rfl (lv_at hl 1 rfl) ?_
        refine lv_iload_n hx hb d_Sheets_bringTo_39 rfl (lv_at hl 3 rfl) ?_
        refine lv_iload hx hb d_Sheets_bringTo_40 (lv_at hl 0 rfl) ?_
        refine kV hC hB _ lkC_Sheets rfl (c_Sheets_tells σ π v2 (m_Sheets_jointOf σ v1 v4)) allw_ok mf_Sheets_tells kw_532 kw_533 kw_531 ⟨rfl, rfl, Nat.le_of_ble_eq_true rfl, Nat.le_of_ble_eq_true rfl⟩ rfl rfl hl.1 (Nat.le_of_ble_eq_true rfl) d_Sheets_bringTo_42 (by constructor <;> (try dsimp only) <;> omega) (roK fun H locs hB => ?_)
        refine lv_if_ne (tgt := 63) hx hb d_Sheets_bringTo_45 (by decide) (fun c_3 => ?_) (fun c_3 => ?_)
        · rw [if_neg c_3] at hR
          refine lv_iinc (v := (v4 + 1)) (lv' := [(4, .int (v4 + 1)), (5, .int (m_Sheets_jointOf σ v1 v4)), (0, .ref (G 0 3)), (1, .int v1), (2, .int v2), (3, .int v3)]) hx hb d_Sheets_bringTo_63 hl (k := 5) rfl rfl (by decide) rfl (fun ls hl => ?_)
          refine lv_goto (tgt := 16) hx hb d_Sheets_bringTo_66 (by decide) ?_
          exact ih σ v1 v2 v3 (v4 + 1) _ _ (up_step hI (by assumption)) (by omega) (by omega) hR π hπ _ _ hB ls (lv_sub hl [2, 3, 4, 5, 0] rfl)
        · rw [if_pos c_3] at hR
          refine lv_aload_n hx hb d_Sheets_bringTo_48 rfl (lv_at hl 1 rfl) ?_
          refine lv_iload_n hx hb d_Sheets_bringTo_49 rfl (lv_at hl 2 rfl) ?_
          refine lv_iload hx hb d_Sheets_bringTo_50 (lv_at hl 5 rfl) ?_
          refine lv_iconst (v := (-1)) hx hb d_Sheets_bringTo_52 (by decide) ?_
          refine kV hC hB _ lkC_Sheets rfl (c_Sheets_setJoint σ π hπ v1 v4 (-1)) allw_ok mf_Sheets_setJoint kw_537 kw_538 kw_536 ⟨rfl, rfl, Nat.le_of_ble_eq_true rfl, Nat.le_of_ble_eq_true rfl⟩ rfl rfl hl.1 (Nat.le_of_ble_eq_true rfl) d_Sheets_bringTo_53 (by constructor <;> (try dsimp only) <;> omega) (fun H locs w hw hB => ?_)
          obtain ⟨π, hπ, rfl⟩ := hw
          refine lv_iload_n hx hb d_Sheets_bringTo_56 rfl (lv_at hl 4 rfl) ?_
          refine lv_iconst (v := 1) hx hb d_Sheets_bringTo_57 (by decide) ?_
          refine lv_iload hx hb d_Sheets_bringTo_58 (lv_at hl 5 rfl) ?_
          refine lv_ishl hx hb d_Sheets_bringTo_60 ?_
          refine lv_ior hx hb d_Sheets_bringTo_61 ?_
          refine lv_istore_n (lv' := [(3, .int (v3 ||| (1 <<< (v4 &&& 31)))), (5, .int (m_Sheets_jointOf σ v1 v4)), (0, .ref (G 0 3)), (1, .int v1), (2, .int v2), (4, .int v4)]) hx hb d_Sheets_bringTo_62 rfl hl (by decide) rfl (fun ls hl => ?_)
          refine lv_iinc (v := (v4 + 1)) (lv' := [(4, .int (v4 + 1)), (3, .int (v3 ||| (1 <<< (v4 &&& 31)))), (5, .int (m_Sheets_jointOf σ v1 v4)), (0, .ref (G 0 3)), (1, .int v1), (2, .int v2)]) hx hb d_Sheets_bringTo_63 hl (k := 5) rfl rfl (by decide) rfl (fun ls hl => ?_)
          refine lv_goto (tgt := 16) hx hb d_Sheets_bringTo_66 (by decide) ?_
          exact ih (m_Sheets_setJoint σ v1 v4 (-1)) v1 v2 (v3 ||| (1 <<< (v4 &&& 31))) (v4 + 1) _ _ (up_step hI (by assumption)) (by omega) (by omega) hR π hπ _ _ hB ls (lv_sub hl [3, 4, 5, 1, 0] rfl)

set_option maxHeartbeats 400000 in
set_option maxRecDepth 100000 in
theorem c_Sheets_bringTo  (σ : SC) (π : PJ) (hπ : RJ π σ) (x0 : Int32) (x1 : Int32) : CM l y_Sheets_bringTo b_Sheets_bringTo 6 (some .int) { frames := 5, cells := 37, slots := 148, locals := 109 } D (tyL cI cL cQ) N0 [.ref (G 0 3), .int x0, .int x1] (wsC G cI cL cQ σ π rest) (some (.int ((m_Sheets_bringTo σ x0 x1).1))) (pwC G cI cL cQ ((m_Sheets_bringTo σ x0 x1).2) rest) 37 148 := by
  generalize hR : m_Sheets_bringTo σ x0 x1 = RES
  obtain ⟨RV, RS⟩ := RES
  dsimp only
  refine met_of (own := R_Sheets) (by decide) rfl nwl_ok ?_
  intro p e s m below meth c hC hin hB
  have hx := hC.1
  have hb := hC.2.1
  have hl := lv_entry ([.ref (G 0 3), .int x0, .int x1]) (n := 6) (Nat.le_of_ble_eq_true rfl)
  rw [lg_entry_eq]
  generalize (lg_sl ([.ref (G 0 3), .int x0, .int x1]) ++ List.replicate (6 - (lg_sl ([.ref (G 0 3), .int x0, .int x1])).length) Slot.unset).toArray = ls at hl ⊢
  have hl : lv_has ls 6 [(0, .ref (G 0 3)), (1, .int x0), (2, .int x1)] := hl
  rw [m_Sheets_bringTo] at hR
  refine lv_aload_n hx hb d_Sheets_bringTo_0 rfl (lv_at hl 0 rfl) ?_
  refine lv_iload_n hx hb d_Sheets_bringTo_1 rfl (lv_at hl 1 rfl) ?_
  refine kV hC hB _ lkC_Sheets rfl (c_Sheets_unlink σ π hπ x0) allw_ok mf_Sheets_unlink kw_512 ks_11 kw_510 ⟨rfl, rfl, Nat.le_of_ble_eq_true rfl, Nat.le_of_ble_eq_true rfl⟩ rfl rfl hl.1 (Nat.le_of_ble_eq_true rfl) d_Sheets_bringTo_2 ⟨Nat.le_of_ble_eq_true rfl, Nat.le_of_ble_eq_true rfl⟩ (fun H locs w hw hB => ?_)
  obtain ⟨π, hπ, rfl⟩ := hw
  refine lv_aload_n hx hb d_Sheets_bringTo_5 rfl (lv_at hl 0 rfl) ?_
  refine lv_iload_n hx hb d_Sheets_bringTo_6 rfl (lv_at hl 1 rfl) ?_
  refine lv_iload_n hx hb d_Sheets_bringTo_7 rfl (lv_at hl 2 rfl) ?_
  refine kV hC hB _ lkC_Sheets rfl (c_Sheets_append (m_Sheets_unlink σ x0) π hπ x0 x1) allw_ok mf_Sheets_append kw_478 ks_7 kw_476 ⟨rfl, rfl, Nat.le_of_ble_eq_true rfl, Nat.le_of_ble_eq_true rfl⟩ rfl rfl hl.1 (Nat.le_of_ble_eq_true rfl) d_Sheets_bringTo_8 ⟨Nat.le_of_ble_eq_true rfl, Nat.le_of_ble_eq_true rfl⟩ (fun H locs w hw hB => ?_)
  obtain ⟨π, hπ, rfl⟩ := hw
  refine lv_iconst (v := 0) hx hb d_Sheets_bringTo_11 (by decide) ?_
  refine lv_istore_n (lv' := [(3, .int 0), (0, .ref (G 0 3)), (1, .int x0), (2, .int x1)]) hx hb d_Sheets_bringTo_12 rfl hl (by decide) rfl (fun ls hl => ?_)
  refine lv_iconst (v := 0) hx hb d_Sheets_bringTo_13 (by decide) ?_
  refine lv_istore (lv' := [(4, .int 0), (3, .int 0), (0, .ref (G 0 3)), (1, .int x0), (2, .int x1)]) hx hb d_Sheets_bringTo_14 hl (by decide) rfl (fun ls hl => ?_)
  have hf_ : (32 : Int32).toNatClampNeg = 32 := by decide
  exact w_Sheets_bringTo_16  hC ((32 : Int32).toNatClampNeg + 1) (m_Sheets_append (m_Sheets_unlink σ x0) x0 x1) x0 x1 0 0 _ _ (up_init _) (by omega) (by omega) hR π hπ _ _ hB ls (lv_sub hl [2, 3, 4, 1, 0] rfl)

set_option maxHeartbeats 400000 in
set_option maxRecDepth 100000 in
theorem w_Sheets_addSheetLike_31 {p : Program} {e : Env} {s : State} {m : MethodId} {args : Array Value} {below : List Frame} {meth : Method} {c : Code} {RES : Int32 × SC} {MC : Nat}  (hC : cx D classes (tyL cI cL cQ) NWL ALLW N0 p s m args meth c b_Sheets_addSheetLike 5 (some .int) R_Sheets) :
    ∀ (n : Nat) (σ : SC) (v1 : Int32) (v2 : Int32) (v3 : Int32) (v4 : Int32) (cells slots : Nat), upI n (60 : Int32) v4 → cells + 37 * ct_Sheets_addSheetLike_31 n σ  v1 v2 v3 v4 ≤ MC → slots + 148 * ct_Sheets_addSheetLike_31 n σ  v1 v2 v3 v4 ≤ (4 * MC) → lp_Sheets_addSheetLike_31 n σ  v1 v2 v3 v4 = RES → ∀ (π : PJ) (hπ : RJ π σ) (H : Heap) (locs : List Loc), bd D classes N0 (wsC G cI cL cQ σ π rest) s H locs → ∀ (ls : Array Slot), lv_has ls 5 [(0, .ref (G 0 3)), (1, .int v1), (2, .int v2), (3, .int v3), (4, .int v4)] → W p l e { frames := 6, cells := MC, slots := 4 * MC, locals := 132 } s m args below meth c H locs cells slots (MQ below (qx D classes N0 (some (.int RES.1)) (pwC G cI cL cQ RES.2 rest)) args s MC (4 * MC) (ga N0)) (F0 m 31 ls []) := by
  obtain ⟨RV, RS⟩ := RES
  dsimp only
  have hx := hC.1
  have hb := hC.2.1
  intro n
  induction n with
  | zero =>
    intro σ v1 v2 v3 v4 cells slots hI
    exact absurd hI up_zero
  | succ n ih =>
    intro σ v1 v2 v3 v4 cells slots hI hc1 hc2 hR π hπ H locs hB ls hl
    rw [lp_Sheets_addSheetLike_31] at hR
    rw [ct_Sheets_addSheetLike_31] at hc1 hc2
    refine lv_iload hx hb d_Sheets_addSheetLike_31 (lv_at hl 4 rfl) ?_
    refine lv_bipush (v := 60) hx hb d_Sheets_addSheetLike_33 (by decide) ?_
    refine lv_icmp_ge (tgt := 70) hx hb d_Sheets_addSheetLike_35 (by decide) (fun c_1 => ?_) (fun c_1 => ?_)
    · rw [if_pos c_1] at hR hc1 hc2
      refine lv_iload_n hx hb d_Sheets_addSheetLike_70 rfl (lv_at hl 2 rfl) ?_
      obtain ⟨rfl, rfl⟩ := Prod.mk.inj hR
      refine W.widen (k := MC) (n := (4 * MC)) (by (try dsimp only); omega) (by (try dsimp only); omega) ?_
      exact ri hC hB ⟨π, hπ, rfl⟩ d_Sheets_addSheetLike_71
    · rw [if_neg c_1] at hR hc1 hc2
      refine lv_iload_n hx hb d_Sheets_addSheetLike_38 rfl (lv_at hl 3 rfl) ?_
      refine lv_iconst (v := (-1)) hx hb d_Sheets_addSheetLike_39 (by decide) ?_
      refine lv_icmp_eq (tgt := 70) hx hb d_Sheets_addSheetLike_40 (by decide) (fun c_2 => ?_) (fun c_2 => ?_)
      · rw [if_pos c_2] at hR hc1 hc2
        refine lv_iload_n hx hb d_Sheets_addSheetLike_70 rfl (lv_at hl 2 rfl) ?_
        obtain ⟨rfl, rfl⟩ := Prod.mk.inj hR
        refine W.widen (k := MC) (n := (4 * MC)) (by (try dsimp only); omega) (by (try dsimp only); omega) ?_
        exact ri hC hB ⟨π, hπ, rfl⟩ d_Sheets_addSheetLike_71
      · rw [if_neg c_2] at hR hc1 hc2
        refine lv_aload_n hx hb d_Sheets_addSheetLike_43 rfl (lv_at hl 0 rfl) ?_
        refine lv_iload_n hx hb d_Sheets_addSheetLike_44 rfl (lv_at hl 3 rfl) ?_
        refine lv_aload_n hx hb d_Sheets_addSheetLike_45 rfl (lv_at hl 0 rfl) ?_
        refine lv_iload_n hx hb d_Sheets_addSheetLike_46 rfl (lv_at hl 2 rfl) ?_
        refine lv_aload_n hx hb d_Sheets_addSheetLike_47 rfl (lv_at hl 0 rfl) ?_
        refine lv_iload_n hx hb d_Sheets_addSheetLike_48 rfl (lv_at hl 3 rfl) ?_
        refine kV hC hB _ lkC_Sheets rfl (c_Sheets_sheetOf σ π v3) allw_ok mf_Sheets_sheetOf kw_246 kw_247 kw_471 ⟨rfl, rfl, Nat.le_of_ble_eq_true rfl, Nat.le_of_ble_eq_true rfl⟩ rfl rfl hl.1 (Nat.le_of_ble_eq_true rfl) d_Sheets_addSheetLike_49 (by constructor <;> (try dsimp only) <;> omega) (roK fun H locs hB => ?_)
        refine kV hC hB _ lkC_Sheets rfl (c_Sheets_addPlacement σ π hπ v2 (m_Sheets_sheetOf σ v3)) allw_ok mf_Sheets_addPlacement kw_473 kw_474 kw_678 ⟨rfl, rfl, Nat.le_of_ble_eq_true rfl, Nat.le_of_ble_eq_true rfl⟩ rfl rfl hl.1 (Nat.le_of_ble_eq_true rfl) d_Sheets_addSheetLike_52 (by constructor <;> (try dsimp only) <;> omega) (fun H locs w hw hB => ?_)
        obtain ⟨π, hπ, rfl⟩ := hw
        refine kV hC hB _ lkC_Sheets rfl (c_Sheets_copyJoints ((m_Sheets_addPlacement σ v2 (m_Sheets_sheetOf σ v3)).2) π hπ v3 ((m_Sheets_addPlacement σ v2 (m_Sheets_sheetOf σ v3)).1)) allw_ok mf_Sheets_copyJoints kw_681 ks_17 kw_679 ⟨rfl, rfl, Nat.le_of_ble_eq_true rfl, Nat.le_of_ble_eq_true rfl⟩ rfl rfl hl.1 (Nat.le_of_ble_eq_true rfl) d_Sheets_addSheetLike_55 (by constructor <;> (try dsimp only) <;> omega) (fun H locs w hw hB => ?_)
        obtain ⟨π, hπ, rfl⟩ := hw
        refine lv_aload_n hx hb d_Sheets_addSheetLike_58 rfl (lv_at hl 0 rfl) ?_
        refine lv_iload_n hx hb d_Sheets_addSheetLike_59 rfl (lv_at hl 3 rfl) ?_
        refine kV hC hB _ lkC_Sheets rfl (c_Sheets_nextOf (m_Sheets_copyJoints ((m_Sheets_addPlacement σ v2 (m_Sheets_sheetOf σ v3)).2) v3 ((m_Sheets_addPlacement σ v2 (m_Sheets_sheetOf σ v3)).1)) π v3) allw_ok mf_Sheets_nextOf kw_238 kw_239 kw_514 ⟨rfl, rfl, Nat.le_of_ble_eq_true rfl, Nat.le_of_ble_eq_true rfl⟩ rfl rfl hl.1 (Nat.le_of_ble_eq_true rfl) d_Sheets_addSheetLike_60 (by constructor <;> (try dsimp only) <;> omega) (roK fun H locs hB => ?_)
        refine lv_istore_n (lv' := [(3, .int (m_Sheets_nextOf (m_Sheets_copyJoints ((m_Sheets_addPlacement σ v2 (m_Sheets_sheetOf σ v3)).2) v3 ((m_Sheets_addPlacement σ v2 (m_Sheets_sheetOf σ v3)).1)) v3)), (0, .ref (G 0 3)), (1, .int v1), (2, .int v2), (4, .int v4)]) hx hb d_Sheets_addSheetLike_63 rfl hl (by decide) rfl (fun ls hl => ?_)
        refine lv_iinc (v := (v4 + 1)) (lv' := [(4, .int (v4 + 1)), (3, .int (m_Sheets_nextOf (m_Sheets_copyJoints ((m_Sheets_addPlacement σ v2 (m_Sheets_sheetOf σ v3)).2) v3 ((m_Sheets_addPlacement σ v2 (m_Sheets_sheetOf σ v3)).1)) v3)), (0, .ref (G 0 3)), (1, .int v1), (2, .int v2)]) hx hb d_Sheets_addSheetLike_64 hl (k := 4) rfl rfl (by decide) rfl (fun ls hl => ?_)
        refine lv_goto (tgt := 31) hx hb d_Sheets_addSheetLike_67 (by decide) ?_
        exact ih (m_Sheets_copyJoints ((m_Sheets_addPlacement σ v2 (m_Sheets_sheetOf σ v3)).2) v3 ((m_Sheets_addPlacement σ v2 (m_Sheets_sheetOf σ v3)).1)) v1 v2 (m_Sheets_nextOf (m_Sheets_copyJoints ((m_Sheets_addPlacement σ v2 (m_Sheets_sheetOf σ v3)).2) v3 ((m_Sheets_addPlacement σ v2 (m_Sheets_sheetOf σ v3)).1)) v3) (v4 + 1) _ _ (up_step hI (by assumption)) (by omega) (by omega) hR π hπ _ _ hB ls (lv_sub hl [2, 3, 4, 1, 0] rfl)

set_option maxHeartbeats 400000 in
set_option maxRecDepth 100000 in
theorem c_Sheets_addSheetLike  (σ : SC) (π : PJ) (hπ : RJ π σ) (x0 : Int32) : CM l y_Sheets_addSheetLike b_Sheets_addSheetLike 5 (some .int) { frames := 6, cells := (2 + 37 * ct_Sheets_addSheetLike_31 ((60 : Int32).toNatClampNeg + 1) (m_Row_set ((m_Sheets_addSheet σ).2) 1 ((m_Sheets_addSheet σ).1) ((m_Row_at ((m_Sheets_addSheet σ).2) 1 x0).toInt64)) x0 ((m_Sheets_addSheet σ).1) (m_Sheets_firstOn (m_Row_set ((m_Sheets_addSheet σ).2) 1 ((m_Sheets_addSheet σ).1) ((m_Row_at ((m_Sheets_addSheet σ).2) 1 x0).toInt64)) x0) 0), slots := (4 * (2 + 37 * ct_Sheets_addSheetLike_31 ((60 : Int32).toNatClampNeg + 1) (m_Row_set ((m_Sheets_addSheet σ).2) 1 ((m_Sheets_addSheet σ).1) ((m_Row_at ((m_Sheets_addSheet σ).2) 1 x0).toInt64)) x0 ((m_Sheets_addSheet σ).1) (m_Sheets_firstOn (m_Row_set ((m_Sheets_addSheet σ).2) 1 ((m_Sheets_addSheet σ).1) ((m_Row_at ((m_Sheets_addSheet σ).2) 1 x0).toInt64)) x0) 0)), locals := 132 } D (tyL cI cL cQ) N0 [.ref (G 0 3), .int x0] (wsC G cI cL cQ σ π rest) (some (.int ((m_Sheets_addSheetLike σ x0).1))) (pwC G cI cL cQ ((m_Sheets_addSheetLike σ x0).2) rest) (2 + 37 * ct_Sheets_addSheetLike_31 ((60 : Int32).toNatClampNeg + 1) (m_Row_set ((m_Sheets_addSheet σ).2) 1 ((m_Sheets_addSheet σ).1) ((m_Row_at ((m_Sheets_addSheet σ).2) 1 x0).toInt64)) x0 ((m_Sheets_addSheet σ).1) (m_Sheets_firstOn (m_Row_set ((m_Sheets_addSheet σ).2) 1 ((m_Sheets_addSheet σ).1) ((m_Row_at ((m_Sheets_addSheet σ).2) 1 x0).toInt64)) x0) 0) (4 * (2 + 37 * ct_Sheets_addSheetLike_31 ((60 : Int32).toNatClampNeg + 1) (m_Row_set ((m_Sheets_addSheet σ).2) 1 ((m_Sheets_addSheet σ).1) ((m_Row_at ((m_Sheets_addSheet σ).2) 1 x0).toInt64)) x0 ((m_Sheets_addSheet σ).1) (m_Sheets_firstOn (m_Row_set ((m_Sheets_addSheet σ).2) 1 ((m_Sheets_addSheet σ).1) ((m_Row_at ((m_Sheets_addSheet σ).2) 1 x0).toInt64)) x0) 0)) := by
  generalize hR : m_Sheets_addSheetLike σ x0 = RES
  obtain ⟨RV, RS⟩ := RES
  dsimp only
  refine met_of (own := R_Sheets) (by decide) rfl nwl_ok ?_
  intro p e s m below meth c hC hin hB
  have hx := hC.1
  have hb := hC.2.1
  have hl := lv_entry ([.ref (G 0 3), .int x0]) (n := 5) (Nat.le_of_ble_eq_true rfl)
  rw [lg_entry_eq]
  generalize (lg_sl ([.ref (G 0 3), .int x0]) ++ List.replicate (5 - (lg_sl ([.ref (G 0 3), .int x0])).length) Slot.unset).toArray = ls at hl ⊢
  have hl : lv_has ls 5 [(0, .ref (G 0 3)), (1, .int x0)] := hl
  rw [m_Sheets_addSheetLike] at hR
  refine lv_aload_n hx hb d_Sheets_addSheetLike_0 rfl (lv_at hl 0 rfl) ?_
  refine kV hC hB _ lkC_Sheets rfl (c_Sheets_addSheet σ π hπ) allw_ok mf_Sheets_addSheet kw_284 kw_285 kw_677 ⟨rfl, rfl, Nat.le_of_ble_eq_true rfl, Nat.le_of_ble_eq_true rfl⟩ rfl rfl hl.1 (Nat.le_of_ble_eq_true rfl) d_Sheets_addSheetLike_1 (by constructor <;> (try dsimp only) <;> omega) (fun H locs w hw hB => ?_)
  obtain ⟨π, hπ, rfl⟩ := hw
  refine lv_istore_n (lv' := [(2, .int ((m_Sheets_addSheet σ).1)), (0, .ref (G 0 3)), (1, .int x0)]) hx hb d_Sheets_addSheetLike_4 rfl hl (by decide) rfl (fun ls hl => ?_)
  refine lv_aload_n hx hb d_Sheets_addSheetLike_5 rfl (lv_at hl 1 rfl) ?_
  refine gt hC hB _ lkC_Sheets rfl i_Sheets 1 (by decide) rfl kw_78 rfl d_Sheets_addSheetLike_6 ?_
  refine lv_iload_n hx hb d_Sheets_addSheetLike_9 rfl (lv_at hl 0 rfl) ?_
  refine lv_aload_n hx hb d_Sheets_addSheetLike_10 rfl (lv_at hl 1 rfl) ?_
  refine gt hC hB _ lkC_Sheets rfl i_Sheets 1 (by decide) rfl kw_78 rfl d_Sheets_addSheetLike_11 ?_
  refine lv_iload_n hx hb d_Sheets_addSheetLike_14 rfl (lv_at hl 2 rfl) ?_
  refine kV hC hB _ (lkC_row (by decide)) rfl (c_Row_at 1 (by decide) ((m_Sheets_addSheet σ).2) π x0) allw_ok mf_Row_at kw_230 kw_231 kw_229 ⟨rfl, rfl, Nat.le_of_ble_eq_true rfl, Nat.le_of_ble_eq_true rfl⟩ rfl rfl hl.1 (Nat.le_of_ble_eq_true rfl) d_Sheets_addSheetLike_15 (by constructor <;> (try dsimp only) <;> omega) (roK fun H locs hB => ?_)
  refine lv_i2l hx hb d_Sheets_addSheetLike_18 rfl ?_
  refine kV hC hB _ (lkC_row (by decide)) rfl (c_Row_set 1 (by decide) ((m_Sheets_addSheet σ).2) π hπ ((m_Sheets_addSheet σ).1) ((m_Row_at ((m_Sheets_addSheet σ).2) 1 x0).toInt64)) allw_ok mf_Row_set kw_289 kw_290 kw_288 ⟨rfl, rfl, Nat.le_of_ble_eq_true rfl, Nat.le_of_ble_eq_true rfl⟩ rfl rfl hl.1 (Nat.le_of_ble_eq_true rfl) d_Sheets_addSheetLike_19 (by constructor <;> (try dsimp only) <;> omega) (fun H locs w hw hB => ?_)
  obtain ⟨π, hπ, rfl⟩ := hw
  refine lv_aload_n hx hb d_Sheets_addSheetLike_22 rfl (lv_at hl 1 rfl) ?_
  refine lv_iload_n hx hb d_Sheets_addSheetLike_23 rfl (lv_at hl 2 rfl) ?_
  refine kV hC hB _ lkC_Sheets rfl (c_Sheets_firstOn (m_Row_set ((m_Sheets_addSheet σ).2) 1 ((m_Sheets_addSheet σ).1) ((m_Row_at ((m_Sheets_addSheet σ).2) 1 x0).toInt64)) π x0) allw_ok mf_Sheets_firstOn kw_222 kw_223 kw_657 ⟨rfl, rfl, Nat.le_of_ble_eq_true rfl, Nat.le_of_ble_eq_true rfl⟩ rfl rfl hl.1 (Nat.le_of_ble_eq_true rfl) d_Sheets_addSheetLike_24 (by constructor <;> (try dsimp only) <;> omega) (roK fun H locs hB => ?_)
  refine lv_istore_n (lv' := [(3, .int (m_Sheets_firstOn (m_Row_set ((m_Sheets_addSheet σ).2) 1 ((m_Sheets_addSheet σ).1) ((m_Row_at ((m_Sheets_addSheet σ).2) 1 x0).toInt64)) x0)), (2, .int ((m_Sheets_addSheet σ).1)), (0, .ref (G 0 3)), (1, .int x0)]) hx hb d_Sheets_addSheetLike_27 rfl hl (by decide) rfl (fun ls hl => ?_)
  refine lv_iconst (v := 0) hx hb d_Sheets_addSheetLike_28 (by decide) ?_
  refine lv_istore (lv' := [(4, .int 0), (3, .int (m_Sheets_firstOn (m_Row_set ((m_Sheets_addSheet σ).2) 1 ((m_Sheets_addSheet σ).1) ((m_Row_at ((m_Sheets_addSheet σ).2) 1 x0).toInt64)) x0)), (2, .int ((m_Sheets_addSheet σ).1)), (0, .ref (G 0 3)), (1, .int x0)]) hx hb d_Sheets_addSheetLike_29 hl (by decide) rfl (fun ls hl => ?_)
  exact w_Sheets_addSheetLike_31  hC ((60 : Int32).toNatClampNeg + 1) (m_Row_set ((m_Sheets_addSheet σ).2) 1 ((m_Sheets_addSheet σ).1) ((m_Row_at ((m_Sheets_addSheet σ).2) 1 x0).toInt64)) x0 ((m_Sheets_addSheet σ).1) (m_Sheets_firstOn (m_Row_set ((m_Sheets_addSheet σ).2) 1 ((m_Sheets_addSheet σ).1) ((m_Row_at ((m_Sheets_addSheet σ).2) 1 x0).toInt64)) x0) 0 _ _ (up_init _) (by omega) (by omega) hR π hπ _ _ hB ls (lv_sub hl [3, 4, 2, 1, 0] rfl)

set_option maxHeartbeats 400000 in
set_option maxRecDepth 100000 in
theorem w_Parts_addPartsLike_17 {p : Program} {e : Env} {s : State} {m : MethodId} {args : Array Value} {below : List Frame} {meth : Method} {c : Code} {RES : SC} {MC : Nat}  (hC : cx D classes (tyL cI cL cQ) NWL ALLW N0 p s m args meth c b_Parts_addPartsLike 6 (none) R_Parts) :
    ∀ (n : Nat) (σ : SC) (v1 : Int32) (v2 : Int32) (v3 : Int32) (v4 : Int32) (cells slots : Nat), upI n v3 v4 → cells + 6 * n ≤ MC → slots + 24 * n ≤ (4 * MC) → lp_Parts_addPartsLike_17 n σ  v1 v2 v3 v4 = RES → ∀ (π : PJ) (hπ : RJ π σ) (H : Heap) (locs : List Loc), bd D classes N0 (wsC G cI cL cQ σ π rest) s H locs → ∀ (ls : Array Slot), lv_has ls 6 [(0, .ref (G 0 5)), (1, .int v1), (2, .int v2), (3, .int v3), (4, .int v4)] → W p l e { frames := 5, cells := MC, slots := 4 * MC, locals := 110 } s m args below meth c H locs cells slots (MQ below (qx D classes N0 (none) (pwC G cI cL cQ RES rest)) args s MC (4 * MC) (ga N0)) (F0 m 17 ls []) := by
  have hx := hC.1
  have hb := hC.2.1
  intro n
  induction n with
  | zero =>
    intro σ v1 v2 v3 v4 cells slots hI
    exact absurd hI up_zero
  | succ n ih =>
    intro σ v1 v2 v3 v4 cells slots hI hc1 hc2 hR π hπ H locs hB ls hl
    rw [lp_Parts_addPartsLike_17] at hR
    refine lv_iload hx hb d_Parts_addPartsLike_17 (lv_at hl 4 rfl) ?_
    refine lv_iload_n hx hb d_Parts_addPartsLike_19 rfl (lv_at hl 3 rfl) ?_
    refine lv_icmp_ge (tgt := 100) hx hb d_Parts_addPartsLike_20 (by decide) (fun c_1 => ?_) (fun c_1 => ?_)
    · rw [if_pos c_1] at hR
      subst hR
      refine W.widen (k := MC) (n := (4 * MC)) (by (try dsimp only); omega) (by (try dsimp only); omega) ?_
      exact rv hC hB ⟨π, hπ, rfl⟩ d_Parts_addPartsLike_100
    · rw [if_neg c_1] at hR
      refine lv_aload_n hx hb d_Parts_addPartsLike_23 rfl (lv_at hl 0 rfl) ?_
      refine lv_iload_n hx hb d_Parts_addPartsLike_24 rfl (lv_at hl 1 rfl) ?_
      refine lv_iload hx hb d_Parts_addPartsLike_25 (lv_at hl 4 rfl) ?_
      refine kV hC hB _ lkC_Parts rfl (c_Parts_partAt σ π v1 v4) allw_ok mf_Parts_partAt kw_665 ks_15 kw_663 ⟨rfl, rfl, Nat.le_of_ble_eq_true rfl, Nat.le_of_ble_eq_true rfl⟩ rfl rfl hl.1 (Nat.le_of_ble_eq_true rfl) d_Parts_addPartsLike_27 (by constructor <;> (try dsimp only) <;> omega) (roK fun H locs hB => ?_)
      refine lv_istore (lv' := [(5, .int (m_Parts_partAt σ v1 v4)), (0, .ref (G 0 5)), (1, .int v1), (2, .int v2), (3, .int v3), (4, .int v4)]) hx hb d_Parts_addPartsLike_30 hl (by decide) rfl (fun ls hl => ?_)
      refine lv_aload_n hx hb d_Parts_addPartsLike_32 rfl (lv_at hl 1 rfl) ?_
      refine gt hC hB _ lkC_Parts rfl i_Parts 7 (by decide) rfl kw_144 rfl d_Parts_addPartsLike_33 ?_
      refine lv_iload hx hb d_Parts_addPartsLike_36 (lv_at hl 0 rfl) ?_
      refine kSN hC hB (c_ST_read 6 (by decide) σ π (m_Parts_partAt σ v1 v4)) allw_ok mf_ST_read kw_214 nw_5 ⟨rfl, rfl, Nat.le_of_ble_eq_true rfl, Nat.le_of_ble_eq_true rfl⟩ rfl rfl hl.1 (Nat.le_of_ble_eq_true rfl) d_Parts_addPartsLike_38 (by constructor <;> (try dsimp only) <;> omega) (roK fun H locs hB => ?_)
      refine lv_iconst (v := (-1)) hx hb d_Parts_addPartsLike_41 (by decide) ?_
      refine lv_icmp_ne (tgt := 70) hx hb d_Parts_addPartsLike_42 (by decide) (fun c_2 => ?_) (fun c_2 => ?_)
      · rw [if_neg c_2] at hR
        refine lv_aload_n hx hb d_Parts_addPartsLike_70 rfl (lv_at hl 1 rfl) ?_
        refine lv_iload_n hx hb d_Parts_addPartsLike_71 rfl (lv_at hl 3 rfl) ?_
        refine lv_aload_n hx hb d_Parts_addPartsLike_72 rfl (lv_at hl 1 rfl) ?_
        refine gt hC hB _ lkC_Parts rfl i_Parts 7 (by decide) rfl kw_144 rfl d_Parts_addPartsLike_73 ?_
        refine lv_iload hx hb d_Parts_addPartsLike_76 (lv_at hl 0 rfl) ?_
        refine kSN hC hB (c_ST_read 6 (by decide) σ π (m_Parts_partAt σ v1 v4)) allw_ok mf_ST_read kw_214 nw_5 ⟨rfl, rfl, Nat.le_of_ble_eq_true rfl, Nat.le_of_ble_eq_true rfl⟩ rfl rfl hl.1 (Nat.le_of_ble_eq_true rfl) d_Parts_addPartsLike_78 (by constructor <;> (try dsimp only) <;> omega) (roK fun H locs hB => ?_)
        refine lv_aload_n hx hb d_Parts_addPartsLike_81 rfl (lv_at hl 1 rfl) ?_
        refine lv_iload_n hx hb d_Parts_addPartsLike_82 rfl (lv_at hl 2 rfl) ?_
        refine lv_iload hx hb d_Parts_addPartsLike_83 (lv_at hl 5 rfl) ?_
        refine kV hC hB _ lkC_Parts rfl (c_Parts_gateAt σ π v1 v4) allw_ok mf_Parts_gateAt kw_669 ks_16 kw_667 ⟨rfl, rfl, Nat.le_of_ble_eq_true rfl, Nat.le_of_ble_eq_true rfl⟩ rfl rfl hl.1 (Nat.le_of_ble_eq_true rfl) d_Parts_addPartsLike_85 (by constructor <;> (try dsimp only) <;> omega) (roK fun H locs hB => ?_)
        refine lv_bipush (v := 8) hx hb d_Parts_addPartsLike_88 (by decide) ?_
        refine lv_irem hx hb d_Parts_addPartsLike_90 (by decide) ?_
        refine kV hC hB _ lkC_Parts rfl (c_Parts_layGate σ π hπ v2 (m_ST_read σ 6 (m_Parts_partAt σ v1 v4)) ((m_Parts_gateAt σ v1 v4) - (m_Parts_gateAt σ v1 v4) / 8 * 8)) allw_ok mf_Parts_layGate kw_642 kw_643 kw_693 ⟨rfl, rfl, Nat.le_of_ble_eq_true rfl, Nat.le_of_ble_eq_true rfl⟩ rfl rfl hl.1 (Nat.le_of_ble_eq_true rfl) d_Parts_addPartsLike_91 (by constructor <;> (try dsimp only) <;> omega) (fun H locs w hw hB => ?_)
        obtain ⟨π, hπ, rfl⟩ := hw
        refine lv_iinc (v := (v4 + 1)) (lv' := [(4, .int (v4 + 1)), (5, .int (m_Parts_partAt σ v1 v4)), (0, .ref (G 0 5)), (1, .int v1), (2, .int v2), (3, .int v3)]) hx hb d_Parts_addPartsLike_94 hl (k := 5) rfl rfl (by decide) rfl (fun ls hl => ?_)
        refine lv_goto (tgt := 17) hx hb d_Parts_addPartsLike_97 (by decide) ?_
        exact ih (m_Parts_layGate σ v2 (m_ST_read σ 6 (m_Parts_partAt σ v1 v4)) ((m_Parts_gateAt σ v1 v4) - (m_Parts_gateAt σ v1 v4) / 8 * 8)) v1 v2 v3 (v4 + 1) _ _ (up_step hI (by assumption)) (by omega) (by omega) hR π hπ _ _ hB ls (lv_sub hl [2, 3, 4, 5, 0] rfl)
      · rw [if_pos c_2] at hR
        refine lv_aload_n hx hb d_Parts_addPartsLike_45 rfl (lv_at hl 1 rfl) ?_
        refine gt hC hB _ lkC_Parts rfl i_Parts 7 (by decide) rfl kw_144 rfl d_Parts_addPartsLike_46 ?_
        refine lv_iload hx hb d_Parts_addPartsLike_49 (lv_at hl 0 rfl) ?_
        refine lv_aload_n hx hb d_Parts_addPartsLike_51 rfl (lv_at hl 1 rfl) ?_
        refine lv_aload_n hx hb d_Parts_addPartsLike_52 rfl (lv_at hl 1 rfl) ?_
        refine lv_iload hx hb d_Parts_addPartsLike_53 (lv_at hl 0 rfl) ?_
        refine kV hC hB _ lkC_Parts rfl (c_Parts_letterOf σ π (m_Parts_partAt σ v1 v4)) allw_ok mf_Parts_letterOf kw_688 kw_689 kw_687 ⟨rfl, rfl, Nat.le_of_ble_eq_true rfl, Nat.le_of_ble_eq_true rfl⟩ rfl rfl hl.1 (Nat.le_of_ble_eq_true rfl) d_Parts_addPartsLike_55 (by constructor <;> (try dsimp only) <;> omega) (roK fun H locs hB => ?_)
        refine lv_aload_n hx hb d_Parts_addPartsLike_58 rfl (lv_at hl 1 rfl) ?_
        refine lv_iload hx hb d_Parts_addPartsLike_59 (lv_at hl 0 rfl) ?_
        refine kV hC hB _ lkC_Parts rfl (c_Parts_gateCount σ π (m_Parts_partAt σ v1 v4)) allw_ok mf_Parts_gateCount kw_629 kw_630 kw_691 ⟨rfl, rfl, Nat.le_of_ble_eq_true rfl, Nat.le_of_ble_eq_true rfl⟩ rfl rfl hl.1 (Nat.le_of_ble_eq_true rfl) d_Parts_addPartsLike_61 (by constructor <;> (try dsimp only) <;> omega) (roK fun H locs hB => ?_)
        refine kV hC hB _ lkC_Parts rfl (c_Parts_addPart σ π hπ (m_Parts_letterOf σ (m_Parts_partAt σ v1 v4)) (m_Parts_gateCount σ (m_Parts_partAt σ v1 v4))) allw_ok mf_Parts_addPart kw_604 kw_605 kw_692 ⟨rfl, rfl, Nat.le_of_ble_eq_true rfl, Nat.le_of_ble_eq_true rfl⟩ rfl rfl hl.1 (Nat.le_of_ble_eq_true rfl) d_Parts_addPartsLike_64 (by constructor <;> (try dsimp only) <;> omega) (fun H locs w hw hB => ?_)
        obtain ⟨π, hπ, rfl⟩ := hw
        refine kSN hC hB (c_ST_write 6 (by decide) ((m_Parts_addPart σ (m_Parts_letterOf σ (m_Parts_partAt σ v1 v4)) (m_Parts_gateCount σ (m_Parts_partAt σ v1 v4))).2) π (m_Parts_partAt σ v1 v4) ((m_Parts_addPart σ (m_Parts_letterOf σ (m_Parts_partAt σ v1 v4)) (m_Parts_gateCount σ (m_Parts_partAt σ v1 v4))).1)) allw_ok mf_ST_write kw_207 nw_6 ⟨rfl, rfl, Nat.le_of_ble_eq_true rfl, Nat.le_of_ble_eq_true rfl⟩ rfl rfl hl.1 (Nat.le_of_ble_eq_true rfl) d_Parts_addPartsLike_67 (by constructor <;> (try dsimp only) <;> omega) (roK fun H locs hB => ?_)
        have hπ := rj_ST_write hπ 6 (m_Parts_partAt σ v1 v4) ((m_Parts_addPart σ (m_Parts_letterOf σ (m_Parts_partAt σ v1 v4)) (m_Parts_gateCount σ (m_Parts_partAt σ v1 v4))).1)
        refine lv_aload_n hx hb d_Parts_addPartsLike_70 rfl (lv_at hl 1 rfl) ?_
        refine lv_iload_n hx hb d_Parts_addPartsLike_71 rfl (lv_at hl 3 rfl) ?_
        refine lv_aload_n hx hb d_Parts_addPartsLike_72 rfl (lv_at hl 1 rfl) ?_
        refine gt hC hB _ lkC_Parts rfl i_Parts 7 (by decide) rfl kw_144 rfl d_Parts_addPartsLike_73 ?_
        refine lv_iload hx hb d_Parts_addPartsLike_76 (lv_at hl 0 rfl) ?_
        refine kSN hC hB (c_ST_read 6 (by decide) (m_ST_write ((m_Parts_addPart σ (m_Parts_letterOf σ (m_Parts_partAt σ v1 v4)) (m_Parts_gateCount σ (m_Parts_partAt σ v1 v4))).2) 6 (m_Parts_partAt σ v1 v4) ((m_Parts_addPart σ (m_Parts_letterOf σ (m_Parts_partAt σ v1 v4)) (m_Parts_gateCount σ (m_Parts_partAt σ v1 v4))).1)) π (m_Parts_partAt σ v1 v4)) allw_ok mf_ST_read kw_214 nw_5 ⟨rfl, rfl, Nat.le_of_ble_eq_true rfl, Nat.le_of_ble_eq_true rfl⟩ rfl rfl hl.1 (Nat.le_of_ble_eq_true rfl) d_Parts_addPartsLike_78 (by constructor <;> (try dsimp only) <;> omega) (roK fun H locs hB => ?_)
        refine lv_aload_n hx hb d_Parts_addPartsLike_81 rfl (lv_at hl 1 rfl) ?_
        refine lv_iload_n hx hb d_Parts_addPartsLike_82 rfl (lv_at hl 2 rfl) ?_
        refine lv_iload hx hb d_Parts_addPartsLike_83 (lv_at hl 5 rfl) ?_
        refine kV hC hB _ lkC_Parts rfl (c_Parts_gateAt (m_ST_write ((m_Parts_addPart σ (m_Parts_letterOf σ (m_Parts_partAt σ v1 v4)) (m_Parts_gateCount σ (m_Parts_partAt σ v1 v4))).2) 6 (m_Parts_partAt σ v1 v4) ((m_Parts_addPart σ (m_Parts_letterOf σ (m_Parts_partAt σ v1 v4)) (m_Parts_gateCount σ (m_Parts_partAt σ v1 v4))).1)) π v1 v4) allw_ok mf_Parts_gateAt kw_669 ks_16 kw_667 ⟨rfl, rfl, Nat.le_of_ble_eq_true rfl, Nat.le_of_ble_eq_true rfl⟩ rfl rfl hl.1 (Nat.le_of_ble_eq_true rfl) d_Parts_addPartsLike_85 (by constructor <;> (try dsimp only) <;> omega) (roK fun H locs hB => ?_)
        refine lv_bipush (v := 8) hx hb d_Parts_addPartsLike_88 (by decide) ?_
        refine lv_irem hx hb d_Parts_addPartsLike_90 (by decide) ?_
        refine kV hC hB _ lkC_Parts rfl (c_Parts_layGate (m_ST_write ((m_Parts_addPart σ (m_Parts_letterOf σ (m_Parts_partAt σ v1 v4)) (m_Parts_gateCount σ (m_Parts_partAt σ v1 v4))).2) 6 (m_Parts_partAt σ v1 v4) ((m_Parts_addPart σ (m_Parts_letterOf σ (m_Parts_partAt σ v1 v4)) (m_Parts_gateCount σ (m_Parts_partAt σ v1 v4))).1)) π hπ v2 (m_ST_read (m_ST_write ((m_Parts_addPart σ (m_Parts_letterOf σ (m_Parts_partAt σ v1 v4)) (m_Parts_gateCount σ (m_Parts_partAt σ v1 v4))).2) 6 (m_Parts_partAt σ v1 v4) ((m_Parts_addPart σ (m_Parts_letterOf σ (m_Parts_partAt σ v1 v4)) (m_Parts_gateCount σ (m_Parts_partAt σ v1 v4))).1)) 6 (m_Parts_partAt σ v1 v4)) ((m_Parts_gateAt (m_ST_write ((m_Parts_addPart σ (m_Parts_letterOf σ (m_Parts_partAt σ v1 v4)) (m_Parts_gateCount σ (m_Parts_partAt σ v1 v4))).2) 6 (m_Parts_partAt σ v1 v4) ((m_Parts_addPart σ (m_Parts_letterOf σ (m_Parts_partAt σ v1 v4)) (m_Parts_gateCount σ (m_Parts_partAt σ v1 v4))).1)) v1 v4) - (m_Parts_gateAt (m_ST_write ((m_Parts_addPart σ (m_Parts_letterOf σ (m_Parts_partAt σ v1 v4)) (m_Parts_gateCount σ (m_Parts_partAt σ v1 v4))).2) 6 (m_Parts_partAt σ v1 v4) ((m_Parts_addPart σ (m_Parts_letterOf σ (m_Parts_partAt σ v1 v4)) (m_Parts_gateCount σ (m_Parts_partAt σ v1 v4))).1)) v1 v4) / 8 * 8)) allw_ok mf_Parts_layGate kw_642 kw_643 kw_693 ⟨rfl, rfl, Nat.le_of_ble_eq_true rfl, Nat.le_of_ble_eq_true rfl⟩ rfl rfl hl.1 (Nat.le_of_ble_eq_true rfl) d_Parts_addPartsLike_91 (by constructor <;> (try dsimp only) <;> omega) (fun H locs w hw hB => ?_)
        obtain ⟨π, hπ, rfl⟩ := hw
        refine lv_iinc (v := (v4 + 1)) (lv' := [(4, .int (v4 + 1)), (5, .int (m_Parts_partAt σ v1 v4)), (0, .ref (G 0 5)), (1, .int v1), (2, .int v2), (3, .int v3)]) hx hb d_Parts_addPartsLike_94 hl (k := 5) rfl rfl (by decide) rfl (fun ls hl => ?_)
        refine lv_goto (tgt := 17) hx hb d_Parts_addPartsLike_97 (by decide) ?_
        exact ih (m_Parts_layGate (m_ST_write ((m_Parts_addPart σ (m_Parts_letterOf σ (m_Parts_partAt σ v1 v4)) (m_Parts_gateCount σ (m_Parts_partAt σ v1 v4))).2) 6 (m_Parts_partAt σ v1 v4) ((m_Parts_addPart σ (m_Parts_letterOf σ (m_Parts_partAt σ v1 v4)) (m_Parts_gateCount σ (m_Parts_partAt σ v1 v4))).1)) v2 (m_ST_read (m_ST_write ((m_Parts_addPart σ (m_Parts_letterOf σ (m_Parts_partAt σ v1 v4)) (m_Parts_gateCount σ (m_Parts_partAt σ v1 v4))).2) 6 (m_Parts_partAt σ v1 v4) ((m_Parts_addPart σ (m_Parts_letterOf σ (m_Parts_partAt σ v1 v4)) (m_Parts_gateCount σ (m_Parts_partAt σ v1 v4))).1)) 6 (m_Parts_partAt σ v1 v4)) ((m_Parts_gateAt (m_ST_write ((m_Parts_addPart σ (m_Parts_letterOf σ (m_Parts_partAt σ v1 v4)) (m_Parts_gateCount σ (m_Parts_partAt σ v1 v4))).2) 6 (m_Parts_partAt σ v1 v4) ((m_Parts_addPart σ (m_Parts_letterOf σ (m_Parts_partAt σ v1 v4)) (m_Parts_gateCount σ (m_Parts_partAt σ v1 v4))).1)) v1 v4) - (m_Parts_gateAt (m_ST_write ((m_Parts_addPart σ (m_Parts_letterOf σ (m_Parts_partAt σ v1 v4)) (m_Parts_gateCount σ (m_Parts_partAt σ v1 v4))).2) 6 (m_Parts_partAt σ v1 v4) ((m_Parts_addPart σ (m_Parts_letterOf σ (m_Parts_partAt σ v1 v4)) (m_Parts_gateCount σ (m_Parts_partAt σ v1 v4))).1)) v1 v4) / 8 * 8)) v1 v2 v3 (v4 + 1) _ _ (up_step hI (by assumption)) (by omega) (by omega) hR π hπ _ _ hB ls (lv_sub hl [2, 3, 4, 5, 0] rfl)

set_option maxHeartbeats 400000 in
set_option maxRecDepth 100000 in
theorem c_Parts_addPartsLike  (σ : SC) (π : PJ) (hπ : RJ π σ) (x0 : Int32) (x1 : Int32) : CM l y_Parts_addPartsLike b_Parts_addPartsLike 6 (none) { frames := 5, cells := (6 * ((m_Parts_gatesOn (m_Arrays_fillI σ 6 (-1)) x0).toNatClampNeg + 1)), slots := (4 * (6 * ((m_Parts_gatesOn (m_Arrays_fillI σ 6 (-1)) x0).toNatClampNeg + 1))), locals := 110 } D (tyL cI cL cQ) N0 [.ref (G 0 5), .int x0, .int x1] (wsC G cI cL cQ σ π rest) (none) (pwC G cI cL cQ (m_Parts_addPartsLike σ x0 x1) rest) (6 * ((m_Parts_gatesOn (m_Arrays_fillI σ 6 (-1)) x0).toNatClampNeg + 1)) (4 * (6 * ((m_Parts_gatesOn (m_Arrays_fillI σ 6 (-1)) x0).toNatClampNeg + 1))) := by
  generalize hR : m_Parts_addPartsLike σ x0 x1 = RES
  refine met_of (own := R_Parts) (by decide) rfl nwl_ok ?_
  intro p e s m below meth c hC hin hB
  have hx := hC.1
  have hb := hC.2.1
  have hl := lv_entry ([.ref (G 0 5), .int x0, .int x1]) (n := 6) (Nat.le_of_ble_eq_true rfl)
  rw [lg_entry_eq]
  generalize (lg_sl ([.ref (G 0 5), .int x0, .int x1]) ++ List.replicate (6 - (lg_sl ([.ref (G 0 5), .int x0, .int x1])).length) Slot.unset).toArray = ls at hl ⊢
  have hl : lv_has ls 6 [(0, .ref (G 0 5)), (1, .int x0), (2, .int x1)] := hl
  rw [m_Parts_addPartsLike] at hR
  refine lv_aload_n hx hb d_Parts_addPartsLike_0 rfl (lv_at hl 0 rfl) ?_
  refine gt hC hB _ lkC_Parts rfl i_Parts 7 (by decide) rfl kw_144 rfl d_Parts_addPartsLike_1 ?_
  refine lv_iconst (v := (-1)) hx hb d_Parts_addPartsLike_4 (by decide) ?_
  refine kS hC hB (c_Arrays_fillI 6 (by decide) σ π (-1)) allw_ok mf_Arrays_fillI kw_200 kw_662 ⟨rfl, rfl, Nat.le_of_ble_eq_true rfl, Nat.le_of_ble_eq_true rfl⟩ rfl rfl hl.1 (Nat.le_of_ble_eq_true rfl) d_Parts_addPartsLike_5 (by constructor <;> (try dsimp only) <;> omega) (roK fun H locs hB => ?_)
  have hπ := rj_Arrays_fillI hπ 6 (-1)
  refine lv_aload_n hx hb d_Parts_addPartsLike_8 rfl (lv_at hl 0 rfl) ?_
  refine lv_iload_n hx hb d_Parts_addPartsLike_9 rfl (lv_at hl 1 rfl) ?_
  refine kV hC hB _ lkC_Parts rfl (c_Parts_gatesOn (m_Arrays_fillI σ 6 (-1)) π x0) allw_ok mf_Parts_gatesOn kw_638 kw_639 kw_645 ⟨rfl, rfl, Nat.le_of_ble_eq_true rfl, Nat.le_of_ble_eq_true rfl⟩ rfl rfl hl.1 (Nat.le_of_ble_eq_true rfl) d_Parts_addPartsLike_10 (by constructor <;> (try dsimp only) <;> omega) (roK fun H locs hB => ?_)
  refine lv_istore_n (lv' := [(3, .int (m_Parts_gatesOn (m_Arrays_fillI σ 6 (-1)) x0)), (0, .ref (G 0 5)), (1, .int x0), (2, .int x1)]) hx hb d_Parts_addPartsLike_13 rfl hl (by decide) rfl (fun ls hl => ?_)
  refine lv_iconst (v := 0) hx hb d_Parts_addPartsLike_14 (by decide) ?_
  refine lv_istore (lv' := [(4, .int 0), (3, .int (m_Parts_gatesOn (m_Arrays_fillI σ 6 (-1)) x0)), (0, .ref (G 0 5)), (1, .int x0), (2, .int x1)]) hx hb d_Parts_addPartsLike_15 hl (by decide) rfl (fun ls hl => ?_)
  exact w_Parts_addPartsLike_17  hC ((m_Parts_gatesOn (m_Arrays_fillI σ 6 (-1)) x0).toNatClampNeg + 1) (m_Arrays_fillI σ 6 (-1)) x0 x1 (m_Parts_gatesOn (m_Arrays_fillI σ 6 (-1)) x0) 0 _ _ (up_init _) (by omega) (by omega) hR π hπ _ _ hB ls (lv_sub hl [2, 3, 4, 1, 0] rfl)

set_option maxHeartbeats 400000 in
set_option maxRecDepth 100000 in
theorem w_Variants_addTelling_63 {p : Program} {e : Env} {s : State} {m : MethodId} {args : Array Value} {below : List Frame} {meth : Method} {c : Code} {RES : Int32 × SC} {MC : Nat}  (hC : cx D classes (tyL cI cL cQ) NWL ALLW N0 p s m args meth c b_Variants_addTelling 6 (some .int) R_Variants) :
    ∀ (n : Nat) (σ : SC) (v1 : Int32) (v2 : Int32) (v3 : Int32) (v4 : Int32) (v5 : Int32) (cells slots : Nat), dnI n v5 → cells + 1 * n ≤ MC → slots + 4 * n ≤ (4 * MC) → lp_Variants_addTelling_63 n σ  v1 v2 v3 v4 v5 = RES → ∀ (π : PJ) (hπ : RJ π σ) (H : Heap) (locs : List Loc), bd D classes N0 (wsC G cI cL cQ σ π rest) s H locs → ∀ (ls : Array Slot), lv_has ls 6 [(0, .ref (G 0 6)), (1, .int v1), (2, .int v2), (3, .int v3), (4, .int v4), (5, .int v5)] → W p l e { frames := 4, cells := MC, slots := 4 * MC, locals := 86 } s m args below meth c H locs cells slots (MQ below (qx D classes N0 (some (.int RES.1)) (pwC G cI cL cQ RES.2 rest)) args s MC (4 * MC) (ga N0)) (F0 m 63 ls []) := by
  obtain ⟨RV, RS⟩ := RES
  dsimp only
  have hx := hC.1
  have hb := hC.2.1
  intro n
  induction n with
  | zero =>
    intro σ v1 v2 v3 v4 v5 cells slots hI
    exact absurd hI dn_zero
  | succ n ih =>
    intro σ v1 v2 v3 v4 v5 cells slots hI hc1 hc2 hR π hπ H locs hB ls hl
    rw [lp_Variants_addTelling_63] at hR
    refine lv_iload hx hb d_Variants_addTelling_63 (lv_at hl 5 rfl) ?_
    refine lv_if_lt (tgt := 109) hx hb d_Variants_addTelling_65 (by decide) (fun c_1 => ?_) (fun c_1 => ?_)
    · rw [if_pos c_1] at hR
      refine lv_iload_n hx hb d_Variants_addTelling_109 rfl (lv_at hl 3 rfl) ?_
      obtain ⟨rfl, rfl⟩ := Prod.mk.inj hR
      refine W.widen (k := MC) (n := (4 * MC)) (by (try dsimp only); omega) (by (try dsimp only); omega) ?_
      exact ri hC hB ⟨π, hπ, rfl⟩ d_Variants_addTelling_110
    · rw [if_neg c_1] at hR
      refine lv_aload_n hx hb d_Variants_addTelling_68 rfl (lv_at hl 0 rfl) ?_
      refine gt hC hB _ lkC_Variants rfl i_Variants 6 (by decide) rfl kw_177 rfl d_Variants_addTelling_69 ?_
      refine lv_iload_n hx hb d_Variants_addTelling_72 rfl (lv_at hl 3 rfl) ?_
      refine lv_bipush (v := 23) hx hb d_Variants_addTelling_73 (by decide) ?_
      refine lv_imul hx hb d_Variants_addTelling_75 ?_
      refine lv_iload hx hb d_Variants_addTelling_76 (lv_at hl 5 rfl) ?_
      refine lv_iadd hx hb d_Variants_addTelling_78 ?_
      refine lv_aload_n hx hb d_Variants_addTelling_79 rfl (lv_at hl 0 rfl) ?_
      refine gt hC hB _ lkC_Variants rfl i_Variants 0 (by decide) rfl kw_171 rfl d_Variants_addTelling_80 ?_
      refine lv_iload hx hb d_Variants_addTelling_83 (lv_at hl 4 rfl) ?_
      refine kV hC hB _ lkC_Book rfl (c_Book_placementAt σ π v4) allw_ok mf_Book_placementAt kw_234 kw_235 kw_767 ⟨rfl, rfl, Nat.le_of_ble_eq_true rfl, Nat.le_of_ble_eq_true rfl⟩ rfl rfl hl.1 (Nat.le_of_ble_eq_true rfl) d_Variants_addTelling_85 (by constructor <;> (try dsimp only) <;> omega) (roK fun H locs hB => ?_)
      refine lv_i2l hx hb d_Variants_addTelling_88 rfl ?_
      refine kV hC hB _ (lkC_row (by decide)) rfl (c_Row_set 17 (by decide) σ π hπ ((v3 * 23) + v5) ((m_Book_placementAt σ v4).toInt64)) allw_ok mf_Row_set kw_289 kw_290 kw_734 ⟨rfl, rfl, Nat.le_of_ble_eq_true rfl, Nat.le_of_ble_eq_true rfl⟩ rfl rfl hl.1 (Nat.le_of_ble_eq_true rfl) d_Variants_addTelling_89 (by constructor <;> (try dsimp only) <;> omega) (fun H locs w hw hB => ?_)
      obtain ⟨π, hπ, rfl⟩ := hw
      refine lv_aload_n hx hb d_Variants_addTelling_92 rfl (lv_at hl 0 rfl) ?_
      refine gt hC hB _ lkC_Variants rfl i_Variants 0 (by decide) rfl kw_171 rfl d_Variants_addTelling_93 ?_
      refine lv_iload hx hb d_Variants_addTelling_96 (lv_at hl 4 rfl) ?_
      refine kV hC hB _ lkC_Book rfl (c_Book_pageAbove (m_Row_set σ 17 ((v3 * 23) + v5) ((m_Book_placementAt σ v4).toInt64)) π v4) allw_ok mf_Book_pageAbove kw_242 kw_243 kw_768 ⟨rfl, rfl, Nat.le_of_ble_eq_true rfl, Nat.le_of_ble_eq_true rfl⟩ rfl rfl hl.1 (Nat.le_of_ble_eq_true rfl) d_Variants_addTelling_98 (by constructor <;> (try dsimp only) <;> omega) (roK fun H locs hB => ?_)
      refine lv_istore (lv' := [(4, .int (m_Book_pageAbove (m_Row_set σ 17 ((v3 * 23) + v5) ((m_Book_placementAt σ v4).toInt64)) v4)), (0, .ref (G 0 6)), (1, .int v1), (2, .int v2), (3, .int v3), (5, .int v5)]) hx hb d_Variants_addTelling_101 hl (by decide) rfl (fun ls hl => ?_)
      refine lv_iinc (v := (v5 + (-1))) (lv' := [(5, .int (v5 + (-1))), (4, .int (m_Book_pageAbove (m_Row_set σ 17 ((v3 * 23) + v5) ((m_Book_placementAt σ v4).toInt64)) v4)), (0, .ref (G 0 6)), (1, .int v1), (2, .int v2), (3, .int v3)]) hx hb d_Variants_addTelling_103 hl (k := 5) rfl rfl (by decide) rfl (fun ls hl => ?_)
      refine lv_goto (tgt := 63) hx hb d_Variants_addTelling_106 (by decide) ?_
      exact ih (m_Row_set σ 17 ((v3 * 23) + v5) ((m_Book_placementAt σ v4).toInt64)) v1 v2 v3 (m_Book_pageAbove (m_Row_set σ 17 ((v3 * 23) + v5) ((m_Book_placementAt σ v4).toInt64)) v4) (v5 + (-1)) _ _ (dn_step hI (by assumption)) (by omega) (by omega) hR π hπ _ _ hB ls (lv_sub hl [2, 3, 4, 5, 1, 0] rfl)

set_option maxHeartbeats 400000 in
set_option maxRecDepth 100000 in
theorem c_Variants_addTelling  (σ : SC) (π : PJ) (hπ : RJ π σ) (x0 : Int32) (x1 : Int32) : CM l y_Variants_addTelling b_Variants_addTelling 6 (some .int) { frames := 4, cells := (3 + ((m_Book_depthAt (m_Row_set (m_Row_set (m_Row_set σ 12 1 ((m_Row_at σ 12 1 + 1).toInt64)) 14 (m_Row_at σ 12 1) x0.toInt64) 16 (m_Row_at σ 12 1) (m_Book_depthAt (m_Row_set (m_Row_set σ 12 1 ((m_Row_at σ 12 1 + 1).toInt64)) 14 (m_Row_at σ 12 1) x0.toInt64) x1).toInt64) x1 - 1).toNatClampNeg + 2)), slots := (4 * (3 + ((m_Book_depthAt (m_Row_set (m_Row_set (m_Row_set σ 12 1 ((m_Row_at σ 12 1 + 1).toInt64)) 14 (m_Row_at σ 12 1) x0.toInt64) 16 (m_Row_at σ 12 1) (m_Book_depthAt (m_Row_set (m_Row_set σ 12 1 ((m_Row_at σ 12 1 + 1).toInt64)) 14 (m_Row_at σ 12 1) x0.toInt64) x1).toInt64) x1 - 1).toNatClampNeg + 2))), locals := 86 } D (tyL cI cL cQ) N0 [.ref (G 0 6), .int x0, .int x1] (wsC G cI cL cQ σ π rest) (some (.int ((m_Variants_addTelling σ x0 x1).1))) (pwC G cI cL cQ ((m_Variants_addTelling σ x0 x1).2) rest) (3 + ((m_Book_depthAt (m_Row_set (m_Row_set (m_Row_set σ 12 1 ((m_Row_at σ 12 1 + 1).toInt64)) 14 (m_Row_at σ 12 1) x0.toInt64) 16 (m_Row_at σ 12 1) (m_Book_depthAt (m_Row_set (m_Row_set σ 12 1 ((m_Row_at σ 12 1 + 1).toInt64)) 14 (m_Row_at σ 12 1) x0.toInt64) x1).toInt64) x1 - 1).toNatClampNeg + 2)) (4 * (3 + ((m_Book_depthAt (m_Row_set (m_Row_set (m_Row_set σ 12 1 ((m_Row_at σ 12 1 + 1).toInt64)) 14 (m_Row_at σ 12 1) x0.toInt64) 16 (m_Row_at σ 12 1) (m_Book_depthAt (m_Row_set (m_Row_set σ 12 1 ((m_Row_at σ 12 1 + 1).toInt64)) 14 (m_Row_at σ 12 1) x0.toInt64) x1).toInt64) x1 - 1).toNatClampNeg + 2))) := by
  generalize hR : m_Variants_addTelling σ x0 x1 = RES
  obtain ⟨RV, RS⟩ := RES
  dsimp only
  refine met_of (own := R_Variants) (by decide) rfl nwl_ok ?_
  intro p e s m below meth c hC hin hB
  have hx := hC.1
  have hb := hC.2.1
  have hl := lv_entry ([.ref (G 0 6), .int x0, .int x1]) (n := 6) (Nat.le_of_ble_eq_true rfl)
  rw [lg_entry_eq]
  generalize (lg_sl ([.ref (G 0 6), .int x0, .int x1]) ++ List.replicate (6 - (lg_sl ([.ref (G 0 6), .int x0, .int x1])).length) Slot.unset).toArray = ls at hl ⊢
  have hl : lv_has ls 6 [(0, .ref (G 0 6)), (1, .int x0), (2, .int x1)] := hl
  rw [m_Variants_addTelling] at hR
  refine lv_aload_n hx hb d_Variants_addTelling_0 rfl (lv_at hl 0 rfl) ?_
  refine gt hC hB _ lkC_Variants rfl i_Variants 1 (by decide) rfl kw_172 rfl d_Variants_addTelling_1 ?_
  refine lv_iconst (v := 1) hx hb d_Variants_addTelling_4 (by decide) ?_
  refine kV hC hB _ (lkC_row (by decide)) rfl (c_Row_at 12 (by decide) σ π 1) allw_ok mf_Row_at kw_230 kw_231 kw_727 ⟨rfl, rfl, Nat.le_of_ble_eq_true rfl, Nat.le_of_ble_eq_true rfl⟩ rfl rfl hl.1 (Nat.le_of_ble_eq_true rfl) d_Variants_addTelling_5 (by constructor <;> (try dsimp only) <;> omega) (roK fun H locs hB => ?_)
  refine lv_istore_n (lv' := [(3, .int (m_Row_at σ 12 1)), (0, .ref (G 0 6)), (1, .int x0), (2, .int x1)]) hx hb d_Variants_addTelling_8 rfl hl (by decide) rfl (fun ls hl => ?_)
  refine lv_aload_n hx hb d_Variants_addTelling_9 rfl (lv_at hl 1 rfl) ?_
  refine gt hC hB _ lkC_Variants rfl i_Variants 1 (by decide) rfl kw_172 rfl d_Variants_addTelling_10 ?_
  refine lv_iconst (v := 1) hx hb d_Variants_addTelling_13 (by decide) ?_
  refine lv_iload_n hx hb d_Variants_addTelling_14 rfl (lv_at hl 0 rfl) ?_
  refine lv_iconst (v := 1) hx hb d_Variants_addTelling_15 (by decide) ?_
  refine lv_iadd hx hb d_Variants_addTelling_16 ?_
  refine lv_i2l hx hb d_Variants_addTelling_17 rfl ?_
  refine kV hC hB _ (lkC_row (by decide)) rfl (c_Row_set 12 (by decide) σ π hπ 1 (((m_Row_at σ 12 1) + 1).toInt64)) allw_ok mf_Row_set kw_289 kw_290 kw_734 ⟨rfl, rfl, Nat.le_of_ble_eq_true rfl, Nat.le_of_ble_eq_true rfl⟩ rfl rfl hl.1 (Nat.le_of_ble_eq_true rfl) d_Variants_addTelling_18 (by constructor <;> (try dsimp only) <;> omega) (fun H locs w hw hB => ?_)
  obtain ⟨π, hπ, rfl⟩ := hw
  refine lv_aload_n hx hb d_Variants_addTelling_21 rfl (lv_at hl 1 rfl) ?_
  refine gt hC hB _ lkC_Variants rfl i_Variants 3 (by decide) rfl kw_174 rfl d_Variants_addTelling_22 ?_
  refine lv_iload_n hx hb d_Variants_addTelling_25 rfl (lv_at hl 0 rfl) ?_
  refine lv_iload_n hx hb d_Variants_addTelling_26 rfl (lv_at hl 2 rfl) ?_
  refine lv_i2l hx hb d_Variants_addTelling_27 rfl ?_
  refine kV hC hB _ (lkC_row (by decide)) rfl (c_Row_set 14 (by decide) (m_Row_set σ 12 1 (((m_Row_at σ 12 1) + 1).toInt64)) π hπ (m_Row_at σ 12 1) x0.toInt64) allw_ok mf_Row_set kw_289 kw_290 kw_734 ⟨rfl, rfl, Nat.le_of_ble_eq_true rfl, Nat.le_of_ble_eq_true rfl⟩ rfl rfl hl.1 (Nat.le_of_ble_eq_true rfl) d_Variants_addTelling_28 (by constructor <;> (try dsimp only) <;> omega) (fun H locs w hw hB => ?_)
  obtain ⟨π, hπ, rfl⟩ := hw
  refine lv_aload_n hx hb d_Variants_addTelling_31 rfl (lv_at hl 1 rfl) ?_
  refine gt hC hB _ lkC_Variants rfl i_Variants 5 (by decide) rfl kw_176 rfl d_Variants_addTelling_32 ?_
  refine lv_iload_n hx hb d_Variants_addTelling_35 rfl (lv_at hl 0 rfl) ?_
  refine lv_aload_n hx hb d_Variants_addTelling_36 rfl (lv_at hl 1 rfl) ?_
  refine gt hC hB _ lkC_Variants rfl i_Variants 0 (by decide) rfl kw_171 rfl d_Variants_addTelling_37 ?_
  refine lv_iload_n hx hb d_Variants_addTelling_40 rfl (lv_at hl 3 rfl) ?_
  refine kV hC hB _ lkC_Book rfl (c_Book_depthAt (m_Row_set (m_Row_set σ 12 1 (((m_Row_at σ 12 1) + 1).toInt64)) 14 (m_Row_at σ 12 1) x0.toInt64) π x1) allw_ok mf_Book_depthAt kw_250 kw_251 kw_766 ⟨rfl, rfl, Nat.le_of_ble_eq_true rfl, Nat.le_of_ble_eq_true rfl⟩ rfl rfl hl.1 (Nat.le_of_ble_eq_true rfl) d_Variants_addTelling_41 (by constructor <;> (try dsimp only) <;> omega) (roK fun H locs hB => ?_)
  refine lv_i2l hx hb d_Variants_addTelling_44 rfl ?_
  refine kV hC hB _ (lkC_row (by decide)) rfl (c_Row_set 16 (by decide) (m_Row_set (m_Row_set σ 12 1 (((m_Row_at σ 12 1) + 1).toInt64)) 14 (m_Row_at σ 12 1) x0.toInt64) π hπ (m_Row_at σ 12 1) ((m_Book_depthAt (m_Row_set (m_Row_set σ 12 1 (((m_Row_at σ 12 1) + 1).toInt64)) 14 (m_Row_at σ 12 1) x0.toInt64) x1).toInt64)) allw_ok mf_Row_set kw_289 kw_290 kw_734 ⟨rfl, rfl, Nat.le_of_ble_eq_true rfl, Nat.le_of_ble_eq_true rfl⟩ rfl rfl hl.1 (Nat.le_of_ble_eq_true rfl) d_Variants_addTelling_45 (by constructor <;> (try dsimp only) <;> omega) (fun H locs w hw hB => ?_)
  obtain ⟨π, hπ, rfl⟩ := hw
  refine lv_iload_n hx hb d_Variants_addTelling_48 rfl (lv_at hl 3 rfl) ?_
  refine lv_istore (lv' := [(4, .int x1), (3, .int (m_Row_at σ 12 1)), (0, .ref (G 0 6)), (1, .int x0), (2, .int x1)]) hx hb d_Variants_addTelling_49 hl (by decide) rfl (fun ls hl => ?_)
  refine lv_aload_n hx hb d_Variants_addTelling_51 rfl (lv_at hl 2 rfl) ?_
  refine gt hC hB _ lkC_Variants rfl i_Variants 0 (by decide) rfl kw_171 rfl d_Variants_addTelling_52 ?_
  refine lv_iload_n hx hb d_Variants_addTelling_55 rfl (lv_at hl 4 rfl) ?_
  refine kV hC hB _ lkC_Book rfl (c_Book_depthAt (m_Row_set (m_Row_set (m_Row_set σ 12 1 (((m_Row_at σ 12 1) + 1).toInt64)) 14 (m_Row_at σ 12 1) x0.toInt64) 16 (m_Row_at σ 12 1) ((m_Book_depthAt (m_Row_set (m_Row_set σ 12 1 (((m_Row_at σ 12 1) + 1).toInt64)) 14 (m_Row_at σ 12 1) x0.toInt64) x1).toInt64)) π x1) allw_ok mf_Book_depthAt kw_250 kw_251 kw_766 ⟨rfl, rfl, Nat.le_of_ble_eq_true rfl, Nat.le_of_ble_eq_true rfl⟩ rfl rfl hl.1 (Nat.le_of_ble_eq_true rfl) d_Variants_addTelling_56 (by constructor <;> (try dsimp only) <;> omega) (roK fun H locs hB => ?_)
  refine lv_iconst (v := 1) hx hb d_Variants_addTelling_59 (by decide) ?_
  refine lv_isub hx hb d_Variants_addTelling_60 ?_
  refine lv_istore (lv' := [(5, .int ((m_Book_depthAt (m_Row_set (m_Row_set (m_Row_set σ 12 1 (((m_Row_at σ 12 1) + 1).toInt64)) 14 (m_Row_at σ 12 1) x0.toInt64) 16 (m_Row_at σ 12 1) ((m_Book_depthAt (m_Row_set (m_Row_set σ 12 1 (((m_Row_at σ 12 1) + 1).toInt64)) 14 (m_Row_at σ 12 1) x0.toInt64) x1).toInt64)) x1) - 1)), (4, .int x1), (3, .int (m_Row_at σ 12 1)), (0, .ref (G 0 6)), (1, .int x0), (2, .int x1)]) hx hb d_Variants_addTelling_61 hl (by decide) rfl (fun ls hl => ?_)
  exact w_Variants_addTelling_63  hC (((m_Book_depthAt (m_Row_set (m_Row_set (m_Row_set σ 12 1 (((m_Row_at σ 12 1) + 1).toInt64)) 14 (m_Row_at σ 12 1) x0.toInt64) 16 (m_Row_at σ 12 1) ((m_Book_depthAt (m_Row_set (m_Row_set σ 12 1 (((m_Row_at σ 12 1) + 1).toInt64)) 14 (m_Row_at σ 12 1) x0.toInt64) x1).toInt64)) x1) - 1).toNatClampNeg + 2) (m_Row_set (m_Row_set (m_Row_set σ 12 1 (((m_Row_at σ 12 1) + 1).toInt64)) 14 (m_Row_at σ 12 1) x0.toInt64) 16 (m_Row_at σ 12 1) ((m_Book_depthAt (m_Row_set (m_Row_set σ 12 1 (((m_Row_at σ 12 1) + 1).toInt64)) 14 (m_Row_at σ 12 1) x0.toInt64) x1).toInt64)) x0 x1 (m_Row_at σ 12 1) x1 ((m_Book_depthAt (m_Row_set (m_Row_set (m_Row_set σ 12 1 (((m_Row_at σ 12 1) + 1).toInt64)) 14 (m_Row_at σ 12 1) x0.toInt64) 16 (m_Row_at σ 12 1) ((m_Book_depthAt (m_Row_set (m_Row_set σ 12 1 (((m_Row_at σ 12 1) + 1).toInt64)) 14 (m_Row_at σ 12 1) x0.toInt64) x1).toInt64)) x1) - 1) _ _ (dn_init _) (by omega) (by omega) hR π hπ _ _ hB ls (lv_sub hl [3, 4, 5, 2, 1, 0] rfl)
end SC
end
