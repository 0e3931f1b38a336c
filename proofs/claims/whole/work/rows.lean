section
-- ===== PART A: goes FIRST, ahead of the names: the tables' words, and 'selects' of the private methods out of them =====
/-- a private method of a class that the tables say can be made, by its rows of tables_1 -/
def lw_okq (q : MethodName × Nat) : Prop := (q.1.cls ≠ "java/lang/invoke/MethodHandle" ∧ q.1.cls ≠ "java/lang/invoke/VarHandle") ∧ Cond.instantiable q.1.cls q.2 ∈ tables_1 ∧ Cond.privateMethod q.1 ∈ tables_1 ∧ Cond.instanceMethod q.1 ∈ tables_1
theorem lw_p0 : lw_okq (⟨"SheetTrees$Book", "addPage", "(IIII)I"⟩, 8) := ⟨⟨by decide +kernel, by decide +kernel⟩, List.mem_of_getElem? (i := 97) (by decide +kernel), List.mem_of_getElem? (i := 203) (by decide +kernel), List.mem_of_getElem? (i := 204) (by decide +kernel)⟩
theorem lw_p1 : lw_okq (⟨"SheetTrees$Sheets", "headOf", "(I)I"⟩, 6) := ⟨⟨by decide +kernel, by decide +kernel⟩, List.mem_of_getElem? (i := 47) (by decide +kernel), List.mem_of_getElem? (i := 226) (by decide +kernel), List.mem_of_getElem? (i := 227) (by decide +kernel)⟩
theorem lw_p2 : lw_okq (⟨"SheetTrees$Journal", "putAct", "(ILSheetTrees$Change;)V"⟩, 4) := ⟨⟨by decide +kernel, by decide +kernel⟩, List.mem_of_getElem? (i := 26) (by decide +kernel), List.mem_of_getElem? (i := 326) (by decide +kernel), List.mem_of_getElem? (i := 327) (by decide +kernel)⟩
theorem lw_p3 : lw_okq (⟨"SheetTrees$Journal", "getAct", "(I)LSheetTrees$Change;"⟩, 4) := ⟨⟨by decide +kernel, by decide +kernel⟩, List.mem_of_getElem? (i := 26) (by decide +kernel), List.mem_of_getElem? (i := 348) (by decide +kernel), List.mem_of_getElem? (i := 349) (by decide +kernel)⟩
theorem lw_p4 : lw_okq (⟨"SheetTrees", "needSheet", "(I)V"⟩, 7) := ⟨⟨by decide +kernel, by decide +kernel⟩, List.mem_of_getElem? (i := 18) (by decide +kernel), List.mem_of_getElem? (i := 377) (by decide +kernel), List.mem_of_getElem? (i := 378) (by decide +kernel)⟩
theorem lw_p5 : lw_okq (⟨"java/lang/Throwable", "fillInStackTrace", "(I)Ljava/lang/Throwable;"⟩, 6) := ⟨⟨by decide +kernel, by decide +kernel⟩, List.mem_of_getElem? (i := 422) (by decide +kernel), List.mem_of_getElem? (i := 420) (by decide +kernel), List.mem_of_getElem? (i := 421) (by decide +kernel)⟩
theorem lw_p6 : lw_okq (⟨"SheetTrees$Sheets", "withPlacedOn", "(I)I"⟩, 6) := ⟨⟨by decide +kernel, by decide +kernel⟩, List.mem_of_getElem? (i := 47) (by decide +kernel), List.mem_of_getElem? (i := 460) (by decide +kernel), List.mem_of_getElem? (i := 461) (by decide +kernel)⟩
theorem lw_p7 : lw_okq (⟨"SheetTrees$Sheets", "append", "(II)V"⟩, 6) := ⟨⟨by decide +kernel, by decide +kernel⟩, List.mem_of_getElem? (i := 47) (by decide +kernel), List.mem_of_getElem? (i := 477) (by decide +kernel), List.mem_of_getElem? (i := 478) (by decide +kernel)⟩
theorem lw_p8 : lw_okq (⟨"SheetTrees$Sheets", "cellBefore", "(II)I"⟩, 6) := ⟨⟨by decide +kernel, by decide +kernel⟩, List.mem_of_getElem? (i := 47) (by decide +kernel), List.mem_of_getElem? (i := 481) (by decide +kernel), List.mem_of_getElem? (i := 482) (by decide +kernel)⟩
theorem lw_p9 : lw_okq (⟨"SheetTrees", "settle", "()Z"⟩, 7) := ⟨⟨by decide +kernel, by decide +kernel⟩, List.mem_of_getElem? (i := 18) (by decide +kernel), List.mem_of_getElem? (i := 485) (by decide +kernel), List.mem_of_getElem? (i := 486) (by decide +kernel)⟩
theorem lw_p10 : lw_okq (⟨"SheetTrees", "needPlacement", "(I)V"⟩, 7) := ⟨⟨by decide +kernel, by decide +kernel⟩, List.mem_of_getElem? (i := 18) (by decide +kernel), List.mem_of_getElem? (i := 501) (by decide +kernel), List.mem_of_getElem? (i := 502) (by decide +kernel)⟩
theorem lw_p11 : lw_okq (⟨"SheetTrees$Sheets", "unlink", "(I)V"⟩, 6) := ⟨⟨by decide +kernel, by decide +kernel⟩, List.mem_of_getElem? (i := 47) (by decide +kernel), List.mem_of_getElem? (i := 511) (by decide +kernel), List.mem_of_getElem? (i := 512) (by decide +kernel)⟩
theorem lw_p12 : lw_okq (⟨"SheetTrees", "needName", "(I)V"⟩, 7) := ⟨⟨by decide +kernel, by decide +kernel⟩, List.mem_of_getElem? (i := 18) (by decide +kernel), List.mem_of_getElem? (i := 548) (by decide +kernel), List.mem_of_getElem? (i := 549) (by decide +kernel)⟩
theorem lw_p13 : lw_okq (⟨"SheetTrees", "needPart", "(I)V"⟩, 7) := ⟨⟨by decide +kernel, by decide +kernel⟩, List.mem_of_getElem? (i := 18) (by decide +kernel), List.mem_of_getElem? (i := 616) (by decide +kernel), List.mem_of_getElem? (i := 617) (by decide +kernel)⟩
theorem lw_p14 : lw_okq (⟨"SheetTrees", "needGate", "(II)V"⟩, 7) := ⟨⟨by decide +kernel, by decide +kernel⟩, List.mem_of_getElem? (i := 18) (by decide +kernel), List.mem_of_getElem? (i := 625) (by decide +kernel), List.mem_of_getElem? (i := 626) (by decide +kernel)⟩
theorem lw_p15 : lw_okq (⟨"SheetTrees$Parts", "partAt", "(II)I"⟩, 8) := ⟨⟨by decide +kernel, by decide +kernel⟩, List.mem_of_getElem? (i := 129) (by decide +kernel), List.mem_of_getElem? (i := 664) (by decide +kernel), List.mem_of_getElem? (i := 665) (by decide +kernel)⟩
def lw_privs_1 : List (MethodName × Nat) := [(⟨"SheetTrees$Book", "addPage", "(IIII)I"⟩, 8), (⟨"SheetTrees$Sheets", "headOf", "(I)I"⟩, 6), (⟨"SheetTrees$Journal", "putAct", "(ILSheetTrees$Change;)V"⟩, 4), (⟨"SheetTrees$Journal", "getAct", "(I)LSheetTrees$Change;"⟩, 4), (⟨"SheetTrees", "needSheet", "(I)V"⟩, 7), (⟨"java/lang/Throwable", "fillInStackTrace", "(I)Ljava/lang/Throwable;"⟩, 6), (⟨"SheetTrees$Sheets", "withPlacedOn", "(I)I"⟩, 6), (⟨"SheetTrees$Sheets", "append", "(II)V"⟩, 6), (⟨"SheetTrees$Sheets", "cellBefore", "(II)I"⟩, 6), (⟨"SheetTrees", "settle", "()Z"⟩, 7), (⟨"SheetTrees", "needPlacement", "(I)V"⟩, 7), (⟨"SheetTrees$Sheets", "unlink", "(I)V"⟩, 6), (⟨"SheetTrees", "needName", "(I)V"⟩, 7), (⟨"SheetTrees", "needPart", "(I)V"⟩, 7), (⟨"SheetTrees", "needGate", "(II)V"⟩, 7), (⟨"SheetTrees$Parts", "partAt", "(II)I"⟩, 8)]
theorem lw_r1 : ∀ q ∈ lw_privs_1, lw_okq q := List.forall_mem_cons.mpr ⟨lw_p0, List.forall_mem_cons.mpr ⟨lw_p1, List.forall_mem_cons.mpr ⟨lw_p2, List.forall_mem_cons.mpr ⟨lw_p3, List.forall_mem_cons.mpr ⟨lw_p4, List.forall_mem_cons.mpr ⟨lw_p5, List.forall_mem_cons.mpr ⟨lw_p6, List.forall_mem_cons.mpr ⟨lw_p7, List.forall_mem_cons.mpr ⟨lw_p8, List.forall_mem_cons.mpr ⟨lw_p9, List.forall_mem_cons.mpr ⟨lw_p10, List.forall_mem_cons.mpr ⟨lw_p11, List.forall_mem_cons.mpr ⟨lw_p12, List.forall_mem_cons.mpr ⟨lw_p13, List.forall_mem_cons.mpr ⟨lw_p14, List.forall_mem_cons.mpr ⟨lw_p15, fun _ h => absurd h List.not_mem_nil⟩⟩⟩⟩⟩⟩⟩⟩⟩⟩⟩⟩⟩⟩⟩⟩
theorem lw_p16 : lw_okq (⟨"SheetTrees$Parts", "gateAt", "(II)I"⟩, 8) := ⟨⟨by decide +kernel, by decide +kernel⟩, List.mem_of_getElem? (i := 129) (by decide +kernel), List.mem_of_getElem? (i := 668) (by decide +kernel), List.mem_of_getElem? (i := 669) (by decide +kernel)⟩
theorem lw_p17 : lw_okq (⟨"SheetTrees$Sheets", "copyJoints", "(II)V"⟩, 6) := ⟨⟨by decide +kernel, by decide +kernel⟩, List.mem_of_getElem? (i := 47) (by decide +kernel), List.mem_of_getElem? (i := 680) (by decide +kernel), List.mem_of_getElem? (i := 681) (by decide +kernel)⟩
theorem lw_p18 : lw_okq (⟨"SheetTrees", "needVariantOrNone", "(I)V"⟩, 7) := ⟨⟨by decide +kernel, by decide +kernel⟩, List.mem_of_getElem? (i := 18) (by decide +kernel), List.mem_of_getElem? (i := 712) (by decide +kernel), List.mem_of_getElem? (i := 713) (by decide +kernel)⟩
theorem lw_p19 : lw_okq (⟨"SheetTrees", "needVariant", "(I)V"⟩, 7) := ⟨⟨by decide +kernel, by decide +kernel⟩, List.mem_of_getElem? (i := 18) (by decide +kernel), List.mem_of_getElem? (i := 716) (by decide +kernel), List.mem_of_getElem? (i := 717) (by decide +kernel)⟩
theorem lw_p20 : lw_okq (⟨"SheetTrees", "tell", "(IIIIJ)Z"⟩, 7) := ⟨⟨by decide +kernel, by decide +kernel⟩, List.mem_of_getElem? (i := 18) (by decide +kernel), List.mem_of_getElem? (i := 743) (by decide +kernel), List.mem_of_getElem? (i := 744) (by decide +kernel)⟩
theorem lw_p21 : lw_okq (⟨"SheetTrees", "needPage", "(I)V"⟩, 7) := ⟨⟨by decide +kernel, by decide +kernel⟩, List.mem_of_getElem? (i := 18) (by decide +kernel), List.mem_of_getElem? (i := 747) (by decide +kernel), List.mem_of_getElem? (i := 748) (by decide +kernel)⟩
theorem lw_p22 : lw_okq (⟨"SheetTrees$Variants", "find", "(II)I"⟩, 7) := ⟨⟨by decide +kernel, by decide +kernel⟩, List.mem_of_getElem? (i := 163) (by decide +kernel), List.mem_of_getElem? (i := 759) (by decide +kernel), List.mem_of_getElem? (i := 760) (by decide +kernel)⟩
theorem lw_p23 : lw_okq (⟨"SheetTrees$Variants", "isAt", "(II)Z"⟩, 7) := ⟨⟨by decide +kernel, by decide +kernel⟩, List.mem_of_getElem? (i := 163) (by decide +kernel), List.mem_of_getElem? (i := 763) (by decide +kernel), List.mem_of_getElem? (i := 764) (by decide +kernel)⟩
theorem lw_p24 : lw_okq (⟨"SheetTrees$Variants", "addTelling", "(II)I"⟩, 7) := ⟨⟨by decide +kernel, by decide +kernel⟩, List.mem_of_getElem? (i := 163) (by decide +kernel), List.mem_of_getElem? (i := 775) (by decide +kernel), List.mem_of_getElem? (i := 776) (by decide +kernel)⟩
theorem lw_p25 : lw_okq (⟨"SheetTrees", "heard", "(IIIIJ)J"⟩, 7) := ⟨⟨by decide +kernel, by decide +kernel⟩, List.mem_of_getElem? (i := 18) (by decide +kernel), List.mem_of_getElem? (i := 793) (by decide +kernel), List.mem_of_getElem? (i := 794) (by decide +kernel)⟩
theorem lw_p26 : lw_okq (⟨"SheetTrees", "needUnit", "(II)V"⟩, 7) := ⟨⟨by decide +kernel, by decide +kernel⟩, List.mem_of_getElem? (i := 18) (by decide +kernel), List.mem_of_getElem? (i := 842) (by decide +kernel), List.mem_of_getElem? (i := 843) (by decide +kernel)⟩
theorem lw_p27 : lw_okq (⟨"SheetTrees$Parts", "newUnitsAt", "(III)I"⟩, 8) := ⟨⟨by decide +kernel, by decide +kernel⟩, List.mem_of_getElem? (i := 129) (by decide +kernel), List.mem_of_getElem? (i := 867) (by decide +kernel), List.mem_of_getElem? (i := 868) (by decide +kernel)⟩
theorem lw_p28 : lw_okq (⟨"SheetTreesModel", "count", "(I)I"⟩, 19) := ⟨⟨by decide +kernel, by decide +kernel⟩, List.mem_of_getElem? (i := 874) (by decide +kernel), List.mem_of_getElem? (i := 951) (by decide +kernel), List.mem_of_getElem? (i := 952) (by decide +kernel)⟩
theorem lw_p29 : lw_okq (⟨"SheetTreesModel", "begin", "()V"⟩, 19) := ⟨⟨by decide +kernel, by decide +kernel⟩, List.mem_of_getElem? (i := 874) (by decide +kernel), List.mem_of_getElem? (i := 955) (by decide +kernel), List.mem_of_getElem? (i := 956) (by decide +kernel)⟩
theorem lw_p30 : lw_okq (⟨"SheetTreesModel", "done", "()V"⟩, 19) := ⟨⟨by decide +kernel, by decide +kernel⟩, List.mem_of_getElem? (i := 874) (by decide +kernel), List.mem_of_getElem? (i := 959) (by decide +kernel), List.mem_of_getElem? (i := 960) (by decide +kernel)⟩
theorem lw_p31 : lw_okq (⟨"SheetTreesModel", "isSheet", "(I)Z"⟩, 19) := ⟨⟨by decide +kernel, by decide +kernel⟩, List.mem_of_getElem? (i := 874) (by decide +kernel), List.mem_of_getElem? (i := 967) (by decide +kernel), List.mem_of_getElem? (i := 968) (by decide +kernel)⟩
def lw_privs_2 : List (MethodName × Nat) := [(⟨"SheetTrees$Parts", "gateAt", "(II)I"⟩, 8), (⟨"SheetTrees$Sheets", "copyJoints", "(II)V"⟩, 6), (⟨"SheetTrees", "needVariantOrNone", "(I)V"⟩, 7), (⟨"SheetTrees", "needVariant", "(I)V"⟩, 7), (⟨"SheetTrees", "tell", "(IIIIJ)Z"⟩, 7), (⟨"SheetTrees", "needPage", "(I)V"⟩, 7), (⟨"SheetTrees$Variants", "find", "(II)I"⟩, 7), (⟨"SheetTrees$Variants", "isAt", "(II)Z"⟩, 7), (⟨"SheetTrees$Variants", "addTelling", "(II)I"⟩, 7), (⟨"SheetTrees", "heard", "(IIIIJ)J"⟩, 7), (⟨"SheetTrees", "needUnit", "(II)V"⟩, 7), (⟨"SheetTrees$Parts", "newUnitsAt", "(III)I"⟩, 8), (⟨"SheetTreesModel", "count", "(I)I"⟩, 19), (⟨"SheetTreesModel", "begin", "()V"⟩, 19), (⟨"SheetTreesModel", "done", "()V"⟩, 19), (⟨"SheetTreesModel", "isSheet", "(I)Z"⟩, 19)]
theorem lw_r2 : ∀ q ∈ lw_privs_2, lw_okq q := List.forall_mem_cons.mpr ⟨lw_p16, List.forall_mem_cons.mpr ⟨lw_p17, List.forall_mem_cons.mpr ⟨lw_p18, List.forall_mem_cons.mpr ⟨lw_p19, List.forall_mem_cons.mpr ⟨lw_p20, List.forall_mem_cons.mpr ⟨lw_p21, List.forall_mem_cons.mpr ⟨lw_p22, List.forall_mem_cons.mpr ⟨lw_p23, List.forall_mem_cons.mpr ⟨lw_p24, List.forall_mem_cons.mpr ⟨lw_p25, List.forall_mem_cons.mpr ⟨lw_p26, List.forall_mem_cons.mpr ⟨lw_p27, List.forall_mem_cons.mpr ⟨lw_p28, List.forall_mem_cons.mpr ⟨lw_p29, List.forall_mem_cons.mpr ⟨lw_p30, List.forall_mem_cons.mpr ⟨lw_p31, fun _ h => absurd h List.not_mem_nil⟩⟩⟩⟩⟩⟩⟩⟩⟩⟩⟩⟩⟩⟩⟩⟩
theorem lw_p32 : lw_okq (⟨"SheetTreesModel", "liesIn", "(II)Z"⟩, 19) := ⟨⟨by decide +kernel, by decide +kernel⟩, List.mem_of_getElem? (i := 874) (by decide +kernel), List.mem_of_getElem? (i := 971) (by decide +kernel), List.mem_of_getElem? (i := 972) (by decide +kernel)⟩
theorem lw_p33 : lw_okq (⟨"SheetTreesModel", "addPlacement", "(II)I"⟩, 19) := ⟨⟨by decide +kernel, by decide +kernel⟩, List.mem_of_getElem? (i := 874) (by decide +kernel), List.mem_of_getElem? (i := 975) (by decide +kernel), List.mem_of_getElem? (i := 976) (by decide +kernel)⟩
theorem lw_p34 : lw_okq (⟨"SheetTreesModel", "hasRoom", "()Z"⟩, 19) := ⟨⟨by decide +kernel, by decide +kernel⟩, List.mem_of_getElem? (i := 874) (by decide +kernel), List.mem_of_getElem? (i := 979) (by decide +kernel), List.mem_of_getElem? (i := 980) (by decide +kernel)⟩
theorem lw_p35 : lw_okq (⟨"SheetTreesModel", "turn", "()V"⟩, 19) := ⟨⟨by decide +kernel, by decide +kernel⟩, List.mem_of_getElem? (i := 874) (by decide +kernel), List.mem_of_getElem? (i := 983) (by decide +kernel), List.mem_of_getElem? (i := 984) (by decide +kernel)⟩
theorem lw_p36 : lw_okq (⟨"SheetTreesModel", "addPage", "(IIII)V"⟩, 19) := ⟨⟨by decide +kernel, by decide +kernel⟩, List.mem_of_getElem? (i := 874) (by decide +kernel), List.mem_of_getElem? (i := 987) (by decide +kernel), List.mem_of_getElem? (i := 988) (by decide +kernel)⟩
theorem lw_p37 : lw_okq (⟨"SheetTreesModel", "next", "(IJ)I"⟩, 19) := ⟨⟨by decide +kernel, by decide +kernel⟩, List.mem_of_getElem? (i := 874) (by decide +kernel), List.mem_of_getElem? (i := 992) (by decide +kernel), List.mem_of_getElem? (i := 993) (by decide +kernel)⟩
theorem lw_p38 : lw_okq (⟨"SheetTreesModel", "giveBack", "()V"⟩, 19) := ⟨⟨by decide +kernel, by decide +kernel⟩, List.mem_of_getElem? (i := 874) (by decide +kernel), List.mem_of_getElem? (i := 996) (by decide +kernel), List.mem_of_getElem? (i := 997) (by decide +kernel)⟩
theorem lw_p39 : lw_okq (⟨"SheetTreesModel", "isPlacement", "(I)Z"⟩, 19) := ⟨⟨by decide +kernel, by decide +kernel⟩, List.mem_of_getElem? (i := 874) (by decide +kernel), List.mem_of_getElem? (i := 1004) (by decide +kernel), List.mem_of_getElem? (i := 1005) (by decide +kernel)⟩
theorem lw_p40 : lw_okq (⟨"SheetTreesModel", "hasName", "(JI)Z"⟩, 19) := ⟨⟨by decide +kernel, by decide +kernel⟩, List.mem_of_getElem? (i := 874) (by decide +kernel), List.mem_of_getElem? (i := 1012) (by decide +kernel), List.mem_of_getElem? (i := 1013) (by decide +kernel)⟩
theorem lw_p41 : lw_okq (⟨"SheetTreesModel", "addPart", "(JJ)I"⟩, 19) := ⟨⟨by decide +kernel, by decide +kernel⟩, List.mem_of_getElem? (i := 874) (by decide +kernel), List.mem_of_getElem? (i := 1039) (by decide +kernel), List.mem_of_getElem? (i := 1040) (by decide +kernel)⟩
theorem lw_p42 : lw_okq (⟨"SheetTreesModel", "isGate", "(II)Z"⟩, 19) := ⟨⟨by decide +kernel, by decide +kernel⟩, List.mem_of_getElem? (i := 874) (by decide +kernel), List.mem_of_getElem? (i := 1047) (by decide +kernel), List.mem_of_getElem? (i := 1048) (by decide +kernel)⟩
theorem lw_p43 : lw_okq (⟨"SheetTreesModel", "isPart", "(I)Z"⟩, 19) := ⟨⟨by decide +kernel, by decide +kernel⟩, List.mem_of_getElem? (i := 874) (by decide +kernel), List.mem_of_getElem? (i := 1051) (by decide +kernel), List.mem_of_getElem? (i := 1052) (by decide +kernel)⟩
theorem lw_p44 : lw_okq (⟨"SheetTreesModel", "gatesOn", "(I)I"⟩, 19) := ⟨⟨by decide +kernel, by decide +kernel⟩, List.mem_of_getElem? (i := 874) (by decide +kernel), List.mem_of_getElem? (i := 1055) (by decide +kernel), List.mem_of_getElem? (i := 1056) (by decide +kernel)⟩
theorem lw_p45 : lw_okq (⟨"SheetTreesModel", "putGate", "(II)V"⟩, 19) := ⟨⟨by decide +kernel, by decide +kernel⟩, List.mem_of_getElem? (i := 874) (by decide +kernel), List.mem_of_getElem? (i := 1059) (by decide +kernel), List.mem_of_getElem? (i := 1060) (by decide +kernel)⟩
theorem lw_p46 : lw_okq (⟨"SheetTreesModel", "placementsOn", "(I)I"⟩, 19) := ⟨⟨by decide +kernel, by decide +kernel⟩, List.mem_of_getElem? (i := 874) (by decide +kernel), List.mem_of_getElem? (i := 1067) (by decide +kernel), List.mem_of_getElem? (i := 1068) (by decide +kernel)⟩
theorem lw_p47 : lw_okq (⟨"SheetTreesModel", "partsOn", "(I)I"⟩, 19) := ⟨⟨by decide +kernel, by decide +kernel⟩, List.mem_of_getElem? (i := 874) (by decide +kernel), List.mem_of_getElem? (i := 1071) (by decide +kernel), List.mem_of_getElem? (i := 1072) (by decide +kernel)⟩
def lw_privs_3 : List (MethodName × Nat) := [(⟨"SheetTreesModel", "liesIn", "(II)Z"⟩, 19), (⟨"SheetTreesModel", "addPlacement", "(II)I"⟩, 19), (⟨"SheetTreesModel", "hasRoom", "()Z"⟩, 19), (⟨"SheetTreesModel", "turn", "()V"⟩, 19), (⟨"SheetTreesModel", "addPage", "(IIII)V"⟩, 19), (⟨"SheetTreesModel", "next", "(IJ)I"⟩, 19), (⟨"SheetTreesModel", "giveBack", "()V"⟩, 19), (⟨"SheetTreesModel", "isPlacement", "(I)Z"⟩, 19), (⟨"SheetTreesModel", "hasName", "(JI)Z"⟩, 19), (⟨"SheetTreesModel", "addPart", "(JJ)I"⟩, 19), (⟨"SheetTreesModel", "isGate", "(II)Z"⟩, 19), (⟨"SheetTreesModel", "isPart", "(I)Z"⟩, 19), (⟨"SheetTreesModel", "gatesOn", "(I)I"⟩, 19), (⟨"SheetTreesModel", "putGate", "(II)V"⟩, 19), (⟨"SheetTreesModel", "placementsOn", "(I)I"⟩, 19), (⟨"SheetTreesModel", "partsOn", "(I)I"⟩, 19)]
theorem lw_r3 : ∀ q ∈ lw_privs_3, lw_okq q := List.forall_mem_cons.mpr ⟨lw_p32, List.forall_mem_cons.mpr ⟨lw_p33, List.forall_mem_cons.mpr ⟨lw_p34, List.forall_mem_cons.mpr ⟨lw_p35, List.forall_mem_cons.mpr ⟨lw_p36, List.forall_mem_cons.mpr ⟨lw_p37, List.forall_mem_cons.mpr ⟨lw_p38, List.forall_mem_cons.mpr ⟨lw_p39, List.forall_mem_cons.mpr ⟨lw_p40, List.forall_mem_cons.mpr ⟨lw_p41, List.forall_mem_cons.mpr ⟨lw_p42, List.forall_mem_cons.mpr ⟨lw_p43, List.forall_mem_cons.mpr ⟨lw_p44, List.forall_mem_cons.mpr ⟨lw_p45, List.forall_mem_cons.mpr ⟨lw_p46, List.forall_mem_cons.mpr ⟨lw_p47, fun _ h => absurd h List.not_mem_nil⟩⟩⟩⟩⟩⟩⟩⟩⟩⟩⟩⟩⟩⟩⟩⟩
theorem lw_p48 : lw_okq (⟨"SheetTreesModel", "nextGate", "(IJ)I"⟩, 19) := ⟨⟨by decide +kernel, by decide +kernel⟩, List.mem_of_getElem? (i := 874) (by decide +kernel), List.mem_of_getElem? (i := 1075) (by decide +kernel), List.mem_of_getElem? (i := 1076) (by decide +kernel)⟩
theorem lw_p49 : lw_okq (⟨"SheetTreesModel", "isVariant", "(I)Z"⟩, 19) := ⟨⟨by decide +kernel, by decide +kernel⟩, List.mem_of_getElem? (i := 874) (by decide +kernel), List.mem_of_getElem? (i := 1087) (by decide +kernel), List.mem_of_getElem? (i := 1088) (by decide +kernel)⟩
theorem lw_p50 : lw_okq (⟨"SheetTreesModel", "tell", "(IIIIJ)Z"⟩, 19) := ⟨⟨by decide +kernel, by decide +kernel⟩, List.mem_of_getElem? (i := 874) (by decide +kernel), List.mem_of_getElem? (i := 1095) (by decide +kernel), List.mem_of_getElem? (i := 1096) (by decide +kernel)⟩
theorem lw_p51 : lw_okq (⟨"SheetTreesModel", "isPage", "(I)Z"⟩, 19) := ⟨⟨by decide +kernel, by decide +kernel⟩, List.mem_of_getElem? (i := 874) (by decide +kernel), List.mem_of_getElem? (i := 1099) (by decide +kernel), List.mem_of_getElem? (i := 1100) (by decide +kernel)⟩
theorem lw_p52 : lw_okq (⟨"SheetTreesModel", "look", "()V"⟩, 19) := ⟨⟨by decide +kernel, by decide +kernel⟩, List.mem_of_getElem? (i := 874) (by decide +kernel), List.mem_of_getElem? (i := 1103) (by decide +kernel), List.mem_of_getElem? (i := 1104) (by decide +kernel)⟩
theorem lw_p53 : lw_okq (⟨"SheetTreesModel", "pathOf", "(I)I"⟩, 19) := ⟨⟨by decide +kernel, by decide +kernel⟩, List.mem_of_getElem? (i := 874) (by decide +kernel), List.mem_of_getElem? (i := 1107) (by decide +kernel), List.mem_of_getElem? (i := 1108) (by decide +kernel)⟩
theorem lw_p54 : lw_okq (⟨"SheetTreesModel", "find", "(IIII)I"⟩, 19) := ⟨⟨by decide +kernel, by decide +kernel⟩, List.mem_of_getElem? (i := 874) (by decide +kernel), List.mem_of_getElem? (i := 1111) (by decide +kernel), List.mem_of_getElem? (i := 1112) (by decide +kernel)⟩
theorem lw_p55 : lw_okq (⟨"SheetTreesModel", "ask", "(IIII)J"⟩, 19) := ⟨⟨by decide +kernel, by decide +kernel⟩, List.mem_of_getElem? (i := 874) (by decide +kernel), List.mem_of_getElem? (i := 1123) (by decide +kernel), List.mem_of_getElem? (i := 1124) (by decide +kernel)⟩
theorem lw_p56 : lw_okq (⟨"SheetTreesModel", "unitsOf", "(I)I"⟩, 19) := ⟨⟨by decide +kernel, by decide +kernel⟩, List.mem_of_getElem? (i := 874) (by decide +kernel), List.mem_of_getElem? (i := 1143) (by decide +kernel), List.mem_of_getElem? (i := 1144) (by decide +kernel)⟩
theorem lw_p57 : lw_okq (⟨"SheetTreesModel", "pageOf", "(JI)I"⟩, 19) := ⟨⟨by decide +kernel, by decide +kernel⟩, List.mem_of_getElem? (i := 874) (by decide +kernel), List.mem_of_getElem? (i := 1151) (by decide +kernel), List.mem_of_getElem? (i := 1152) (by decide +kernel)⟩
theorem lw_p58 : lw_okq (⟨"SheetTreesModel", "first", "(II)V"⟩, 19) := ⟨⟨by decide +kernel, by decide +kernel⟩, List.mem_of_getElem? (i := 874) (by decide +kernel), List.mem_of_getElem? (i := 1159) (by decide +kernel), List.mem_of_getElem? (i := 1160) (by decide +kernel)⟩
def lw_privs_4 : List (MethodName × Nat) := [(⟨"SheetTreesModel", "nextGate", "(IJ)I"⟩, 19), (⟨"SheetTreesModel", "isVariant", "(I)Z"⟩, 19), (⟨"SheetTreesModel", "tell", "(IIIIJ)Z"⟩, 19), (⟨"SheetTreesModel", "isPage", "(I)Z"⟩, 19), (⟨"SheetTreesModel", "look", "()V"⟩, 19), (⟨"SheetTreesModel", "pathOf", "(I)I"⟩, 19), (⟨"SheetTreesModel", "find", "(IIII)I"⟩, 19), (⟨"SheetTreesModel", "ask", "(IIII)J"⟩, 19), (⟨"SheetTreesModel", "unitsOf", "(I)I"⟩, 19), (⟨"SheetTreesModel", "pageOf", "(JI)I"⟩, 19), (⟨"SheetTreesModel", "first", "(II)V"⟩, 19)]
theorem lw_r4 : ∀ q ∈ lw_privs_4, lw_okq q := List.forall_mem_cons.mpr ⟨lw_p48, List.forall_mem_cons.mpr ⟨lw_p49, List.forall_mem_cons.mpr ⟨lw_p50, List.forall_mem_cons.mpr ⟨lw_p51, List.forall_mem_cons.mpr ⟨lw_p52, List.forall_mem_cons.mpr ⟨lw_p53, List.forall_mem_cons.mpr ⟨lw_p54, List.forall_mem_cons.mpr ⟨lw_p55, List.forall_mem_cons.mpr ⟨lw_p56, List.forall_mem_cons.mpr ⟨lw_p57, List.forall_mem_cons.mpr ⟨lw_p58, fun _ h => absurd h List.not_mem_nil⟩⟩⟩⟩⟩⟩⟩⟩⟩⟩⟩
def lw_privs : List (MethodName × Nat) := lw_privs_1 ++ (lw_privs_2 ++ (lw_privs_3 ++ (lw_privs_4)))
def lw_tbl : List Cond := k2_sels lw_privs ++ tables_1
theorem lw_privs_ok : ∀ q ∈ lw_privs, lw_okq q := by
  show ∀ q ∈ lw_privs_1 ++ (lw_privs_2 ++ (lw_privs_3 ++ (lw_privs_4))), lw_okq q
  exact List.forall_mem_append.mpr ⟨lw_r1, List.forall_mem_append.mpr ⟨lw_r2, List.forall_mem_append.mpr ⟨lw_r3, lw_r4⟩⟩⟩
-- ===== end of PART A; then your names; then what follows =====
end
section
/-! THE FRAME OF THE CONTRACTS. One world for all methods of a side: a list of cells that is a function of an abstract value. A contract: from the world 'ws' the method ends with the value 'v' and the world 'ws2'; nothing below the address N0 changes. -/
def ga (N0 : Nat) : Nat → Prop := fun q => N0 ≤ q
def bi (b : Bool) : Int32 := if b then 1 else 0
theorem bi_z (b : Bool) : narrow .boolean (.int (bi b)) = .int (bi b) := by cases b <;> rfl
/-- what is known of the tables at a state: classes and array classes, private members of nest mates -/
def kn (D : va_G) (cl : List vw_C) (tys : List (ClassId × FieldType)) (NW : List Cond) (U : State) : Prop := va_K D cl tys U ∧ ∀ w ∈ NW, va_Nw w U
/-- the words on nest mates that a contract may ask -/
def nwOk : Cond → Bool
  | .fieldLinkNest .. => true
  | .methodLinkNest .. => true
  | _ => false
theorem nw_warm {w : Cond} {s U : State} (hw : nwOk w = true) (hW : s.WarmedH U.vm) (h : va_Nw w s) : va_Nw w U := by
  cases w <;> first | (simp [nwOk] at hw; done) | exact va_Nw.warmF hW h | exact va_Nw.warmM hW h
theorem nw_same {w : Cond} {u U : State} (hw : nwOk w = true) (hv : u.vm = U.vm) (h : va_Nw w u) : va_Nw w U := by
  cases w <;> first | (simp [nwOk] at hw; done) | exact va_Nw.same rfl hv h
theorem kn_warm {D : va_G} {cl : List vw_C} {tys : List (ClassId × FieldType)} {NW : List Cond} {s U : State} (hN : ∀ w ∈ NW, nwOk w = true) (hW : s.WarmedH U.vm) (h : kn D cl tys NW s) : kn D cl tys NW U :=
  ⟨va_K.moved hW.alike h.1, fun w hw => nw_warm (hN w hw) hW (h.2 w hw)⟩
theorem kn_call {D : va_G} {cl : List vw_C} {tys : List (ClassId × FieldType)} {NW : List Cond} {U : State} {g : JFrame} {mk : MethodId} {a : Array Value} (hN : ∀ w ∈ NW, nwOk w = true) (h : kn D cl tys NW U) : kn D cl tys NW (U.calling g mk a) :=
  ⟨va_K.moved (u := U) (U := U.calling g mk a) (Vm.Alike.refl U.vm) h.1, fun w hw => nw_same (u := U) (U := U.calling g mk a) (hN w hw) rfl (h.2 w hw)⟩
/-- a world at a state -/
def wd (D : va_G) (cl : List vw_C) (N0 : Nat) (ws : va_W) (t : State) : Prop := va_P D cl ws t.heap ∧ va_D (ga N0) ws
/-- a world on the way -/
def bd (D : va_G) (cl : List vw_C) (N0 : Nat) (ws : va_W) (s : State) (H : Heap) (locs : List Loc) : Prop := va_P D cl ws H ∧ va_D (ga N0) ws ∧ va_S (ga N0) s.heap H locs
def pcx (D : va_G) (cl : List vw_C) (tys : List (ClassId × FieldType)) (NW : List Cond) (N0 : Nat) (av : List Value) (ws : va_W) : Array Value → State → Prop := va_Pc av (fun U => N0 ≤ U.heap.size ∧ kn D cl tys NW U ∧ wd D cl N0 ws U)
def qx (D : va_G) (cl : List vw_C) (N0 : Nat) (v : Option Value) (PW : va_W → Prop) : Array Value → State → Outcome → State → Prop := fun _ st o t => o = .returned v ∧ (∃ ws, PW ws ∧ wd D cl N0 ws t) ∧ va_F (ga N0) st t
/-- what stays the same on the way through a method -/
def cx (D : va_G) (cl : List vw_C) (tys : List (ClassId × FieldType)) (NW Ts : List Cond) (N0 : Nat) (p : Program) (s : State) (m : MethodId) (args : Array Value) (meth : Method) (c : Code) (cc : ByteArray) (nL : Nat) (ret : Option FieldType) (own : String) : Prop :=
  p.tables.exec = Jvm.exec ∧ c.code = cc ∧ meth.sig.returnType = ret ∧ c.maxLocals = nL ∧ s.vm.findClass own = some m.cls ∧ (∀ w ∈ Ts, w.before args s = true) ∧ meth.locks = false ∧ kn D cl tys NW s ∧ N0 ≤ s.heap.size ∧ ∀ w ∈ NW, nwOk w = true
section FW
variable {p : Program} {l : Launch} {e : Env} {R : Room} {s : State} {m : MethodId} {args : Array Value} {below : List Frame} {meth : Method} {c : Code} {H : Heap} {locs : List Loc} {cells slots : Nat} {Q : State → Prop}
variable {cc : ByteArray} {pc nL : Nat} {ls : Array Slot} {rest st0 : List Value} {D : va_G} {cl : List vw_C} {tys : List (ClassId × FieldType)} {NW Ts : List Cond} {N0 : Nat} {ws : va_W} {PW : va_W → Prop} {ret : Option FieldType} {own : String}
/-- a contract out of its walk -/
theorem met_of {y : MethodName} {rm : Room} {av : List Value} {v : Option Value} {maxL : Nat} {mc ms : Nat} (hy : plainName y.cls = true) (hyc : y.cls = own) (hN : ∀ w ∈ NW, nwOk w = true)
    (body : ∀ (p : Program) (e : Env) (s : State) (m : MethodId) (below : List Frame) (meth : Method) (c : Code), cx D cl tys NW Ts N0 p s m av.toArray meth c cc maxL ret own → (y.name = "<init>" → meth.name = "<init>") → bd D cl N0 ws s s.heap [] →
      W p l e rm s m av.toArray below meth c s.heap [] 0 0 (MQ below (qx D cl N0 v PW) av.toArray s mc ms (ga N0)) (entryFrame m av.toArray maxL)) :
    Met l y (Cond.code y cc maxL ret :: Ts) rm (pcx D cl tys NW N0 av ws) (qx D cl N0 v PW) mc ms (ga N0) := by
  refine Met.ofW (cc := cc) (maxL := maxL) (ret := ret) hy rfl ?_
  intro p e s m args below meth c s₁ B hml hv
  obtain ⟨rfl, hN0, hK, hP, hD⟩ := hv
  have hts := atoms_spec (ws := Cond.code y cc maxL ret :: Ts) B.pre
  have hown : s.vm.findClass own = some m.cls := by rw [← hyc]; exact findClass_of_methodNamed B.named
  exact body p e s m below meth c ⟨B.exec, B.bytes, B.returns, hml, hown, fun w h => hts w (List.mem_cons_of_mem _ h), B.notSynchronized, hK, hN0, hN⟩ (fun h => by rw [← h]; exact (name_of_methodNamed B.named B.method).1) ⟨hP, hD, va_S.rf⟩
/-- behind a call -/
theorem kc {v : Option Value} {mc ms : Nat} {a : Array Value} (hB : bd D cl N0 ws s H locs) (hr : va_Run p l e R s m args below meth c H locs cells slots mc ms (F0 m pc ls st0) rest (qx D cl N0 v PW a) (ga N0))
    (kk : ∀ (H1 : Heap) (locs1 : List Loc) (ws1 : va_W), PW ws1 → bd D cl N0 ws1 s H1 locs1 → W p l e R s m args below meth c H1 locs1 (cells + mc) (slots + ms) Q (F0 m (pc + 3) ls (v.toList ++ rest))) : W p l e R s m args below meth c H locs cells slots Q (F0 m pc ls st0) := by
  intro T hT X
  obtain ⟨v', st₀, t, T', L, h0, X', hL, e1, e2, ⟨hv, ⟨ws1, hpw, hwd⟩, hz, hk⟩, st⟩ := hr T hT X
  cases hv
  obtain ⟨hP, hD, hS⟩ := hB
  rw [h0] at hz hk
  obtain ⟨t2, a1, b1⟩ := kk T'.heap (locs ++ L) ws1 hpw ⟨by rw [e1]; exact hwd.1, hwd.2, Nat.le_trans hS.1 (by rw [e1]; exact hz), fun q h1 h2 => by rw [e1, hk q (Nat.lt_of_lt_of_le h1 hS.1) h2]; exact hS.2.1 q h1 h2, fun q hq => by
      rcases List.mem_append.mp hq with h | h
      · exact hS.2.2 q h
      · exact hL q h⟩ T' rfl X'
  exact ⟨t2, st t2 a1, b1⟩
/-- the start of a callee -/
theorem pcx_ok {av : List Value} (hC : cx D cl tys NW Ts N0 p s m args meth c cc nL ret own) (hB : bd D cl N0 ws s H locs) : FrameBlind (pcx D cl tys NW N0 av ws) ∧ ∀ U : State, U.heap = H → s.WarmedH U.vm → pcx D cl tys NW N0 av ws av.toArray U := by
  obtain ⟨-, -, -, -, -, -, -, hK, hN, hNW⟩ := hC
  refine ⟨fun a U g mk q => ?_, fun U hU hW => ⟨rfl, ?_, kn_warm hNW hW hK, ?_, hB.2.1⟩⟩
  · obtain ⟨q0, q1, q2, q3, q4⟩ := q
    exact ⟨q0, q1, kn_call hNW q2, q3, q4⟩
  · rw [hU]; exact Nat.le_trans hN hB.2.2.1
  · rw [hU]; exact hB.1
/-- a word of the tables that goes on -/
theorem good_all {y : Cond} (hT : ∀ w ∈ Ts, goodWord w = true) (hy : y ∈ Ts) : GoodIn Ts (y :: Ts) := by
  intro w hw
  rcases List.mem_cons.mp hw with h | h
  · subst h; exact ⟨hy, good_of_word (hT _ hy)⟩
  · exact ⟨h, good_of_word (hT _ h)⟩
end FW
section FW2
variable {p : Program} {l : Launch} {e : Env} {R : Room} {s : State} {m : MethodId} {args : Array Value} {below : List Frame} {meth : Method} {c : Code} {H : Heap} {locs : List Loc} {cells slots : Nat} {Q : State → Prop}
variable {cc : ByteArray} {pc nL : Nat} {ls : Array Slot} {rest st0 : List Value} {D : va_G} {cl : List vw_C} {tys : List (ClassId × FieldType)} {NW Ts : List Cond} {N0 : Nat} {ws ws' : va_W} {PW : va_W → Prop} {ret : Option FieldType} {own : String}
/-- a field is read -/
theorem gt {C : String} {T : u_T} {N ci index a : Nat} {fs : List Value} {v : Value} (hC : cx D cl tys NW Ts N0 p s m args meth c cc nL ret own) (hB : bd D cl N0 ws s H locs) (q0 : Nat) (he : ws[q0]? = some (a, .inr (ci, fs))) (hc : cl[ci]? = some (C, T, N)) (hin : ∀ w ∈ u_ws C T N, w ∈ Ts) (k : Nat) (hk : k < N) (hdc : (T k).1 = C) (hlink : Cond.fieldLink own index C (T k).2.1 (T k).2.2.1 ∈ Ts) (hv : fs[k]? = some v) (hdg : decode cc pc = .ok (.getfield index, 3))
    (kk : W p l e R s m args below meth c H locs cells slots Q (F0 m (pc + 3) ls (v :: rest))) : W p l e R s m args below meth c H locs cells slots Q (F0 m pc ls (.ref a :: rest)) :=
  va_get (D := D) (C := C) (T := T) (N := N) (ref := C) hC.1 hC.2.1 hC.2.2.2.2.2.1 hin hC.2.2.2.2.1 hC.2.2.2.2.2.2.2.1.1 hB.1 q0 he hc k hk (hC.2.2.2.2.2.1 _ hlink) (fun x h => by rw [hdc] at h; exact h) hv hdg kk
/-- a field is written -/
theorem pt {C : String} {T : u_T} {N ci index a : Nat} {fs : List Value} {v : Value} {ty : FieldType} (hC : cx D cl tys NW Ts N0 p s m args meth c cc nL ret own) (hB : bd D cl N0 ws s H locs) (q0 : Nat) (he : ws[q0]? = some (a, .inr (ci, fs))) (hc : cl[ci]? = some (C, T, N)) (hin : ∀ w ∈ u_ws C T N, w ∈ Ts) (ty0 : Nat → FieldType) (hty : ∀ k, k < N → parseFieldDescriptor (T k).2.2.1 = some (ty0 k)) (hnm : ∀ a, a < N → ∀ b, b < N → a ≠ b → (T a).2.1 ≠ (T b).2.1) (k : Nat) (hk : k < N) (hdc : (T k).1 = C) (hfin : (T k).2.2.2 = false) (hlink : Cond.fieldLink own index C (T k).2.1 (T k).2.2.1 ∈ Ts) (hd : parseFieldDescriptor (T k).2.2.1 = some ty) (hn : narrow ty v = v) (hfit : fits ty v = true) (hl : k < fs.length) (hdg : decode cc pc = .ok (.putfield index, 3))
    (hws : ws.set q0 (a, .inr (ci, fs.set k v)) = ws')
    (kk : ∀ (H1 : Heap) (locs1 : List Loc), bd D cl N0 ws' s H1 locs1 → W p l e R s m args below meth c H1 locs1 cells slots Q (F0 m (pc + 3) ls rest)) : W p l e R s m args below meth c H locs cells slots Q (F0 m pc ls (v :: .ref a :: rest)) := by
  subst hws
  exact va_put (D := D) (C := C) (T := T) (N := N) (ref := C) hC.1 hC.2.1 hC.2.2.2.2.2.1 hin ty0 hty hnm hC.2.2.2.2.1 hC.2.2.2.2.2.2.2.1.1 hB.1 hB.2.1 hB.2.2 q0 he hc k hk (hC.2.2.2.2.2.1 _ hlink) (fun x h => by rw [hdc] at h; exact h) hfin hd hn hfit hl hdg (fun H1 locs1 h1 h2 h3 => kk H1 locs1 ⟨h1, h2, h3⟩)
/-- a place of an array is written -/
theorem as_l {cA : ClassId} {a n : Nat} {f : Nat → Int64} {i : Int32} {x : Int64} (hC : cx D cl tys NW Ts N0 p s m args meth c cc nL ret own) (hB : bd D cl N0 ws s H locs) (q0 t0 : Nat) (ha : ws[q0]? = some (a, .inl (cA, n, .inr (.inl f)))) (ht : tys[t0]? = some (cA, .long)) (hin : vp_in i n) (hdg : decode cc pc = .ok (.lastore, 1)) (hws : ws.set q0 (a, .inl (cA, n, .inr (.inl (vp_updL f i.toNatClampNeg x)))) = ws')
    (kk : ∀ (H1 : Heap) (locs1 : List Loc), bd D cl N0 ws' s H1 locs1 → W p l e R s m args below meth c H1 locs1 cells slots Q (F0 m (pc + 1) ls rest)) : W p l e R s m args below meth c H locs cells slots Q (F0 m pc ls (.long x :: .int i :: .ref a :: rest)) := by
  subst hws
  exact va_last hC.1 hC.2.1 hC.2.2.2.2.2.2.2.1.1 hB.1 hB.2.1 hB.2.2 q0 t0 ha ht hin hdg (fun H1 locs1 h1 h2 h3 => kk H1 locs1 ⟨h1, h2, h3⟩)
theorem as_i {cA : ClassId} {a n : Nat} {f : Nat → Int32} {i : Int32} {x : Int32} (hC : cx D cl tys NW Ts N0 p s m args meth c cc nL ret own) (hB : bd D cl N0 ws s H locs) (q0 t0 : Nat) (ha : ws[q0]? = some (a, .inl (cA, n, .inl f))) (ht : tys[t0]? = some (cA, .int)) (hin : vp_in i n) (hdg : decode cc pc = .ok (.iastore, 1)) (hws : ws.set q0 (a, .inl (cA, n, .inl (upd f i.toNatClampNeg x))) = ws')
    (kk : ∀ (H1 : Heap) (locs1 : List Loc), bd D cl N0 ws' s H1 locs1 → W p l e R s m args below meth c H1 locs1 cells slots Q (F0 m (pc + 1) ls rest)) : W p l e R s m args below meth c H locs cells slots Q (F0 m pc ls (.int x :: .int i :: .ref a :: rest)) := by
  subst hws
  exact va_iast hC.1 hC.2.1 hC.2.2.2.2.2.2.2.1.1 hB.1 hB.2.1 hB.2.2 q0 t0 ha ht hin hdg (fun H1 locs1 h1 h2 h3 => kk H1 locs1 ⟨h1, h2, h3⟩)
/-- what is known of a callee -/
def mf (Ts : List Cond) (C : String) (y : MethodName) (bytes : ByteArray) (maxL : Nat) (rt : Option FieldType) (n : Nat) : Prop :=
  Cond.code y bytes maxL rt ∈ Ts ∧ Cond.initialized C ∈ Ts ∧ y.cls = C ∧ y.cls ≠ "java/lang/invoke/MethodHandle" ∧ y.cls ≠ "java/lang/invoke/VarHandle" ∧ (parseMethodDescriptor y.desc).map (fun d => d.parameters.length) = some n
/-- a call of an object's method -/
theorem kV {C : String} {T : u_T} {N ci index n maxL mc ms b : Nat} {fs As : List Value} {y : MethodName} {bytes : ByteArray} {rt : Option FieldType} {rm : Room} {v : Option Value} (hC : cx D cl tys NW Ts N0 p s m args meth c cc nL ret own) (hB : bd D cl N0 ws s H locs) (q0 : Nat) (he : ws[q0]? = some (b, .inr (ci, fs))) (hc : cl[ci]? = some (C, T, N))
    (hM : Met l y (Cond.code y bytes maxL rt :: Ts) rm (pcx D cl tys NW N0 (.ref b :: As) ws) (qx D cl N0 v PW) mc ms (ga N0)) (hT : ∀ w ∈ Ts, goodWord w = true) (hF : mf Ts C y bytes maxL rt n) (hi : Cond.instanceMethod y ∈ Ts) (hs : Cond.selects C y y ∈ Ts) (hl : Cond.methodLink own index y ∈ Ts)
    (hrm : rm.cells = mc ∧ rm.slots = ms ∧ rm.frames + 1 ≤ R.frames ∧ 8 + (maxL + 11) + rm.locals ≤ R.locals) (hst : st0 = As.reverse ++ .ref b :: rest) (hn : As.length = n) (hsz : ls.size = nL) (hw8 : (rest.map fun v => v.category).sum ≤ 8) (hdg : decode cc pc = .ok (.invokevirtual index, 3)) (hf : cells + mc ≤ R.cells ∧ slots + ms ≤ R.slots)
    (kk : ∀ (H1 : Heap) (locs1 : List Loc) (ws1 : va_W), PW ws1 → bd D cl N0 ws1 s H1 locs1 → W p l e R s m args below meth c H1 locs1 (cells + mc) (slots + ms) Q (F0 m (pc + 3) ls (v.toList ++ rest))) : W p l e R s m args below meth c H locs cells slots Q (F0 m pc ls st0) := by
  obtain ⟨f1, f2, f3, f4, f5, f6⟩ := hF
  obtain ⟨r1, r2, r3, r4⟩ := hrm
  have hP := pcx_ok (av := .ref b :: As) hC hB
  have hG : GoodIn Ts (wsV own index C y (Cond.code y bytes maxL rt :: Ts)) := by
    intro w hw
    have hm : w ∈ Ts := by
      simp only [wsV, List.cons_append, List.nil_append, List.mem_cons] at hw
      rcases hw with h | h | h | h | h | h
      · rw [h]; exact hl
      · rw [h]; exact hi
      · rw [h]; exact hs
      · rw [h]; exact f2
      · rw [h]; exact f1
      · exact h
    exact ⟨hm, good_of_word (hT _ hm)⟩
  exact kc hB (va_runV (As := As) (rest := rest) (n := n) (C := C) (Ts := Ts) (own := own) ⟨hC.1, hC.2.1, hC.2.2.2.1, hC.2.2.2.2.1, hC.2.2.2.2.2.1⟩ hM (cwV n hC.2.2.2.2.2.1 hG rfl r1 r2 ⟨f3, f4, f5, f6⟩ ⟨r3, r4⟩) ⟨hP.1, va_recv hC.2.2.2.2.2.2.2.1.1 hB.1 hc he, hP.2⟩ rfl hn hsz hst (lv_room hw8) hdg hf) kk
/-- a call of a static method of the same class -/
theorem kS {index n maxL mc ms : Nat} {As : List Value} {y : MethodName} {bytes : ByteArray} {rt : Option FieldType} {rm : Room} {v : Option Value} (hC : cx D cl tys NW Ts N0 p s m args meth c cc nL ret own) (hB : bd D cl N0 ws s H locs)
    (hM : Met l y (Cond.code y bytes maxL rt :: Ts) rm (pcx D cl tys NW N0 As ws) (qx D cl N0 v PW) mc ms (ga N0)) (hT : ∀ w ∈ Ts, goodWord w = true) (hF : mf Ts own y bytes maxL rt n) (hi : Cond.static y ∈ Ts) (hl : Cond.methodLink own index y ∈ Ts)
    (hrm : rm.cells = mc ∧ rm.slots = ms ∧ rm.frames + 1 ≤ R.frames ∧ 8 + (maxL + 11) + rm.locals ≤ R.locals) (hst : st0 = As.reverse ++ rest) (hn : As.length = n) (hsz : ls.size = nL) (hw8 : (rest.map fun v => v.category).sum ≤ 8) (hdg : decode cc pc = .ok (.invokestatic index, 3)) (hf : cells + mc ≤ R.cells ∧ slots + ms ≤ R.slots)
    (kk : ∀ (H1 : Heap) (locs1 : List Loc) (ws1 : va_W), PW ws1 → bd D cl N0 ws1 s H1 locs1 → W p l e R s m args below meth c H1 locs1 (cells + mc) (slots + ms) Q (F0 m (pc + 3) ls (v.toList ++ rest))) : W p l e R s m args below meth c H locs cells slots Q (F0 m pc ls st0) := by
  obtain ⟨f1, f2, f3, f4, f5, f6⟩ := hF
  obtain ⟨r1, r2, r3, r4⟩ := hrm
  have hP := pcx_ok (av := As) hC hB
  have hG : GoodIn Ts (wsS own index y (Cond.code y bytes maxL rt :: Ts)) := by
    intro w hw
    have hm : w ∈ Ts := by
      simp only [wsS, List.cons_append, List.nil_append, List.mem_cons] at hw
      rcases hw with h | h | h | h | h
      · rw [h]; exact hl
      · rw [h]; exact hi
      · rw [h]; exact f2
      · rw [h]; exact f1
      · exact h
    exact ⟨hm, good_of_word (hT _ hm)⟩
  exact kc hB (va_runS (As := As) (rest := rest) (n := n) (Ts := Ts) (own := own) ⟨hC.1, hC.2.1, hC.2.2.2.1, hC.2.2.2.2.1, hC.2.2.2.2.2.1⟩ hM (cwS n hC.2.2.2.2.2.1 hG rfl r1 r2 ⟨f3, f4, f5, f6⟩ ⟨r3, r4⟩) ⟨hP.1, hP.2⟩ rfl hn hsz hst (lv_room hw8) hdg hf) kk
/-- a call of a private static method of a nest mate -/
theorem kSN {host : String} {index n maxL mc ms : Nat} {As : List Value} {y : MethodName} {C : String} {bytes : ByteArray} {rt : Option FieldType} {rm : Room} {v : Option Value} (hC : cx D cl tys NW Ts N0 p s m args meth c cc nL ret own) (hB : bd D cl N0 ws s H locs)
    (hM : Met l y (Cond.code y bytes maxL rt :: Ts) rm (pcx D cl tys NW N0 As ws) (qx D cl N0 v PW) mc ms (ga N0)) (hT : ∀ w ∈ Ts, goodWord w = true) (hF : mf Ts C y bytes maxL rt n) (hi : Cond.static y ∈ Ts) (hl : Cond.methodLinkNest own index y host ∈ NW)
    (hrm : rm.cells = mc ∧ rm.slots = ms ∧ rm.frames + 1 ≤ R.frames ∧ 8 + (maxL + 11) + rm.locals ≤ R.locals) (hst : st0 = As.reverse ++ rest) (hn : As.length = n) (hsz : ls.size = nL) (hw8 : (rest.map fun v => v.category).sum ≤ 8) (hdg : decode cc pc = .ok (.invokestatic index, 3)) (hf : cells + mc ≤ R.cells ∧ slots + ms ≤ R.slots)
    (kk : ∀ (H1 : Heap) (locs1 : List Loc) (ws1 : va_W), PW ws1 → bd D cl N0 ws1 s H1 locs1 → W p l e R s m args below meth c H1 locs1 (cells + mc) (slots + ms) Q (F0 m (pc + 3) ls (v.toList ++ rest))) : W p l e R s m args below meth c H locs cells slots Q (F0 m pc ls st0) := by
  obtain ⟨f1, f2, f3, f4, f5, f6⟩ := hF
  obtain ⟨r1, r2, r3, r4⟩ := hrm
  have hP := pcx_ok (av := As) hC hB
  exact kc hB (va_runSN (As := As) (rest := rest) (n := n) (Ts := Ts) (own := own) (host := host) ⟨hC.1, hC.2.1, hC.2.2.2.1, hC.2.2.2.2.1, hC.2.2.2.2.2.1⟩ hM ⟨va_cnB n hC.2.2.2.2.2.1 (good_all hT f1) rfl r1 r2 (hC.2.2.2.2.2.2.2.1.2 _ hl) (by rw [f3]; exact hC.2.2.2.2.2.1 _ f2) ⟨f4, f5, f6⟩ ⟨r3, r4⟩, hC.2.2.2.2.2.1 _ hi, trivial⟩ ⟨hP.1, hP.2⟩ rfl hn hsz hst (lv_room hw8) hdg hf) kk
/-- returns -/
theorem ri {v : Int32} (hC : cx D cl tys NW Ts N0 p s m args meth c cc nL (some .int) own) (hB : bd D cl N0 ws s H locs) (hp : PW ws) (hdg : decode cc pc = .ok (.ireturn, 1)) : W p l e R s m args below meth c H locs cells slots (MQ below (qx D cl N0 (some (.int v)) PW) args s cells slots (ga N0)) (F0 m pc ls [.int v]) :=
  W.iret hC.1 hC.2.1 hC.2.2.1 (fun t ht _ => ⟨rfl, ⟨_, hp, by rw [ht]; exact hB.1, hB.2.1⟩, hB.2.2.F ht⟩) hB.2.2.2.2 hdg hC.2.2.2.2.2.2.1
theorem rz {b : Bool} (hC : cx D cl tys NW Ts N0 p s m args meth c cc nL (some .boolean) own) (hB : bd D cl N0 ws s H locs) (hp : PW ws) (hdg : decode cc pc = .ok (.ireturn, 1)) : W p l e R s m args below meth c H locs cells slots (MQ below (qx D cl N0 (some (.int (bi b))) PW) args s cells slots (ga N0)) (F0 m pc ls [.int (bi b)]) :=
  W.zret hC.1 hC.2.1 hC.2.2.1 (bi_z b) (fun t ht _ => ⟨rfl, ⟨_, hp, by rw [ht]; exact hB.1, hB.2.1⟩, hB.2.2.F ht⟩) hB.2.2.2.2 hdg hC.2.2.2.2.2.2.1
theorem rl {v : Int64} (hC : cx D cl tys NW Ts N0 p s m args meth c cc nL (some .long) own) (hB : bd D cl N0 ws s H locs) (hp : PW ws) (hdg : decode cc pc = .ok (.lreturn, 1)) : W p l e R s m args below meth c H locs cells slots (MQ below (qx D cl N0 (some (.long v)) PW) args s cells slots (ga N0)) (F0 m pc ls [.long v]) :=
  W.lret hC.1 hC.2.1 hC.2.2.1 (fun t ht _ => ⟨rfl, ⟨_, hp, by rw [ht]; exact hB.1, hB.2.1⟩, hB.2.2.F ht⟩) hB.2.2.2.2 hdg hC.2.2.2.2.2.2.1
theorem rv (hC : cx D cl tys NW Ts N0 p s m args meth c cc nL none own) (hB : bd D cl N0 ws s H locs) (hp : PW ws) (hdg : decode cc pc = .ok (.return_, 1)) : W p l e R s m args below meth c H locs cells slots (MQ below (qx D cl N0 none PW) args s cells slots (ga N0)) (F0 m pc ls []) :=
  W.vret hC.1 hC.2.1 hC.2.2.1 (fun t ht _ => ⟨rfl, ⟨_, hp, by rw [ht]; exact hB.1, hB.2.1⟩, hB.2.2.F ht⟩) hB.2.2.2.2 hdg hC.2.2.2.2.2.2.1
end FW2
/-! loops: a counter that goes up to a bound, one that goes down below 0 -/
def upI (n : Nat) (b x : Int32) : Prop := 0 ≤ x.toInt ∧ x.toInt ≤ max 0 b.toInt ∧ max 0 b.toInt < x.toInt + n
theorem up_zero {b x : Int32} : ¬ upI 0 b x := by
  rintro ⟨_, h1, h2⟩
  omega
theorem i1_toInt {x : Int32} (h0 : 0 ≤ x.toInt) (h1 : x.toInt < 2147483647) : (x + 1).toInt = x.toInt + 1 := by
  have hx : ¬ x < 0 := by rw [Int32.lt_iff_toInt_lt]; show ¬ x.toInt < 0; omega
  obtain ⟨j, hj, rfl⟩ := nI_of hx
  rw [nI_toInt hj] at h1 ⊢
  rw [nI_1, nI_toInt (by omega)]
  omega
theorem up_step {n : Nat} {b x : Int32} (h : upI (n + 1) b x) (c : ¬ b ≤ x) : upI n b (x + 1) := by
  obtain ⟨h0, h1, h2⟩ := h
  rw [Int32.le_iff_toInt_le] at c
  have hb := b.toInt_lt
  have e := i1_toInt h0 (by omega)
  refine ⟨by omega, by omega, by omega⟩
theorem up_init (b : Int32) : upI (b.toNatClampNeg + 1) b 0 := by
  have h : (b.toNatClampNeg : Int) = max 0 b.toInt := by
    show ((b.toInt.toNat : Nat) : Int) = _
    omega
  refine ⟨by decide, ?_, ?_⟩
  · show (0 : Int) ≤ _
    omega
  · show max 0 b.toInt < (0 : Int) + _
    omega
def dnI (n : Nat) (x : Int32) : Prop := max (-1) x.toInt + 1 < n
theorem dn_zero {x : Int32} : ¬ dnI 0 x := by
  unfold dnI
  omega
theorem dn_step {n : Nat} {x : Int32} (h : dnI (n + 1) x) (c : ¬ x < 0) : dnI n (x + (-1)) := by
  unfold dnI at h ⊢
  obtain ⟨j, hj, rfl⟩ := nI_of c
  rw [nI_toInt hj] at h
  cases j with
  | zero =>
    have : (nI 0 + (-1) : Int32).toInt = -1 := by decide
    omega
  | succ j =>
    rw [pk_m1, nI_toInt (by omega)]
    omega
theorem dn_init (x : Int32) : dnI (x.toNatClampNeg + 2) x := by
  unfold dnI
  have h : (x.toNatClampNeg : Int) = max 0 x.toInt := by
    show ((x.toInt.toNat : Nat) : Int) = _
    omega
  omega
end
section
/-! names: classes, fields, methods; made by program -/
def R_ST : String := "SheetTrees"
def R_Change : String := "SheetTrees$Change"
def R_Journal : String := "SheetTrees$Journal"
def R_Row : String := "SheetTrees$Row"
def R_Sheets : String := "SheetTrees$Sheets"
def R_Book : String := "SheetTrees$Book"
def R_Parts : String := "SheetTrees$Parts"
def R_Variants : String := "SheetTrees$Variants"
def R_Mo : String := "SheetTreesModel"
def R_Law : String := "SheetTreesLaw"
def R_Arrays : String := "java/util/Arrays"
def F_ST : u_T := fun k => match k with
  | 0 => ("SheetTrees", "journal", "LSheetTrees$Journal;", true)
  | 1 => ("SheetTrees", "sheets", "LSheetTrees$Sheets;", true)
  | 2 => ("SheetTrees", "book", "LSheetTrees$Book;", true)
  | 3 => ("SheetTrees", "parts", "LSheetTrees$Parts;", true)
  | 4 => ("SheetTrees", "variants", "LSheetTrees$Variants;", true)
  | 5 => ("SheetTrees", "numbering", "LSheetTrees$Row;", true)
  | _ => ("SheetTrees", "lostNames", "I", false)
def t_ST : Nat → FieldType := fun k => match k with
  | 0 => .object "SheetTrees$Journal"
  | 1 => .object "SheetTrees$Sheets"
  | 2 => .object "SheetTrees$Book"
  | 3 => .object "SheetTrees$Parts"
  | 4 => .object "SheetTrees$Variants"
  | 5 => .object "SheetTrees$Row"
  | _ => .int
theorem n_ST : ∀ a, a < 7 → ∀ b, b < 7 → a ≠ b → (F_ST a).2.1 ≠ (F_ST b).2.1 := by decide +kernel
theorem t_ST_ok : ∀ k, k < 7 → parseFieldDescriptor (F_ST k).2.2.1 = some (t_ST k) := by decide +kernel
def F_Change : u_T := fun k => match k with
  | 0 => ("SheetTrees$Change", "row", "LSheetTrees$Row;", true)
  | 1 => ("SheetTrees$Change", "index", "I", true)
  | 2 => ("SheetTrees$Change", "old", "J", true)
  | _ => ("SheetTrees$Change", "before", "LSheetTrees$Change;", true)
def t_Change : Nat → FieldType := fun k => match k with
  | 0 => .object "SheetTrees$Row"
  | 1 => .int
  | 2 => .long
  | _ => .object "SheetTrees$Change"
theorem n_Change : ∀ a, a < 4 → ∀ b, b < 4 → a ≠ b → (F_Change a).2.1 ≠ (F_Change b).2.1 := by decide +kernel
theorem t_Change_ok : ∀ k, k < 4 → parseFieldDescriptor (F_Change k).2.2.1 = some (t_Change k) := by decide +kernel
def F_Journal : u_T := fun k => match k with
  | 0 => ("SheetTrees$Journal", "acts", "[LSheetTrees$Change;", true)
  | 1 => ("SheetTrees$Journal", "count", "I", false)
  | 2 => ("SheetTrees$Journal", "next", "I", false)
  | _ => ("SheetTrees$Journal", "open", "LSheetTrees$Change;", false)
def t_Journal : Nat → FieldType := fun k => match k with
  | 0 => .array (.object "SheetTrees$Change")
  | 1 => .int
  | 2 => .int
  | _ => .object "SheetTrees$Change"
theorem n_Journal : ∀ a, a < 4 → ∀ b, b < 4 → a ≠ b → (F_Journal a).2.1 ≠ (F_Journal b).2.1 := by decide +kernel
theorem t_Journal_ok : ∀ k, k < 4 → parseFieldDescriptor (F_Journal k).2.2.1 = some (t_Journal k) := by decide +kernel
def F_Row : u_T := fun k => match k with
  | 0 => ("SheetTrees$Row", "journal", "LSheetTrees$Journal;", true)
  | _ => ("SheetTrees$Row", "cells", "[J", true)
def t_Row : Nat → FieldType := fun k => match k with
  | 0 => .object "SheetTrees$Journal"
  | _ => .array .long
theorem n_Row : ∀ a, a < 2 → ∀ b, b < 2 → a ≠ b → (F_Row a).2.1 ≠ (F_Row b).2.1 := by decide +kernel
theorem t_Row_ok : ∀ k, k < 2 → parseFieldDescriptor (F_Row k).2.2.1 = some (t_Row k) := by decide +kernel
def F_Sheets : u_T := fun k => match k with
  | 0 => ("SheetTrees$Sheets", "counts", "LSheetTrees$Row;", true)
  | 1 => ("SheetTrees$Sheets", "nameSets", "LSheetTrees$Row;", true)
  | 2 => ("SheetTrees$Sheets", "shown", "LSheetTrees$Row;", true)
  | 3 => ("SheetTrees$Sheets", "parents", "LSheetTrees$Row;", true)
  | 4 => ("SheetTrees$Sheets", "following", "LSheetTrees$Row;", true)
  | _ => ("SheetTrees$Sheets", "joints", "LSheetTrees$Row;", true)
def t_Sheets : Nat → FieldType := fun k => match k with
  | 0 => .object "SheetTrees$Row"
  | 1 => .object "SheetTrees$Row"
  | 2 => .object "SheetTrees$Row"
  | 3 => .object "SheetTrees$Row"
  | 4 => .object "SheetTrees$Row"
  | _ => .object "SheetTrees$Row"
theorem n_Sheets : ∀ a, a < 6 → ∀ b, b < 6 → a ≠ b → (F_Sheets a).2.1 ≠ (F_Sheets b).2.1 := by decide +kernel
theorem t_Sheets_ok : ∀ k, k < 6 → parseFieldDescriptor (F_Sheets k).2.2.1 = some (t_Sheets k) := by decide +kernel
def F_Book : u_T := fun k => match k with
  | 0 => ("SheetTrees$Book", "sheets", "LSheetTrees$Sheets;", true)
  | 1 => ("SheetTrees$Book", "sheetRow", "[I", true)
  | 2 => ("SheetTrees$Book", "placementRow", "[I", true)
  | 3 => ("SheetTrees$Book", "aboveRow", "[I", true)
  | 4 => ("SheetTrees$Book", "depthRow", "[I", true)
  | 5 => ("SheetTrees$Book", "comingRow", "[I", true)
  | 6 => ("SheetTrees$Book", "comings", "[I", true)
  | _ => ("SheetTrees$Book", "count", "I", false)
def t_Book : Nat → FieldType := fun k => match k with
  | 0 => .object "SheetTrees$Sheets"
  | 1 => .array .int
  | 2 => .array .int
  | 3 => .array .int
  | 4 => .array .int
  | 5 => .array .int
  | 6 => .array .int
  | _ => .int
theorem n_Book : ∀ a, a < 8 → ∀ b, b < 8 → a ≠ b → (F_Book a).2.1 ≠ (F_Book b).2.1 := by decide +kernel
theorem t_Book_ok : ∀ k, k < 8 → parseFieldDescriptor (F_Book k).2.2.1 = some (t_Book k) := by decide +kernel
def F_Parts : u_T := fun k => match k with
  | 0 => ("SheetTrees$Parts", "book", "LSheetTrees$Book;", true)
  | 1 => ("SheetTrees$Parts", "size", "LSheetTrees$Row;", true)
  | 2 => ("SheetTrees$Parts", "letters", "LSheetTrees$Row;", true)
  | 3 => ("SheetTrees$Parts", "gateCounts", "LSheetTrees$Row;", true)
  | 4 => ("SheetTrees$Parts", "lying", "LSheetTrees$Row;", true)
  | 5 => ("SheetTrees$Parts", "gateLists", "LSheetTrees$Row;", true)
  | 6 => ("SheetTrees$Parts", "listLengths", "LSheetTrees$Row;", true)
  | _ => ("SheetTrees$Parts", "marks", "[I", true)
def t_Parts : Nat → FieldType := fun k => match k with
  | 0 => .object "SheetTrees$Book"
  | 1 => .object "SheetTrees$Row"
  | 2 => .object "SheetTrees$Row"
  | 3 => .object "SheetTrees$Row"
  | 4 => .object "SheetTrees$Row"
  | 5 => .object "SheetTrees$Row"
  | 6 => .object "SheetTrees$Row"
  | _ => .array .int
theorem n_Parts : ∀ a, a < 8 → ∀ b, b < 8 → a ≠ b → (F_Parts a).2.1 ≠ (F_Parts b).2.1 := by decide +kernel
theorem t_Parts_ok : ∀ k, k < 8 → parseFieldDescriptor (F_Parts k).2.2.1 = some (t_Parts k) := by decide +kernel
def F_Variants : u_T := fun k => match k with
  | 0 => ("SheetTrees$Variants", "book", "LSheetTrees$Book;", true)
  | 1 => ("SheetTrees$Variants", "counts", "LSheetTrees$Row;", true)
  | 2 => ("SheetTrees$Variants", "aboves", "LSheetTrees$Row;", true)
  | 3 => ("SheetTrees$Variants", "subjects", "LSheetTrees$Row;", true)
  | 4 => ("SheetTrees$Variants", "contents", "LSheetTrees$Row;", true)
  | 5 => ("SheetTrees$Variants", "depths", "LSheetTrees$Row;", true)
  | _ => ("SheetTrees$Variants", "paths", "LSheetTrees$Row;", true)
def t_Variants : Nat → FieldType := fun k => match k with
  | 0 => .object "SheetTrees$Book"
  | 1 => .object "SheetTrees$Row"
  | 2 => .object "SheetTrees$Row"
  | 3 => .object "SheetTrees$Row"
  | 4 => .object "SheetTrees$Row"
  | 5 => .object "SheetTrees$Row"
  | _ => .object "SheetTrees$Row"
theorem n_Variants : ∀ a, a < 7 → ∀ b, b < 7 → a ≠ b → (F_Variants a).2.1 ≠ (F_Variants b).2.1 := by decide +kernel
theorem t_Variants_ok : ∀ k, k < 7 → parseFieldDescriptor (F_Variants k).2.2.1 = some (t_Variants k) := by decide +kernel
def F_Mo : u_T := fun k => match k with
  | 0 => ("SheetTreesModel", "thrown", "I", false)
  | 1 => ("SheetTreesModel", "now", "[J", true)
  | 2 => ("SheetTreesModel", "before", "[J", true)
  | 3 => ("SheetTreesModel", "kept", "[J", true)
  | 4 => ("SheetTreesModel", "keptCount", "I", false)
  | 5 => ("SheetTreesModel", "keptFirst", "I", false)
  | 6 => ("SheetTreesModel", "lost", "I", false)
  | 7 => ("SheetTreesModel", "fresh", "Z", false)
  | 8 => ("SheetTreesModel", "pages", "I", false)
  | 9 => ("SheetTreesModel", "pageSheet", "[I", true)
  | 10 => ("SheetTreesModel", "pagePlacement", "[I", true)
  | 11 => ("SheetTreesModel", "pageFrom", "[I", true)
  | 12 => ("SheetTreesModel", "pageDepth", "[I", true)
  | 13 => ("SheetTreesModel", "path", "[I", true)
  | 14 => ("SheetTreesModel", "stackPage", "[I", true)
  | 15 => ("SheetTreesModel", "stackKey", "[J", true)
  | 16 => ("SheetTreesModel", "twin", "[I", true)
  | 17 => ("SheetTreesModel", "firstPage", "I", false)
  | _ => ("SheetTreesModel", "firstPlace", "J", false)
def t_Mo : Nat → FieldType := fun k => match k with
  | 0 => .int
  | 1 => .array .long
  | 2 => .array .long
  | 3 => .array .long
  | 4 => .int
  | 5 => .int
  | 6 => .int
  | 7 => .boolean
  | 8 => .int
  | 9 => .array .int
  | 10 => .array .int
  | 11 => .array .int
  | 12 => .array .int
  | 13 => .array .int
  | 14 => .array .int
  | 15 => .array .long
  | 16 => .array .int
  | 17 => .int
  | _ => .long
theorem n_Mo : ∀ a, a < 19 → ∀ b, b < 19 → a ≠ b → (F_Mo a).2.1 ≠ (F_Mo b).2.1 := by decide +kernel
theorem t_Mo_ok : ∀ k, k < 19 → parseFieldDescriptor (F_Mo k).2.2.1 = some (t_Mo k) := by decide +kernel
abbrev classes : List vw_C := [(R_ST, F_ST, 7), (R_Change, F_Change, 4), (R_Journal, F_Journal, 4), (R_Row, F_Row, 2), (R_Sheets, F_Sheets, 6), (R_Book, F_Book, 8), (R_Parts, F_Parts, 8), (R_Variants, F_Variants, 7), (R_Mo, F_Mo, 19)]
abbrev CI_ST : Nat := 0
abbrev CI_Change : Nat := 1
abbrev CI_Journal : Nat := 2
abbrev CI_Row : Nat := 3
abbrev CI_Sheets : Nat := 4
abbrev CI_Book : Nat := 5
abbrev CI_Parts : Nat := 6
abbrev CI_Variants : Nat := 7
abbrev CI_Mo : Nat := 8
def ALLW : List Cond := lw_tbl.filter goodWord
theorem allw_ok : ∀ w ∈ ALLW, goodWord w = true := fun w h => (List.mem_filter.mp h).2
theorem i_ST : ∀ w ∈ u_ws R_ST F_ST 7, w ∈ ALLW := by
  have h : u_ws R_ST F_ST 7 = [260, 262, 264, 266, 268, 270, 272].filterMap (fun i => tables_1[i]?) := by decide +kernel
  intro w hw
  refine List.mem_filter.mpr ⟨List.mem_append_right _ ?_, List.all_eq_true.mp (show (u_ws R_ST F_ST 7).all goodWord = true by decide +kernel) w hw⟩
  rw [h] at hw
  obtain ⟨i, -, hi⟩ := List.mem_filterMap.mp hw
  exact List.mem_of_getElem? hi
theorem i_Change : ∀ w ∈ u_ws R_Change F_Change 4, w ∈ ALLW := by
  have h : u_ws R_Change F_Change 4 = [311, 313, 315, 317].filterMap (fun i => tables_1[i]?) := by decide +kernel
  intro w hw
  refine List.mem_filter.mpr ⟨List.mem_append_right _ ?_, List.all_eq_true.mp (show (u_ws R_Change F_Change 4).all goodWord = true by decide +kernel) w hw⟩
  rw [h] at hw
  obtain ⟨i, -, hi⟩ := List.mem_filterMap.mp hw
  exact List.mem_of_getElem? hi
theorem i_Journal : ∀ w ∈ u_ws R_Journal F_Journal 4, w ∈ ALLW := by
  have h : u_ws R_Journal F_Journal 4 = [37, 39, 41, 43].filterMap (fun i => tables_1[i]?) := by decide +kernel
  intro w hw
  refine List.mem_filter.mpr ⟨List.mem_append_right _ ?_, List.all_eq_true.mp (show (u_ws R_Journal F_Journal 4).all goodWord = true by decide +kernel) w hw⟩
  rw [h] at hw
  obtain ⟨i, -, hi⟩ := List.mem_filterMap.mp hw
  exact List.mem_of_getElem? hi
theorem i_Row : ∀ w ∈ u_ws R_Row F_Row 2, w ∈ ALLW := by
  have h : u_ws R_Row F_Row 2 = [66, 68].filterMap (fun i => tables_1[i]?) := by decide +kernel
  intro w hw
  refine List.mem_filter.mpr ⟨List.mem_append_right _ ?_, List.all_eq_true.mp (show (u_ws R_Row F_Row 2).all goodWord = true by decide +kernel) w hw⟩
  rw [h] at hw
  obtain ⟨i, -, hi⟩ := List.mem_filterMap.mp hw
  exact List.mem_of_getElem? hi
theorem i_Sheets : ∀ w ∈ u_ws R_Sheets F_Sheets 6, w ∈ ALLW := by
  have h : u_ws R_Sheets F_Sheets 6 = [83, 85, 87, 89, 91, 93].filterMap (fun i => tables_1[i]?) := by decide +kernel
  intro w hw
  refine List.mem_filter.mpr ⟨List.mem_append_right _ ?_, List.all_eq_true.mp (show (u_ws R_Sheets F_Sheets 6).all goodWord = true by decide +kernel) w hw⟩
  rw [h] at hw
  obtain ⟨i, -, hi⟩ := List.mem_filterMap.mp hw
  exact List.mem_of_getElem? hi
theorem i_Book : ∀ w ∈ u_ws R_Book F_Book 8, w ∈ ALLW := by
  have h : u_ws R_Book F_Book 8 = [110, 112, 114, 116, 118, 120, 122, 124].filterMap (fun i => tables_1[i]?) := by decide +kernel
  intro w hw
  refine List.mem_filter.mpr ⟨List.mem_append_right _ ?_, List.all_eq_true.mp (show (u_ws R_Book F_Book 8).all goodWord = true by decide +kernel) w hw⟩
  rw [h] at hw
  obtain ⟨i, -, hi⟩ := List.mem_filterMap.mp hw
  exact List.mem_of_getElem? hi
theorem i_Parts : ∀ w ∈ u_ws R_Parts F_Parts 8, w ∈ ALLW := by
  have h : u_ws R_Parts F_Parts 8 = [145, 147, 149, 151, 153, 155, 157, 159].filterMap (fun i => tables_1[i]?) := by decide +kernel
  intro w hw
  refine List.mem_filter.mpr ⟨List.mem_append_right _ ?_, List.all_eq_true.mp (show (u_ws R_Parts F_Parts 8).all goodWord = true by decide +kernel) w hw⟩
  rw [h] at hw
  obtain ⟨i, -, hi⟩ := List.mem_filterMap.mp hw
  exact List.mem_of_getElem? hi
theorem i_Variants : ∀ w ∈ u_ws R_Variants F_Variants 7, w ∈ ALLW := by
  have h : u_ws R_Variants F_Variants 7 = [178, 180, 182, 184, 186, 188, 190].filterMap (fun i => tables_1[i]?) := by decide +kernel
  intro w hw
  refine List.mem_filter.mpr ⟨List.mem_append_right _ ?_, List.all_eq_true.mp (show (u_ws R_Variants F_Variants 7).all goodWord = true by decide +kernel) w hw⟩
  rw [h] at hw
  obtain ⟨i, -, hi⟩ := List.mem_filterMap.mp hw
  exact List.mem_of_getElem? hi
theorem i_Mo : ∀ w ∈ u_ws R_Mo F_Mo 19, w ∈ ALLW := by
  have h : u_ws R_Mo F_Mo 19 = [899, 901, 903, 905, 907, 909, 911, 913, 915, 917, 919, 921, 923, 925, 927, 929, 931, 933, 935].filterMap (fun i => tables_1[i]?) := by decide +kernel
  intro w hw
  refine List.mem_filter.mpr ⟨List.mem_append_right _ ?_, List.all_eq_true.mp (show (u_ws R_Mo F_Mo 19).all goodWord = true by decide +kernel) w hw⟩
  rw [h] at hw
  obtain ⟨i, -, hi⟩ := List.mem_filterMap.mp hw
  exact List.mem_of_getElem? hi
def NWL : List Cond := [(Jvm.Cond.methodLinkNest "SheetTrees" (11 : Nat) ({ cls := "SheetTrees$Journal", name := "<init>", desc := "()V" } : Jvm.MethodName) "SheetTrees"), (Jvm.Cond.methodLinkNest "SheetTrees$Book" (72 : Nat) ({ cls := "SheetTrees", name := "write", desc := "([III)V" } : Jvm.MethodName) "SheetTrees"), (Jvm.Cond.methodLinkNest "SheetTrees$Book" (79 : Nat) ({ cls := "SheetTrees", name := "read", desc := "([II)I" } : Jvm.MethodName) "SheetTrees"), (Jvm.Cond.fieldLinkNest "SheetTrees$Journal" (44 : Nat) "SheetTrees$Change" "before" "LSheetTrees$Change;" "SheetTrees"), (Jvm.Cond.methodLinkNest "SheetTrees$Sheets" (106 : Nat) ({ cls := "SheetTrees", name := "holdsName", desc := "(II)Z" } : Jvm.MethodName) "SheetTrees"), (Jvm.Cond.methodLinkNest "SheetTrees$Parts" (69 : Nat) ({ cls := "SheetTrees", name := "read", desc := "([II)I" } : Jvm.MethodName) "SheetTrees"), (Jvm.Cond.methodLinkNest "SheetTrees$Parts" (73 : Nat) ({ cls := "SheetTrees", name := "write", desc := "([III)V" } : Jvm.MethodName) "SheetTrees")]
theorem nw_0 : (Jvm.Cond.methodLinkNest "SheetTrees" (11 : Nat) ({ cls := "SheetTrees$Journal", name := "<init>", desc := "()V" } : Jvm.MethodName) "SheetTrees") ∈ NWL := List.mem_of_getElem? (i := 0) rfl
theorem nw_1 : (Jvm.Cond.methodLinkNest "SheetTrees$Book" (72 : Nat) ({ cls := "SheetTrees", name := "write", desc := "([III)V" } : Jvm.MethodName) "SheetTrees") ∈ NWL := List.mem_of_getElem? (i := 1) rfl
theorem nw_2 : (Jvm.Cond.methodLinkNest "SheetTrees$Book" (79 : Nat) ({ cls := "SheetTrees", name := "read", desc := "([II)I" } : Jvm.MethodName) "SheetTrees") ∈ NWL := List.mem_of_getElem? (i := 2) rfl
theorem nw_3 : (Jvm.Cond.fieldLinkNest "SheetTrees$Journal" (44 : Nat) "SheetTrees$Change" "before" "LSheetTrees$Change;" "SheetTrees") ∈ NWL := List.mem_of_getElem? (i := 3) rfl
theorem nw_4 : (Jvm.Cond.methodLinkNest "SheetTrees$Sheets" (106 : Nat) ({ cls := "SheetTrees", name := "holdsName", desc := "(II)Z" } : Jvm.MethodName) "SheetTrees") ∈ NWL := List.mem_of_getElem? (i := 4) rfl
theorem nw_5 : (Jvm.Cond.methodLinkNest "SheetTrees$Parts" (69 : Nat) ({ cls := "SheetTrees", name := "read", desc := "([II)I" } : Jvm.MethodName) "SheetTrees") ∈ NWL := List.mem_of_getElem? (i := 5) rfl
theorem nw_6 : (Jvm.Cond.methodLinkNest "SheetTrees$Parts" (73 : Nat) ({ cls := "SheetTrees", name := "write", desc := "([III)V" } : Jvm.MethodName) "SheetTrees") ∈ NWL := List.mem_of_getElem? (i := 6) rfl
end
section
/-! THE CLASS'S WORLD: its cells as a function of an abstract value -/
abbrev Chg : Type := Nat × Int32 × Int64
/-- rows of longs, rows of ints, numbers (0 journal.count, 1 journal.next, 2 book.count, 3 lostNames), the acts' changes, the open act's changes -/
abbrev SC : Type := (Nat → Nat → Int64) × (Nat → Nat → Int32) × (Nat → Int32) × (Nat → List Chg) × List Chg
def xL (σ : SC) : Nat → Nat → Int64 := σ.1
def xI (σ : SC) : Nat → Nat → Int32 := σ.2.1
def xn (σ : SC) : Nat → Int32 := σ.2.2.1
def xa (σ : SC) : Nat → List Chg := σ.2.2.2.1
def xo (σ : SC) : List Chg := σ.2.2.2.2
def zL (σ : SC) (k i : Nat) (v : Int64) : SC := (va_up σ.1 k (vp_updL (σ.1 k) i v), σ.2)
def zI (σ : SC) (k i : Nat) (v : Int32) : SC := (σ.1, va_up σ.2.1 k (upd (σ.2.1 k) i v), σ.2.2)
def zIf (σ : SC) (k : Nat) (f : Nat → Int32) : SC := (σ.1, va_up σ.2.1 k f, σ.2.2)
def zn (σ : SC) (k : Nat) (v : Int32) : SC := (σ.1, σ.2.1, va_up σ.2.2.1 k v, σ.2.2.2)
def za (σ : SC) (k : Nat) (v : List Chg) : SC := (σ.1, σ.2.1, σ.2.2.1, va_up σ.2.2.2.1 k v, σ.2.2.2.2)
def zo (σ : SC) (v : List Chg) : SC := (σ.1, σ.2.1, σ.2.2.1, σ.2.2.2.1, v)
/-- where the changes lie: their addresses, what they hold, the acts' first ones, the open act's first one -/
abbrev PJ : Type := List Nat × (Nat → Nat × Int32 × Int64 × Option Nat) × (Nat → Option Nat) × Option Nat
/-- a chain of changes -/
def ch (LP : List Nat) (cg : Nat → Nat × Int32 × Int64 × Option Nat) : Option Nat → List Chg → Prop
  | o, [] => o = none
  | o, x :: t => ∃ (a : Nat) (b : Option Nat), o = some a ∧ a ∈ LP ∧ cg a = (x.1, x.2.1, x.2.2, b) ∧ x.1 < 19 ∧ ch LP cg b t
def RJ (π : PJ) (σ : SC) : Prop := ch π.1 π.2.1 π.2.2.2 (xo σ) ∧ ∀ j, ch π.1 π.2.1 (π.2.2.1 j) (xa σ j)
theorem ch_push {LP : List Nat} {cg : Nat → Nat × Int32 × Int64 × Option Nat} {q : Nat} {c : Nat × Int32 × Int64 × Option Nat} (hq : q ∉ LP) : ∀ {t : List Chg} {o : Option Nat}, ch LP cg o t → ch (LP ++ [q]) (va_up cg q c) o t
  | [], _, h => h
  | _ :: _, _, h => by
    obtain ⟨a, b, h1, h2, h3, h4, h5⟩ := h
    exact ⟨a, b, h1, List.mem_append_left _ h2, by rw [va_up_ne cg c (fun e : a = q => hq (e ▸ h2))]; exact h3, h4, ch_push hq h5⟩
def lnR : Nat → Nat
  | 0 => 2
  | 1 => 24
  | 2 => 60
  | 3 => 60
  | 4 => 84
  | 5 => 1920
  | 6 => 1
  | 7 => 30
  | 8 => 30
  | 9 => 240
  | 10 => 480
  | 11 => 24
  | 12 => 2
  | 13 => 10
  | 14 => 40
  | 15 => 40
  | 16 => 40
  | 17 => 920
  | 18 => 1
  | _ => 0
def lnI : Nat → Nat
  | 0 => 301
  | 1 => 301
  | 2 => 301
  | 3 => 301
  | 4 => 301
  | 5 => 24
  | 6 => 30
  | _ => 0
theorem lnR_lt (k : Nat) : lnR k < 2 ^ 31 := by unfold lnR; split <;> decide
theorem lnI_lt (k : Nat) : lnI k < 2 ^ 31 := by unfold lnI; split <;> decide
theorem vin {i : Int32} {n : Nat} (h0 : ¬ i < 0) (h1 : ¬ nI n ≤ i) (hn : n < 2 ^ 31) : vp_in i n := by
  obtain ⟨j, hj, rfl, -⟩ := pk_mu h0 h1 hn
  exact vp_in_nI hj hn
theorem sg_get {α : Type} {A B : List α} {f : Nat → α} {n k : Nat} (hk : k < n) : (A ++ ((List.range n).map f ++ B))[A.length + k]? = some (f k) := by
  rw [List.getElem?_append_right (by omega), Nat.add_sub_cancel_left, List.getElem?_append_left (by simp; omega)]
  simp [hk]
theorem sg_set {α : Type} {A B : List α} {f : Nat → α} {n k : Nat} {x : α} (hk : k < n) : (A ++ ((List.range n).map f ++ B)).set (A.length + k) x = A ++ ((List.range n).map (va_up f k x) ++ B) := by
  rw [List.set_append_right _ _ (by omega), Nat.add_sub_cancel_left, List.set_append_left _ _ (by simp; omega)]
  congr 2
  apply List.ext_getElem?
  intro j
  by_cases hj : j < n
  · by_cases h : j = k
    · subst h
      rw [List.getElem?_set_self (by simp; omega)]
      simp [hj, va_up]
    · rw [List.getElem?_set_ne (Ne.symm h)]
      simp [hj, va_up, h]
  · rw [List.getElem?_eq_none (by simp; omega), List.getElem?_eq_none (by simp; omega)]

/-- the cells -/
def obC (G : Nat → Nat → Nat) (cQ : ClassId) (σ : SC) (π : PJ) : va_W := [
  (G 0 0, .inr (CI_ST, [.ref (G 0 1), .ref (G 0 3), .ref (G 0 4), .ref (G 0 5), .ref (G 0 6), .ref (G 1 18), .int (xn σ 3)])),
  (G 0 1, .inr (CI_Journal, [.ref (G 0 2), .int (xn σ 0), .int (xn σ 1), va_rf π.2.2.2])),
  (G 0 2, .inl (cQ, 50, .inr (.inr (.inr (.inr π.2.2.1))))),
  (G 0 3, .inr (CI_Sheets, [.ref (G 1 0), .ref (G 1 1), .ref (G 1 2), .ref (G 1 3), .ref (G 1 4), .ref (G 1 5)])),
  (G 0 4, .inr (CI_Book, [.ref (G 0 3), .ref (G 3 0), .ref (G 3 1), .ref (G 3 2), .ref (G 3 3), .ref (G 3 4), .ref (G 3 5), .int (xn σ 2)])),
  (G 0 5, .inr (CI_Parts, [.ref (G 0 4), .ref (G 1 6), .ref (G 1 7), .ref (G 1 8), .ref (G 1 9), .ref (G 1 10), .ref (G 1 11), .ref (G 3 6)])),
  (G 0 6, .inr (CI_Variants, [.ref (G 0 4), .ref (G 1 12), .ref (G 1 13), .ref (G 1 14), .ref (G 1 15), .ref (G 1 16), .ref (G 1 17)]))]
def iaC (G : Nat → Nat → Nat) (cI : ClassId) (σ : SC) (j : Nat) : Nat × va_E := (G 3 j, .inl (cI, lnI j, .inl (xI σ j)))
def rwC (G : Nat → Nat → Nat) (k : Nat) : Nat × va_E := (G 1 k, .inr (CI_Row, [.ref (G 0 1), .ref (G 2 k)]))
def laC (G : Nat → Nat → Nat) (cL : ClassId) (σ : SC) (k : Nat) : Nat × va_E := (G 2 k, .inl (cL, lnR k, .inr (.inl (xL σ k))))
def cgC (G : Nat → Nat → Nat) (π : PJ) (a : Nat) : va_E := .inr (CI_Change, [.ref (G 1 (π.2.1 a).1), .int (π.2.1 a).2.1, .long (π.2.1 a).2.2.1, va_rf (π.2.1 a).2.2.2])
def wsC (G : Nat → Nat → Nat) (cI cL cQ : ClassId) (σ : SC) (π : PJ) (rest : va_W) : va_W :=
  obC G cQ σ π ++ ((List.range 7).map (iaC G cI σ) ++ ((List.range 19).map (rwC G) ++ ((List.range 19).map (laC G cL σ) ++ (rest ++ va_pl π.1 (cgC G π)))))
def pwC (G : Nat → Nat → Nat) (cI cL cQ : ClassId) (σ : SC) (rest : va_W) : va_W → Prop := fun w => ∃ π, RJ π σ ∧ w = wsC G cI cL cQ σ π rest
section LKC
variable {G : Nat → Nat → Nat} {cI cL cQ : ClassId} {σ : SC} {π : PJ} {rest : va_W}
theorem lkC_ST : (wsC G cI cL cQ σ π rest)[0]? = some (G 0 0, .inr (CI_ST, [.ref (G 0 1), .ref (G 0 3), .ref (G 0 4), .ref (G 0 5), .ref (G 0 6), .ref (G 1 18), .int (xn σ 3)])) := rfl
theorem lkC_Journal : (wsC G cI cL cQ σ π rest)[1]? = some (G 0 1, .inr (CI_Journal, [.ref (G 0 2), .int (xn σ 0), .int (xn σ 1), va_rf π.2.2.2])) := rfl
theorem lkC_acts : (wsC G cI cL cQ σ π rest)[2]? = some (G 0 2, .inl (cQ, 50, .inr (.inr (.inr (.inr π.2.2.1))))) := rfl
theorem lkC_Sheets : (wsC G cI cL cQ σ π rest)[3]? = some (G 0 3, .inr (CI_Sheets, [.ref (G 1 0), .ref (G 1 1), .ref (G 1 2), .ref (G 1 3), .ref (G 1 4), .ref (G 1 5)])) := rfl
theorem lkC_Book : (wsC G cI cL cQ σ π rest)[4]? = some (G 0 4, .inr (CI_Book, [.ref (G 0 3), .ref (G 3 0), .ref (G 3 1), .ref (G 3 2), .ref (G 3 3), .ref (G 3 4), .ref (G 3 5), .int (xn σ 2)])) := rfl
theorem lkC_Parts : (wsC G cI cL cQ σ π rest)[5]? = some (G 0 5, .inr (CI_Parts, [.ref (G 0 4), .ref (G 1 6), .ref (G 1 7), .ref (G 1 8), .ref (G 1 9), .ref (G 1 10), .ref (G 1 11), .ref (G 3 6)])) := rfl
theorem lkC_Variants : (wsC G cI cL cQ σ π rest)[6]? = some (G 0 6, .inr (CI_Variants, [.ref (G 0 4), .ref (G 1 12), .ref (G 1 13), .ref (G 1 14), .ref (G 1 15), .ref (G 1 16), .ref (G 1 17)])) := rfl
theorem lkC_iarr {j : Nat} (hj : j < 7) : (wsC G cI cL cQ σ π rest)[7 + j]? = some (G 3 j, .inl (cI, lnI j, .inl (xI σ j))) := sg_get (A := obC G cQ σ π) hj
theorem lkC_row {k : Nat} (hk : k < 19) : (wsC G cI cL cQ σ π rest)[14 + k]? = some (G 1 k, .inr (CI_Row, [.ref (G 0 1), .ref (G 2 k)])) := by
  have h := sg_get (A := obC G cQ σ π ++ (List.range 7).map (iaC G cI σ)) (f := rwC G) (B := (List.range 19).map (laC G cL σ) ++ (rest ++ va_pl π.1 (cgC G π))) hk
  rw [List.append_assoc] at h
  exact h
theorem lkC_larr {k : Nat} (hk : k < 19) : (wsC G cI cL cQ σ π rest)[33 + k]? = some (G 2 k, .inl (cL, lnR k, .inr (.inl (xL σ k)))) := by
  have h := sg_get (A := obC G cQ σ π ++ ((List.range 7).map (iaC G cI σ) ++ (List.range 19).map (rwC G))) (f := laC G cL σ) (B := rest ++ va_pl π.1 (cgC G π)) hk
  rw [List.append_assoc, List.append_assoc] at h
  exact h
theorem setC_iarr {j : Nat} (hj : j < 7) (i : Nat) (v : Int32) : (wsC G cI cL cQ σ π rest).set (7 + j) (G 3 j, .inl (cI, lnI j, .inl (upd (xI σ j) i v))) = wsC G cI cL cQ (zI σ j i v) π rest := by
  have h := sg_set (A := obC G cQ σ π) (f := iaC G cI σ) (B := (List.range 19).map (rwC G) ++ ((List.range 19).map (laC G cL σ) ++ (rest ++ va_pl π.1 (cgC G π)))) (x := (G 3 j, .inl (cI, lnI j, .inl (upd (xI σ j) i v)))) hj
  refine h.trans ?_
  have hf : va_up (iaC G cI σ) j (G 3 j, .inl (cI, lnI j, .inl (upd (xI σ j) i v))) = iaC G cI (zI σ j i v) := by
    funext q
    by_cases hq : q = j
    · subst hq; simp [va_up, iaC, xI, zI]
    · simp [va_up, iaC, xI, zI, hq]
  rw [hf]
  rfl
theorem setC_larr {k : Nat} (hk : k < 19) (i : Nat) (v : Int64) : (wsC G cI cL cQ σ π rest).set (33 + k) (G 2 k, .inl (cL, lnR k, .inr (.inl (vp_updL (xL σ k) i v)))) = wsC G cI cL cQ (zL σ k i v) π rest := by
  have h := sg_set (A := obC G cQ σ π ++ ((List.range 7).map (iaC G cI σ) ++ (List.range 19).map (rwC G))) (f := laC G cL σ) (B := rest ++ va_pl π.1 (cgC G π)) (x := (G 2 k, .inl (cL, lnR k, .inr (.inl (vp_updL (xL σ k) i v))))) hk
  rw [List.append_assoc, List.append_assoc] at h
  refine h.trans ?_
  have hf : va_up (laC G cL σ) k (G 2 k, .inl (cL, lnR k, .inr (.inl (vp_updL (xL σ k) i v)))) = laC G cL (zL σ k i v) := by
    funext q
    by_cases hq : q = k
    · subst hq; simp [va_up, laC, xL, zL]
    · simp [va_up, laC, xL, zL, hq]
  rw [hf, List.append_assoc, List.append_assoc]
  rfl
end LKC

theorem nwl_ok : ∀ w ∈ NWL, nwOk w = true := by decide
def tyL (cI cL cQ : ClassId) : List (ClassId × FieldType) := [(cI, .int), (cL, .long), (cQ, .object "SheetTrees$Change")]
abbrev CM (l : Launch) (y : MethodName) (bytes : ByteArray) (maxL : Nat) (rt : Option FieldType) (rm : Room) (D : va_G) (tys : List (ClassId × FieldType)) (N0 : Nat) (av : List Value) (ws : va_W) (v : Option Value) (PW : va_W → Prop) (mc ms : Nat) : Prop :=
  Met l y (Cond.code y bytes maxL rt :: ALLW) rm (pcx D classes tys NWL N0 av ws) (qx D classes N0 v PW) mc ms (ga N0)
section RO
variable {D : va_G} {cl : List vw_C} {N0 : Nat} {ws : va_W} {s : State}
theorem roK {X : Heap → List Loc → Prop} (h : ∀ (H : Heap) (locs : List Loc), bd D cl N0 ws s H locs → X H locs) : ∀ (H : Heap) (locs : List Loc) (w : va_W), w = ws → bd D cl N0 w s H locs → X H locs := fun H locs _ e hB => h H locs (e ▸ hB)
end RO
abbrev b_Row_longAt : ByteArray := prog_6_method_2_code
def y_Row_longAt : MethodName := ⟨"SheetTrees$Row", "longAt", "(I)J"⟩
abbrev b_Row_at : ByteArray := prog_6_method_3_code
def y_Row_at : MethodName := ⟨"SheetTrees$Row", "at", "(I)I"⟩
abbrev b_Row_restore : ByteArray := prog_6_method_5_code
def y_Row_restore : MethodName := ⟨"SheetTrees$Row", "restore", "(IJ)V"⟩
abbrev b_ST_holdsName : ByteArray := prog_1_method_37_code
def y_ST_holdsName : MethodName := ⟨"SheetTrees", "holdsName", "(II)Z"⟩
abbrev b_ST_read : ByteArray := prog_1_method_38_code
def y_ST_read : MethodName := ⟨"SheetTrees", "read", "([II)I"⟩
abbrev b_ST_write : ByteArray := prog_1_method_39_code
def y_ST_write : MethodName := ⟨"SheetTrees", "write", "([III)V"⟩
abbrev b_Sheets_sheetCount : ByteArray := prog_7_method_2_code
def y_Sheets_sheetCount : MethodName := ⟨"SheetTrees$Sheets", "sheetCount", "()I"⟩
abbrev b_Sheets_placementsLeft : ByteArray := prog_7_method_3_code
def y_Sheets_placementsLeft : MethodName := ⟨"SheetTrees$Sheets", "placementsLeft", "()I"⟩
abbrev b_Sheets_isSheet : ByteArray := prog_7_method_4_code
def y_Sheets_isSheet : MethodName := ⟨"SheetTrees$Sheets", "isSheet", "(I)Z"⟩
abbrev b_Sheets_parentOf : ByteArray := prog_7_method_7_code
def y_Sheets_parentOf : MethodName := ⟨"SheetTrees$Sheets", "parentOf", "(I)I"⟩
abbrev b_Sheets_isPlacement : ByteArray := prog_7_method_5_code
def y_Sheets_isPlacement : MethodName := ⟨"SheetTrees$Sheets", "isPlacement", "(I)Z"⟩
abbrev b_Sheets_sheetOf : ByteArray := prog_7_method_6_code
def y_Sheets_sheetOf : MethodName := ⟨"SheetTrees$Sheets", "sheetOf", "(I)I"⟩
abbrev b_Sheets_headOf : ByteArray := prog_7_method_22_code
def y_Sheets_headOf : MethodName := ⟨"SheetTrees$Sheets", "headOf", "(I)I"⟩
abbrev b_Sheets_firstOn : ByteArray := prog_7_method_8_code
def y_Sheets_firstOn : MethodName := ⟨"SheetTrees$Sheets", "firstOn", "(I)I"⟩
abbrev b_Sheets_nextOf : ByteArray := prog_7_method_9_code
def y_Sheets_nextOf : MethodName := ⟨"SheetTrees$Sheets", "nextOf", "(I)I"⟩
abbrev b_Sheets_tells : ByteArray := prog_7_method_23_code
def y_Sheets_tells : MethodName := ⟨"SheetTrees$Sheets", "tells", "(II)Z"⟩
abbrev b_Sheets_jointOf : ByteArray := prog_7_method_25_code
def y_Sheets_jointOf : MethodName := ⟨"SheetTrees$Sheets", "jointOf", "(II)I"⟩
theorem ks_1 : Cond.selects "SheetTrees$Sheets" ⟨"SheetTrees$Sheets", "headOf", "(I)I"⟩ ⟨"SheetTrees$Sheets", "headOf", "(I)I"⟩ ∈ ALLW := List.mem_filter.mpr ⟨List.mem_append_left _ (List.mem_of_getElem? (i := 1) (by decide +kernel)), rfl⟩
theorem kw_1 : (Jvm.Cond.initialized "SheetTrees") ∈ ALLW := List.mem_filter.mpr ⟨List.mem_append_right _ (List.mem_of_getElem? (i := 1) (by decide +kernel)), rfl⟩
theorem kw_3 : (Jvm.Cond.initialized "SheetTrees$Sheets") ∈ ALLW := List.mem_filter.mpr ⟨List.mem_append_right _ (List.mem_of_getElem? (i := 3) (by decide +kernel)), rfl⟩
theorem kw_4 : (Jvm.Cond.initialized "SheetTrees$Row") ∈ ALLW := List.mem_filter.mpr ⟨List.mem_append_right _ (List.mem_of_getElem? (i := 4) (by decide +kernel)), rfl⟩
theorem kw_65 : (Jvm.Cond.fieldLink "SheetTrees$Row" (21 : Nat) "SheetTrees$Row" "cells" "[J") ∈ ALLW := List.mem_filter.mpr ⟨List.mem_append_right _ (List.mem_of_getElem? (i := 65) (by decide +kernel)), rfl⟩
theorem kw_76 : (Jvm.Cond.code ({ cls := "SheetTrees$Row", name := "restore", desc := "(IJ)V" } : Jvm.MethodName) prog_6_method_5_code (4 : Nat) (Option.none : Option Jvm.ClassFile.FieldType)) ∈ ALLW := List.mem_filter.mpr ⟨List.mem_append_right _ (List.mem_of_getElem? (i := 76) (by decide +kernel)), rfl⟩
theorem kw_77 : (Jvm.Cond.fieldLink "SheetTrees$Sheets" (14 : Nat) "SheetTrees$Sheets" "counts" "LSheetTrees$Row;") ∈ ALLW := List.mem_filter.mpr ⟨List.mem_append_right _ (List.mem_of_getElem? (i := 77) (by decide +kernel)), rfl⟩
theorem kw_78 : (Jvm.Cond.fieldLink "SheetTrees$Sheets" (20 : Nat) "SheetTrees$Sheets" "nameSets" "LSheetTrees$Row;") ∈ ALLW := List.mem_filter.mpr ⟨List.mem_append_right _ (List.mem_of_getElem? (i := 78) (by decide +kernel)), rfl⟩
theorem kw_79 : (Jvm.Cond.fieldLink "SheetTrees$Sheets" (25 : Nat) "SheetTrees$Sheets" "shown" "LSheetTrees$Row;") ∈ ALLW := List.mem_filter.mpr ⟨List.mem_append_right _ (List.mem_of_getElem? (i := 79) (by decide +kernel)), rfl⟩
theorem kw_80 : (Jvm.Cond.fieldLink "SheetTrees$Sheets" (28 : Nat) "SheetTrees$Sheets" "parents" "LSheetTrees$Row;") ∈ ALLW := List.mem_filter.mpr ⟨List.mem_append_right _ (List.mem_of_getElem? (i := 80) (by decide +kernel)), rfl⟩
theorem kw_81 : (Jvm.Cond.fieldLink "SheetTrees$Sheets" (31 : Nat) "SheetTrees$Sheets" "following" "LSheetTrees$Row;") ∈ ALLW := List.mem_filter.mpr ⟨List.mem_append_right _ (List.mem_of_getElem? (i := 81) (by decide +kernel)), rfl⟩
theorem kw_82 : (Jvm.Cond.fieldLink "SheetTrees$Sheets" (34 : Nat) "SheetTrees$Sheets" "joints" "LSheetTrees$Row;") ∈ ALLW := List.mem_filter.mpr ⟨List.mem_append_right _ (List.mem_of_getElem? (i := 82) (by decide +kernel)), rfl⟩
theorem kw_208 : (Jvm.Cond.code ({ cls := "SheetTrees", name := "write", desc := "([III)V" } : Jvm.MethodName) prog_1_method_39_code (3 : Nat) (Option.none : Option Jvm.ClassFile.FieldType)) ∈ ALLW := List.mem_filter.mpr ⟨List.mem_append_right _ (List.mem_of_getElem? (i := 208) (by decide +kernel)), rfl⟩
theorem kw_215 : (Jvm.Cond.code ({ cls := "SheetTrees", name := "read", desc := "([II)I" } : Jvm.MethodName) prog_1_method_38_code (2 : Nat) (Option.some Jvm.ClassFile.FieldType.int)) ∈ ALLW := List.mem_filter.mpr ⟨List.mem_append_right _ (List.mem_of_getElem? (i := 215) (by decide +kernel)), rfl⟩
theorem kw_224 : (Jvm.Cond.code ({ cls := "SheetTrees$Sheets", name := "firstOn", desc := "(I)I" } : Jvm.MethodName) prog_7_method_8_code (2 : Nat) (Option.some Jvm.ClassFile.FieldType.int)) ∈ ALLW := List.mem_filter.mpr ⟨List.mem_append_right _ (List.mem_of_getElem? (i := 224) (by decide +kernel)), rfl⟩
theorem kw_225 : (Jvm.Cond.methodLink "SheetTrees$Sheets" (52 : Nat) ({ cls := "SheetTrees$Sheets", name := "headOf", desc := "(I)I" } : Jvm.MethodName)) ∈ ALLW := List.mem_filter.mpr ⟨List.mem_append_right _ (List.mem_of_getElem? (i := 225) (by decide +kernel)), rfl⟩
theorem kw_227 : (Jvm.Cond.instanceMethod ({ cls := "SheetTrees$Sheets", name := "headOf", desc := "(I)I" } : Jvm.MethodName)) ∈ ALLW := List.mem_filter.mpr ⟨List.mem_append_right _ (List.mem_of_getElem? (i := 227) (by decide +kernel)), rfl⟩
theorem kw_228 : (Jvm.Cond.code ({ cls := "SheetTrees$Sheets", name := "headOf", desc := "(I)I" } : Jvm.MethodName) prog_7_method_22_code (2 : Nat) (Option.some Jvm.ClassFile.FieldType.int)) ∈ ALLW := List.mem_filter.mpr ⟨List.mem_append_right _ (List.mem_of_getElem? (i := 228) (by decide +kernel)), rfl⟩
theorem kw_229 : (Jvm.Cond.methodLink "SheetTrees$Sheets" (41 : Nat) ({ cls := "SheetTrees$Row", name := "at", desc := "(I)I" } : Jvm.MethodName)) ∈ ALLW := List.mem_filter.mpr ⟨List.mem_append_right _ (List.mem_of_getElem? (i := 229) (by decide +kernel)), rfl⟩
theorem kw_230 : (Jvm.Cond.instanceMethod ({ cls := "SheetTrees$Row", name := "at", desc := "(I)I" } : Jvm.MethodName)) ∈ ALLW := List.mem_filter.mpr ⟨List.mem_append_right _ (List.mem_of_getElem? (i := 230) (by decide +kernel)), rfl⟩
theorem kw_231 : (Jvm.Cond.selects "SheetTrees$Row" ({ cls := "SheetTrees$Row", name := "at", desc := "(I)I" } : Jvm.MethodName) ({ cls := "SheetTrees$Row", name := "at", desc := "(I)I" } : Jvm.MethodName)) ∈ ALLW := List.mem_filter.mpr ⟨List.mem_append_right _ (List.mem_of_getElem? (i := 231) (by decide +kernel)), rfl⟩
theorem kw_232 : (Jvm.Cond.code ({ cls := "SheetTrees$Row", name := "at", desc := "(I)I" } : Jvm.MethodName) prog_6_method_3_code (2 : Nat) (Option.some Jvm.ClassFile.FieldType.int)) ∈ ALLW := List.mem_filter.mpr ⟨List.mem_append_right _ (List.mem_of_getElem? (i := 232) (by decide +kernel)), rfl⟩
theorem kw_240 : (Jvm.Cond.code ({ cls := "SheetTrees$Sheets", name := "nextOf", desc := "(I)I" } : Jvm.MethodName) prog_7_method_9_code (2 : Nat) (Option.some Jvm.ClassFile.FieldType.int)) ∈ ALLW := List.mem_filter.mpr ⟨List.mem_append_right _ (List.mem_of_getElem? (i := 240) (by decide +kernel)), rfl⟩
theorem kw_248 : (Jvm.Cond.code ({ cls := "SheetTrees$Sheets", name := "sheetOf", desc := "(I)I" } : Jvm.MethodName) prog_7_method_6_code (2 : Nat) (Option.some Jvm.ClassFile.FieldType.int)) ∈ ALLW := List.mem_filter.mpr ⟨List.mem_append_right _ (List.mem_of_getElem? (i := 248) (by decide +kernel)), rfl⟩
theorem kw_280 : (Jvm.Cond.instanceMethod ({ cls := "SheetTrees$Sheets", name := "sheetCount", desc := "()I" } : Jvm.MethodName)) ∈ ALLW := List.mem_filter.mpr ⟨List.mem_append_right _ (List.mem_of_getElem? (i := 280) (by decide +kernel)), rfl⟩
theorem kw_281 : (Jvm.Cond.selects "SheetTrees$Sheets" ({ cls := "SheetTrees$Sheets", name := "sheetCount", desc := "()I" } : Jvm.MethodName) ({ cls := "SheetTrees$Sheets", name := "sheetCount", desc := "()I" } : Jvm.MethodName)) ∈ ALLW := List.mem_filter.mpr ⟨List.mem_append_right _ (List.mem_of_getElem? (i := 281) (by decide +kernel)), rfl⟩
theorem kw_282 : (Jvm.Cond.code ({ cls := "SheetTrees$Sheets", name := "sheetCount", desc := "()I" } : Jvm.MethodName) prog_7_method_2_code (1 : Nat) (Option.some Jvm.ClassFile.FieldType.int)) ∈ ALLW := List.mem_filter.mpr ⟨List.mem_append_right _ (List.mem_of_getElem? (i := 282) (by decide +kernel)), rfl⟩
theorem kw_287 : (Jvm.Cond.methodLink "SheetTrees$Sheets" (45 : Nat) ({ cls := "SheetTrees$Sheets", name := "sheetCount", desc := "()I" } : Jvm.MethodName)) ∈ ALLW := List.mem_filter.mpr ⟨List.mem_append_right _ (List.mem_of_getElem? (i := 287) (by decide +kernel)), rfl⟩
theorem kw_295 : (Jvm.Cond.code ({ cls := "SheetTrees$Row", name := "longAt", desc := "(I)J" } : Jvm.MethodName) prog_6_method_2_code (2 : Nat) (Option.some Jvm.ClassFile.FieldType.long)) ∈ ALLW := List.mem_filter.mpr ⟨List.mem_append_right _ (List.mem_of_getElem? (i := 295) (by decide +kernel)), rfl⟩
theorem kw_296 : (Jvm.Cond.constantLong "SheetTrees$Row" (31 : Nat) (-1 : Int64)) ∈ ALLW := List.mem_filter.mpr ⟨List.mem_append_right _ (List.mem_of_getElem? (i := 296) (by decide +kernel)), rfl⟩
theorem kw_337 : (Jvm.Cond.static ({ cls := "SheetTrees", name := "holdsName", desc := "(II)Z" } : Jvm.MethodName)) ∈ ALLW := List.mem_filter.mpr ⟨List.mem_append_right _ (List.mem_of_getElem? (i := 337) (by decide +kernel)), rfl⟩
theorem kw_338 : (Jvm.Cond.code ({ cls := "SheetTrees", name := "holdsName", desc := "(II)Z" } : Jvm.MethodName) prog_1_method_37_code (2 : Nat) (Option.some Jvm.ClassFile.FieldType.boolean)) ∈ ALLW := List.mem_filter.mpr ⟨List.mem_append_right _ (List.mem_of_getElem? (i := 338) (by decide +kernel)), rfl⟩
theorem kw_383 : (Jvm.Cond.code ({ cls := "SheetTrees$Sheets", name := "isSheet", desc := "(I)Z" } : Jvm.MethodName) prog_7_method_4_code (2 : Nat) (Option.some Jvm.ClassFile.FieldType.boolean)) ∈ ALLW := List.mem_filter.mpr ⟨List.mem_append_right _ (List.mem_of_getElem? (i := 383) (by decide +kernel)), rfl⟩
theorem kw_454 : (Jvm.Cond.code ({ cls := "SheetTrees$Sheets", name := "placementsLeft", desc := "()I" } : Jvm.MethodName) prog_7_method_3_code (1 : Nat) (Option.some Jvm.ClassFile.FieldType.int)) ∈ ALLW := List.mem_filter.mpr ⟨List.mem_append_right _ (List.mem_of_getElem? (i := 454) (by decide +kernel)), rfl⟩
theorem kw_466 : (Jvm.Cond.code ({ cls := "SheetTrees$Sheets", name := "isPlacement", desc := "(I)Z" } : Jvm.MethodName) prog_7_method_5_code (2 : Nat) (Option.some Jvm.ClassFile.FieldType.boolean)) ∈ ALLW := List.mem_filter.mpr ⟨List.mem_append_right _ (List.mem_of_getElem? (i := 466) (by decide +kernel)), rfl⟩
theorem kw_467 : (Jvm.Cond.methodLink "SheetTrees$Sheets" (49 : Nat) ({ cls := "SheetTrees$Sheets", name := "parentOf", desc := "(I)I" } : Jvm.MethodName)) ∈ ALLW := List.mem_filter.mpr ⟨List.mem_append_right _ (List.mem_of_getElem? (i := 467) (by decide +kernel)), rfl⟩
theorem kw_468 : (Jvm.Cond.instanceMethod ({ cls := "SheetTrees$Sheets", name := "parentOf", desc := "(I)I" } : Jvm.MethodName)) ∈ ALLW := List.mem_filter.mpr ⟨List.mem_append_right _ (List.mem_of_getElem? (i := 468) (by decide +kernel)), rfl⟩
theorem kw_469 : (Jvm.Cond.selects "SheetTrees$Sheets" ({ cls := "SheetTrees$Sheets", name := "parentOf", desc := "(I)I" } : Jvm.MethodName) ({ cls := "SheetTrees$Sheets", name := "parentOf", desc := "(I)I" } : Jvm.MethodName)) ∈ ALLW := List.mem_filter.mpr ⟨List.mem_append_right _ (List.mem_of_getElem? (i := 469) (by decide +kernel)), rfl⟩
theorem kw_470 : (Jvm.Cond.code ({ cls := "SheetTrees$Sheets", name := "parentOf", desc := "(I)I" } : Jvm.MethodName) prog_7_method_7_code (2 : Nat) (Option.some Jvm.ClassFile.FieldType.int)) ∈ ALLW := List.mem_filter.mpr ⟨List.mem_append_right _ (List.mem_of_getElem? (i := 470) (by decide +kernel)), rfl⟩
theorem kw_530 : (Jvm.Cond.code ({ cls := "SheetTrees$Sheets", name := "jointOf", desc := "(II)I" } : Jvm.MethodName) prog_7_method_25_code (3 : Nat) (Option.some Jvm.ClassFile.FieldType.int)) ∈ ALLW := List.mem_filter.mpr ⟨List.mem_append_right _ (List.mem_of_getElem? (i := 530) (by decide +kernel)), rfl⟩
theorem kw_534 : (Jvm.Cond.code ({ cls := "SheetTrees$Sheets", name := "tells", desc := "(II)Z" } : Jvm.MethodName) prog_7_method_23_code (3 : Nat) (Option.some Jvm.ClassFile.FieldType.boolean)) ∈ ALLW := List.mem_filter.mpr ⟨List.mem_append_right _ (List.mem_of_getElem? (i := 534) (by decide +kernel)), rfl⟩
theorem mf_Row_longAt : mf ALLW "SheetTrees$Row" y_Row_longAt b_Row_longAt 2 (some .long) 1 := ⟨kw_295, kw_4, rfl, by decide, by decide, by decide +kernel⟩
theorem mf_Row_at : mf ALLW "SheetTrees$Row" y_Row_at b_Row_at 2 (some .int) 1 := ⟨kw_232, kw_4, rfl, by decide, by decide, by decide +kernel⟩
theorem mf_Row_restore : mf ALLW "SheetTrees$Row" y_Row_restore b_Row_restore 4 (none) 2 := ⟨kw_76, kw_4, rfl, by decide, by decide, by decide +kernel⟩
theorem mf_ST_holdsName : mf ALLW "SheetTrees" y_ST_holdsName b_ST_holdsName 2 (some .boolean) 2 := ⟨kw_338, kw_1, rfl, by decide, by decide, by decide +kernel⟩
theorem mf_ST_read : mf ALLW "SheetTrees" y_ST_read b_ST_read 2 (some .int) 2 := ⟨kw_215, kw_1, rfl, by decide, by decide, by decide +kernel⟩
theorem mf_ST_write : mf ALLW "SheetTrees" y_ST_write b_ST_write 3 (none) 3 := ⟨kw_208, kw_1, rfl, by decide, by decide, by decide +kernel⟩
theorem mf_Sheets_sheetCount : mf ALLW "SheetTrees$Sheets" y_Sheets_sheetCount b_Sheets_sheetCount 1 (some .int) 0 := ⟨kw_282, kw_3, rfl, by decide, by decide, by decide +kernel⟩
theorem mf_Sheets_placementsLeft : mf ALLW "SheetTrees$Sheets" y_Sheets_placementsLeft b_Sheets_placementsLeft 1 (some .int) 0 := ⟨kw_454, kw_3, rfl, by decide, by decide, by decide +kernel⟩
theorem mf_Sheets_isSheet : mf ALLW "SheetTrees$Sheets" y_Sheets_isSheet b_Sheets_isSheet 2 (some .boolean) 1 := ⟨kw_383, kw_3, rfl, by decide, by decide, by decide +kernel⟩
theorem mf_Sheets_parentOf : mf ALLW "SheetTrees$Sheets" y_Sheets_parentOf b_Sheets_parentOf 2 (some .int) 1 := ⟨kw_470, kw_3, rfl, by decide, by decide, by decide +kernel⟩
theorem mf_Sheets_isPlacement : mf ALLW "SheetTrees$Sheets" y_Sheets_isPlacement b_Sheets_isPlacement 2 (some .boolean) 1 := ⟨kw_466, kw_3, rfl, by decide, by decide, by decide +kernel⟩
theorem mf_Sheets_sheetOf : mf ALLW "SheetTrees$Sheets" y_Sheets_sheetOf b_Sheets_sheetOf 2 (some .int) 1 := ⟨kw_248, kw_3, rfl, by decide, by decide, by decide +kernel⟩
theorem mf_Sheets_headOf : mf ALLW "SheetTrees$Sheets" y_Sheets_headOf b_Sheets_headOf 2 (some .int) 1 := ⟨kw_228, kw_3, rfl, by decide, by decide, by decide +kernel⟩
theorem mf_Sheets_firstOn : mf ALLW "SheetTrees$Sheets" y_Sheets_firstOn b_Sheets_firstOn 2 (some .int) 1 := ⟨kw_224, kw_3, rfl, by decide, by decide, by decide +kernel⟩
theorem mf_Sheets_nextOf : mf ALLW "SheetTrees$Sheets" y_Sheets_nextOf b_Sheets_nextOf 2 (some .int) 1 := ⟨kw_240, kw_3, rfl, by decide, by decide, by decide +kernel⟩
theorem mf_Sheets_tells : mf ALLW "SheetTrees$Sheets" y_Sheets_tells b_Sheets_tells 3 (some .boolean) 2 := ⟨kw_534, kw_3, rfl, by decide, by decide, by decide +kernel⟩
theorem mf_Sheets_jointOf : mf ALLW "SheetTrees$Sheets" y_Sheets_jointOf b_Sheets_jointOf 3 (some .int) 2 := ⟨kw_530, kw_3, rfl, by decide, by decide, by decide +kernel⟩
theorem d_Row_longAt_0 : decode b_Row_longAt 0 = .ok (.iload_n 1, 1) := by decide +kernel
theorem d_Row_longAt_1 : decode b_Row_longAt 1 = .ok (.ifCond .lt 21, 3) := by decide +kernel
theorem d_Row_longAt_4 : decode b_Row_longAt 4 = .ok (.iload_n 1, 1) := by decide +kernel
theorem d_Row_longAt_5 : decode b_Row_longAt 5 = .ok (.aload_n 0, 1) := by decide +kernel
theorem d_Row_longAt_6 : decode b_Row_longAt 6 = .ok (.getfield 21, 3) := by decide +kernel
theorem d_Row_longAt_9 : decode b_Row_longAt 9 = .ok (.arraylength, 1) := by decide +kernel
theorem d_Row_longAt_10 : decode b_Row_longAt 10 = .ok (.if_icmp .ge 12, 3) := by decide +kernel
theorem d_Row_longAt_13 : decode b_Row_longAt 13 = .ok (.aload_n 0, 1) := by decide +kernel
theorem d_Row_longAt_14 : decode b_Row_longAt 14 = .ok (.getfield 21, 3) := by decide +kernel
theorem d_Row_longAt_17 : decode b_Row_longAt 17 = .ok (.iload_n 1, 1) := by decide +kernel
theorem d_Row_longAt_18 : decode b_Row_longAt 18 = .ok (.laload, 1) := by decide +kernel
theorem d_Row_longAt_19 : decode b_Row_longAt 19 = .ok (.goto 6, 3) := by decide +kernel
theorem d_Row_longAt_22 : decode b_Row_longAt 22 = .ok (.ldc2_w 31, 3) := by decide +kernel
theorem d_Row_longAt_25 : decode b_Row_longAt 25 = .ok (.lreturn, 1) := by decide +kernel
theorem d_Row_at_0 : decode b_Row_at 0 = .ok (.iload_n 1, 1) := by decide +kernel
theorem d_Row_at_1 : decode b_Row_at 1 = .ok (.ifCond .lt 22, 3) := by decide +kernel
theorem d_Row_at_4 : decode b_Row_at 4 = .ok (.iload_n 1, 1) := by decide +kernel
theorem d_Row_at_5 : decode b_Row_at 5 = .ok (.aload_n 0, 1) := by decide +kernel
theorem d_Row_at_6 : decode b_Row_at 6 = .ok (.getfield 21, 3) := by decide +kernel
theorem d_Row_at_9 : decode b_Row_at 9 = .ok (.arraylength, 1) := by decide +kernel
theorem d_Row_at_10 : decode b_Row_at 10 = .ok (.if_icmp .ge 13, 3) := by decide +kernel
theorem d_Row_at_13 : decode b_Row_at 13 = .ok (.aload_n 0, 1) := by decide +kernel
theorem d_Row_at_14 : decode b_Row_at 14 = .ok (.getfield 21, 3) := by decide +kernel
theorem d_Row_at_17 : decode b_Row_at 17 = .ok (.iload_n 1, 1) := by decide +kernel
theorem d_Row_at_18 : decode b_Row_at 18 = .ok (.laload, 1) := by decide +kernel
theorem d_Row_at_19 : decode b_Row_at 19 = .ok (.l2i, 1) := by decide +kernel
theorem d_Row_at_20 : decode b_Row_at 20 = .ok (.goto 4, 3) := by decide +kernel
theorem d_Row_at_23 : decode b_Row_at 23 = .ok (.iconst (-1), 1) := by decide +kernel
theorem d_Row_at_24 : decode b_Row_at 24 = .ok (.ireturn, 1) := by decide +kernel
theorem d_Row_restore_0 : decode b_Row_restore 0 = .ok (.iload_n 1, 1) := by decide +kernel
theorem d_Row_restore_1 : decode b_Row_restore 1 = .ok (.ifCond .lt 19, 3) := by decide +kernel
theorem d_Row_restore_4 : decode b_Row_restore 4 = .ok (.iload_n 1, 1) := by decide +kernel
theorem d_Row_restore_5 : decode b_Row_restore 5 = .ok (.aload_n 0, 1) := by decide +kernel
theorem d_Row_restore_6 : decode b_Row_restore 6 = .ok (.getfield 21, 3) := by decide +kernel
theorem d_Row_restore_9 : decode b_Row_restore 9 = .ok (.arraylength, 1) := by decide +kernel
theorem d_Row_restore_10 : decode b_Row_restore 10 = .ok (.if_icmp .ge 10, 3) := by decide +kernel
theorem d_Row_restore_13 : decode b_Row_restore 13 = .ok (.aload_n 0, 1) := by decide +kernel
theorem d_Row_restore_14 : decode b_Row_restore 14 = .ok (.getfield 21, 3) := by decide +kernel
theorem d_Row_restore_17 : decode b_Row_restore 17 = .ok (.iload_n 1, 1) := by decide +kernel
theorem d_Row_restore_18 : decode b_Row_restore 18 = .ok (.lload_n 2, 1) := by decide +kernel
theorem d_Row_restore_19 : decode b_Row_restore 19 = .ok (.lastore, 1) := by decide +kernel
theorem d_Row_restore_20 : decode b_Row_restore 20 = .ok (.return_, 1) := by decide +kernel
theorem d_ST_holdsName_0 : decode b_ST_holdsName 0 = .ok (.iload_n 0, 1) := by decide +kernel
theorem d_ST_holdsName_1 : decode b_ST_holdsName 1 = .ok (.iconst 1, 1) := by decide +kernel
theorem d_ST_holdsName_2 : decode b_ST_holdsName 2 = .ok (.iload_n 1, 1) := by decide +kernel
theorem d_ST_holdsName_3 : decode b_ST_holdsName 3 = .ok (.ishl, 1) := by decide +kernel
theorem d_ST_holdsName_4 : decode b_ST_holdsName 4 = .ok (.iand, 1) := by decide +kernel
theorem d_ST_holdsName_5 : decode b_ST_holdsName 5 = .ok (.ifCond .eq 7, 3) := by decide +kernel
theorem d_ST_holdsName_8 : decode b_ST_holdsName 8 = .ok (.iconst 1, 1) := by decide +kernel
theorem d_ST_holdsName_9 : decode b_ST_holdsName 9 = .ok (.goto 4, 3) := by decide +kernel
theorem d_ST_holdsName_12 : decode b_ST_holdsName 12 = .ok (.iconst 0, 1) := by decide +kernel
theorem d_ST_holdsName_13 : decode b_ST_holdsName 13 = .ok (.ireturn, 1) := by decide +kernel
theorem d_ST_read_0 : decode b_ST_read 0 = .ok (.iload_n 1, 1) := by decide +kernel
theorem d_ST_read_1 : decode b_ST_read 1 = .ok (.ifCond .lt 15, 3) := by decide +kernel
theorem d_ST_read_4 : decode b_ST_read 4 = .ok (.iload_n 1, 1) := by decide +kernel
theorem d_ST_read_5 : decode b_ST_read 5 = .ok (.aload_n 0, 1) := by decide +kernel
theorem d_ST_read_6 : decode b_ST_read 6 = .ok (.arraylength, 1) := by decide +kernel
theorem d_ST_read_7 : decode b_ST_read 7 = .ok (.if_icmp .ge 9, 3) := by decide +kernel
theorem d_ST_read_10 : decode b_ST_read 10 = .ok (.aload_n 0, 1) := by decide +kernel
theorem d_ST_read_11 : decode b_ST_read 11 = .ok (.iload_n 1, 1) := by decide +kernel
theorem d_ST_read_12 : decode b_ST_read 12 = .ok (.iaload, 1) := by decide +kernel
theorem d_ST_read_13 : decode b_ST_read 13 = .ok (.goto 4, 3) := by decide +kernel
theorem d_ST_read_16 : decode b_ST_read 16 = .ok (.iconst (-1), 1) := by decide +kernel
theorem d_ST_read_17 : decode b_ST_read 17 = .ok (.ireturn, 1) := by decide +kernel
theorem d_ST_write_0 : decode b_ST_write 0 = .ok (.iload_n 1, 1) := by decide +kernel
theorem d_ST_write_1 : decode b_ST_write 1 = .ok (.ifCond .lt 13, 3) := by decide +kernel
theorem d_ST_write_4 : decode b_ST_write 4 = .ok (.iload_n 1, 1) := by decide +kernel
theorem d_ST_write_5 : decode b_ST_write 5 = .ok (.aload_n 0, 1) := by decide +kernel
theorem d_ST_write_6 : decode b_ST_write 6 = .ok (.arraylength, 1) := by decide +kernel
theorem d_ST_write_7 : decode b_ST_write 7 = .ok (.if_icmp .ge 7, 3) := by decide +kernel
theorem d_ST_write_10 : decode b_ST_write 10 = .ok (.aload_n 0, 1) := by decide +kernel
theorem d_ST_write_11 : decode b_ST_write 11 = .ok (.iload_n 1, 1) := by decide +kernel
theorem d_ST_write_12 : decode b_ST_write 12 = .ok (.iload_n 2, 1) := by decide +kernel
theorem d_ST_write_13 : decode b_ST_write 13 = .ok (.iastore, 1) := by decide +kernel
theorem d_ST_write_14 : decode b_ST_write 14 = .ok (.return_, 1) := by decide +kernel
theorem d_Sheets_sheetCount_0 : decode b_Sheets_sheetCount 0 = .ok (.aload_n 0, 1) := by decide +kernel
theorem d_Sheets_sheetCount_1 : decode b_Sheets_sheetCount 1 = .ok (.getfield 14, 3) := by decide +kernel
theorem d_Sheets_sheetCount_4 : decode b_Sheets_sheetCount 4 = .ok (.iconst 0, 1) := by decide +kernel
theorem d_Sheets_sheetCount_5 : decode b_Sheets_sheetCount 5 = .ok (.invokevirtual 41, 3) := by decide +kernel
theorem d_Sheets_sheetCount_8 : decode b_Sheets_sheetCount 8 = .ok (.ireturn, 1) := by decide +kernel
theorem d_Sheets_placementsLeft_0 : decode b_Sheets_placementsLeft 0 = .ok (.bipush 60, 2) := by decide +kernel
theorem d_Sheets_placementsLeft_2 : decode b_Sheets_placementsLeft 2 = .ok (.aload_n 0, 1) := by decide +kernel
theorem d_Sheets_placementsLeft_3 : decode b_Sheets_placementsLeft 3 = .ok (.getfield 14, 3) := by decide +kernel
theorem d_Sheets_placementsLeft_6 : decode b_Sheets_placementsLeft 6 = .ok (.iconst 1, 1) := by decide +kernel
theorem d_Sheets_placementsLeft_7 : decode b_Sheets_placementsLeft 7 = .ok (.invokevirtual 41, 3) := by decide +kernel
theorem d_Sheets_placementsLeft_10 : decode b_Sheets_placementsLeft 10 = .ok (.isub, 1) := by decide +kernel
theorem d_Sheets_placementsLeft_11 : decode b_Sheets_placementsLeft 11 = .ok (.ireturn, 1) := by decide +kernel
theorem d_Sheets_isSheet_0 : decode b_Sheets_isSheet 0 = .ok (.iload_n 1, 1) := by decide +kernel
theorem d_Sheets_isSheet_1 : decode b_Sheets_isSheet 1 = .ok (.ifCond .lt 15, 3) := by decide +kernel
theorem d_Sheets_isSheet_4 : decode b_Sheets_isSheet 4 = .ok (.iload_n 1, 1) := by decide +kernel
theorem d_Sheets_isSheet_5 : decode b_Sheets_isSheet 5 = .ok (.aload_n 0, 1) := by decide +kernel
theorem d_Sheets_isSheet_6 : decode b_Sheets_isSheet 6 = .ok (.invokevirtual 45, 3) := by decide +kernel
theorem d_Sheets_isSheet_9 : decode b_Sheets_isSheet 9 = .ok (.if_icmp .ge 7, 3) := by decide +kernel
theorem d_Sheets_isSheet_12 : decode b_Sheets_isSheet 12 = .ok (.iconst 1, 1) := by decide +kernel
theorem d_Sheets_isSheet_13 : decode b_Sheets_isSheet 13 = .ok (.goto 4, 3) := by decide +kernel
theorem d_Sheets_isSheet_16 : decode b_Sheets_isSheet 16 = .ok (.iconst 0, 1) := by decide +kernel
theorem d_Sheets_isSheet_17 : decode b_Sheets_isSheet 17 = .ok (.ireturn, 1) := by decide +kernel
theorem d_Sheets_parentOf_0 : decode b_Sheets_parentOf 0 = .ok (.aload_n 0, 1) := by decide +kernel
theorem d_Sheets_parentOf_1 : decode b_Sheets_parentOf 1 = .ok (.getfield 28, 3) := by decide +kernel
theorem d_Sheets_parentOf_4 : decode b_Sheets_parentOf 4 = .ok (.iload_n 1, 1) := by decide +kernel
theorem d_Sheets_parentOf_5 : decode b_Sheets_parentOf 5 = .ok (.invokevirtual 41, 3) := by decide +kernel
theorem d_Sheets_parentOf_8 : decode b_Sheets_parentOf 8 = .ok (.ireturn, 1) := by decide +kernel
theorem d_Sheets_isPlacement_0 : decode b_Sheets_isPlacement 0 = .ok (.aload_n 0, 1) := by decide +kernel
theorem d_Sheets_isPlacement_1 : decode b_Sheets_isPlacement 1 = .ok (.iload_n 1, 1) := by decide +kernel
theorem d_Sheets_isPlacement_2 : decode b_Sheets_isPlacement 2 = .ok (.invokevirtual 49, 3) := by decide +kernel
theorem d_Sheets_isPlacement_5 : decode b_Sheets_isPlacement 5 = .ok (.iconst (-1), 1) := by decide +kernel
theorem d_Sheets_isPlacement_6 : decode b_Sheets_isPlacement 6 = .ok (.if_icmp .eq 7, 3) := by decide +kernel
theorem d_Sheets_isPlacement_9 : decode b_Sheets_isPlacement 9 = .ok (.iconst 1, 1) := by decide +kernel
theorem d_Sheets_isPlacement_10 : decode b_Sheets_isPlacement 10 = .ok (.goto 4, 3) := by decide +kernel
theorem d_Sheets_isPlacement_13 : decode b_Sheets_isPlacement 13 = .ok (.iconst 0, 1) := by decide +kernel
theorem d_Sheets_isPlacement_14 : decode b_Sheets_isPlacement 14 = .ok (.ireturn, 1) := by decide +kernel
theorem d_Sheets_sheetOf_0 : decode b_Sheets_sheetOf 0 = .ok (.aload_n 0, 1) := by decide +kernel
theorem d_Sheets_sheetOf_1 : decode b_Sheets_sheetOf 1 = .ok (.getfield 25, 3) := by decide +kernel
theorem d_Sheets_sheetOf_4 : decode b_Sheets_sheetOf 4 = .ok (.iload_n 1, 1) := by decide +kernel
theorem d_Sheets_sheetOf_5 : decode b_Sheets_sheetOf 5 = .ok (.invokevirtual 41, 3) := by decide +kernel
theorem d_Sheets_sheetOf_8 : decode b_Sheets_sheetOf 8 = .ok (.ireturn, 1) := by decide +kernel
theorem d_Sheets_headOf_0 : decode b_Sheets_headOf 0 = .ok (.bipush 60, 2) := by decide +kernel
theorem d_Sheets_headOf_2 : decode b_Sheets_headOf 2 = .ok (.iload_n 1, 1) := by decide +kernel
theorem d_Sheets_headOf_3 : decode b_Sheets_headOf 3 = .ok (.iadd, 1) := by decide +kernel
theorem d_Sheets_headOf_4 : decode b_Sheets_headOf 4 = .ok (.ireturn, 1) := by decide +kernel
theorem d_Sheets_firstOn_0 : decode b_Sheets_firstOn 0 = .ok (.aload_n 0, 1) := by decide +kernel
theorem d_Sheets_firstOn_1 : decode b_Sheets_firstOn 1 = .ok (.getfield 31, 3) := by decide +kernel
theorem d_Sheets_firstOn_4 : decode b_Sheets_firstOn 4 = .ok (.aload_n 0, 1) := by decide +kernel
theorem d_Sheets_firstOn_5 : decode b_Sheets_firstOn 5 = .ok (.iload_n 1, 1) := by decide +kernel
theorem d_Sheets_firstOn_6 : decode b_Sheets_firstOn 6 = .ok (.invokevirtual 52, 3) := by decide +kernel
theorem d_Sheets_firstOn_9 : decode b_Sheets_firstOn 9 = .ok (.invokevirtual 41, 3) := by decide +kernel
theorem d_Sheets_firstOn_12 : decode b_Sheets_firstOn 12 = .ok (.ireturn, 1) := by decide +kernel
theorem d_Sheets_nextOf_0 : decode b_Sheets_nextOf 0 = .ok (.aload_n 0, 1) := by decide +kernel
theorem d_Sheets_nextOf_1 : decode b_Sheets_nextOf 1 = .ok (.getfield 31, 3) := by decide +kernel
theorem d_Sheets_nextOf_4 : decode b_Sheets_nextOf 4 = .ok (.iload_n 1, 1) := by decide +kernel
theorem d_Sheets_nextOf_5 : decode b_Sheets_nextOf 5 = .ok (.invokevirtual 41, 3) := by decide +kernel
theorem d_Sheets_nextOf_8 : decode b_Sheets_nextOf 8 = .ok (.ireturn, 1) := by decide +kernel
theorem d_Sheets_tells_0 : decode b_Sheets_tells 0 = .ok (.aload_n 0, 1) := by decide +kernel
theorem d_Sheets_tells_1 : decode b_Sheets_tells 1 = .ok (.getfield 20, 3) := by decide +kernel
theorem d_Sheets_tells_4 : decode b_Sheets_tells 4 = .ok (.iload_n 1, 1) := by decide +kernel
theorem d_Sheets_tells_5 : decode b_Sheets_tells 5 = .ok (.invokevirtual 41, 3) := by decide +kernel
theorem d_Sheets_tells_8 : decode b_Sheets_tells 8 = .ok (.iload_n 2, 1) := by decide +kernel
theorem d_Sheets_tells_9 : decode b_Sheets_tells 9 = .ok (.invokestatic 106, 3) := by decide +kernel
theorem d_Sheets_tells_12 : decode b_Sheets_tells 12 = .ok (.ireturn, 1) := by decide +kernel
theorem d_Sheets_jointOf_0 : decode b_Sheets_jointOf 0 = .ok (.aload_n 0, 1) := by decide +kernel
theorem d_Sheets_jointOf_1 : decode b_Sheets_jointOf 1 = .ok (.getfield 34, 3) := by decide +kernel
theorem d_Sheets_jointOf_4 : decode b_Sheets_jointOf 4 = .ok (.iload_n 1, 1) := by decide +kernel
theorem d_Sheets_jointOf_5 : decode b_Sheets_jointOf 5 = .ok (.bipush 32, 2) := by decide +kernel
theorem d_Sheets_jointOf_7 : decode b_Sheets_jointOf 7 = .ok (.imul, 1) := by decide +kernel
theorem d_Sheets_jointOf_8 : decode b_Sheets_jointOf 8 = .ok (.iload_n 2, 1) := by decide +kernel
theorem d_Sheets_jointOf_9 : decode b_Sheets_jointOf 9 = .ok (.iadd, 1) := by decide +kernel
theorem d_Sheets_jointOf_10 : decode b_Sheets_jointOf 10 = .ok (.invokevirtual 41, 3) := by decide +kernel
theorem d_Sheets_jointOf_13 : decode b_Sheets_jointOf 13 = .ok (.ireturn, 1) := by decide +kernel
def m_Row_longAt (σ : SC) (k : Nat) (x0 : Int32) : Int64 :=
  if x0 < 0 then
    (-1)
  else
    if (nI (lnR k)) ≤ x0 then
      (-1)
    else
      (xL σ k x0.toNatClampNeg)

def m_Row_at (σ : SC) (k : Nat) (x0 : Int32) : Int32 :=
  if x0 < 0 then
    (-1)
  else
    if (nI (lnR k)) ≤ x0 then
      (-1)
    else
      (xL σ k x0.toNatClampNeg).toInt32

def m_Row_restore (σ : SC) (k : Nat) (x0 : Int32) (x1 : Int64) : SC :=
  if x0 < 0 then
    σ
  else
    if (nI (lnR k)) ≤ x0 then
      σ
    else
      (zL σ k x0.toNatClampNeg x1)

def m_ST_holdsName (x0 : Int32) (x1 : Int32) : Bool :=
  if (x0 &&& (1 <<< (x1 &&& 31))) = 0 then
    false
  else
    true

def m_ST_read (σ : SC) (j : Nat) (x1 : Int32) : Int32 :=
  if x1 < 0 then
    (-1)
  else
    if (nI (lnI j)) ≤ x1 then
      (-1)
    else
      (xI σ j x1.toNatClampNeg)

def m_ST_write (σ : SC) (j : Nat) (x1 : Int32) (x2 : Int32) : SC :=
  if x1 < 0 then
    σ
  else
    if (nI (lnI j)) ≤ x1 then
      σ
    else
      (zI σ j x1.toNatClampNeg x2)

def m_Sheets_sheetCount (σ : SC) : Int32 :=
  (m_Row_at σ 0 0)

def m_Sheets_placementsLeft (σ : SC) : Int32 :=
  (60 - (m_Row_at σ 0 1))

def m_Sheets_isSheet (σ : SC) (x0 : Int32) : Bool :=
  if x0 < 0 then
    false
  else
    if (m_Sheets_sheetCount σ) ≤ x0 then
      false
    else
      true

def m_Sheets_parentOf (σ : SC) (x0 : Int32) : Int32 :=
  (m_Row_at σ 3 x0)

def m_Sheets_isPlacement (σ : SC) (x0 : Int32) : Bool :=
  if (m_Sheets_parentOf σ x0) = (-1) then
    false
  else
    true

def m_Sheets_sheetOf (σ : SC) (x0 : Int32) : Int32 :=
  (m_Row_at σ 2 x0)

def m_Sheets_headOf (σ : SC) (x0 : Int32) : Int32 :=
  (60 + x0)

def m_Sheets_firstOn (σ : SC) (x0 : Int32) : Int32 :=
  (m_Row_at σ 4 (m_Sheets_headOf σ x0))

def m_Sheets_nextOf (σ : SC) (x0 : Int32) : Int32 :=
  (m_Row_at σ 4 x0)

def m_Sheets_tells (σ : SC) (x0 : Int32) (x1 : Int32) : Bool :=
  (m_ST_holdsName (m_Row_at σ 1 x0) x1)

def m_Sheets_jointOf (σ : SC) (x0 : Int32) (x1 : Int32) : Int32 :=
  (m_Row_at σ 5 ((x0 * 32) + x1))

section SC
variable {l : Launch} {D : va_G} {N0 : Nat} {G : Nat → Nat → Nat} {cI cL cQ : ClassId} {rest : va_W}
set_option maxHeartbeats 4000000 in
set_option maxRecDepth 100000 in
theorem c_Row_longAt (k : Nat) (hk : k < 19) (σ : SC) (π : PJ) (x0 : Int32) : CM l y_Row_longAt b_Row_longAt 2 (some .long) { frames := 0, cells := 0, slots := 0, locals := 0 } D (tyL cI cL cQ) N0 [.ref (G 1 k), .int x0] (wsC G cI cL cQ σ π rest) (some (.long (m_Row_longAt σ k x0))) (fun w => w = wsC G cI cL cQ σ π rest) 0 0 := by
  generalize hR : m_Row_longAt σ k x0 = RES
  refine met_of (own := R_Row) (by decide) rfl nwl_ok ?_
  intro p e s m below meth c hC hin hB
  have hx := hC.1
  have hb := hC.2.1
  have hl := lv_entry ([.ref (G 1 k), .int x0]) (n := 2) (Nat.le_of_ble_eq_true rfl)
  rw [lg_entry_eq]
  generalize (lg_sl ([.ref (G 1 k), .int x0]) ++ List.replicate (2 - (lg_sl ([.ref (G 1 k), .int x0])).length) Slot.unset).toArray = ls at hl ⊢
  have hl : lv_has ls 2 [(0, .ref (G 1 k)), (1, .int x0)] := hl
  rw [m_Row_longAt] at hR
  refine lv_iload_n hx hb d_Row_longAt_0 rfl (lv_at hl 1 rfl) ?_
  refine lv_if_lt (tgt := 22) hx hb d_Row_longAt_1 (by decide) (fun c_1 => ?_) (fun c_1 => ?_)
  · rw [if_pos c_1] at hR
    refine lv_ldc2 (v := (-1)) hx hb hC.2.2.2.2.1 (hC.2.2.2.2.2.1 _ kw_296) d_Row_longAt_22 ?_
    subst hR
    exact rl hC hB rfl d_Row_longAt_25
  · rw [if_neg c_1] at hR
    refine lv_iload_n hx hb d_Row_longAt_4 rfl (lv_at hl 1 rfl) ?_
    refine lv_aload_n hx hb d_Row_longAt_5 rfl (lv_at hl 0 rfl) ?_
    refine gt hC hB _ (lkC_row hk) rfl i_Row 1 (by decide) rfl kw_65 rfl d_Row_longAt_6 ?_
    refine va_alen hx hb hC.2.2.2.2.2.2.2.1.1 hB.1 _ 1 (lkC_larr hk) rfl (v := (nI (lnR k))) rfl d_Row_longAt_9 ?_
    refine lv_icmp_ge (tgt := 22) hx hb d_Row_longAt_10 (by decide) (fun c_2 => ?_) (fun c_2 => ?_)
    · rw [if_pos c_2] at hR
      refine lv_ldc2 (v := (-1)) hx hb hC.2.2.2.2.1 (hC.2.2.2.2.2.1 _ kw_296) d_Row_longAt_22 ?_
      subst hR
      exact rl hC hB rfl d_Row_longAt_25
    · rw [if_neg c_2] at hR
      refine lv_aload_n hx hb d_Row_longAt_13 rfl (lv_at hl 0 rfl) ?_
      refine gt hC hB _ (lkC_row hk) rfl i_Row 1 (by decide) rfl kw_65 rfl d_Row_longAt_14 ?_
      refine lv_iload_n hx hb d_Row_longAt_17 rfl (lv_at hl 1 rfl) ?_
      refine va_lald hx hb hC.2.2.2.2.2.2.2.1.1 hB.1 _ 1 (lkC_larr hk) rfl (vin (by assumption) (by assumption) (lnR_lt k)) d_Row_longAt_18 ?_
      refine lv_goto (tgt := 25) hx hb d_Row_longAt_19 (by decide) ?_
      subst hR
      exact rl hC hB rfl d_Row_longAt_25

set_option maxHeartbeats 4000000 in
set_option maxRecDepth 100000 in
theorem c_Row_at (k : Nat) (hk : k < 19) (σ : SC) (π : PJ) (x0 : Int32) : CM l y_Row_at b_Row_at 2 (some .int) { frames := 0, cells := 0, slots := 0, locals := 0 } D (tyL cI cL cQ) N0 [.ref (G 1 k), .int x0] (wsC G cI cL cQ σ π rest) (some (.int (m_Row_at σ k x0))) (fun w => w = wsC G cI cL cQ σ π rest) 0 0 := by
  generalize hR : m_Row_at σ k x0 = RES
  refine met_of (own := R_Row) (by decide) rfl nwl_ok ?_
  intro p e s m below meth c hC hin hB
  have hx := hC.1
  have hb := hC.2.1
  have hl := lv_entry ([.ref (G 1 k), .int x0]) (n := 2) (Nat.le_of_ble_eq_true rfl)
  rw [lg_entry_eq]
  generalize (lg_sl ([.ref (G 1 k), .int x0]) ++ List.replicate (2 - (lg_sl ([.ref (G 1 k), .int x0])).length) Slot.unset).toArray = ls at hl ⊢
  have hl : lv_has ls 2 [(0, .ref (G 1 k)), (1, .int x0)] := hl
  rw [m_Row_at] at hR
  refine lv_iload_n hx hb d_Row_at_0 rfl (lv_at hl 1 rfl) ?_
  refine lv_if_lt (tgt := 23) hx hb d_Row_at_1 (by decide) (fun c_1 => ?_) (fun c_1 => ?_)
  · rw [if_pos c_1] at hR
    refine lv_iconst (v := (-1)) hx hb d_Row_at_23 (by decide) ?_
    subst hR
    exact ri hC hB rfl d_Row_at_24
  · rw [if_neg c_1] at hR
    refine lv_iload_n hx hb d_Row_at_4 rfl (lv_at hl 1 rfl) ?_
    refine lv_aload_n hx hb d_Row_at_5 rfl (lv_at hl 0 rfl) ?_
    refine gt hC hB _ (lkC_row hk) rfl i_Row 1 (by decide) rfl kw_65 rfl d_Row_at_6 ?_
    refine va_alen hx hb hC.2.2.2.2.2.2.2.1.1 hB.1 _ 1 (lkC_larr hk) rfl (v := (nI (lnR k))) rfl d_Row_at_9 ?_
    refine lv_icmp_ge (tgt := 23) hx hb d_Row_at_10 (by decide) (fun c_2 => ?_) (fun c_2 => ?_)
    · rw [if_pos c_2] at hR
      refine lv_iconst (v := (-1)) hx hb d_Row_at_23 (by decide) ?_
      subst hR
      exact ri hC hB rfl d_Row_at_24
    · rw [if_neg c_2] at hR
      refine lv_aload_n hx hb d_Row_at_13 rfl (lv_at hl 0 rfl) ?_
      refine gt hC hB _ (lkC_row hk) rfl i_Row 1 (by decide) rfl kw_65 rfl d_Row_at_14 ?_
      refine lv_iload_n hx hb d_Row_at_17 rfl (lv_at hl 1 rfl) ?_
      refine va_lald hx hb hC.2.2.2.2.2.2.2.1.1 hB.1 _ 1 (lkC_larr hk) rfl (vin (by assumption) (by assumption) (lnR_lt k)) d_Row_at_18 ?_
      refine lv_l2i hx hb d_Row_at_19 rfl ?_
      refine lv_goto (tgt := 24) hx hb d_Row_at_20 (by decide) ?_
      subst hR
      exact ri hC hB rfl d_Row_at_24

set_option maxHeartbeats 4000000 in
set_option maxRecDepth 100000 in
theorem c_Row_restore (k : Nat) (hk : k < 19) (σ : SC) (π : PJ) (hπ : RJ π σ) (x0 : Int32) (x1 : Int64) : CM l y_Row_restore b_Row_restore 4 (none) { frames := 0, cells := 0, slots := 0, locals := 0 } D (tyL cI cL cQ) N0 [.ref (G 1 k), .int x0, .long x1] (wsC G cI cL cQ σ π rest) (none) (pwC G cI cL cQ (m_Row_restore σ k x0 x1) rest) 0 0 := by
  generalize hR : m_Row_restore σ k x0 x1 = RES
  refine met_of (own := R_Row) (by decide) rfl nwl_ok ?_
  intro p e s m below meth c hC hin hB
  have hx := hC.1
  have hb := hC.2.1
  have hl := lv_entry ([.ref (G 1 k), .int x0, .long x1]) (n := 4) (Nat.le_of_ble_eq_true rfl)
  rw [lg_entry_eq]
  generalize (lg_sl ([.ref (G 1 k), .int x0, .long x1]) ++ List.replicate (4 - (lg_sl ([.ref (G 1 k), .int x0, .long x1])).length) Slot.unset).toArray = ls at hl ⊢
  have hl : lv_has ls 4 [(0, .ref (G 1 k)), (1, .int x0), (2, .long x1)] := hl
  rw [m_Row_restore] at hR
  refine lv_iload_n hx hb d_Row_restore_0 rfl (lv_at hl 1 rfl) ?_
  refine lv_if_lt (tgt := 20) hx hb d_Row_restore_1 (by decide) (fun c_1 => ?_) (fun c_1 => ?_)
  · rw [if_pos c_1] at hR
    subst hR
    exact rv hC hB ⟨π, hπ, rfl⟩ d_Row_restore_20
  · rw [if_neg c_1] at hR
    refine lv_iload_n hx hb d_Row_restore_4 rfl (lv_at hl 1 rfl) ?_
    refine lv_aload_n hx hb d_Row_restore_5 rfl (lv_at hl 0 rfl) ?_
    refine gt hC hB _ (lkC_row hk) rfl i_Row 1 (by decide) rfl kw_65 rfl d_Row_restore_6 ?_
    refine va_alen hx hb hC.2.2.2.2.2.2.2.1.1 hB.1 _ 1 (lkC_larr hk) rfl (v := (nI (lnR k))) rfl d_Row_restore_9 ?_
    refine lv_icmp_ge (tgt := 20) hx hb d_Row_restore_10 (by decide) (fun c_2 => ?_) (fun c_2 => ?_)
    · rw [if_pos c_2] at hR
      subst hR
      exact rv hC hB ⟨π, hπ, rfl⟩ d_Row_restore_20
    · rw [if_neg c_2] at hR
      refine lv_aload_n hx hb d_Row_restore_13 rfl (lv_at hl 0 rfl) ?_
      refine gt hC hB _ (lkC_row hk) rfl i_Row 1 (by decide) rfl kw_65 rfl d_Row_restore_14 ?_
      refine lv_iload_n hx hb d_Row_restore_17 rfl (lv_at hl 1 rfl) ?_
      refine lv_lload_n hx hb d_Row_restore_18 rfl (lv_at hl 2 rfl) ?_
      refine as_l hC hB _ 1 (lkC_larr hk) rfl (vin (by assumption) (by assumption) (lnR_lt k)) d_Row_restore_19 (ws' := wsC G cI cL cQ (zL σ k x0.toNatClampNeg x1) π rest) (setC_larr hk _ _) (fun H locs hB => ?_)
      subst hR
      exact rv hC hB ⟨π, hπ, rfl⟩ d_Row_restore_20

set_option maxHeartbeats 4000000 in
set_option maxRecDepth 100000 in
theorem c_ST_holdsName  (σ : SC) (π : PJ) (x0 : Int32) (x1 : Int32) : CM l y_ST_holdsName b_ST_holdsName 2 (some .boolean) { frames := 0, cells := 0, slots := 0, locals := 0 } D (tyL cI cL cQ) N0 [.int x0, .int x1] (wsC G cI cL cQ σ π rest) (some (.int (bi (m_ST_holdsName x0 x1)))) (fun w => w = wsC G cI cL cQ σ π rest) 0 0 := by
  generalize hR : m_ST_holdsName x0 x1 = RES
  refine met_of (own := R_ST) (by decide) rfl nwl_ok ?_
  intro p e s m below meth c hC hin hB
  have hx := hC.1
  have hb := hC.2.1
  have hl := lv_entry ([.int x0, .int x1]) (n := 2) (Nat.le_of_ble_eq_true rfl)
  rw [lg_entry_eq]
  generalize (lg_sl ([.int x0, .int x1]) ++ List.replicate (2 - (lg_sl ([.int x0, .int x1])).length) Slot.unset).toArray = ls at hl ⊢
  have hl : lv_has ls 2 [(0, .int x0), (1, .int x1)] := hl
  rw [m_ST_holdsName] at hR
  refine lv_iload_n hx hb d_ST_holdsName_0 rfl (lv_at hl 0 rfl) ?_
  refine lv_iconst (v := 1) hx hb d_ST_holdsName_1 (by decide) ?_
  refine lv_iload_n hx hb d_ST_holdsName_2 rfl (lv_at hl 1 rfl) ?_
  refine lv_ishl hx hb d_ST_holdsName_3 ?_
  refine lv_iand hx hb d_ST_holdsName_4 ?_
  refine lv_if_eq (tgt := 12) hx hb d_ST_holdsName_5 (by decide) (fun c_1 => ?_) (fun c_1 => ?_)
  · rw [if_pos c_1] at hR
    refine lv_iconst (v := 0) hx hb d_ST_holdsName_12 (by decide) ?_
    subst hR
    exact rz (b := false) hC hB rfl d_ST_holdsName_13
  · rw [if_neg c_1] at hR
    refine lv_iconst (v := 1) hx hb d_ST_holdsName_8 (by decide) ?_
    refine lv_goto (tgt := 13) hx hb d_ST_holdsName_9 (by decide) ?_
    subst hR
    exact rz (b := true) hC hB rfl d_ST_holdsName_13

set_option maxHeartbeats 4000000 in
set_option maxRecDepth 100000 in
theorem c_ST_read (j : Nat) (hj : j < 7) (σ : SC) (π : PJ) (x1 : Int32) : CM l y_ST_read b_ST_read 2 (some .int) { frames := 0, cells := 0, slots := 0, locals := 0 } D (tyL cI cL cQ) N0 [.ref (G 3 j), .int x1] (wsC G cI cL cQ σ π rest) (some (.int (m_ST_read σ j x1))) (fun w => w = wsC G cI cL cQ σ π rest) 0 0 := by
  generalize hR : m_ST_read σ j x1 = RES
  refine met_of (own := R_ST) (by decide) rfl nwl_ok ?_
  intro p e s m below meth c hC hin hB
  have hx := hC.1
  have hb := hC.2.1
  have hl := lv_entry ([.ref (G 3 j), .int x1]) (n := 2) (Nat.le_of_ble_eq_true rfl)
  rw [lg_entry_eq]
  generalize (lg_sl ([.ref (G 3 j), .int x1]) ++ List.replicate (2 - (lg_sl ([.ref (G 3 j), .int x1])).length) Slot.unset).toArray = ls at hl ⊢
  have hl : lv_has ls 2 [(0, .ref (G 3 j)), (1, .int x1)] := hl
  rw [m_ST_read] at hR
  refine lv_iload_n hx hb d_ST_read_0 rfl (lv_at hl 1 rfl) ?_
  refine lv_if_lt (tgt := 16) hx hb d_ST_read_1 (by decide) (fun c_1 => ?_) (fun c_1 => ?_)
  · rw [if_pos c_1] at hR
    refine lv_iconst (v := (-1)) hx hb d_ST_read_16 (by decide) ?_
    subst hR
    exact ri hC hB rfl d_ST_read_17
  · rw [if_neg c_1] at hR
    refine lv_iload_n hx hb d_ST_read_4 rfl (lv_at hl 1 rfl) ?_
    refine lv_aload_n hx hb d_ST_read_5 rfl (lv_at hl 0 rfl) ?_
    refine va_alen hx hb hC.2.2.2.2.2.2.2.1.1 hB.1 _ 0 (lkC_iarr hj) rfl (v := (nI (lnI j))) rfl d_ST_read_6 ?_
    refine lv_icmp_ge (tgt := 16) hx hb d_ST_read_7 (by decide) (fun c_2 => ?_) (fun c_2 => ?_)
    · rw [if_pos c_2] at hR
      refine lv_iconst (v := (-1)) hx hb d_ST_read_16 (by decide) ?_
      subst hR
      exact ri hC hB rfl d_ST_read_17
    · rw [if_neg c_2] at hR
      refine lv_aload_n hx hb d_ST_read_10 rfl (lv_at hl 0 rfl) ?_
      refine lv_iload_n hx hb d_ST_read_11 rfl (lv_at hl 1 rfl) ?_
      refine va_iald hx hb hC.2.2.2.2.2.2.2.1.1 hB.1 _ 0 (lkC_iarr hj) rfl (vin (by assumption) (by assumption) (lnI_lt j)) d_ST_read_12 ?_
      refine lv_goto (tgt := 17) hx hb d_ST_read_13 (by decide) ?_
      subst hR
      exact ri hC hB rfl d_ST_read_17

set_option maxHeartbeats 4000000 in
set_option maxRecDepth 100000 in
theorem c_ST_write (j : Nat) (hj : j < 7) (σ : SC) (π : PJ) (hπ : RJ π σ) (x1 : Int32) (x2 : Int32) : CM l y_ST_write b_ST_write 3 (none) { frames := 0, cells := 0, slots := 0, locals := 0 } D (tyL cI cL cQ) N0 [.ref (G 3 j), .int x1, .int x2] (wsC G cI cL cQ σ π rest) (none) (pwC G cI cL cQ (m_ST_write σ j x1 x2) rest) 0 0 := by
  generalize hR : m_ST_write σ j x1 x2 = RES
  refine met_of (own := R_ST) (by decide) rfl nwl_ok ?_
  intro p e s m below meth c hC hin hB
  have hx := hC.1
  have hb := hC.2.1
  have hl := lv_entry ([.ref (G 3 j), .int x1, .int x2]) (n := 3) (Nat.le_of_ble_eq_true rfl)
  rw [lg_entry_eq]
  generalize (lg_sl ([.ref (G 3 j), .int x1, .int x2]) ++ List.replicate (3 - (lg_sl ([.ref (G 3 j), .int x1, .int x2])).length) Slot.unset).toArray = ls at hl ⊢
  have hl : lv_has ls 3 [(0, .ref (G 3 j)), (1, .int x1), (2, .int x2)] := hl
  rw [m_ST_write] at hR
  refine lv_iload_n hx hb d_ST_write_0 rfl (lv_at hl 1 rfl) ?_
  refine lv_if_lt (tgt := 14) hx hb d_ST_write_1 (by decide) (fun c_1 => ?_) (fun c_1 => ?_)
  · rw [if_pos c_1] at hR
    subst hR
    exact rv hC hB ⟨π, hπ, rfl⟩ d_ST_write_14
  · rw [if_neg c_1] at hR
    refine lv_iload_n hx hb d_ST_write_4 rfl (lv_at hl 1 rfl) ?_
    refine lv_aload_n hx hb d_ST_write_5 rfl (lv_at hl 0 rfl) ?_
    refine va_alen hx hb hC.2.2.2.2.2.2.2.1.1 hB.1 _ 0 (lkC_iarr hj) rfl (v := (nI (lnI j))) rfl d_ST_write_6 ?_
    refine lv_icmp_ge (tgt := 14) hx hb d_ST_write_7 (by decide) (fun c_2 => ?_) (fun c_2 => ?_)
    · rw [if_pos c_2] at hR
      subst hR
      exact rv hC hB ⟨π, hπ, rfl⟩ d_ST_write_14
    · rw [if_neg c_2] at hR
      refine lv_aload_n hx hb d_ST_write_10 rfl (lv_at hl 0 rfl) ?_
      refine lv_iload_n hx hb d_ST_write_11 rfl (lv_at hl 1 rfl) ?_
      refine lv_iload_n hx hb d_ST_write_12 rfl (lv_at hl 2 rfl) ?_
      refine as_i hC hB _ 0 (lkC_iarr hj) rfl (vin (by assumption) (by assumption) (lnI_lt j)) d_ST_write_13 (ws' := wsC G cI cL cQ (zI σ j x1.toNatClampNeg x2) π rest) (setC_iarr hj _ _) (fun H locs hB => ?_)
      subst hR
      exact rv hC hB ⟨π, hπ, rfl⟩ d_ST_write_14

set_option maxHeartbeats 4000000 in
set_option maxRecDepth 100000 in
theorem c_Sheets_sheetCount  (σ : SC) (π : PJ)  : CM l y_Sheets_sheetCount b_Sheets_sheetCount 1 (some .int) { frames := 1, cells := 0, slots := 0, locals := 21 } D (tyL cI cL cQ) N0 [.ref (G 0 3)] (wsC G cI cL cQ σ π rest) (some (.int (m_Sheets_sheetCount σ))) (fun w => w = wsC G cI cL cQ σ π rest) 0 0 := by
  generalize hR : m_Sheets_sheetCount σ = RES
  refine met_of (own := R_Sheets) (by decide) rfl nwl_ok ?_
  intro p e s m below meth c hC hin hB
  have hx := hC.1
  have hb := hC.2.1
  have hl := lv_entry ([.ref (G 0 3)]) (n := 1) (Nat.le_of_ble_eq_true rfl)
  rw [lg_entry_eq]
  generalize (lg_sl ([.ref (G 0 3)]) ++ List.replicate (1 - (lg_sl ([.ref (G 0 3)])).length) Slot.unset).toArray = ls at hl ⊢
  have hl : lv_has ls 1 [(0, .ref (G 0 3))] := hl
  rw [m_Sheets_sheetCount] at hR
  refine lv_aload_n hx hb d_Sheets_sheetCount_0 rfl (lv_at hl 0 rfl) ?_
  refine gt hC hB _ lkC_Sheets rfl i_Sheets 0 (by decide) rfl kw_77 rfl d_Sheets_sheetCount_1 ?_
  refine lv_iconst (v := 0) hx hb d_Sheets_sheetCount_4 (by decide) ?_
  refine kV hC hB _ (lkC_row (by decide)) rfl (c_Row_at 0 (by decide) σ π 0) allw_ok mf_Row_at kw_230 kw_231 kw_229 ⟨rfl, rfl, Nat.le_of_ble_eq_true rfl, Nat.le_of_ble_eq_true rfl⟩ rfl rfl hl.1 (Nat.le_of_ble_eq_true rfl) d_Sheets_sheetCount_5 ⟨Nat.le_of_ble_eq_true rfl, Nat.le_of_ble_eq_true rfl⟩ (roK fun H locs hB => ?_)
  subst hR
  exact ri hC hB rfl d_Sheets_sheetCount_8

set_option maxHeartbeats 4000000 in
set_option maxRecDepth 100000 in
theorem c_Sheets_placementsLeft  (σ : SC) (π : PJ)  : CM l y_Sheets_placementsLeft b_Sheets_placementsLeft 1 (some .int) { frames := 1, cells := 0, slots := 0, locals := 21 } D (tyL cI cL cQ) N0 [.ref (G 0 3)] (wsC G cI cL cQ σ π rest) (some (.int (m_Sheets_placementsLeft σ))) (fun w => w = wsC G cI cL cQ σ π rest) 0 0 := by
  generalize hR : m_Sheets_placementsLeft σ = RES
  refine met_of (own := R_Sheets) (by decide) rfl nwl_ok ?_
  intro p e s m below meth c hC hin hB
  have hx := hC.1
  have hb := hC.2.1
  have hl := lv_entry ([.ref (G 0 3)]) (n := 1) (Nat.le_of_ble_eq_true rfl)
  rw [lg_entry_eq]
  generalize (lg_sl ([.ref (G 0 3)]) ++ List.replicate (1 - (lg_sl ([.ref (G 0 3)])).length) Slot.unset).toArray = ls at hl ⊢
  have hl : lv_has ls 1 [(0, .ref (G 0 3))] := hl
  rw [m_Sheets_placementsLeft] at hR
  refine lv_bipush (v := 60) hx hb d_Sheets_placementsLeft_0 (by decide) ?_
  refine lv_aload_n hx hb d_Sheets_placementsLeft_2 rfl (lv_at hl 0 rfl) ?_
  refine gt hC hB _ lkC_Sheets rfl i_Sheets 0 (by decide) rfl kw_77 rfl d_Sheets_placementsLeft_3 ?_
  refine lv_iconst (v := 1) hx hb d_Sheets_placementsLeft_6 (by decide) ?_
  refine kV hC hB _ (lkC_row (by decide)) rfl (c_Row_at 0 (by decide) σ π 1) allw_ok mf_Row_at kw_230 kw_231 kw_229 ⟨rfl, rfl, Nat.le_of_ble_eq_true rfl, Nat.le_of_ble_eq_true rfl⟩ rfl rfl hl.1 (Nat.le_of_ble_eq_true rfl) d_Sheets_placementsLeft_7 ⟨Nat.le_of_ble_eq_true rfl, Nat.le_of_ble_eq_true rfl⟩ (roK fun H locs hB => ?_)
  refine lv_isub hx hb d_Sheets_placementsLeft_10 ?_
  subst hR
  exact ri hC hB rfl d_Sheets_placementsLeft_11

set_option maxHeartbeats 4000000 in
set_option maxRecDepth 100000 in
theorem c_Sheets_isSheet  (σ : SC) (π : PJ) (x0 : Int32) : CM l y_Sheets_isSheet b_Sheets_isSheet 2 (some .boolean) { frames := 2, cells := 0, slots := 0, locals := 41 } D (tyL cI cL cQ) N0 [.ref (G 0 3), .int x0] (wsC G cI cL cQ σ π rest) (some (.int (bi (m_Sheets_isSheet σ x0)))) (fun w => w = wsC G cI cL cQ σ π rest) 0 0 := by
  generalize hR : m_Sheets_isSheet σ x0 = RES
  refine met_of (own := R_Sheets) (by decide) rfl nwl_ok ?_
  intro p e s m below meth c hC hin hB
  have hx := hC.1
  have hb := hC.2.1
  have hl := lv_entry ([.ref (G 0 3), .int x0]) (n := 2) (Nat.le_of_ble_eq_true rfl)
  rw [lg_entry_eq]
  generalize (lg_sl ([.ref (G 0 3), .int x0]) ++ List.replicate (2 - (lg_sl ([.ref (G 0 3), .int x0])).length) Slot.unset).toArray = ls at hl ⊢
  have hl : lv_has ls 2 [(0, .ref (G 0 3)), (1, .int x0)] := hl
  rw [m_Sheets_isSheet] at hR
  refine lv_iload_n hx hb d_Sheets_isSheet_0 rfl (lv_at hl 1 rfl) ?_
  refine lv_if_lt (tgt := 16) hx hb d_Sheets_isSheet_1 (by decide) (fun c_1 => ?_) (fun c_1 => ?_)
  · rw [if_pos c_1] at hR
    refine lv_iconst (v := 0) hx hb d_Sheets_isSheet_16 (by decide) ?_
    subst hR
    exact rz (b := false) hC hB rfl d_Sheets_isSheet_17
  · rw [if_neg c_1] at hR
    refine lv_iload_n hx hb d_Sheets_isSheet_4 rfl (lv_at hl 1 rfl) ?_
    refine lv_aload_n hx hb d_Sheets_isSheet_5 rfl (lv_at hl 0 rfl) ?_
    refine kV hC hB _ lkC_Sheets rfl (c_Sheets_sheetCount σ π) allw_ok mf_Sheets_sheetCount kw_280 kw_281 kw_287 ⟨rfl, rfl, Nat.le_of_ble_eq_true rfl, Nat.le_of_ble_eq_true rfl⟩ rfl rfl hl.1 (Nat.le_of_ble_eq_true rfl) d_Sheets_isSheet_6 ⟨Nat.le_of_ble_eq_true rfl, Nat.le_of_ble_eq_true rfl⟩ (roK fun H locs hB => ?_)
    refine lv_icmp_ge (tgt := 16) hx hb d_Sheets_isSheet_9 (by decide) (fun c_2 => ?_) (fun c_2 => ?_)
    · rw [if_pos c_2] at hR
      refine lv_iconst (v := 0) hx hb d_Sheets_isSheet_16 (by decide) ?_
      subst hR
      exact rz (b := false) hC hB rfl d_Sheets_isSheet_17
    · rw [if_neg c_2] at hR
      refine lv_iconst (v := 1) hx hb d_Sheets_isSheet_12 (by decide) ?_
      refine lv_goto (tgt := 17) hx hb d_Sheets_isSheet_13 (by decide) ?_
      subst hR
      exact rz (b := true) hC hB rfl d_Sheets_isSheet_17

set_option maxHeartbeats 4000000 in
set_option maxRecDepth 100000 in
theorem c_Sheets_parentOf  (σ : SC) (π : PJ) (x0 : Int32) : CM l y_Sheets_parentOf b_Sheets_parentOf 2 (some .int) { frames := 1, cells := 0, slots := 0, locals := 21 } D (tyL cI cL cQ) N0 [.ref (G 0 3), .int x0] (wsC G cI cL cQ σ π rest) (some (.int (m_Sheets_parentOf σ x0))) (fun w => w = wsC G cI cL cQ σ π rest) 0 0 := by
  generalize hR : m_Sheets_parentOf σ x0 = RES
  refine met_of (own := R_Sheets) (by decide) rfl nwl_ok ?_
  intro p e s m below meth c hC hin hB
  have hx := hC.1
  have hb := hC.2.1
  have hl := lv_entry ([.ref (G 0 3), .int x0]) (n := 2) (Nat.le_of_ble_eq_true rfl)
  rw [lg_entry_eq]
  generalize (lg_sl ([.ref (G 0 3), .int x0]) ++ List.replicate (2 - (lg_sl ([.ref (G 0 3), .int x0])).length) Slot.unset).toArray = ls at hl ⊢
  have hl : lv_has ls 2 [(0, .ref (G 0 3)), (1, .int x0)] := hl
  rw [m_Sheets_parentOf] at hR
  refine lv_aload_n hx hb d_Sheets_parentOf_0 rfl (lv_at hl 0 rfl) ?_
  refine gt hC hB _ lkC_Sheets rfl i_Sheets 3 (by decide) rfl kw_80 rfl d_Sheets_parentOf_1 ?_
  refine lv_iload_n hx hb d_Sheets_parentOf_4 rfl (lv_at hl 1 rfl) ?_
  refine kV hC hB _ (lkC_row (by decide)) rfl (c_Row_at 3 (by decide) σ π x0) allw_ok mf_Row_at kw_230 kw_231 kw_229 ⟨rfl, rfl, Nat.le_of_ble_eq_true rfl, Nat.le_of_ble_eq_true rfl⟩ rfl rfl hl.1 (Nat.le_of_ble_eq_true rfl) d_Sheets_parentOf_5 ⟨Nat.le_of_ble_eq_true rfl, Nat.le_of_ble_eq_true rfl⟩ (roK fun H locs hB => ?_)
  subst hR
  exact ri hC hB rfl d_Sheets_parentOf_8

set_option maxHeartbeats 4000000 in
set_option maxRecDepth 100000 in
theorem c_Sheets_isPlacement  (σ : SC) (π : PJ) (x0 : Int32) : CM l y_Sheets_isPlacement b_Sheets_isPlacement 2 (some .boolean) { frames := 2, cells := 0, slots := 0, locals := 42 } D (tyL cI cL cQ) N0 [.ref (G 0 3), .int x0] (wsC G cI cL cQ σ π rest) (some (.int (bi (m_Sheets_isPlacement σ x0)))) (fun w => w = wsC G cI cL cQ σ π rest) 0 0 := by
  generalize hR : m_Sheets_isPlacement σ x0 = RES
  refine met_of (own := R_Sheets) (by decide) rfl nwl_ok ?_
  intro p e s m below meth c hC hin hB
  have hx := hC.1
  have hb := hC.2.1
  have hl := lv_entry ([.ref (G 0 3), .int x0]) (n := 2) (Nat.le_of_ble_eq_true rfl)
  rw [lg_entry_eq]
  generalize (lg_sl ([.ref (G 0 3), .int x0]) ++ List.replicate (2 - (lg_sl ([.ref (G 0 3), .int x0])).length) Slot.unset).toArray = ls at hl ⊢
  have hl : lv_has ls 2 [(0, .ref (G 0 3)), (1, .int x0)] := hl
  rw [m_Sheets_isPlacement] at hR
  refine lv_aload_n hx hb d_Sheets_isPlacement_0 rfl (lv_at hl 0 rfl) ?_
  refine lv_iload_n hx hb d_Sheets_isPlacement_1 rfl (lv_at hl 1 rfl) ?_
  refine kV hC hB _ lkC_Sheets rfl (c_Sheets_parentOf σ π x0) allw_ok mf_Sheets_parentOf kw_468 kw_469 kw_467 ⟨rfl, rfl, Nat.le_of_ble_eq_true rfl, Nat.le_of_ble_eq_true rfl⟩ rfl rfl hl.1 (Nat.le_of_ble_eq_true rfl) d_Sheets_isPlacement_2 ⟨Nat.le_of_ble_eq_true rfl, Nat.le_of_ble_eq_true rfl⟩ (roK fun H locs hB => ?_)
  refine lv_iconst (v := (-1)) hx hb d_Sheets_isPlacement_5 (by decide) ?_
  refine lv_icmp_eq (tgt := 13) hx hb d_Sheets_isPlacement_6 (by decide) (fun c_1 => ?_) (fun c_1 => ?_)
  · rw [if_pos c_1] at hR
    refine lv_iconst (v := 0) hx hb d_Sheets_isPlacement_13 (by decide) ?_
    subst hR
    exact rz (b := false) hC hB rfl d_Sheets_isPlacement_14
  · rw [if_neg c_1] at hR
    refine lv_iconst (v := 1) hx hb d_Sheets_isPlacement_9 (by decide) ?_
    refine lv_goto (tgt := 14) hx hb d_Sheets_isPlacement_10 (by decide) ?_
    subst hR
    exact rz (b := true) hC hB rfl d_Sheets_isPlacement_14

set_option maxHeartbeats 4000000 in
set_option maxRecDepth 100000 in
theorem c_Sheets_sheetOf  (σ : SC) (π : PJ) (x0 : Int32) : CM l y_Sheets_sheetOf b_Sheets_sheetOf 2 (some .int) { frames := 1, cells := 0, slots := 0, locals := 21 } D (tyL cI cL cQ) N0 [.ref (G 0 3), .int x0] (wsC G cI cL cQ σ π rest) (some (.int (m_Sheets_sheetOf σ x0))) (fun w => w = wsC G cI cL cQ σ π rest) 0 0 := by
  generalize hR : m_Sheets_sheetOf σ x0 = RES
  refine met_of (own := R_Sheets) (by decide) rfl nwl_ok ?_
  intro p e s m below meth c hC hin hB
  have hx := hC.1
  have hb := hC.2.1
  have hl := lv_entry ([.ref (G 0 3), .int x0]) (n := 2) (Nat.le_of_ble_eq_true rfl)
  rw [lg_entry_eq]
  generalize (lg_sl ([.ref (G 0 3), .int x0]) ++ List.replicate (2 - (lg_sl ([.ref (G 0 3), .int x0])).length) Slot.unset).toArray = ls at hl ⊢
  have hl : lv_has ls 2 [(0, .ref (G 0 3)), (1, .int x0)] := hl
  rw [m_Sheets_sheetOf] at hR
  refine lv_aload_n hx hb d_Sheets_sheetOf_0 rfl (lv_at hl 0 rfl) ?_
  refine gt hC hB _ lkC_Sheets rfl i_Sheets 2 (by decide) rfl kw_79 rfl d_Sheets_sheetOf_1 ?_
  refine lv_iload_n hx hb d_Sheets_sheetOf_4 rfl (lv_at hl 1 rfl) ?_
  refine kV hC hB _ (lkC_row (by decide)) rfl (c_Row_at 2 (by decide) σ π x0) allw_ok mf_Row_at kw_230 kw_231 kw_229 ⟨rfl, rfl, Nat.le_of_ble_eq_true rfl, Nat.le_of_ble_eq_true rfl⟩ rfl rfl hl.1 (Nat.le_of_ble_eq_true rfl) d_Sheets_sheetOf_5 ⟨Nat.le_of_ble_eq_true rfl, Nat.le_of_ble_eq_true rfl⟩ (roK fun H locs hB => ?_)
  subst hR
  exact ri hC hB rfl d_Sheets_sheetOf_8

set_option maxHeartbeats 4000000 in
set_option maxRecDepth 100000 in
theorem c_Sheets_headOf  (σ : SC) (π : PJ) (x0 : Int32) : CM l y_Sheets_headOf b_Sheets_headOf 2 (some .int) { frames := 0, cells := 0, slots := 0, locals := 0 } D (tyL cI cL cQ) N0 [.ref (G 0 3), .int x0] (wsC G cI cL cQ σ π rest) (some (.int (m_Sheets_headOf σ x0))) (fun w => w = wsC G cI cL cQ σ π rest) 0 0 := by
  generalize hR : m_Sheets_headOf σ x0 = RES
  refine met_of (own := R_Sheets) (by decide) rfl nwl_ok ?_
  intro p e s m below meth c hC hin hB
  have hx := hC.1
  have hb := hC.2.1
  have hl := lv_entry ([.ref (G 0 3), .int x0]) (n := 2) (Nat.le_of_ble_eq_true rfl)
  rw [lg_entry_eq]
  generalize (lg_sl ([.ref (G 0 3), .int x0]) ++ List.replicate (2 - (lg_sl ([.ref (G 0 3), .int x0])).length) Slot.unset).toArray = ls at hl ⊢
  have hl : lv_has ls 2 [(0, .ref (G 0 3)), (1, .int x0)] := hl
  rw [m_Sheets_headOf] at hR
  refine lv_bipush (v := 60) hx hb d_Sheets_headOf_0 (by decide) ?_
  refine lv_iload_n hx hb d_Sheets_headOf_2 rfl (lv_at hl 1 rfl) ?_
  refine lv_iadd hx hb d_Sheets_headOf_3 ?_
  subst hR
  exact ri hC hB rfl d_Sheets_headOf_4

set_option maxHeartbeats 4000000 in
set_option maxRecDepth 100000 in
theorem c_Sheets_firstOn  (σ : SC) (π : PJ) (x0 : Int32) : CM l y_Sheets_firstOn b_Sheets_firstOn 2 (some .int) { frames := 1, cells := 0, slots := 0, locals := 21 } D (tyL cI cL cQ) N0 [.ref (G 0 3), .int x0] (wsC G cI cL cQ σ π rest) (some (.int (m_Sheets_firstOn σ x0))) (fun w => w = wsC G cI cL cQ σ π rest) 0 0 := by
  generalize hR : m_Sheets_firstOn σ x0 = RES
  refine met_of (own := R_Sheets) (by decide) rfl nwl_ok ?_
  intro p e s m below meth c hC hin hB
  have hx := hC.1
  have hb := hC.2.1
  have hl := lv_entry ([.ref (G 0 3), .int x0]) (n := 2) (Nat.le_of_ble_eq_true rfl)
  rw [lg_entry_eq]
  generalize (lg_sl ([.ref (G 0 3), .int x0]) ++ List.replicate (2 - (lg_sl ([.ref (G 0 3), .int x0])).length) Slot.unset).toArray = ls at hl ⊢
  have hl : lv_has ls 2 [(0, .ref (G 0 3)), (1, .int x0)] := hl
  rw [m_Sheets_firstOn] at hR
  refine lv_aload_n hx hb d_Sheets_firstOn_0 rfl (lv_at hl 0 rfl) ?_
  refine gt hC hB _ lkC_Sheets rfl i_Sheets 4 (by decide) rfl kw_81 rfl d_Sheets_firstOn_1 ?_
  refine lv_aload_n hx hb d_Sheets_firstOn_4 rfl (lv_at hl 0 rfl) ?_
  refine lv_iload_n hx hb d_Sheets_firstOn_5 rfl (lv_at hl 1 rfl) ?_
  refine kV hC hB _ lkC_Sheets rfl (c_Sheets_headOf σ π x0) allw_ok mf_Sheets_headOf kw_227 ks_1 kw_225 ⟨rfl, rfl, Nat.le_of_ble_eq_true rfl, Nat.le_of_ble_eq_true rfl⟩ rfl rfl hl.1 (Nat.le_of_ble_eq_true rfl) d_Sheets_firstOn_6 ⟨Nat.le_of_ble_eq_true rfl, Nat.le_of_ble_eq_true rfl⟩ (roK fun H locs hB => ?_)
  refine kV hC hB _ (lkC_row (by decide)) rfl (c_Row_at 4 (by decide) σ π (m_Sheets_headOf σ x0)) allw_ok mf_Row_at kw_230 kw_231 kw_229 ⟨rfl, rfl, Nat.le_of_ble_eq_true rfl, Nat.le_of_ble_eq_true rfl⟩ rfl rfl hl.1 (Nat.le_of_ble_eq_true rfl) d_Sheets_firstOn_9 ⟨Nat.le_of_ble_eq_true rfl, Nat.le_of_ble_eq_true rfl⟩ (roK fun H locs hB => ?_)
  subst hR
  exact ri hC hB rfl d_Sheets_firstOn_12

set_option maxHeartbeats 4000000 in
set_option maxRecDepth 100000 in
theorem c_Sheets_nextOf  (σ : SC) (π : PJ) (x0 : Int32) : CM l y_Sheets_nextOf b_Sheets_nextOf 2 (some .int) { frames := 1, cells := 0, slots := 0, locals := 21 } D (tyL cI cL cQ) N0 [.ref (G 0 3), .int x0] (wsC G cI cL cQ σ π rest) (some (.int (m_Sheets_nextOf σ x0))) (fun w => w = wsC G cI cL cQ σ π rest) 0 0 := by
  generalize hR : m_Sheets_nextOf σ x0 = RES
  refine met_of (own := R_Sheets) (by decide) rfl nwl_ok ?_
  intro p e s m below meth c hC hin hB
  have hx := hC.1
  have hb := hC.2.1
  have hl := lv_entry ([.ref (G 0 3), .int x0]) (n := 2) (Nat.le_of_ble_eq_true rfl)
  rw [lg_entry_eq]
  generalize (lg_sl ([.ref (G 0 3), .int x0]) ++ List.replicate (2 - (lg_sl ([.ref (G 0 3), .int x0])).length) Slot.unset).toArray = ls at hl ⊢
  have hl : lv_has ls 2 [(0, .ref (G 0 3)), (1, .int x0)] := hl
  rw [m_Sheets_nextOf] at hR
  refine lv_aload_n hx hb d_Sheets_nextOf_0 rfl (lv_at hl 0 rfl) ?_
  refine gt hC hB _ lkC_Sheets rfl i_Sheets 4 (by decide) rfl kw_81 rfl d_Sheets_nextOf_1 ?_
  refine lv_iload_n hx hb d_Sheets_nextOf_4 rfl (lv_at hl 1 rfl) ?_
  refine kV hC hB _ (lkC_row (by decide)) rfl (c_Row_at 4 (by decide) σ π x0) allw_ok mf_Row_at kw_230 kw_231 kw_229 ⟨rfl, rfl, Nat.le_of_ble_eq_true rfl, Nat.le_of_ble_eq_true rfl⟩ rfl rfl hl.1 (Nat.le_of_ble_eq_true rfl) d_Sheets_nextOf_5 ⟨Nat.le_of_ble_eq_true rfl, Nat.le_of_ble_eq_true rfl⟩ (roK fun H locs hB => ?_)
  subst hR
  exact ri hC hB rfl d_Sheets_nextOf_8

set_option maxHeartbeats 4000000 in
set_option maxRecDepth 100000 in
theorem c_Sheets_tells  (σ : SC) (π : PJ) (x0 : Int32) (x1 : Int32) : CM l y_Sheets_tells b_Sheets_tells 3 (some .boolean) { frames := 1, cells := 0, slots := 0, locals := 21 } D (tyL cI cL cQ) N0 [.ref (G 0 3), .int x0, .int x1] (wsC G cI cL cQ σ π rest) (some (.int (bi (m_Sheets_tells σ x0 x1)))) (fun w => w = wsC G cI cL cQ σ π rest) 0 0 := by
  generalize hR : m_Sheets_tells σ x0 x1 = RES
  refine met_of (own := R_Sheets) (by decide) rfl nwl_ok ?_
  intro p e s m below meth c hC hin hB
  have hx := hC.1
  have hb := hC.2.1
  have hl := lv_entry ([.ref (G 0 3), .int x0, .int x1]) (n := 3) (Nat.le_of_ble_eq_true rfl)
  rw [lg_entry_eq]
  generalize (lg_sl ([.ref (G 0 3), .int x0, .int x1]) ++ List.replicate (3 - (lg_sl ([.ref (G 0 3), .int x0, .int x1])).length) Slot.unset).toArray = ls at hl ⊢
  have hl : lv_has ls 3 [(0, .ref (G 0 3)), (1, .int x0), (2, .int x1)] := hl
  rw [m_Sheets_tells] at hR
  refine lv_aload_n hx hb d_Sheets_tells_0 rfl (lv_at hl 0 rfl) ?_
  refine gt hC hB _ lkC_Sheets rfl i_Sheets 1 (by decide) rfl kw_78 rfl d_Sheets_tells_1 ?_
  refine lv_iload_n hx hb d_Sheets_tells_4 rfl (lv_at hl 1 rfl) ?_
  refine kV hC hB _ (lkC_row (by decide)) rfl (c_Row_at 1 (by decide) σ π x0) allw_ok mf_Row_at kw_230 kw_231 kw_229 ⟨rfl, rfl, Nat.le_of_ble_eq_true rfl, Nat.le_of_ble_eq_true rfl⟩ rfl rfl hl.1 (Nat.le_of_ble_eq_true rfl) d_Sheets_tells_5 ⟨Nat.le_of_ble_eq_true rfl, Nat.le_of_ble_eq_true rfl⟩ (roK fun H locs hB => ?_)
  refine lv_iload_n hx hb d_Sheets_tells_8 rfl (lv_at hl 2 rfl) ?_
  refine kSN hC hB (c_ST_holdsName σ π (m_Row_at σ 1 x0) x1) allw_ok mf_ST_holdsName kw_337 nw_4 ⟨rfl, rfl, Nat.le_of_ble_eq_true rfl, Nat.le_of_ble_eq_true rfl⟩ rfl rfl hl.1 (Nat.le_of_ble_eq_true rfl) d_Sheets_tells_9 ⟨Nat.le_of_ble_eq_true rfl, Nat.le_of_ble_eq_true rfl⟩ (roK fun H locs hB => ?_)
  subst hR
  exact rz (b := (m_ST_holdsName (m_Row_at σ 1 x0) x1)) hC hB rfl d_Sheets_tells_12

set_option maxHeartbeats 4000000 in
set_option maxRecDepth 100000 in
theorem c_Sheets_jointOf  (σ : SC) (π : PJ) (x0 : Int32) (x1 : Int32) : CM l y_Sheets_jointOf b_Sheets_jointOf 3 (some .int) { frames := 1, cells := 0, slots := 0, locals := 21 } D (tyL cI cL cQ) N0 [.ref (G 0 3), .int x0, .int x1] (wsC G cI cL cQ σ π rest) (some (.int (m_Sheets_jointOf σ x0 x1))) (fun w => w = wsC G cI cL cQ σ π rest) 0 0 := by
  generalize hR : m_Sheets_jointOf σ x0 x1 = RES
  refine met_of (own := R_Sheets) (by decide) rfl nwl_ok ?_
  intro p e s m below meth c hC hin hB
  have hx := hC.1
  have hb := hC.2.1
  have hl := lv_entry ([.ref (G 0 3), .int x0, .int x1]) (n := 3) (Nat.le_of_ble_eq_true rfl)
  rw [lg_entry_eq]
  generalize (lg_sl ([.ref (G 0 3), .int x0, .int x1]) ++ List.replicate (3 - (lg_sl ([.ref (G 0 3), .int x0, .int x1])).length) Slot.unset).toArray = ls at hl ⊢
  have hl : lv_has ls 3 [(0, .ref (G 0 3)), (1, .int x0), (2, .int x1)] := hl
  rw [m_Sheets_jointOf] at hR
  refine lv_aload_n hx hb d_Sheets_jointOf_0 rfl (lv_at hl 0 rfl) ?_
  refine gt hC hB _ lkC_Sheets rfl i_Sheets 5 (by decide) rfl kw_82 rfl d_Sheets_jointOf_1 ?_
  refine lv_iload_n hx hb d_Sheets_jointOf_4 rfl (lv_at hl 1 rfl) ?_
  refine lv_bipush (v := 32) hx hb d_Sheets_jointOf_5 (by decide) ?_
  refine lv_imul hx hb d_Sheets_jointOf_7 ?_
  refine lv_iload_n hx hb d_Sheets_jointOf_8 rfl (lv_at hl 2 rfl) ?_
  refine lv_iadd hx hb d_Sheets_jointOf_9 ?_
  refine kV hC hB _ (lkC_row (by decide)) rfl (c_Row_at 5 (by decide) σ π ((x0 * 32) + x1)) allw_ok mf_Row_at kw_230 kw_231 kw_229 ⟨rfl, rfl, Nat.le_of_ble_eq_true rfl, Nat.le_of_ble_eq_true rfl⟩ rfl rfl hl.1 (Nat.le_of_ble_eq_true rfl) d_Sheets_jointOf_10 ⟨Nat.le_of_ble_eq_true rfl, Nat.le_of_ble_eq_true rfl⟩ (roK fun H locs hB => ?_)
  subst hR
  exact ri hC hB rfl d_Sheets_jointOf_13
end SC
end
