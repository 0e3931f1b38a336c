/-! decode rows of the law; words of methods with a handler -/
abbrev b_Law_law : ByteArray := code
theorem d_Law_place_0 : decode b_Law_place 0 = .ok (.aload_n 3, 1) := by decide +kernel
theorem d_Law_place_1 : decode b_Law_place 1 = .ok (.iconst 0, 1) := by decide +kernel
theorem d_Law_place_2 : decode b_Law_place 2 = .ok (.aload_n 0, 1) := by decide +kernel
theorem d_Law_place_3 : decode b_Law_place 3 = .ok (.iload_n 1, 1) := by decide +kernel
theorem d_Law_place_4 : decode b_Law_place 4 = .ok (.iload_n 2, 1) := by decide +kernel
theorem d_Law_place_5 : decode b_Law_place 5 = .ok (.invokevirtual 7, 3) := by decide +kernel
theorem d_Law_place_8 : decode b_Law_place 8 = .ok (.i2l, 1) := by decide +kernel
theorem d_Law_place_9 : decode b_Law_place 9 = .ok (.lastore, 1) := by decide +kernel
theorem d_Law_place_10 : decode b_Law_place 10 = .ok (.goto 7, 3) := by decide +kernel
theorem d_Law_place_13 : decode b_Law_place 13 = .ok (.astore 4, 2) := by decide +kernel
theorem d_Law_place_15 : decode b_Law_place 15 = .ok (.iconst 1, 1) := by decide +kernel
theorem d_Law_place_16 : decode b_Law_place 16 = .ok (.ireturn, 1) := by decide +kernel
theorem d_Law_place_17 : decode b_Law_place 17 = .ok (.iconst 0, 1) := by decide +kernel
theorem d_Law_place_18 : decode b_Law_place 18 = .ok (.ireturn, 1) := by decide +kernel
theorem kw_381 : (Jvm.Cond.codeWith ({ cls := "SheetTreesLaw", name := "place", desc := "(LSheetTrees;II[J)I" } : Jvm.MethodName) method_3_code (5 : Nat) (Option.some Jvm.ClassFile.FieldType.int) [((0 : Nat), (10 : Nat), (13 : Nat), (13 : Nat))]) ∈ ALLW := List.mem_filter.mpr ⟨List.mem_append_right _ (List.mem_of_getElem? (i := 381) (by decide +kernel)), rfl⟩
theorem d_Law_remove_0 : decode b_Law_remove 0 = .ok (.aload_n 2, 1) := by decide +kernel
theorem d_Law_remove_1 : decode b_Law_remove 1 = .ok (.iconst 0, 1) := by decide +kernel
theorem d_Law_remove_2 : decode b_Law_remove 2 = .ok (.aload_n 0, 1) := by decide +kernel
theorem d_Law_remove_3 : decode b_Law_remove 3 = .ok (.iload_n 1, 1) := by decide +kernel
theorem d_Law_remove_4 : decode b_Law_remove 4 = .ok (.invokevirtual 15, 3) := by decide +kernel
theorem d_Law_remove_7 : decode b_Law_remove 7 = .ok (.ifCond .eq 7, 3) := by decide +kernel
theorem d_Law_remove_10 : decode b_Law_remove 10 = .ok (.lconst 1, 1) := by decide +kernel
theorem d_Law_remove_11 : decode b_Law_remove 11 = .ok (.goto 4, 3) := by decide +kernel
theorem d_Law_remove_14 : decode b_Law_remove 14 = .ok (.lconst 0, 1) := by decide +kernel
theorem d_Law_remove_15 : decode b_Law_remove 15 = .ok (.lastore, 1) := by decide +kernel
theorem d_Law_remove_16 : decode b_Law_remove 16 = .ok (.goto 6, 3) := by decide +kernel
theorem d_Law_remove_19 : decode b_Law_remove 19 = .ok (.astore_n 3, 1) := by decide +kernel
theorem d_Law_remove_20 : decode b_Law_remove 20 = .ok (.iconst 1, 1) := by decide +kernel
theorem d_Law_remove_21 : decode b_Law_remove 21 = .ok (.ireturn, 1) := by decide +kernel
theorem d_Law_remove_22 : decode b_Law_remove 22 = .ok (.iconst 0, 1) := by decide +kernel
theorem d_Law_remove_23 : decode b_Law_remove 23 = .ok (.ireturn, 1) := by decide +kernel
theorem kw_506 : (Jvm.Cond.codeWith ({ cls := "SheetTreesLaw", name := "remove", desc := "(LSheetTrees;I[J)I" } : Jvm.MethodName) method_4_code (4 : Nat) (Option.some Jvm.ClassFile.FieldType.int) [((0 : Nat), (16 : Nat), (19 : Nat), (13 : Nat))]) ∈ ALLW := List.mem_filter.mpr ⟨List.mem_append_right _ (List.mem_of_getElem? (i := 506) (by decide +kernel)), rfl⟩
theorem d_Law_move_0 : decode b_Law_move 0 = .ok (.aload_n 3, 1) := by decide +kernel
theorem d_Law_move_1 : decode b_Law_move 1 = .ok (.iconst 0, 1) := by decide +kernel
theorem d_Law_move_2 : decode b_Law_move 2 = .ok (.aload_n 0, 1) := by decide +kernel
theorem d_Law_move_3 : decode b_Law_move 3 = .ok (.iload_n 1, 1) := by decide +kernel
theorem d_Law_move_4 : decode b_Law_move 4 = .ok (.iload_n 2, 1) := by decide +kernel
theorem d_Law_move_5 : decode b_Law_move 5 = .ok (.invokevirtual 19, 3) := by decide +kernel
theorem d_Law_move_8 : decode b_Law_move 8 = .ok (.ifCond .eq 7, 3) := by decide +kernel
theorem d_Law_move_11 : decode b_Law_move 11 = .ok (.lconst 1, 1) := by decide +kernel
theorem d_Law_move_12 : decode b_Law_move 12 = .ok (.goto 4, 3) := by decide +kernel
theorem d_Law_move_15 : decode b_Law_move 15 = .ok (.lconst 0, 1) := by decide +kernel
theorem d_Law_move_16 : decode b_Law_move 16 = .ok (.lastore, 1) := by decide +kernel
theorem d_Law_move_17 : decode b_Law_move 17 = .ok (.goto 7, 3) := by decide +kernel
theorem d_Law_move_20 : decode b_Law_move 20 = .ok (.astore 4, 2) := by decide +kernel
theorem d_Law_move_22 : decode b_Law_move 22 = .ok (.iconst 1, 1) := by decide +kernel
theorem d_Law_move_23 : decode b_Law_move 23 = .ok (.ireturn, 1) := by decide +kernel
theorem d_Law_move_24 : decode b_Law_move 24 = .ok (.iconst 0, 1) := by decide +kernel
theorem d_Law_move_25 : decode b_Law_move 25 = .ok (.ireturn, 1) := by decide +kernel
theorem kw_528 : (Jvm.Cond.codeWith ({ cls := "SheetTreesLaw", name := "move", desc := "(LSheetTrees;II[J)I" } : Jvm.MethodName) method_5_code (5 : Nat) (Option.some Jvm.ClassFile.FieldType.int) [((0 : Nat), (17 : Nat), (20 : Nat), (13 : Nat))]) ∈ ALLW := List.mem_filter.mpr ⟨List.mem_append_right _ (List.mem_of_getElem? (i := 528) (by decide +kernel)), rfl⟩
theorem d_Law_port_0 : decode b_Law_port 0 = .ok (.aload_n 3, 1) := by decide +kernel
theorem d_Law_port_1 : decode b_Law_port 1 = .ok (.iconst 0, 1) := by decide +kernel
theorem d_Law_port_2 : decode b_Law_port 2 = .ok (.aload_n 0, 1) := by decide +kernel
theorem d_Law_port_3 : decode b_Law_port 3 = .ok (.iload_n 1, 1) := by decide +kernel
theorem d_Law_port_4 : decode b_Law_port 4 = .ok (.iload_n 2, 1) := by decide +kernel
theorem d_Law_port_5 : decode b_Law_port 5 = .ok (.invokevirtual 23, 3) := by decide +kernel
theorem d_Law_port_8 : decode b_Law_port 8 = .ok (.ifCond .eq 7, 3) := by decide +kernel
theorem d_Law_port_11 : decode b_Law_port 11 = .ok (.lconst 1, 1) := by decide +kernel
theorem d_Law_port_12 : decode b_Law_port 12 = .ok (.goto 4, 3) := by decide +kernel
theorem d_Law_port_15 : decode b_Law_port 15 = .ok (.lconst 0, 1) := by decide +kernel
theorem d_Law_port_16 : decode b_Law_port 16 = .ok (.lastore, 1) := by decide +kernel
theorem d_Law_port_17 : decode b_Law_port 17 = .ok (.goto 7, 3) := by decide +kernel
theorem d_Law_port_20 : decode b_Law_port 20 = .ok (.astore 4, 2) := by decide +kernel
theorem d_Law_port_22 : decode b_Law_port 22 = .ok (.iconst 1, 1) := by decide +kernel
theorem d_Law_port_23 : decode b_Law_port 23 = .ok (.ireturn, 1) := by decide +kernel
theorem d_Law_port_24 : decode b_Law_port 24 = .ok (.iconst 0, 1) := by decide +kernel
theorem d_Law_port_25 : decode b_Law_port 25 = .ok (.ireturn, 1) := by decide +kernel
theorem kw_553 : (Jvm.Cond.codeWith ({ cls := "SheetTreesLaw", name := "port", desc := "(LSheetTrees;II[J)I" } : Jvm.MethodName) method_6_code (5 : Nat) (Option.some Jvm.ClassFile.FieldType.int) [((0 : Nat), (17 : Nat), (20 : Nat), (13 : Nat))]) ∈ ALLW := List.mem_filter.mpr ⟨List.mem_append_right _ (List.mem_of_getElem? (i := 553) (by decide +kernel)), rfl⟩
theorem d_Law_join_0 : decode b_Law_join 0 = .ok (.aload 4, 2) := by decide +kernel
theorem d_Law_join_2 : decode b_Law_join 2 = .ok (.iconst 0, 1) := by decide +kernel
theorem d_Law_join_3 : decode b_Law_join 3 = .ok (.aload_n 0, 1) := by decide +kernel
theorem d_Law_join_4 : decode b_Law_join 4 = .ok (.iload_n 1, 1) := by decide +kernel
theorem d_Law_join_5 : decode b_Law_join 5 = .ok (.iload_n 2, 1) := by decide +kernel
theorem d_Law_join_6 : decode b_Law_join 6 = .ok (.iload_n 3, 1) := by decide +kernel
theorem d_Law_join_7 : decode b_Law_join 7 = .ok (.invokevirtual 26, 3) := by decide +kernel
theorem d_Law_join_10 : decode b_Law_join 10 = .ok (.ifCond .eq 7, 3) := by decide +kernel
theorem d_Law_join_13 : decode b_Law_join 13 = .ok (.lconst 1, 1) := by decide +kernel
theorem d_Law_join_14 : decode b_Law_join 14 = .ok (.goto 4, 3) := by decide +kernel
theorem d_Law_join_17 : decode b_Law_join 17 = .ok (.lconst 0, 1) := by decide +kernel
theorem d_Law_join_18 : decode b_Law_join 18 = .ok (.lastore, 1) := by decide +kernel
theorem d_Law_join_19 : decode b_Law_join 19 = .ok (.goto 7, 3) := by decide +kernel
theorem d_Law_join_22 : decode b_Law_join 22 = .ok (.astore 5, 2) := by decide +kernel
theorem d_Law_join_24 : decode b_Law_join 24 = .ok (.iconst 1, 1) := by decide +kernel
theorem d_Law_join_25 : decode b_Law_join 25 = .ok (.ireturn, 1) := by decide +kernel
theorem d_Law_join_26 : decode b_Law_join 26 = .ok (.iconst 0, 1) := by decide +kernel
theorem d_Law_join_27 : decode b_Law_join 27 = .ok (.ireturn, 1) := by decide +kernel
theorem kw_570 : (Jvm.Cond.codeWith ({ cls := "SheetTreesLaw", name := "join", desc := "(LSheetTrees;III[J)I" } : Jvm.MethodName) method_7_code (6 : Nat) (Option.some Jvm.ClassFile.FieldType.int) [((0 : Nat), (19 : Nat), (22 : Nat), (13 : Nat))]) ∈ ALLW := List.mem_filter.mpr ⟨List.mem_append_right _ (List.mem_of_getElem? (i := 570) (by decide +kernel)), rfl⟩
theorem d_Law_joined_0 : decode b_Law_joined 0 = .ok (.aload_n 3, 1) := by decide +kernel
theorem d_Law_joined_1 : decode b_Law_joined 1 = .ok (.iconst 0, 1) := by decide +kernel
theorem d_Law_joined_2 : decode b_Law_joined 2 = .ok (.aload_n 0, 1) := by decide +kernel
theorem d_Law_joined_3 : decode b_Law_joined 3 = .ok (.iload_n 1, 1) := by decide +kernel
theorem d_Law_joined_4 : decode b_Law_joined 4 = .ok (.iload_n 2, 1) := by decide +kernel
theorem d_Law_joined_5 : decode b_Law_joined 5 = .ok (.invokevirtual 30, 3) := by decide +kernel
theorem d_Law_joined_8 : decode b_Law_joined 8 = .ok (.i2l, 1) := by decide +kernel
theorem d_Law_joined_9 : decode b_Law_joined 9 = .ok (.lastore, 1) := by decide +kernel
theorem d_Law_joined_10 : decode b_Law_joined 10 = .ok (.goto 7, 3) := by decide +kernel
theorem d_Law_joined_13 : decode b_Law_joined 13 = .ok (.astore 4, 2) := by decide +kernel
theorem d_Law_joined_15 : decode b_Law_joined 15 = .ok (.iconst 1, 1) := by decide +kernel
theorem d_Law_joined_16 : decode b_Law_joined 16 = .ok (.ireturn, 1) := by decide +kernel
theorem d_Law_joined_17 : decode b_Law_joined 17 = .ok (.iconst 0, 1) := by decide +kernel
theorem d_Law_joined_18 : decode b_Law_joined 18 = .ok (.ireturn, 1) := by decide +kernel
theorem kw_580 : (Jvm.Cond.codeWith ({ cls := "SheetTreesLaw", name := "joined", desc := "(LSheetTrees;II[J)I" } : Jvm.MethodName) method_8_code (5 : Nat) (Option.some Jvm.ClassFile.FieldType.int) [((0 : Nat), (10 : Nat), (13 : Nat), (13 : Nat))]) ∈ ALLW := List.mem_filter.mpr ⟨List.mem_append_right _ (List.mem_of_getElem? (i := 580) (by decide +kernel)), rfl⟩
theorem d_Law_part_0 : decode b_Law_part 0 = .ok (.aload_n 3, 1) := by decide +kernel
theorem d_Law_part_1 : decode b_Law_part 1 = .ok (.iconst 0, 1) := by decide +kernel
theorem d_Law_part_2 : decode b_Law_part 2 = .ok (.aload_n 0, 1) := by decide +kernel
theorem d_Law_part_3 : decode b_Law_part 3 = .ok (.iload_n 1, 1) := by decide +kernel
theorem d_Law_part_4 : decode b_Law_part 4 = .ok (.iload_n 2, 1) := by decide +kernel
theorem d_Law_part_5 : decode b_Law_part 5 = .ok (.invokevirtual 33, 3) := by decide +kernel
theorem d_Law_part_8 : decode b_Law_part 8 = .ok (.i2l, 1) := by decide +kernel
theorem d_Law_part_9 : decode b_Law_part 9 = .ok (.lastore, 1) := by decide +kernel
theorem d_Law_part_10 : decode b_Law_part 10 = .ok (.goto 7, 3) := by decide +kernel
theorem d_Law_part_13 : decode b_Law_part 13 = .ok (.astore 4, 2) := by decide +kernel
theorem d_Law_part_15 : decode b_Law_part 15 = .ok (.iconst 1, 1) := by decide +kernel
theorem d_Law_part_16 : decode b_Law_part 16 = .ok (.ireturn, 1) := by decide +kernel
theorem d_Law_part_17 : decode b_Law_part 17 = .ok (.iconst 0, 1) := by decide +kernel
theorem d_Law_part_18 : decode b_Law_part 18 = .ok (.ireturn, 1) := by decide +kernel
theorem kw_587 : (Jvm.Cond.codeWith ({ cls := "SheetTreesLaw", name := "part", desc := "(LSheetTrees;II[J)I" } : Jvm.MethodName) method_9_code (5 : Nat) (Option.some Jvm.ClassFile.FieldType.int) [((0 : Nat), (10 : Nat), (13 : Nat), (36 : Nat))]) ∈ ALLW := List.mem_filter.mpr ⟨List.mem_append_right _ (List.mem_of_getElem? (i := 587) (by decide +kernel)), rfl⟩
theorem d_Law_gate_0 : decode b_Law_gate 0 = .ok (.aload 4, 2) := by decide +kernel
theorem d_Law_gate_2 : decode b_Law_gate 2 = .ok (.iconst 0, 1) := by decide +kernel
theorem d_Law_gate_3 : decode b_Law_gate 3 = .ok (.aload_n 0, 1) := by decide +kernel
theorem d_Law_gate_4 : decode b_Law_gate 4 = .ok (.iload_n 1, 1) := by decide +kernel
theorem d_Law_gate_5 : decode b_Law_gate 5 = .ok (.iload_n 2, 1) := by decide +kernel
theorem d_Law_gate_6 : decode b_Law_gate 6 = .ok (.iload_n 3, 1) := by decide +kernel
theorem d_Law_gate_7 : decode b_Law_gate 7 = .ok (.invokevirtual 38, 3) := by decide +kernel
theorem d_Law_gate_10 : decode b_Law_gate 10 = .ok (.ifCond .eq 7, 3) := by decide +kernel
theorem d_Law_gate_13 : decode b_Law_gate 13 = .ok (.lconst 1, 1) := by decide +kernel
theorem d_Law_gate_14 : decode b_Law_gate 14 = .ok (.goto 4, 3) := by decide +kernel
theorem d_Law_gate_17 : decode b_Law_gate 17 = .ok (.lconst 0, 1) := by decide +kernel
theorem d_Law_gate_18 : decode b_Law_gate 18 = .ok (.lastore, 1) := by decide +kernel
theorem d_Law_gate_19 : decode b_Law_gate 19 = .ok (.goto 7, 3) := by decide +kernel
theorem d_Law_gate_22 : decode b_Law_gate 22 = .ok (.astore 5, 2) := by decide +kernel
theorem d_Law_gate_24 : decode b_Law_gate 24 = .ok (.iconst 1, 1) := by decide +kernel
theorem d_Law_gate_25 : decode b_Law_gate 25 = .ok (.ireturn, 1) := by decide +kernel
theorem d_Law_gate_26 : decode b_Law_gate 26 = .ok (.iconst 0, 1) := by decide +kernel
theorem d_Law_gate_27 : decode b_Law_gate 27 = .ok (.ireturn, 1) := by decide +kernel
theorem kw_621 : (Jvm.Cond.codeWith ({ cls := "SheetTreesLaw", name := "gate", desc := "(LSheetTrees;III[J)I" } : Jvm.MethodName) method_10_code (6 : Nat) (Option.some Jvm.ClassFile.FieldType.int) [((0 : Nat), (19 : Nat), (22 : Nat), (13 : Nat))]) ∈ ALLW := List.mem_filter.mpr ⟨List.mem_append_right _ (List.mem_of_getElem? (i := 621) (by decide +kernel)), rfl⟩
theorem d_Law_copy_0 : decode b_Law_copy 0 = .ok (.aload_n 2, 1) := by decide +kernel
theorem d_Law_copy_1 : decode b_Law_copy 1 = .ok (.iconst 0, 1) := by decide +kernel
theorem d_Law_copy_2 : decode b_Law_copy 2 = .ok (.aload_n 0, 1) := by decide +kernel
theorem d_Law_copy_3 : decode b_Law_copy 3 = .ok (.iload_n 1, 1) := by decide +kernel
theorem d_Law_copy_4 : decode b_Law_copy 4 = .ok (.invokevirtual 41, 3) := by decide +kernel
theorem d_Law_copy_7 : decode b_Law_copy 7 = .ok (.i2l, 1) := by decide +kernel
theorem d_Law_copy_8 : decode b_Law_copy 8 = .ok (.lastore, 1) := by decide +kernel
theorem d_Law_copy_9 : decode b_Law_copy 9 = .ok (.goto 6, 3) := by decide +kernel
theorem d_Law_copy_12 : decode b_Law_copy 12 = .ok (.astore_n 3, 1) := by decide +kernel
theorem d_Law_copy_13 : decode b_Law_copy 13 = .ok (.iconst 1, 1) := by decide +kernel
theorem d_Law_copy_14 : decode b_Law_copy 14 = .ok (.ireturn, 1) := by decide +kernel
theorem d_Law_copy_15 : decode b_Law_copy 15 = .ok (.iconst 0, 1) := by decide +kernel
theorem d_Law_copy_16 : decode b_Law_copy 16 = .ok (.ireturn, 1) := by decide +kernel
theorem kw_659 : (Jvm.Cond.codeWith ({ cls := "SheetTreesLaw", name := "copy", desc := "(LSheetTrees;I[J)I" } : Jvm.MethodName) method_11_code (4 : Nat) (Option.some Jvm.ClassFile.FieldType.int) [((0 : Nat), (9 : Nat), (12 : Nat), (13 : Nat))]) ∈ ALLW := List.mem_filter.mpr ⟨List.mem_append_right _ (List.mem_of_getElem? (i := 659) (by decide +kernel)), rfl⟩
theorem d_Law_rule_0 : decode b_Law_rule 0 = .ok (.aload_n 2, 1) := by decide +kernel
theorem d_Law_rule_1 : decode b_Law_rule 1 = .ok (.iconst 0, 1) := by decide +kernel
theorem d_Law_rule_2 : decode b_Law_rule 2 = .ok (.aload_n 0, 1) := by decide +kernel
theorem d_Law_rule_3 : decode b_Law_rule 3 = .ok (.iload_n 1, 1) := by decide +kernel
theorem d_Law_rule_4 : decode b_Law_rule 4 = .ok (.invokevirtual 45, 3) := by decide +kernel
theorem d_Law_rule_7 : decode b_Law_rule 7 = .ok (.ifCond .eq 7, 3) := by decide +kernel
theorem d_Law_rule_10 : decode b_Law_rule 10 = .ok (.lconst 1, 1) := by decide +kernel
theorem d_Law_rule_11 : decode b_Law_rule 11 = .ok (.goto 4, 3) := by decide +kernel
theorem d_Law_rule_14 : decode b_Law_rule 14 = .ok (.lconst 0, 1) := by decide +kernel
theorem d_Law_rule_15 : decode b_Law_rule 15 = .ok (.lastore, 1) := by decide +kernel
theorem d_Law_rule_16 : decode b_Law_rule 16 = .ok (.goto 6, 3) := by decide +kernel
theorem d_Law_rule_19 : decode b_Law_rule 19 = .ok (.astore_n 3, 1) := by decide +kernel
theorem d_Law_rule_20 : decode b_Law_rule 20 = .ok (.iconst 1, 1) := by decide +kernel
theorem d_Law_rule_21 : decode b_Law_rule 21 = .ok (.ireturn, 1) := by decide +kernel
theorem d_Law_rule_22 : decode b_Law_rule 22 = .ok (.iconst 0, 1) := by decide +kernel
theorem d_Law_rule_23 : decode b_Law_rule 23 = .ok (.ireturn, 1) := by decide +kernel
theorem kw_707 : (Jvm.Cond.codeWith ({ cls := "SheetTreesLaw", name := "rule", desc := "(LSheetTrees;I[J)I" } : Jvm.MethodName) method_12_code (4 : Nat) (Option.some Jvm.ClassFile.FieldType.int) [((0 : Nat), (16 : Nat), (19 : Nat), (36 : Nat))]) ∈ ALLW := List.mem_filter.mpr ⟨List.mem_append_right _ (List.mem_of_getElem? (i := 707) (by decide +kernel)), rfl⟩
theorem d_Law_variant_0 : decode b_Law_variant 0 = .ok (.aload_n 2, 1) := by decide +kernel
theorem d_Law_variant_1 : decode b_Law_variant 1 = .ok (.iconst 0, 1) := by decide +kernel
theorem d_Law_variant_2 : decode b_Law_variant 2 = .ok (.aload_n 0, 1) := by decide +kernel
theorem d_Law_variant_3 : decode b_Law_variant 3 = .ok (.iload_n 1, 1) := by decide +kernel
theorem d_Law_variant_4 : decode b_Law_variant 4 = .ok (.invokevirtual 48, 3) := by decide +kernel
theorem d_Law_variant_7 : decode b_Law_variant 7 = .ok (.i2l, 1) := by decide +kernel
theorem d_Law_variant_8 : decode b_Law_variant 8 = .ok (.lastore, 1) := by decide +kernel
theorem d_Law_variant_9 : decode b_Law_variant 9 = .ok (.goto 6, 3) := by decide +kernel
theorem d_Law_variant_12 : decode b_Law_variant 12 = .ok (.astore_n 3, 1) := by decide +kernel
theorem d_Law_variant_13 : decode b_Law_variant 13 = .ok (.iconst 1, 1) := by decide +kernel
theorem d_Law_variant_14 : decode b_Law_variant 14 = .ok (.ireturn, 1) := by decide +kernel
theorem d_Law_variant_15 : decode b_Law_variant 15 = .ok (.iconst 0, 1) := by decide +kernel
theorem d_Law_variant_16 : decode b_Law_variant 16 = .ok (.ireturn, 1) := by decide +kernel
theorem kw_717 : (Jvm.Cond.codeWith ({ cls := "SheetTreesLaw", name := "variant", desc := "(LSheetTrees;I[J)I" } : Jvm.MethodName) method_13_code (4 : Nat) (Option.some Jvm.ClassFile.FieldType.int) [((0 : Nat), (9 : Nat), (12 : Nat), (13 : Nat))]) ∈ ALLW := List.mem_filter.mpr ⟨List.mem_append_right _ (List.mem_of_getElem? (i := 717) (by decide +kernel)), rfl⟩
theorem d_Law_value_0 : decode b_Law_value 0 = .ok (.aload 6, 2) := by decide +kernel
theorem d_Law_value_2 : decode b_Law_value 2 = .ok (.iconst 0, 1) := by decide +kernel
theorem d_Law_value_3 : decode b_Law_value 3 = .ok (.aload_n 0, 1) := by decide +kernel
theorem d_Law_value_4 : decode b_Law_value 4 = .ok (.iload_n 1, 1) := by decide +kernel
theorem d_Law_value_5 : decode b_Law_value 5 = .ok (.iload_n 2, 1) := by decide +kernel
theorem d_Law_value_6 : decode b_Law_value 6 = .ok (.iload_n 3, 1) := by decide +kernel
theorem d_Law_value_7 : decode b_Law_value 7 = .ok (.lload 4, 2) := by decide +kernel
theorem d_Law_value_9 : decode b_Law_value 9 = .ok (.invokevirtual 51, 3) := by decide +kernel
theorem d_Law_value_12 : decode b_Law_value 12 = .ok (.ifCond .eq 7, 3) := by decide +kernel
theorem d_Law_value_15 : decode b_Law_value 15 = .ok (.lconst 1, 1) := by decide +kernel
theorem d_Law_value_16 : decode b_Law_value 16 = .ok (.goto 4, 3) := by decide +kernel
theorem d_Law_value_19 : decode b_Law_value 19 = .ok (.lconst 0, 1) := by decide +kernel
theorem d_Law_value_20 : decode b_Law_value 20 = .ok (.lastore, 1) := by decide +kernel
theorem d_Law_value_21 : decode b_Law_value 21 = .ok (.goto 7, 3) := by decide +kernel
theorem d_Law_value_24 : decode b_Law_value 24 = .ok (.astore 7, 2) := by decide +kernel
theorem d_Law_value_26 : decode b_Law_value 26 = .ok (.iconst 1, 1) := by decide +kernel
theorem d_Law_value_27 : decode b_Law_value 27 = .ok (.ireturn, 1) := by decide +kernel
theorem d_Law_value_28 : decode b_Law_value 28 = .ok (.iconst 0, 1) := by decide +kernel
theorem d_Law_value_29 : decode b_Law_value 29 = .ok (.ireturn, 1) := by decide +kernel
theorem kw_748 : (Jvm.Cond.codeWith ({ cls := "SheetTreesLaw", name := "value", desc := "(LSheetTrees;IIIJ[J)I" } : Jvm.MethodName) method_14_code (8 : Nat) (Option.some Jvm.ClassFile.FieldType.int) [((0 : Nat), (21 : Nat), (24 : Nat), (13 : Nat))]) ∈ ALLW := List.mem_filter.mpr ⟨List.mem_append_right _ (List.mem_of_getElem? (i := 748) (by decide +kernel)), rfl⟩
theorem d_Law_fit_0 : decode b_Law_fit 0 = .ok (.aload 5, 2) := by decide +kernel
theorem d_Law_fit_2 : decode b_Law_fit 2 = .ok (.iconst 0, 1) := by decide +kernel
theorem d_Law_fit_3 : decode b_Law_fit 3 = .ok (.aload_n 0, 1) := by decide +kernel
theorem d_Law_fit_4 : decode b_Law_fit 4 = .ok (.iload_n 1, 1) := by decide +kernel
theorem d_Law_fit_5 : decode b_Law_fit 5 = .ok (.iload_n 2, 1) := by decide +kernel
theorem d_Law_fit_6 : decode b_Law_fit 6 = .ok (.iload_n 3, 1) := by decide +kernel
theorem d_Law_fit_7 : decode b_Law_fit 7 = .ok (.iload 4, 2) := by decide +kernel
theorem d_Law_fit_9 : decode b_Law_fit 9 = .ok (.invokevirtual 55, 3) := by decide +kernel
theorem d_Law_fit_12 : decode b_Law_fit 12 = .ok (.ifCond .eq 7, 3) := by decide +kernel
theorem d_Law_fit_15 : decode b_Law_fit 15 = .ok (.lconst 1, 1) := by decide +kernel
theorem d_Law_fit_16 : decode b_Law_fit 16 = .ok (.goto 4, 3) := by decide +kernel
theorem d_Law_fit_19 : decode b_Law_fit 19 = .ok (.lconst 0, 1) := by decide +kernel
theorem d_Law_fit_20 : decode b_Law_fit 20 = .ok (.lastore, 1) := by decide +kernel
theorem d_Law_fit_21 : decode b_Law_fit 21 = .ok (.goto 7, 3) := by decide +kernel
theorem d_Law_fit_24 : decode b_Law_fit 24 = .ok (.astore 6, 2) := by decide +kernel
theorem d_Law_fit_26 : decode b_Law_fit 26 = .ok (.iconst 1, 1) := by decide +kernel
theorem d_Law_fit_27 : decode b_Law_fit 27 = .ok (.ireturn, 1) := by decide +kernel
theorem d_Law_fit_28 : decode b_Law_fit 28 = .ok (.iconst 0, 1) := by decide +kernel
theorem d_Law_fit_29 : decode b_Law_fit 29 = .ok (.ireturn, 1) := by decide +kernel
theorem kw_791 : (Jvm.Cond.codeWith ({ cls := "SheetTreesLaw", name := "fit", desc := "(LSheetTrees;IIIZ[J)I" } : Jvm.MethodName) method_15_code (7 : Nat) (Option.some Jvm.ClassFile.FieldType.int) [((0 : Nat), (21 : Nat), (24 : Nat), (13 : Nat))]) ∈ ALLW := List.mem_filter.mpr ⟨List.mem_append_right _ (List.mem_of_getElem? (i := 791) (by decide +kernel)), rfl⟩
theorem d_Law_valueOf_0 : decode b_Law_valueOf 0 = .ok (.aload 4, 2) := by decide +kernel
theorem d_Law_valueOf_2 : decode b_Law_valueOf 2 = .ok (.iconst 0, 1) := by decide +kernel
theorem d_Law_valueOf_3 : decode b_Law_valueOf 3 = .ok (.aload_n 0, 1) := by decide +kernel
theorem d_Law_valueOf_4 : decode b_Law_valueOf 4 = .ok (.iload_n 1, 1) := by decide +kernel
theorem d_Law_valueOf_5 : decode b_Law_valueOf 5 = .ok (.iload_n 2, 1) := by decide +kernel
theorem d_Law_valueOf_6 : decode b_Law_valueOf 6 = .ok (.iload_n 3, 1) := by decide +kernel
theorem d_Law_valueOf_7 : decode b_Law_valueOf 7 = .ok (.invokevirtual 59, 3) := by decide +kernel
theorem d_Law_valueOf_10 : decode b_Law_valueOf 10 = .ok (.lastore, 1) := by decide +kernel
theorem d_Law_valueOf_11 : decode b_Law_valueOf 11 = .ok (.goto 7, 3) := by decide +kernel
theorem d_Law_valueOf_14 : decode b_Law_valueOf 14 = .ok (.astore 5, 2) := by decide +kernel
theorem d_Law_valueOf_16 : decode b_Law_valueOf 16 = .ok (.iconst 1, 1) := by decide +kernel
theorem d_Law_valueOf_17 : decode b_Law_valueOf 17 = .ok (.ireturn, 1) := by decide +kernel
theorem d_Law_valueOf_18 : decode b_Law_valueOf 18 = .ok (.iconst 0, 1) := by decide +kernel
theorem d_Law_valueOf_19 : decode b_Law_valueOf 19 = .ok (.ireturn, 1) := by decide +kernel
theorem kw_798 : (Jvm.Cond.codeWith ({ cls := "SheetTreesLaw", name := "valueOf", desc := "(LSheetTrees;III[J)I" } : Jvm.MethodName) method_16_code (6 : Nat) (Option.some Jvm.ClassFile.FieldType.int) [((0 : Nat), (11 : Nat), (14 : Nat), (13 : Nat))]) ∈ ALLW := List.mem_filter.mpr ⟨List.mem_append_right _ (List.mem_of_getElem? (i := 798) (by decide +kernel)), rfl⟩
theorem d_Law_fitted_0 : decode b_Law_fitted 0 = .ok (.aload 4, 2) := by decide +kernel
theorem d_Law_fitted_2 : decode b_Law_fitted 2 = .ok (.iconst 0, 1) := by decide +kernel
theorem d_Law_fitted_3 : decode b_Law_fitted 3 = .ok (.aload_n 0, 1) := by decide +kernel
theorem d_Law_fitted_4 : decode b_Law_fitted 4 = .ok (.iload_n 1, 1) := by decide +kernel
theorem d_Law_fitted_5 : decode b_Law_fitted 5 = .ok (.iload_n 2, 1) := by decide +kernel
theorem d_Law_fitted_6 : decode b_Law_fitted 6 = .ok (.iload_n 3, 1) := by decide +kernel
theorem d_Law_fitted_7 : decode b_Law_fitted 7 = .ok (.invokevirtual 63, 3) := by decide +kernel
theorem d_Law_fitted_10 : decode b_Law_fitted 10 = .ok (.ifCond .eq 7, 3) := by decide +kernel
theorem d_Law_fitted_13 : decode b_Law_fitted 13 = .ok (.lconst 1, 1) := by decide +kernel
theorem d_Law_fitted_14 : decode b_Law_fitted 14 = .ok (.goto 4, 3) := by decide +kernel
theorem d_Law_fitted_17 : decode b_Law_fitted 17 = .ok (.lconst 0, 1) := by decide +kernel
theorem d_Law_fitted_18 : decode b_Law_fitted 18 = .ok (.lastore, 1) := by decide +kernel
theorem d_Law_fitted_19 : decode b_Law_fitted 19 = .ok (.goto 7, 3) := by decide +kernel
theorem d_Law_fitted_22 : decode b_Law_fitted 22 = .ok (.astore 5, 2) := by decide +kernel
theorem d_Law_fitted_24 : decode b_Law_fitted 24 = .ok (.iconst 1, 1) := by decide +kernel
theorem d_Law_fitted_25 : decode b_Law_fitted 25 = .ok (.ireturn, 1) := by decide +kernel
theorem d_Law_fitted_26 : decode b_Law_fitted 26 = .ok (.iconst 0, 1) := by decide +kernel
theorem d_Law_fitted_27 : decode b_Law_fitted 27 = .ok (.ireturn, 1) := by decide +kernel
theorem kw_814 : (Jvm.Cond.codeWith ({ cls := "SheetTreesLaw", name := "fitted", desc := "(LSheetTrees;III[J)I" } : Jvm.MethodName) method_17_code (6 : Nat) (Option.some Jvm.ClassFile.FieldType.int) [((0 : Nat), (19 : Nat), (22 : Nat), (13 : Nat))]) ∈ ALLW := List.mem_filter.mpr ⟨List.mem_append_right _ (List.mem_of_getElem? (i := 814) (by decide +kernel)), rfl⟩
theorem d_Law_page_0 : decode b_Law_page 0 = .ok (.aload_n 3, 1) := by decide +kernel
theorem d_Law_page_1 : decode b_Law_page 1 = .ok (.iconst 0, 1) := by decide +kernel
theorem d_Law_page_2 : decode b_Law_page 2 = .ok (.aload_n 0, 1) := by decide +kernel
theorem d_Law_page_3 : decode b_Law_page 3 = .ok (.iload_n 1, 1) := by decide +kernel
theorem d_Law_page_4 : decode b_Law_page 4 = .ok (.iload_n 2, 1) := by decide +kernel
theorem d_Law_page_5 : decode b_Law_page 5 = .ok (.invokevirtual 66, 3) := by decide +kernel
theorem d_Law_page_8 : decode b_Law_page 8 = .ok (.i2l, 1) := by decide +kernel
theorem d_Law_page_9 : decode b_Law_page 9 = .ok (.lastore, 1) := by decide +kernel
theorem d_Law_page_10 : decode b_Law_page 10 = .ok (.goto 7, 3) := by decide +kernel
theorem d_Law_page_13 : decode b_Law_page 13 = .ok (.astore 4, 2) := by decide +kernel
theorem d_Law_page_15 : decode b_Law_page 15 = .ok (.iconst 1, 1) := by decide +kernel
theorem d_Law_page_16 : decode b_Law_page 16 = .ok (.ireturn, 1) := by decide +kernel
theorem d_Law_page_17 : decode b_Law_page 17 = .ok (.iconst 0, 1) := by decide +kernel
theorem d_Law_page_18 : decode b_Law_page 18 = .ok (.ireturn, 1) := by decide +kernel
theorem kw_821 : (Jvm.Cond.codeWith ({ cls := "SheetTreesLaw", name := "page", desc := "(LSheetTrees;II[J)I" } : Jvm.MethodName) method_18_code (5 : Nat) (Option.some Jvm.ClassFile.FieldType.int) [((0 : Nat), (10 : Nat), (13 : Nat), (13 : Nat))]) ∈ ALLW := List.mem_filter.mpr ⟨List.mem_append_right _ (List.mem_of_getElem? (i := 821) (by decide +kernel)), rfl⟩
theorem d_Law_units_0 : decode b_Law_units 0 = .ok (.aload_n 2, 1) := by decide +kernel
theorem d_Law_units_1 : decode b_Law_units 1 = .ok (.iconst 0, 1) := by decide +kernel
theorem d_Law_units_2 : decode b_Law_units 2 = .ok (.aload_n 0, 1) := by decide +kernel
theorem d_Law_units_3 : decode b_Law_units 3 = .ok (.iload_n 1, 1) := by decide +kernel
theorem d_Law_units_4 : decode b_Law_units 4 = .ok (.invokevirtual 69, 3) := by decide +kernel
theorem d_Law_units_7 : decode b_Law_units 7 = .ok (.i2l, 1) := by decide +kernel
theorem d_Law_units_8 : decode b_Law_units 8 = .ok (.lastore, 1) := by decide +kernel
theorem d_Law_units_9 : decode b_Law_units 9 = .ok (.goto 6, 3) := by decide +kernel
theorem d_Law_units_12 : decode b_Law_units 12 = .ok (.astore_n 3, 1) := by decide +kernel
theorem d_Law_units_13 : decode b_Law_units 13 = .ok (.iconst 1, 1) := by decide +kernel
theorem d_Law_units_14 : decode b_Law_units 14 = .ok (.ireturn, 1) := by decide +kernel
theorem d_Law_units_15 : decode b_Law_units 15 = .ok (.iconst 0, 1) := by decide +kernel
theorem d_Law_units_16 : decode b_Law_units 16 = .ok (.ireturn, 1) := by decide +kernel
theorem kw_833 : (Jvm.Cond.codeWith ({ cls := "SheetTreesLaw", name := "units", desc := "(LSheetTrees;I[J)I" } : Jvm.MethodName) method_19_code (4 : Nat) (Option.some Jvm.ClassFile.FieldType.int) [((0 : Nat), (9 : Nat), (12 : Nat), (13 : Nat))]) ∈ ALLW := List.mem_filter.mpr ⟨List.mem_append_right _ (List.mem_of_getElem? (i := 833) (by decide +kernel)), rfl⟩
theorem d_Law_where_0 : decode b_Law_where 0 = .ok (.aload 4, 2) := by decide +kernel
theorem d_Law_where_2 : decode b_Law_where 2 = .ok (.iconst 0, 1) := by decide +kernel
theorem d_Law_where_3 : decode b_Law_where 3 = .ok (.aload_n 0, 1) := by decide +kernel
theorem d_Law_where_4 : decode b_Law_where 4 = .ok (.iload_n 1, 1) := by decide +kernel
theorem d_Law_where_5 : decode b_Law_where 5 = .ok (.iload_n 2, 1) := by decide +kernel
theorem d_Law_where_6 : decode b_Law_where 6 = .ok (.iload_n 3, 1) := by decide +kernel
theorem d_Law_where_7 : decode b_Law_where 7 = .ok (.invokevirtual 72, 3) := by decide +kernel
theorem d_Law_where_10 : decode b_Law_where 10 = .ok (.i2l, 1) := by decide +kernel
theorem d_Law_where_11 : decode b_Law_where 11 = .ok (.lastore, 1) := by decide +kernel
theorem d_Law_where_12 : decode b_Law_where 12 = .ok (.goto 7, 3) := by decide +kernel
theorem d_Law_where_15 : decode b_Law_where 15 = .ok (.astore 5, 2) := by decide +kernel
theorem d_Law_where_17 : decode b_Law_where 17 = .ok (.iconst 1, 1) := by decide +kernel
theorem d_Law_where_18 : decode b_Law_where 18 = .ok (.ireturn, 1) := by decide +kernel
theorem d_Law_where_19 : decode b_Law_where 19 = .ok (.iconst 0, 1) := by decide +kernel
theorem d_Law_where_20 : decode b_Law_where 20 = .ok (.ireturn, 1) := by decide +kernel
theorem kw_847 : (Jvm.Cond.codeWith ({ cls := "SheetTreesLaw", name := "where", desc := "(LSheetTrees;III[J)I" } : Jvm.MethodName) method_20_code (6 : Nat) (Option.some Jvm.ClassFile.FieldType.int) [((0 : Nat), (12 : Nat), (15 : Nat), (13 : Nat))]) ∈ ALLW := List.mem_filter.mpr ⟨List.mem_append_right _ (List.mem_of_getElem? (i := 847) (by decide +kernel)), rfl⟩
theorem d_Law_name_0 : decode b_Law_name 0 = .ok (.aload_n 3, 1) := by decide +kernel
theorem d_Law_name_1 : decode b_Law_name 1 = .ok (.iconst 0, 1) := by decide +kernel
theorem d_Law_name_2 : decode b_Law_name 2 = .ok (.aload_n 0, 1) := by decide +kernel
theorem d_Law_name_3 : decode b_Law_name 3 = .ok (.iload_n 1, 1) := by decide +kernel
theorem d_Law_name_4 : decode b_Law_name 4 = .ok (.iload_n 2, 1) := by decide +kernel
theorem d_Law_name_5 : decode b_Law_name 5 = .ok (.invokevirtual 76, 3) := by decide +kernel
theorem d_Law_name_8 : decode b_Law_name 8 = .ok (.i2l, 1) := by decide +kernel
theorem d_Law_name_9 : decode b_Law_name 9 = .ok (.lastore, 1) := by decide +kernel
theorem d_Law_name_10 : decode b_Law_name 10 = .ok (.goto 7, 3) := by decide +kernel
theorem d_Law_name_13 : decode b_Law_name 13 = .ok (.astore 4, 2) := by decide +kernel
theorem d_Law_name_15 : decode b_Law_name 15 = .ok (.iconst 1, 1) := by decide +kernel
theorem d_Law_name_16 : decode b_Law_name 16 = .ok (.ireturn, 1) := by decide +kernel
theorem d_Law_name_17 : decode b_Law_name 17 = .ok (.iconst 0, 1) := by decide +kernel
theorem d_Law_name_18 : decode b_Law_name 18 = .ok (.ireturn, 1) := by decide +kernel
theorem kw_867 : (Jvm.Cond.codeWith ({ cls := "SheetTreesLaw", name := "name", desc := "(LSheetTrees;II[J)I" } : Jvm.MethodName) method_21_code (5 : Nat) (Option.some Jvm.ClassFile.FieldType.int) [((0 : Nat), (10 : Nat), (13 : Nat), (13 : Nat))]) ∈ ALLW := List.mem_filter.mpr ⟨List.mem_append_right _ (List.mem_of_getElem? (i := 867) (by decide +kernel)), rfl⟩
theorem d_Law_law_0 : decode b_Law_law 0 = .ok (.new 8, 3) := by decide +kernel
theorem d_Law_law_3 : decode b_Law_law 3 = .ok (.dup, 1) := by decide +kernel
theorem d_Law_law_4 : decode b_Law_law 4 = .ok (.invokespecial 79, 3) := by decide +kernel
theorem d_Law_law_7 : decode b_Law_law 7 = .ok (.astore_n 1, 1) := by decide +kernel
theorem d_Law_law_8 : decode b_Law_law 8 = .ok (.new 80, 3) := by decide +kernel
theorem d_Law_law_11 : decode b_Law_law 11 = .ok (.dup, 1) := by decide +kernel
theorem d_Law_law_12 : decode b_Law_law 12 = .ok (.invokespecial 82, 3) := by decide +kernel
theorem d_Law_law_15 : decode b_Law_law 15 = .ok (.astore_n 2, 1) := by decide +kernel
theorem d_Law_law_16 : decode b_Law_law 16 = .ok (.iconst 1, 1) := by decide +kernel
theorem d_Law_law_17 : decode b_Law_law 17 = .ok (.newarray .long, 2) := by decide +kernel
theorem d_Law_law_19 : decode b_Law_law 19 = .ok (.astore_n 3, 1) := by decide +kernel
theorem d_Law_law_20 : decode b_Law_law 20 = .ok (.iconst 0, 1) := by decide +kernel
theorem d_Law_law_21 : decode b_Law_law 21 = .ok (.istore 4, 2) := by decide +kernel
theorem d_Law_law_23 : decode b_Law_law 23 = .ok (.iload 4, 2) := by decide +kernel
theorem d_Law_law_25 : decode b_Law_law 25 = .ok (.aload_n 0, 1) := by decide +kernel
theorem d_Law_law_26 : decode b_Law_law 26 = .ok (.arraylength, 1) := by decide +kernel
theorem d_Law_law_27 : decode b_Law_law 27 = .ok (.bipush 6, 2) := by decide +kernel
theorem d_Law_law_29 : decode b_Law_law 29 = .ok (.isub, 1) := by decide +kernel
theorem d_Law_law_30 : decode b_Law_law 30 = .ok (.if_icmp .gt 1638, 3) := by decide +kernel
theorem d_Law_law_33 : decode b_Law_law 33 = .ok (.aload_n 0, 1) := by decide +kernel
theorem d_Law_law_34 : decode b_Law_law 34 = .ok (.iload 4, 2) := by decide +kernel
theorem d_Law_law_36 : decode b_Law_law 36 = .ok (.iaload, 1) := by decide +kernel
theorem d_Law_law_37 : decode b_Law_law 37 = .ok (.bipush 31, 2) := by decide +kernel
theorem d_Law_law_39 : decode b_Law_law 39 = .ok (.iand, 1) := by decide +kernel
theorem d_Law_law_40 : decode b_Law_law 40 = .ok (.tableswitch 1622 0 22 #[108, 121, 189, 252, 327, 352, 427, 514, 582, 650, 737, 793, 856, 912, 1043, 1158, 1237, 1324, 1337, 1350, 1418, 1474, 1554], 108) := by decide +kernel
theorem d_Law_law_148 : decode b_Law_law 148 = .ok (.aload_n 1, 1) := by decide +kernel
theorem d_Law_law_149 : decode b_Law_law 149 = .ok (.invokevirtual 83, 3) := by decide +kernel
theorem d_Law_law_152 : decode b_Law_law 152 = .ok (.aload_n 2, 1) := by decide +kernel
theorem d_Law_law_153 : decode b_Law_law 153 = .ok (.invokevirtual 87, 3) := by decide +kernel
theorem d_Law_law_156 : decode b_Law_law 156 = .ok (.if_icmp .eq 1506, 3) := by decide +kernel
theorem d_Law_law_159 : decode b_Law_law 159 = .ok (.iconst 0, 1) := by decide +kernel
theorem d_Law_law_160 : decode b_Law_law 160 = .ok (.ireturn, 1) := by decide +kernel
theorem d_Law_law_161 : decode b_Law_law 161 = .ok (.aload_n 1, 1) := by decide +kernel
theorem d_Law_law_162 : decode b_Law_law 162 = .ok (.aload_n 0, 1) := by decide +kernel
theorem d_Law_law_163 : decode b_Law_law 163 = .ok (.iload 4, 2) := by decide +kernel
theorem d_Law_law_165 : decode b_Law_law 165 = .ok (.iconst 1, 1) := by decide +kernel
theorem d_Law_law_166 : decode b_Law_law 166 = .ok (.iadd, 1) := by decide +kernel
theorem d_Law_law_167 : decode b_Law_law 167 = .ok (.iaload, 1) := by decide +kernel
theorem d_Law_law_168 : decode b_Law_law 168 = .ok (.aload_n 0, 1) := by decide +kernel
theorem d_Law_law_169 : decode b_Law_law 169 = .ok (.iload 4, 2) := by decide +kernel
theorem d_Law_law_171 : decode b_Law_law 171 = .ok (.iconst 2, 1) := by decide +kernel
theorem d_Law_law_172 : decode b_Law_law 172 = .ok (.iadd, 1) := by decide +kernel
theorem d_Law_law_173 : decode b_Law_law 173 = .ok (.iaload, 1) := by decide +kernel
theorem d_Law_law_174 : decode b_Law_law 174 = .ok (.aload_n 3, 1) := by decide +kernel
theorem d_Law_law_175 : decode b_Law_law 175 = .ok (.invokestatic 88, 3) := by decide +kernel
theorem d_Law_law_178 : decode b_Law_law 178 = .ok (.istore 5, 2) := by decide +kernel
theorem d_Law_law_180 : decode b_Law_law 180 = .ok (.aload_n 2, 1) := by decide +kernel
theorem d_Law_law_181 : decode b_Law_law 181 = .ok (.aload_n 0, 1) := by decide +kernel
theorem d_Law_law_182 : decode b_Law_law 182 = .ok (.iload 4, 2) := by decide +kernel
theorem d_Law_law_184 : decode b_Law_law 184 = .ok (.iconst 1, 1) := by decide +kernel
theorem d_Law_law_185 : decode b_Law_law 185 = .ok (.iadd, 1) := by decide +kernel
theorem d_Law_law_186 : decode b_Law_law 186 = .ok (.iaload, 1) := by decide +kernel
theorem d_Law_law_187 : decode b_Law_law 187 = .ok (.aload_n 0, 1) := by decide +kernel
theorem d_Law_law_188 : decode b_Law_law 188 = .ok (.iload 4, 2) := by decide +kernel
theorem d_Law_law_190 : decode b_Law_law 190 = .ok (.iconst 2, 1) := by decide +kernel
theorem d_Law_law_191 : decode b_Law_law 191 = .ok (.iadd, 1) := by decide +kernel
theorem d_Law_law_192 : decode b_Law_law 192 = .ok (.iaload, 1) := by decide +kernel
theorem d_Law_law_193 : decode b_Law_law 193 = .ok (.invokevirtual 93, 3) := by decide +kernel
theorem d_Law_law_196 : decode b_Law_law 196 = .ok (.istore 6, 2) := by decide +kernel
theorem d_Law_law_198 : decode b_Law_law 198 = .ok (.aload_n 2, 1) := by decide +kernel
theorem d_Law_law_199 : decode b_Law_law 199 = .ok (.invokevirtual 94, 3) := by decide +kernel
theorem d_Law_law_202 : decode b_Law_law 202 = .ok (.iload 5, 2) := by decide +kernel
theorem d_Law_law_204 : decode b_Law_law 204 = .ok (.if_icmp .eq 5, 3) := by decide +kernel
theorem d_Law_law_207 : decode b_Law_law 207 = .ok (.iconst 0, 1) := by decide +kernel
theorem d_Law_law_208 : decode b_Law_law 208 = .ok (.ireturn, 1) := by decide +kernel
theorem d_Law_law_209 : decode b_Law_law 209 = .ok (.iload 5, 2) := by decide +kernel
theorem d_Law_law_211 : decode b_Law_law 211 = .ok (.ifCond .ne 15, 3) := by decide +kernel
theorem d_Law_law_214 : decode b_Law_law 214 = .ok (.aload_n 3, 1) := by decide +kernel
theorem d_Law_law_215 : decode b_Law_law 215 = .ok (.iconst 0, 1) := by decide +kernel
theorem d_Law_law_216 : decode b_Law_law 216 = .ok (.laload, 1) := by decide +kernel
theorem d_Law_law_217 : decode b_Law_law 217 = .ok (.iload 6, 2) := by decide +kernel
theorem d_Law_law_219 : decode b_Law_law 219 = .ok (.i2l, 1) := by decide +kernel
theorem d_Law_law_220 : decode b_Law_law 220 = .ok (.lcmp, 1) := by decide +kernel
theorem d_Law_law_221 : decode b_Law_law 221 = .ok (.ifCond .eq 5, 3) := by decide +kernel
theorem d_Law_law_224 : decode b_Law_law 224 = .ok (.iconst 0, 1) := by decide +kernel
theorem d_Law_law_225 : decode b_Law_law 225 = .ok (.ireturn, 1) := by decide +kernel
theorem d_Law_law_226 : decode b_Law_law 226 = .ok (.goto 1436, 3) := by decide +kernel
theorem d_Law_law_229 : decode b_Law_law 229 = .ok (.aload_n 1, 1) := by decide +kernel
theorem d_Law_law_230 : decode b_Law_law 230 = .ok (.aload_n 0, 1) := by decide +kernel
theorem d_Law_law_231 : decode b_Law_law 231 = .ok (.iload 4, 2) := by decide +kernel
theorem d_Law_law_233 : decode b_Law_law 233 = .ok (.iconst 1, 1) := by decide +kernel
theorem d_Law_law_234 : decode b_Law_law 234 = .ok (.iadd, 1) := by decide +kernel
theorem d_Law_law_235 : decode b_Law_law 235 = .ok (.iaload, 1) := by decide +kernel
theorem d_Law_law_236 : decode b_Law_law 236 = .ok (.aload_n 3, 1) := by decide +kernel
theorem d_Law_law_237 : decode b_Law_law 237 = .ok (.invokestatic 97, 3) := by decide +kernel
theorem d_Law_law_240 : decode b_Law_law 240 = .ok (.istore 5, 2) := by decide +kernel
theorem d_Law_law_242 : decode b_Law_law 242 = .ok (.aload_n 2, 1) := by decide +kernel
theorem d_Law_law_243 : decode b_Law_law 243 = .ok (.aload_n 0, 1) := by decide +kernel
theorem d_Law_law_244 : decode b_Law_law 244 = .ok (.iload 4, 2) := by decide +kernel
theorem d_Law_law_246 : decode b_Law_law 246 = .ok (.iconst 1, 1) := by decide +kernel
theorem d_Law_law_247 : decode b_Law_law 247 = .ok (.iadd, 1) := by decide +kernel
theorem d_Law_law_248 : decode b_Law_law 248 = .ok (.iaload, 1) := by decide +kernel
theorem d_Law_law_249 : decode b_Law_law 249 = .ok (.invokevirtual 100, 3) := by decide +kernel
theorem d_Law_law_252 : decode b_Law_law 252 = .ok (.istore 6, 2) := by decide +kernel
theorem d_Law_law_254 : decode b_Law_law 254 = .ok (.aload_n 2, 1) := by decide +kernel
theorem d_Law_law_255 : decode b_Law_law 255 = .ok (.invokevirtual 94, 3) := by decide +kernel
theorem d_Law_law_258 : decode b_Law_law 258 = .ok (.iload 5, 2) := by decide +kernel
theorem d_Law_law_260 : decode b_Law_law 260 = .ok (.if_icmp .eq 5, 3) := by decide +kernel
theorem d_Law_law_263 : decode b_Law_law 263 = .ok (.iconst 0, 1) := by decide +kernel
theorem d_Law_law_264 : decode b_Law_law 264 = .ok (.ireturn, 1) := by decide +kernel
theorem d_Law_law_265 : decode b_Law_law 265 = .ok (.iload 5, 2) := by decide +kernel
theorem d_Law_law_267 : decode b_Law_law 267 = .ok (.ifCond .ne 22, 3) := by decide +kernel
theorem d_Law_law_270 : decode b_Law_law 270 = .ok (.aload_n 3, 1) := by decide +kernel
theorem d_Law_law_271 : decode b_Law_law 271 = .ok (.iconst 0, 1) := by decide +kernel
theorem d_Law_law_272 : decode b_Law_law 272 = .ok (.laload, 1) := by decide +kernel
theorem d_Law_law_273 : decode b_Law_law 273 = .ok (.iload 6, 2) := by decide +kernel
theorem d_Law_law_275 : decode b_Law_law 275 = .ok (.ifCond .eq 7, 3) := by decide +kernel
theorem d_Law_law_278 : decode b_Law_law 278 = .ok (.lconst 1, 1) := by decide +kernel
theorem d_Law_law_279 : decode b_Law_law 279 = .ok (.goto 4, 3) := by decide +kernel
theorem d_Law_law_282 : decode b_Law_law 282 = .ok (.lconst 0, 1) := by decide +kernel
theorem d_Law_law_283 : decode b_Law_law 283 = .ok (.lcmp, 1) := by decide +kernel
theorem d_Law_law_284 : decode b_Law_law 284 = .ok (.ifCond .eq 5, 3) := by decide +kernel
theorem d_Law_law_287 : decode b_Law_law 287 = .ok (.iconst 0, 1) := by decide +kernel
theorem d_Law_law_288 : decode b_Law_law 288 = .ok (.ireturn, 1) := by decide +kernel
theorem d_Law_law_289 : decode b_Law_law 289 = .ok (.goto 1373, 3) := by decide +kernel
theorem d_Law_law_292 : decode b_Law_law 292 = .ok (.aload_n 1, 1) := by decide +kernel
theorem d_Law_law_293 : decode b_Law_law 293 = .ok (.aload_n 0, 1) := by decide +kernel
theorem d_Law_law_294 : decode b_Law_law 294 = .ok (.iload 4, 2) := by decide +kernel
theorem d_Law_law_296 : decode b_Law_law 296 = .ok (.iconst 1, 1) := by decide +kernel
theorem d_Law_law_297 : decode b_Law_law 297 = .ok (.iadd, 1) := by decide +kernel
theorem d_Law_law_298 : decode b_Law_law 298 = .ok (.iaload, 1) := by decide +kernel
theorem d_Law_law_299 : decode b_Law_law 299 = .ok (.aload_n 0, 1) := by decide +kernel
theorem d_Law_law_300 : decode b_Law_law 300 = .ok (.iload 4, 2) := by decide +kernel
theorem d_Law_law_302 : decode b_Law_law 302 = .ok (.iconst 2, 1) := by decide +kernel
theorem d_Law_law_303 : decode b_Law_law 303 = .ok (.iadd, 1) := by decide +kernel
theorem d_Law_law_304 : decode b_Law_law 304 = .ok (.iaload, 1) := by decide +kernel
theorem d_Law_law_305 : decode b_Law_law 305 = .ok (.aload_n 3, 1) := by decide +kernel
theorem d_Law_law_306 : decode b_Law_law 306 = .ok (.invokestatic 101, 3) := by decide +kernel
theorem d_Law_law_309 : decode b_Law_law 309 = .ok (.istore 5, 2) := by decide +kernel
theorem d_Law_law_311 : decode b_Law_law 311 = .ok (.aload_n 2, 1) := by decide +kernel
theorem d_Law_law_312 : decode b_Law_law 312 = .ok (.aload_n 0, 1) := by decide +kernel
theorem d_Law_law_313 : decode b_Law_law 313 = .ok (.iload 4, 2) := by decide +kernel
theorem d_Law_law_315 : decode b_Law_law 315 = .ok (.iconst 1, 1) := by decide +kernel
theorem d_Law_law_316 : decode b_Law_law 316 = .ok (.iadd, 1) := by decide +kernel
theorem d_Law_law_317 : decode b_Law_law 317 = .ok (.iaload, 1) := by decide +kernel
theorem d_Law_law_318 : decode b_Law_law 318 = .ok (.aload_n 0, 1) := by decide +kernel
theorem d_Law_law_319 : decode b_Law_law 319 = .ok (.iload 4, 2) := by decide +kernel
theorem d_Law_law_321 : decode b_Law_law 321 = .ok (.iconst 2, 1) := by decide +kernel
theorem d_Law_law_322 : decode b_Law_law 322 = .ok (.iadd, 1) := by decide +kernel
theorem d_Law_law_323 : decode b_Law_law 323 = .ok (.iaload, 1) := by decide +kernel
theorem d_Law_law_324 : decode b_Law_law 324 = .ok (.invokevirtual 103, 3) := by decide +kernel
theorem d_Law_law_327 : decode b_Law_law 327 = .ok (.istore 6, 2) := by decide +kernel
theorem d_Law_law_329 : decode b_Law_law 329 = .ok (.aload_n 2, 1) := by decide +kernel
theorem d_Law_law_330 : decode b_Law_law 330 = .ok (.invokevirtual 94, 3) := by decide +kernel
theorem d_Law_law_333 : decode b_Law_law 333 = .ok (.iload 5, 2) := by decide +kernel
theorem d_Law_law_335 : decode b_Law_law 335 = .ok (.if_icmp .eq 5, 3) := by decide +kernel
theorem d_Law_law_338 : decode b_Law_law 338 = .ok (.iconst 0, 1) := by decide +kernel
theorem d_Law_law_339 : decode b_Law_law 339 = .ok (.ireturn, 1) := by decide +kernel
theorem d_Law_law_340 : decode b_Law_law 340 = .ok (.iload 5, 2) := by decide +kernel
theorem d_Law_law_342 : decode b_Law_law 342 = .ok (.ifCond .ne 22, 3) := by decide +kernel
theorem d_Law_law_345 : decode b_Law_law 345 = .ok (.aload_n 3, 1) := by decide +kernel
theorem d_Law_law_346 : decode b_Law_law 346 = .ok (.iconst 0, 1) := by decide +kernel
theorem d_Law_law_347 : decode b_Law_law 347 = .ok (.laload, 1) := by decide +kernel
theorem d_Law_law_348 : decode b_Law_law 348 = .ok (.iload 6, 2) := by decide +kernel
theorem d_Law_law_350 : decode b_Law_law 350 = .ok (.ifCond .eq 7, 3) := by decide +kernel
theorem d_Law_law_353 : decode b_Law_law 353 = .ok (.lconst 1, 1) := by decide +kernel
theorem d_Law_law_354 : decode b_Law_law 354 = .ok (.goto 4, 3) := by decide +kernel
theorem d_Law_law_357 : decode b_Law_law 357 = .ok (.lconst 0, 1) := by decide +kernel
theorem d_Law_law_358 : decode b_Law_law 358 = .ok (.lcmp, 1) := by decide +kernel
theorem d_Law_law_359 : decode b_Law_law 359 = .ok (.ifCond .eq 5, 3) := by decide +kernel
theorem d_Law_law_362 : decode b_Law_law 362 = .ok (.iconst 0, 1) := by decide +kernel
theorem d_Law_law_363 : decode b_Law_law 363 = .ok (.ireturn, 1) := by decide +kernel
theorem d_Law_law_364 : decode b_Law_law 364 = .ok (.goto 1298, 3) := by decide +kernel
theorem d_Law_law_367 : decode b_Law_law 367 = .ok (.aload_n 1, 1) := by decide +kernel
theorem d_Law_law_368 : decode b_Law_law 368 = .ok (.aload_n 0, 1) := by decide +kernel
theorem d_Law_law_369 : decode b_Law_law 369 = .ok (.iload 4, 2) := by decide +kernel
theorem d_Law_law_371 : decode b_Law_law 371 = .ok (.iconst 1, 1) := by decide +kernel
theorem d_Law_law_372 : decode b_Law_law 372 = .ok (.iadd, 1) := by decide +kernel
theorem d_Law_law_373 : decode b_Law_law 373 = .ok (.iaload, 1) := by decide +kernel
theorem d_Law_law_374 : decode b_Law_law 374 = .ok (.invokevirtual 104, 3) := by decide +kernel
theorem d_Law_law_377 : decode b_Law_law 377 = .ok (.aload_n 2, 1) := by decide +kernel
theorem d_Law_law_378 : decode b_Law_law 378 = .ok (.aload_n 0, 1) := by decide +kernel
theorem d_Law_law_379 : decode b_Law_law 379 = .ok (.iload 4, 2) := by decide +kernel
theorem d_Law_law_381 : decode b_Law_law 381 = .ok (.iconst 1, 1) := by decide +kernel
theorem d_Law_law_382 : decode b_Law_law 382 = .ok (.iadd, 1) := by decide +kernel
theorem d_Law_law_383 : decode b_Law_law 383 = .ok (.iaload, 1) := by decide +kernel
theorem d_Law_law_384 : decode b_Law_law 384 = .ok (.invokevirtual 107, 3) := by decide +kernel
theorem d_Law_law_387 : decode b_Law_law 387 = .ok (.if_icmp .eq 1275, 3) := by decide +kernel
theorem d_Law_law_390 : decode b_Law_law 390 = .ok (.iconst 0, 1) := by decide +kernel
theorem d_Law_law_391 : decode b_Law_law 391 = .ok (.ireturn, 1) := by decide +kernel
theorem d_Law_law_392 : decode b_Law_law 392 = .ok (.aload_n 1, 1) := by decide +kernel
theorem d_Law_law_393 : decode b_Law_law 393 = .ok (.aload_n 0, 1) := by decide +kernel
theorem d_Law_law_394 : decode b_Law_law 394 = .ok (.iload 4, 2) := by decide +kernel
theorem d_Law_law_396 : decode b_Law_law 396 = .ok (.iconst 1, 1) := by decide +kernel
theorem d_Law_law_397 : decode b_Law_law 397 = .ok (.iadd, 1) := by decide +kernel
theorem d_Law_law_398 : decode b_Law_law 398 = .ok (.iaload, 1) := by decide +kernel
theorem d_Law_law_399 : decode b_Law_law 399 = .ok (.aload_n 0, 1) := by decide +kernel
theorem d_Law_law_400 : decode b_Law_law 400 = .ok (.iload 4, 2) := by decide +kernel
theorem d_Law_law_402 : decode b_Law_law 402 = .ok (.iconst 2, 1) := by decide +kernel
theorem d_Law_law_403 : decode b_Law_law 403 = .ok (.iadd, 1) := by decide +kernel
theorem d_Law_law_404 : decode b_Law_law 404 = .ok (.iaload, 1) := by decide +kernel
theorem d_Law_law_405 : decode b_Law_law 405 = .ok (.aload_n 3, 1) := by decide +kernel
theorem d_Law_law_406 : decode b_Law_law 406 = .ok (.invokestatic 108, 3) := by decide +kernel
theorem d_Law_law_409 : decode b_Law_law 409 = .ok (.istore 5, 2) := by decide +kernel
theorem d_Law_law_411 : decode b_Law_law 411 = .ok (.aload_n 2, 1) := by decide +kernel
theorem d_Law_law_412 : decode b_Law_law 412 = .ok (.aload_n 0, 1) := by decide +kernel
theorem d_Law_law_413 : decode b_Law_law 413 = .ok (.iload 4, 2) := by decide +kernel
theorem d_Law_law_415 : decode b_Law_law 415 = .ok (.iconst 1, 1) := by decide +kernel
theorem d_Law_law_416 : decode b_Law_law 416 = .ok (.iadd, 1) := by decide +kernel
theorem d_Law_law_417 : decode b_Law_law 417 = .ok (.iaload, 1) := by decide +kernel
theorem d_Law_law_418 : decode b_Law_law 418 = .ok (.aload_n 0, 1) := by decide +kernel
theorem d_Law_law_419 : decode b_Law_law 419 = .ok (.iload 4, 2) := by decide +kernel
theorem d_Law_law_421 : decode b_Law_law 421 = .ok (.iconst 2, 1) := by decide +kernel
theorem d_Law_law_422 : decode b_Law_law 422 = .ok (.iadd, 1) := by decide +kernel
theorem d_Law_law_423 : decode b_Law_law 423 = .ok (.iaload, 1) := by decide +kernel
theorem d_Law_law_424 : decode b_Law_law 424 = .ok (.invokevirtual 110, 3) := by decide +kernel
theorem d_Law_law_427 : decode b_Law_law 427 = .ok (.istore 6, 2) := by decide +kernel
theorem d_Law_law_429 : decode b_Law_law 429 = .ok (.aload_n 2, 1) := by decide +kernel
theorem d_Law_law_430 : decode b_Law_law 430 = .ok (.invokevirtual 94, 3) := by decide +kernel
theorem d_Law_law_433 : decode b_Law_law 433 = .ok (.iload 5, 2) := by decide +kernel
theorem d_Law_law_435 : decode b_Law_law 435 = .ok (.if_icmp .eq 5, 3) := by decide +kernel
theorem d_Law_law_438 : decode b_Law_law 438 = .ok (.iconst 0, 1) := by decide +kernel
theorem d_Law_law_439 : decode b_Law_law 439 = .ok (.ireturn, 1) := by decide +kernel
theorem d_Law_law_440 : decode b_Law_law 440 = .ok (.iload 5, 2) := by decide +kernel
theorem d_Law_law_442 : decode b_Law_law 442 = .ok (.ifCond .ne 22, 3) := by decide +kernel
theorem d_Law_law_445 : decode b_Law_law 445 = .ok (.aload_n 3, 1) := by decide +kernel
theorem d_Law_law_446 : decode b_Law_law 446 = .ok (.iconst 0, 1) := by decide +kernel
theorem d_Law_law_447 : decode b_Law_law 447 = .ok (.laload, 1) := by decide +kernel
theorem d_Law_law_448 : decode b_Law_law 448 = .ok (.iload 6, 2) := by decide +kernel
theorem d_Law_law_450 : decode b_Law_law 450 = .ok (.ifCond .eq 7, 3) := by decide +kernel
theorem d_Law_law_453 : decode b_Law_law 453 = .ok (.lconst 1, 1) := by decide +kernel
theorem d_Law_law_454 : decode b_Law_law 454 = .ok (.goto 4, 3) := by decide +kernel
theorem d_Law_law_457 : decode b_Law_law 457 = .ok (.lconst 0, 1) := by decide +kernel
theorem d_Law_law_458 : decode b_Law_law 458 = .ok (.lcmp, 1) := by decide +kernel
theorem d_Law_law_459 : decode b_Law_law 459 = .ok (.ifCond .eq 5, 3) := by decide +kernel
theorem d_Law_law_462 : decode b_Law_law 462 = .ok (.iconst 0, 1) := by decide +kernel
theorem d_Law_law_463 : decode b_Law_law 463 = .ok (.ireturn, 1) := by decide +kernel
theorem d_Law_law_464 : decode b_Law_law 464 = .ok (.goto 1198, 3) := by decide +kernel
theorem d_Law_law_467 : decode b_Law_law 467 = .ok (.aload_n 1, 1) := by decide +kernel
theorem d_Law_law_468 : decode b_Law_law 468 = .ok (.aload_n 0, 1) := by decide +kernel
theorem d_Law_law_469 : decode b_Law_law 469 = .ok (.iload 4, 2) := by decide +kernel
theorem d_Law_law_471 : decode b_Law_law 471 = .ok (.iconst 1, 1) := by decide +kernel
theorem d_Law_law_472 : decode b_Law_law 472 = .ok (.iadd, 1) := by decide +kernel
theorem d_Law_law_473 : decode b_Law_law 473 = .ok (.iaload, 1) := by decide +kernel
theorem d_Law_law_474 : decode b_Law_law 474 = .ok (.aload_n 0, 1) := by decide +kernel
theorem d_Law_law_475 : decode b_Law_law 475 = .ok (.iload 4, 2) := by decide +kernel
theorem d_Law_law_477 : decode b_Law_law 477 = .ok (.iconst 2, 1) := by decide +kernel
theorem d_Law_law_478 : decode b_Law_law 478 = .ok (.iadd, 1) := by decide +kernel
theorem d_Law_law_479 : decode b_Law_law 479 = .ok (.iaload, 1) := by decide +kernel
theorem d_Law_law_480 : decode b_Law_law 480 = .ok (.aload_n 0, 1) := by decide +kernel
theorem d_Law_law_481 : decode b_Law_law 481 = .ok (.iload 4, 2) := by decide +kernel
theorem d_Law_law_483 : decode b_Law_law 483 = .ok (.iconst 3, 1) := by decide +kernel
theorem d_Law_law_484 : decode b_Law_law 484 = .ok (.iadd, 1) := by decide +kernel
theorem d_Law_law_485 : decode b_Law_law 485 = .ok (.iaload, 1) := by decide +kernel
theorem d_Law_law_486 : decode b_Law_law 486 = .ok (.aload_n 3, 1) := by decide +kernel
theorem d_Law_law_487 : decode b_Law_law 487 = .ok (.invokestatic 111, 3) := by decide +kernel
theorem d_Law_law_490 : decode b_Law_law 490 = .ok (.istore 5, 2) := by decide +kernel
theorem d_Law_law_492 : decode b_Law_law 492 = .ok (.aload_n 2, 1) := by decide +kernel
theorem d_Law_law_493 : decode b_Law_law 493 = .ok (.aload_n 0, 1) := by decide +kernel
theorem d_Law_law_494 : decode b_Law_law 494 = .ok (.iload 4, 2) := by decide +kernel
theorem d_Law_law_496 : decode b_Law_law 496 = .ok (.iconst 1, 1) := by decide +kernel
theorem d_Law_law_497 : decode b_Law_law 497 = .ok (.iadd, 1) := by decide +kernel
theorem d_Law_law_498 : decode b_Law_law 498 = .ok (.iaload, 1) := by decide +kernel
theorem d_Law_law_499 : decode b_Law_law 499 = .ok (.aload_n 0, 1) := by decide +kernel
theorem d_Law_law_500 : decode b_Law_law 500 = .ok (.iload 4, 2) := by decide +kernel
theorem d_Law_law_502 : decode b_Law_law 502 = .ok (.iconst 2, 1) := by decide +kernel
theorem d_Law_law_503 : decode b_Law_law 503 = .ok (.iadd, 1) := by decide +kernel
theorem d_Law_law_504 : decode b_Law_law 504 = .ok (.iaload, 1) := by decide +kernel
theorem d_Law_law_505 : decode b_Law_law 505 = .ok (.aload_n 0, 1) := by decide +kernel
theorem d_Law_law_506 : decode b_Law_law 506 = .ok (.iload 4, 2) := by decide +kernel
theorem d_Law_law_508 : decode b_Law_law 508 = .ok (.iconst 3, 1) := by decide +kernel
theorem d_Law_law_509 : decode b_Law_law 509 = .ok (.iadd, 1) := by decide +kernel
theorem d_Law_law_510 : decode b_Law_law 510 = .ok (.iaload, 1) := by decide +kernel
theorem d_Law_law_511 : decode b_Law_law 511 = .ok (.invokevirtual 114, 3) := by decide +kernel
theorem d_Law_law_514 : decode b_Law_law 514 = .ok (.istore 6, 2) := by decide +kernel
theorem d_Law_law_516 : decode b_Law_law 516 = .ok (.aload_n 2, 1) := by decide +kernel
theorem d_Law_law_517 : decode b_Law_law 517 = .ok (.invokevirtual 94, 3) := by decide +kernel
theorem d_Law_law_520 : decode b_Law_law 520 = .ok (.iload 5, 2) := by decide +kernel
theorem d_Law_law_522 : decode b_Law_law 522 = .ok (.if_icmp .eq 5, 3) := by decide +kernel
theorem d_Law_law_525 : decode b_Law_law 525 = .ok (.iconst 0, 1) := by decide +kernel
theorem d_Law_law_526 : decode b_Law_law 526 = .ok (.ireturn, 1) := by decide +kernel
theorem d_Law_law_527 : decode b_Law_law 527 = .ok (.iload 5, 2) := by decide +kernel
theorem d_Law_law_529 : decode b_Law_law 529 = .ok (.ifCond .ne 22, 3) := by decide +kernel
theorem d_Law_law_532 : decode b_Law_law 532 = .ok (.aload_n 3, 1) := by decide +kernel
theorem d_Law_law_533 : decode b_Law_law 533 = .ok (.iconst 0, 1) := by decide +kernel
theorem d_Law_law_534 : decode b_Law_law 534 = .ok (.laload, 1) := by decide +kernel
theorem d_Law_law_535 : decode b_Law_law 535 = .ok (.iload 6, 2) := by decide +kernel
theorem d_Law_law_537 : decode b_Law_law 537 = .ok (.ifCond .eq 7, 3) := by decide +kernel
theorem d_Law_law_540 : decode b_Law_law 540 = .ok (.lconst 1, 1) := by decide +kernel
theorem d_Law_law_541 : decode b_Law_law 541 = .ok (.goto 4, 3) := by decide +kernel
theorem d_Law_law_544 : decode b_Law_law 544 = .ok (.lconst 0, 1) := by decide +kernel
theorem d_Law_law_545 : decode b_Law_law 545 = .ok (.lcmp, 1) := by decide +kernel
theorem d_Law_law_546 : decode b_Law_law 546 = .ok (.ifCond .eq 5, 3) := by decide +kernel
theorem d_Law_law_549 : decode b_Law_law 549 = .ok (.iconst 0, 1) := by decide +kernel
theorem d_Law_law_550 : decode b_Law_law 550 = .ok (.ireturn, 1) := by decide +kernel
theorem d_Law_law_551 : decode b_Law_law 551 = .ok (.goto 1111, 3) := by decide +kernel
theorem d_Law_law_554 : decode b_Law_law 554 = .ok (.aload_n 1, 1) := by decide +kernel
theorem d_Law_law_555 : decode b_Law_law 555 = .ok (.aload_n 0, 1) := by decide +kernel
theorem d_Law_law_556 : decode b_Law_law 556 = .ok (.iload 4, 2) := by decide +kernel
theorem d_Law_law_558 : decode b_Law_law 558 = .ok (.iconst 1, 1) := by decide +kernel
theorem d_Law_law_559 : decode b_Law_law 559 = .ok (.iadd, 1) := by decide +kernel
theorem d_Law_law_560 : decode b_Law_law 560 = .ok (.iaload, 1) := by decide +kernel
theorem d_Law_law_561 : decode b_Law_law 561 = .ok (.aload_n 0, 1) := by decide +kernel
theorem d_Law_law_562 : decode b_Law_law 562 = .ok (.iload 4, 2) := by decide +kernel
theorem d_Law_law_564 : decode b_Law_law 564 = .ok (.iconst 2, 1) := by decide +kernel
theorem d_Law_law_565 : decode b_Law_law 565 = .ok (.iadd, 1) := by decide +kernel
theorem d_Law_law_566 : decode b_Law_law 566 = .ok (.iaload, 1) := by decide +kernel
theorem d_Law_law_567 : decode b_Law_law 567 = .ok (.aload_n 3, 1) := by decide +kernel
theorem d_Law_law_568 : decode b_Law_law 568 = .ok (.invokestatic 115, 3) := by decide +kernel
theorem d_Law_law_571 : decode b_Law_law 571 = .ok (.istore 5, 2) := by decide +kernel
theorem d_Law_law_573 : decode b_Law_law 573 = .ok (.aload_n 2, 1) := by decide +kernel
theorem d_Law_law_574 : decode b_Law_law 574 = .ok (.aload_n 0, 1) := by decide +kernel
theorem d_Law_law_575 : decode b_Law_law 575 = .ok (.iload 4, 2) := by decide +kernel
theorem d_Law_law_577 : decode b_Law_law 577 = .ok (.iconst 1, 1) := by decide +kernel
theorem d_Law_law_578 : decode b_Law_law 578 = .ok (.iadd, 1) := by decide +kernel
theorem d_Law_law_579 : decode b_Law_law 579 = .ok (.iaload, 1) := by decide +kernel
theorem d_Law_law_580 : decode b_Law_law 580 = .ok (.aload_n 0, 1) := by decide +kernel
theorem d_Law_law_581 : decode b_Law_law 581 = .ok (.iload 4, 2) := by decide +kernel
theorem d_Law_law_583 : decode b_Law_law 583 = .ok (.iconst 2, 1) := by decide +kernel
theorem d_Law_law_584 : decode b_Law_law 584 = .ok (.iadd, 1) := by decide +kernel
theorem d_Law_law_585 : decode b_Law_law 585 = .ok (.iaload, 1) := by decide +kernel
theorem d_Law_law_586 : decode b_Law_law 586 = .ok (.invokevirtual 117, 3) := by decide +kernel
theorem d_Law_law_589 : decode b_Law_law 589 = .ok (.istore 6, 2) := by decide +kernel
theorem d_Law_law_591 : decode b_Law_law 591 = .ok (.aload_n 2, 1) := by decide +kernel
theorem d_Law_law_592 : decode b_Law_law 592 = .ok (.invokevirtual 94, 3) := by decide +kernel
theorem d_Law_law_595 : decode b_Law_law 595 = .ok (.iload 5, 2) := by decide +kernel
theorem d_Law_law_597 : decode b_Law_law 597 = .ok (.if_icmp .eq 5, 3) := by decide +kernel
theorem d_Law_law_600 : decode b_Law_law 600 = .ok (.iconst 0, 1) := by decide +kernel
theorem d_Law_law_601 : decode b_Law_law 601 = .ok (.ireturn, 1) := by decide +kernel
theorem d_Law_law_602 : decode b_Law_law 602 = .ok (.iload 5, 2) := by decide +kernel
theorem d_Law_law_604 : decode b_Law_law 604 = .ok (.ifCond .ne 15, 3) := by decide +kernel
theorem d_Law_law_607 : decode b_Law_law 607 = .ok (.aload_n 3, 1) := by decide +kernel
theorem d_Law_law_608 : decode b_Law_law 608 = .ok (.iconst 0, 1) := by decide +kernel
theorem d_Law_law_609 : decode b_Law_law 609 = .ok (.laload, 1) := by decide +kernel
theorem d_Law_law_610 : decode b_Law_law 610 = .ok (.iload 6, 2) := by decide +kernel
theorem d_Law_law_612 : decode b_Law_law 612 = .ok (.i2l, 1) := by decide +kernel
theorem d_Law_law_613 : decode b_Law_law 613 = .ok (.lcmp, 1) := by decide +kernel
theorem d_Law_law_614 : decode b_Law_law 614 = .ok (.ifCond .eq 5, 3) := by decide +kernel
theorem d_Law_law_617 : decode b_Law_law 617 = .ok (.iconst 0, 1) := by decide +kernel
theorem d_Law_law_618 : decode b_Law_law 618 = .ok (.ireturn, 1) := by decide +kernel
theorem d_Law_law_619 : decode b_Law_law 619 = .ok (.goto 1043, 3) := by decide +kernel
theorem d_Law_law_622 : decode b_Law_law 622 = .ok (.aload_n 1, 1) := by decide +kernel
theorem d_Law_law_623 : decode b_Law_law 623 = .ok (.aload_n 0, 1) := by decide +kernel
theorem d_Law_law_624 : decode b_Law_law 624 = .ok (.iload 4, 2) := by decide +kernel
theorem d_Law_law_626 : decode b_Law_law 626 = .ok (.iconst 1, 1) := by decide +kernel
theorem d_Law_law_627 : decode b_Law_law 627 = .ok (.iadd, 1) := by decide +kernel
theorem d_Law_law_628 : decode b_Law_law 628 = .ok (.iaload, 1) := by decide +kernel
theorem d_Law_law_629 : decode b_Law_law 629 = .ok (.aload_n 0, 1) := by decide +kernel
theorem d_Law_law_630 : decode b_Law_law 630 = .ok (.iload 4, 2) := by decide +kernel
theorem d_Law_law_632 : decode b_Law_law 632 = .ok (.iconst 2, 1) := by decide +kernel
theorem d_Law_law_633 : decode b_Law_law 633 = .ok (.iadd, 1) := by decide +kernel
theorem d_Law_law_634 : decode b_Law_law 634 = .ok (.iaload, 1) := by decide +kernel
theorem d_Law_law_635 : decode b_Law_law 635 = .ok (.aload_n 3, 1) := by decide +kernel
theorem d_Law_law_636 : decode b_Law_law 636 = .ok (.invokestatic 118, 3) := by decide +kernel
theorem d_Law_law_639 : decode b_Law_law 639 = .ok (.istore 5, 2) := by decide +kernel
theorem d_Law_law_641 : decode b_Law_law 641 = .ok (.aload_n 2, 1) := by decide +kernel
theorem d_Law_law_642 : decode b_Law_law 642 = .ok (.aload_n 0, 1) := by decide +kernel
theorem d_Law_law_643 : decode b_Law_law 643 = .ok (.iload 4, 2) := by decide +kernel
theorem d_Law_law_645 : decode b_Law_law 645 = .ok (.iconst 1, 1) := by decide +kernel
theorem d_Law_law_646 : decode b_Law_law 646 = .ok (.iadd, 1) := by decide +kernel
theorem d_Law_law_647 : decode b_Law_law 647 = .ok (.iaload, 1) := by decide +kernel
theorem d_Law_law_648 : decode b_Law_law 648 = .ok (.aload_n 0, 1) := by decide +kernel
theorem d_Law_law_649 : decode b_Law_law 649 = .ok (.iload 4, 2) := by decide +kernel
theorem d_Law_law_651 : decode b_Law_law 651 = .ok (.iconst 2, 1) := by decide +kernel
theorem d_Law_law_652 : decode b_Law_law 652 = .ok (.iadd, 1) := by decide +kernel
theorem d_Law_law_653 : decode b_Law_law 653 = .ok (.iaload, 1) := by decide +kernel
theorem d_Law_law_654 : decode b_Law_law 654 = .ok (.invokevirtual 120, 3) := by decide +kernel
theorem d_Law_law_657 : decode b_Law_law 657 = .ok (.istore 6, 2) := by decide +kernel
theorem d_Law_law_659 : decode b_Law_law 659 = .ok (.aload_n 2, 1) := by decide +kernel
theorem d_Law_law_660 : decode b_Law_law 660 = .ok (.invokevirtual 94, 3) := by decide +kernel
theorem d_Law_law_663 : decode b_Law_law 663 = .ok (.iload 5, 2) := by decide +kernel
theorem d_Law_law_665 : decode b_Law_law 665 = .ok (.if_icmp .eq 5, 3) := by decide +kernel
theorem d_Law_law_668 : decode b_Law_law 668 = .ok (.iconst 0, 1) := by decide +kernel
theorem d_Law_law_669 : decode b_Law_law 669 = .ok (.ireturn, 1) := by decide +kernel
theorem d_Law_law_670 : decode b_Law_law 670 = .ok (.iload 5, 2) := by decide +kernel
theorem d_Law_law_672 : decode b_Law_law 672 = .ok (.ifCond .ne 15, 3) := by decide +kernel
theorem d_Law_law_675 : decode b_Law_law 675 = .ok (.aload_n 3, 1) := by decide +kernel
theorem d_Law_law_676 : decode b_Law_law 676 = .ok (.iconst 0, 1) := by decide +kernel
theorem d_Law_law_677 : decode b_Law_law 677 = .ok (.laload, 1) := by decide +kernel
theorem d_Law_law_678 : decode b_Law_law 678 = .ok (.iload 6, 2) := by decide +kernel
theorem d_Law_law_680 : decode b_Law_law 680 = .ok (.i2l, 1) := by decide +kernel
theorem d_Law_law_681 : decode b_Law_law 681 = .ok (.lcmp, 1) := by decide +kernel
theorem d_Law_law_682 : decode b_Law_law 682 = .ok (.ifCond .eq 5, 3) := by decide +kernel
theorem d_Law_law_685 : decode b_Law_law 685 = .ok (.iconst 0, 1) := by decide +kernel
theorem d_Law_law_686 : decode b_Law_law 686 = .ok (.ireturn, 1) := by decide +kernel
theorem d_Law_law_687 : decode b_Law_law 687 = .ok (.goto 975, 3) := by decide +kernel
theorem d_Law_law_690 : decode b_Law_law 690 = .ok (.aload_n 1, 1) := by decide +kernel
theorem d_Law_law_691 : decode b_Law_law 691 = .ok (.aload_n 0, 1) := by decide +kernel
theorem d_Law_law_692 : decode b_Law_law 692 = .ok (.iload 4, 2) := by decide +kernel
theorem d_Law_law_694 : decode b_Law_law 694 = .ok (.iconst 1, 1) := by decide +kernel
theorem d_Law_law_695 : decode b_Law_law 695 = .ok (.iadd, 1) := by decide +kernel
theorem d_Law_law_696 : decode b_Law_law 696 = .ok (.iaload, 1) := by decide +kernel
theorem d_Law_law_697 : decode b_Law_law 697 = .ok (.aload_n 0, 1) := by decide +kernel
theorem d_Law_law_698 : decode b_Law_law 698 = .ok (.iload 4, 2) := by decide +kernel
theorem d_Law_law_700 : decode b_Law_law 700 = .ok (.iconst 2, 1) := by decide +kernel
theorem d_Law_law_701 : decode b_Law_law 701 = .ok (.iadd, 1) := by decide +kernel
theorem d_Law_law_702 : decode b_Law_law 702 = .ok (.iaload, 1) := by decide +kernel
theorem d_Law_law_703 : decode b_Law_law 703 = .ok (.aload_n 0, 1) := by decide +kernel
theorem d_Law_law_704 : decode b_Law_law 704 = .ok (.iload 4, 2) := by decide +kernel
theorem d_Law_law_706 : decode b_Law_law 706 = .ok (.iconst 3, 1) := by decide +kernel
theorem d_Law_law_707 : decode b_Law_law 707 = .ok (.iadd, 1) := by decide +kernel
theorem d_Law_law_708 : decode b_Law_law 708 = .ok (.iaload, 1) := by decide +kernel
theorem d_Law_law_709 : decode b_Law_law 709 = .ok (.aload_n 3, 1) := by decide +kernel
theorem d_Law_law_710 : decode b_Law_law 710 = .ok (.invokestatic 121, 3) := by decide +kernel
theorem d_Law_law_713 : decode b_Law_law 713 = .ok (.istore 5, 2) := by decide +kernel
theorem d_Law_law_715 : decode b_Law_law 715 = .ok (.aload_n 2, 1) := by decide +kernel
theorem d_Law_law_716 : decode b_Law_law 716 = .ok (.aload_n 0, 1) := by decide +kernel
theorem d_Law_law_717 : decode b_Law_law 717 = .ok (.iload 4, 2) := by decide +kernel
theorem d_Law_law_719 : decode b_Law_law 719 = .ok (.iconst 1, 1) := by decide +kernel
theorem d_Law_law_720 : decode b_Law_law 720 = .ok (.iadd, 1) := by decide +kernel
theorem d_Law_law_721 : decode b_Law_law 721 = .ok (.iaload, 1) := by decide +kernel
theorem d_Law_law_722 : decode b_Law_law 722 = .ok (.aload_n 0, 1) := by decide +kernel
theorem d_Law_law_723 : decode b_Law_law 723 = .ok (.iload 4, 2) := by decide +kernel
theorem d_Law_law_725 : decode b_Law_law 725 = .ok (.iconst 2, 1) := by decide +kernel
theorem d_Law_law_726 : decode b_Law_law 726 = .ok (.iadd, 1) := by decide +kernel
theorem d_Law_law_727 : decode b_Law_law 727 = .ok (.iaload, 1) := by decide +kernel
theorem d_Law_law_728 : decode b_Law_law 728 = .ok (.aload_n 0, 1) := by decide +kernel
theorem d_Law_law_729 : decode b_Law_law 729 = .ok (.iload 4, 2) := by decide +kernel
theorem d_Law_law_731 : decode b_Law_law 731 = .ok (.iconst 3, 1) := by decide +kernel
theorem d_Law_law_732 : decode b_Law_law 732 = .ok (.iadd, 1) := by decide +kernel
theorem d_Law_law_733 : decode b_Law_law 733 = .ok (.iaload, 1) := by decide +kernel
theorem d_Law_law_734 : decode b_Law_law 734 = .ok (.invokevirtual 123, 3) := by decide +kernel
theorem d_Law_law_737 : decode b_Law_law 737 = .ok (.istore 6, 2) := by decide +kernel
theorem d_Law_law_739 : decode b_Law_law 739 = .ok (.aload_n 2, 1) := by decide +kernel
theorem d_Law_law_740 : decode b_Law_law 740 = .ok (.invokevirtual 94, 3) := by decide +kernel
theorem d_Law_law_743 : decode b_Law_law 743 = .ok (.iload 5, 2) := by decide +kernel
theorem d_Law_law_745 : decode b_Law_law 745 = .ok (.if_icmp .eq 5, 3) := by decide +kernel
theorem d_Law_law_748 : decode b_Law_law 748 = .ok (.iconst 0, 1) := by decide +kernel
theorem d_Law_law_749 : decode b_Law_law 749 = .ok (.ireturn, 1) := by decide +kernel
theorem d_Law_law_750 : decode b_Law_law 750 = .ok (.iload 5, 2) := by decide +kernel
theorem d_Law_law_752 : decode b_Law_law 752 = .ok (.ifCond .ne 22, 3) := by decide +kernel
theorem d_Law_law_755 : decode b_Law_law 755 = .ok (.aload_n 3, 1) := by decide +kernel
theorem d_Law_law_756 : decode b_Law_law 756 = .ok (.iconst 0, 1) := by decide +kernel
theorem d_Law_law_757 : decode b_Law_law 757 = .ok (.laload, 1) := by decide +kernel
theorem d_Law_law_758 : decode b_Law_law 758 = .ok (.iload 6, 2) := by decide +kernel
theorem d_Law_law_760 : decode b_Law_law 760 = .ok (.ifCond .eq 7, 3) := by decide +kernel
theorem d_Law_law_763 : decode b_Law_law 763 = .ok (.lconst 1, 1) := by decide +kernel
theorem d_Law_law_764 : decode b_Law_law 764 = .ok (.goto 4, 3) := by decide +kernel
theorem d_Law_law_767 : decode b_Law_law 767 = .ok (.lconst 0, 1) := by decide +kernel
theorem d_Law_law_768 : decode b_Law_law 768 = .ok (.lcmp, 1) := by decide +kernel
theorem d_Law_law_769 : decode b_Law_law 769 = .ok (.ifCond .eq 5, 3) := by decide +kernel
theorem d_Law_law_772 : decode b_Law_law 772 = .ok (.iconst 0, 1) := by decide +kernel
theorem d_Law_law_773 : decode b_Law_law 773 = .ok (.ireturn, 1) := by decide +kernel
theorem d_Law_law_774 : decode b_Law_law 774 = .ok (.goto 888, 3) := by decide +kernel
theorem d_Law_law_777 : decode b_Law_law 777 = .ok (.aload_n 1, 1) := by decide +kernel
theorem d_Law_law_778 : decode b_Law_law 778 = .ok (.aload_n 0, 1) := by decide +kernel
theorem d_Law_law_779 : decode b_Law_law 779 = .ok (.iload 4, 2) := by decide +kernel
theorem d_Law_law_781 : decode b_Law_law 781 = .ok (.iconst 1, 1) := by decide +kernel
theorem d_Law_law_782 : decode b_Law_law 782 = .ok (.iadd, 1) := by decide +kernel
theorem d_Law_law_783 : decode b_Law_law 783 = .ok (.iaload, 1) := by decide +kernel
theorem d_Law_law_784 : decode b_Law_law 784 = .ok (.aload_n 3, 1) := by decide +kernel
theorem d_Law_law_785 : decode b_Law_law 785 = .ok (.invokestatic 124, 3) := by decide +kernel
theorem d_Law_law_788 : decode b_Law_law 788 = .ok (.istore 5, 2) := by decide +kernel
theorem d_Law_law_790 : decode b_Law_law 790 = .ok (.aload_n 2, 1) := by decide +kernel
theorem d_Law_law_791 : decode b_Law_law 791 = .ok (.aload_n 0, 1) := by decide +kernel
theorem d_Law_law_792 : decode b_Law_law 792 = .ok (.iload 4, 2) := by decide +kernel
theorem d_Law_law_794 : decode b_Law_law 794 = .ok (.iconst 1, 1) := by decide +kernel
theorem d_Law_law_795 : decode b_Law_law 795 = .ok (.iadd, 1) := by decide +kernel
theorem d_Law_law_796 : decode b_Law_law 796 = .ok (.iaload, 1) := by decide +kernel
theorem d_Law_law_797 : decode b_Law_law 797 = .ok (.invokevirtual 126, 3) := by decide +kernel
theorem d_Law_law_800 : decode b_Law_law 800 = .ok (.istore 6, 2) := by decide +kernel
theorem d_Law_law_802 : decode b_Law_law 802 = .ok (.aload_n 2, 1) := by decide +kernel
theorem d_Law_law_803 : decode b_Law_law 803 = .ok (.invokevirtual 94, 3) := by decide +kernel
theorem d_Law_law_806 : decode b_Law_law 806 = .ok (.iload 5, 2) := by decide +kernel
theorem d_Law_law_808 : decode b_Law_law 808 = .ok (.if_icmp .eq 5, 3) := by decide +kernel
theorem d_Law_law_811 : decode b_Law_law 811 = .ok (.iconst 0, 1) := by decide +kernel
theorem d_Law_law_812 : decode b_Law_law 812 = .ok (.ireturn, 1) := by decide +kernel
theorem d_Law_law_813 : decode b_Law_law 813 = .ok (.iload 5, 2) := by decide +kernel
theorem d_Law_law_815 : decode b_Law_law 815 = .ok (.ifCond .ne 15, 3) := by decide +kernel
theorem d_Law_law_818 : decode b_Law_law 818 = .ok (.aload_n 3, 1) := by decide +kernel
theorem d_Law_law_819 : decode b_Law_law 819 = .ok (.iconst 0, 1) := by decide +kernel
theorem d_Law_law_820 : decode b_Law_law 820 = .ok (.laload, 1) := by decide +kernel
theorem d_Law_law_821 : decode b_Law_law 821 = .ok (.iload 6, 2) := by decide +kernel
theorem d_Law_law_823 : decode b_Law_law 823 = .ok (.i2l, 1) := by decide +kernel
theorem d_Law_law_824 : decode b_Law_law 824 = .ok (.lcmp, 1) := by decide +kernel
theorem d_Law_law_825 : decode b_Law_law 825 = .ok (.ifCond .eq 5, 3) := by decide +kernel
theorem d_Law_law_828 : decode b_Law_law 828 = .ok (.iconst 0, 1) := by decide +kernel
theorem d_Law_law_829 : decode b_Law_law 829 = .ok (.ireturn, 1) := by decide +kernel
theorem d_Law_law_830 : decode b_Law_law 830 = .ok (.goto 832, 3) := by decide +kernel
theorem d_Law_law_833 : decode b_Law_law 833 = .ok (.aload_n 1, 1) := by decide +kernel
theorem d_Law_law_834 : decode b_Law_law 834 = .ok (.aload_n 0, 1) := by decide +kernel
theorem d_Law_law_835 : decode b_Law_law 835 = .ok (.iload 4, 2) := by decide +kernel
theorem d_Law_law_837 : decode b_Law_law 837 = .ok (.iconst 1, 1) := by decide +kernel
theorem d_Law_law_838 : decode b_Law_law 838 = .ok (.iadd, 1) := by decide +kernel
theorem d_Law_law_839 : decode b_Law_law 839 = .ok (.iaload, 1) := by decide +kernel
theorem d_Law_law_840 : decode b_Law_law 840 = .ok (.aload_n 3, 1) := by decide +kernel
theorem d_Law_law_841 : decode b_Law_law 841 = .ok (.invokestatic 127, 3) := by decide +kernel
theorem d_Law_law_844 : decode b_Law_law 844 = .ok (.istore 5, 2) := by decide +kernel
theorem d_Law_law_846 : decode b_Law_law 846 = .ok (.aload_n 2, 1) := by decide +kernel
theorem d_Law_law_847 : decode b_Law_law 847 = .ok (.aload_n 0, 1) := by decide +kernel
theorem d_Law_law_848 : decode b_Law_law 848 = .ok (.iload 4, 2) := by decide +kernel
theorem d_Law_law_850 : decode b_Law_law 850 = .ok (.iconst 1, 1) := by decide +kernel
theorem d_Law_law_851 : decode b_Law_law 851 = .ok (.iadd, 1) := by decide +kernel
theorem d_Law_law_852 : decode b_Law_law 852 = .ok (.iaload, 1) := by decide +kernel
theorem d_Law_law_853 : decode b_Law_law 853 = .ok (.invokevirtual 129, 3) := by decide +kernel
theorem d_Law_law_856 : decode b_Law_law 856 = .ok (.istore 6, 2) := by decide +kernel
theorem d_Law_law_858 : decode b_Law_law 858 = .ok (.aload_n 2, 1) := by decide +kernel
theorem d_Law_law_859 : decode b_Law_law 859 = .ok (.invokevirtual 94, 3) := by decide +kernel
theorem d_Law_law_862 : decode b_Law_law 862 = .ok (.iload 5, 2) := by decide +kernel
theorem d_Law_law_864 : decode b_Law_law 864 = .ok (.if_icmp .eq 5, 3) := by decide +kernel
theorem d_Law_law_867 : decode b_Law_law 867 = .ok (.iconst 0, 1) := by decide +kernel
theorem d_Law_law_868 : decode b_Law_law 868 = .ok (.ireturn, 1) := by decide +kernel
theorem d_Law_law_869 : decode b_Law_law 869 = .ok (.iload 5, 2) := by decide +kernel
theorem d_Law_law_871 : decode b_Law_law 871 = .ok (.ifCond .ne 22, 3) := by decide +kernel
theorem d_Law_law_874 : decode b_Law_law 874 = .ok (.aload_n 3, 1) := by decide +kernel
theorem d_Law_law_875 : decode b_Law_law 875 = .ok (.iconst 0, 1) := by decide +kernel
theorem d_Law_law_876 : decode b_Law_law 876 = .ok (.laload, 1) := by decide +kernel
theorem d_Law_law_877 : decode b_Law_law 877 = .ok (.iload 6, 2) := by decide +kernel
theorem d_Law_law_879 : decode b_Law_law 879 = .ok (.ifCond .eq 7, 3) := by decide +kernel
theorem d_Law_law_882 : decode b_Law_law 882 = .ok (.lconst 1, 1) := by decide +kernel
theorem d_Law_law_883 : decode b_Law_law 883 = .ok (.goto 4, 3) := by decide +kernel
theorem d_Law_law_886 : decode b_Law_law 886 = .ok (.lconst 0, 1) := by decide +kernel
theorem d_Law_law_887 : decode b_Law_law 887 = .ok (.lcmp, 1) := by decide +kernel
theorem d_Law_law_888 : decode b_Law_law 888 = .ok (.ifCond .eq 5, 3) := by decide +kernel
theorem d_Law_law_891 : decode b_Law_law 891 = .ok (.iconst 0, 1) := by decide +kernel
theorem d_Law_law_892 : decode b_Law_law 892 = .ok (.ireturn, 1) := by decide +kernel
theorem d_Law_law_893 : decode b_Law_law 893 = .ok (.goto 769, 3) := by decide +kernel
theorem d_Law_law_896 : decode b_Law_law 896 = .ok (.aload_n 1, 1) := by decide +kernel
theorem d_Law_law_897 : decode b_Law_law 897 = .ok (.aload_n 0, 1) := by decide +kernel
theorem d_Law_law_898 : decode b_Law_law 898 = .ok (.iload 4, 2) := by decide +kernel
theorem d_Law_law_900 : decode b_Law_law 900 = .ok (.iconst 1, 1) := by decide +kernel
theorem d_Law_law_901 : decode b_Law_law 901 = .ok (.iadd, 1) := by decide +kernel
theorem d_Law_law_902 : decode b_Law_law 902 = .ok (.iaload, 1) := by decide +kernel
theorem d_Law_law_903 : decode b_Law_law 903 = .ok (.aload_n 3, 1) := by decide +kernel
theorem d_Law_law_904 : decode b_Law_law 904 = .ok (.invokestatic 130, 3) := by decide +kernel
theorem d_Law_law_907 : decode b_Law_law 907 = .ok (.istore 5, 2) := by decide +kernel
theorem d_Law_law_909 : decode b_Law_law 909 = .ok (.aload_n 2, 1) := by decide +kernel
theorem d_Law_law_910 : decode b_Law_law 910 = .ok (.aload_n 0, 1) := by decide +kernel
theorem d_Law_law_911 : decode b_Law_law 911 = .ok (.iload 4, 2) := by decide +kernel
theorem d_Law_law_913 : decode b_Law_law 913 = .ok (.iconst 1, 1) := by decide +kernel
theorem d_Law_law_914 : decode b_Law_law 914 = .ok (.iadd, 1) := by decide +kernel
theorem d_Law_law_915 : decode b_Law_law 915 = .ok (.iaload, 1) := by decide +kernel
theorem d_Law_law_916 : decode b_Law_law 916 = .ok (.invokevirtual 132, 3) := by decide +kernel
theorem d_Law_law_919 : decode b_Law_law 919 = .ok (.istore 6, 2) := by decide +kernel
theorem d_Law_law_921 : decode b_Law_law 921 = .ok (.aload_n 2, 1) := by decide +kernel
theorem d_Law_law_922 : decode b_Law_law 922 = .ok (.invokevirtual 94, 3) := by decide +kernel
theorem d_Law_law_925 : decode b_Law_law 925 = .ok (.iload 5, 2) := by decide +kernel
theorem d_Law_law_927 : decode b_Law_law 927 = .ok (.if_icmp .eq 5, 3) := by decide +kernel
theorem d_Law_law_930 : decode b_Law_law 930 = .ok (.iconst 0, 1) := by decide +kernel
theorem d_Law_law_931 : decode b_Law_law 931 = .ok (.ireturn, 1) := by decide +kernel
theorem d_Law_law_932 : decode b_Law_law 932 = .ok (.iload 5, 2) := by decide +kernel
theorem d_Law_law_934 : decode b_Law_law 934 = .ok (.ifCond .ne 15, 3) := by decide +kernel
theorem d_Law_law_937 : decode b_Law_law 937 = .ok (.aload_n 3, 1) := by decide +kernel
theorem d_Law_law_938 : decode b_Law_law 938 = .ok (.iconst 0, 1) := by decide +kernel
theorem d_Law_law_939 : decode b_Law_law 939 = .ok (.laload, 1) := by decide +kernel
theorem d_Law_law_940 : decode b_Law_law 940 = .ok (.iload 6, 2) := by decide +kernel
theorem d_Law_law_942 : decode b_Law_law 942 = .ok (.i2l, 1) := by decide +kernel
theorem d_Law_law_943 : decode b_Law_law 943 = .ok (.lcmp, 1) := by decide +kernel
theorem d_Law_law_944 : decode b_Law_law 944 = .ok (.ifCond .eq 5, 3) := by decide +kernel
theorem d_Law_law_947 : decode b_Law_law 947 = .ok (.iconst 0, 1) := by decide +kernel
theorem d_Law_law_948 : decode b_Law_law 948 = .ok (.ireturn, 1) := by decide +kernel
theorem d_Law_law_949 : decode b_Law_law 949 = .ok (.goto 713, 3) := by decide +kernel
theorem d_Law_law_952 : decode b_Law_law 952 = .ok (.aload_n 1, 1) := by decide +kernel
theorem d_Law_law_953 : decode b_Law_law 953 = .ok (.aload_n 0, 1) := by decide +kernel
theorem d_Law_law_954 : decode b_Law_law 954 = .ok (.iload 4, 2) := by decide +kernel
theorem d_Law_law_956 : decode b_Law_law 956 = .ok (.iconst 1, 1) := by decide +kernel
theorem d_Law_law_957 : decode b_Law_law 957 = .ok (.iadd, 1) := by decide +kernel
theorem d_Law_law_958 : decode b_Law_law 958 = .ok (.iaload, 1) := by decide +kernel
theorem d_Law_law_959 : decode b_Law_law 959 = .ok (.aload_n 0, 1) := by decide +kernel
theorem d_Law_law_960 : decode b_Law_law 960 = .ok (.iload 4, 2) := by decide +kernel
theorem d_Law_law_962 : decode b_Law_law 962 = .ok (.iconst 2, 1) := by decide +kernel
theorem d_Law_law_963 : decode b_Law_law 963 = .ok (.iadd, 1) := by decide +kernel
theorem d_Law_law_964 : decode b_Law_law 964 = .ok (.iaload, 1) := by decide +kernel
theorem d_Law_law_965 : decode b_Law_law 965 = .ok (.aload_n 0, 1) := by decide +kernel
theorem d_Law_law_966 : decode b_Law_law 966 = .ok (.iload 4, 2) := by decide +kernel
theorem d_Law_law_968 : decode b_Law_law 968 = .ok (.iconst 3, 1) := by decide +kernel
theorem d_Law_law_969 : decode b_Law_law 969 = .ok (.iadd, 1) := by decide +kernel
theorem d_Law_law_970 : decode b_Law_law 970 = .ok (.iaload, 1) := by decide +kernel
theorem d_Law_law_971 : decode b_Law_law 971 = .ok (.aload_n 0, 1) := by decide +kernel
theorem d_Law_law_972 : decode b_Law_law 972 = .ok (.iload 4, 2) := by decide +kernel
theorem d_Law_law_974 : decode b_Law_law 974 = .ok (.iconst 4, 1) := by decide +kernel
theorem d_Law_law_975 : decode b_Law_law 975 = .ok (.iadd, 1) := by decide +kernel
theorem d_Law_law_976 : decode b_Law_law 976 = .ok (.iaload, 1) := by decide +kernel
theorem d_Law_law_977 : decode b_Law_law 977 = .ok (.i2l, 1) := by decide +kernel
theorem d_Law_law_978 : decode b_Law_law 978 = .ok (.bipush 32, 2) := by decide +kernel
theorem d_Law_law_980 : decode b_Law_law 980 = .ok (.lshl, 1) := by decide +kernel
theorem d_Law_law_981 : decode b_Law_law 981 = .ok (.aload_n 0, 1) := by decide +kernel
theorem d_Law_law_982 : decode b_Law_law 982 = .ok (.iload 4, 2) := by decide +kernel
theorem d_Law_law_984 : decode b_Law_law 984 = .ok (.iconst 5, 1) := by decide +kernel
theorem d_Law_law_985 : decode b_Law_law 985 = .ok (.iadd, 1) := by decide +kernel
theorem d_Law_law_986 : decode b_Law_law 986 = .ok (.iaload, 1) := by decide +kernel
theorem d_Law_law_987 : decode b_Law_law 987 = .ok (.i2l, 1) := by decide +kernel
theorem d_Law_law_988 : decode b_Law_law 988 = .ok (.ldc2_w 133, 3) := by decide +kernel
theorem d_Law_law_991 : decode b_Law_law 991 = .ok (.land, 1) := by decide +kernel
theorem d_Law_law_992 : decode b_Law_law 992 = .ok (.lor, 1) := by decide +kernel
theorem d_Law_law_993 : decode b_Law_law 993 = .ok (.aload_n 3, 1) := by decide +kernel
theorem d_Law_law_994 : decode b_Law_law 994 = .ok (.invokestatic 135, 3) := by decide +kernel
theorem d_Law_law_997 : decode b_Law_law 997 = .ok (.istore 5, 2) := by decide +kernel
theorem d_Law_law_999 : decode b_Law_law 999 = .ok (.aload_n 2, 1) := by decide +kernel
theorem d_Law_law_1000 : decode b_Law_law 1000 = .ok (.aload_n 0, 1) := by decide +kernel
theorem d_Law_law_1001 : decode b_Law_law 1001 = .ok (.iload 4, 2) := by decide +kernel
theorem d_Law_law_1003 : decode b_Law_law 1003 = .ok (.iconst 1, 1) := by decide +kernel
theorem d_Law_law_1004 : decode b_Law_law 1004 = .ok (.iadd, 1) := by decide +kernel
theorem d_Law_law_1005 : decode b_Law_law 1005 = .ok (.iaload, 1) := by decide +kernel
theorem d_Law_law_1006 : decode b_Law_law 1006 = .ok (.aload_n 0, 1) := by decide +kernel
theorem d_Law_law_1007 : decode b_Law_law 1007 = .ok (.iload 4, 2) := by decide +kernel
theorem d_Law_law_1009 : decode b_Law_law 1009 = .ok (.iconst 2, 1) := by decide +kernel
theorem d_Law_law_1010 : decode b_Law_law 1010 = .ok (.iadd, 1) := by decide +kernel
theorem d_Law_law_1011 : decode b_Law_law 1011 = .ok (.iaload, 1) := by decide +kernel
theorem d_Law_law_1012 : decode b_Law_law 1012 = .ok (.aload_n 0, 1) := by decide +kernel
theorem d_Law_law_1013 : decode b_Law_law 1013 = .ok (.iload 4, 2) := by decide +kernel
theorem d_Law_law_1015 : decode b_Law_law 1015 = .ok (.iconst 3, 1) := by decide +kernel
theorem d_Law_law_1016 : decode b_Law_law 1016 = .ok (.iadd, 1) := by decide +kernel
theorem d_Law_law_1017 : decode b_Law_law 1017 = .ok (.iaload, 1) := by decide +kernel
theorem d_Law_law_1018 : decode b_Law_law 1018 = .ok (.aload_n 0, 1) := by decide +kernel
theorem d_Law_law_1019 : decode b_Law_law 1019 = .ok (.iload 4, 2) := by decide +kernel
theorem d_Law_law_1021 : decode b_Law_law 1021 = .ok (.iconst 4, 1) := by decide +kernel
theorem d_Law_law_1022 : decode b_Law_law 1022 = .ok (.iadd, 1) := by decide +kernel
theorem d_Law_law_1023 : decode b_Law_law 1023 = .ok (.iaload, 1) := by decide +kernel
theorem d_Law_law_1024 : decode b_Law_law 1024 = .ok (.i2l, 1) := by decide +kernel
theorem d_Law_law_1025 : decode b_Law_law 1025 = .ok (.bipush 32, 2) := by decide +kernel
theorem d_Law_law_1027 : decode b_Law_law 1027 = .ok (.lshl, 1) := by decide +kernel
theorem d_Law_law_1028 : decode b_Law_law 1028 = .ok (.aload_n 0, 1) := by decide +kernel
theorem d_Law_law_1029 : decode b_Law_law 1029 = .ok (.iload 4, 2) := by decide +kernel
theorem d_Law_law_1031 : decode b_Law_law 1031 = .ok (.iconst 5, 1) := by decide +kernel
theorem d_Law_law_1032 : decode b_Law_law 1032 = .ok (.iadd, 1) := by decide +kernel
theorem d_Law_law_1033 : decode b_Law_law 1033 = .ok (.iaload, 1) := by decide +kernel
theorem d_Law_law_1034 : decode b_Law_law 1034 = .ok (.i2l, 1) := by decide +kernel
theorem d_Law_law_1035 : decode b_Law_law 1035 = .ok (.ldc2_w 133, 3) := by decide +kernel
theorem d_Law_law_1038 : decode b_Law_law 1038 = .ok (.land, 1) := by decide +kernel
theorem d_Law_law_1039 : decode b_Law_law 1039 = .ok (.lor, 1) := by decide +kernel
theorem d_Law_law_1040 : decode b_Law_law 1040 = .ok (.invokevirtual 138, 3) := by decide +kernel
theorem d_Law_law_1043 : decode b_Law_law 1043 = .ok (.istore 6, 2) := by decide +kernel
theorem d_Law_law_1045 : decode b_Law_law 1045 = .ok (.aload_n 2, 1) := by decide +kernel
theorem d_Law_law_1046 : decode b_Law_law 1046 = .ok (.invokevirtual 94, 3) := by decide +kernel
theorem d_Law_law_1049 : decode b_Law_law 1049 = .ok (.iload 5, 2) := by decide +kernel
theorem d_Law_law_1051 : decode b_Law_law 1051 = .ok (.if_icmp .eq 5, 3) := by decide +kernel
theorem d_Law_law_1054 : decode b_Law_law 1054 = .ok (.iconst 0, 1) := by decide +kernel
theorem d_Law_law_1055 : decode b_Law_law 1055 = .ok (.ireturn, 1) := by decide +kernel
theorem d_Law_law_1056 : decode b_Law_law 1056 = .ok (.iload 5, 2) := by decide +kernel
theorem d_Law_law_1058 : decode b_Law_law 1058 = .ok (.ifCond .ne 22, 3) := by decide +kernel
theorem d_Law_law_1061 : decode b_Law_law 1061 = .ok (.aload_n 3, 1) := by decide +kernel
theorem d_Law_law_1062 : decode b_Law_law 1062 = .ok (.iconst 0, 1) := by decide +kernel
theorem d_Law_law_1063 : decode b_Law_law 1063 = .ok (.laload, 1) := by decide +kernel
theorem d_Law_law_1064 : decode b_Law_law 1064 = .ok (.iload 6, 2) := by decide +kernel
theorem d_Law_law_1066 : decode b_Law_law 1066 = .ok (.ifCond .eq 7, 3) := by decide +kernel
theorem d_Law_law_1069 : decode b_Law_law 1069 = .ok (.lconst 1, 1) := by decide +kernel
theorem d_Law_law_1070 : decode b_Law_law 1070 = .ok (.goto 4, 3) := by decide +kernel
theorem d_Law_law_1073 : decode b_Law_law 1073 = .ok (.lconst 0, 1) := by decide +kernel
theorem d_Law_law_1074 : decode b_Law_law 1074 = .ok (.lcmp, 1) := by decide +kernel
theorem d_Law_law_1075 : decode b_Law_law 1075 = .ok (.ifCond .eq 5, 3) := by decide +kernel
theorem d_Law_law_1078 : decode b_Law_law 1078 = .ok (.iconst 0, 1) := by decide +kernel
theorem d_Law_law_1079 : decode b_Law_law 1079 = .ok (.ireturn, 1) := by decide +kernel
theorem d_Law_law_1080 : decode b_Law_law 1080 = .ok (.goto 582, 3) := by decide +kernel
theorem d_Law_law_1083 : decode b_Law_law 1083 = .ok (.aload_n 1, 1) := by decide +kernel
theorem d_Law_law_1084 : decode b_Law_law 1084 = .ok (.aload_n 0, 1) := by decide +kernel
theorem d_Law_law_1085 : decode b_Law_law 1085 = .ok (.iload 4, 2) := by decide +kernel
theorem d_Law_law_1087 : decode b_Law_law 1087 = .ok (.iconst 1, 1) := by decide +kernel
theorem d_Law_law_1088 : decode b_Law_law 1088 = .ok (.iadd, 1) := by decide +kernel
theorem d_Law_law_1089 : decode b_Law_law 1089 = .ok (.iaload, 1) := by decide +kernel
theorem d_Law_law_1090 : decode b_Law_law 1090 = .ok (.aload_n 0, 1) := by decide +kernel
theorem d_Law_law_1091 : decode b_Law_law 1091 = .ok (.iload 4, 2) := by decide +kernel
theorem d_Law_law_1093 : decode b_Law_law 1093 = .ok (.iconst 2, 1) := by decide +kernel
theorem d_Law_law_1094 : decode b_Law_law 1094 = .ok (.iadd, 1) := by decide +kernel
theorem d_Law_law_1095 : decode b_Law_law 1095 = .ok (.iaload, 1) := by decide +kernel
theorem d_Law_law_1096 : decode b_Law_law 1096 = .ok (.aload_n 0, 1) := by decide +kernel
theorem d_Law_law_1097 : decode b_Law_law 1097 = .ok (.iload 4, 2) := by decide +kernel
theorem d_Law_law_1099 : decode b_Law_law 1099 = .ok (.iconst 3, 1) := by decide +kernel
theorem d_Law_law_1100 : decode b_Law_law 1100 = .ok (.iadd, 1) := by decide +kernel
theorem d_Law_law_1101 : decode b_Law_law 1101 = .ok (.iaload, 1) := by decide +kernel
theorem d_Law_law_1102 : decode b_Law_law 1102 = .ok (.aload_n 0, 1) := by decide +kernel
theorem d_Law_law_1103 : decode b_Law_law 1103 = .ok (.iload 4, 2) := by decide +kernel
theorem d_Law_law_1105 : decode b_Law_law 1105 = .ok (.iconst 4, 1) := by decide +kernel
theorem d_Law_law_1106 : decode b_Law_law 1106 = .ok (.iadd, 1) := by decide +kernel
theorem d_Law_law_1107 : decode b_Law_law 1107 = .ok (.iaload, 1) := by decide +kernel
theorem d_Law_law_1108 : decode b_Law_law 1108 = .ok (.ifCond .eq 7, 3) := by decide +kernel
theorem d_Law_law_1111 : decode b_Law_law 1111 = .ok (.iconst 1, 1) := by decide +kernel
theorem d_Law_law_1112 : decode b_Law_law 1112 = .ok (.goto 4, 3) := by decide +kernel
theorem d_Law_law_1115 : decode b_Law_law 1115 = .ok (.iconst 0, 1) := by decide +kernel
theorem d_Law_law_1116 : decode b_Law_law 1116 = .ok (.aload_n 3, 1) := by decide +kernel
theorem d_Law_law_1117 : decode b_Law_law 1117 = .ok (.invokestatic 139, 3) := by decide +kernel
theorem d_Law_law_1120 : decode b_Law_law 1120 = .ok (.istore 5, 2) := by decide +kernel
theorem d_Law_law_1122 : decode b_Law_law 1122 = .ok (.aload_n 2, 1) := by decide +kernel
theorem d_Law_law_1123 : decode b_Law_law 1123 = .ok (.aload_n 0, 1) := by decide +kernel
theorem d_Law_law_1124 : decode b_Law_law 1124 = .ok (.iload 4, 2) := by decide +kernel
theorem d_Law_law_1126 : decode b_Law_law 1126 = .ok (.iconst 1, 1) := by decide +kernel
theorem d_Law_law_1127 : decode b_Law_law 1127 = .ok (.iadd, 1) := by decide +kernel
theorem d_Law_law_1128 : decode b_Law_law 1128 = .ok (.iaload, 1) := by decide +kernel
theorem d_Law_law_1129 : decode b_Law_law 1129 = .ok (.aload_n 0, 1) := by decide +kernel
theorem d_Law_law_1130 : decode b_Law_law 1130 = .ok (.iload 4, 2) := by decide +kernel
theorem d_Law_law_1132 : decode b_Law_law 1132 = .ok (.iconst 2, 1) := by decide +kernel
theorem d_Law_law_1133 : decode b_Law_law 1133 = .ok (.iadd, 1) := by decide +kernel
theorem d_Law_law_1134 : decode b_Law_law 1134 = .ok (.iaload, 1) := by decide +kernel
theorem d_Law_law_1135 : decode b_Law_law 1135 = .ok (.aload_n 0, 1) := by decide +kernel
theorem d_Law_law_1136 : decode b_Law_law 1136 = .ok (.iload 4, 2) := by decide +kernel
theorem d_Law_law_1138 : decode b_Law_law 1138 = .ok (.iconst 3, 1) := by decide +kernel
theorem d_Law_law_1139 : decode b_Law_law 1139 = .ok (.iadd, 1) := by decide +kernel
theorem d_Law_law_1140 : decode b_Law_law 1140 = .ok (.iaload, 1) := by decide +kernel
theorem d_Law_law_1141 : decode b_Law_law 1141 = .ok (.aload_n 0, 1) := by decide +kernel
theorem d_Law_law_1142 : decode b_Law_law 1142 = .ok (.iload 4, 2) := by decide +kernel
theorem d_Law_law_1144 : decode b_Law_law 1144 = .ok (.iconst 4, 1) := by decide +kernel
theorem d_Law_law_1145 : decode b_Law_law 1145 = .ok (.iadd, 1) := by decide +kernel
theorem d_Law_law_1146 : decode b_Law_law 1146 = .ok (.iaload, 1) := by decide +kernel
theorem d_Law_law_1147 : decode b_Law_law 1147 = .ok (.ifCond .eq 7, 3) := by decide +kernel
theorem d_Law_law_1150 : decode b_Law_law 1150 = .ok (.iconst 1, 1) := by decide +kernel
theorem d_Law_law_1151 : decode b_Law_law 1151 = .ok (.goto 4, 3) := by decide +kernel
theorem d_Law_law_1154 : decode b_Law_law 1154 = .ok (.iconst 0, 1) := by decide +kernel
theorem d_Law_law_1155 : decode b_Law_law 1155 = .ok (.invokevirtual 142, 3) := by decide +kernel
theorem d_Law_law_1158 : decode b_Law_law 1158 = .ok (.istore 6, 2) := by decide +kernel
theorem d_Law_law_1160 : decode b_Law_law 1160 = .ok (.aload_n 2, 1) := by decide +kernel
theorem d_Law_law_1161 : decode b_Law_law 1161 = .ok (.invokevirtual 94, 3) := by decide +kernel
theorem d_Law_law_1164 : decode b_Law_law 1164 = .ok (.iload 5, 2) := by decide +kernel
theorem d_Law_law_1166 : decode b_Law_law 1166 = .ok (.if_icmp .eq 5, 3) := by decide +kernel
theorem d_Law_law_1169 : decode b_Law_law 1169 = .ok (.iconst 0, 1) := by decide +kernel
theorem d_Law_law_1170 : decode b_Law_law 1170 = .ok (.ireturn, 1) := by decide +kernel
theorem d_Law_law_1171 : decode b_Law_law 1171 = .ok (.iload 5, 2) := by decide +kernel
theorem d_Law_law_1173 : decode b_Law_law 1173 = .ok (.ifCond .ne 22, 3) := by decide +kernel
theorem d_Law_law_1176 : decode b_Law_law 1176 = .ok (.aload_n 3, 1) := by decide +kernel
theorem d_Law_law_1177 : decode b_Law_law 1177 = .ok (.iconst 0, 1) := by decide +kernel
theorem d_Law_law_1178 : decode b_Law_law 1178 = .ok (.laload, 1) := by decide +kernel
theorem d_Law_law_1179 : decode b_Law_law 1179 = .ok (.iload 6, 2) := by decide +kernel
theorem d_Law_law_1181 : decode b_Law_law 1181 = .ok (.ifCond .eq 7, 3) := by decide +kernel
theorem d_Law_law_1184 : decode b_Law_law 1184 = .ok (.lconst 1, 1) := by decide +kernel
theorem d_Law_law_1185 : decode b_Law_law 1185 = .ok (.goto 4, 3) := by decide +kernel
theorem d_Law_law_1188 : decode b_Law_law 1188 = .ok (.lconst 0, 1) := by decide +kernel
theorem d_Law_law_1189 : decode b_Law_law 1189 = .ok (.lcmp, 1) := by decide +kernel
theorem d_Law_law_1190 : decode b_Law_law 1190 = .ok (.ifCond .eq 5, 3) := by decide +kernel
theorem d_Law_law_1193 : decode b_Law_law 1193 = .ok (.iconst 0, 1) := by decide +kernel
theorem d_Law_law_1194 : decode b_Law_law 1194 = .ok (.ireturn, 1) := by decide +kernel
theorem d_Law_law_1195 : decode b_Law_law 1195 = .ok (.goto 467, 3) := by decide +kernel
theorem d_Law_law_1198 : decode b_Law_law 1198 = .ok (.aload_n 1, 1) := by decide +kernel
theorem d_Law_law_1199 : decode b_Law_law 1199 = .ok (.aload_n 0, 1) := by decide +kernel
theorem d_Law_law_1200 : decode b_Law_law 1200 = .ok (.iload 4, 2) := by decide +kernel
theorem d_Law_law_1202 : decode b_Law_law 1202 = .ok (.iconst 1, 1) := by decide +kernel
theorem d_Law_law_1203 : decode b_Law_law 1203 = .ok (.iadd, 1) := by decide +kernel
theorem d_Law_law_1204 : decode b_Law_law 1204 = .ok (.iaload, 1) := by decide +kernel
theorem d_Law_law_1205 : decode b_Law_law 1205 = .ok (.aload_n 0, 1) := by decide +kernel
theorem d_Law_law_1206 : decode b_Law_law 1206 = .ok (.iload 4, 2) := by decide +kernel
theorem d_Law_law_1208 : decode b_Law_law 1208 = .ok (.iconst 2, 1) := by decide +kernel
theorem d_Law_law_1209 : decode b_Law_law 1209 = .ok (.iadd, 1) := by decide +kernel
theorem d_Law_law_1210 : decode b_Law_law 1210 = .ok (.iaload, 1) := by decide +kernel
theorem d_Law_law_1211 : decode b_Law_law 1211 = .ok (.aload_n 0, 1) := by decide +kernel
theorem d_Law_law_1212 : decode b_Law_law 1212 = .ok (.iload 4, 2) := by decide +kernel
theorem d_Law_law_1214 : decode b_Law_law 1214 = .ok (.iconst 3, 1) := by decide +kernel
theorem d_Law_law_1215 : decode b_Law_law 1215 = .ok (.iadd, 1) := by decide +kernel
theorem d_Law_law_1216 : decode b_Law_law 1216 = .ok (.iaload, 1) := by decide +kernel
theorem d_Law_law_1217 : decode b_Law_law 1217 = .ok (.aload_n 3, 1) := by decide +kernel
theorem d_Law_law_1218 : decode b_Law_law 1218 = .ok (.invokestatic 143, 3) := by decide +kernel
theorem d_Law_law_1221 : decode b_Law_law 1221 = .ok (.istore 5, 2) := by decide +kernel
theorem d_Law_law_1223 : decode b_Law_law 1223 = .ok (.aload_n 2, 1) := by decide +kernel
theorem d_Law_law_1224 : decode b_Law_law 1224 = .ok (.aload_n 0, 1) := by decide +kernel
theorem d_Law_law_1225 : decode b_Law_law 1225 = .ok (.iload 4, 2) := by decide +kernel
theorem d_Law_law_1227 : decode b_Law_law 1227 = .ok (.iconst 1, 1) := by decide +kernel
theorem d_Law_law_1228 : decode b_Law_law 1228 = .ok (.iadd, 1) := by decide +kernel
theorem d_Law_law_1229 : decode b_Law_law 1229 = .ok (.iaload, 1) := by decide +kernel
theorem d_Law_law_1230 : decode b_Law_law 1230 = .ok (.aload_n 0, 1) := by decide +kernel
theorem d_Law_law_1231 : decode b_Law_law 1231 = .ok (.iload 4, 2) := by decide +kernel
theorem d_Law_law_1233 : decode b_Law_law 1233 = .ok (.iconst 2, 1) := by decide +kernel
theorem d_Law_law_1234 : decode b_Law_law 1234 = .ok (.iadd, 1) := by decide +kernel
theorem d_Law_law_1235 : decode b_Law_law 1235 = .ok (.iaload, 1) := by decide +kernel
theorem d_Law_law_1236 : decode b_Law_law 1236 = .ok (.aload_n 0, 1) := by decide +kernel
theorem d_Law_law_1237 : decode b_Law_law 1237 = .ok (.iload 4, 2) := by decide +kernel
theorem d_Law_law_1239 : decode b_Law_law 1239 = .ok (.iconst 3, 1) := by decide +kernel
theorem d_Law_law_1240 : decode b_Law_law 1240 = .ok (.iadd, 1) := by decide +kernel
theorem d_Law_law_1241 : decode b_Law_law 1241 = .ok (.iaload, 1) := by decide +kernel
theorem d_Law_law_1242 : decode b_Law_law 1242 = .ok (.invokevirtual 145, 3) := by decide +kernel
theorem d_Law_law_1245 : decode b_Law_law 1245 = .ok (.lstore 6, 2) := by decide +kernel
theorem d_Law_law_1247 : decode b_Law_law 1247 = .ok (.aload_n 2, 1) := by decide +kernel
theorem d_Law_law_1248 : decode b_Law_law 1248 = .ok (.invokevirtual 94, 3) := by decide +kernel
theorem d_Law_law_1251 : decode b_Law_law 1251 = .ok (.iload 5, 2) := by decide +kernel
theorem d_Law_law_1253 : decode b_Law_law 1253 = .ok (.if_icmp .eq 5, 3) := by decide +kernel
theorem d_Law_law_1256 : decode b_Law_law 1256 = .ok (.iconst 0, 1) := by decide +kernel
theorem d_Law_law_1257 : decode b_Law_law 1257 = .ok (.ireturn, 1) := by decide +kernel
theorem d_Law_law_1258 : decode b_Law_law 1258 = .ok (.iload 5, 2) := by decide +kernel
theorem d_Law_law_1260 : decode b_Law_law 1260 = .ok (.ifCond .ne 14, 3) := by decide +kernel
theorem d_Law_law_1263 : decode b_Law_law 1263 = .ok (.aload_n 3, 1) := by decide +kernel
theorem d_Law_law_1264 : decode b_Law_law 1264 = .ok (.iconst 0, 1) := by decide +kernel
theorem d_Law_law_1265 : decode b_Law_law 1265 = .ok (.laload, 1) := by decide +kernel
theorem d_Law_law_1266 : decode b_Law_law 1266 = .ok (.lload 6, 2) := by decide +kernel
theorem d_Law_law_1268 : decode b_Law_law 1268 = .ok (.lcmp, 1) := by decide +kernel
theorem d_Law_law_1269 : decode b_Law_law 1269 = .ok (.ifCond .eq 5, 3) := by decide +kernel
theorem d_Law_law_1272 : decode b_Law_law 1272 = .ok (.iconst 0, 1) := by decide +kernel
theorem d_Law_law_1273 : decode b_Law_law 1273 = .ok (.ireturn, 1) := by decide +kernel
theorem d_Law_law_1274 : decode b_Law_law 1274 = .ok (.goto 388, 3) := by decide +kernel
theorem d_Law_law_1277 : decode b_Law_law 1277 = .ok (.aload_n 1, 1) := by decide +kernel
theorem d_Law_law_1278 : decode b_Law_law 1278 = .ok (.aload_n 0, 1) := by decide +kernel
theorem d_Law_law_1279 : decode b_Law_law 1279 = .ok (.iload 4, 2) := by decide +kernel
theorem d_Law_law_1281 : decode b_Law_law 1281 = .ok (.iconst 1, 1) := by decide +kernel
theorem d_Law_law_1282 : decode b_Law_law 1282 = .ok (.iadd, 1) := by decide +kernel
theorem d_Law_law_1283 : decode b_Law_law 1283 = .ok (.iaload, 1) := by decide +kernel
theorem d_Law_law_1284 : decode b_Law_law 1284 = .ok (.aload_n 0, 1) := by decide +kernel
theorem d_Law_law_1285 : decode b_Law_law 1285 = .ok (.iload 4, 2) := by decide +kernel
theorem d_Law_law_1287 : decode b_Law_law 1287 = .ok (.iconst 2, 1) := by decide +kernel
theorem d_Law_law_1288 : decode b_Law_law 1288 = .ok (.iadd, 1) := by decide +kernel
theorem d_Law_law_1289 : decode b_Law_law 1289 = .ok (.iaload, 1) := by decide +kernel
theorem d_Law_law_1290 : decode b_Law_law 1290 = .ok (.aload_n 0, 1) := by decide +kernel
theorem d_Law_law_1291 : decode b_Law_law 1291 = .ok (.iload 4, 2) := by decide +kernel
theorem d_Law_law_1293 : decode b_Law_law 1293 = .ok (.iconst 3, 1) := by decide +kernel
theorem d_Law_law_1294 : decode b_Law_law 1294 = .ok (.iadd, 1) := by decide +kernel
theorem d_Law_law_1295 : decode b_Law_law 1295 = .ok (.iaload, 1) := by decide +kernel
theorem d_Law_law_1296 : decode b_Law_law 1296 = .ok (.aload_n 3, 1) := by decide +kernel
theorem d_Law_law_1297 : decode b_Law_law 1297 = .ok (.invokestatic 146, 3) := by decide +kernel
theorem d_Law_law_1300 : decode b_Law_law 1300 = .ok (.istore 5, 2) := by decide +kernel
theorem d_Law_law_1302 : decode b_Law_law 1302 = .ok (.aload_n 2, 1) := by decide +kernel
theorem d_Law_law_1303 : decode b_Law_law 1303 = .ok (.aload_n 0, 1) := by decide +kernel
theorem d_Law_law_1304 : decode b_Law_law 1304 = .ok (.iload 4, 2) := by decide +kernel
theorem d_Law_law_1306 : decode b_Law_law 1306 = .ok (.iconst 1, 1) := by decide +kernel
theorem d_Law_law_1307 : decode b_Law_law 1307 = .ok (.iadd, 1) := by decide +kernel
theorem d_Law_law_1308 : decode b_Law_law 1308 = .ok (.iaload, 1) := by decide +kernel
theorem d_Law_law_1309 : decode b_Law_law 1309 = .ok (.aload_n 0, 1) := by decide +kernel
theorem d_Law_law_1310 : decode b_Law_law 1310 = .ok (.iload 4, 2) := by decide +kernel
theorem d_Law_law_1312 : decode b_Law_law 1312 = .ok (.iconst 2, 1) := by decide +kernel
theorem d_Law_law_1313 : decode b_Law_law 1313 = .ok (.iadd, 1) := by decide +kernel
theorem d_Law_law_1314 : decode b_Law_law 1314 = .ok (.iaload, 1) := by decide +kernel
theorem d_Law_law_1315 : decode b_Law_law 1315 = .ok (.aload_n 0, 1) := by decide +kernel
theorem d_Law_law_1316 : decode b_Law_law 1316 = .ok (.iload 4, 2) := by decide +kernel
theorem d_Law_law_1318 : decode b_Law_law 1318 = .ok (.iconst 3, 1) := by decide +kernel
theorem d_Law_law_1319 : decode b_Law_law 1319 = .ok (.iadd, 1) := by decide +kernel
theorem d_Law_law_1320 : decode b_Law_law 1320 = .ok (.iaload, 1) := by decide +kernel
theorem d_Law_law_1321 : decode b_Law_law 1321 = .ok (.invokevirtual 148, 3) := by decide +kernel
theorem d_Law_law_1324 : decode b_Law_law 1324 = .ok (.istore 6, 2) := by decide +kernel
theorem d_Law_law_1326 : decode b_Law_law 1326 = .ok (.aload_n 2, 1) := by decide +kernel
theorem d_Law_law_1327 : decode b_Law_law 1327 = .ok (.invokevirtual 94, 3) := by decide +kernel
theorem d_Law_law_1330 : decode b_Law_law 1330 = .ok (.iload 5, 2) := by decide +kernel
theorem d_Law_law_1332 : decode b_Law_law 1332 = .ok (.if_icmp .eq 5, 3) := by decide +kernel
theorem d_Law_law_1335 : decode b_Law_law 1335 = .ok (.iconst 0, 1) := by decide +kernel
theorem d_Law_law_1336 : decode b_Law_law 1336 = .ok (.ireturn, 1) := by decide +kernel
theorem d_Law_law_1337 : decode b_Law_law 1337 = .ok (.iload 5, 2) := by decide +kernel
theorem d_Law_law_1339 : decode b_Law_law 1339 = .ok (.ifCond .ne 22, 3) := by decide +kernel
theorem d_Law_law_1342 : decode b_Law_law 1342 = .ok (.aload_n 3, 1) := by decide +kernel
theorem d_Law_law_1343 : decode b_Law_law 1343 = .ok (.iconst 0, 1) := by decide +kernel
theorem d_Law_law_1344 : decode b_Law_law 1344 = .ok (.laload, 1) := by decide +kernel
theorem d_Law_law_1345 : decode b_Law_law 1345 = .ok (.iload 6, 2) := by decide +kernel
theorem d_Law_law_1347 : decode b_Law_law 1347 = .ok (.ifCond .eq 7, 3) := by decide +kernel
theorem d_Law_law_1350 : decode b_Law_law 1350 = .ok (.lconst 1, 1) := by decide +kernel
theorem d_Law_law_1351 : decode b_Law_law 1351 = .ok (.goto 4, 3) := by decide +kernel
theorem d_Law_law_1354 : decode b_Law_law 1354 = .ok (.lconst 0, 1) := by decide +kernel
theorem d_Law_law_1355 : decode b_Law_law 1355 = .ok (.lcmp, 1) := by decide +kernel
theorem d_Law_law_1356 : decode b_Law_law 1356 = .ok (.ifCond .eq 5, 3) := by decide +kernel
theorem d_Law_law_1359 : decode b_Law_law 1359 = .ok (.iconst 0, 1) := by decide +kernel
theorem d_Law_law_1360 : decode b_Law_law 1360 = .ok (.ireturn, 1) := by decide +kernel
theorem d_Law_law_1361 : decode b_Law_law 1361 = .ok (.goto 301, 3) := by decide +kernel
theorem d_Law_law_1364 : decode b_Law_law 1364 = .ok (.aload_n 1, 1) := by decide +kernel
theorem d_Law_law_1365 : decode b_Law_law 1365 = .ok (.invokevirtual 149, 3) := by decide +kernel
theorem d_Law_law_1368 : decode b_Law_law 1368 = .ok (.aload_n 2, 1) := by decide +kernel
theorem d_Law_law_1369 : decode b_Law_law 1369 = .ok (.invokevirtual 153, 3) := by decide +kernel
theorem d_Law_law_1372 : decode b_Law_law 1372 = .ok (.if_icmp .eq 290, 3) := by decide +kernel
theorem d_Law_law_1375 : decode b_Law_law 1375 = .ok (.iconst 0, 1) := by decide +kernel
theorem d_Law_law_1376 : decode b_Law_law 1376 = .ok (.ireturn, 1) := by decide +kernel
theorem d_Law_law_1377 : decode b_Law_law 1377 = .ok (.aload_n 1, 1) := by decide +kernel
theorem d_Law_law_1378 : decode b_Law_law 1378 = .ok (.invokevirtual 154, 3) := by decide +kernel
theorem d_Law_law_1381 : decode b_Law_law 1381 = .ok (.aload_n 2, 1) := by decide +kernel
theorem d_Law_law_1382 : decode b_Law_law 1382 = .ok (.invokevirtual 157, 3) := by decide +kernel
theorem d_Law_law_1385 : decode b_Law_law 1385 = .ok (.if_icmp .eq 277, 3) := by decide +kernel
theorem d_Law_law_1388 : decode b_Law_law 1388 = .ok (.iconst 0, 1) := by decide +kernel
theorem d_Law_law_1389 : decode b_Law_law 1389 = .ok (.ireturn, 1) := by decide +kernel
theorem d_Law_law_1390 : decode b_Law_law 1390 = .ok (.aload_n 1, 1) := by decide +kernel
theorem d_Law_law_1391 : decode b_Law_law 1391 = .ok (.aload_n 0, 1) := by decide +kernel
theorem d_Law_law_1392 : decode b_Law_law 1392 = .ok (.iload 4, 2) := by decide +kernel
theorem d_Law_law_1394 : decode b_Law_law 1394 = .ok (.iconst 1, 1) := by decide +kernel
theorem d_Law_law_1395 : decode b_Law_law 1395 = .ok (.iadd, 1) := by decide +kernel
theorem d_Law_law_1396 : decode b_Law_law 1396 = .ok (.iaload, 1) := by decide +kernel
theorem d_Law_law_1397 : decode b_Law_law 1397 = .ok (.aload_n 0, 1) := by decide +kernel
theorem d_Law_law_1398 : decode b_Law_law 1398 = .ok (.iload 4, 2) := by decide +kernel
theorem d_Law_law_1400 : decode b_Law_law 1400 = .ok (.iconst 2, 1) := by decide +kernel
theorem d_Law_law_1401 : decode b_Law_law 1401 = .ok (.iadd, 1) := by decide +kernel
theorem d_Law_law_1402 : decode b_Law_law 1402 = .ok (.iaload, 1) := by decide +kernel
theorem d_Law_law_1403 : decode b_Law_law 1403 = .ok (.aload_n 3, 1) := by decide +kernel
theorem d_Law_law_1404 : decode b_Law_law 1404 = .ok (.invokestatic 158, 3) := by decide +kernel
theorem d_Law_law_1407 : decode b_Law_law 1407 = .ok (.istore 5, 2) := by decide +kernel
theorem d_Law_law_1409 : decode b_Law_law 1409 = .ok (.aload_n 2, 1) := by decide +kernel
theorem d_Law_law_1410 : decode b_Law_law 1410 = .ok (.aload_n 0, 1) := by decide +kernel
theorem d_Law_law_1411 : decode b_Law_law 1411 = .ok (.iload 4, 2) := by decide +kernel
theorem d_Law_law_1413 : decode b_Law_law 1413 = .ok (.iconst 1, 1) := by decide +kernel
theorem d_Law_law_1414 : decode b_Law_law 1414 = .ok (.iadd, 1) := by decide +kernel
theorem d_Law_law_1415 : decode b_Law_law 1415 = .ok (.iaload, 1) := by decide +kernel
theorem d_Law_law_1416 : decode b_Law_law 1416 = .ok (.aload_n 0, 1) := by decide +kernel
theorem d_Law_law_1417 : decode b_Law_law 1417 = .ok (.iload 4, 2) := by decide +kernel
theorem d_Law_law_1419 : decode b_Law_law 1419 = .ok (.iconst 2, 1) := by decide +kernel
theorem d_Law_law_1420 : decode b_Law_law 1420 = .ok (.iadd, 1) := by decide +kernel
theorem d_Law_law_1421 : decode b_Law_law 1421 = .ok (.iaload, 1) := by decide +kernel
theorem d_Law_law_1422 : decode b_Law_law 1422 = .ok (.invokevirtual 160, 3) := by decide +kernel
theorem d_Law_law_1425 : decode b_Law_law 1425 = .ok (.istore 6, 2) := by decide +kernel
theorem d_Law_law_1427 : decode b_Law_law 1427 = .ok (.aload_n 2, 1) := by decide +kernel
theorem d_Law_law_1428 : decode b_Law_law 1428 = .ok (.invokevirtual 94, 3) := by decide +kernel
theorem d_Law_law_1431 : decode b_Law_law 1431 = .ok (.iload 5, 2) := by decide +kernel
theorem d_Law_law_1433 : decode b_Law_law 1433 = .ok (.if_icmp .eq 5, 3) := by decide +kernel
theorem d_Law_law_1436 : decode b_Law_law 1436 = .ok (.iconst 0, 1) := by decide +kernel
theorem d_Law_law_1437 : decode b_Law_law 1437 = .ok (.ireturn, 1) := by decide +kernel
theorem d_Law_law_1438 : decode b_Law_law 1438 = .ok (.iload 5, 2) := by decide +kernel
theorem d_Law_law_1440 : decode b_Law_law 1440 = .ok (.ifCond .ne 15, 3) := by decide +kernel
theorem d_Law_law_1443 : decode b_Law_law 1443 = .ok (.aload_n 3, 1) := by decide +kernel
theorem d_Law_law_1444 : decode b_Law_law 1444 = .ok (.iconst 0, 1) := by decide +kernel
theorem d_Law_law_1445 : decode b_Law_law 1445 = .ok (.laload, 1) := by decide +kernel
theorem d_Law_law_1446 : decode b_Law_law 1446 = .ok (.iload 6, 2) := by decide +kernel
theorem d_Law_law_1448 : decode b_Law_law 1448 = .ok (.i2l, 1) := by decide +kernel
theorem d_Law_law_1449 : decode b_Law_law 1449 = .ok (.lcmp, 1) := by decide +kernel
theorem d_Law_law_1450 : decode b_Law_law 1450 = .ok (.ifCond .eq 5, 3) := by decide +kernel
theorem d_Law_law_1453 : decode b_Law_law 1453 = .ok (.iconst 0, 1) := by decide +kernel
theorem d_Law_law_1454 : decode b_Law_law 1454 = .ok (.ireturn, 1) := by decide +kernel
theorem d_Law_law_1455 : decode b_Law_law 1455 = .ok (.goto 207, 3) := by decide +kernel
theorem d_Law_law_1458 : decode b_Law_law 1458 = .ok (.aload_n 1, 1) := by decide +kernel
theorem d_Law_law_1459 : decode b_Law_law 1459 = .ok (.aload_n 0, 1) := by decide +kernel
theorem d_Law_law_1460 : decode b_Law_law 1460 = .ok (.iload 4, 2) := by decide +kernel
theorem d_Law_law_1462 : decode b_Law_law 1462 = .ok (.iconst 1, 1) := by decide +kernel
theorem d_Law_law_1463 : decode b_Law_law 1463 = .ok (.iadd, 1) := by decide +kernel
theorem d_Law_law_1464 : decode b_Law_law 1464 = .ok (.iaload, 1) := by decide +kernel
theorem d_Law_law_1465 : decode b_Law_law 1465 = .ok (.aload_n 3, 1) := by decide +kernel
theorem d_Law_law_1466 : decode b_Law_law 1466 = .ok (.invokestatic 161, 3) := by decide +kernel
theorem d_Law_law_1469 : decode b_Law_law 1469 = .ok (.istore 5, 2) := by decide +kernel
theorem d_Law_law_1471 : decode b_Law_law 1471 = .ok (.aload_n 2, 1) := by decide +kernel
theorem d_Law_law_1472 : decode b_Law_law 1472 = .ok (.aload_n 0, 1) := by decide +kernel
theorem d_Law_law_1473 : decode b_Law_law 1473 = .ok (.iload 4, 2) := by decide +kernel
theorem d_Law_law_1475 : decode b_Law_law 1475 = .ok (.iconst 1, 1) := by decide +kernel
theorem d_Law_law_1476 : decode b_Law_law 1476 = .ok (.iadd, 1) := by decide +kernel
theorem d_Law_law_1477 : decode b_Law_law 1477 = .ok (.iaload, 1) := by decide +kernel
theorem d_Law_law_1478 : decode b_Law_law 1478 = .ok (.invokevirtual 163, 3) := by decide +kernel
theorem d_Law_law_1481 : decode b_Law_law 1481 = .ok (.istore 6, 2) := by decide +kernel
theorem d_Law_law_1483 : decode b_Law_law 1483 = .ok (.aload_n 2, 1) := by decide +kernel
theorem d_Law_law_1484 : decode b_Law_law 1484 = .ok (.invokevirtual 94, 3) := by decide +kernel
theorem d_Law_law_1487 : decode b_Law_law 1487 = .ok (.iload 5, 2) := by decide +kernel
theorem d_Law_law_1489 : decode b_Law_law 1489 = .ok (.if_icmp .eq 5, 3) := by decide +kernel
theorem d_Law_law_1492 : decode b_Law_law 1492 = .ok (.iconst 0, 1) := by decide +kernel
theorem d_Law_law_1493 : decode b_Law_law 1493 = .ok (.ireturn, 1) := by decide +kernel
theorem d_Law_law_1494 : decode b_Law_law 1494 = .ok (.iload 5, 2) := by decide +kernel
theorem d_Law_law_1496 : decode b_Law_law 1496 = .ok (.ifCond .ne 15, 3) := by decide +kernel
theorem d_Law_law_1499 : decode b_Law_law 1499 = .ok (.aload_n 3, 1) := by decide +kernel
theorem d_Law_law_1500 : decode b_Law_law 1500 = .ok (.iconst 0, 1) := by decide +kernel
theorem d_Law_law_1501 : decode b_Law_law 1501 = .ok (.laload, 1) := by decide +kernel
theorem d_Law_law_1502 : decode b_Law_law 1502 = .ok (.iload 6, 2) := by decide +kernel
theorem d_Law_law_1504 : decode b_Law_law 1504 = .ok (.i2l, 1) := by decide +kernel
theorem d_Law_law_1505 : decode b_Law_law 1505 = .ok (.lcmp, 1) := by decide +kernel
theorem d_Law_law_1506 : decode b_Law_law 1506 = .ok (.ifCond .eq 5, 3) := by decide +kernel
theorem d_Law_law_1509 : decode b_Law_law 1509 = .ok (.iconst 0, 1) := by decide +kernel
theorem d_Law_law_1510 : decode b_Law_law 1510 = .ok (.ireturn, 1) := by decide +kernel
theorem d_Law_law_1511 : decode b_Law_law 1511 = .ok (.goto 151, 3) := by decide +kernel
theorem d_Law_law_1514 : decode b_Law_law 1514 = .ok (.aload_n 1, 1) := by decide +kernel
theorem d_Law_law_1515 : decode b_Law_law 1515 = .ok (.aload_n 0, 1) := by decide +kernel
theorem d_Law_law_1516 : decode b_Law_law 1516 = .ok (.iload 4, 2) := by decide +kernel
theorem d_Law_law_1518 : decode b_Law_law 1518 = .ok (.iconst 1, 1) := by decide +kernel
theorem d_Law_law_1519 : decode b_Law_law 1519 = .ok (.iadd, 1) := by decide +kernel
theorem d_Law_law_1520 : decode b_Law_law 1520 = .ok (.iaload, 1) := by decide +kernel
theorem d_Law_law_1521 : decode b_Law_law 1521 = .ok (.aload_n 0, 1) := by decide +kernel
theorem d_Law_law_1522 : decode b_Law_law 1522 = .ok (.iload 4, 2) := by decide +kernel
theorem d_Law_law_1524 : decode b_Law_law 1524 = .ok (.iconst 2, 1) := by decide +kernel
theorem d_Law_law_1525 : decode b_Law_law 1525 = .ok (.iadd, 1) := by decide +kernel
theorem d_Law_law_1526 : decode b_Law_law 1526 = .ok (.iaload, 1) := by decide +kernel
theorem d_Law_law_1527 : decode b_Law_law 1527 = .ok (.aload_n 0, 1) := by decide +kernel
theorem d_Law_law_1528 : decode b_Law_law 1528 = .ok (.iload 4, 2) := by decide +kernel
theorem d_Law_law_1530 : decode b_Law_law 1530 = .ok (.iconst 3, 1) := by decide +kernel
theorem d_Law_law_1531 : decode b_Law_law 1531 = .ok (.iadd, 1) := by decide +kernel
theorem d_Law_law_1532 : decode b_Law_law 1532 = .ok (.iaload, 1) := by decide +kernel
theorem d_Law_law_1533 : decode b_Law_law 1533 = .ok (.aload_n 3, 1) := by decide +kernel
theorem d_Law_law_1534 : decode b_Law_law 1534 = .ok (.invokestatic 164, 3) := by decide +kernel
theorem d_Law_law_1537 : decode b_Law_law 1537 = .ok (.istore 5, 2) := by decide +kernel
theorem d_Law_law_1539 : decode b_Law_law 1539 = .ok (.aload_n 2, 1) := by decide +kernel
theorem d_Law_law_1540 : decode b_Law_law 1540 = .ok (.aload_n 0, 1) := by decide +kernel
theorem d_Law_law_1541 : decode b_Law_law 1541 = .ok (.iload 4, 2) := by decide +kernel
theorem d_Law_law_1543 : decode b_Law_law 1543 = .ok (.iconst 1, 1) := by decide +kernel
theorem d_Law_law_1544 : decode b_Law_law 1544 = .ok (.iadd, 1) := by decide +kernel
theorem d_Law_law_1545 : decode b_Law_law 1545 = .ok (.iaload, 1) := by decide +kernel
theorem d_Law_law_1546 : decode b_Law_law 1546 = .ok (.aload_n 0, 1) := by decide +kernel
theorem d_Law_law_1547 : decode b_Law_law 1547 = .ok (.iload 4, 2) := by decide +kernel
theorem d_Law_law_1549 : decode b_Law_law 1549 = .ok (.iconst 2, 1) := by decide +kernel
theorem d_Law_law_1550 : decode b_Law_law 1550 = .ok (.iadd, 1) := by decide +kernel
theorem d_Law_law_1551 : decode b_Law_law 1551 = .ok (.iaload, 1) := by decide +kernel
theorem d_Law_law_1552 : decode b_Law_law 1552 = .ok (.aload_n 0, 1) := by decide +kernel
theorem d_Law_law_1553 : decode b_Law_law 1553 = .ok (.iload 4, 2) := by decide +kernel
theorem d_Law_law_1555 : decode b_Law_law 1555 = .ok (.iconst 3, 1) := by decide +kernel
theorem d_Law_law_1556 : decode b_Law_law 1556 = .ok (.iadd, 1) := by decide +kernel
theorem d_Law_law_1557 : decode b_Law_law 1557 = .ok (.iaload, 1) := by decide +kernel
theorem d_Law_law_1558 : decode b_Law_law 1558 = .ok (.invokevirtual 166, 3) := by decide +kernel
theorem d_Law_law_1561 : decode b_Law_law 1561 = .ok (.istore 6, 2) := by decide +kernel
theorem d_Law_law_1563 : decode b_Law_law 1563 = .ok (.aload_n 2, 1) := by decide +kernel
theorem d_Law_law_1564 : decode b_Law_law 1564 = .ok (.invokevirtual 94, 3) := by decide +kernel
theorem d_Law_law_1567 : decode b_Law_law 1567 = .ok (.iload 5, 2) := by decide +kernel
theorem d_Law_law_1569 : decode b_Law_law 1569 = .ok (.if_icmp .eq 5, 3) := by decide +kernel
theorem d_Law_law_1572 : decode b_Law_law 1572 = .ok (.iconst 0, 1) := by decide +kernel
theorem d_Law_law_1573 : decode b_Law_law 1573 = .ok (.ireturn, 1) := by decide +kernel
theorem d_Law_law_1574 : decode b_Law_law 1574 = .ok (.iload 5, 2) := by decide +kernel
theorem d_Law_law_1576 : decode b_Law_law 1576 = .ok (.ifCond .ne 15, 3) := by decide +kernel
theorem d_Law_law_1579 : decode b_Law_law 1579 = .ok (.aload_n 3, 1) := by decide +kernel
theorem d_Law_law_1580 : decode b_Law_law 1580 = .ok (.iconst 0, 1) := by decide +kernel
theorem d_Law_law_1581 : decode b_Law_law 1581 = .ok (.laload, 1) := by decide +kernel
theorem d_Law_law_1582 : decode b_Law_law 1582 = .ok (.iload 6, 2) := by decide +kernel
theorem d_Law_law_1584 : decode b_Law_law 1584 = .ok (.i2l, 1) := by decide +kernel
theorem d_Law_law_1585 : decode b_Law_law 1585 = .ok (.lcmp, 1) := by decide +kernel
theorem d_Law_law_1586 : decode b_Law_law 1586 = .ok (.ifCond .eq 5, 3) := by decide +kernel
theorem d_Law_law_1589 : decode b_Law_law 1589 = .ok (.iconst 0, 1) := by decide +kernel
theorem d_Law_law_1590 : decode b_Law_law 1590 = .ok (.ireturn, 1) := by decide +kernel
theorem d_Law_law_1591 : decode b_Law_law 1591 = .ok (.goto 71, 3) := by decide +kernel
theorem d_Law_law_1594 : decode b_Law_law 1594 = .ok (.aload_n 1, 1) := by decide +kernel
theorem d_Law_law_1595 : decode b_Law_law 1595 = .ok (.aload_n 0, 1) := by decide +kernel
theorem d_Law_law_1596 : decode b_Law_law 1596 = .ok (.iload 4, 2) := by decide +kernel
theorem d_Law_law_1598 : decode b_Law_law 1598 = .ok (.iconst 1, 1) := by decide +kernel
theorem d_Law_law_1599 : decode b_Law_law 1599 = .ok (.iadd, 1) := by decide +kernel
theorem d_Law_law_1600 : decode b_Law_law 1600 = .ok (.iaload, 1) := by decide +kernel
theorem d_Law_law_1601 : decode b_Law_law 1601 = .ok (.aload_n 0, 1) := by decide +kernel
theorem d_Law_law_1602 : decode b_Law_law 1602 = .ok (.iload 4, 2) := by decide +kernel
theorem d_Law_law_1604 : decode b_Law_law 1604 = .ok (.iconst 2, 1) := by decide +kernel
theorem d_Law_law_1605 : decode b_Law_law 1605 = .ok (.iadd, 1) := by decide +kernel
theorem d_Law_law_1606 : decode b_Law_law 1606 = .ok (.iaload, 1) := by decide +kernel
theorem d_Law_law_1607 : decode b_Law_law 1607 = .ok (.aload_n 3, 1) := by decide +kernel
theorem d_Law_law_1608 : decode b_Law_law 1608 = .ok (.invokestatic 167, 3) := by decide +kernel
theorem d_Law_law_1611 : decode b_Law_law 1611 = .ok (.istore 5, 2) := by decide +kernel
theorem d_Law_law_1613 : decode b_Law_law 1613 = .ok (.aload_n 2, 1) := by decide +kernel
theorem d_Law_law_1614 : decode b_Law_law 1614 = .ok (.aload_n 0, 1) := by decide +kernel
theorem d_Law_law_1615 : decode b_Law_law 1615 = .ok (.iload 4, 2) := by decide +kernel
theorem d_Law_law_1617 : decode b_Law_law 1617 = .ok (.iconst 1, 1) := by decide +kernel
theorem d_Law_law_1618 : decode b_Law_law 1618 = .ok (.iadd, 1) := by decide +kernel
theorem d_Law_law_1619 : decode b_Law_law 1619 = .ok (.iaload, 1) := by decide +kernel
theorem d_Law_law_1620 : decode b_Law_law 1620 = .ok (.aload_n 0, 1) := by decide +kernel
theorem d_Law_law_1621 : decode b_Law_law 1621 = .ok (.iload 4, 2) := by decide +kernel
theorem d_Law_law_1623 : decode b_Law_law 1623 = .ok (.iconst 2, 1) := by decide +kernel
theorem d_Law_law_1624 : decode b_Law_law 1624 = .ok (.iadd, 1) := by decide +kernel
theorem d_Law_law_1625 : decode b_Law_law 1625 = .ok (.iaload, 1) := by decide +kernel
theorem d_Law_law_1626 : decode b_Law_law 1626 = .ok (.invokevirtual 169, 3) := by decide +kernel
theorem d_Law_law_1629 : decode b_Law_law 1629 = .ok (.istore 6, 2) := by decide +kernel
theorem d_Law_law_1631 : decode b_Law_law 1631 = .ok (.aload_n 2, 1) := by decide +kernel
theorem d_Law_law_1632 : decode b_Law_law 1632 = .ok (.invokevirtual 94, 3) := by decide +kernel
theorem d_Law_law_1635 : decode b_Law_law 1635 = .ok (.iload 5, 2) := by decide +kernel
theorem d_Law_law_1637 : decode b_Law_law 1637 = .ok (.if_icmp .eq 5, 3) := by decide +kernel
theorem d_Law_law_1640 : decode b_Law_law 1640 = .ok (.iconst 0, 1) := by decide +kernel
theorem d_Law_law_1641 : decode b_Law_law 1641 = .ok (.ireturn, 1) := by decide +kernel
theorem d_Law_law_1642 : decode b_Law_law 1642 = .ok (.iload 5, 2) := by decide +kernel
theorem d_Law_law_1644 : decode b_Law_law 1644 = .ok (.ifCond .ne 15, 3) := by decide +kernel
theorem d_Law_law_1647 : decode b_Law_law 1647 = .ok (.aload_n 3, 1) := by decide +kernel
theorem d_Law_law_1648 : decode b_Law_law 1648 = .ok (.iconst 0, 1) := by decide +kernel
theorem d_Law_law_1649 : decode b_Law_law 1649 = .ok (.laload, 1) := by decide +kernel
theorem d_Law_law_1650 : decode b_Law_law 1650 = .ok (.iload 6, 2) := by decide +kernel
theorem d_Law_law_1652 : decode b_Law_law 1652 = .ok (.i2l, 1) := by decide +kernel
theorem d_Law_law_1653 : decode b_Law_law 1653 = .ok (.lcmp, 1) := by decide +kernel
theorem d_Law_law_1654 : decode b_Law_law 1654 = .ok (.ifCond .eq 5, 3) := by decide +kernel
theorem d_Law_law_1657 : decode b_Law_law 1657 = .ok (.iconst 0, 1) := by decide +kernel
theorem d_Law_law_1658 : decode b_Law_law 1658 = .ok (.ireturn, 1) := by decide +kernel
theorem d_Law_law_1659 : decode b_Law_law 1659 = .ok (.goto 3, 3) := by decide +kernel
theorem d_Law_law_1662 : decode b_Law_law 1662 = .ok (.iinc 4 6, 3) := by decide +kernel
theorem d_Law_law_1665 : decode b_Law_law 1665 = .ok (.goto (-1642), 3) := by decide +kernel
theorem d_Law_law_1668 : decode b_Law_law 1668 = .ok (.iconst 1, 1) := by decide +kernel
theorem d_Law_law_1669 : decode b_Law_law 1669 = .ok (.ireturn, 1) := by decide +kernel
