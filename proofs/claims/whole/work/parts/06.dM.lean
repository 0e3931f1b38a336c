theorem d_Mo_init_0 : decode b_Mo_init 0 = .ok (.aload_n 0, 1) := by decide +kernel
theorem d_Mo_init_1 : decode b_Mo_init 1 = .ok (.invokespecial 1, 3) := by decide +kernel
theorem d_Mo_init_4 : decode b_Mo_init 4 = .ok (.aload_n 0, 1) := by decide +kernel
theorem d_Mo_init_5 : decode b_Mo_init 5 = .ok (.sipush 3842, 3) := by decide +kernel
theorem d_Mo_init_8 : decode b_Mo_init 8 = .ok (.newarray .long, 2) := by decide +kernel
theorem d_Mo_init_10 : decode b_Mo_init 10 = .ok (.putfield 7, 3) := by decide +kernel
theorem d_Mo_init_13 : decode b_Mo_init 13 = .ok (.aload_n 0, 1) := by decide +kernel
theorem d_Mo_init_14 : decode b_Mo_init 14 = .ok (.sipush 3842, 3) := by decide +kernel
theorem d_Mo_init_17 : decode b_Mo_init 17 = .ok (.newarray .long, 2) := by decide +kernel
theorem d_Mo_init_19 : decode b_Mo_init 19 = .ok (.putfield 13, 3) := by decide +kernel
theorem d_Mo_init_22 : decode b_Mo_init 22 = .ok (.aload_n 0, 1) := by decide +kernel
theorem d_Mo_init_23 : decode b_Mo_init 23 = .ok (.ldc 16, 2) := by decide +kernel
theorem d_Mo_init_25 : decode b_Mo_init 25 = .ok (.newarray .long, 2) := by decide +kernel
theorem d_Mo_init_27 : decode b_Mo_init 27 = .ok (.putfield 17, 3) := by decide +kernel
theorem d_Mo_init_30 : decode b_Mo_init 30 = .ok (.aload_n 0, 1) := by decide +kernel
theorem d_Mo_init_31 : decode b_Mo_init 31 = .ok (.sipush 301, 3) := by decide +kernel
theorem d_Mo_init_34 : decode b_Mo_init 34 = .ok (.newarray .int, 2) := by decide +kernel
theorem d_Mo_init_36 : decode b_Mo_init 36 = .ok (.putfield 20, 3) := by decide +kernel
theorem d_Mo_init_39 : decode b_Mo_init 39 = .ok (.aload_n 0, 1) := by decide +kernel
theorem d_Mo_init_40 : decode b_Mo_init 40 = .ok (.sipush 301, 3) := by decide +kernel
theorem d_Mo_init_43 : decode b_Mo_init 43 = .ok (.newarray .int, 2) := by decide +kernel
theorem d_Mo_init_45 : decode b_Mo_init 45 = .ok (.putfield 24, 3) := by decide +kernel
theorem d_Mo_init_48 : decode b_Mo_init 48 = .ok (.aload_n 0, 1) := by decide +kernel
theorem d_Mo_init_49 : decode b_Mo_init 49 = .ok (.sipush 301, 3) := by decide +kernel
theorem d_Mo_init_52 : decode b_Mo_init 52 = .ok (.newarray .int, 2) := by decide +kernel
theorem d_Mo_init_54 : decode b_Mo_init 54 = .ok (.putfield 27, 3) := by decide +kernel
theorem d_Mo_init_57 : decode b_Mo_init 57 = .ok (.aload_n 0, 1) := by decide +kernel
theorem d_Mo_init_58 : decode b_Mo_init 58 = .ok (.sipush 301, 3) := by decide +kernel
theorem d_Mo_init_61 : decode b_Mo_init 61 = .ok (.newarray .int, 2) := by decide +kernel
theorem d_Mo_init_63 : decode b_Mo_init 63 = .ok (.putfield 30, 3) := by decide +kernel
theorem d_Mo_init_66 : decode b_Mo_init 66 = .ok (.aload_n 0, 1) := by decide +kernel
theorem d_Mo_init_67 : decode b_Mo_init 67 = .ok (.bipush 24, 2) := by decide +kernel
theorem d_Mo_init_69 : decode b_Mo_init 69 = .ok (.newarray .int, 2) := by decide +kernel
theorem d_Mo_init_71 : decode b_Mo_init 71 = .ok (.putfield 33, 3) := by decide +kernel
theorem d_Mo_init_74 : decode b_Mo_init 74 = .ok (.aload_n 0, 1) := by decide +kernel
theorem d_Mo_init_75 : decode b_Mo_init 75 = .ok (.bipush 64, 2) := by decide +kernel
theorem d_Mo_init_77 : decode b_Mo_init 77 = .ok (.newarray .int, 2) := by decide +kernel
theorem d_Mo_init_79 : decode b_Mo_init 79 = .ok (.putfield 36, 3) := by decide +kernel
theorem d_Mo_init_82 : decode b_Mo_init 82 = .ok (.aload_n 0, 1) := by decide +kernel
theorem d_Mo_init_83 : decode b_Mo_init 83 = .ok (.bipush 64, 2) := by decide +kernel
theorem d_Mo_init_85 : decode b_Mo_init 85 = .ok (.newarray .long, 2) := by decide +kernel
theorem d_Mo_init_87 : decode b_Mo_init 87 = .ok (.putfield 39, 3) := by decide +kernel
theorem d_Mo_init_90 : decode b_Mo_init 90 = .ok (.aload_n 0, 1) := by decide +kernel
theorem d_Mo_init_91 : decode b_Mo_init 91 = .ok (.bipush 30, 2) := by decide +kernel
theorem d_Mo_init_93 : decode b_Mo_init 93 = .ok (.newarray .int, 2) := by decide +kernel
theorem d_Mo_init_95 : decode b_Mo_init 95 = .ok (.putfield 42, 3) := by decide +kernel
theorem d_Mo_init_98 : decode b_Mo_init 98 = .ok (.aload_n 0, 1) := by decide +kernel
theorem d_Mo_init_99 : decode b_Mo_init 99 = .ok (.getfield 7, 3) := by decide +kernel
theorem d_Mo_init_102 : decode b_Mo_init 102 = .ok (.iconst 0, 1) := by decide +kernel
theorem d_Mo_init_103 : decode b_Mo_init 103 = .ok (.lconst 1, 1) := by decide +kernel
theorem d_Mo_init_104 : decode b_Mo_init 104 = .ok (.lastore, 1) := by decide +kernel
theorem d_Mo_init_105 : decode b_Mo_init 105 = .ok (.return_, 1) := by decide +kernel
theorem d_Mo_thrown_0 : decode b_Mo_thrown 0 = .ok (.aload_n 0, 1) := by decide +kernel
theorem d_Mo_thrown_1 : decode b_Mo_thrown 1 = .ok (.getfield 45, 3) := by decide +kernel
theorem d_Mo_thrown_4 : decode b_Mo_thrown 4 = .ok (.ireturn, 1) := by decide +kernel
theorem d_Mo_count_0 : decode b_Mo_count 0 = .ok (.aload_n 0, 1) := by decide +kernel
theorem d_Mo_count_1 : decode b_Mo_count 1 = .ok (.getfield 7, 3) := by decide +kernel
theorem d_Mo_count_4 : decode b_Mo_count 4 = .ok (.iload_n 1, 1) := by decide +kernel
theorem d_Mo_count_5 : decode b_Mo_count 5 = .ok (.laload, 1) := by decide +kernel
theorem d_Mo_count_6 : decode b_Mo_count 6 = .ok (.l2i, 1) := by decide +kernel
theorem d_Mo_count_7 : decode b_Mo_count 7 = .ok (.ireturn, 1) := by decide +kernel
theorem d_Mo_begin_0 : decode b_Mo_begin 0 = .ok (.iconst 0, 1) := by decide +kernel
theorem d_Mo_begin_1 : decode b_Mo_begin 1 = .ok (.istore_n 1, 1) := by decide +kernel
theorem d_Mo_begin_2 : decode b_Mo_begin 2 = .ok (.iload_n 1, 1) := by decide +kernel
theorem d_Mo_begin_3 : decode b_Mo_begin 3 = .ok (.sipush 3842, 3) := by decide +kernel
theorem d_Mo_begin_6 : decode b_Mo_begin 6 = .ok (.if_icmp .ge 21, 3) := by decide +kernel
theorem d_Mo_begin_9 : decode b_Mo_begin 9 = .ok (.aload_n 0, 1) := by decide +kernel
theorem d_Mo_begin_10 : decode b_Mo_begin 10 = .ok (.getfield 13, 3) := by decide +kernel
theorem d_Mo_begin_13 : decode b_Mo_begin 13 = .ok (.iload_n 1, 1) := by decide +kernel
theorem d_Mo_begin_14 : decode b_Mo_begin 14 = .ok (.aload_n 0, 1) := by decide +kernel
theorem d_Mo_begin_15 : decode b_Mo_begin 15 = .ok (.getfield 7, 3) := by decide +kernel
theorem d_Mo_begin_18 : decode b_Mo_begin 18 = .ok (.iload_n 1, 1) := by decide +kernel
theorem d_Mo_begin_19 : decode b_Mo_begin 19 = .ok (.laload, 1) := by decide +kernel
theorem d_Mo_begin_20 : decode b_Mo_begin 20 = .ok (.lastore, 1) := by decide +kernel
theorem d_Mo_begin_21 : decode b_Mo_begin 21 = .ok (.iinc 1 1, 3) := by decide +kernel
theorem d_Mo_begin_24 : decode b_Mo_begin 24 = .ok (.goto (-22), 3) := by decide +kernel
theorem d_Mo_begin_27 : decode b_Mo_begin 27 = .ok (.return_, 1) := by decide +kernel
theorem d_Mo_giveBack_0 : decode b_Mo_giveBack 0 = .ok (.iconst 0, 1) := by decide +kernel
theorem d_Mo_giveBack_1 : decode b_Mo_giveBack 1 = .ok (.istore_n 1, 1) := by decide +kernel
theorem d_Mo_giveBack_2 : decode b_Mo_giveBack 2 = .ok (.iload_n 1, 1) := by decide +kernel
theorem d_Mo_giveBack_3 : decode b_Mo_giveBack 3 = .ok (.sipush 3842, 3) := by decide +kernel
theorem d_Mo_giveBack_6 : decode b_Mo_giveBack 6 = .ok (.if_icmp .ge 21, 3) := by decide +kernel
theorem d_Mo_giveBack_9 : decode b_Mo_giveBack 9 = .ok (.aload_n 0, 1) := by decide +kernel
theorem d_Mo_giveBack_10 : decode b_Mo_giveBack 10 = .ok (.getfield 7, 3) := by decide +kernel
theorem d_Mo_giveBack_13 : decode b_Mo_giveBack 13 = .ok (.iload_n 1, 1) := by decide +kernel
theorem d_Mo_giveBack_14 : decode b_Mo_giveBack 14 = .ok (.aload_n 0, 1) := by decide +kernel
theorem d_Mo_giveBack_15 : decode b_Mo_giveBack 15 = .ok (.getfield 13, 3) := by decide +kernel
theorem d_Mo_giveBack_18 : decode b_Mo_giveBack 18 = .ok (.iload_n 1, 1) := by decide +kernel
theorem d_Mo_giveBack_19 : decode b_Mo_giveBack 19 = .ok (.laload, 1) := by decide +kernel
theorem d_Mo_giveBack_20 : decode b_Mo_giveBack 20 = .ok (.lastore, 1) := by decide +kernel
theorem d_Mo_giveBack_21 : decode b_Mo_giveBack 21 = .ok (.iinc 1 1, 3) := by decide +kernel
theorem d_Mo_giveBack_24 : decode b_Mo_giveBack 24 = .ok (.goto (-22), 3) := by decide +kernel
theorem d_Mo_giveBack_27 : decode b_Mo_giveBack 27 = .ok (.aload_n 0, 1) := by decide +kernel
theorem d_Mo_giveBack_28 : decode b_Mo_giveBack 28 = .ok (.iconst 0, 1) := by decide +kernel
theorem d_Mo_giveBack_29 : decode b_Mo_giveBack 29 = .ok (.putfield 49, 3) := by decide +kernel
theorem d_Mo_giveBack_32 : decode b_Mo_giveBack 32 = .ok (.return_, 1) := by decide +kernel
theorem d_Mo_done_0 : decode b_Mo_done 0 = .ok (.aload_n 0, 1) := by decide +kernel
theorem d_Mo_done_1 : decode b_Mo_done 1 = .ok (.getfield 53, 3) := by decide +kernel
theorem d_Mo_done_4 : decode b_Mo_done 4 = .ok (.aload_n 0, 1) := by decide +kernel
theorem d_Mo_done_5 : decode b_Mo_done 5 = .ok (.getfield 56, 3) := by decide +kernel
theorem d_Mo_done_8 : decode b_Mo_done 8 = .ok (.iadd, 1) := by decide +kernel
theorem d_Mo_done_9 : decode b_Mo_done 9 = .ok (.bipush 50, 2) := by decide +kernel
theorem d_Mo_done_11 : decode b_Mo_done 11 = .ok (.irem, 1) := by decide +kernel
theorem d_Mo_done_12 : decode b_Mo_done 12 = .ok (.istore_n 1, 1) := by decide +kernel
theorem d_Mo_done_13 : decode b_Mo_done 13 = .ok (.iconst 0, 1) := by decide +kernel
theorem d_Mo_done_14 : decode b_Mo_done 14 = .ok (.istore_n 2, 1) := by decide +kernel
theorem d_Mo_done_15 : decode b_Mo_done 15 = .ok (.iload_n 2, 1) := by decide +kernel
theorem d_Mo_done_16 : decode b_Mo_done 16 = .ok (.sipush 3842, 3) := by decide +kernel
theorem d_Mo_done_19 : decode b_Mo_done 19 = .ok (.if_icmp .ge 27, 3) := by decide +kernel
theorem d_Mo_done_22 : decode b_Mo_done 22 = .ok (.aload_n 0, 1) := by decide +kernel
theorem d_Mo_done_23 : decode b_Mo_done 23 = .ok (.getfield 17, 3) := by decide +kernel
theorem d_Mo_done_26 : decode b_Mo_done 26 = .ok (.sipush 3842, 3) := by decide +kernel
theorem d_Mo_done_29 : decode b_Mo_done 29 = .ok (.iload_n 1, 1) := by decide +kernel
theorem d_Mo_done_30 : decode b_Mo_done 30 = .ok (.imul, 1) := by decide +kernel
theorem d_Mo_done_31 : decode b_Mo_done 31 = .ok (.iload_n 2, 1) := by decide +kernel
theorem d_Mo_done_32 : decode b_Mo_done 32 = .ok (.iadd, 1) := by decide +kernel
theorem d_Mo_done_33 : decode b_Mo_done 33 = .ok (.aload_n 0, 1) := by decide +kernel
theorem d_Mo_done_34 : decode b_Mo_done 34 = .ok (.getfield 13, 3) := by decide +kernel
theorem d_Mo_done_37 : decode b_Mo_done 37 = .ok (.iload_n 2, 1) := by decide +kernel
theorem d_Mo_done_38 : decode b_Mo_done 38 = .ok (.laload, 1) := by decide +kernel
theorem d_Mo_done_39 : decode b_Mo_done 39 = .ok (.lastore, 1) := by decide +kernel
theorem d_Mo_done_40 : decode b_Mo_done 40 = .ok (.iinc 2 1, 3) := by decide +kernel
theorem d_Mo_done_43 : decode b_Mo_done 43 = .ok (.goto (-28), 3) := by decide +kernel
theorem d_Mo_done_46 : decode b_Mo_done 46 = .ok (.aload_n 0, 1) := by decide +kernel
theorem d_Mo_done_47 : decode b_Mo_done 47 = .ok (.getfield 56, 3) := by decide +kernel
theorem d_Mo_done_50 : decode b_Mo_done 50 = .ok (.bipush 50, 2) := by decide +kernel
theorem d_Mo_done_52 : decode b_Mo_done 52 = .ok (.if_icmp .ne 19, 3) := by decide +kernel
theorem d_Mo_done_55 : decode b_Mo_done 55 = .ok (.aload_n 0, 1) := by decide +kernel
theorem d_Mo_done_56 : decode b_Mo_done 56 = .ok (.aload_n 0, 1) := by decide +kernel
theorem d_Mo_done_57 : decode b_Mo_done 57 = .ok (.getfield 53, 3) := by decide +kernel
theorem d_Mo_done_60 : decode b_Mo_done 60 = .ok (.iconst 1, 1) := by decide +kernel
theorem d_Mo_done_61 : decode b_Mo_done 61 = .ok (.iadd, 1) := by decide +kernel
theorem d_Mo_done_62 : decode b_Mo_done 62 = .ok (.bipush 50, 2) := by decide +kernel
theorem d_Mo_done_64 : decode b_Mo_done 64 = .ok (.irem, 1) := by decide +kernel
theorem d_Mo_done_65 : decode b_Mo_done 65 = .ok (.putfield 53, 3) := by decide +kernel
theorem d_Mo_done_68 : decode b_Mo_done 68 = .ok (.goto 13, 3) := by decide +kernel
theorem d_Mo_done_71 : decode b_Mo_done 71 = .ok (.aload_n 0, 1) := by decide +kernel
theorem d_Mo_done_72 : decode b_Mo_done 72 = .ok (.dup, 1) := by decide +kernel
theorem d_Mo_done_73 : decode b_Mo_done 73 = .ok (.getfield 56, 3) := by decide +kernel
theorem d_Mo_done_76 : decode b_Mo_done 76 = .ok (.iconst 1, 1) := by decide +kernel
theorem d_Mo_done_77 : decode b_Mo_done 77 = .ok (.iadd, 1) := by decide +kernel
theorem d_Mo_done_78 : decode b_Mo_done 78 = .ok (.putfield 56, 3) := by decide +kernel
theorem d_Mo_done_81 : decode b_Mo_done 81 = .ok (.aload_n 0, 1) := by decide +kernel
theorem d_Mo_done_82 : decode b_Mo_done 82 = .ok (.iconst 0, 1) := by decide +kernel
theorem d_Mo_done_83 : decode b_Mo_done 83 = .ok (.putfield 49, 3) := by decide +kernel
theorem d_Mo_done_86 : decode b_Mo_done 86 = .ok (.return_, 1) := by decide +kernel
theorem d_Mo_undo_0 : decode b_Mo_undo 0 = .ok (.aload_n 0, 1) := by decide +kernel
theorem d_Mo_undo_1 : decode b_Mo_undo 1 = .ok (.iconst 0, 1) := by decide +kernel
theorem d_Mo_undo_2 : decode b_Mo_undo 2 = .ok (.putfield 45, 3) := by decide +kernel
theorem d_Mo_undo_5 : decode b_Mo_undo 5 = .ok (.aload_n 0, 1) := by decide +kernel
theorem d_Mo_undo_6 : decode b_Mo_undo 6 = .ok (.getfield 56, 3) := by decide +kernel
theorem d_Mo_undo_9 : decode b_Mo_undo 9 = .ok (.ifCond .ne 5, 3) := by decide +kernel
theorem d_Mo_undo_12 : decode b_Mo_undo 12 = .ok (.iconst 0, 1) := by decide +kernel
theorem d_Mo_undo_13 : decode b_Mo_undo 13 = .ok (.ireturn, 1) := by decide +kernel
theorem d_Mo_undo_14 : decode b_Mo_undo 14 = .ok (.aload_n 0, 1) := by decide +kernel
theorem d_Mo_undo_15 : decode b_Mo_undo 15 = .ok (.dup, 1) := by decide +kernel
theorem d_Mo_undo_16 : decode b_Mo_undo 16 = .ok (.getfield 56, 3) := by decide +kernel
theorem d_Mo_undo_19 : decode b_Mo_undo 19 = .ok (.iconst 1, 1) := by decide +kernel
theorem d_Mo_undo_20 : decode b_Mo_undo 20 = .ok (.isub, 1) := by decide +kernel
theorem d_Mo_undo_21 : decode b_Mo_undo 21 = .ok (.putfield 56, 3) := by decide +kernel
theorem d_Mo_undo_24 : decode b_Mo_undo 24 = .ok (.aload_n 0, 1) := by decide +kernel
theorem d_Mo_undo_25 : decode b_Mo_undo 25 = .ok (.getfield 53, 3) := by decide +kernel
theorem d_Mo_undo_28 : decode b_Mo_undo 28 = .ok (.aload_n 0, 1) := by decide +kernel
theorem d_Mo_undo_29 : decode b_Mo_undo 29 = .ok (.getfield 56, 3) := by decide +kernel
theorem d_Mo_undo_32 : decode b_Mo_undo 32 = .ok (.iadd, 1) := by decide +kernel
theorem d_Mo_undo_33 : decode b_Mo_undo 33 = .ok (.bipush 50, 2) := by decide +kernel
theorem d_Mo_undo_35 : decode b_Mo_undo 35 = .ok (.irem, 1) := by decide +kernel
theorem d_Mo_undo_36 : decode b_Mo_undo 36 = .ok (.istore_n 1, 1) := by decide +kernel
theorem d_Mo_undo_37 : decode b_Mo_undo 37 = .ok (.iconst 0, 1) := by decide +kernel
theorem d_Mo_undo_38 : decode b_Mo_undo 38 = .ok (.istore_n 2, 1) := by decide +kernel
theorem d_Mo_undo_39 : decode b_Mo_undo 39 = .ok (.iload_n 2, 1) := by decide +kernel
theorem d_Mo_undo_40 : decode b_Mo_undo 40 = .ok (.sipush 3842, 3) := by decide +kernel
theorem d_Mo_undo_43 : decode b_Mo_undo 43 = .ok (.if_icmp .ge 27, 3) := by decide +kernel
theorem d_Mo_undo_46 : decode b_Mo_undo 46 = .ok (.aload_n 0, 1) := by decide +kernel
theorem d_Mo_undo_47 : decode b_Mo_undo 47 = .ok (.getfield 7, 3) := by decide +kernel
theorem d_Mo_undo_50 : decode b_Mo_undo 50 = .ok (.iload_n 2, 1) := by decide +kernel
theorem d_Mo_undo_51 : decode b_Mo_undo 51 = .ok (.aload_n 0, 1) := by decide +kernel
theorem d_Mo_undo_52 : decode b_Mo_undo 52 = .ok (.getfield 17, 3) := by decide +kernel
theorem d_Mo_undo_55 : decode b_Mo_undo 55 = .ok (.sipush 3842, 3) := by decide +kernel
theorem d_Mo_undo_58 : decode b_Mo_undo 58 = .ok (.iload_n 1, 1) := by decide +kernel
theorem d_Mo_undo_59 : decode b_Mo_undo 59 = .ok (.imul, 1) := by decide +kernel
theorem d_Mo_undo_60 : decode b_Mo_undo 60 = .ok (.iload_n 2, 1) := by decide +kernel
theorem d_Mo_undo_61 : decode b_Mo_undo 61 = .ok (.iadd, 1) := by decide +kernel
theorem d_Mo_undo_62 : decode b_Mo_undo 62 = .ok (.laload, 1) := by decide +kernel
theorem d_Mo_undo_63 : decode b_Mo_undo 63 = .ok (.lastore, 1) := by decide +kernel
theorem d_Mo_undo_64 : decode b_Mo_undo 64 = .ok (.iinc 2 1, 3) := by decide +kernel
theorem d_Mo_undo_67 : decode b_Mo_undo 67 = .ok (.goto (-28), 3) := by decide +kernel
theorem d_Mo_undo_70 : decode b_Mo_undo 70 = .ok (.aload_n 0, 1) := by decide +kernel
theorem d_Mo_undo_71 : decode b_Mo_undo 71 = .ok (.iconst 0, 1) := by decide +kernel
theorem d_Mo_undo_72 : decode b_Mo_undo 72 = .ok (.putfield 59, 3) := by decide +kernel
theorem d_Mo_undo_75 : decode b_Mo_undo 75 = .ok (.aload_n 0, 1) := by decide +kernel
theorem d_Mo_undo_76 : decode b_Mo_undo 76 = .ok (.iconst 0, 1) := by decide +kernel
theorem d_Mo_undo_77 : decode b_Mo_undo 77 = .ok (.putfield 49, 3) := by decide +kernel
theorem d_Mo_undo_80 : decode b_Mo_undo 80 = .ok (.iconst 1, 1) := by decide +kernel
theorem d_Mo_undo_81 : decode b_Mo_undo 81 = .ok (.ireturn, 1) := by decide +kernel
theorem d_Mo_isSheet_0 : decode b_Mo_isSheet 0 = .ok (.iload_n 1, 1) := by decide +kernel
theorem d_Mo_isSheet_1 : decode b_Mo_isSheet 1 = .ok (.ifCond .lt 16, 3) := by decide +kernel
theorem d_Mo_isSheet_4 : decode b_Mo_isSheet 4 = .ok (.iload_n 1, 1) := by decide +kernel
theorem d_Mo_isSheet_5 : decode b_Mo_isSheet 5 = .ok (.aload_n 0, 1) := by decide +kernel
theorem d_Mo_isSheet_6 : decode b_Mo_isSheet 6 = .ok (.iconst 0, 1) := by decide +kernel
theorem d_Mo_isSheet_7 : decode b_Mo_isSheet 7 = .ok (.invokevirtual 62, 3) := by decide +kernel
theorem d_Mo_isSheet_10 : decode b_Mo_isSheet 10 = .ok (.if_icmp .ge 7, 3) := by decide +kernel
theorem d_Mo_isSheet_13 : decode b_Mo_isSheet 13 = .ok (.iconst 1, 1) := by decide +kernel
theorem d_Mo_isSheet_14 : decode b_Mo_isSheet 14 = .ok (.goto 4, 3) := by decide +kernel
theorem d_Mo_isSheet_17 : decode b_Mo_isSheet 17 = .ok (.iconst 0, 1) := by decide +kernel
theorem d_Mo_isSheet_18 : decode b_Mo_isSheet 18 = .ok (.ireturn, 1) := by decide +kernel
theorem d_Mo_isPlacement_0 : decode b_Mo_isPlacement 0 = .ok (.iload_n 1, 1) := by decide +kernel
theorem d_Mo_isPlacement_1 : decode b_Mo_isPlacement 1 = .ok (.ifCond .lt 31, 3) := by decide +kernel
theorem d_Mo_isPlacement_4 : decode b_Mo_isPlacement 4 = .ok (.iload_n 1, 1) := by decide +kernel
theorem d_Mo_isPlacement_5 : decode b_Mo_isPlacement 5 = .ok (.aload_n 0, 1) := by decide +kernel
theorem d_Mo_isPlacement_6 : decode b_Mo_isPlacement 6 = .ok (.iconst 1, 1) := by decide +kernel
theorem d_Mo_isPlacement_7 : decode b_Mo_isPlacement 7 = .ok (.invokevirtual 62, 3) := by decide +kernel
theorem d_Mo_isPlacement_10 : decode b_Mo_isPlacement 10 = .ok (.if_icmp .ge 22, 3) := by decide +kernel
theorem d_Mo_isPlacement_13 : decode b_Mo_isPlacement 13 = .ok (.aload_n 0, 1) := by decide +kernel
theorem d_Mo_isPlacement_14 : decode b_Mo_isPlacement 14 = .ok (.getfield 7, 3) := by decide +kernel
theorem d_Mo_isPlacement_17 : decode b_Mo_isPlacement 17 = .ok (.sipush 152, 3) := by decide +kernel
theorem d_Mo_isPlacement_20 : decode b_Mo_isPlacement 20 = .ok (.iload_n 1, 1) := by decide +kernel
theorem d_Mo_isPlacement_21 : decode b_Mo_isPlacement 21 = .ok (.iadd, 1) := by decide +kernel
theorem d_Mo_isPlacement_22 : decode b_Mo_isPlacement 22 = .ok (.laload, 1) := by decide +kernel
theorem d_Mo_isPlacement_23 : decode b_Mo_isPlacement 23 = .ok (.lconst 0, 1) := by decide +kernel
theorem d_Mo_isPlacement_24 : decode b_Mo_isPlacement 24 = .ok (.lcmp, 1) := by decide +kernel
theorem d_Mo_isPlacement_25 : decode b_Mo_isPlacement 25 = .ok (.ifCond .lt 7, 3) := by decide +kernel
theorem d_Mo_isPlacement_28 : decode b_Mo_isPlacement 28 = .ok (.iconst 1, 1) := by decide +kernel
theorem d_Mo_isPlacement_29 : decode b_Mo_isPlacement 29 = .ok (.goto 4, 3) := by decide +kernel
theorem d_Mo_isPlacement_32 : decode b_Mo_isPlacement 32 = .ok (.iconst 0, 1) := by decide +kernel
theorem d_Mo_isPlacement_33 : decode b_Mo_isPlacement 33 = .ok (.ireturn, 1) := by decide +kernel
theorem d_Mo_isName_0 : decode b_Mo_isName 0 = .ok (.iload_n 0, 1) := by decide +kernel
theorem d_Mo_isName_1 : decode b_Mo_isName 1 = .ok (.ifCond .lt 13, 3) := by decide +kernel
theorem d_Mo_isName_4 : decode b_Mo_isName 4 = .ok (.iload_n 0, 1) := by decide +kernel
theorem d_Mo_isName_5 : decode b_Mo_isName 5 = .ok (.bipush 32, 2) := by decide +kernel
theorem d_Mo_isName_7 : decode b_Mo_isName 7 = .ok (.if_icmp .ge 7, 3) := by decide +kernel
theorem d_Mo_isName_10 : decode b_Mo_isName 10 = .ok (.iconst 1, 1) := by decide +kernel
theorem d_Mo_isName_11 : decode b_Mo_isName 11 = .ok (.goto 4, 3) := by decide +kernel
theorem d_Mo_isName_14 : decode b_Mo_isName 14 = .ok (.iconst 0, 1) := by decide +kernel
theorem d_Mo_isName_15 : decode b_Mo_isName 15 = .ok (.ireturn, 1) := by decide +kernel
theorem d_Mo_isPart_0 : decode b_Mo_isPart 0 = .ok (.iload_n 1, 1) := by decide +kernel
theorem d_Mo_isPart_1 : decode b_Mo_isPart 1 = .ok (.ifCond .lt 16, 3) := by decide +kernel
theorem d_Mo_isPart_4 : decode b_Mo_isPart 4 = .ok (.iload_n 1, 1) := by decide +kernel
theorem d_Mo_isPart_5 : decode b_Mo_isPart 5 = .ok (.aload_n 0, 1) := by decide +kernel
theorem d_Mo_isPart_6 : decode b_Mo_isPart 6 = .ok (.iconst 2, 1) := by decide +kernel
theorem d_Mo_isPart_7 : decode b_Mo_isPart 7 = .ok (.invokevirtual 62, 3) := by decide +kernel
theorem d_Mo_isPart_10 : decode b_Mo_isPart 10 = .ok (.if_icmp .ge 7, 3) := by decide +kernel
theorem d_Mo_isPart_13 : decode b_Mo_isPart 13 = .ok (.iconst 1, 1) := by decide +kernel
theorem d_Mo_isPart_14 : decode b_Mo_isPart 14 = .ok (.goto 4, 3) := by decide +kernel
theorem d_Mo_isPart_17 : decode b_Mo_isPart 17 = .ok (.iconst 0, 1) := by decide +kernel
theorem d_Mo_isPart_18 : decode b_Mo_isPart 18 = .ok (.ireturn, 1) := by decide +kernel
theorem d_Mo_isGate_0 : decode b_Mo_isGate 0 = .ok (.aload_n 0, 1) := by decide +kernel
theorem d_Mo_isGate_1 : decode b_Mo_isGate 1 = .ok (.iload_n 1, 1) := by decide +kernel
theorem d_Mo_isGate_2 : decode b_Mo_isGate 2 = .ok (.invokevirtual 66, 3) := by decide +kernel
theorem d_Mo_isGate_5 : decode b_Mo_isGate 5 = .ok (.ifCond .eq 27, 3) := by decide +kernel
theorem d_Mo_isGate_8 : decode b_Mo_isGate 8 = .ok (.iload_n 2, 1) := by decide +kernel
theorem d_Mo_isGate_9 : decode b_Mo_isGate 9 = .ok (.ifCond .lt 23, 3) := by decide +kernel
theorem d_Mo_isGate_12 : decode b_Mo_isGate 12 = .ok (.iload_n 2, 1) := by decide +kernel
theorem d_Mo_isGate_13 : decode b_Mo_isGate 13 = .ok (.i2l, 1) := by decide +kernel
theorem d_Mo_isGate_14 : decode b_Mo_isGate 14 = .ok (.aload_n 0, 1) := by decide +kernel
theorem d_Mo_isGate_15 : decode b_Mo_isGate 15 = .ok (.getfield 7, 3) := by decide +kernel
theorem d_Mo_isGate_18 : decode b_Mo_isGate 18 = .ok (.sipush 2162, 3) := by decide +kernel
theorem d_Mo_isGate_21 : decode b_Mo_isGate 21 = .ok (.iload_n 1, 1) := by decide +kernel
theorem d_Mo_isGate_22 : decode b_Mo_isGate 22 = .ok (.iadd, 1) := by decide +kernel
theorem d_Mo_isGate_23 : decode b_Mo_isGate 23 = .ok (.laload, 1) := by decide +kernel
theorem d_Mo_isGate_24 : decode b_Mo_isGate 24 = .ok (.lcmp, 1) := by decide +kernel
theorem d_Mo_isGate_25 : decode b_Mo_isGate 25 = .ok (.ifCond .ge 7, 3) := by decide +kernel
theorem d_Mo_isGate_28 : decode b_Mo_isGate 28 = .ok (.iconst 1, 1) := by decide +kernel
theorem d_Mo_isGate_29 : decode b_Mo_isGate 29 = .ok (.goto 4, 3) := by decide +kernel
theorem d_Mo_isGate_32 : decode b_Mo_isGate 32 = .ok (.iconst 0, 1) := by decide +kernel
theorem d_Mo_isGate_33 : decode b_Mo_isGate 33 = .ok (.ireturn, 1) := by decide +kernel
theorem d_Mo_isVariant_0 : decode b_Mo_isVariant 0 = .ok (.iload_n 1, 1) := by decide +kernel
theorem d_Mo_isVariant_1 : decode b_Mo_isVariant 1 = .ok (.ifCond .lt 16, 3) := by decide +kernel
theorem d_Mo_isVariant_4 : decode b_Mo_isVariant 4 = .ok (.iload_n 1, 1) := by decide +kernel
theorem d_Mo_isVariant_5 : decode b_Mo_isVariant 5 = .ok (.aload_n 0, 1) := by decide +kernel
theorem d_Mo_isVariant_6 : decode b_Mo_isVariant 6 = .ok (.iconst 3, 1) := by decide +kernel
theorem d_Mo_isVariant_7 : decode b_Mo_isVariant 7 = .ok (.invokevirtual 62, 3) := by decide +kernel
theorem d_Mo_isVariant_10 : decode b_Mo_isVariant 10 = .ok (.if_icmp .ge 7, 3) := by decide +kernel
theorem d_Mo_isVariant_13 : decode b_Mo_isVariant 13 = .ok (.iconst 1, 1) := by decide +kernel
theorem d_Mo_isVariant_14 : decode b_Mo_isVariant 14 = .ok (.goto 4, 3) := by decide +kernel
theorem d_Mo_isVariant_17 : decode b_Mo_isVariant 17 = .ok (.iconst 0, 1) := by decide +kernel
theorem d_Mo_isVariant_18 : decode b_Mo_isVariant 18 = .ok (.ireturn, 1) := by decide +kernel
theorem d_Mo_hasName_0 : decode b_Mo_hasName 0 = .ok (.aload_n 0, 1) := by decide +kernel
theorem d_Mo_hasName_1 : decode b_Mo_hasName 1 = .ok (.getfield 7, 3) := by decide +kernel
theorem d_Mo_hasName_4 : decode b_Mo_hasName 4 = .ok (.bipush 8, 2) := by decide +kernel
theorem d_Mo_hasName_6 : decode b_Mo_hasName 6 = .ok (.lload_n 1, 1) := by decide +kernel
theorem d_Mo_hasName_7 : decode b_Mo_hasName 7 = .ok (.l2i, 1) := by decide +kernel
theorem d_Mo_hasName_8 : decode b_Mo_hasName 8 = .ok (.iadd, 1) := by decide +kernel
theorem d_Mo_hasName_9 : decode b_Mo_hasName 9 = .ok (.laload, 1) := by decide +kernel
theorem d_Mo_hasName_10 : decode b_Mo_hasName 10 = .ok (.iload_n 3, 1) := by decide +kernel
theorem d_Mo_hasName_11 : decode b_Mo_hasName 11 = .ok (.lshr, 1) := by decide +kernel
theorem d_Mo_hasName_12 : decode b_Mo_hasName 12 = .ok (.lconst 1, 1) := by decide +kernel
theorem d_Mo_hasName_13 : decode b_Mo_hasName 13 = .ok (.land, 1) := by decide +kernel
theorem d_Mo_hasName_14 : decode b_Mo_hasName 14 = .ok (.lconst 1, 1) := by decide +kernel
theorem d_Mo_hasName_15 : decode b_Mo_hasName 15 = .ok (.lcmp, 1) := by decide +kernel
theorem d_Mo_hasName_16 : decode b_Mo_hasName 16 = .ok (.ifCond .ne 7, 3) := by decide +kernel
theorem d_Mo_hasName_19 : decode b_Mo_hasName 19 = .ok (.iconst 1, 1) := by decide +kernel
theorem d_Mo_hasName_20 : decode b_Mo_hasName 20 = .ok (.goto 4, 3) := by decide +kernel
theorem d_Mo_hasName_23 : decode b_Mo_hasName 23 = .ok (.iconst 0, 1) := by decide +kernel
theorem d_Mo_hasName_24 : decode b_Mo_hasName 24 = .ok (.ireturn, 1) := by decide +kernel
theorem d_Mo_next_0 : decode b_Mo_next 0 = .ok (.iconst (-1), 1) := by decide +kernel
theorem d_Mo_next_1 : decode b_Mo_next 1 = .ok (.istore 4, 2) := by decide +kernel
theorem d_Mo_next_3 : decode b_Mo_next 3 = .ok (.iconst 0, 1) := by decide +kernel
theorem d_Mo_next_4 : decode b_Mo_next 4 = .ok (.istore 5, 2) := by decide +kernel
theorem d_Mo_next_6 : decode b_Mo_next 6 = .ok (.iload 5, 2) := by decide +kernel
theorem d_Mo_next_8 : decode b_Mo_next 8 = .ok (.aload_n 0, 1) := by decide +kernel
theorem d_Mo_next_9 : decode b_Mo_next 9 = .ok (.iconst 1, 1) := by decide +kernel
theorem d_Mo_next_10 : decode b_Mo_next 10 = .ok (.invokevirtual 62, 3) := by decide +kernel
theorem d_Mo_next_13 : decode b_Mo_next 13 = .ok (.if_icmp .ge 80, 3) := by decide +kernel
theorem d_Mo_next_16 : decode b_Mo_next 16 = .ok (.aload_n 0, 1) := by decide +kernel
theorem d_Mo_next_17 : decode b_Mo_next 17 = .ok (.getfield 7, 3) := by decide +kernel
theorem d_Mo_next_20 : decode b_Mo_next 20 = .ok (.sipush 152, 3) := by decide +kernel
theorem d_Mo_next_23 : decode b_Mo_next 23 = .ok (.iload 5, 2) := by decide +kernel
theorem d_Mo_next_25 : decode b_Mo_next 25 = .ok (.iadd, 1) := by decide +kernel
theorem d_Mo_next_26 : decode b_Mo_next 26 = .ok (.laload, 1) := by decide +kernel
theorem d_Mo_next_27 : decode b_Mo_next 27 = .ok (.lload_n 2, 1) := by decide +kernel
theorem d_Mo_next_28 : decode b_Mo_next 28 = .ok (.lcmp, 1) := by decide +kernel
theorem d_Mo_next_29 : decode b_Mo_next 29 = .ok (.ifCond .le 58, 3) := by decide +kernel
theorem d_Mo_next_32 : decode b_Mo_next 32 = .ok (.aload_n 0, 1) := by decide +kernel
theorem d_Mo_next_33 : decode b_Mo_next 33 = .ok (.getfield 7, 3) := by decide +kernel
theorem d_Mo_next_36 : decode b_Mo_next 36 = .ok (.bipush 32, 2) := by decide +kernel
theorem d_Mo_next_38 : decode b_Mo_next 38 = .ok (.iload 5, 2) := by decide +kernel
theorem d_Mo_next_40 : decode b_Mo_next 40 = .ok (.iadd, 1) := by decide +kernel
theorem d_Mo_next_41 : decode b_Mo_next 41 = .ok (.laload, 1) := by decide +kernel
theorem d_Mo_next_42 : decode b_Mo_next 42 = .ok (.iload_n 1, 1) := by decide +kernel
theorem d_Mo_next_43 : decode b_Mo_next 43 = .ok (.i2l, 1) := by decide +kernel
theorem d_Mo_next_44 : decode b_Mo_next 44 = .ok (.lcmp, 1) := by decide +kernel
theorem d_Mo_next_45 : decode b_Mo_next 45 = .ok (.ifCond .eq 6, 3) := by decide +kernel
theorem d_Mo_next_48 : decode b_Mo_next 48 = .ok (.goto 39, 3) := by decide +kernel
theorem d_Mo_next_51 : decode b_Mo_next 51 = .ok (.iload 4, 2) := by decide +kernel
theorem d_Mo_next_53 : decode b_Mo_next 53 = .ok (.iconst (-1), 1) := by decide +kernel
theorem d_Mo_next_54 : decode b_Mo_next 54 = .ok (.if_icmp .eq 29, 3) := by decide +kernel
theorem d_Mo_next_57 : decode b_Mo_next 57 = .ok (.aload_n 0, 1) := by decide +kernel
theorem d_Mo_next_58 : decode b_Mo_next 58 = .ok (.getfield 7, 3) := by decide +kernel
theorem d_Mo_next_61 : decode b_Mo_next 61 = .ok (.sipush 152, 3) := by decide +kernel
theorem d_Mo_next_64 : decode b_Mo_next 64 = .ok (.iload 5, 2) := by decide +kernel
theorem d_Mo_next_66 : decode b_Mo_next 66 = .ok (.iadd, 1) := by decide +kernel
theorem d_Mo_next_67 : decode b_Mo_next 67 = .ok (.laload, 1) := by decide +kernel
theorem d_Mo_next_68 : decode b_Mo_next 68 = .ok (.aload_n 0, 1) := by decide +kernel
theorem d_Mo_next_69 : decode b_Mo_next 69 = .ok (.getfield 7, 3) := by decide +kernel
theorem d_Mo_next_72 : decode b_Mo_next 72 = .ok (.sipush 152, 3) := by decide +kernel
theorem d_Mo_next_75 : decode b_Mo_next 75 = .ok (.iload 4, 2) := by decide +kernel
theorem d_Mo_next_77 : decode b_Mo_next 77 = .ok (.iadd, 1) := by decide +kernel
theorem d_Mo_next_78 : decode b_Mo_next 78 = .ok (.laload, 1) := by decide +kernel
theorem d_Mo_next_79 : decode b_Mo_next 79 = .ok (.lcmp, 1) := by decide +kernel
theorem d_Mo_next_80 : decode b_Mo_next 80 = .ok (.ifCond .ge 7, 3) := by decide +kernel
theorem d_Mo_next_83 : decode b_Mo_next 83 = .ok (.iload 5, 2) := by decide +kernel
theorem d_Mo_next_85 : decode b_Mo_next 85 = .ok (.istore 4, 2) := by decide +kernel
theorem d_Mo_next_87 : decode b_Mo_next 87 = .ok (.iinc 5 1, 3) := by decide +kernel
theorem d_Mo_next_90 : decode b_Mo_next 90 = .ok (.goto (-84), 3) := by decide +kernel
theorem d_Mo_next_93 : decode b_Mo_next 93 = .ok (.iload 4, 2) := by decide +kernel
theorem d_Mo_next_95 : decode b_Mo_next 95 = .ok (.ireturn, 1) := by decide +kernel
theorem d_Mo_addPage_0 : decode b_Mo_addPage 0 = .ok (.aload_n 0, 1) := by decide +kernel
theorem d_Mo_addPage_1 : decode b_Mo_addPage 1 = .ok (.getfield 20, 3) := by decide +kernel
theorem d_Mo_addPage_4 : decode b_Mo_addPage 4 = .ok (.aload_n 0, 1) := by decide +kernel
theorem d_Mo_addPage_5 : decode b_Mo_addPage 5 = .ok (.getfield 70, 3) := by decide +kernel
theorem d_Mo_addPage_8 : decode b_Mo_addPage 8 = .ok (.iload_n 1, 1) := by decide +kernel
theorem d_Mo_addPage_9 : decode b_Mo_addPage 9 = .ok (.iastore, 1) := by decide +kernel
theorem d_Mo_addPage_10 : decode b_Mo_addPage 10 = .ok (.aload_n 0, 1) := by decide +kernel
theorem d_Mo_addPage_11 : decode b_Mo_addPage 11 = .ok (.getfield 24, 3) := by decide +kernel
theorem d_Mo_addPage_14 : decode b_Mo_addPage 14 = .ok (.aload_n 0, 1) := by decide +kernel
theorem d_Mo_addPage_15 : decode b_Mo_addPage 15 = .ok (.getfield 70, 3) := by decide +kernel
theorem d_Mo_addPage_18 : decode b_Mo_addPage 18 = .ok (.iload_n 2, 1) := by decide +kernel
theorem d_Mo_addPage_19 : decode b_Mo_addPage 19 = .ok (.iastore, 1) := by decide +kernel
theorem d_Mo_addPage_20 : decode b_Mo_addPage 20 = .ok (.aload_n 0, 1) := by decide +kernel
theorem d_Mo_addPage_21 : decode b_Mo_addPage 21 = .ok (.getfield 27, 3) := by decide +kernel
theorem d_Mo_addPage_24 : decode b_Mo_addPage 24 = .ok (.aload_n 0, 1) := by decide +kernel
theorem d_Mo_addPage_25 : decode b_Mo_addPage 25 = .ok (.getfield 70, 3) := by decide +kernel
theorem d_Mo_addPage_28 : decode b_Mo_addPage 28 = .ok (.iload_n 3, 1) := by decide +kernel
theorem d_Mo_addPage_29 : decode b_Mo_addPage 29 = .ok (.iastore, 1) := by decide +kernel
theorem d_Mo_addPage_30 : decode b_Mo_addPage 30 = .ok (.aload_n 0, 1) := by decide +kernel
theorem d_Mo_addPage_31 : decode b_Mo_addPage 31 = .ok (.getfield 30, 3) := by decide +kernel
theorem d_Mo_addPage_34 : decode b_Mo_addPage 34 = .ok (.aload_n 0, 1) := by decide +kernel
theorem d_Mo_addPage_35 : decode b_Mo_addPage 35 = .ok (.getfield 70, 3) := by decide +kernel
theorem d_Mo_addPage_38 : decode b_Mo_addPage 38 = .ok (.iload 4, 2) := by decide +kernel
theorem d_Mo_addPage_40 : decode b_Mo_addPage 40 = .ok (.iastore, 1) := by decide +kernel
theorem d_Mo_addPage_41 : decode b_Mo_addPage 41 = .ok (.aload_n 0, 1) := by decide +kernel
theorem d_Mo_addPage_42 : decode b_Mo_addPage 42 = .ok (.dup, 1) := by decide +kernel
theorem d_Mo_addPage_43 : decode b_Mo_addPage 43 = .ok (.getfield 70, 3) := by decide +kernel
theorem d_Mo_addPage_46 : decode b_Mo_addPage 46 = .ok (.iconst 1, 1) := by decide +kernel
theorem d_Mo_addPage_47 : decode b_Mo_addPage 47 = .ok (.iadd, 1) := by decide +kernel
theorem d_Mo_addPage_48 : decode b_Mo_addPage 48 = .ok (.putfield 70, 3) := by decide +kernel
theorem d_Mo_addPage_51 : decode b_Mo_addPage 51 = .ok (.return_, 1) := by decide +kernel
theorem d_Mo_turn_0 : decode b_Mo_turn 0 = .ok (.aload_n 0, 1) := by decide +kernel
theorem d_Mo_turn_1 : decode b_Mo_turn 1 = .ok (.iconst 0, 1) := by decide +kernel
theorem d_Mo_turn_2 : decode b_Mo_turn 2 = .ok (.putfield 70, 3) := by decide +kernel
theorem d_Mo_turn_5 : decode b_Mo_turn 5 = .ok (.aload_n 0, 1) := by decide +kernel
theorem d_Mo_turn_6 : decode b_Mo_turn 6 = .ok (.iconst 0, 1) := by decide +kernel
theorem d_Mo_turn_7 : decode b_Mo_turn 7 = .ok (.iconst (-1), 1) := by decide +kernel
theorem d_Mo_turn_8 : decode b_Mo_turn 8 = .ok (.iconst (-1), 1) := by decide +kernel
theorem d_Mo_turn_9 : decode b_Mo_turn 9 = .ok (.iconst 0, 1) := by decide +kernel
theorem d_Mo_turn_10 : decode b_Mo_turn 10 = .ok (.invokevirtual 73, 3) := by decide +kernel
theorem d_Mo_turn_13 : decode b_Mo_turn 13 = .ok (.iconst 0, 1) := by decide +kernel
theorem d_Mo_turn_14 : decode b_Mo_turn 14 = .ok (.istore_n 1, 1) := by decide +kernel
theorem d_Mo_turn_15 : decode b_Mo_turn 15 = .ok (.aload_n 0, 1) := by decide +kernel
theorem d_Mo_turn_16 : decode b_Mo_turn 16 = .ok (.getfield 36, 3) := by decide +kernel
theorem d_Mo_turn_19 : decode b_Mo_turn 19 = .ok (.iconst 0, 1) := by decide +kernel
theorem d_Mo_turn_20 : decode b_Mo_turn 20 = .ok (.iconst 0, 1) := by decide +kernel
theorem d_Mo_turn_21 : decode b_Mo_turn 21 = .ok (.iastore, 1) := by decide +kernel
theorem d_Mo_turn_22 : decode b_Mo_turn 22 = .ok (.aload_n 0, 1) := by decide +kernel
theorem d_Mo_turn_23 : decode b_Mo_turn 23 = .ok (.getfield 39, 3) := by decide +kernel
theorem d_Mo_turn_26 : decode b_Mo_turn 26 = .ok (.iconst 0, 1) := by decide +kernel
theorem d_Mo_turn_27 : decode b_Mo_turn 27 = .ok (.ldc2_w 77, 3) := by decide +kernel
theorem d_Mo_turn_30 : decode b_Mo_turn 30 = .ok (.lastore, 1) := by decide +kernel
theorem d_Mo_turn_31 : decode b_Mo_turn 31 = .ok (.iload_n 1, 1) := by decide +kernel
theorem d_Mo_turn_32 : decode b_Mo_turn 32 = .ok (.ifCond .lt 110, 3) := by decide +kernel
theorem d_Mo_turn_35 : decode b_Mo_turn 35 = .ok (.aload_n 0, 1) := by decide +kernel
theorem d_Mo_turn_36 : decode b_Mo_turn 36 = .ok (.getfield 70, 3) := by decide +kernel
theorem d_Mo_turn_39 : decode b_Mo_turn 39 = .ok (.sipush 300, 3) := by decide +kernel
theorem d_Mo_turn_42 : decode b_Mo_turn 42 = .ok (.if_icmp .gt 100, 3) := by decide +kernel
theorem d_Mo_turn_45 : decode b_Mo_turn 45 = .ok (.aload_n 0, 1) := by decide +kernel
theorem d_Mo_turn_46 : decode b_Mo_turn 46 = .ok (.getfield 36, 3) := by decide +kernel
theorem d_Mo_turn_49 : decode b_Mo_turn 49 = .ok (.iload_n 1, 1) := by decide +kernel
theorem d_Mo_turn_50 : decode b_Mo_turn 50 = .ok (.iaload, 1) := by decide +kernel
theorem d_Mo_turn_51 : decode b_Mo_turn 51 = .ok (.istore_n 2, 1) := by decide +kernel
theorem d_Mo_turn_52 : decode b_Mo_turn 52 = .ok (.aload_n 0, 1) := by decide +kernel
theorem d_Mo_turn_53 : decode b_Mo_turn 53 = .ok (.aload_n 0, 1) := by decide +kernel
theorem d_Mo_turn_54 : decode b_Mo_turn 54 = .ok (.getfield 20, 3) := by decide +kernel
theorem d_Mo_turn_57 : decode b_Mo_turn 57 = .ok (.iload_n 2, 1) := by decide +kernel
theorem d_Mo_turn_58 : decode b_Mo_turn 58 = .ok (.iaload, 1) := by decide +kernel
theorem d_Mo_turn_59 : decode b_Mo_turn 59 = .ok (.aload_n 0, 1) := by decide +kernel
theorem d_Mo_turn_60 : decode b_Mo_turn 60 = .ok (.getfield 39, 3) := by decide +kernel
theorem d_Mo_turn_63 : decode b_Mo_turn 63 = .ok (.iload_n 1, 1) := by decide +kernel
theorem d_Mo_turn_64 : decode b_Mo_turn 64 = .ok (.laload, 1) := by decide +kernel
theorem d_Mo_turn_65 : decode b_Mo_turn 65 = .ok (.invokevirtual 79, 3) := by decide +kernel
theorem d_Mo_turn_68 : decode b_Mo_turn 68 = .ok (.istore_n 3, 1) := by decide +kernel
theorem d_Mo_turn_69 : decode b_Mo_turn 69 = .ok (.iload_n 3, 1) := by decide +kernel
theorem d_Mo_turn_70 : decode b_Mo_turn 70 = .ok (.iconst (-1), 1) := by decide +kernel
theorem d_Mo_turn_71 : decode b_Mo_turn 71 = .ok (.if_icmp .ne 9, 3) := by decide +kernel
theorem d_Mo_turn_74 : decode b_Mo_turn 74 = .ok (.iinc 1 (-1), 3) := by decide +kernel
theorem d_Mo_turn_77 : decode b_Mo_turn 77 = .ok (.goto 62, 3) := by decide +kernel
theorem d_Mo_turn_80 : decode b_Mo_turn 80 = .ok (.aload_n 0, 1) := by decide +kernel
theorem d_Mo_turn_81 : decode b_Mo_turn 81 = .ok (.getfield 39, 3) := by decide +kernel
theorem d_Mo_turn_84 : decode b_Mo_turn 84 = .ok (.iload_n 1, 1) := by decide +kernel
theorem d_Mo_turn_85 : decode b_Mo_turn 85 = .ok (.aload_n 0, 1) := by decide +kernel
theorem d_Mo_turn_86 : decode b_Mo_turn 86 = .ok (.getfield 7, 3) := by decide +kernel
theorem d_Mo_turn_89 : decode b_Mo_turn 89 = .ok (.sipush 152, 3) := by decide +kernel
theorem d_Mo_turn_92 : decode b_Mo_turn 92 = .ok (.iload_n 3, 1) := by decide +kernel
theorem d_Mo_turn_93 : decode b_Mo_turn 93 = .ok (.iadd, 1) := by decide +kernel
theorem d_Mo_turn_94 : decode b_Mo_turn 94 = .ok (.laload, 1) := by decide +kernel
theorem d_Mo_turn_95 : decode b_Mo_turn 95 = .ok (.lastore, 1) := by decide +kernel
theorem d_Mo_turn_96 : decode b_Mo_turn 96 = .ok (.aload_n 0, 1) := by decide +kernel
theorem d_Mo_turn_97 : decode b_Mo_turn 97 = .ok (.aload_n 0, 1) := by decide +kernel
theorem d_Mo_turn_98 : decode b_Mo_turn 98 = .ok (.getfield 7, 3) := by decide +kernel
theorem d_Mo_turn_101 : decode b_Mo_turn 101 = .ok (.bipush 92, 2) := by decide +kernel
theorem d_Mo_turn_103 : decode b_Mo_turn 103 = .ok (.iload_n 3, 1) := by decide +kernel
theorem d_Mo_turn_104 : decode b_Mo_turn 104 = .ok (.iadd, 1) := by decide +kernel
theorem d_Mo_turn_105 : decode b_Mo_turn 105 = .ok (.laload, 1) := by decide +kernel
theorem d_Mo_turn_106 : decode b_Mo_turn 106 = .ok (.l2i, 1) := by decide +kernel
theorem d_Mo_turn_107 : decode b_Mo_turn 107 = .ok (.iload_n 3, 1) := by decide +kernel
theorem d_Mo_turn_108 : decode b_Mo_turn 108 = .ok (.iload_n 2, 1) := by decide +kernel
theorem d_Mo_turn_109 : decode b_Mo_turn 109 = .ok (.iload_n 1, 1) := by decide +kernel
theorem d_Mo_turn_110 : decode b_Mo_turn 110 = .ok (.iconst 1, 1) := by decide +kernel
theorem d_Mo_turn_111 : decode b_Mo_turn 111 = .ok (.iadd, 1) := by decide +kernel
theorem d_Mo_turn_112 : decode b_Mo_turn 112 = .ok (.invokevirtual 73, 3) := by decide +kernel
theorem d_Mo_turn_115 : decode b_Mo_turn 115 = .ok (.iinc 1 1, 3) := by decide +kernel
theorem d_Mo_turn_118 : decode b_Mo_turn 118 = .ok (.aload_n 0, 1) := by decide +kernel
theorem d_Mo_turn_119 : decode b_Mo_turn 119 = .ok (.getfield 36, 3) := by decide +kernel
theorem d_Mo_turn_122 : decode b_Mo_turn 122 = .ok (.iload_n 1, 1) := by decide +kernel
theorem d_Mo_turn_123 : decode b_Mo_turn 123 = .ok (.aload_n 0, 1) := by decide +kernel
theorem d_Mo_turn_124 : decode b_Mo_turn 124 = .ok (.getfield 70, 3) := by decide +kernel
theorem d_Mo_turn_127 : decode b_Mo_turn 127 = .ok (.iconst 1, 1) := by decide +kernel
theorem d_Mo_turn_128 : decode b_Mo_turn 128 = .ok (.isub, 1) := by decide +kernel
theorem d_Mo_turn_129 : decode b_Mo_turn 129 = .ok (.iastore, 1) := by decide +kernel
theorem d_Mo_turn_130 : decode b_Mo_turn 130 = .ok (.aload_n 0, 1) := by decide +kernel
theorem d_Mo_turn_131 : decode b_Mo_turn 131 = .ok (.getfield 39, 3) := by decide +kernel
theorem d_Mo_turn_134 : decode b_Mo_turn 134 = .ok (.iload_n 1, 1) := by decide +kernel
theorem d_Mo_turn_135 : decode b_Mo_turn 135 = .ok (.ldc2_w 77, 3) := by decide +kernel
theorem d_Mo_turn_138 : decode b_Mo_turn 138 = .ok (.lastore, 1) := by decide +kernel
theorem d_Mo_turn_139 : decode b_Mo_turn 139 = .ok (.goto (-108), 3) := by decide +kernel
theorem d_Mo_turn_142 : decode b_Mo_turn 142 = .ok (.aload_n 0, 1) := by decide +kernel
theorem d_Mo_turn_143 : decode b_Mo_turn 143 = .ok (.iconst 1, 1) := by decide +kernel
theorem d_Mo_turn_144 : decode b_Mo_turn 144 = .ok (.putfield 49, 3) := by decide +kernel
theorem d_Mo_turn_147 : decode b_Mo_turn 147 = .ok (.return_, 1) := by decide +kernel
theorem d_Mo_look_0 : decode b_Mo_look 0 = .ok (.aload_n 0, 1) := by decide +kernel
theorem d_Mo_look_1 : decode b_Mo_look 1 = .ok (.getfield 49, 3) := by decide +kernel
theorem d_Mo_look_4 : decode b_Mo_look 4 = .ok (.ifCond .ne 7, 3) := by decide +kernel
theorem d_Mo_look_7 : decode b_Mo_look 7 = .ok (.aload_n 0, 1) := by decide +kernel
theorem d_Mo_look_8 : decode b_Mo_look 8 = .ok (.invokevirtual 83, 3) := by decide +kernel
theorem d_Mo_look_11 : decode b_Mo_look 11 = .ok (.return_, 1) := by decide +kernel
theorem d_Mo_isPage_0 : decode b_Mo_isPage 0 = .ok (.aload_n 0, 1) := by decide +kernel
theorem d_Mo_isPage_1 : decode b_Mo_isPage 1 = .ok (.invokevirtual 86, 3) := by decide +kernel
theorem d_Mo_isPage_4 : decode b_Mo_isPage 4 = .ok (.iload_n 1, 1) := by decide +kernel
theorem d_Mo_isPage_5 : decode b_Mo_isPage 5 = .ok (.ifCond .lt 15, 3) := by decide +kernel
theorem d_Mo_isPage_8 : decode b_Mo_isPage 8 = .ok (.iload_n 1, 1) := by decide +kernel
theorem d_Mo_isPage_9 : decode b_Mo_isPage 9 = .ok (.aload_n 0, 1) := by decide +kernel
theorem d_Mo_isPage_10 : decode b_Mo_isPage 10 = .ok (.getfield 70, 3) := by decide +kernel
theorem d_Mo_isPage_13 : decode b_Mo_isPage 13 = .ok (.if_icmp .ge 7, 3) := by decide +kernel
theorem d_Mo_isPage_16 : decode b_Mo_isPage 16 = .ok (.iconst 1, 1) := by decide +kernel
theorem d_Mo_isPage_17 : decode b_Mo_isPage 17 = .ok (.goto 4, 3) := by decide +kernel
theorem d_Mo_isPage_20 : decode b_Mo_isPage 20 = .ok (.iconst 0, 1) := by decide +kernel
theorem d_Mo_isPage_21 : decode b_Mo_isPage 21 = .ok (.ireturn, 1) := by decide +kernel
theorem d_Mo_liesIn_0 : decode b_Mo_liesIn 0 = .ok (.iconst 1, 1) := by decide +kernel
theorem d_Mo_liesIn_1 : decode b_Mo_liesIn 1 = .ok (.iload_n 2, 1) := by decide +kernel
theorem d_Mo_liesIn_2 : decode b_Mo_liesIn 2 = .ok (.ishl, 1) := by decide +kernel
theorem d_Mo_liesIn_3 : decode b_Mo_liesIn 3 = .ok (.istore_n 3, 1) := by decide +kernel
theorem d_Mo_liesIn_4 : decode b_Mo_liesIn 4 = .ok (.iconst 0, 1) := by decide +kernel
theorem d_Mo_liesIn_5 : decode b_Mo_liesIn 5 = .ok (.istore 4, 2) := by decide +kernel
theorem d_Mo_liesIn_7 : decode b_Mo_liesIn 7 = .ok (.iload 4, 2) := by decide +kernel
theorem d_Mo_liesIn_9 : decode b_Mo_liesIn 9 = .ok (.iload_n 3, 1) := by decide +kernel
theorem d_Mo_liesIn_10 : decode b_Mo_liesIn 10 = .ok (.if_icmp .eq 79, 3) := by decide +kernel
theorem d_Mo_liesIn_13 : decode b_Mo_liesIn 13 = .ok (.iload_n 3, 1) := by decide +kernel
theorem d_Mo_liesIn_14 : decode b_Mo_liesIn 14 = .ok (.istore 4, 2) := by decide +kernel
theorem d_Mo_liesIn_16 : decode b_Mo_liesIn 16 = .ok (.iconst 0, 1) := by decide +kernel
theorem d_Mo_liesIn_17 : decode b_Mo_liesIn 17 = .ok (.istore 5, 2) := by decide +kernel
theorem d_Mo_liesIn_19 : decode b_Mo_liesIn 19 = .ok (.iload 5, 2) := by decide +kernel
theorem d_Mo_liesIn_21 : decode b_Mo_liesIn 21 = .ok (.aload_n 0, 1) := by decide +kernel
theorem d_Mo_liesIn_22 : decode b_Mo_liesIn 22 = .ok (.iconst 1, 1) := by decide +kernel
theorem d_Mo_liesIn_23 : decode b_Mo_liesIn 23 = .ok (.invokevirtual 62, 3) := by decide +kernel
theorem d_Mo_liesIn_26 : decode b_Mo_liesIn 26 = .ok (.if_icmp .ge 60, 3) := by decide +kernel
theorem d_Mo_liesIn_29 : decode b_Mo_liesIn 29 = .ok (.aload_n 0, 1) := by decide +kernel
theorem d_Mo_liesIn_30 : decode b_Mo_liesIn 30 = .ok (.getfield 7, 3) := by decide +kernel
theorem d_Mo_liesIn_33 : decode b_Mo_liesIn 33 = .ok (.sipush 152, 3) := by decide +kernel
theorem d_Mo_liesIn_36 : decode b_Mo_liesIn 36 = .ok (.iload 5, 2) := by decide +kernel
theorem d_Mo_liesIn_38 : decode b_Mo_liesIn 38 = .ok (.iadd, 1) := by decide +kernel
theorem d_Mo_liesIn_39 : decode b_Mo_liesIn 39 = .ok (.laload, 1) := by decide +kernel
theorem d_Mo_liesIn_40 : decode b_Mo_liesIn 40 = .ok (.lconst 0, 1) := by decide +kernel
theorem d_Mo_liesIn_41 : decode b_Mo_liesIn 41 = .ok (.lcmp, 1) := by decide +kernel
theorem d_Mo_liesIn_42 : decode b_Mo_liesIn 42 = .ok (.ifCond .lt 38, 3) := by decide +kernel
theorem d_Mo_liesIn_45 : decode b_Mo_liesIn 45 = .ok (.iload_n 3, 1) := by decide +kernel
theorem d_Mo_liesIn_46 : decode b_Mo_liesIn 46 = .ok (.aload_n 0, 1) := by decide +kernel
theorem d_Mo_liesIn_47 : decode b_Mo_liesIn 47 = .ok (.getfield 7, 3) := by decide +kernel
theorem d_Mo_liesIn_50 : decode b_Mo_liesIn 50 = .ok (.bipush 32, 2) := by decide +kernel
theorem d_Mo_liesIn_52 : decode b_Mo_liesIn 52 = .ok (.iload 5, 2) := by decide +kernel
theorem d_Mo_liesIn_54 : decode b_Mo_liesIn 54 = .ok (.iadd, 1) := by decide +kernel
theorem d_Mo_liesIn_55 : decode b_Mo_liesIn 55 = .ok (.laload, 1) := by decide +kernel
theorem d_Mo_liesIn_56 : decode b_Mo_liesIn 56 = .ok (.l2i, 1) := by decide +kernel
theorem d_Mo_liesIn_57 : decode b_Mo_liesIn 57 = .ok (.ishr, 1) := by decide +kernel
theorem d_Mo_liesIn_58 : decode b_Mo_liesIn 58 = .ok (.iconst 1, 1) := by decide +kernel
theorem d_Mo_liesIn_59 : decode b_Mo_liesIn 59 = .ok (.iand, 1) := by decide +kernel
theorem d_Mo_liesIn_60 : decode b_Mo_liesIn 60 = .ok (.iconst 1, 1) := by decide +kernel
theorem d_Mo_liesIn_61 : decode b_Mo_liesIn 61 = .ok (.if_icmp .ne 19, 3) := by decide +kernel
theorem d_Mo_liesIn_64 : decode b_Mo_liesIn 64 = .ok (.iload_n 3, 1) := by decide +kernel
theorem d_Mo_liesIn_65 : decode b_Mo_liesIn 65 = .ok (.iconst 1, 1) := by decide +kernel
theorem d_Mo_liesIn_66 : decode b_Mo_liesIn 66 = .ok (.aload_n 0, 1) := by decide +kernel
theorem d_Mo_liesIn_67 : decode b_Mo_liesIn 67 = .ok (.getfield 7, 3) := by decide +kernel
theorem d_Mo_liesIn_70 : decode b_Mo_liesIn 70 = .ok (.bipush 92, 2) := by decide +kernel
theorem d_Mo_liesIn_72 : decode b_Mo_liesIn 72 = .ok (.iload 5, 2) := by decide +kernel
theorem d_Mo_liesIn_74 : decode b_Mo_liesIn 74 = .ok (.iadd, 1) := by decide +kernel
theorem d_Mo_liesIn_75 : decode b_Mo_liesIn 75 = .ok (.laload, 1) := by decide +kernel
theorem d_Mo_liesIn_76 : decode b_Mo_liesIn 76 = .ok (.l2i, 1) := by decide +kernel
theorem d_Mo_liesIn_77 : decode b_Mo_liesIn 77 = .ok (.ishl, 1) := by decide +kernel
theorem d_Mo_liesIn_78 : decode b_Mo_liesIn 78 = .ok (.ior, 1) := by decide +kernel
theorem d_Mo_liesIn_79 : decode b_Mo_liesIn 79 = .ok (.istore_n 3, 1) := by decide +kernel
theorem d_Mo_liesIn_80 : decode b_Mo_liesIn 80 = .ok (.iinc 5 1, 3) := by decide +kernel
theorem d_Mo_liesIn_83 : decode b_Mo_liesIn 83 = .ok (.goto (-64), 3) := by decide +kernel
theorem d_Mo_liesIn_86 : decode b_Mo_liesIn 86 = .ok (.goto (-79), 3) := by decide +kernel
theorem d_Mo_liesIn_89 : decode b_Mo_liesIn 89 = .ok (.iload_n 3, 1) := by decide +kernel
theorem d_Mo_liesIn_90 : decode b_Mo_liesIn 90 = .ok (.iload_n 1, 1) := by decide +kernel
theorem d_Mo_liesIn_91 : decode b_Mo_liesIn 91 = .ok (.ishr, 1) := by decide +kernel
theorem d_Mo_liesIn_92 : decode b_Mo_liesIn 92 = .ok (.iconst 1, 1) := by decide +kernel
theorem d_Mo_liesIn_93 : decode b_Mo_liesIn 93 = .ok (.iand, 1) := by decide +kernel
theorem d_Mo_liesIn_94 : decode b_Mo_liesIn 94 = .ok (.iconst 1, 1) := by decide +kernel
theorem d_Mo_liesIn_95 : decode b_Mo_liesIn 95 = .ok (.if_icmp .ne 7, 3) := by decide +kernel
theorem d_Mo_liesIn_98 : decode b_Mo_liesIn 98 = .ok (.iconst 1, 1) := by decide +kernel
theorem d_Mo_liesIn_99 : decode b_Mo_liesIn 99 = .ok (.goto 4, 3) := by decide +kernel
theorem d_Mo_liesIn_102 : decode b_Mo_liesIn 102 = .ok (.iconst 0, 1) := by decide +kernel
theorem d_Mo_liesIn_103 : decode b_Mo_liesIn 103 = .ok (.ireturn, 1) := by decide +kernel
theorem d_Mo_hasRoom_0 : decode b_Mo_hasRoom 0 = .ok (.aload_n 0, 1) := by decide +kernel
theorem d_Mo_hasRoom_1 : decode b_Mo_hasRoom 1 = .ok (.invokevirtual 83, 3) := by decide +kernel
theorem d_Mo_hasRoom_4 : decode b_Mo_hasRoom 4 = .ok (.aload_n 0, 1) := by decide +kernel
theorem d_Mo_hasRoom_5 : decode b_Mo_hasRoom 5 = .ok (.getfield 70, 3) := by decide +kernel
theorem d_Mo_hasRoom_8 : decode b_Mo_hasRoom 8 = .ok (.sipush 300, 3) := by decide +kernel
theorem d_Mo_hasRoom_11 : decode b_Mo_hasRoom 11 = .ok (.if_icmp .gt 7, 3) := by decide +kernel
theorem d_Mo_hasRoom_14 : decode b_Mo_hasRoom 14 = .ok (.iconst 1, 1) := by decide +kernel
theorem d_Mo_hasRoom_15 : decode b_Mo_hasRoom 15 = .ok (.goto 4, 3) := by decide +kernel
theorem d_Mo_hasRoom_18 : decode b_Mo_hasRoom 18 = .ok (.iconst 0, 1) := by decide +kernel
theorem d_Mo_hasRoom_19 : decode b_Mo_hasRoom 19 = .ok (.istore_n 1, 1) := by decide +kernel
theorem d_Mo_hasRoom_20 : decode b_Mo_hasRoom 20 = .ok (.aload_n 0, 1) := by decide +kernel
theorem d_Mo_hasRoom_21 : decode b_Mo_hasRoom 21 = .ok (.iload_n 1, 1) := by decide +kernel
theorem d_Mo_hasRoom_22 : decode b_Mo_hasRoom 22 = .ok (.putfield 49, 3) := by decide +kernel
theorem d_Mo_hasRoom_25 : decode b_Mo_hasRoom 25 = .ok (.iload_n 1, 1) := by decide +kernel
theorem d_Mo_hasRoom_26 : decode b_Mo_hasRoom 26 = .ok (.ireturn, 1) := by decide +kernel
theorem d_Mo_sheet_0 : decode b_Mo_sheet 0 = .ok (.aload_n 0, 1) := by decide +kernel
theorem d_Mo_sheet_1 : decode b_Mo_sheet 1 = .ok (.iconst 0, 1) := by decide +kernel
theorem d_Mo_sheet_2 : decode b_Mo_sheet 2 = .ok (.putfield 45, 3) := by decide +kernel
theorem d_Mo_sheet_5 : decode b_Mo_sheet 5 = .ok (.aload_n 0, 1) := by decide +kernel
theorem d_Mo_sheet_6 : decode b_Mo_sheet 6 = .ok (.iconst 0, 1) := by decide +kernel
theorem d_Mo_sheet_7 : decode b_Mo_sheet 7 = .ok (.invokevirtual 62, 3) := by decide +kernel
theorem d_Mo_sheet_10 : decode b_Mo_sheet 10 = .ok (.bipush 24, 2) := by decide +kernel
theorem d_Mo_sheet_12 : decode b_Mo_sheet 12 = .ok (.if_icmp .ne 5, 3) := by decide +kernel
theorem d_Mo_sheet_15 : decode b_Mo_sheet 15 = .ok (.iconst (-1), 1) := by decide +kernel
theorem d_Mo_sheet_16 : decode b_Mo_sheet 16 = .ok (.ireturn, 1) := by decide +kernel
theorem d_Mo_sheet_17 : decode b_Mo_sheet 17 = .ok (.aload_n 0, 1) := by decide +kernel
theorem d_Mo_sheet_18 : decode b_Mo_sheet 18 = .ok (.invokevirtual 89, 3) := by decide +kernel
theorem d_Mo_sheet_21 : decode b_Mo_sheet 21 = .ok (.aload_n 0, 1) := by decide +kernel
theorem d_Mo_sheet_22 : decode b_Mo_sheet 22 = .ok (.iconst 0, 1) := by decide +kernel
theorem d_Mo_sheet_23 : decode b_Mo_sheet 23 = .ok (.invokevirtual 62, 3) := by decide +kernel
theorem d_Mo_sheet_26 : decode b_Mo_sheet 26 = .ok (.istore_n 1, 1) := by decide +kernel
theorem d_Mo_sheet_27 : decode b_Mo_sheet 27 = .ok (.aload_n 0, 1) := by decide +kernel
theorem d_Mo_sheet_28 : decode b_Mo_sheet 28 = .ok (.getfield 7, 3) := by decide +kernel
theorem d_Mo_sheet_31 : decode b_Mo_sheet 31 = .ok (.bipush 8, 2) := by decide +kernel
theorem d_Mo_sheet_33 : decode b_Mo_sheet 33 = .ok (.iload_n 1, 1) := by decide +kernel
theorem d_Mo_sheet_34 : decode b_Mo_sheet 34 = .ok (.iadd, 1) := by decide +kernel
theorem d_Mo_sheet_35 : decode b_Mo_sheet 35 = .ok (.lconst 0, 1) := by decide +kernel
theorem d_Mo_sheet_36 : decode b_Mo_sheet 36 = .ok (.lastore, 1) := by decide +kernel
theorem d_Mo_sheet_37 : decode b_Mo_sheet 37 = .ok (.aload_n 0, 1) := by decide +kernel
theorem d_Mo_sheet_38 : decode b_Mo_sheet 38 = .ok (.getfield 7, 3) := by decide +kernel
theorem d_Mo_sheet_41 : decode b_Mo_sheet 41 = .ok (.iconst 0, 1) := by decide +kernel
theorem d_Mo_sheet_42 : decode b_Mo_sheet 42 = .ok (.dup2, 1) := by decide +kernel
theorem d_Mo_sheet_43 : decode b_Mo_sheet 43 = .ok (.laload, 1) := by decide +kernel
theorem d_Mo_sheet_44 : decode b_Mo_sheet 44 = .ok (.lconst 1, 1) := by decide +kernel
theorem d_Mo_sheet_45 : decode b_Mo_sheet 45 = .ok (.ladd, 1) := by decide +kernel
theorem d_Mo_sheet_46 : decode b_Mo_sheet 46 = .ok (.lastore, 1) := by decide +kernel
theorem d_Mo_sheet_47 : decode b_Mo_sheet 47 = .ok (.aload_n 0, 1) := by decide +kernel
theorem d_Mo_sheet_48 : decode b_Mo_sheet 48 = .ok (.invokevirtual 92, 3) := by decide +kernel
theorem d_Mo_sheet_51 : decode b_Mo_sheet 51 = .ok (.iload_n 1, 1) := by decide +kernel
theorem d_Mo_sheet_52 : decode b_Mo_sheet 52 = .ok (.ireturn, 1) := by decide +kernel
theorem d_Mo_addPlacement_0 : decode b_Mo_addPlacement 0 = .ok (.aload_n 0, 1) := by decide +kernel
theorem d_Mo_addPlacement_1 : decode b_Mo_addPlacement 1 = .ok (.iconst 1, 1) := by decide +kernel
theorem d_Mo_addPlacement_2 : decode b_Mo_addPlacement 2 = .ok (.invokevirtual 62, 3) := by decide +kernel
theorem d_Mo_addPlacement_5 : decode b_Mo_addPlacement 5 = .ok (.istore_n 3, 1) := by decide +kernel
theorem d_Mo_addPlacement_6 : decode b_Mo_addPlacement 6 = .ok (.aload_n 0, 1) := by decide +kernel
theorem d_Mo_addPlacement_7 : decode b_Mo_addPlacement 7 = .ok (.getfield 7, 3) := by decide +kernel
theorem d_Mo_addPlacement_10 : decode b_Mo_addPlacement 10 = .ok (.bipush 32, 2) := by decide +kernel
theorem d_Mo_addPlacement_12 : decode b_Mo_addPlacement 12 = .ok (.iload_n 3, 1) := by decide +kernel
theorem d_Mo_addPlacement_13 : decode b_Mo_addPlacement 13 = .ok (.iadd, 1) := by decide +kernel
theorem d_Mo_addPlacement_14 : decode b_Mo_addPlacement 14 = .ok (.iload_n 1, 1) := by decide +kernel
theorem d_Mo_addPlacement_15 : decode b_Mo_addPlacement 15 = .ok (.i2l, 1) := by decide +kernel
theorem d_Mo_addPlacement_16 : decode b_Mo_addPlacement 16 = .ok (.lastore, 1) := by decide +kernel
theorem d_Mo_addPlacement_17 : decode b_Mo_addPlacement 17 = .ok (.aload_n 0, 1) := by decide +kernel
theorem d_Mo_addPlacement_18 : decode b_Mo_addPlacement 18 = .ok (.getfield 7, 3) := by decide +kernel
theorem d_Mo_addPlacement_21 : decode b_Mo_addPlacement 21 = .ok (.bipush 92, 2) := by decide +kernel
theorem d_Mo_addPlacement_23 : decode b_Mo_addPlacement 23 = .ok (.iload_n 3, 1) := by decide +kernel
theorem d_Mo_addPlacement_24 : decode b_Mo_addPlacement 24 = .ok (.iadd, 1) := by decide +kernel
theorem d_Mo_addPlacement_25 : decode b_Mo_addPlacement 25 = .ok (.iload_n 2, 1) := by decide +kernel
theorem d_Mo_addPlacement_26 : decode b_Mo_addPlacement 26 = .ok (.i2l, 1) := by decide +kernel
theorem d_Mo_addPlacement_27 : decode b_Mo_addPlacement 27 = .ok (.lastore, 1) := by decide +kernel
theorem d_Mo_addPlacement_28 : decode b_Mo_addPlacement 28 = .ok (.aload_n 0, 1) := by decide +kernel
theorem d_Mo_addPlacement_29 : decode b_Mo_addPlacement 29 = .ok (.getfield 7, 3) := by decide +kernel
theorem d_Mo_addPlacement_32 : decode b_Mo_addPlacement 32 = .ok (.sipush 152, 3) := by decide +kernel
theorem d_Mo_addPlacement_35 : decode b_Mo_addPlacement 35 = .ok (.iload_n 3, 1) := by decide +kernel
theorem d_Mo_addPlacement_36 : decode b_Mo_addPlacement 36 = .ok (.iadd, 1) := by decide +kernel
theorem d_Mo_addPlacement_37 : decode b_Mo_addPlacement 37 = .ok (.aload_n 0, 1) := by decide +kernel
theorem d_Mo_addPlacement_38 : decode b_Mo_addPlacement 38 = .ok (.getfield 7, 3) := by decide +kernel
theorem d_Mo_addPlacement_41 : decode b_Mo_addPlacement 41 = .ok (.bipush 6, 2) := by decide +kernel
theorem d_Mo_addPlacement_43 : decode b_Mo_addPlacement 43 = .ok (.laload, 1) := by decide +kernel
theorem d_Mo_addPlacement_44 : decode b_Mo_addPlacement 44 = .ok (.lastore, 1) := by decide +kernel
theorem d_Mo_addPlacement_45 : decode b_Mo_addPlacement 45 = .ok (.iconst 0, 1) := by decide +kernel
theorem d_Mo_addPlacement_46 : decode b_Mo_addPlacement 46 = .ok (.istore 4, 2) := by decide +kernel
theorem d_Mo_addPlacement_48 : decode b_Mo_addPlacement 48 = .ok (.iload 4, 2) := by decide +kernel
theorem d_Mo_addPlacement_50 : decode b_Mo_addPlacement 50 = .ok (.bipush 32, 2) := by decide +kernel
theorem d_Mo_addPlacement_52 : decode b_Mo_addPlacement 52 = .ok (.if_icmp .ge 26, 3) := by decide +kernel
theorem d_Mo_addPlacement_55 : decode b_Mo_addPlacement 55 = .ok (.aload_n 0, 1) := by decide +kernel
theorem d_Mo_addPlacement_56 : decode b_Mo_addPlacement 56 = .ok (.getfield 7, 3) := by decide +kernel
theorem d_Mo_addPlacement_59 : decode b_Mo_addPlacement 59 = .ok (.sipush 212, 3) := by decide +kernel
theorem d_Mo_addPlacement_62 : decode b_Mo_addPlacement 62 = .ok (.bipush 32, 2) := by decide +kernel
theorem d_Mo_addPlacement_64 : decode b_Mo_addPlacement 64 = .ok (.iload_n 3, 1) := by decide +kernel
theorem d_Mo_addPlacement_65 : decode b_Mo_addPlacement 65 = .ok (.imul, 1) := by decide +kernel
theorem d_Mo_addPlacement_66 : decode b_Mo_addPlacement 66 = .ok (.iadd, 1) := by decide +kernel
theorem d_Mo_addPlacement_67 : decode b_Mo_addPlacement 67 = .ok (.iload 4, 2) := by decide +kernel
theorem d_Mo_addPlacement_69 : decode b_Mo_addPlacement 69 = .ok (.iadd, 1) := by decide +kernel
theorem d_Mo_addPlacement_70 : decode b_Mo_addPlacement 70 = .ok (.lconst 0, 1) := by decide +kernel
theorem d_Mo_addPlacement_71 : decode b_Mo_addPlacement 71 = .ok (.lastore, 1) := by decide +kernel
theorem d_Mo_addPlacement_72 : decode b_Mo_addPlacement 72 = .ok (.iinc 4 1, 3) := by decide +kernel
theorem d_Mo_addPlacement_75 : decode b_Mo_addPlacement 75 = .ok (.goto (-27), 3) := by decide +kernel
theorem d_Mo_addPlacement_78 : decode b_Mo_addPlacement 78 = .ok (.aload_n 0, 1) := by decide +kernel
theorem d_Mo_addPlacement_79 : decode b_Mo_addPlacement 79 = .ok (.getfield 7, 3) := by decide +kernel
theorem d_Mo_addPlacement_82 : decode b_Mo_addPlacement 82 = .ok (.bipush 6, 2) := by decide +kernel
theorem d_Mo_addPlacement_84 : decode b_Mo_addPlacement 84 = .ok (.dup2, 1) := by decide +kernel
theorem d_Mo_addPlacement_85 : decode b_Mo_addPlacement 85 = .ok (.laload, 1) := by decide +kernel
theorem d_Mo_addPlacement_86 : decode b_Mo_addPlacement 86 = .ok (.lconst 1, 1) := by decide +kernel
theorem d_Mo_addPlacement_87 : decode b_Mo_addPlacement 87 = .ok (.ladd, 1) := by decide +kernel
theorem d_Mo_addPlacement_88 : decode b_Mo_addPlacement 88 = .ok (.lastore, 1) := by decide +kernel
theorem d_Mo_addPlacement_89 : decode b_Mo_addPlacement 89 = .ok (.aload_n 0, 1) := by decide +kernel
theorem d_Mo_addPlacement_90 : decode b_Mo_addPlacement 90 = .ok (.getfield 7, 3) := by decide +kernel
theorem d_Mo_addPlacement_93 : decode b_Mo_addPlacement 93 = .ok (.iconst 1, 1) := by decide +kernel
theorem d_Mo_addPlacement_94 : decode b_Mo_addPlacement 94 = .ok (.dup2, 1) := by decide +kernel
theorem d_Mo_addPlacement_95 : decode b_Mo_addPlacement 95 = .ok (.laload, 1) := by decide +kernel
theorem d_Mo_addPlacement_96 : decode b_Mo_addPlacement 96 = .ok (.lconst 1, 1) := by decide +kernel
theorem d_Mo_addPlacement_97 : decode b_Mo_addPlacement 97 = .ok (.ladd, 1) := by decide +kernel
theorem d_Mo_addPlacement_98 : decode b_Mo_addPlacement 98 = .ok (.lastore, 1) := by decide +kernel
theorem d_Mo_addPlacement_99 : decode b_Mo_addPlacement 99 = .ok (.iload_n 3, 1) := by decide +kernel
theorem d_Mo_addPlacement_100 : decode b_Mo_addPlacement 100 = .ok (.ireturn, 1) := by decide +kernel
theorem d_Mo_place_0 : decode b_Mo_place 0 = .ok (.aload_n 0, 1) := by decide +kernel
theorem d_Mo_place_1 : decode b_Mo_place 1 = .ok (.aload_n 0, 1) := by decide +kernel
theorem d_Mo_place_2 : decode b_Mo_place 2 = .ok (.iload_n 1, 1) := by decide +kernel
theorem d_Mo_place_3 : decode b_Mo_place 3 = .ok (.invokevirtual 95, 3) := by decide +kernel
theorem d_Mo_place_6 : decode b_Mo_place 6 = .ok (.ifCond .eq 15, 3) := by decide +kernel
theorem d_Mo_place_9 : decode b_Mo_place 9 = .ok (.aload_n 0, 1) := by decide +kernel
theorem d_Mo_place_10 : decode b_Mo_place 10 = .ok (.iload_n 2, 1) := by decide +kernel
theorem d_Mo_place_11 : decode b_Mo_place 11 = .ok (.invokevirtual 95, 3) := by decide +kernel
theorem d_Mo_place_14 : decode b_Mo_place 14 = .ok (.ifCond .eq 7, 3) := by decide +kernel
theorem d_Mo_place_17 : decode b_Mo_place 17 = .ok (.iconst 0, 1) := by decide +kernel
theorem d_Mo_place_18 : decode b_Mo_place 18 = .ok (.goto 4, 3) := by decide +kernel
theorem d_Mo_place_21 : decode b_Mo_place 21 = .ok (.iconst 1, 1) := by decide +kernel
theorem d_Mo_place_22 : decode b_Mo_place 22 = .ok (.putfield 45, 3) := by decide +kernel
theorem d_Mo_place_25 : decode b_Mo_place 25 = .ok (.aload_n 0, 1) := by decide +kernel
theorem d_Mo_place_26 : decode b_Mo_place 26 = .ok (.getfield 45, 3) := by decide +kernel
theorem d_Mo_place_29 : decode b_Mo_place 29 = .ok (.ifCond .eq 5, 3) := by decide +kernel
theorem d_Mo_place_32 : decode b_Mo_place 32 = .ok (.iconst 0, 1) := by decide +kernel
theorem d_Mo_place_33 : decode b_Mo_place 33 = .ok (.ireturn, 1) := by decide +kernel
theorem d_Mo_place_34 : decode b_Mo_place 34 = .ok (.aload_n 0, 1) := by decide +kernel
theorem d_Mo_place_35 : decode b_Mo_place 35 = .ok (.iconst 1, 1) := by decide +kernel
theorem d_Mo_place_36 : decode b_Mo_place 36 = .ok (.invokevirtual 62, 3) := by decide +kernel
theorem d_Mo_place_39 : decode b_Mo_place 39 = .ok (.bipush 60, 2) := by decide +kernel
theorem d_Mo_place_41 : decode b_Mo_place 41 = .ok (.if_icmp .eq 12, 3) := by decide +kernel
theorem d_Mo_place_44 : decode b_Mo_place 44 = .ok (.aload_n 0, 1) := by decide +kernel
theorem d_Mo_place_45 : decode b_Mo_place 45 = .ok (.iload_n 1, 1) := by decide +kernel
theorem d_Mo_place_46 : decode b_Mo_place 46 = .ok (.iload_n 2, 1) := by decide +kernel
theorem d_Mo_place_47 : decode b_Mo_place 47 = .ok (.invokevirtual 98, 3) := by decide +kernel
theorem d_Mo_place_50 : decode b_Mo_place 50 = .ok (.ifCond .eq 5, 3) := by decide +kernel
theorem d_Mo_place_53 : decode b_Mo_place 53 = .ok (.iconst (-1), 1) := by decide +kernel
theorem d_Mo_place_54 : decode b_Mo_place 54 = .ok (.ireturn, 1) := by decide +kernel
theorem d_Mo_place_55 : decode b_Mo_place 55 = .ok (.aload_n 0, 1) := by decide +kernel
theorem d_Mo_place_56 : decode b_Mo_place 56 = .ok (.invokevirtual 89, 3) := by decide +kernel
theorem d_Mo_place_59 : decode b_Mo_place 59 = .ok (.aload_n 0, 1) := by decide +kernel
theorem d_Mo_place_60 : decode b_Mo_place 60 = .ok (.iload_n 1, 1) := by decide +kernel
theorem d_Mo_place_61 : decode b_Mo_place 61 = .ok (.iload_n 2, 1) := by decide +kernel
theorem d_Mo_place_62 : decode b_Mo_place 62 = .ok (.invokevirtual 102, 3) := by decide +kernel
theorem d_Mo_place_65 : decode b_Mo_place 65 = .ok (.istore_n 3, 1) := by decide +kernel
theorem d_Mo_place_66 : decode b_Mo_place 66 = .ok (.aload_n 0, 1) := by decide +kernel
theorem d_Mo_place_67 : decode b_Mo_place 67 = .ok (.invokevirtual 106, 3) := by decide +kernel
theorem d_Mo_place_70 : decode b_Mo_place 70 = .ok (.ifCond .ne 9, 3) := by decide +kernel
theorem d_Mo_place_73 : decode b_Mo_place 73 = .ok (.aload_n 0, 1) := by decide +kernel
theorem d_Mo_place_74 : decode b_Mo_place 74 = .ok (.invokevirtual 110, 3) := by decide +kernel
theorem d_Mo_place_77 : decode b_Mo_place 77 = .ok (.iconst (-1), 1) := by decide +kernel
theorem d_Mo_place_78 : decode b_Mo_place 78 = .ok (.ireturn, 1) := by decide +kernel
theorem d_Mo_place_79 : decode b_Mo_place 79 = .ok (.aload_n 0, 1) := by decide +kernel
theorem d_Mo_place_80 : decode b_Mo_place 80 = .ok (.invokevirtual 92, 3) := by decide +kernel
theorem d_Mo_place_83 : decode b_Mo_place 83 = .ok (.iload_n 3, 1) := by decide +kernel
theorem d_Mo_place_84 : decode b_Mo_place 84 = .ok (.ireturn, 1) := by decide +kernel
theorem d_Mo_remove_0 : decode b_Mo_remove 0 = .ok (.aload_n 0, 1) := by decide +kernel
theorem d_Mo_remove_1 : decode b_Mo_remove 1 = .ok (.aload_n 0, 1) := by decide +kernel
theorem d_Mo_remove_2 : decode b_Mo_remove 2 = .ok (.iload_n 1, 1) := by decide +kernel
theorem d_Mo_remove_3 : decode b_Mo_remove 3 = .ok (.invokevirtual 113, 3) := by decide +kernel
theorem d_Mo_remove_6 : decode b_Mo_remove 6 = .ok (.ifCond .eq 7, 3) := by decide +kernel
theorem d_Mo_remove_9 : decode b_Mo_remove 9 = .ok (.iconst 0, 1) := by decide +kernel
theorem d_Mo_remove_10 : decode b_Mo_remove 10 = .ok (.goto 4, 3) := by decide +kernel
theorem d_Mo_remove_13 : decode b_Mo_remove 13 = .ok (.iconst 1, 1) := by decide +kernel
theorem d_Mo_remove_14 : decode b_Mo_remove 14 = .ok (.putfield 45, 3) := by decide +kernel
theorem d_Mo_remove_17 : decode b_Mo_remove 17 = .ok (.aload_n 0, 1) := by decide +kernel
theorem d_Mo_remove_18 : decode b_Mo_remove 18 = .ok (.getfield 45, 3) := by decide +kernel
theorem d_Mo_remove_21 : decode b_Mo_remove 21 = .ok (.ifCond .eq 5, 3) := by decide +kernel
theorem d_Mo_remove_24 : decode b_Mo_remove 24 = .ok (.iconst 0, 1) := by decide +kernel
theorem d_Mo_remove_25 : decode b_Mo_remove 25 = .ok (.ireturn, 1) := by decide +kernel
theorem d_Mo_remove_26 : decode b_Mo_remove 26 = .ok (.aload_n 0, 1) := by decide +kernel
theorem d_Mo_remove_27 : decode b_Mo_remove 27 = .ok (.invokevirtual 89, 3) := by decide +kernel
theorem d_Mo_remove_30 : decode b_Mo_remove 30 = .ok (.aload_n 0, 1) := by decide +kernel
theorem d_Mo_remove_31 : decode b_Mo_remove 31 = .ok (.getfield 7, 3) := by decide +kernel
theorem d_Mo_remove_34 : decode b_Mo_remove 34 = .ok (.sipush 152, 3) := by decide +kernel
theorem d_Mo_remove_37 : decode b_Mo_remove 37 = .ok (.iload_n 1, 1) := by decide +kernel
theorem d_Mo_remove_38 : decode b_Mo_remove 38 = .ok (.iadd, 1) := by decide +kernel
theorem d_Mo_remove_39 : decode b_Mo_remove 39 = .ok (.ldc2_w 77, 3) := by decide +kernel
theorem d_Mo_remove_42 : decode b_Mo_remove 42 = .ok (.lastore, 1) := by decide +kernel
theorem d_Mo_remove_43 : decode b_Mo_remove 43 = .ok (.iconst 0, 1) := by decide +kernel
theorem d_Mo_remove_44 : decode b_Mo_remove 44 = .ok (.istore_n 2, 1) := by decide +kernel
theorem d_Mo_remove_45 : decode b_Mo_remove 45 = .ok (.iload_n 2, 1) := by decide +kernel
theorem d_Mo_remove_46 : decode b_Mo_remove 46 = .ok (.bipush 32, 2) := by decide +kernel
theorem d_Mo_remove_48 : decode b_Mo_remove 48 = .ok (.if_icmp .ge 25, 3) := by decide +kernel
theorem d_Mo_remove_51 : decode b_Mo_remove 51 = .ok (.aload_n 0, 1) := by decide +kernel
theorem d_Mo_remove_52 : decode b_Mo_remove 52 = .ok (.getfield 7, 3) := by decide +kernel
theorem d_Mo_remove_55 : decode b_Mo_remove 55 = .ok (.sipush 212, 3) := by decide +kernel
theorem d_Mo_remove_58 : decode b_Mo_remove 58 = .ok (.bipush 32, 2) := by decide +kernel
theorem d_Mo_remove_60 : decode b_Mo_remove 60 = .ok (.iload_n 1, 1) := by decide +kernel
theorem d_Mo_remove_61 : decode b_Mo_remove 61 = .ok (.imul, 1) := by decide +kernel
theorem d_Mo_remove_62 : decode b_Mo_remove 62 = .ok (.iadd, 1) := by decide +kernel
theorem d_Mo_remove_63 : decode b_Mo_remove 63 = .ok (.iload_n 2, 1) := by decide +kernel
theorem d_Mo_remove_64 : decode b_Mo_remove 64 = .ok (.iadd, 1) := by decide +kernel
theorem d_Mo_remove_65 : decode b_Mo_remove 65 = .ok (.lconst 0, 1) := by decide +kernel
theorem d_Mo_remove_66 : decode b_Mo_remove 66 = .ok (.lastore, 1) := by decide +kernel
theorem d_Mo_remove_67 : decode b_Mo_remove 67 = .ok (.iinc 2 1, 3) := by decide +kernel
theorem d_Mo_remove_70 : decode b_Mo_remove 70 = .ok (.goto (-25), 3) := by decide +kernel
theorem d_Mo_remove_73 : decode b_Mo_remove 73 = .ok (.aload_n 0, 1) := by decide +kernel
theorem d_Mo_remove_74 : decode b_Mo_remove 74 = .ok (.invokevirtual 92, 3) := by decide +kernel
theorem d_Mo_remove_77 : decode b_Mo_remove 77 = .ok (.iconst 1, 1) := by decide +kernel
theorem d_Mo_remove_78 : decode b_Mo_remove 78 = .ok (.ireturn, 1) := by decide +kernel
theorem d_Mo_move_0 : decode b_Mo_move 0 = .ok (.aload_n 0, 1) := by decide +kernel
theorem d_Mo_move_1 : decode b_Mo_move 1 = .ok (.aload_n 0, 1) := by decide +kernel
theorem d_Mo_move_2 : decode b_Mo_move 2 = .ok (.iload_n 1, 1) := by decide +kernel
theorem d_Mo_move_3 : decode b_Mo_move 3 = .ok (.invokevirtual 113, 3) := by decide +kernel
theorem d_Mo_move_6 : decode b_Mo_move 6 = .ok (.ifCond .eq 15, 3) := by decide +kernel
theorem d_Mo_move_9 : decode b_Mo_move 9 = .ok (.aload_n 0, 1) := by decide +kernel
theorem d_Mo_move_10 : decode b_Mo_move 10 = .ok (.iload_n 2, 1) := by decide +kernel
theorem d_Mo_move_11 : decode b_Mo_move 11 = .ok (.invokevirtual 95, 3) := by decide +kernel
theorem d_Mo_move_14 : decode b_Mo_move 14 = .ok (.ifCond .eq 7, 3) := by decide +kernel
theorem d_Mo_move_17 : decode b_Mo_move 17 = .ok (.iconst 0, 1) := by decide +kernel
theorem d_Mo_move_18 : decode b_Mo_move 18 = .ok (.goto 4, 3) := by decide +kernel
theorem d_Mo_move_21 : decode b_Mo_move 21 = .ok (.iconst 1, 1) := by decide +kernel
theorem d_Mo_move_22 : decode b_Mo_move 22 = .ok (.putfield 45, 3) := by decide +kernel
theorem d_Mo_move_25 : decode b_Mo_move 25 = .ok (.aload_n 0, 1) := by decide +kernel
theorem d_Mo_move_26 : decode b_Mo_move 26 = .ok (.getfield 45, 3) := by decide +kernel
theorem d_Mo_move_29 : decode b_Mo_move 29 = .ok (.ifCond .ne 21, 3) := by decide +kernel
theorem d_Mo_move_32 : decode b_Mo_move 32 = .ok (.aload_n 0, 1) := by decide +kernel
theorem d_Mo_move_33 : decode b_Mo_move 33 = .ok (.iload_n 2, 1) := by decide +kernel
theorem d_Mo_move_34 : decode b_Mo_move 34 = .ok (.aload_n 0, 1) := by decide +kernel
theorem d_Mo_move_35 : decode b_Mo_move 35 = .ok (.getfield 7, 3) := by decide +kernel
theorem d_Mo_move_38 : decode b_Mo_move 38 = .ok (.bipush 92, 2) := by decide +kernel
theorem d_Mo_move_40 : decode b_Mo_move 40 = .ok (.iload_n 1, 1) := by decide +kernel
theorem d_Mo_move_41 : decode b_Mo_move 41 = .ok (.iadd, 1) := by decide +kernel
theorem d_Mo_move_42 : decode b_Mo_move 42 = .ok (.laload, 1) := by decide +kernel
theorem d_Mo_move_43 : decode b_Mo_move 43 = .ok (.l2i, 1) := by decide +kernel
theorem d_Mo_move_44 : decode b_Mo_move 44 = .ok (.invokevirtual 98, 3) := by decide +kernel
theorem d_Mo_move_47 : decode b_Mo_move 47 = .ok (.ifCond .eq 5, 3) := by decide +kernel
theorem d_Mo_move_50 : decode b_Mo_move 50 = .ok (.iconst 0, 1) := by decide +kernel
theorem d_Mo_move_51 : decode b_Mo_move 51 = .ok (.ireturn, 1) := by decide +kernel
theorem d_Mo_move_52 : decode b_Mo_move 52 = .ok (.aload_n 0, 1) := by decide +kernel
theorem d_Mo_move_53 : decode b_Mo_move 53 = .ok (.invokevirtual 89, 3) := by decide +kernel
theorem d_Mo_move_56 : decode b_Mo_move 56 = .ok (.aload_n 0, 1) := by decide +kernel
theorem d_Mo_move_57 : decode b_Mo_move 57 = .ok (.getfield 7, 3) := by decide +kernel
theorem d_Mo_move_60 : decode b_Mo_move 60 = .ok (.bipush 32, 2) := by decide +kernel
theorem d_Mo_move_62 : decode b_Mo_move 62 = .ok (.iload_n 1, 1) := by decide +kernel
theorem d_Mo_move_63 : decode b_Mo_move 63 = .ok (.iadd, 1) := by decide +kernel
theorem d_Mo_move_64 : decode b_Mo_move 64 = .ok (.iload_n 2, 1) := by decide +kernel
theorem d_Mo_move_65 : decode b_Mo_move 65 = .ok (.i2l, 1) := by decide +kernel
theorem d_Mo_move_66 : decode b_Mo_move 66 = .ok (.lastore, 1) := by decide +kernel
theorem d_Mo_move_67 : decode b_Mo_move 67 = .ok (.aload_n 0, 1) := by decide +kernel
theorem d_Mo_move_68 : decode b_Mo_move 68 = .ok (.getfield 7, 3) := by decide +kernel
theorem d_Mo_move_71 : decode b_Mo_move 71 = .ok (.sipush 152, 3) := by decide +kernel
theorem d_Mo_move_74 : decode b_Mo_move 74 = .ok (.iload_n 1, 1) := by decide +kernel
theorem d_Mo_move_75 : decode b_Mo_move 75 = .ok (.iadd, 1) := by decide +kernel
theorem d_Mo_move_76 : decode b_Mo_move 76 = .ok (.aload_n 0, 1) := by decide +kernel
theorem d_Mo_move_77 : decode b_Mo_move 77 = .ok (.getfield 7, 3) := by decide +kernel
theorem d_Mo_move_80 : decode b_Mo_move 80 = .ok (.bipush 6, 2) := by decide +kernel
theorem d_Mo_move_82 : decode b_Mo_move 82 = .ok (.laload, 1) := by decide +kernel
theorem d_Mo_move_83 : decode b_Mo_move 83 = .ok (.lastore, 1) := by decide +kernel
theorem d_Mo_move_84 : decode b_Mo_move 84 = .ok (.aload_n 0, 1) := by decide +kernel
theorem d_Mo_move_85 : decode b_Mo_move 85 = .ok (.getfield 7, 3) := by decide +kernel
theorem d_Mo_move_88 : decode b_Mo_move 88 = .ok (.bipush 6, 2) := by decide +kernel
theorem d_Mo_move_90 : decode b_Mo_move 90 = .ok (.dup2, 1) := by decide +kernel
theorem d_Mo_move_91 : decode b_Mo_move 91 = .ok (.laload, 1) := by decide +kernel
theorem d_Mo_move_92 : decode b_Mo_move 92 = .ok (.lconst 1, 1) := by decide +kernel
theorem d_Mo_move_93 : decode b_Mo_move 93 = .ok (.ladd, 1) := by decide +kernel
theorem d_Mo_move_94 : decode b_Mo_move 94 = .ok (.lastore, 1) := by decide +kernel
theorem d_Mo_move_95 : decode b_Mo_move 95 = .ok (.iconst 0, 1) := by decide +kernel
theorem d_Mo_move_96 : decode b_Mo_move 96 = .ok (.istore_n 3, 1) := by decide +kernel
theorem d_Mo_move_97 : decode b_Mo_move 97 = .ok (.iconst 0, 1) := by decide +kernel
theorem d_Mo_move_98 : decode b_Mo_move 98 = .ok (.istore 4, 2) := by decide +kernel
theorem d_Mo_move_100 : decode b_Mo_move 100 = .ok (.iload 4, 2) := by decide +kernel
theorem d_Mo_move_102 : decode b_Mo_move 102 = .ok (.bipush 32, 2) := by decide +kernel
theorem d_Mo_move_104 : decode b_Mo_move 104 = .ok (.if_icmp .ge 75, 3) := by decide +kernel
theorem d_Mo_move_107 : decode b_Mo_move 107 = .ok (.aload_n 0, 1) := by decide +kernel
theorem d_Mo_move_108 : decode b_Mo_move 108 = .ok (.getfield 7, 3) := by decide +kernel
theorem d_Mo_move_111 : decode b_Mo_move 111 = .ok (.sipush 212, 3) := by decide +kernel
theorem d_Mo_move_114 : decode b_Mo_move 114 = .ok (.bipush 32, 2) := by decide +kernel
theorem d_Mo_move_116 : decode b_Mo_move 116 = .ok (.iload_n 1, 1) := by decide +kernel
theorem d_Mo_move_117 : decode b_Mo_move 117 = .ok (.imul, 1) := by decide +kernel
theorem d_Mo_move_118 : decode b_Mo_move 118 = .ok (.iadd, 1) := by decide +kernel
theorem d_Mo_move_119 : decode b_Mo_move 119 = .ok (.iload 4, 2) := by decide +kernel
theorem d_Mo_move_121 : decode b_Mo_move 121 = .ok (.iadd, 1) := by decide +kernel
theorem d_Mo_move_122 : decode b_Mo_move 122 = .ok (.laload, 1) := by decide +kernel
theorem d_Mo_move_123 : decode b_Mo_move 123 = .ok (.lstore 5, 2) := by decide +kernel
theorem d_Mo_move_125 : decode b_Mo_move 125 = .ok (.lload 5, 2) := by decide +kernel
theorem d_Mo_move_127 : decode b_Mo_move 127 = .ok (.lconst 0, 1) := by decide +kernel
theorem d_Mo_move_128 : decode b_Mo_move 128 = .ok (.lcmp, 1) := by decide +kernel
theorem d_Mo_move_129 : decode b_Mo_move 129 = .ok (.ifCond .eq 44, 3) := by decide +kernel
theorem d_Mo_move_132 : decode b_Mo_move 132 = .ok (.aload_n 0, 1) := by decide +kernel
theorem d_Mo_move_133 : decode b_Mo_move 133 = .ok (.iload_n 2, 1) := by decide +kernel
theorem d_Mo_move_134 : decode b_Mo_move 134 = .ok (.i2l, 1) := by decide +kernel
theorem d_Mo_move_135 : decode b_Mo_move 135 = .ok (.lload 5, 2) := by decide +kernel
theorem d_Mo_move_137 : decode b_Mo_move 137 = .ok (.l2i, 1) := by decide +kernel
theorem d_Mo_move_138 : decode b_Mo_move 138 = .ok (.iconst 1, 1) := by decide +kernel
theorem d_Mo_move_139 : decode b_Mo_move 139 = .ok (.isub, 1) := by decide +kernel
theorem d_Mo_move_140 : decode b_Mo_move 140 = .ok (.invokevirtual 116, 3) := by decide +kernel
theorem d_Mo_move_143 : decode b_Mo_move 143 = .ok (.ifCond .eq 6, 3) := by decide +kernel
theorem d_Mo_move_146 : decode b_Mo_move 146 = .ok (.goto 27, 3) := by decide +kernel
theorem d_Mo_move_149 : decode b_Mo_move 149 = .ok (.aload_n 0, 1) := by decide +kernel
theorem d_Mo_move_150 : decode b_Mo_move 150 = .ok (.getfield 7, 3) := by decide +kernel
theorem d_Mo_move_153 : decode b_Mo_move 153 = .ok (.sipush 212, 3) := by decide +kernel
theorem d_Mo_move_156 : decode b_Mo_move 156 = .ok (.bipush 32, 2) := by decide +kernel
theorem d_Mo_move_158 : decode b_Mo_move 158 = .ok (.iload_n 1, 1) := by decide +kernel
theorem d_Mo_move_159 : decode b_Mo_move 159 = .ok (.imul, 1) := by decide +kernel
theorem d_Mo_move_160 : decode b_Mo_move 160 = .ok (.iadd, 1) := by decide +kernel
theorem d_Mo_move_161 : decode b_Mo_move 161 = .ok (.iload 4, 2) := by decide +kernel
theorem d_Mo_move_163 : decode b_Mo_move 163 = .ok (.iadd, 1) := by decide +kernel
theorem d_Mo_move_164 : decode b_Mo_move 164 = .ok (.lconst 0, 1) := by decide +kernel
theorem d_Mo_move_165 : decode b_Mo_move 165 = .ok (.lastore, 1) := by decide +kernel
theorem d_Mo_move_166 : decode b_Mo_move 166 = .ok (.iload_n 3, 1) := by decide +kernel
theorem d_Mo_move_167 : decode b_Mo_move 167 = .ok (.iconst 1, 1) := by decide +kernel
theorem d_Mo_move_168 : decode b_Mo_move 168 = .ok (.iload 4, 2) := by decide +kernel
theorem d_Mo_move_170 : decode b_Mo_move 170 = .ok (.ishl, 1) := by decide +kernel
theorem d_Mo_move_171 : decode b_Mo_move 171 = .ok (.ior, 1) := by decide +kernel
theorem d_Mo_move_172 : decode b_Mo_move 172 = .ok (.istore_n 3, 1) := by decide +kernel
theorem d_Mo_move_173 : decode b_Mo_move 173 = .ok (.iinc 4 1, 3) := by decide +kernel
theorem d_Mo_move_176 : decode b_Mo_move 176 = .ok (.goto (-76), 3) := by decide +kernel
theorem d_Mo_move_179 : decode b_Mo_move 179 = .ok (.aload_n 0, 1) := by decide +kernel
theorem d_Mo_move_180 : decode b_Mo_move 180 = .ok (.invokevirtual 106, 3) := by decide +kernel
theorem d_Mo_move_183 : decode b_Mo_move 183 = .ok (.ifCond .ne 9, 3) := by decide +kernel
theorem d_Mo_move_186 : decode b_Mo_move 186 = .ok (.aload_n 0, 1) := by decide +kernel
theorem d_Mo_move_187 : decode b_Mo_move 187 = .ok (.invokevirtual 110, 3) := by decide +kernel
theorem d_Mo_move_190 : decode b_Mo_move 190 = .ok (.iconst 0, 1) := by decide +kernel
theorem d_Mo_move_191 : decode b_Mo_move 191 = .ok (.ireturn, 1) := by decide +kernel
theorem d_Mo_move_192 : decode b_Mo_move 192 = .ok (.aload_n 0, 1) := by decide +kernel
theorem d_Mo_move_193 : decode b_Mo_move 193 = .ok (.iload_n 3, 1) := by decide +kernel
theorem d_Mo_move_194 : decode b_Mo_move 194 = .ok (.putfield 59, 3) := by decide +kernel
theorem d_Mo_move_197 : decode b_Mo_move 197 = .ok (.aload_n 0, 1) := by decide +kernel
theorem d_Mo_move_198 : decode b_Mo_move 198 = .ok (.invokevirtual 92, 3) := by decide +kernel
theorem d_Mo_move_201 : decode b_Mo_move 201 = .ok (.iconst 1, 1) := by decide +kernel
theorem d_Mo_move_202 : decode b_Mo_move 202 = .ok (.ireturn, 1) := by decide +kernel
theorem d_Mo_told_0 : decode b_Mo_told 0 = .ok (.aload_n 0, 1) := by decide +kernel
theorem d_Mo_told_1 : decode b_Mo_told 1 = .ok (.iconst 0, 1) := by decide +kernel
theorem d_Mo_told_2 : decode b_Mo_told 2 = .ok (.putfield 45, 3) := by decide +kernel
theorem d_Mo_told_5 : decode b_Mo_told 5 = .ok (.iload_n 1, 1) := by decide +kernel
theorem d_Mo_told_6 : decode b_Mo_told 6 = .ok (.istore_n 2, 1) := by decide +kernel
theorem d_Mo_told_7 : decode b_Mo_told 7 = .ok (.iconst 0, 1) := by decide +kernel
theorem d_Mo_told_8 : decode b_Mo_told 8 = .ok (.istore_n 3, 1) := by decide +kernel
theorem d_Mo_told_9 : decode b_Mo_told 9 = .ok (.iload_n 3, 1) := by decide +kernel
theorem d_Mo_told_10 : decode b_Mo_told 10 = .ok (.bipush 32, 2) := by decide +kernel
theorem d_Mo_told_12 : decode b_Mo_told 12 = .ok (.if_icmp .ge 36, 3) := by decide +kernel
theorem d_Mo_told_15 : decode b_Mo_told 15 = .ok (.iload_n 1, 1) := by decide +kernel
theorem d_Mo_told_16 : decode b_Mo_told 16 = .ok (.ifCond .lt 32, 3) := by decide +kernel
theorem d_Mo_told_19 : decode b_Mo_told 19 = .ok (.aload_n 0, 1) := by decide +kernel
theorem d_Mo_told_20 : decode b_Mo_told 20 = .ok (.getfield 59, 3) := by decide +kernel
theorem d_Mo_told_23 : decode b_Mo_told 23 = .ok (.iload_n 3, 1) := by decide +kernel
theorem d_Mo_told_24 : decode b_Mo_told 24 = .ok (.ishr, 1) := by decide +kernel
theorem d_Mo_told_25 : decode b_Mo_told 25 = .ok (.iconst 1, 1) := by decide +kernel
theorem d_Mo_told_26 : decode b_Mo_told 26 = .ok (.iand, 1) := by decide +kernel
theorem d_Mo_told_27 : decode b_Mo_told 27 = .ok (.ifCond .ne 6, 3) := by decide +kernel
theorem d_Mo_told_30 : decode b_Mo_told 30 = .ok (.goto 12, 3) := by decide +kernel
theorem d_Mo_told_33 : decode b_Mo_told 33 = .ok (.iload_n 2, 1) := by decide +kernel
theorem d_Mo_told_34 : decode b_Mo_told 34 = .ok (.ifCond .ne 5, 3) := by decide +kernel
theorem d_Mo_told_37 : decode b_Mo_told 37 = .ok (.iload_n 3, 1) := by decide +kernel
theorem d_Mo_told_38 : decode b_Mo_told 38 = .ok (.ireturn, 1) := by decide +kernel
theorem d_Mo_told_39 : decode b_Mo_told 39 = .ok (.iinc 2 (-1), 3) := by decide +kernel
theorem d_Mo_told_42 : decode b_Mo_told 42 = .ok (.iinc 3 1, 3) := by decide +kernel
theorem d_Mo_told_45 : decode b_Mo_told 45 = .ok (.goto (-36), 3) := by decide +kernel
theorem d_Mo_told_48 : decode b_Mo_told 48 = .ok (.iconst (-1), 1) := by decide +kernel
theorem d_Mo_told_49 : decode b_Mo_told 49 = .ok (.ireturn, 1) := by decide +kernel
theorem d_Mo_port_0 : decode b_Mo_port 0 = .ok (.aload_n 0, 1) := by decide +kernel
theorem d_Mo_port_1 : decode b_Mo_port 1 = .ok (.aload_n 0, 1) := by decide +kernel
theorem d_Mo_port_2 : decode b_Mo_port 2 = .ok (.iload_n 1, 1) := by decide +kernel
theorem d_Mo_port_3 : decode b_Mo_port 3 = .ok (.invokevirtual 95, 3) := by decide +kernel
theorem d_Mo_port_6 : decode b_Mo_port 6 = .ok (.ifCond .eq 14, 3) := by decide +kernel
theorem d_Mo_port_9 : decode b_Mo_port 9 = .ok (.iload_n 2, 1) := by decide +kernel
theorem d_Mo_port_10 : decode b_Mo_port 10 = .ok (.invokestatic 120, 3) := by decide +kernel
theorem d_Mo_port_13 : decode b_Mo_port 13 = .ok (.ifCond .eq 7, 3) := by decide +kernel
theorem d_Mo_port_16 : decode b_Mo_port 16 = .ok (.iconst 0, 1) := by decide +kernel
theorem d_Mo_port_17 : decode b_Mo_port 17 = .ok (.goto 4, 3) := by decide +kernel
theorem d_Mo_port_20 : decode b_Mo_port 20 = .ok (.iconst 1, 1) := by decide +kernel
theorem d_Mo_port_21 : decode b_Mo_port 21 = .ok (.putfield 45, 3) := by decide +kernel
theorem d_Mo_port_24 : decode b_Mo_port 24 = .ok (.aload_n 0, 1) := by decide +kernel
theorem d_Mo_port_25 : decode b_Mo_port 25 = .ok (.getfield 45, 3) := by decide +kernel
theorem d_Mo_port_28 : decode b_Mo_port 28 = .ok (.ifCond .ne 13, 3) := by decide +kernel
theorem d_Mo_port_31 : decode b_Mo_port 31 = .ok (.aload_n 0, 1) := by decide +kernel
theorem d_Mo_port_32 : decode b_Mo_port 32 = .ok (.iload_n 1, 1) := by decide +kernel
theorem d_Mo_port_33 : decode b_Mo_port 33 = .ok (.i2l, 1) := by decide +kernel
theorem d_Mo_port_34 : decode b_Mo_port 34 = .ok (.iload_n 2, 1) := by decide +kernel
theorem d_Mo_port_35 : decode b_Mo_port 35 = .ok (.invokevirtual 116, 3) := by decide +kernel
theorem d_Mo_port_38 : decode b_Mo_port 38 = .ok (.ifCond .eq 5, 3) := by decide +kernel
theorem d_Mo_port_41 : decode b_Mo_port 41 = .ok (.iconst 0, 1) := by decide +kernel
theorem d_Mo_port_42 : decode b_Mo_port 42 = .ok (.ireturn, 1) := by decide +kernel
theorem d_Mo_port_43 : decode b_Mo_port 43 = .ok (.aload_n 0, 1) := by decide +kernel
theorem d_Mo_port_44 : decode b_Mo_port 44 = .ok (.invokevirtual 89, 3) := by decide +kernel
theorem d_Mo_port_47 : decode b_Mo_port 47 = .ok (.aload_n 0, 1) := by decide +kernel
theorem d_Mo_port_48 : decode b_Mo_port 48 = .ok (.getfield 7, 3) := by decide +kernel
theorem d_Mo_port_51 : decode b_Mo_port 51 = .ok (.bipush 8, 2) := by decide +kernel
theorem d_Mo_port_53 : decode b_Mo_port 53 = .ok (.iload_n 1, 1) := by decide +kernel
theorem d_Mo_port_54 : decode b_Mo_port 54 = .ok (.iadd, 1) := by decide +kernel
theorem d_Mo_port_55 : decode b_Mo_port 55 = .ok (.aload_n 0, 1) := by decide +kernel
theorem d_Mo_port_56 : decode b_Mo_port 56 = .ok (.getfield 7, 3) := by decide +kernel
theorem d_Mo_port_59 : decode b_Mo_port 59 = .ok (.bipush 8, 2) := by decide +kernel
theorem d_Mo_port_61 : decode b_Mo_port 61 = .ok (.iload_n 1, 1) := by decide +kernel
theorem d_Mo_port_62 : decode b_Mo_port 62 = .ok (.iadd, 1) := by decide +kernel
theorem d_Mo_port_63 : decode b_Mo_port 63 = .ok (.laload, 1) := by decide +kernel
theorem d_Mo_port_64 : decode b_Mo_port 64 = .ok (.lconst 1, 1) := by decide +kernel
theorem d_Mo_port_65 : decode b_Mo_port 65 = .ok (.iload_n 2, 1) := by decide +kernel
theorem d_Mo_port_66 : decode b_Mo_port 66 = .ok (.lshl, 1) := by decide +kernel
theorem d_Mo_port_67 : decode b_Mo_port 67 = .ok (.lor, 1) := by decide +kernel
theorem d_Mo_port_68 : decode b_Mo_port 68 = .ok (.lastore, 1) := by decide +kernel
theorem d_Mo_port_69 : decode b_Mo_port 69 = .ok (.aload_n 0, 1) := by decide +kernel
theorem d_Mo_port_70 : decode b_Mo_port 70 = .ok (.invokevirtual 92, 3) := by decide +kernel
theorem d_Mo_port_73 : decode b_Mo_port 73 = .ok (.iconst 1, 1) := by decide +kernel
theorem d_Mo_port_74 : decode b_Mo_port 74 = .ok (.ireturn, 1) := by decide +kernel
theorem d_Mo_join_0 : decode b_Mo_join 0 = .ok (.aload_n 0, 1) := by decide +kernel
theorem d_Mo_join_1 : decode b_Mo_join 1 = .ok (.aload_n 0, 1) := by decide +kernel
theorem d_Mo_join_2 : decode b_Mo_join 2 = .ok (.iload_n 1, 1) := by decide +kernel
theorem d_Mo_join_3 : decode b_Mo_join 3 = .ok (.invokevirtual 113, 3) := by decide +kernel
theorem d_Mo_join_6 : decode b_Mo_join 6 = .ok (.ifCond .eq 21, 3) := by decide +kernel
theorem d_Mo_join_9 : decode b_Mo_join 9 = .ok (.iload_n 2, 1) := by decide +kernel
theorem d_Mo_join_10 : decode b_Mo_join 10 = .ok (.invokestatic 120, 3) := by decide +kernel
theorem d_Mo_join_13 : decode b_Mo_join 13 = .ok (.ifCond .eq 14, 3) := by decide +kernel
theorem d_Mo_join_16 : decode b_Mo_join 16 = .ok (.iload_n 3, 1) := by decide +kernel
theorem d_Mo_join_17 : decode b_Mo_join 17 = .ok (.invokestatic 120, 3) := by decide +kernel
theorem d_Mo_join_20 : decode b_Mo_join 20 = .ok (.ifCond .eq 7, 3) := by decide +kernel
theorem d_Mo_join_23 : decode b_Mo_join 23 = .ok (.iconst 0, 1) := by decide +kernel
theorem d_Mo_join_24 : decode b_Mo_join 24 = .ok (.goto 4, 3) := by decide +kernel
theorem d_Mo_join_27 : decode b_Mo_join 27 = .ok (.iconst 1, 1) := by decide +kernel
theorem d_Mo_join_28 : decode b_Mo_join 28 = .ok (.putfield 45, 3) := by decide +kernel
theorem d_Mo_join_31 : decode b_Mo_join 31 = .ok (.aload_n 0, 1) := by decide +kernel
theorem d_Mo_join_32 : decode b_Mo_join 32 = .ok (.getfield 45, 3) := by decide +kernel
theorem d_Mo_join_35 : decode b_Mo_join 35 = .ok (.ifCond .eq 5, 3) := by decide +kernel
theorem d_Mo_join_38 : decode b_Mo_join 38 = .ok (.iconst 0, 1) := by decide +kernel
theorem d_Mo_join_39 : decode b_Mo_join 39 = .ok (.ireturn, 1) := by decide +kernel
theorem d_Mo_join_40 : decode b_Mo_join 40 = .ok (.aload_n 0, 1) := by decide +kernel
theorem d_Mo_join_41 : decode b_Mo_join 41 = .ok (.aload_n 0, 1) := by decide +kernel
theorem d_Mo_join_42 : decode b_Mo_join 42 = .ok (.getfield 7, 3) := by decide +kernel
theorem d_Mo_join_45 : decode b_Mo_join 45 = .ok (.bipush 92, 2) := by decide +kernel
theorem d_Mo_join_47 : decode b_Mo_join 47 = .ok (.iload_n 1, 1) := by decide +kernel
theorem d_Mo_join_48 : decode b_Mo_join 48 = .ok (.iadd, 1) := by decide +kernel
theorem d_Mo_join_49 : decode b_Mo_join 49 = .ok (.laload, 1) := by decide +kernel
theorem d_Mo_join_50 : decode b_Mo_join 50 = .ok (.iload_n 2, 1) := by decide +kernel
theorem d_Mo_join_51 : decode b_Mo_join 51 = .ok (.invokevirtual 116, 3) := by decide +kernel
theorem d_Mo_join_54 : decode b_Mo_join 54 = .ok (.ifCond .eq 24, 3) := by decide +kernel
theorem d_Mo_join_57 : decode b_Mo_join 57 = .ok (.aload_n 0, 1) := by decide +kernel
theorem d_Mo_join_58 : decode b_Mo_join 58 = .ok (.aload_n 0, 1) := by decide +kernel
theorem d_Mo_join_59 : decode b_Mo_join 59 = .ok (.getfield 7, 3) := by decide +kernel
theorem d_Mo_join_62 : decode b_Mo_join 62 = .ok (.bipush 32, 2) := by decide +kernel
theorem d_Mo_join_64 : decode b_Mo_join 64 = .ok (.iload_n 1, 1) := by decide +kernel
theorem d_Mo_join_65 : decode b_Mo_join 65 = .ok (.iadd, 1) := by decide +kernel
theorem d_Mo_join_66 : decode b_Mo_join 66 = .ok (.laload, 1) := by decide +kernel
theorem d_Mo_join_67 : decode b_Mo_join 67 = .ok (.iload_n 3, 1) := by decide +kernel
theorem d_Mo_join_68 : decode b_Mo_join 68 = .ok (.invokevirtual 116, 3) := by decide +kernel
theorem d_Mo_join_71 : decode b_Mo_join 71 = .ok (.ifCond .eq 7, 3) := by decide +kernel
theorem d_Mo_join_74 : decode b_Mo_join 74 = .ok (.iconst 1, 1) := by decide +kernel
theorem d_Mo_join_75 : decode b_Mo_join 75 = .ok (.goto 4, 3) := by decide +kernel
theorem d_Mo_join_78 : decode b_Mo_join 78 = .ok (.iconst 0, 1) := by decide +kernel
theorem d_Mo_join_79 : decode b_Mo_join 79 = .ok (.istore 4, 2) := by decide +kernel
theorem d_Mo_join_81 : decode b_Mo_join 81 = .ok (.sipush 212, 3) := by decide +kernel
theorem d_Mo_join_84 : decode b_Mo_join 84 = .ok (.bipush 32, 2) := by decide +kernel
theorem d_Mo_join_86 : decode b_Mo_join 86 = .ok (.iload_n 1, 1) := by decide +kernel
theorem d_Mo_join_87 : decode b_Mo_join 87 = .ok (.imul, 1) := by decide +kernel
theorem d_Mo_join_88 : decode b_Mo_join 88 = .ok (.iadd, 1) := by decide +kernel
theorem d_Mo_join_89 : decode b_Mo_join 89 = .ok (.iload_n 2, 1) := by decide +kernel
theorem d_Mo_join_90 : decode b_Mo_join 90 = .ok (.iadd, 1) := by decide +kernel
theorem d_Mo_join_91 : decode b_Mo_join 91 = .ok (.istore 5, 2) := by decide +kernel
theorem d_Mo_join_93 : decode b_Mo_join 93 = .ok (.iload 4, 2) := by decide +kernel
theorem d_Mo_join_95 : decode b_Mo_join 95 = .ok (.ifCond .eq 18, 3) := by decide +kernel
theorem d_Mo_join_98 : decode b_Mo_join 98 = .ok (.aload_n 0, 1) := by decide +kernel
theorem d_Mo_join_99 : decode b_Mo_join 99 = .ok (.getfield 7, 3) := by decide +kernel
theorem d_Mo_join_102 : decode b_Mo_join 102 = .ok (.iload 5, 2) := by decide +kernel
theorem d_Mo_join_104 : decode b_Mo_join 104 = .ok (.laload, 1) := by decide +kernel
theorem d_Mo_join_105 : decode b_Mo_join 105 = .ok (.iload_n 3, 1) := by decide +kernel
theorem d_Mo_join_106 : decode b_Mo_join 106 = .ok (.i2l, 1) := by decide +kernel
theorem d_Mo_join_107 : decode b_Mo_join 107 = .ok (.lconst 1, 1) := by decide +kernel
theorem d_Mo_join_108 : decode b_Mo_join 108 = .ok (.ladd, 1) := by decide +kernel
theorem d_Mo_join_109 : decode b_Mo_join 109 = .ok (.lcmp, 1) := by decide +kernel
theorem d_Mo_join_110 : decode b_Mo_join 110 = .ok (.ifCond .ne 5, 3) := by decide +kernel
theorem d_Mo_join_113 : decode b_Mo_join 113 = .ok (.iconst 0, 1) := by decide +kernel
theorem d_Mo_join_114 : decode b_Mo_join 114 = .ok (.ireturn, 1) := by decide +kernel
theorem d_Mo_join_115 : decode b_Mo_join 115 = .ok (.aload_n 0, 1) := by decide +kernel
theorem d_Mo_join_116 : decode b_Mo_join 116 = .ok (.invokevirtual 89, 3) := by decide +kernel
theorem d_Mo_join_119 : decode b_Mo_join 119 = .ok (.aload_n 0, 1) := by decide +kernel
theorem d_Mo_join_120 : decode b_Mo_join 120 = .ok (.getfield 7, 3) := by decide +kernel
theorem d_Mo_join_123 : decode b_Mo_join 123 = .ok (.iload 5, 2) := by decide +kernel
theorem d_Mo_join_125 : decode b_Mo_join 125 = .ok (.iload_n 3, 1) := by decide +kernel
theorem d_Mo_join_126 : decode b_Mo_join 126 = .ok (.i2l, 1) := by decide +kernel
theorem d_Mo_join_127 : decode b_Mo_join 127 = .ok (.lconst 1, 1) := by decide +kernel
theorem d_Mo_join_128 : decode b_Mo_join 128 = .ok (.ladd, 1) := by decide +kernel
theorem d_Mo_join_129 : decode b_Mo_join 129 = .ok (.lastore, 1) := by decide +kernel
theorem d_Mo_join_130 : decode b_Mo_join 130 = .ok (.aload_n 0, 1) := by decide +kernel
theorem d_Mo_join_131 : decode b_Mo_join 131 = .ok (.invokevirtual 92, 3) := by decide +kernel
theorem d_Mo_join_134 : decode b_Mo_join 134 = .ok (.iconst 1, 1) := by decide +kernel
theorem d_Mo_join_135 : decode b_Mo_join 135 = .ok (.ireturn, 1) := by decide +kernel
theorem d_Mo_joined_0 : decode b_Mo_joined 0 = .ok (.aload_n 0, 1) := by decide +kernel
theorem d_Mo_joined_1 : decode b_Mo_joined 1 = .ok (.aload_n 0, 1) := by decide +kernel
theorem d_Mo_joined_2 : decode b_Mo_joined 2 = .ok (.iload_n 1, 1) := by decide +kernel
theorem d_Mo_joined_3 : decode b_Mo_joined 3 = .ok (.invokevirtual 113, 3) := by decide +kernel
theorem d_Mo_joined_6 : decode b_Mo_joined 6 = .ok (.ifCond .eq 14, 3) := by decide +kernel
theorem d_Mo_joined_9 : decode b_Mo_joined 9 = .ok (.iload_n 2, 1) := by decide +kernel
theorem d_Mo_joined_10 : decode b_Mo_joined 10 = .ok (.invokestatic 120, 3) := by decide +kernel
theorem d_Mo_joined_13 : decode b_Mo_joined 13 = .ok (.ifCond .eq 7, 3) := by decide +kernel
theorem d_Mo_joined_16 : decode b_Mo_joined 16 = .ok (.iconst 0, 1) := by decide +kernel
theorem d_Mo_joined_17 : decode b_Mo_joined 17 = .ok (.goto 4, 3) := by decide +kernel
theorem d_Mo_joined_20 : decode b_Mo_joined 20 = .ok (.iconst 1, 1) := by decide +kernel
theorem d_Mo_joined_21 : decode b_Mo_joined 21 = .ok (.putfield 45, 3) := by decide +kernel
theorem d_Mo_joined_24 : decode b_Mo_joined 24 = .ok (.aload_n 0, 1) := by decide +kernel
theorem d_Mo_joined_25 : decode b_Mo_joined 25 = .ok (.getfield 45, 3) := by decide +kernel
theorem d_Mo_joined_28 : decode b_Mo_joined 28 = .ok (.ifCond .ne 24, 3) := by decide +kernel
theorem d_Mo_joined_31 : decode b_Mo_joined 31 = .ok (.aload_n 0, 1) := by decide +kernel
theorem d_Mo_joined_32 : decode b_Mo_joined 32 = .ok (.getfield 7, 3) := by decide +kernel
theorem d_Mo_joined_35 : decode b_Mo_joined 35 = .ok (.sipush 212, 3) := by decide +kernel
theorem d_Mo_joined_38 : decode b_Mo_joined 38 = .ok (.bipush 32, 2) := by decide +kernel
theorem d_Mo_joined_40 : decode b_Mo_joined 40 = .ok (.iload_n 1, 1) := by decide +kernel
theorem d_Mo_joined_41 : decode b_Mo_joined 41 = .ok (.imul, 1) := by decide +kernel
theorem d_Mo_joined_42 : decode b_Mo_joined 42 = .ok (.iadd, 1) := by decide +kernel
theorem d_Mo_joined_43 : decode b_Mo_joined 43 = .ok (.iload_n 2, 1) := by decide +kernel
theorem d_Mo_joined_44 : decode b_Mo_joined 44 = .ok (.iadd, 1) := by decide +kernel
theorem d_Mo_joined_45 : decode b_Mo_joined 45 = .ok (.laload, 1) := by decide +kernel
theorem d_Mo_joined_46 : decode b_Mo_joined 46 = .ok (.l2i, 1) := by decide +kernel
theorem d_Mo_joined_47 : decode b_Mo_joined 47 = .ok (.iconst 1, 1) := by decide +kernel
theorem d_Mo_joined_48 : decode b_Mo_joined 48 = .ok (.isub, 1) := by decide +kernel
theorem d_Mo_joined_49 : decode b_Mo_joined 49 = .ok (.goto 4, 3) := by decide +kernel
theorem d_Mo_joined_52 : decode b_Mo_joined 52 = .ok (.iconst 0, 1) := by decide +kernel
theorem d_Mo_joined_53 : decode b_Mo_joined 53 = .ok (.ireturn, 1) := by decide +kernel
theorem d_Mo_addPart_0 : decode b_Mo_addPart 0 = .ok (.aload_n 0, 1) := by decide +kernel
theorem d_Mo_addPart_1 : decode b_Mo_addPart 1 = .ok (.iconst 2, 1) := by decide +kernel
theorem d_Mo_addPart_2 : decode b_Mo_addPart 2 = .ok (.invokevirtual 62, 3) := by decide +kernel
theorem d_Mo_addPart_5 : decode b_Mo_addPart 5 = .ok (.istore 5, 2) := by decide +kernel
theorem d_Mo_addPart_7 : decode b_Mo_addPart 7 = .ok (.aload_n 0, 1) := by decide +kernel
theorem d_Mo_addPart_8 : decode b_Mo_addPart 8 = .ok (.getfield 7, 3) := by decide +kernel
theorem d_Mo_addPart_11 : decode b_Mo_addPart 11 = .ok (.sipush 2132, 3) := by decide +kernel
theorem d_Mo_addPart_14 : decode b_Mo_addPart 14 = .ok (.iload 5, 2) := by decide +kernel
theorem d_Mo_addPart_16 : decode b_Mo_addPart 16 = .ok (.iadd, 1) := by decide +kernel
theorem d_Mo_addPart_17 : decode b_Mo_addPart 17 = .ok (.lload_n 1, 1) := by decide +kernel
theorem d_Mo_addPart_18 : decode b_Mo_addPart 18 = .ok (.lastore, 1) := by decide +kernel
theorem d_Mo_addPart_19 : decode b_Mo_addPart 19 = .ok (.aload_n 0, 1) := by decide +kernel
theorem d_Mo_addPart_20 : decode b_Mo_addPart 20 = .ok (.getfield 7, 3) := by decide +kernel
theorem d_Mo_addPart_23 : decode b_Mo_addPart 23 = .ok (.sipush 2162, 3) := by decide +kernel
theorem d_Mo_addPart_26 : decode b_Mo_addPart 26 = .ok (.iload 5, 2) := by decide +kernel
theorem d_Mo_addPart_28 : decode b_Mo_addPart 28 = .ok (.iadd, 1) := by decide +kernel
theorem d_Mo_addPart_29 : decode b_Mo_addPart 29 = .ok (.lload_n 3, 1) := by decide +kernel
theorem d_Mo_addPart_30 : decode b_Mo_addPart 30 = .ok (.lastore, 1) := by decide +kernel
theorem d_Mo_addPart_31 : decode b_Mo_addPart 31 = .ok (.iconst 0, 1) := by decide +kernel
theorem d_Mo_addPart_32 : decode b_Mo_addPart 32 = .ok (.istore 6, 2) := by decide +kernel
theorem d_Mo_addPart_34 : decode b_Mo_addPart 34 = .ok (.iload 6, 2) := by decide +kernel
theorem d_Mo_addPart_36 : decode b_Mo_addPart 36 = .ok (.bipush 8, 2) := by decide +kernel
theorem d_Mo_addPart_38 : decode b_Mo_addPart 38 = .ok (.if_icmp .ge 27, 3) := by decide +kernel
theorem d_Mo_addPart_41 : decode b_Mo_addPart 41 = .ok (.aload_n 0, 1) := by decide +kernel
theorem d_Mo_addPart_42 : decode b_Mo_addPart 42 = .ok (.getfield 7, 3) := by decide +kernel
theorem d_Mo_addPart_45 : decode b_Mo_addPart 45 = .ok (.sipush 2192, 3) := by decide +kernel
theorem d_Mo_addPart_48 : decode b_Mo_addPart 48 = .ok (.bipush 8, 2) := by decide +kernel
theorem d_Mo_addPart_50 : decode b_Mo_addPart 50 = .ok (.iload 5, 2) := by decide +kernel
theorem d_Mo_addPart_52 : decode b_Mo_addPart 52 = .ok (.imul, 1) := by decide +kernel
theorem d_Mo_addPart_53 : decode b_Mo_addPart 53 = .ok (.iadd, 1) := by decide +kernel
theorem d_Mo_addPart_54 : decode b_Mo_addPart 54 = .ok (.iload 6, 2) := by decide +kernel
theorem d_Mo_addPart_56 : decode b_Mo_addPart 56 = .ok (.iadd, 1) := by decide +kernel
theorem d_Mo_addPart_57 : decode b_Mo_addPart 57 = .ok (.lconst 0, 1) := by decide +kernel
theorem d_Mo_addPart_58 : decode b_Mo_addPart 58 = .ok (.lastore, 1) := by decide +kernel
theorem d_Mo_addPart_59 : decode b_Mo_addPart 59 = .ok (.iinc 6 1, 3) := by decide +kernel
theorem d_Mo_addPart_62 : decode b_Mo_addPart 62 = .ok (.goto (-28), 3) := by decide +kernel
theorem d_Mo_addPart_65 : decode b_Mo_addPart 65 = .ok (.aload_n 0, 1) := by decide +kernel
theorem d_Mo_addPart_66 : decode b_Mo_addPart 66 = .ok (.getfield 7, 3) := by decide +kernel
theorem d_Mo_addPart_69 : decode b_Mo_addPart 69 = .ok (.iconst 2, 1) := by decide +kernel
theorem d_Mo_addPart_70 : decode b_Mo_addPart 70 = .ok (.dup2, 1) := by decide +kernel
theorem d_Mo_addPart_71 : decode b_Mo_addPart 71 = .ok (.laload, 1) := by decide +kernel
theorem d_Mo_addPart_72 : decode b_Mo_addPart 72 = .ok (.lconst 1, 1) := by decide +kernel
theorem d_Mo_addPart_73 : decode b_Mo_addPart 73 = .ok (.ladd, 1) := by decide +kernel
theorem d_Mo_addPart_74 : decode b_Mo_addPart 74 = .ok (.lastore, 1) := by decide +kernel
theorem d_Mo_addPart_75 : decode b_Mo_addPart 75 = .ok (.iload 5, 2) := by decide +kernel
theorem d_Mo_addPart_77 : decode b_Mo_addPart 77 = .ok (.ireturn, 1) := by decide +kernel
theorem d_Mo_part_0 : decode b_Mo_part 0 = .ok (.aload_n 0, 1) := by decide +kernel
theorem d_Mo_part_1 : decode b_Mo_part 1 = .ok (.iload_n 1, 1) := by decide +kernel
theorem d_Mo_part_2 : decode b_Mo_part 2 = .ok (.ifCond .lt 23, 3) := by decide +kernel
theorem d_Mo_part_5 : decode b_Mo_part 5 = .ok (.iload_n 1, 1) := by decide +kernel
theorem d_Mo_part_6 : decode b_Mo_part 6 = .ok (.bipush 26, 2) := by decide +kernel
theorem d_Mo_part_8 : decode b_Mo_part 8 = .ok (.if_icmp .ge 17, 3) := by decide +kernel
theorem d_Mo_part_11 : decode b_Mo_part 11 = .ok (.iload_n 2, 1) := by decide +kernel
theorem d_Mo_part_12 : decode b_Mo_part 12 = .ok (.ifCond .le 13, 3) := by decide +kernel
theorem d_Mo_part_15 : decode b_Mo_part 15 = .ok (.iload_n 2, 1) := by decide +kernel
theorem d_Mo_part_16 : decode b_Mo_part 16 = .ok (.bipush 9, 2) := by decide +kernel
theorem d_Mo_part_18 : decode b_Mo_part 18 = .ok (.if_icmp .ge 7, 3) := by decide +kernel
theorem d_Mo_part_21 : decode b_Mo_part 21 = .ok (.iconst 0, 1) := by decide +kernel
theorem d_Mo_part_22 : decode b_Mo_part 22 = .ok (.goto 4, 3) := by decide +kernel
theorem d_Mo_part_25 : decode b_Mo_part 25 = .ok (.iconst 1, 1) := by decide +kernel
theorem d_Mo_part_26 : decode b_Mo_part 26 = .ok (.putfield 45, 3) := by decide +kernel
theorem d_Mo_part_29 : decode b_Mo_part 29 = .ok (.aload_n 0, 1) := by decide +kernel
theorem d_Mo_part_30 : decode b_Mo_part 30 = .ok (.getfield 45, 3) := by decide +kernel
theorem d_Mo_part_33 : decode b_Mo_part 33 = .ok (.ifCond .eq 5, 3) := by decide +kernel
theorem d_Mo_part_36 : decode b_Mo_part 36 = .ok (.iconst 0, 1) := by decide +kernel
theorem d_Mo_part_37 : decode b_Mo_part 37 = .ok (.ireturn, 1) := by decide +kernel
theorem d_Mo_part_38 : decode b_Mo_part 38 = .ok (.aload_n 0, 1) := by decide +kernel
theorem d_Mo_part_39 : decode b_Mo_part 39 = .ok (.iconst 2, 1) := by decide +kernel
theorem d_Mo_part_40 : decode b_Mo_part 40 = .ok (.invokevirtual 62, 3) := by decide +kernel
theorem d_Mo_part_43 : decode b_Mo_part 43 = .ok (.bipush 30, 2) := by decide +kernel
theorem d_Mo_part_45 : decode b_Mo_part 45 = .ok (.if_icmp .ne 5, 3) := by decide +kernel
theorem d_Mo_part_48 : decode b_Mo_part 48 = .ok (.iconst (-1), 1) := by decide +kernel
theorem d_Mo_part_49 : decode b_Mo_part 49 = .ok (.ireturn, 1) := by decide +kernel
theorem d_Mo_part_50 : decode b_Mo_part 50 = .ok (.aload_n 0, 1) := by decide +kernel
theorem d_Mo_part_51 : decode b_Mo_part 51 = .ok (.invokevirtual 89, 3) := by decide +kernel
theorem d_Mo_part_54 : decode b_Mo_part 54 = .ok (.aload_n 0, 1) := by decide +kernel
theorem d_Mo_part_55 : decode b_Mo_part 55 = .ok (.iload_n 1, 1) := by decide +kernel
theorem d_Mo_part_56 : decode b_Mo_part 56 = .ok (.i2l, 1) := by decide +kernel
theorem d_Mo_part_57 : decode b_Mo_part 57 = .ok (.iload_n 2, 1) := by decide +kernel
theorem d_Mo_part_58 : decode b_Mo_part 58 = .ok (.i2l, 1) := by decide +kernel
theorem d_Mo_part_59 : decode b_Mo_part 59 = .ok (.invokevirtual 123, 3) := by decide +kernel
theorem d_Mo_part_62 : decode b_Mo_part 62 = .ok (.istore_n 3, 1) := by decide +kernel
theorem d_Mo_part_63 : decode b_Mo_part 63 = .ok (.aload_n 0, 1) := by decide +kernel
theorem d_Mo_part_64 : decode b_Mo_part 64 = .ok (.invokevirtual 92, 3) := by decide +kernel
theorem d_Mo_part_67 : decode b_Mo_part 67 = .ok (.iload_n 3, 1) := by decide +kernel
theorem d_Mo_part_68 : decode b_Mo_part 68 = .ok (.ireturn, 1) := by decide +kernel
theorem d_Mo_gatesOn_0 : decode b_Mo_gatesOn 0 = .ok (.iconst 0, 1) := by decide +kernel
theorem d_Mo_gatesOn_1 : decode b_Mo_gatesOn 1 = .ok (.istore_n 2, 1) := by decide +kernel
theorem d_Mo_gatesOn_2 : decode b_Mo_gatesOn 2 = .ok (.iconst 0, 1) := by decide +kernel
theorem d_Mo_gatesOn_3 : decode b_Mo_gatesOn 3 = .ok (.istore_n 3, 1) := by decide +kernel
theorem d_Mo_gatesOn_4 : decode b_Mo_gatesOn 4 = .ok (.iload_n 3, 1) := by decide +kernel
theorem d_Mo_gatesOn_5 : decode b_Mo_gatesOn 5 = .ok (.bipush 8, 2) := by decide +kernel
theorem d_Mo_gatesOn_7 : decode b_Mo_gatesOn 7 = .ok (.aload_n 0, 1) := by decide +kernel
theorem d_Mo_gatesOn_8 : decode b_Mo_gatesOn 8 = .ok (.iconst 2, 1) := by decide +kernel
theorem d_Mo_gatesOn_9 : decode b_Mo_gatesOn 9 = .ok (.invokevirtual 62, 3) := by decide +kernel
theorem d_Mo_gatesOn_12 : decode b_Mo_gatesOn 12 = .ok (.imul, 1) := by decide +kernel
theorem d_Mo_gatesOn_13 : decode b_Mo_gatesOn 13 = .ok (.if_icmp .ge 35, 3) := by decide +kernel
theorem d_Mo_gatesOn_16 : decode b_Mo_gatesOn 16 = .ok (.iload_n 2, 1) := by decide +kernel
theorem d_Mo_gatesOn_17 : decode b_Mo_gatesOn 17 = .ok (.aload_n 0, 1) := by decide +kernel
theorem d_Mo_gatesOn_18 : decode b_Mo_gatesOn 18 = .ok (.getfield 7, 3) := by decide +kernel
theorem d_Mo_gatesOn_21 : decode b_Mo_gatesOn 21 = .ok (.sipush 2192, 3) := by decide +kernel
theorem d_Mo_gatesOn_24 : decode b_Mo_gatesOn 24 = .ok (.iload_n 3, 1) := by decide +kernel
theorem d_Mo_gatesOn_25 : decode b_Mo_gatesOn 25 = .ok (.iadd, 1) := by decide +kernel
theorem d_Mo_gatesOn_26 : decode b_Mo_gatesOn 26 = .ok (.laload, 1) := by decide +kernel
theorem d_Mo_gatesOn_27 : decode b_Mo_gatesOn 27 = .ok (.iload_n 1, 1) := by decide +kernel
theorem d_Mo_gatesOn_28 : decode b_Mo_gatesOn 28 = .ok (.i2l, 1) := by decide +kernel
theorem d_Mo_gatesOn_29 : decode b_Mo_gatesOn 29 = .ok (.lconst 1, 1) := by decide +kernel
theorem d_Mo_gatesOn_30 : decode b_Mo_gatesOn 30 = .ok (.ladd, 1) := by decide +kernel
theorem d_Mo_gatesOn_31 : decode b_Mo_gatesOn 31 = .ok (.lcmp, 1) := by decide +kernel
theorem d_Mo_gatesOn_32 : decode b_Mo_gatesOn 32 = .ok (.ifCond .ne 7, 3) := by decide +kernel
theorem d_Mo_gatesOn_35 : decode b_Mo_gatesOn 35 = .ok (.iconst 1, 1) := by decide +kernel
theorem d_Mo_gatesOn_36 : decode b_Mo_gatesOn 36 = .ok (.goto 4, 3) := by decide +kernel
theorem d_Mo_gatesOn_39 : decode b_Mo_gatesOn 39 = .ok (.iconst 0, 1) := by decide +kernel
theorem d_Mo_gatesOn_40 : decode b_Mo_gatesOn 40 = .ok (.iadd, 1) := by decide +kernel
theorem d_Mo_gatesOn_41 : decode b_Mo_gatesOn 41 = .ok (.istore_n 2, 1) := by decide +kernel
theorem d_Mo_gatesOn_42 : decode b_Mo_gatesOn 42 = .ok (.iinc 3 1, 3) := by decide +kernel
theorem d_Mo_gatesOn_45 : decode b_Mo_gatesOn 45 = .ok (.goto (-41), 3) := by decide +kernel
theorem d_Mo_gatesOn_48 : decode b_Mo_gatesOn 48 = .ok (.iload_n 2, 1) := by decide +kernel
theorem d_Mo_gatesOn_49 : decode b_Mo_gatesOn 49 = .ok (.ireturn, 1) := by decide +kernel
theorem d_Mo_putGate_0 : decode b_Mo_putGate 0 = .ok (.aload_n 0, 1) := by decide +kernel
theorem d_Mo_putGate_1 : decode b_Mo_putGate 1 = .ok (.getfield 7, 3) := by decide +kernel
theorem d_Mo_putGate_4 : decode b_Mo_putGate 4 = .ok (.sipush 2192, 3) := by decide +kernel
theorem d_Mo_putGate_7 : decode b_Mo_putGate 7 = .ok (.iload_n 1, 1) := by decide +kernel
theorem d_Mo_putGate_8 : decode b_Mo_putGate 8 = .ok (.iadd, 1) := by decide +kernel
theorem d_Mo_putGate_9 : decode b_Mo_putGate 9 = .ok (.iload_n 2, 1) := by decide +kernel
theorem d_Mo_putGate_10 : decode b_Mo_putGate 10 = .ok (.i2l, 1) := by decide +kernel
theorem d_Mo_putGate_11 : decode b_Mo_putGate 11 = .ok (.lconst 1, 1) := by decide +kernel
theorem d_Mo_putGate_12 : decode b_Mo_putGate 12 = .ok (.ladd, 1) := by decide +kernel
theorem d_Mo_putGate_13 : decode b_Mo_putGate 13 = .ok (.lastore, 1) := by decide +kernel
theorem d_Mo_putGate_14 : decode b_Mo_putGate 14 = .ok (.aload_n 0, 1) := by decide +kernel
theorem d_Mo_putGate_15 : decode b_Mo_putGate 15 = .ok (.getfield 7, 3) := by decide +kernel
theorem d_Mo_putGate_18 : decode b_Mo_putGate 18 = .ok (.sipush 2432, 3) := by decide +kernel
theorem d_Mo_putGate_21 : decode b_Mo_putGate 21 = .ok (.iload_n 1, 1) := by decide +kernel
theorem d_Mo_putGate_22 : decode b_Mo_putGate 22 = .ok (.iadd, 1) := by decide +kernel
theorem d_Mo_putGate_23 : decode b_Mo_putGate 23 = .ok (.aload_n 0, 1) := by decide +kernel
theorem d_Mo_putGate_24 : decode b_Mo_putGate 24 = .ok (.getfield 7, 3) := by decide +kernel
theorem d_Mo_putGate_27 : decode b_Mo_putGate 27 = .ok (.bipush 6, 2) := by decide +kernel
theorem d_Mo_putGate_29 : decode b_Mo_putGate 29 = .ok (.laload, 1) := by decide +kernel
theorem d_Mo_putGate_30 : decode b_Mo_putGate 30 = .ok (.lastore, 1) := by decide +kernel
theorem d_Mo_putGate_31 : decode b_Mo_putGate 31 = .ok (.aload_n 0, 1) := by decide +kernel
theorem d_Mo_putGate_32 : decode b_Mo_putGate 32 = .ok (.getfield 7, 3) := by decide +kernel
theorem d_Mo_putGate_35 : decode b_Mo_putGate 35 = .ok (.bipush 6, 2) := by decide +kernel
theorem d_Mo_putGate_37 : decode b_Mo_putGate 37 = .ok (.dup2, 1) := by decide +kernel
theorem d_Mo_putGate_38 : decode b_Mo_putGate 38 = .ok (.laload, 1) := by decide +kernel
theorem d_Mo_putGate_39 : decode b_Mo_putGate 39 = .ok (.lconst 1, 1) := by decide +kernel
theorem d_Mo_putGate_40 : decode b_Mo_putGate 40 = .ok (.ladd, 1) := by decide +kernel
theorem d_Mo_putGate_41 : decode b_Mo_putGate 41 = .ok (.lastore, 1) := by decide +kernel
theorem d_Mo_putGate_42 : decode b_Mo_putGate 42 = .ok (.return_, 1) := by decide +kernel
theorem d_Mo_gate_0 : decode b_Mo_gate 0 = .ok (.aload_n 0, 1) := by decide +kernel
theorem d_Mo_gate_1 : decode b_Mo_gate 1 = .ok (.aload_n 0, 1) := by decide +kernel
theorem d_Mo_gate_2 : decode b_Mo_gate 2 = .ok (.iload_n 1, 1) := by decide +kernel
theorem d_Mo_gate_3 : decode b_Mo_gate 3 = .ok (.invokevirtual 95, 3) := by decide +kernel
theorem d_Mo_gate_6 : decode b_Mo_gate 6 = .ok (.ifCond .eq 16, 3) := by decide +kernel
theorem d_Mo_gate_9 : decode b_Mo_gate 9 = .ok (.aload_n 0, 1) := by decide +kernel
theorem d_Mo_gate_10 : decode b_Mo_gate 10 = .ok (.iload_n 2, 1) := by decide +kernel
theorem d_Mo_gate_11 : decode b_Mo_gate 11 = .ok (.iload_n 3, 1) := by decide +kernel
theorem d_Mo_gate_12 : decode b_Mo_gate 12 = .ok (.invokevirtual 127, 3) := by decide +kernel
theorem d_Mo_gate_15 : decode b_Mo_gate 15 = .ok (.ifCond .eq 7, 3) := by decide +kernel
theorem d_Mo_gate_18 : decode b_Mo_gate 18 = .ok (.iconst 0, 1) := by decide +kernel
theorem d_Mo_gate_19 : decode b_Mo_gate 19 = .ok (.goto 4, 3) := by decide +kernel
theorem d_Mo_gate_22 : decode b_Mo_gate 22 = .ok (.iconst 1, 1) := by decide +kernel
theorem d_Mo_gate_23 : decode b_Mo_gate 23 = .ok (.putfield 45, 3) := by decide +kernel
theorem d_Mo_gate_26 : decode b_Mo_gate 26 = .ok (.aload_n 0, 1) := by decide +kernel
theorem d_Mo_gate_27 : decode b_Mo_gate 27 = .ok (.getfield 45, 3) := by decide +kernel
theorem d_Mo_gate_30 : decode b_Mo_gate 30 = .ok (.ifCond .ne 33, 3) := by decide +kernel
theorem d_Mo_gate_33 : decode b_Mo_gate 33 = .ok (.aload_n 0, 1) := by decide +kernel
theorem d_Mo_gate_34 : decode b_Mo_gate 34 = .ok (.getfield 7, 3) := by decide +kernel
theorem d_Mo_gate_37 : decode b_Mo_gate 37 = .ok (.sipush 2192, 3) := by decide +kernel
theorem d_Mo_gate_40 : decode b_Mo_gate 40 = .ok (.bipush 8, 2) := by decide +kernel
theorem d_Mo_gate_42 : decode b_Mo_gate 42 = .ok (.iload_n 2, 1) := by decide +kernel
theorem d_Mo_gate_43 : decode b_Mo_gate 43 = .ok (.imul, 1) := by decide +kernel
theorem d_Mo_gate_44 : decode b_Mo_gate 44 = .ok (.iadd, 1) := by decide +kernel
theorem d_Mo_gate_45 : decode b_Mo_gate 45 = .ok (.iload_n 3, 1) := by decide +kernel
theorem d_Mo_gate_46 : decode b_Mo_gate 46 = .ok (.iadd, 1) := by decide +kernel
theorem d_Mo_gate_47 : decode b_Mo_gate 47 = .ok (.laload, 1) := by decide +kernel
theorem d_Mo_gate_48 : decode b_Mo_gate 48 = .ok (.lconst 0, 1) := by decide +kernel
theorem d_Mo_gate_49 : decode b_Mo_gate 49 = .ok (.lcmp, 1) := by decide +kernel
theorem d_Mo_gate_50 : decode b_Mo_gate 50 = .ok (.ifCond .ne 13, 3) := by decide +kernel
theorem d_Mo_gate_53 : decode b_Mo_gate 53 = .ok (.aload_n 0, 1) := by decide +kernel
theorem d_Mo_gate_54 : decode b_Mo_gate 54 = .ok (.iload_n 1, 1) := by decide +kernel
theorem d_Mo_gate_55 : decode b_Mo_gate 55 = .ok (.invokevirtual 130, 3) := by decide +kernel
theorem d_Mo_gate_58 : decode b_Mo_gate 58 = .ok (.bipush 20, 2) := by decide +kernel
theorem d_Mo_gate_60 : decode b_Mo_gate 60 = .ok (.if_icmp .ne 5, 3) := by decide +kernel
theorem d_Mo_gate_63 : decode b_Mo_gate 63 = .ok (.iconst 0, 1) := by decide +kernel
theorem d_Mo_gate_64 : decode b_Mo_gate 64 = .ok (.ireturn, 1) := by decide +kernel
theorem d_Mo_gate_65 : decode b_Mo_gate 65 = .ok (.aload_n 0, 1) := by decide +kernel
theorem d_Mo_gate_66 : decode b_Mo_gate 66 = .ok (.invokevirtual 89, 3) := by decide +kernel
theorem d_Mo_gate_69 : decode b_Mo_gate 69 = .ok (.aload_n 0, 1) := by decide +kernel
theorem d_Mo_gate_70 : decode b_Mo_gate 70 = .ok (.bipush 8, 2) := by decide +kernel
theorem d_Mo_gate_72 : decode b_Mo_gate 72 = .ok (.iload_n 2, 1) := by decide +kernel
theorem d_Mo_gate_73 : decode b_Mo_gate 73 = .ok (.imul, 1) := by decide +kernel
theorem d_Mo_gate_74 : decode b_Mo_gate 74 = .ok (.iload_n 3, 1) := by decide +kernel
theorem d_Mo_gate_75 : decode b_Mo_gate 75 = .ok (.iadd, 1) := by decide +kernel
theorem d_Mo_gate_76 : decode b_Mo_gate 76 = .ok (.iload_n 1, 1) := by decide +kernel
theorem d_Mo_gate_77 : decode b_Mo_gate 77 = .ok (.invokevirtual 133, 3) := by decide +kernel
theorem d_Mo_gate_80 : decode b_Mo_gate 80 = .ok (.aload_n 0, 1) := by decide +kernel
theorem d_Mo_gate_81 : decode b_Mo_gate 81 = .ok (.invokevirtual 92, 3) := by decide +kernel
theorem d_Mo_gate_84 : decode b_Mo_gate 84 = .ok (.iconst 1, 1) := by decide +kernel
theorem d_Mo_gate_85 : decode b_Mo_gate 85 = .ok (.ireturn, 1) := by decide +kernel
theorem d_Mo_nextGate_0 : decode b_Mo_nextGate 0 = .ok (.iconst (-1), 1) := by decide +kernel
theorem d_Mo_nextGate_1 : decode b_Mo_nextGate 1 = .ok (.istore 4, 2) := by decide +kernel
theorem d_Mo_nextGate_3 : decode b_Mo_nextGate 3 = .ok (.iconst 0, 1) := by decide +kernel
theorem d_Mo_nextGate_4 : decode b_Mo_nextGate 4 = .ok (.istore 5, 2) := by decide +kernel
theorem d_Mo_nextGate_6 : decode b_Mo_nextGate 6 = .ok (.iload 5, 2) := by decide +kernel
theorem d_Mo_nextGate_8 : decode b_Mo_nextGate 8 = .ok (.bipush 8, 2) := by decide +kernel
theorem d_Mo_nextGate_10 : decode b_Mo_nextGate 10 = .ok (.aload_n 0, 1) := by decide +kernel
theorem d_Mo_nextGate_11 : decode b_Mo_nextGate 11 = .ok (.iconst 2, 1) := by decide +kernel
theorem d_Mo_nextGate_12 : decode b_Mo_nextGate 12 = .ok (.invokevirtual 62, 3) := by decide +kernel
theorem d_Mo_nextGate_15 : decode b_Mo_nextGate 15 = .ok (.imul, 1) := by decide +kernel
theorem d_Mo_nextGate_16 : decode b_Mo_nextGate 16 = .ok (.if_icmp .ge 83, 3) := by decide +kernel
theorem d_Mo_nextGate_19 : decode b_Mo_nextGate 19 = .ok (.aload_n 0, 1) := by decide +kernel
theorem d_Mo_nextGate_20 : decode b_Mo_nextGate 20 = .ok (.getfield 7, 3) := by decide +kernel
theorem d_Mo_nextGate_23 : decode b_Mo_nextGate 23 = .ok (.sipush 2192, 3) := by decide +kernel
theorem d_Mo_nextGate_26 : decode b_Mo_nextGate 26 = .ok (.iload 5, 2) := by decide +kernel
theorem d_Mo_nextGate_28 : decode b_Mo_nextGate 28 = .ok (.iadd, 1) := by decide +kernel
theorem d_Mo_nextGate_29 : decode b_Mo_nextGate 29 = .ok (.laload, 1) := by decide +kernel
theorem d_Mo_nextGate_30 : decode b_Mo_nextGate 30 = .ok (.iload_n 1, 1) := by decide +kernel
theorem d_Mo_nextGate_31 : decode b_Mo_nextGate 31 = .ok (.i2l, 1) := by decide +kernel
theorem d_Mo_nextGate_32 : decode b_Mo_nextGate 32 = .ok (.lconst 1, 1) := by decide +kernel
theorem d_Mo_nextGate_33 : decode b_Mo_nextGate 33 = .ok (.ladd, 1) := by decide +kernel
theorem d_Mo_nextGate_34 : decode b_Mo_nextGate 34 = .ok (.lcmp, 1) := by decide +kernel
theorem d_Mo_nextGate_35 : decode b_Mo_nextGate 35 = .ok (.ifCond .ne 58, 3) := by decide +kernel
theorem d_Mo_nextGate_38 : decode b_Mo_nextGate 38 = .ok (.aload_n 0, 1) := by decide +kernel
theorem d_Mo_nextGate_39 : decode b_Mo_nextGate 39 = .ok (.getfield 7, 3) := by decide +kernel
theorem d_Mo_nextGate_42 : decode b_Mo_nextGate 42 = .ok (.sipush 2432, 3) := by decide +kernel
theorem d_Mo_nextGate_45 : decode b_Mo_nextGate 45 = .ok (.iload 5, 2) := by decide +kernel
theorem d_Mo_nextGate_47 : decode b_Mo_nextGate 47 = .ok (.iadd, 1) := by decide +kernel
theorem d_Mo_nextGate_48 : decode b_Mo_nextGate 48 = .ok (.laload, 1) := by decide +kernel
theorem d_Mo_nextGate_49 : decode b_Mo_nextGate 49 = .ok (.lload_n 2, 1) := by decide +kernel
theorem d_Mo_nextGate_50 : decode b_Mo_nextGate 50 = .ok (.lcmp, 1) := by decide +kernel
theorem d_Mo_nextGate_51 : decode b_Mo_nextGate 51 = .ok (.ifCond .gt 6, 3) := by decide +kernel
theorem d_Mo_nextGate_54 : decode b_Mo_nextGate 54 = .ok (.goto 39, 3) := by decide +kernel
theorem d_Mo_nextGate_57 : decode b_Mo_nextGate 57 = .ok (.iload 4, 2) := by decide +kernel
theorem d_Mo_nextGate_59 : decode b_Mo_nextGate 59 = .ok (.iconst (-1), 1) := by decide +kernel
theorem d_Mo_nextGate_60 : decode b_Mo_nextGate 60 = .ok (.if_icmp .eq 29, 3) := by decide +kernel
theorem d_Mo_nextGate_63 : decode b_Mo_nextGate 63 = .ok (.aload_n 0, 1) := by decide +kernel
theorem d_Mo_nextGate_64 : decode b_Mo_nextGate 64 = .ok (.getfield 7, 3) := by decide +kernel
theorem d_Mo_nextGate_67 : decode b_Mo_nextGate 67 = .ok (.sipush 2432, 3) := by decide +kernel
theorem d_Mo_nextGate_70 : decode b_Mo_nextGate 70 = .ok (.iload 5, 2) := by decide +kernel
theorem d_Mo_nextGate_72 : decode b_Mo_nextGate 72 = .ok (.iadd, 1) := by decide +kernel
theorem d_Mo_nextGate_73 : decode b_Mo_nextGate 73 = .ok (.laload, 1) := by decide +kernel
theorem d_Mo_nextGate_74 : decode b_Mo_nextGate 74 = .ok (.aload_n 0, 1) := by decide +kernel
theorem d_Mo_nextGate_75 : decode b_Mo_nextGate 75 = .ok (.getfield 7, 3) := by decide +kernel
theorem d_Mo_nextGate_78 : decode b_Mo_nextGate 78 = .ok (.sipush 2432, 3) := by decide +kernel
theorem d_Mo_nextGate_81 : decode b_Mo_nextGate 81 = .ok (.iload 4, 2) := by decide +kernel
theorem d_Mo_nextGate_83 : decode b_Mo_nextGate 83 = .ok (.iadd, 1) := by decide +kernel
theorem d_Mo_nextGate_84 : decode b_Mo_nextGate 84 = .ok (.laload, 1) := by decide +kernel
theorem d_Mo_nextGate_85 : decode b_Mo_nextGate 85 = .ok (.lcmp, 1) := by decide +kernel
theorem d_Mo_nextGate_86 : decode b_Mo_nextGate 86 = .ok (.ifCond .ge 7, 3) := by decide +kernel
theorem d_Mo_nextGate_89 : decode b_Mo_nextGate 89 = .ok (.iload 5, 2) := by decide +kernel
theorem d_Mo_nextGate_91 : decode b_Mo_nextGate 91 = .ok (.istore 4, 2) := by decide +kernel
theorem d_Mo_nextGate_93 : decode b_Mo_nextGate 93 = .ok (.iinc 5 1, 3) := by decide +kernel
theorem d_Mo_nextGate_96 : decode b_Mo_nextGate 96 = .ok (.goto (-90), 3) := by decide +kernel
theorem d_Mo_nextGate_99 : decode b_Mo_nextGate 99 = .ok (.iload 4, 2) := by decide +kernel
theorem d_Mo_nextGate_101 : decode b_Mo_nextGate 101 = .ok (.ireturn, 1) := by decide +kernel
theorem d_Mo_partsOn_0 : decode b_Mo_partsOn 0 = .ok (.iconst 0, 1) := by decide +kernel
theorem d_Mo_partsOn_1 : decode b_Mo_partsOn 1 = .ok (.istore_n 2, 1) := by decide +kernel
theorem d_Mo_partsOn_2 : decode b_Mo_partsOn 2 = .ok (.iconst 0, 1) := by decide +kernel
theorem d_Mo_partsOn_3 : decode b_Mo_partsOn 3 = .ok (.istore_n 3, 1) := by decide +kernel
theorem d_Mo_partsOn_4 : decode b_Mo_partsOn 4 = .ok (.iload_n 3, 1) := by decide +kernel
theorem d_Mo_partsOn_5 : decode b_Mo_partsOn 5 = .ok (.aload_n 0, 1) := by decide +kernel
theorem d_Mo_partsOn_6 : decode b_Mo_partsOn 6 = .ok (.iconst 2, 1) := by decide +kernel
theorem d_Mo_partsOn_7 : decode b_Mo_partsOn 7 = .ok (.invokevirtual 62, 3) := by decide +kernel
theorem d_Mo_partsOn_10 : decode b_Mo_partsOn 10 = .ok (.if_icmp .ge 77, 3) := by decide +kernel
theorem d_Mo_partsOn_13 : decode b_Mo_partsOn 13 = .ok (.iconst 0, 1) := by decide +kernel
theorem d_Mo_partsOn_14 : decode b_Mo_partsOn 14 = .ok (.istore 4, 2) := by decide +kernel
theorem d_Mo_partsOn_16 : decode b_Mo_partsOn 16 = .ok (.iconst 0, 1) := by decide +kernel
theorem d_Mo_partsOn_17 : decode b_Mo_partsOn 17 = .ok (.istore 5, 2) := by decide +kernel
theorem d_Mo_partsOn_19 : decode b_Mo_partsOn 19 = .ok (.iload 5, 2) := by decide +kernel
theorem d_Mo_partsOn_21 : decode b_Mo_partsOn 21 = .ok (.bipush 8, 2) := by decide +kernel
theorem d_Mo_partsOn_23 : decode b_Mo_partsOn 23 = .ok (.if_icmp .ge 45, 3) := by decide +kernel
theorem d_Mo_partsOn_26 : decode b_Mo_partsOn 26 = .ok (.iload 4, 2) := by decide +kernel
theorem d_Mo_partsOn_28 : decode b_Mo_partsOn 28 = .ok (.ifCond .ne 27, 3) := by decide +kernel
theorem d_Mo_partsOn_31 : decode b_Mo_partsOn 31 = .ok (.aload_n 0, 1) := by decide +kernel
theorem d_Mo_partsOn_32 : decode b_Mo_partsOn 32 = .ok (.getfield 7, 3) := by decide +kernel
theorem d_Mo_partsOn_35 : decode b_Mo_partsOn 35 = .ok (.sipush 2192, 3) := by decide +kernel
theorem d_Mo_partsOn_38 : decode b_Mo_partsOn 38 = .ok (.bipush 8, 2) := by decide +kernel
theorem d_Mo_partsOn_40 : decode b_Mo_partsOn 40 = .ok (.iload_n 3, 1) := by decide +kernel
theorem d_Mo_partsOn_41 : decode b_Mo_partsOn 41 = .ok (.imul, 1) := by decide +kernel
theorem d_Mo_partsOn_42 : decode b_Mo_partsOn 42 = .ok (.iadd, 1) := by decide +kernel
theorem d_Mo_partsOn_43 : decode b_Mo_partsOn 43 = .ok (.iload 5, 2) := by decide +kernel
theorem d_Mo_partsOn_45 : decode b_Mo_partsOn 45 = .ok (.iadd, 1) := by decide +kernel
theorem d_Mo_partsOn_46 : decode b_Mo_partsOn 46 = .ok (.laload, 1) := by decide +kernel
theorem d_Mo_partsOn_47 : decode b_Mo_partsOn 47 = .ok (.iload_n 1, 1) := by decide +kernel
theorem d_Mo_partsOn_48 : decode b_Mo_partsOn 48 = .ok (.i2l, 1) := by decide +kernel
theorem d_Mo_partsOn_49 : decode b_Mo_partsOn 49 = .ok (.lconst 1, 1) := by decide +kernel
theorem d_Mo_partsOn_50 : decode b_Mo_partsOn 50 = .ok (.ladd, 1) := by decide +kernel
theorem d_Mo_partsOn_51 : decode b_Mo_partsOn 51 = .ok (.lcmp, 1) := by decide +kernel
theorem d_Mo_partsOn_52 : decode b_Mo_partsOn 52 = .ok (.ifCond .ne 7, 3) := by decide +kernel
theorem d_Mo_partsOn_55 : decode b_Mo_partsOn 55 = .ok (.iconst 1, 1) := by decide +kernel
theorem d_Mo_partsOn_56 : decode b_Mo_partsOn 56 = .ok (.goto 4, 3) := by decide +kernel
theorem d_Mo_partsOn_59 : decode b_Mo_partsOn 59 = .ok (.iconst 0, 1) := by decide +kernel
theorem d_Mo_partsOn_60 : decode b_Mo_partsOn 60 = .ok (.istore 4, 2) := by decide +kernel
theorem d_Mo_partsOn_62 : decode b_Mo_partsOn 62 = .ok (.iinc 5 1, 3) := by decide +kernel
theorem d_Mo_partsOn_65 : decode b_Mo_partsOn 65 = .ok (.goto (-46), 3) := by decide +kernel
theorem d_Mo_partsOn_68 : decode b_Mo_partsOn 68 = .ok (.iload_n 2, 1) := by decide +kernel
theorem d_Mo_partsOn_69 : decode b_Mo_partsOn 69 = .ok (.iload 4, 2) := by decide +kernel
theorem d_Mo_partsOn_71 : decode b_Mo_partsOn 71 = .ok (.ifCond .eq 7, 3) := by decide +kernel
theorem d_Mo_partsOn_74 : decode b_Mo_partsOn 74 = .ok (.iconst 1, 1) := by decide +kernel
theorem d_Mo_partsOn_75 : decode b_Mo_partsOn 75 = .ok (.goto 4, 3) := by decide +kernel
theorem d_Mo_partsOn_78 : decode b_Mo_partsOn 78 = .ok (.iconst 0, 1) := by decide +kernel
theorem d_Mo_partsOn_79 : decode b_Mo_partsOn 79 = .ok (.iadd, 1) := by decide +kernel
theorem d_Mo_partsOn_80 : decode b_Mo_partsOn 80 = .ok (.istore_n 2, 1) := by decide +kernel
theorem d_Mo_partsOn_81 : decode b_Mo_partsOn 81 = .ok (.iinc 3 1, 3) := by decide +kernel
theorem d_Mo_partsOn_84 : decode b_Mo_partsOn 84 = .ok (.goto (-80), 3) := by decide +kernel
theorem d_Mo_partsOn_87 : decode b_Mo_partsOn 87 = .ok (.iload_n 2, 1) := by decide +kernel
theorem d_Mo_partsOn_88 : decode b_Mo_partsOn 88 = .ok (.ireturn, 1) := by decide +kernel
theorem d_Mo_placementsOn_0 : decode b_Mo_placementsOn 0 = .ok (.iconst 0, 1) := by decide +kernel
theorem d_Mo_placementsOn_1 : decode b_Mo_placementsOn 1 = .ok (.istore_n 2, 1) := by decide +kernel
theorem d_Mo_placementsOn_2 : decode b_Mo_placementsOn 2 = .ok (.iconst 0, 1) := by decide +kernel
theorem d_Mo_placementsOn_3 : decode b_Mo_placementsOn 3 = .ok (.istore_n 3, 1) := by decide +kernel
theorem d_Mo_placementsOn_4 : decode b_Mo_placementsOn 4 = .ok (.iload_n 3, 1) := by decide +kernel
theorem d_Mo_placementsOn_5 : decode b_Mo_placementsOn 5 = .ok (.aload_n 0, 1) := by decide +kernel
theorem d_Mo_placementsOn_6 : decode b_Mo_placementsOn 6 = .ok (.iconst 1, 1) := by decide +kernel
theorem d_Mo_placementsOn_7 : decode b_Mo_placementsOn 7 = .ok (.invokevirtual 62, 3) := by decide +kernel
theorem d_Mo_placementsOn_10 : decode b_Mo_placementsOn 10 = .ok (.if_icmp .ge 47, 3) := by decide +kernel
theorem d_Mo_placementsOn_13 : decode b_Mo_placementsOn 13 = .ok (.iload_n 2, 1) := by decide +kernel
theorem d_Mo_placementsOn_14 : decode b_Mo_placementsOn 14 = .ok (.aload_n 0, 1) := by decide +kernel
theorem d_Mo_placementsOn_15 : decode b_Mo_placementsOn 15 = .ok (.getfield 7, 3) := by decide +kernel
theorem d_Mo_placementsOn_18 : decode b_Mo_placementsOn 18 = .ok (.sipush 152, 3) := by decide +kernel
theorem d_Mo_placementsOn_21 : decode b_Mo_placementsOn 21 = .ok (.iload_n 3, 1) := by decide +kernel
theorem d_Mo_placementsOn_22 : decode b_Mo_placementsOn 22 = .ok (.iadd, 1) := by decide +kernel
theorem d_Mo_placementsOn_23 : decode b_Mo_placementsOn 23 = .ok (.laload, 1) := by decide +kernel
theorem d_Mo_placementsOn_24 : decode b_Mo_placementsOn 24 = .ok (.lconst 0, 1) := by decide +kernel
theorem d_Mo_placementsOn_25 : decode b_Mo_placementsOn 25 = .ok (.lcmp, 1) := by decide +kernel
theorem d_Mo_placementsOn_26 : decode b_Mo_placementsOn 26 = .ok (.ifCond .lt 22, 3) := by decide +kernel
theorem d_Mo_placementsOn_29 : decode b_Mo_placementsOn 29 = .ok (.aload_n 0, 1) := by decide +kernel
theorem d_Mo_placementsOn_30 : decode b_Mo_placementsOn 30 = .ok (.getfield 7, 3) := by decide +kernel
theorem d_Mo_placementsOn_33 : decode b_Mo_placementsOn 33 = .ok (.bipush 32, 2) := by decide +kernel
theorem d_Mo_placementsOn_35 : decode b_Mo_placementsOn 35 = .ok (.iload_n 3, 1) := by decide +kernel
theorem d_Mo_placementsOn_36 : decode b_Mo_placementsOn 36 = .ok (.iadd, 1) := by decide +kernel
theorem d_Mo_placementsOn_37 : decode b_Mo_placementsOn 37 = .ok (.laload, 1) := by decide +kernel
theorem d_Mo_placementsOn_38 : decode b_Mo_placementsOn 38 = .ok (.iload_n 1, 1) := by decide +kernel
theorem d_Mo_placementsOn_39 : decode b_Mo_placementsOn 39 = .ok (.i2l, 1) := by decide +kernel
theorem d_Mo_placementsOn_40 : decode b_Mo_placementsOn 40 = .ok (.lcmp, 1) := by decide +kernel
theorem d_Mo_placementsOn_41 : decode b_Mo_placementsOn 41 = .ok (.ifCond .ne 7, 3) := by decide +kernel
theorem d_Mo_placementsOn_44 : decode b_Mo_placementsOn 44 = .ok (.iconst 1, 1) := by decide +kernel
theorem d_Mo_placementsOn_45 : decode b_Mo_placementsOn 45 = .ok (.goto 4, 3) := by decide +kernel
theorem d_Mo_placementsOn_48 : decode b_Mo_placementsOn 48 = .ok (.iconst 0, 1) := by decide +kernel
theorem d_Mo_placementsOn_49 : decode b_Mo_placementsOn 49 = .ok (.iadd, 1) := by decide +kernel
theorem d_Mo_placementsOn_50 : decode b_Mo_placementsOn 50 = .ok (.istore_n 2, 1) := by decide +kernel
theorem d_Mo_placementsOn_51 : decode b_Mo_placementsOn 51 = .ok (.iinc 3 1, 3) := by decide +kernel
theorem d_Mo_placementsOn_54 : decode b_Mo_placementsOn 54 = .ok (.goto (-50), 3) := by decide +kernel
theorem d_Mo_placementsOn_57 : decode b_Mo_placementsOn 57 = .ok (.iload_n 2, 1) := by decide +kernel
theorem d_Mo_placementsOn_58 : decode b_Mo_placementsOn 58 = .ok (.ireturn, 1) := by decide +kernel
theorem d_Mo_copy_0 : decode b_Mo_copy 0 = .ok (.aload_n 0, 1) := by decide +kernel
theorem d_Mo_copy_1 : decode b_Mo_copy 1 = .ok (.aload_n 0, 1) := by decide +kernel
theorem d_Mo_copy_2 : decode b_Mo_copy 2 = .ok (.iload_n 1, 1) := by decide +kernel
theorem d_Mo_copy_3 : decode b_Mo_copy 3 = .ok (.invokevirtual 95, 3) := by decide +kernel
theorem d_Mo_copy_6 : decode b_Mo_copy 6 = .ok (.ifCond .eq 7, 3) := by decide +kernel
theorem d_Mo_copy_9 : decode b_Mo_copy 9 = .ok (.iconst 0, 1) := by decide +kernel
theorem d_Mo_copy_10 : decode b_Mo_copy 10 = .ok (.goto 4, 3) := by decide +kernel
theorem d_Mo_copy_13 : decode b_Mo_copy 13 = .ok (.iconst 1, 1) := by decide +kernel
theorem d_Mo_copy_14 : decode b_Mo_copy 14 = .ok (.putfield 45, 3) := by decide +kernel
theorem d_Mo_copy_17 : decode b_Mo_copy 17 = .ok (.aload_n 0, 1) := by decide +kernel
theorem d_Mo_copy_18 : decode b_Mo_copy 18 = .ok (.getfield 45, 3) := by decide +kernel
theorem d_Mo_copy_21 : decode b_Mo_copy 21 = .ok (.ifCond .eq 5, 3) := by decide +kernel
theorem d_Mo_copy_24 : decode b_Mo_copy 24 = .ok (.iconst 0, 1) := by decide +kernel
theorem d_Mo_copy_25 : decode b_Mo_copy 25 = .ok (.ireturn, 1) := by decide +kernel
theorem d_Mo_copy_26 : decode b_Mo_copy 26 = .ok (.aload_n 0, 1) := by decide +kernel
theorem d_Mo_copy_27 : decode b_Mo_copy 27 = .ok (.iconst 0, 1) := by decide +kernel
theorem d_Mo_copy_28 : decode b_Mo_copy 28 = .ok (.invokevirtual 62, 3) := by decide +kernel
theorem d_Mo_copy_31 : decode b_Mo_copy 31 = .ok (.bipush 24, 2) := by decide +kernel
theorem d_Mo_copy_33 : decode b_Mo_copy 33 = .ok (.if_icmp .eq 35, 3) := by decide +kernel
theorem d_Mo_copy_36 : decode b_Mo_copy 36 = .ok (.aload_n 0, 1) := by decide +kernel
theorem d_Mo_copy_37 : decode b_Mo_copy 37 = .ok (.iconst 1, 1) := by decide +kernel
theorem d_Mo_copy_38 : decode b_Mo_copy 38 = .ok (.invokevirtual 62, 3) := by decide +kernel
theorem d_Mo_copy_41 : decode b_Mo_copy 41 = .ok (.aload_n 0, 1) := by decide +kernel
theorem d_Mo_copy_42 : decode b_Mo_copy 42 = .ok (.iload_n 1, 1) := by decide +kernel
theorem d_Mo_copy_43 : decode b_Mo_copy 43 = .ok (.invokevirtual 137, 3) := by decide +kernel
theorem d_Mo_copy_46 : decode b_Mo_copy 46 = .ok (.iadd, 1) := by decide +kernel
theorem d_Mo_copy_47 : decode b_Mo_copy 47 = .ok (.bipush 60, 2) := by decide +kernel
theorem d_Mo_copy_49 : decode b_Mo_copy 49 = .ok (.if_icmp .gt 19, 3) := by decide +kernel
theorem d_Mo_copy_52 : decode b_Mo_copy 52 = .ok (.aload_n 0, 1) := by decide +kernel
theorem d_Mo_copy_53 : decode b_Mo_copy 53 = .ok (.iconst 2, 1) := by decide +kernel
theorem d_Mo_copy_54 : decode b_Mo_copy 54 = .ok (.invokevirtual 62, 3) := by decide +kernel
theorem d_Mo_copy_57 : decode b_Mo_copy 57 = .ok (.aload_n 0, 1) := by decide +kernel
theorem d_Mo_copy_58 : decode b_Mo_copy 58 = .ok (.iload_n 1, 1) := by decide +kernel
theorem d_Mo_copy_59 : decode b_Mo_copy 59 = .ok (.invokevirtual 140, 3) := by decide +kernel
theorem d_Mo_copy_62 : decode b_Mo_copy 62 = .ok (.iadd, 1) := by decide +kernel
theorem d_Mo_copy_63 : decode b_Mo_copy 63 = .ok (.bipush 30, 2) := by decide +kernel
theorem d_Mo_copy_65 : decode b_Mo_copy 65 = .ok (.if_icmp .le 5, 3) := by decide +kernel
theorem d_Mo_copy_68 : decode b_Mo_copy 68 = .ok (.iconst (-1), 1) := by decide +kernel
theorem d_Mo_copy_69 : decode b_Mo_copy 69 = .ok (.ireturn, 1) := by decide +kernel
theorem d_Mo_copy_70 : decode b_Mo_copy 70 = .ok (.aload_n 0, 1) := by decide +kernel
theorem d_Mo_copy_71 : decode b_Mo_copy 71 = .ok (.invokevirtual 89, 3) := by decide +kernel
theorem d_Mo_copy_74 : decode b_Mo_copy 74 = .ok (.aload_n 0, 1) := by decide +kernel
theorem d_Mo_copy_75 : decode b_Mo_copy 75 = .ok (.iconst 0, 1) := by decide +kernel
theorem d_Mo_copy_76 : decode b_Mo_copy 76 = .ok (.invokevirtual 62, 3) := by decide +kernel
theorem d_Mo_copy_79 : decode b_Mo_copy 79 = .ok (.istore_n 2, 1) := by decide +kernel
theorem d_Mo_copy_80 : decode b_Mo_copy 80 = .ok (.aload_n 0, 1) := by decide +kernel
theorem d_Mo_copy_81 : decode b_Mo_copy 81 = .ok (.getfield 7, 3) := by decide +kernel
theorem d_Mo_copy_84 : decode b_Mo_copy 84 = .ok (.bipush 8, 2) := by decide +kernel
theorem d_Mo_copy_86 : decode b_Mo_copy 86 = .ok (.iload_n 2, 1) := by decide +kernel
theorem d_Mo_copy_87 : decode b_Mo_copy 87 = .ok (.iadd, 1) := by decide +kernel
theorem d_Mo_copy_88 : decode b_Mo_copy 88 = .ok (.aload_n 0, 1) := by decide +kernel
theorem d_Mo_copy_89 : decode b_Mo_copy 89 = .ok (.getfield 7, 3) := by decide +kernel
theorem d_Mo_copy_92 : decode b_Mo_copy 92 = .ok (.bipush 8, 2) := by decide +kernel
theorem d_Mo_copy_94 : decode b_Mo_copy 94 = .ok (.iload_n 1, 1) := by decide +kernel
theorem d_Mo_copy_95 : decode b_Mo_copy 95 = .ok (.iadd, 1) := by decide +kernel
theorem d_Mo_copy_96 : decode b_Mo_copy 96 = .ok (.laload, 1) := by decide +kernel
theorem d_Mo_copy_97 : decode b_Mo_copy 97 = .ok (.lastore, 1) := by decide +kernel
theorem d_Mo_copy_98 : decode b_Mo_copy 98 = .ok (.aload_n 0, 1) := by decide +kernel
theorem d_Mo_copy_99 : decode b_Mo_copy 99 = .ok (.getfield 7, 3) := by decide +kernel
theorem d_Mo_copy_102 : decode b_Mo_copy 102 = .ok (.iconst 0, 1) := by decide +kernel
theorem d_Mo_copy_103 : decode b_Mo_copy 103 = .ok (.dup2, 1) := by decide +kernel
theorem d_Mo_copy_104 : decode b_Mo_copy 104 = .ok (.laload, 1) := by decide +kernel
theorem d_Mo_copy_105 : decode b_Mo_copy 105 = .ok (.lconst 1, 1) := by decide +kernel
theorem d_Mo_copy_106 : decode b_Mo_copy 106 = .ok (.ladd, 1) := by decide +kernel
theorem d_Mo_copy_107 : decode b_Mo_copy 107 = .ok (.lastore, 1) := by decide +kernel
theorem d_Mo_copy_108 : decode b_Mo_copy 108 = .ok (.aload_n 0, 1) := by decide +kernel
theorem d_Mo_copy_109 : decode b_Mo_copy 109 = .ok (.iload_n 1, 1) := by decide +kernel
theorem d_Mo_copy_110 : decode b_Mo_copy 110 = .ok (.ldc2_w 77, 3) := by decide +kernel
theorem d_Mo_copy_113 : decode b_Mo_copy 113 = .ok (.invokevirtual 79, 3) := by decide +kernel
theorem d_Mo_copy_116 : decode b_Mo_copy 116 = .ok (.istore_n 3, 1) := by decide +kernel
theorem d_Mo_copy_117 : decode b_Mo_copy 117 = .ok (.iload_n 3, 1) := by decide +kernel
theorem d_Mo_copy_118 : decode b_Mo_copy 118 = .ok (.iconst (-1), 1) := by decide +kernel
theorem d_Mo_copy_119 : decode b_Mo_copy 119 = .ok (.if_icmp .eq 88, 3) := by decide +kernel
theorem d_Mo_copy_122 : decode b_Mo_copy 122 = .ok (.aload_n 0, 1) := by decide +kernel
theorem d_Mo_copy_123 : decode b_Mo_copy 123 = .ok (.iload_n 2, 1) := by decide +kernel
theorem d_Mo_copy_124 : decode b_Mo_copy 124 = .ok (.aload_n 0, 1) := by decide +kernel
theorem d_Mo_copy_125 : decode b_Mo_copy 125 = .ok (.getfield 7, 3) := by decide +kernel
theorem d_Mo_copy_128 : decode b_Mo_copy 128 = .ok (.bipush 92, 2) := by decide +kernel
theorem d_Mo_copy_130 : decode b_Mo_copy 130 = .ok (.iload_n 3, 1) := by decide +kernel
theorem d_Mo_copy_131 : decode b_Mo_copy 131 = .ok (.iadd, 1) := by decide +kernel
theorem d_Mo_copy_132 : decode b_Mo_copy 132 = .ok (.laload, 1) := by decide +kernel
theorem d_Mo_copy_133 : decode b_Mo_copy 133 = .ok (.l2i, 1) := by decide +kernel
theorem d_Mo_copy_134 : decode b_Mo_copy 134 = .ok (.invokevirtual 102, 3) := by decide +kernel
theorem d_Mo_copy_137 : decode b_Mo_copy 137 = .ok (.istore 4, 2) := by decide +kernel
theorem d_Mo_copy_139 : decode b_Mo_copy 139 = .ok (.iconst 0, 1) := by decide +kernel
theorem d_Mo_copy_140 : decode b_Mo_copy 140 = .ok (.istore 5, 2) := by decide +kernel
theorem d_Mo_copy_142 : decode b_Mo_copy 142 = .ok (.iload 5, 2) := by decide +kernel
theorem d_Mo_copy_144 : decode b_Mo_copy 144 = .ok (.bipush 32, 2) := by decide +kernel
theorem d_Mo_copy_146 : decode b_Mo_copy 146 = .ok (.if_icmp .ge 42, 3) := by decide +kernel
theorem d_Mo_copy_149 : decode b_Mo_copy 149 = .ok (.aload_n 0, 1) := by decide +kernel
theorem d_Mo_copy_150 : decode b_Mo_copy 150 = .ok (.getfield 7, 3) := by decide +kernel
theorem d_Mo_copy_153 : decode b_Mo_copy 153 = .ok (.sipush 212, 3) := by decide +kernel
theorem d_Mo_copy_156 : decode b_Mo_copy 156 = .ok (.bipush 32, 2) := by decide +kernel
theorem d_Mo_copy_158 : decode b_Mo_copy 158 = .ok (.iload 4, 2) := by decide +kernel
theorem d_Mo_copy_160 : decode b_Mo_copy 160 = .ok (.imul, 1) := by decide +kernel
theorem d_Mo_copy_161 : decode b_Mo_copy 161 = .ok (.iadd, 1) := by decide +kernel
theorem d_Mo_copy_162 : decode b_Mo_copy 162 = .ok (.iload 5, 2) := by decide +kernel
theorem d_Mo_copy_164 : decode b_Mo_copy 164 = .ok (.iadd, 1) := by decide +kernel
theorem d_Mo_copy_165 : decode b_Mo_copy 165 = .ok (.aload_n 0, 1) := by decide +kernel
theorem d_Mo_copy_166 : decode b_Mo_copy 166 = .ok (.getfield 7, 3) := by decide +kernel
theorem d_Mo_copy_169 : decode b_Mo_copy 169 = .ok (.sipush 212, 3) := by decide +kernel
theorem d_Mo_copy_172 : decode b_Mo_copy 172 = .ok (.bipush 32, 2) := by decide +kernel
theorem d_Mo_copy_174 : decode b_Mo_copy 174 = .ok (.iload_n 3, 1) := by decide +kernel
theorem d_Mo_copy_175 : decode b_Mo_copy 175 = .ok (.imul, 1) := by decide +kernel
theorem d_Mo_copy_176 : decode b_Mo_copy 176 = .ok (.iadd, 1) := by decide +kernel
theorem d_Mo_copy_177 : decode b_Mo_copy 177 = .ok (.iload 5, 2) := by decide +kernel
theorem d_Mo_copy_179 : decode b_Mo_copy 179 = .ok (.iadd, 1) := by decide +kernel
theorem d_Mo_copy_180 : decode b_Mo_copy 180 = .ok (.laload, 1) := by decide +kernel
theorem d_Mo_copy_181 : decode b_Mo_copy 181 = .ok (.lastore, 1) := by decide +kernel
theorem d_Mo_copy_182 : decode b_Mo_copy 182 = .ok (.iinc 5 1, 3) := by decide +kernel
theorem d_Mo_copy_185 : decode b_Mo_copy 185 = .ok (.goto (-43), 3) := by decide +kernel
theorem d_Mo_copy_188 : decode b_Mo_copy 188 = .ok (.aload_n 0, 1) := by decide +kernel
theorem d_Mo_copy_189 : decode b_Mo_copy 189 = .ok (.iload_n 1, 1) := by decide +kernel
theorem d_Mo_copy_190 : decode b_Mo_copy 190 = .ok (.aload_n 0, 1) := by decide +kernel
theorem d_Mo_copy_191 : decode b_Mo_copy 191 = .ok (.getfield 7, 3) := by decide +kernel
theorem d_Mo_copy_194 : decode b_Mo_copy 194 = .ok (.sipush 152, 3) := by decide +kernel
theorem d_Mo_copy_197 : decode b_Mo_copy 197 = .ok (.iload_n 3, 1) := by decide +kernel
theorem d_Mo_copy_198 : decode b_Mo_copy 198 = .ok (.iadd, 1) := by decide +kernel
theorem d_Mo_copy_199 : decode b_Mo_copy 199 = .ok (.laload, 1) := by decide +kernel
theorem d_Mo_copy_200 : decode b_Mo_copy 200 = .ok (.invokevirtual 79, 3) := by decide +kernel
theorem d_Mo_copy_203 : decode b_Mo_copy 203 = .ok (.istore_n 3, 1) := by decide +kernel
theorem d_Mo_copy_204 : decode b_Mo_copy 204 = .ok (.goto (-87), 3) := by decide +kernel
theorem d_Mo_copy_207 : decode b_Mo_copy 207 = .ok (.iconst 0, 1) := by decide +kernel
theorem d_Mo_copy_208 : decode b_Mo_copy 208 = .ok (.istore 4, 2) := by decide +kernel
theorem d_Mo_copy_210 : decode b_Mo_copy 210 = .ok (.iload 4, 2) := by decide +kernel
theorem d_Mo_copy_212 : decode b_Mo_copy 212 = .ok (.bipush 30, 2) := by decide +kernel
theorem d_Mo_copy_214 : decode b_Mo_copy 214 = .ok (.if_icmp .ge 17, 3) := by decide +kernel
theorem d_Mo_copy_217 : decode b_Mo_copy 217 = .ok (.aload_n 0, 1) := by decide +kernel
theorem d_Mo_copy_218 : decode b_Mo_copy 218 = .ok (.getfield 42, 3) := by decide +kernel
theorem d_Mo_copy_221 : decode b_Mo_copy 221 = .ok (.iload 4, 2) := by decide +kernel
theorem d_Mo_copy_223 : decode b_Mo_copy 223 = .ok (.iconst (-1), 1) := by decide +kernel
theorem d_Mo_copy_224 : decode b_Mo_copy 224 = .ok (.iastore, 1) := by decide +kernel
theorem d_Mo_copy_225 : decode b_Mo_copy 225 = .ok (.iinc 4 1, 3) := by decide +kernel
theorem d_Mo_copy_228 : decode b_Mo_copy 228 = .ok (.goto (-18), 3) := by decide +kernel
theorem d_Mo_copy_231 : decode b_Mo_copy 231 = .ok (.aload_n 0, 1) := by decide +kernel
theorem d_Mo_copy_232 : decode b_Mo_copy 232 = .ok (.iload_n 1, 1) := by decide +kernel
theorem d_Mo_copy_233 : decode b_Mo_copy 233 = .ok (.ldc2_w 77, 3) := by decide +kernel
theorem d_Mo_copy_236 : decode b_Mo_copy 236 = .ok (.invokevirtual 143, 3) := by decide +kernel
theorem d_Mo_copy_239 : decode b_Mo_copy 239 = .ok (.istore 4, 2) := by decide +kernel
theorem d_Mo_copy_241 : decode b_Mo_copy 241 = .ok (.iload 4, 2) := by decide +kernel
theorem d_Mo_copy_243 : decode b_Mo_copy 243 = .ok (.iconst (-1), 1) := by decide +kernel
theorem d_Mo_copy_244 : decode b_Mo_copy 244 = .ok (.if_icmp .eq 96, 3) := by decide +kernel
theorem d_Mo_copy_247 : decode b_Mo_copy 247 = .ok (.iload 4, 2) := by decide +kernel
theorem d_Mo_copy_249 : decode b_Mo_copy 249 = .ok (.bipush 8, 2) := by decide +kernel
theorem d_Mo_copy_251 : decode b_Mo_copy 251 = .ok (.idiv, 1) := by decide +kernel
theorem d_Mo_copy_252 : decode b_Mo_copy 252 = .ok (.istore 5, 2) := by decide +kernel
theorem d_Mo_copy_254 : decode b_Mo_copy 254 = .ok (.aload_n 0, 1) := by decide +kernel
theorem d_Mo_copy_255 : decode b_Mo_copy 255 = .ok (.getfield 42, 3) := by decide +kernel
theorem d_Mo_copy_258 : decode b_Mo_copy 258 = .ok (.iload 5, 2) := by decide +kernel
theorem d_Mo_copy_260 : decode b_Mo_copy 260 = .ok (.iaload, 1) := by decide +kernel
theorem d_Mo_copy_261 : decode b_Mo_copy 261 = .ok (.iconst (-1), 1) := by decide +kernel
theorem d_Mo_copy_262 : decode b_Mo_copy 262 = .ok (.if_icmp .ne 36, 3) := by decide +kernel
theorem d_Mo_copy_265 : decode b_Mo_copy 265 = .ok (.aload_n 0, 1) := by decide +kernel
theorem d_Mo_copy_266 : decode b_Mo_copy 266 = .ok (.getfield 42, 3) := by decide +kernel
theorem d_Mo_copy_269 : decode b_Mo_copy 269 = .ok (.iload 5, 2) := by decide +kernel
theorem d_Mo_copy_271 : decode b_Mo_copy 271 = .ok (.aload_n 0, 1) := by decide +kernel
theorem d_Mo_copy_272 : decode b_Mo_copy 272 = .ok (.aload_n 0, 1) := by decide +kernel
theorem d_Mo_copy_273 : decode b_Mo_copy 273 = .ok (.getfield 7, 3) := by decide +kernel
theorem d_Mo_copy_276 : decode b_Mo_copy 276 = .ok (.sipush 2132, 3) := by decide +kernel
theorem d_Mo_copy_279 : decode b_Mo_copy 279 = .ok (.iload 5, 2) := by decide +kernel
theorem d_Mo_copy_281 : decode b_Mo_copy 281 = .ok (.iadd, 1) := by decide +kernel
theorem d_Mo_copy_282 : decode b_Mo_copy 282 = .ok (.laload, 1) := by decide +kernel
theorem d_Mo_copy_283 : decode b_Mo_copy 283 = .ok (.aload_n 0, 1) := by decide +kernel
theorem d_Mo_copy_284 : decode b_Mo_copy 284 = .ok (.getfield 7, 3) := by decide +kernel
theorem d_Mo_copy_287 : decode b_Mo_copy 287 = .ok (.sipush 2162, 3) := by decide +kernel
theorem d_Mo_copy_290 : decode b_Mo_copy 290 = .ok (.iload 5, 2) := by decide +kernel
theorem d_Mo_copy_292 : decode b_Mo_copy 292 = .ok (.iadd, 1) := by decide +kernel
theorem d_Mo_copy_293 : decode b_Mo_copy 293 = .ok (.laload, 1) := by decide +kernel
theorem d_Mo_copy_294 : decode b_Mo_copy 294 = .ok (.invokevirtual 123, 3) := by decide +kernel
theorem d_Mo_copy_297 : decode b_Mo_copy 297 = .ok (.iastore, 1) := by decide +kernel
theorem d_Mo_copy_298 : decode b_Mo_copy 298 = .ok (.aload_n 0, 1) := by decide +kernel
theorem d_Mo_copy_299 : decode b_Mo_copy 299 = .ok (.bipush 8, 2) := by decide +kernel
theorem d_Mo_copy_301 : decode b_Mo_copy 301 = .ok (.aload_n 0, 1) := by decide +kernel
theorem d_Mo_copy_302 : decode b_Mo_copy 302 = .ok (.getfield 42, 3) := by decide +kernel
theorem d_Mo_copy_305 : decode b_Mo_copy 305 = .ok (.iload 5, 2) := by decide +kernel
theorem d_Mo_copy_307 : decode b_Mo_copy 307 = .ok (.iaload, 1) := by decide +kernel
theorem d_Mo_copy_308 : decode b_Mo_copy 308 = .ok (.imul, 1) := by decide +kernel
theorem d_Mo_copy_309 : decode b_Mo_copy 309 = .ok (.iload 4, 2) := by decide +kernel
theorem d_Mo_copy_311 : decode b_Mo_copy 311 = .ok (.bipush 8, 2) := by decide +kernel
theorem d_Mo_copy_313 : decode b_Mo_copy 313 = .ok (.irem, 1) := by decide +kernel
theorem d_Mo_copy_314 : decode b_Mo_copy 314 = .ok (.iadd, 1) := by decide +kernel
theorem d_Mo_copy_315 : decode b_Mo_copy 315 = .ok (.iload_n 2, 1) := by decide +kernel
theorem d_Mo_copy_316 : decode b_Mo_copy 316 = .ok (.invokevirtual 133, 3) := by decide +kernel
theorem d_Mo_copy_319 : decode b_Mo_copy 319 = .ok (.aload_n 0, 1) := by decide +kernel
theorem d_Mo_copy_320 : decode b_Mo_copy 320 = .ok (.iload_n 1, 1) := by decide +kernel
theorem d_Mo_copy_321 : decode b_Mo_copy 321 = .ok (.aload_n 0, 1) := by decide +kernel
theorem d_Mo_copy_322 : decode b_Mo_copy 322 = .ok (.getfield 7, 3) := by decide +kernel
theorem d_Mo_copy_325 : decode b_Mo_copy 325 = .ok (.sipush 2432, 3) := by decide +kernel
theorem d_Mo_copy_328 : decode b_Mo_copy 328 = .ok (.iload 4, 2) := by decide +kernel
theorem d_Mo_copy_330 : decode b_Mo_copy 330 = .ok (.iadd, 1) := by decide +kernel
theorem d_Mo_copy_331 : decode b_Mo_copy 331 = .ok (.laload, 1) := by decide +kernel
theorem d_Mo_copy_332 : decode b_Mo_copy 332 = .ok (.invokevirtual 143, 3) := by decide +kernel
theorem d_Mo_copy_335 : decode b_Mo_copy 335 = .ok (.istore 4, 2) := by decide +kernel
theorem d_Mo_copy_337 : decode b_Mo_copy 337 = .ok (.goto (-96), 3) := by decide +kernel
theorem d_Mo_copy_340 : decode b_Mo_copy 340 = .ok (.aload_n 0, 1) := by decide +kernel
theorem d_Mo_copy_341 : decode b_Mo_copy 341 = .ok (.invokevirtual 92, 3) := by decide +kernel
theorem d_Mo_copy_344 : decode b_Mo_copy 344 = .ok (.iload_n 2, 1) := by decide +kernel
theorem d_Mo_copy_345 : decode b_Mo_copy 345 = .ok (.ireturn, 1) := by decide +kernel
theorem d_Mo_rule_0 : decode b_Mo_rule 0 = .ok (.aload_n 0, 1) := by decide +kernel
theorem d_Mo_rule_1 : decode b_Mo_rule 1 = .ok (.iload_n 1, 1) := by decide +kernel
theorem d_Mo_rule_2 : decode b_Mo_rule 2 = .ok (.ifCond .eq 8, 3) := by decide +kernel
theorem d_Mo_rule_5 : decode b_Mo_rule 5 = .ok (.iload_n 1, 1) := by decide +kernel
theorem d_Mo_rule_6 : decode b_Mo_rule 6 = .ok (.iconst 1, 1) := by decide +kernel
theorem d_Mo_rule_7 : decode b_Mo_rule 7 = .ok (.if_icmp .ne 7, 3) := by decide +kernel
theorem d_Mo_rule_10 : decode b_Mo_rule 10 = .ok (.iconst 0, 1) := by decide +kernel
theorem d_Mo_rule_11 : decode b_Mo_rule 11 = .ok (.goto 4, 3) := by decide +kernel
theorem d_Mo_rule_14 : decode b_Mo_rule 14 = .ok (.iconst 1, 1) := by decide +kernel
theorem d_Mo_rule_15 : decode b_Mo_rule 15 = .ok (.putfield 45, 3) := by decide +kernel
theorem d_Mo_rule_18 : decode b_Mo_rule 18 = .ok (.aload_n 0, 1) := by decide +kernel
theorem d_Mo_rule_19 : decode b_Mo_rule 19 = .ok (.getfield 45, 3) := by decide +kernel
theorem d_Mo_rule_22 : decode b_Mo_rule 22 = .ok (.ifCond .ne 15, 3) := by decide +kernel
theorem d_Mo_rule_25 : decode b_Mo_rule 25 = .ok (.aload_n 0, 1) := by decide +kernel
theorem d_Mo_rule_26 : decode b_Mo_rule 26 = .ok (.getfield 7, 3) := by decide +kernel
theorem d_Mo_rule_29 : decode b_Mo_rule 29 = .ok (.iconst 5, 1) := by decide +kernel
theorem d_Mo_rule_30 : decode b_Mo_rule 30 = .ok (.laload, 1) := by decide +kernel
theorem d_Mo_rule_31 : decode b_Mo_rule 31 = .ok (.iload_n 1, 1) := by decide +kernel
theorem d_Mo_rule_32 : decode b_Mo_rule 32 = .ok (.i2l, 1) := by decide +kernel
theorem d_Mo_rule_33 : decode b_Mo_rule 33 = .ok (.lcmp, 1) := by decide +kernel
theorem d_Mo_rule_34 : decode b_Mo_rule 34 = .ok (.ifCond .ne 5, 3) := by decide +kernel
theorem d_Mo_rule_37 : decode b_Mo_rule 37 = .ok (.iconst 0, 1) := by decide +kernel
theorem d_Mo_rule_38 : decode b_Mo_rule 38 = .ok (.ireturn, 1) := by decide +kernel
theorem d_Mo_rule_39 : decode b_Mo_rule 39 = .ok (.aload_n 0, 1) := by decide +kernel
theorem d_Mo_rule_40 : decode b_Mo_rule 40 = .ok (.invokevirtual 89, 3) := by decide +kernel
theorem d_Mo_rule_43 : decode b_Mo_rule 43 = .ok (.aload_n 0, 1) := by decide +kernel
theorem d_Mo_rule_44 : decode b_Mo_rule 44 = .ok (.getfield 7, 3) := by decide +kernel
theorem d_Mo_rule_47 : decode b_Mo_rule 47 = .ok (.iconst 5, 1) := by decide +kernel
theorem d_Mo_rule_48 : decode b_Mo_rule 48 = .ok (.iload_n 1, 1) := by decide +kernel
theorem d_Mo_rule_49 : decode b_Mo_rule 49 = .ok (.i2l, 1) := by decide +kernel
theorem d_Mo_rule_50 : decode b_Mo_rule 50 = .ok (.lastore, 1) := by decide +kernel
theorem d_Mo_rule_51 : decode b_Mo_rule 51 = .ok (.aload_n 0, 1) := by decide +kernel
theorem d_Mo_rule_52 : decode b_Mo_rule 52 = .ok (.invokevirtual 92, 3) := by decide +kernel
theorem d_Mo_rule_55 : decode b_Mo_rule 55 = .ok (.iconst 1, 1) := by decide +kernel
theorem d_Mo_rule_56 : decode b_Mo_rule 56 = .ok (.ireturn, 1) := by decide +kernel
theorem d_Mo_variant_0 : decode b_Mo_variant 0 = .ok (.aload_n 0, 1) := by decide +kernel
theorem d_Mo_variant_1 : decode b_Mo_variant 1 = .ok (.iload_n 1, 1) := by decide +kernel
theorem d_Mo_variant_2 : decode b_Mo_variant 2 = .ok (.iconst (-1), 1) := by decide +kernel
theorem d_Mo_variant_3 : decode b_Mo_variant 3 = .ok (.if_icmp .eq 11, 3) := by decide +kernel
theorem d_Mo_variant_6 : decode b_Mo_variant 6 = .ok (.aload_n 0, 1) := by decide +kernel
theorem d_Mo_variant_7 : decode b_Mo_variant 7 = .ok (.iload_n 1, 1) := by decide +kernel
theorem d_Mo_variant_8 : decode b_Mo_variant 8 = .ok (.invokevirtual 146, 3) := by decide +kernel
theorem d_Mo_variant_11 : decode b_Mo_variant 11 = .ok (.ifCond .eq 7, 3) := by decide +kernel
theorem d_Mo_variant_14 : decode b_Mo_variant 14 = .ok (.iconst 0, 1) := by decide +kernel
theorem d_Mo_variant_15 : decode b_Mo_variant 15 = .ok (.goto 4, 3) := by decide +kernel
theorem d_Mo_variant_18 : decode b_Mo_variant 18 = .ok (.iconst 1, 1) := by decide +kernel
theorem d_Mo_variant_19 : decode b_Mo_variant 19 = .ok (.putfield 45, 3) := by decide +kernel
theorem d_Mo_variant_22 : decode b_Mo_variant 22 = .ok (.aload_n 0, 1) := by decide +kernel
theorem d_Mo_variant_23 : decode b_Mo_variant 23 = .ok (.getfield 45, 3) := by decide +kernel
theorem d_Mo_variant_26 : decode b_Mo_variant 26 = .ok (.ifCond .eq 5, 3) := by decide +kernel
theorem d_Mo_variant_29 : decode b_Mo_variant 29 = .ok (.iconst 0, 1) := by decide +kernel
theorem d_Mo_variant_30 : decode b_Mo_variant 30 = .ok (.ireturn, 1) := by decide +kernel
theorem d_Mo_variant_31 : decode b_Mo_variant 31 = .ok (.aload_n 0, 1) := by decide +kernel
theorem d_Mo_variant_32 : decode b_Mo_variant 32 = .ok (.iconst 3, 1) := by decide +kernel
theorem d_Mo_variant_33 : decode b_Mo_variant 33 = .ok (.invokevirtual 62, 3) := by decide +kernel
theorem d_Mo_variant_36 : decode b_Mo_variant 36 = .ok (.bipush 10, 2) := by decide +kernel
theorem d_Mo_variant_38 : decode b_Mo_variant 38 = .ok (.if_icmp .ne 5, 3) := by decide +kernel
theorem d_Mo_variant_41 : decode b_Mo_variant 41 = .ok (.iconst (-1), 1) := by decide +kernel
theorem d_Mo_variant_42 : decode b_Mo_variant 42 = .ok (.ireturn, 1) := by decide +kernel
theorem d_Mo_variant_43 : decode b_Mo_variant 43 = .ok (.aload_n 0, 1) := by decide +kernel
theorem d_Mo_variant_44 : decode b_Mo_variant 44 = .ok (.invokevirtual 89, 3) := by decide +kernel
theorem d_Mo_variant_47 : decode b_Mo_variant 47 = .ok (.aload_n 0, 1) := by decide +kernel
theorem d_Mo_variant_48 : decode b_Mo_variant 48 = .ok (.iconst 3, 1) := by decide +kernel
theorem d_Mo_variant_49 : decode b_Mo_variant 49 = .ok (.invokevirtual 62, 3) := by decide +kernel
theorem d_Mo_variant_52 : decode b_Mo_variant 52 = .ok (.istore_n 2, 1) := by decide +kernel
theorem d_Mo_variant_53 : decode b_Mo_variant 53 = .ok (.aload_n 0, 1) := by decide +kernel
theorem d_Mo_variant_54 : decode b_Mo_variant 54 = .ok (.getfield 7, 3) := by decide +kernel
theorem d_Mo_variant_57 : decode b_Mo_variant 57 = .ok (.sipush 2672, 3) := by decide +kernel
theorem d_Mo_variant_60 : decode b_Mo_variant 60 = .ok (.iload_n 2, 1) := by decide +kernel
theorem d_Mo_variant_61 : decode b_Mo_variant 61 = .ok (.iadd, 1) := by decide +kernel
theorem d_Mo_variant_62 : decode b_Mo_variant 62 = .ok (.iload_n 1, 1) := by decide +kernel
theorem d_Mo_variant_63 : decode b_Mo_variant 63 = .ok (.i2l, 1) := by decide +kernel
theorem d_Mo_variant_64 : decode b_Mo_variant 64 = .ok (.lastore, 1) := by decide +kernel
theorem d_Mo_variant_65 : decode b_Mo_variant 65 = .ok (.aload_n 0, 1) := by decide +kernel
theorem d_Mo_variant_66 : decode b_Mo_variant 66 = .ok (.getfield 7, 3) := by decide +kernel
theorem d_Mo_variant_69 : decode b_Mo_variant 69 = .ok (.iconst 3, 1) := by decide +kernel
theorem d_Mo_variant_70 : decode b_Mo_variant 70 = .ok (.dup2, 1) := by decide +kernel
theorem d_Mo_variant_71 : decode b_Mo_variant 71 = .ok (.laload, 1) := by decide +kernel
theorem d_Mo_variant_72 : decode b_Mo_variant 72 = .ok (.lconst 1, 1) := by decide +kernel
theorem d_Mo_variant_73 : decode b_Mo_variant 73 = .ok (.ladd, 1) := by decide +kernel
theorem d_Mo_variant_74 : decode b_Mo_variant 74 = .ok (.lastore, 1) := by decide +kernel
theorem d_Mo_variant_75 : decode b_Mo_variant 75 = .ok (.aload_n 0, 1) := by decide +kernel
theorem d_Mo_variant_76 : decode b_Mo_variant 76 = .ok (.invokevirtual 92, 3) := by decide +kernel
theorem d_Mo_variant_79 : decode b_Mo_variant 79 = .ok (.iload_n 2, 1) := by decide +kernel
theorem d_Mo_variant_80 : decode b_Mo_variant 80 = .ok (.ireturn, 1) := by decide +kernel
theorem d_Mo_pathOf_0 : decode b_Mo_pathOf 0 = .ok (.aload_n 0, 1) := by decide +kernel
theorem d_Mo_pathOf_1 : decode b_Mo_pathOf 1 = .ok (.getfield 30, 3) := by decide +kernel
theorem d_Mo_pathOf_4 : decode b_Mo_pathOf 4 = .ok (.iload_n 1, 1) := by decide +kernel
theorem d_Mo_pathOf_5 : decode b_Mo_pathOf 5 = .ok (.iaload, 1) := by decide +kernel
theorem d_Mo_pathOf_6 : decode b_Mo_pathOf 6 = .ok (.istore_n 2, 1) := by decide +kernel
theorem d_Mo_pathOf_7 : decode b_Mo_pathOf 7 = .ok (.iload_n 1, 1) := by decide +kernel
theorem d_Mo_pathOf_8 : decode b_Mo_pathOf 8 = .ok (.istore_n 3, 1) := by decide +kernel
theorem d_Mo_pathOf_9 : decode b_Mo_pathOf 9 = .ok (.iload_n 2, 1) := by decide +kernel
theorem d_Mo_pathOf_10 : decode b_Mo_pathOf 10 = .ok (.iconst 1, 1) := by decide +kernel
theorem d_Mo_pathOf_11 : decode b_Mo_pathOf 11 = .ok (.isub, 1) := by decide +kernel
theorem d_Mo_pathOf_12 : decode b_Mo_pathOf 12 = .ok (.istore 4, 2) := by decide +kernel
theorem d_Mo_pathOf_14 : decode b_Mo_pathOf 14 = .ok (.iload 4, 2) := by decide +kernel
theorem d_Mo_pathOf_16 : decode b_Mo_pathOf 16 = .ok (.ifCond .lt 29, 3) := by decide +kernel
theorem d_Mo_pathOf_19 : decode b_Mo_pathOf 19 = .ok (.aload_n 0, 1) := by decide +kernel
theorem d_Mo_pathOf_20 : decode b_Mo_pathOf 20 = .ok (.getfield 33, 3) := by decide +kernel
theorem d_Mo_pathOf_23 : decode b_Mo_pathOf 23 = .ok (.iload 4, 2) := by decide +kernel
theorem d_Mo_pathOf_25 : decode b_Mo_pathOf 25 = .ok (.aload_n 0, 1) := by decide +kernel
theorem d_Mo_pathOf_26 : decode b_Mo_pathOf 26 = .ok (.getfield 24, 3) := by decide +kernel
theorem d_Mo_pathOf_29 : decode b_Mo_pathOf 29 = .ok (.iload_n 3, 1) := by decide +kernel
theorem d_Mo_pathOf_30 : decode b_Mo_pathOf 30 = .ok (.iaload, 1) := by decide +kernel
theorem d_Mo_pathOf_31 : decode b_Mo_pathOf 31 = .ok (.iastore, 1) := by decide +kernel
theorem d_Mo_pathOf_32 : decode b_Mo_pathOf 32 = .ok (.aload_n 0, 1) := by decide +kernel
theorem d_Mo_pathOf_33 : decode b_Mo_pathOf 33 = .ok (.getfield 27, 3) := by decide +kernel
theorem d_Mo_pathOf_36 : decode b_Mo_pathOf 36 = .ok (.iload_n 3, 1) := by decide +kernel
theorem d_Mo_pathOf_37 : decode b_Mo_pathOf 37 = .ok (.iaload, 1) := by decide +kernel
theorem d_Mo_pathOf_38 : decode b_Mo_pathOf 38 = .ok (.istore_n 3, 1) := by decide +kernel
theorem d_Mo_pathOf_39 : decode b_Mo_pathOf 39 = .ok (.iinc 4 (-1), 3) := by decide +kernel
theorem d_Mo_pathOf_42 : decode b_Mo_pathOf 42 = .ok (.goto (-28), 3) := by decide +kernel
theorem d_Mo_pathOf_45 : decode b_Mo_pathOf 45 = .ok (.iload_n 2, 1) := by decide +kernel
theorem d_Mo_pathOf_46 : decode b_Mo_pathOf 46 = .ok (.ireturn, 1) := by decide +kernel
theorem d_Mo_find_0 : decode b_Mo_find 0 = .ok (.iconst 0, 1) := by decide +kernel
theorem d_Mo_find_1 : decode b_Mo_find 1 = .ok (.istore 5, 2) := by decide +kernel
theorem d_Mo_find_3 : decode b_Mo_find 3 = .ok (.iload 5, 2) := by decide +kernel
theorem d_Mo_find_5 : decode b_Mo_find 5 = .ok (.aload_n 0, 1) := by decide +kernel
theorem d_Mo_find_6 : decode b_Mo_find 6 = .ok (.iconst 4, 1) := by decide +kernel
theorem d_Mo_find_7 : decode b_Mo_find 7 = .ok (.invokevirtual 62, 3) := by decide +kernel
theorem d_Mo_find_10 : decode b_Mo_find 10 = .ok (.if_icmp .ge 146, 3) := by decide +kernel
theorem d_Mo_find_13 : decode b_Mo_find 13 = .ok (.sipush 2682, 3) := by decide +kernel
theorem d_Mo_find_16 : decode b_Mo_find 16 = .ok (.bipush 29, 2) := by decide +kernel
theorem d_Mo_find_18 : decode b_Mo_find 18 = .ok (.iload 5, 2) := by decide +kernel
theorem d_Mo_find_20 : decode b_Mo_find 20 = .ok (.imul, 1) := by decide +kernel
theorem d_Mo_find_21 : decode b_Mo_find 21 = .ok (.iadd, 1) := by decide +kernel
theorem d_Mo_find_22 : decode b_Mo_find 22 = .ok (.istore 6, 2) := by decide +kernel
theorem d_Mo_find_24 : decode b_Mo_find 24 = .ok (.aload_n 0, 1) := by decide +kernel
theorem d_Mo_find_25 : decode b_Mo_find 25 = .ok (.getfield 7, 3) := by decide +kernel
theorem d_Mo_find_28 : decode b_Mo_find 28 = .ok (.iload 6, 2) := by decide +kernel
theorem d_Mo_find_30 : decode b_Mo_find 30 = .ok (.laload, 1) := by decide +kernel
theorem d_Mo_find_31 : decode b_Mo_find 31 = .ok (.iload_n 1, 1) := by decide +kernel
theorem d_Mo_find_32 : decode b_Mo_find 32 = .ok (.i2l, 1) := by decide +kernel
theorem d_Mo_find_33 : decode b_Mo_find 33 = .ok (.lcmp, 1) := by decide +kernel
theorem d_Mo_find_34 : decode b_Mo_find 34 = .ok (.ifCond .ne 53, 3) := by decide +kernel
theorem d_Mo_find_37 : decode b_Mo_find 37 = .ok (.aload_n 0, 1) := by decide +kernel
theorem d_Mo_find_38 : decode b_Mo_find 38 = .ok (.getfield 7, 3) := by decide +kernel
theorem d_Mo_find_41 : decode b_Mo_find 41 = .ok (.iload 6, 2) := by decide +kernel
theorem d_Mo_find_43 : decode b_Mo_find 43 = .ok (.iconst 1, 1) := by decide +kernel
theorem d_Mo_find_44 : decode b_Mo_find 44 = .ok (.iadd, 1) := by decide +kernel
theorem d_Mo_find_45 : decode b_Mo_find 45 = .ok (.laload, 1) := by decide +kernel
theorem d_Mo_find_46 : decode b_Mo_find 46 = .ok (.iload_n 2, 1) := by decide +kernel
theorem d_Mo_find_47 : decode b_Mo_find 47 = .ok (.i2l, 1) := by decide +kernel
theorem d_Mo_find_48 : decode b_Mo_find 48 = .ok (.lcmp, 1) := by decide +kernel
theorem d_Mo_find_49 : decode b_Mo_find 49 = .ok (.ifCond .ne 38, 3) := by decide +kernel
theorem d_Mo_find_52 : decode b_Mo_find 52 = .ok (.aload_n 0, 1) := by decide +kernel
theorem d_Mo_find_53 : decode b_Mo_find 53 = .ok (.getfield 7, 3) := by decide +kernel
theorem d_Mo_find_56 : decode b_Mo_find 56 = .ok (.iload 6, 2) := by decide +kernel
theorem d_Mo_find_58 : decode b_Mo_find 58 = .ok (.iconst 2, 1) := by decide +kernel
theorem d_Mo_find_59 : decode b_Mo_find 59 = .ok (.iadd, 1) := by decide +kernel
theorem d_Mo_find_60 : decode b_Mo_find 60 = .ok (.laload, 1) := by decide +kernel
theorem d_Mo_find_61 : decode b_Mo_find 61 = .ok (.iload_n 3, 1) := by decide +kernel
theorem d_Mo_find_62 : decode b_Mo_find 62 = .ok (.i2l, 1) := by decide +kernel
theorem d_Mo_find_63 : decode b_Mo_find 63 = .ok (.lcmp, 1) := by decide +kernel
theorem d_Mo_find_64 : decode b_Mo_find 64 = .ok (.ifCond .ne 23, 3) := by decide +kernel
theorem d_Mo_find_67 : decode b_Mo_find 67 = .ok (.aload_n 0, 1) := by decide +kernel
theorem d_Mo_find_68 : decode b_Mo_find 68 = .ok (.getfield 7, 3) := by decide +kernel
theorem d_Mo_find_71 : decode b_Mo_find 71 = .ok (.iload 6, 2) := by decide +kernel
theorem d_Mo_find_73 : decode b_Mo_find 73 = .ok (.iconst 4, 1) := by decide +kernel
theorem d_Mo_find_74 : decode b_Mo_find 74 = .ok (.iadd, 1) := by decide +kernel
theorem d_Mo_find_75 : decode b_Mo_find 75 = .ok (.laload, 1) := by decide +kernel
theorem d_Mo_find_76 : decode b_Mo_find 76 = .ok (.iload 4, 2) := by decide +kernel
theorem d_Mo_find_78 : decode b_Mo_find 78 = .ok (.i2l, 1) := by decide +kernel
theorem d_Mo_find_79 : decode b_Mo_find 79 = .ok (.lcmp, 1) := by decide +kernel
theorem d_Mo_find_80 : decode b_Mo_find 80 = .ok (.ifCond .ne 7, 3) := by decide +kernel
theorem d_Mo_find_83 : decode b_Mo_find 83 = .ok (.iconst 1, 1) := by decide +kernel
theorem d_Mo_find_84 : decode b_Mo_find 84 = .ok (.goto 4, 3) := by decide +kernel
theorem d_Mo_find_87 : decode b_Mo_find 87 = .ok (.iconst 0, 1) := by decide +kernel
theorem d_Mo_find_88 : decode b_Mo_find 88 = .ok (.istore 7, 2) := by decide +kernel
theorem d_Mo_find_90 : decode b_Mo_find 90 = .ok (.iconst 0, 1) := by decide +kernel
theorem d_Mo_find_91 : decode b_Mo_find 91 = .ok (.istore 8, 2) := by decide +kernel
theorem d_Mo_find_93 : decode b_Mo_find 93 = .ok (.iload 8, 2) := by decide +kernel
theorem d_Mo_find_95 : decode b_Mo_find 95 = .ok (.iload 4, 2) := by decide +kernel
theorem d_Mo_find_97 : decode b_Mo_find 97 = .ok (.if_icmp .ge 45, 3) := by decide +kernel
theorem d_Mo_find_100 : decode b_Mo_find 100 = .ok (.iload 7, 2) := by decide +kernel
theorem d_Mo_find_102 : decode b_Mo_find 102 = .ok (.ifCond .eq 40, 3) := by decide +kernel
theorem d_Mo_find_105 : decode b_Mo_find 105 = .ok (.aload_n 0, 1) := by decide +kernel
theorem d_Mo_find_106 : decode b_Mo_find 106 = .ok (.getfield 7, 3) := by decide +kernel
theorem d_Mo_find_109 : decode b_Mo_find 109 = .ok (.iload 6, 2) := by decide +kernel
theorem d_Mo_find_111 : decode b_Mo_find 111 = .ok (.iconst 5, 1) := by decide +kernel
theorem d_Mo_find_112 : decode b_Mo_find 112 = .ok (.iadd, 1) := by decide +kernel
theorem d_Mo_find_113 : decode b_Mo_find 113 = .ok (.iload 8, 2) := by decide +kernel
theorem d_Mo_find_115 : decode b_Mo_find 115 = .ok (.iadd, 1) := by decide +kernel
theorem d_Mo_find_116 : decode b_Mo_find 116 = .ok (.laload, 1) := by decide +kernel
theorem d_Mo_find_117 : decode b_Mo_find 117 = .ok (.aload_n 0, 1) := by decide +kernel
theorem d_Mo_find_118 : decode b_Mo_find 118 = .ok (.getfield 33, 3) := by decide +kernel
theorem d_Mo_find_121 : decode b_Mo_find 121 = .ok (.iload 8, 2) := by decide +kernel
theorem d_Mo_find_123 : decode b_Mo_find 123 = .ok (.iaload, 1) := by decide +kernel
theorem d_Mo_find_124 : decode b_Mo_find 124 = .ok (.i2l, 1) := by decide +kernel
theorem d_Mo_find_125 : decode b_Mo_find 125 = .ok (.lcmp, 1) := by decide +kernel
theorem d_Mo_find_126 : decode b_Mo_find 126 = .ok (.ifCond .ne 7, 3) := by decide +kernel
theorem d_Mo_find_129 : decode b_Mo_find 129 = .ok (.iconst 1, 1) := by decide +kernel
theorem d_Mo_find_130 : decode b_Mo_find 130 = .ok (.goto 4, 3) := by decide +kernel
theorem d_Mo_find_133 : decode b_Mo_find 133 = .ok (.iconst 0, 1) := by decide +kernel
theorem d_Mo_find_134 : decode b_Mo_find 134 = .ok (.istore 7, 2) := by decide +kernel
theorem d_Mo_find_136 : decode b_Mo_find 136 = .ok (.iinc 8 1, 3) := by decide +kernel
theorem d_Mo_find_139 : decode b_Mo_find 139 = .ok (.goto (-46), 3) := by decide +kernel
theorem d_Mo_find_142 : decode b_Mo_find 142 = .ok (.iload 7, 2) := by decide +kernel
theorem d_Mo_find_144 : decode b_Mo_find 144 = .ok (.ifCond .eq 6, 3) := by decide +kernel
theorem d_Mo_find_147 : decode b_Mo_find 147 = .ok (.iload 6, 2) := by decide +kernel
theorem d_Mo_find_149 : decode b_Mo_find 149 = .ok (.ireturn, 1) := by decide +kernel
theorem d_Mo_find_150 : decode b_Mo_find 150 = .ok (.iinc 5 1, 3) := by decide +kernel
theorem d_Mo_find_153 : decode b_Mo_find 153 = .ok (.goto (-150), 3) := by decide +kernel
theorem d_Mo_find_156 : decode b_Mo_find 156 = .ok (.iconst (-1), 1) := by decide +kernel
theorem d_Mo_find_157 : decode b_Mo_find 157 = .ok (.ireturn, 1) := by decide +kernel
theorem d_Mo_tell_0 : decode b_Mo_tell 0 = .ok (.aload_n 0, 1) := by decide +kernel
theorem d_Mo_tell_1 : decode b_Mo_tell 1 = .ok (.aload_n 0, 1) := by decide +kernel
theorem d_Mo_tell_2 : decode b_Mo_tell 2 = .ok (.iload_n 1, 1) := by decide +kernel
theorem d_Mo_tell_3 : decode b_Mo_tell 3 = .ok (.invokevirtual 146, 3) := by decide +kernel
theorem d_Mo_tell_6 : decode b_Mo_tell 6 = .ok (.ifCond .eq 23, 3) := by decide +kernel
theorem d_Mo_tell_9 : decode b_Mo_tell 9 = .ok (.aload_n 0, 1) := by decide +kernel
theorem d_Mo_tell_10 : decode b_Mo_tell 10 = .ok (.iload_n 2, 1) := by decide +kernel
theorem d_Mo_tell_11 : decode b_Mo_tell 11 = .ok (.invokevirtual 149, 3) := by decide +kernel
theorem d_Mo_tell_14 : decode b_Mo_tell 14 = .ok (.ifCond .eq 15, 3) := by decide +kernel
theorem d_Mo_tell_17 : decode b_Mo_tell 17 = .ok (.aload_n 0, 1) := by decide +kernel
theorem d_Mo_tell_18 : decode b_Mo_tell 18 = .ok (.iload_n 3, 1) := by decide +kernel
theorem d_Mo_tell_19 : decode b_Mo_tell 19 = .ok (.invokevirtual 66, 3) := by decide +kernel
theorem d_Mo_tell_22 : decode b_Mo_tell 22 = .ok (.ifCond .eq 7, 3) := by decide +kernel
theorem d_Mo_tell_25 : decode b_Mo_tell 25 = .ok (.iconst 0, 1) := by decide +kernel
theorem d_Mo_tell_26 : decode b_Mo_tell 26 = .ok (.goto 4, 3) := by decide +kernel
theorem d_Mo_tell_29 : decode b_Mo_tell 29 = .ok (.iconst 1, 1) := by decide +kernel
theorem d_Mo_tell_30 : decode b_Mo_tell 30 = .ok (.putfield 45, 3) := by decide +kernel
theorem d_Mo_tell_33 : decode b_Mo_tell 33 = .ok (.aload_n 0, 1) := by decide +kernel
theorem d_Mo_tell_34 : decode b_Mo_tell 34 = .ok (.getfield 45, 3) := by decide +kernel
theorem d_Mo_tell_37 : decode b_Mo_tell 37 = .ok (.ifCond .eq 5, 3) := by decide +kernel
theorem d_Mo_tell_40 : decode b_Mo_tell 40 = .ok (.iconst 0, 1) := by decide +kernel
theorem d_Mo_tell_41 : decode b_Mo_tell 41 = .ok (.ireturn, 1) := by decide +kernel
theorem d_Mo_tell_42 : decode b_Mo_tell 42 = .ok (.aload_n 0, 1) := by decide +kernel
theorem d_Mo_tell_43 : decode b_Mo_tell 43 = .ok (.iload_n 2, 1) := by decide +kernel
theorem d_Mo_tell_44 : decode b_Mo_tell 44 = .ok (.invokevirtual 152, 3) := by decide +kernel
theorem d_Mo_tell_47 : decode b_Mo_tell 47 = .ok (.istore 7, 2) := by decide +kernel
theorem d_Mo_tell_49 : decode b_Mo_tell 49 = .ok (.aload_n 0, 1) := by decide +kernel
theorem d_Mo_tell_50 : decode b_Mo_tell 50 = .ok (.iload_n 1, 1) := by decide +kernel
theorem d_Mo_tell_51 : decode b_Mo_tell 51 = .ok (.iload_n 3, 1) := by decide +kernel
theorem d_Mo_tell_52 : decode b_Mo_tell 52 = .ok (.iload 4, 2) := by decide +kernel
theorem d_Mo_tell_54 : decode b_Mo_tell 54 = .ok (.iload 7, 2) := by decide +kernel
theorem d_Mo_tell_56 : decode b_Mo_tell 56 = .ok (.invokevirtual 155, 3) := by decide +kernel
theorem d_Mo_tell_59 : decode b_Mo_tell 59 = .ok (.istore 8, 2) := by decide +kernel
theorem d_Mo_tell_61 : decode b_Mo_tell 61 = .ok (.iload 8, 2) := by decide +kernel
theorem d_Mo_tell_63 : decode b_Mo_tell 63 = .ok (.iconst (-1), 1) := by decide +kernel
theorem d_Mo_tell_64 : decode b_Mo_tell 64 = .ok (.if_icmp .ne 16, 3) := by decide +kernel
theorem d_Mo_tell_67 : decode b_Mo_tell 67 = .ok (.aload_n 0, 1) := by decide +kernel
theorem d_Mo_tell_68 : decode b_Mo_tell 68 = .ok (.iconst 4, 1) := by decide +kernel
theorem d_Mo_tell_69 : decode b_Mo_tell 69 = .ok (.invokevirtual 62, 3) := by decide +kernel
theorem d_Mo_tell_72 : decode b_Mo_tell 72 = .ok (.bipush 40, 2) := by decide +kernel
theorem d_Mo_tell_74 : decode b_Mo_tell 74 = .ok (.if_icmp .ne 23, 3) := by decide +kernel
theorem d_Mo_tell_77 : decode b_Mo_tell 77 = .ok (.goto 18, 3) := by decide +kernel
theorem d_Mo_tell_80 : decode b_Mo_tell 80 = .ok (.aload_n 0, 1) := by decide +kernel
theorem d_Mo_tell_81 : decode b_Mo_tell 81 = .ok (.getfield 7, 3) := by decide +kernel
theorem d_Mo_tell_84 : decode b_Mo_tell 84 = .ok (.iload 8, 2) := by decide +kernel
theorem d_Mo_tell_86 : decode b_Mo_tell 86 = .ok (.iconst 3, 1) := by decide +kernel
theorem d_Mo_tell_87 : decode b_Mo_tell 87 = .ok (.iadd, 1) := by decide +kernel
theorem d_Mo_tell_88 : decode b_Mo_tell 88 = .ok (.laload, 1) := by decide +kernel
theorem d_Mo_tell_89 : decode b_Mo_tell 89 = .ok (.lload 5, 2) := by decide +kernel
theorem d_Mo_tell_91 : decode b_Mo_tell 91 = .ok (.lcmp, 1) := by decide +kernel
theorem d_Mo_tell_92 : decode b_Mo_tell 92 = .ok (.ifCond .ne 5, 3) := by decide +kernel
theorem d_Mo_tell_95 : decode b_Mo_tell 95 = .ok (.iconst 0, 1) := by decide +kernel
theorem d_Mo_tell_96 : decode b_Mo_tell 96 = .ok (.ireturn, 1) := by decide +kernel
theorem d_Mo_tell_97 : decode b_Mo_tell 97 = .ok (.aload_n 0, 1) := by decide +kernel
theorem d_Mo_tell_98 : decode b_Mo_tell 98 = .ok (.invokevirtual 89, 3) := by decide +kernel
theorem d_Mo_tell_101 : decode b_Mo_tell 101 = .ok (.iload 8, 2) := by decide +kernel
theorem d_Mo_tell_103 : decode b_Mo_tell 103 = .ok (.iconst (-1), 1) := by decide +kernel
theorem d_Mo_tell_104 : decode b_Mo_tell 104 = .ok (.if_icmp .ne 107, 3) := by decide +kernel
theorem d_Mo_tell_107 : decode b_Mo_tell 107 = .ok (.sipush 2682, 3) := by decide +kernel
theorem d_Mo_tell_110 : decode b_Mo_tell 110 = .ok (.bipush 29, 2) := by decide +kernel
theorem d_Mo_tell_112 : decode b_Mo_tell 112 = .ok (.aload_n 0, 1) := by decide +kernel
theorem d_Mo_tell_113 : decode b_Mo_tell 113 = .ok (.iconst 4, 1) := by decide +kernel
theorem d_Mo_tell_114 : decode b_Mo_tell 114 = .ok (.invokevirtual 62, 3) := by decide +kernel
theorem d_Mo_tell_117 : decode b_Mo_tell 117 = .ok (.imul, 1) := by decide +kernel
theorem d_Mo_tell_118 : decode b_Mo_tell 118 = .ok (.iadd, 1) := by decide +kernel
theorem d_Mo_tell_119 : decode b_Mo_tell 119 = .ok (.istore 8, 2) := by decide +kernel
theorem d_Mo_tell_121 : decode b_Mo_tell 121 = .ok (.aload_n 0, 1) := by decide +kernel
theorem d_Mo_tell_122 : decode b_Mo_tell 122 = .ok (.getfield 7, 3) := by decide +kernel
theorem d_Mo_tell_125 : decode b_Mo_tell 125 = .ok (.iload 8, 2) := by decide +kernel
theorem d_Mo_tell_127 : decode b_Mo_tell 127 = .ok (.iload_n 1, 1) := by decide +kernel
theorem d_Mo_tell_128 : decode b_Mo_tell 128 = .ok (.i2l, 1) := by decide +kernel
theorem d_Mo_tell_129 : decode b_Mo_tell 129 = .ok (.lastore, 1) := by decide +kernel
theorem d_Mo_tell_130 : decode b_Mo_tell 130 = .ok (.aload_n 0, 1) := by decide +kernel
theorem d_Mo_tell_131 : decode b_Mo_tell 131 = .ok (.getfield 7, 3) := by decide +kernel
theorem d_Mo_tell_134 : decode b_Mo_tell 134 = .ok (.iload 8, 2) := by decide +kernel
theorem d_Mo_tell_136 : decode b_Mo_tell 136 = .ok (.iconst 1, 1) := by decide +kernel
theorem d_Mo_tell_137 : decode b_Mo_tell 137 = .ok (.iadd, 1) := by decide +kernel
theorem d_Mo_tell_138 : decode b_Mo_tell 138 = .ok (.iload_n 3, 1) := by decide +kernel
theorem d_Mo_tell_139 : decode b_Mo_tell 139 = .ok (.i2l, 1) := by decide +kernel
theorem d_Mo_tell_140 : decode b_Mo_tell 140 = .ok (.lastore, 1) := by decide +kernel
theorem d_Mo_tell_141 : decode b_Mo_tell 141 = .ok (.aload_n 0, 1) := by decide +kernel
theorem d_Mo_tell_142 : decode b_Mo_tell 142 = .ok (.getfield 7, 3) := by decide +kernel
theorem d_Mo_tell_145 : decode b_Mo_tell 145 = .ok (.iload 8, 2) := by decide +kernel
theorem d_Mo_tell_147 : decode b_Mo_tell 147 = .ok (.iconst 2, 1) := by decide +kernel
theorem d_Mo_tell_148 : decode b_Mo_tell 148 = .ok (.iadd, 1) := by decide +kernel
theorem d_Mo_tell_149 : decode b_Mo_tell 149 = .ok (.iload 4, 2) := by decide +kernel
theorem d_Mo_tell_151 : decode b_Mo_tell 151 = .ok (.i2l, 1) := by decide +kernel
theorem d_Mo_tell_152 : decode b_Mo_tell 152 = .ok (.lastore, 1) := by decide +kernel
theorem d_Mo_tell_153 : decode b_Mo_tell 153 = .ok (.aload_n 0, 1) := by decide +kernel
theorem d_Mo_tell_154 : decode b_Mo_tell 154 = .ok (.getfield 7, 3) := by decide +kernel
theorem d_Mo_tell_157 : decode b_Mo_tell 157 = .ok (.iload 8, 2) := by decide +kernel
theorem d_Mo_tell_159 : decode b_Mo_tell 159 = .ok (.iconst 4, 1) := by decide +kernel
theorem d_Mo_tell_160 : decode b_Mo_tell 160 = .ok (.iadd, 1) := by decide +kernel
theorem d_Mo_tell_161 : decode b_Mo_tell 161 = .ok (.iload 7, 2) := by decide +kernel
theorem d_Mo_tell_163 : decode b_Mo_tell 163 = .ok (.i2l, 1) := by decide +kernel
theorem d_Mo_tell_164 : decode b_Mo_tell 164 = .ok (.lastore, 1) := by decide +kernel
theorem d_Mo_tell_165 : decode b_Mo_tell 165 = .ok (.iconst 0, 1) := by decide +kernel
theorem d_Mo_tell_166 : decode b_Mo_tell 166 = .ok (.istore 9, 2) := by decide +kernel
theorem d_Mo_tell_168 : decode b_Mo_tell 168 = .ok (.iload 9, 2) := by decide +kernel
theorem d_Mo_tell_170 : decode b_Mo_tell 170 = .ok (.iload 7, 2) := by decide +kernel
theorem d_Mo_tell_172 : decode b_Mo_tell 172 = .ok (.if_icmp .ge 29, 3) := by decide +kernel
theorem d_Mo_tell_175 : decode b_Mo_tell 175 = .ok (.aload_n 0, 1) := by decide +kernel
theorem d_Mo_tell_176 : decode b_Mo_tell 176 = .ok (.getfield 7, 3) := by decide +kernel
theorem d_Mo_tell_179 : decode b_Mo_tell 179 = .ok (.iload 8, 2) := by decide +kernel
theorem d_Mo_tell_181 : decode b_Mo_tell 181 = .ok (.iconst 5, 1) := by decide +kernel
theorem d_Mo_tell_182 : decode b_Mo_tell 182 = .ok (.iadd, 1) := by decide +kernel
theorem d_Mo_tell_183 : decode b_Mo_tell 183 = .ok (.iload 9, 2) := by decide +kernel
theorem d_Mo_tell_185 : decode b_Mo_tell 185 = .ok (.iadd, 1) := by decide +kernel
theorem d_Mo_tell_186 : decode b_Mo_tell 186 = .ok (.aload_n 0, 1) := by decide +kernel
theorem d_Mo_tell_187 : decode b_Mo_tell 187 = .ok (.getfield 33, 3) := by decide +kernel
theorem d_Mo_tell_190 : decode b_Mo_tell 190 = .ok (.iload 9, 2) := by decide +kernel
theorem d_Mo_tell_192 : decode b_Mo_tell 192 = .ok (.iaload, 1) := by decide +kernel
theorem d_Mo_tell_193 : decode b_Mo_tell 193 = .ok (.i2l, 1) := by decide +kernel
theorem d_Mo_tell_194 : decode b_Mo_tell 194 = .ok (.lastore, 1) := by decide +kernel
theorem d_Mo_tell_195 : decode b_Mo_tell 195 = .ok (.iinc 9 1, 3) := by decide +kernel
theorem d_Mo_tell_198 : decode b_Mo_tell 198 = .ok (.goto (-30), 3) := by decide +kernel
theorem d_Mo_tell_201 : decode b_Mo_tell 201 = .ok (.aload_n 0, 1) := by decide +kernel
theorem d_Mo_tell_202 : decode b_Mo_tell 202 = .ok (.getfield 7, 3) := by decide +kernel
theorem d_Mo_tell_205 : decode b_Mo_tell 205 = .ok (.iconst 4, 1) := by decide +kernel
theorem d_Mo_tell_206 : decode b_Mo_tell 206 = .ok (.dup2, 1) := by decide +kernel
theorem d_Mo_tell_207 : decode b_Mo_tell 207 = .ok (.laload, 1) := by decide +kernel
theorem d_Mo_tell_208 : decode b_Mo_tell 208 = .ok (.lconst 1, 1) := by decide +kernel
theorem d_Mo_tell_209 : decode b_Mo_tell 209 = .ok (.ladd, 1) := by decide +kernel
theorem d_Mo_tell_210 : decode b_Mo_tell 210 = .ok (.lastore, 1) := by decide +kernel
theorem d_Mo_tell_211 : decode b_Mo_tell 211 = .ok (.aload_n 0, 1) := by decide +kernel
theorem d_Mo_tell_212 : decode b_Mo_tell 212 = .ok (.getfield 7, 3) := by decide +kernel
theorem d_Mo_tell_215 : decode b_Mo_tell 215 = .ok (.iload 8, 2) := by decide +kernel
theorem d_Mo_tell_217 : decode b_Mo_tell 217 = .ok (.iconst 3, 1) := by decide +kernel
theorem d_Mo_tell_218 : decode b_Mo_tell 218 = .ok (.iadd, 1) := by decide +kernel
theorem d_Mo_tell_219 : decode b_Mo_tell 219 = .ok (.lload 5, 2) := by decide +kernel
theorem d_Mo_tell_221 : decode b_Mo_tell 221 = .ok (.lastore, 1) := by decide +kernel
theorem d_Mo_tell_222 : decode b_Mo_tell 222 = .ok (.aload_n 0, 1) := by decide +kernel
theorem d_Mo_tell_223 : decode b_Mo_tell 223 = .ok (.invokevirtual 92, 3) := by decide +kernel
theorem d_Mo_tell_226 : decode b_Mo_tell 226 = .ok (.iconst 1, 1) := by decide +kernel
theorem d_Mo_tell_227 : decode b_Mo_tell 227 = .ok (.ireturn, 1) := by decide +kernel
theorem d_Mo_value_0 : decode b_Mo_value 0 = .ok (.aload_n 0, 1) := by decide +kernel
theorem d_Mo_value_1 : decode b_Mo_value 1 = .ok (.iload_n 1, 1) := by decide +kernel
theorem d_Mo_value_2 : decode b_Mo_value 2 = .ok (.iload_n 2, 1) := by decide +kernel
theorem d_Mo_value_3 : decode b_Mo_value 3 = .ok (.iload_n 3, 1) := by decide +kernel
theorem d_Mo_value_4 : decode b_Mo_value 4 = .ok (.iconst 0, 1) := by decide +kernel
theorem d_Mo_value_5 : decode b_Mo_value 5 = .ok (.lload 4, 2) := by decide +kernel
theorem d_Mo_value_7 : decode b_Mo_value 7 = .ok (.invokevirtual 159, 3) := by decide +kernel
theorem d_Mo_value_10 : decode b_Mo_value 10 = .ok (.ireturn, 1) := by decide +kernel
theorem d_Mo_fit_0 : decode b_Mo_fit 0 = .ok (.aload_n 0, 1) := by decide +kernel
theorem d_Mo_fit_1 : decode b_Mo_fit 1 = .ok (.iload_n 1, 1) := by decide +kernel
theorem d_Mo_fit_2 : decode b_Mo_fit 2 = .ok (.iload_n 2, 1) := by decide +kernel
theorem d_Mo_fit_3 : decode b_Mo_fit 3 = .ok (.iload_n 3, 1) := by decide +kernel
theorem d_Mo_fit_4 : decode b_Mo_fit 4 = .ok (.iconst 1, 1) := by decide +kernel
theorem d_Mo_fit_5 : decode b_Mo_fit 5 = .ok (.iload 4, 2) := by decide +kernel
theorem d_Mo_fit_7 : decode b_Mo_fit 7 = .ok (.ifCond .eq 7, 3) := by decide +kernel
theorem d_Mo_fit_10 : decode b_Mo_fit 10 = .ok (.lconst 1, 1) := by decide +kernel
theorem d_Mo_fit_11 : decode b_Mo_fit 11 = .ok (.goto 4, 3) := by decide +kernel
theorem d_Mo_fit_14 : decode b_Mo_fit 14 = .ok (.lconst 0, 1) := by decide +kernel
theorem d_Mo_fit_15 : decode b_Mo_fit 15 = .ok (.invokevirtual 159, 3) := by decide +kernel
theorem d_Mo_fit_18 : decode b_Mo_fit 18 = .ok (.ireturn, 1) := by decide +kernel
theorem d_Mo_ask_0 : decode b_Mo_ask 0 = .ok (.aload_n 0, 1) := by decide +kernel
theorem d_Mo_ask_1 : decode b_Mo_ask 1 = .ok (.iload_n 1, 1) := by decide +kernel
theorem d_Mo_ask_2 : decode b_Mo_ask 2 = .ok (.iconst (-1), 1) := by decide +kernel
theorem d_Mo_ask_3 : decode b_Mo_ask 3 = .ok (.if_icmp .eq 11, 3) := by decide +kernel
theorem d_Mo_ask_6 : decode b_Mo_ask 6 = .ok (.aload_n 0, 1) := by decide +kernel
theorem d_Mo_ask_7 : decode b_Mo_ask 7 = .ok (.iload_n 1, 1) := by decide +kernel
theorem d_Mo_ask_8 : decode b_Mo_ask 8 = .ok (.invokevirtual 146, 3) := by decide +kernel
theorem d_Mo_ask_11 : decode b_Mo_ask 11 = .ok (.ifCond .eq 23, 3) := by decide +kernel
theorem d_Mo_ask_14 : decode b_Mo_ask 14 = .ok (.aload_n 0, 1) := by decide +kernel
theorem d_Mo_ask_15 : decode b_Mo_ask 15 = .ok (.iload_n 2, 1) := by decide +kernel
theorem d_Mo_ask_16 : decode b_Mo_ask 16 = .ok (.invokevirtual 149, 3) := by decide +kernel
theorem d_Mo_ask_19 : decode b_Mo_ask 19 = .ok (.ifCond .eq 15, 3) := by decide +kernel
theorem d_Mo_ask_22 : decode b_Mo_ask 22 = .ok (.aload_n 0, 1) := by decide +kernel
theorem d_Mo_ask_23 : decode b_Mo_ask 23 = .ok (.iload_n 3, 1) := by decide +kernel
theorem d_Mo_ask_24 : decode b_Mo_ask 24 = .ok (.invokevirtual 66, 3) := by decide +kernel
theorem d_Mo_ask_27 : decode b_Mo_ask 27 = .ok (.ifCond .eq 7, 3) := by decide +kernel
theorem d_Mo_ask_30 : decode b_Mo_ask 30 = .ok (.iconst 0, 1) := by decide +kernel
theorem d_Mo_ask_31 : decode b_Mo_ask 31 = .ok (.goto 4, 3) := by decide +kernel
theorem d_Mo_ask_34 : decode b_Mo_ask 34 = .ok (.iconst 1, 1) := by decide +kernel
theorem d_Mo_ask_35 : decode b_Mo_ask 35 = .ok (.putfield 45, 3) := by decide +kernel
theorem d_Mo_ask_38 : decode b_Mo_ask 38 = .ok (.aload_n 0, 1) := by decide +kernel
theorem d_Mo_ask_39 : decode b_Mo_ask 39 = .ok (.getfield 45, 3) := by decide +kernel
theorem d_Mo_ask_42 : decode b_Mo_ask 42 = .ok (.ifCond .eq 5, 3) := by decide +kernel
theorem d_Mo_ask_45 : decode b_Mo_ask 45 = .ok (.lconst 0, 1) := by decide +kernel
theorem d_Mo_ask_46 : decode b_Mo_ask 46 = .ok (.lreturn, 1) := by decide +kernel
theorem d_Mo_ask_47 : decode b_Mo_ask 47 = .ok (.iload_n 1, 1) := by decide +kernel
theorem d_Mo_ask_48 : decode b_Mo_ask 48 = .ok (.istore 5, 2) := by decide +kernel
theorem d_Mo_ask_50 : decode b_Mo_ask 50 = .ok (.iload 5, 2) := by decide +kernel
theorem d_Mo_ask_52 : decode b_Mo_ask 52 = .ok (.iconst (-1), 1) := by decide +kernel
theorem d_Mo_ask_53 : decode b_Mo_ask 53 = .ok (.if_icmp .eq 71, 3) := by decide +kernel
theorem d_Mo_ask_56 : decode b_Mo_ask 56 = .ok (.aload_n 0, 1) := by decide +kernel
theorem d_Mo_ask_57 : decode b_Mo_ask 57 = .ok (.iload_n 2, 1) := by decide +kernel
theorem d_Mo_ask_58 : decode b_Mo_ask 58 = .ok (.invokevirtual 152, 3) := by decide +kernel
theorem d_Mo_ask_61 : decode b_Mo_ask 61 = .ok (.istore 6, 2) := by decide +kernel
theorem d_Mo_ask_63 : decode b_Mo_ask 63 = .ok (.iload 6, 2) := by decide +kernel
theorem d_Mo_ask_65 : decode b_Mo_ask 65 = .ok (.istore 7, 2) := by decide +kernel
theorem d_Mo_ask_67 : decode b_Mo_ask 67 = .ok (.iload 7, 2) := by decide +kernel
theorem d_Mo_ask_69 : decode b_Mo_ask 69 = .ok (.ifCond .lt 38, 3) := by decide +kernel
theorem d_Mo_ask_72 : decode b_Mo_ask 72 = .ok (.aload_n 0, 1) := by decide +kernel
theorem d_Mo_ask_73 : decode b_Mo_ask 73 = .ok (.iload 5, 2) := by decide +kernel
theorem d_Mo_ask_75 : decode b_Mo_ask 75 = .ok (.iload_n 3, 1) := by decide +kernel
theorem d_Mo_ask_76 : decode b_Mo_ask 76 = .ok (.iload 4, 2) := by decide +kernel
theorem d_Mo_ask_78 : decode b_Mo_ask 78 = .ok (.iload 7, 2) := by decide +kernel
theorem d_Mo_ask_80 : decode b_Mo_ask 80 = .ok (.invokevirtual 155, 3) := by decide +kernel
theorem d_Mo_ask_83 : decode b_Mo_ask 83 = .ok (.istore 8, 2) := by decide +kernel
theorem d_Mo_ask_85 : decode b_Mo_ask 85 = .ok (.iload 8, 2) := by decide +kernel
theorem d_Mo_ask_87 : decode b_Mo_ask 87 = .ok (.iconst (-1), 1) := by decide +kernel
theorem d_Mo_ask_88 : decode b_Mo_ask 88 = .ok (.if_icmp .eq 13, 3) := by decide +kernel
theorem d_Mo_ask_91 : decode b_Mo_ask 91 = .ok (.aload_n 0, 1) := by decide +kernel
theorem d_Mo_ask_92 : decode b_Mo_ask 92 = .ok (.getfield 7, 3) := by decide +kernel
theorem d_Mo_ask_95 : decode b_Mo_ask 95 = .ok (.iload 8, 2) := by decide +kernel
theorem d_Mo_ask_97 : decode b_Mo_ask 97 = .ok (.iconst 3, 1) := by decide +kernel
theorem d_Mo_ask_98 : decode b_Mo_ask 98 = .ok (.iadd, 1) := by decide +kernel
theorem d_Mo_ask_99 : decode b_Mo_ask 99 = .ok (.laload, 1) := by decide +kernel
theorem d_Mo_ask_100 : decode b_Mo_ask 100 = .ok (.lreturn, 1) := by decide +kernel
theorem d_Mo_ask_101 : decode b_Mo_ask 101 = .ok (.iinc 7 (-1), 3) := by decide +kernel
theorem d_Mo_ask_104 : decode b_Mo_ask 104 = .ok (.goto (-37), 3) := by decide +kernel
theorem d_Mo_ask_107 : decode b_Mo_ask 107 = .ok (.aload_n 0, 1) := by decide +kernel
theorem d_Mo_ask_108 : decode b_Mo_ask 108 = .ok (.getfield 7, 3) := by decide +kernel
theorem d_Mo_ask_111 : decode b_Mo_ask 111 = .ok (.sipush 2672, 3) := by decide +kernel
theorem d_Mo_ask_114 : decode b_Mo_ask 114 = .ok (.iload 5, 2) := by decide +kernel
theorem d_Mo_ask_116 : decode b_Mo_ask 116 = .ok (.iadd, 1) := by decide +kernel
theorem d_Mo_ask_117 : decode b_Mo_ask 117 = .ok (.laload, 1) := by decide +kernel
theorem d_Mo_ask_118 : decode b_Mo_ask 118 = .ok (.l2i, 1) := by decide +kernel
theorem d_Mo_ask_119 : decode b_Mo_ask 119 = .ok (.istore 5, 2) := by decide +kernel
theorem d_Mo_ask_121 : decode b_Mo_ask 121 = .ok (.goto (-71), 3) := by decide +kernel
theorem d_Mo_ask_124 : decode b_Mo_ask 124 = .ok (.iload 4, 2) := by decide +kernel
theorem d_Mo_ask_126 : decode b_Mo_ask 126 = .ok (.i2l, 1) := by decide +kernel
theorem d_Mo_ask_127 : decode b_Mo_ask 127 = .ok (.lreturn, 1) := by decide +kernel
theorem d_Mo_valueOf_0 : decode b_Mo_valueOf 0 = .ok (.aload_n 0, 1) := by decide +kernel
theorem d_Mo_valueOf_1 : decode b_Mo_valueOf 1 = .ok (.iload_n 1, 1) := by decide +kernel
theorem d_Mo_valueOf_2 : decode b_Mo_valueOf 2 = .ok (.iload_n 2, 1) := by decide +kernel
theorem d_Mo_valueOf_3 : decode b_Mo_valueOf 3 = .ok (.iload_n 3, 1) := by decide +kernel
theorem d_Mo_valueOf_4 : decode b_Mo_valueOf 4 = .ok (.iconst 0, 1) := by decide +kernel
theorem d_Mo_valueOf_5 : decode b_Mo_valueOf 5 = .ok (.invokevirtual 163, 3) := by decide +kernel
theorem d_Mo_valueOf_8 : decode b_Mo_valueOf 8 = .ok (.lreturn, 1) := by decide +kernel
theorem d_Mo_fitted_0 : decode b_Mo_fitted 0 = .ok (.aload_n 0, 1) := by decide +kernel
theorem d_Mo_fitted_1 : decode b_Mo_fitted 1 = .ok (.iload_n 1, 1) := by decide +kernel
theorem d_Mo_fitted_2 : decode b_Mo_fitted 2 = .ok (.iload_n 2, 1) := by decide +kernel
theorem d_Mo_fitted_3 : decode b_Mo_fitted 3 = .ok (.iload_n 3, 1) := by decide +kernel
theorem d_Mo_fitted_4 : decode b_Mo_fitted 4 = .ok (.iconst 1, 1) := by decide +kernel
theorem d_Mo_fitted_5 : decode b_Mo_fitted 5 = .ok (.invokevirtual 163, 3) := by decide +kernel
theorem d_Mo_fitted_8 : decode b_Mo_fitted 8 = .ok (.lconst 1, 1) := by decide +kernel
theorem d_Mo_fitted_9 : decode b_Mo_fitted 9 = .ok (.lcmp, 1) := by decide +kernel
theorem d_Mo_fitted_10 : decode b_Mo_fitted 10 = .ok (.ifCond .ne 7, 3) := by decide +kernel
theorem d_Mo_fitted_13 : decode b_Mo_fitted 13 = .ok (.iconst 1, 1) := by decide +kernel
theorem d_Mo_fitted_14 : decode b_Mo_fitted 14 = .ok (.goto 4, 3) := by decide +kernel
theorem d_Mo_fitted_17 : decode b_Mo_fitted 17 = .ok (.iconst 0, 1) := by decide +kernel
theorem d_Mo_fitted_18 : decode b_Mo_fitted 18 = .ok (.ireturn, 1) := by decide +kernel
theorem d_Mo_pages_0 : decode b_Mo_pages 0 = .ok (.aload_n 0, 1) := by decide +kernel
theorem d_Mo_pages_1 : decode b_Mo_pages 1 = .ok (.iconst 0, 1) := by decide +kernel
theorem d_Mo_pages_2 : decode b_Mo_pages 2 = .ok (.putfield 45, 3) := by decide +kernel
theorem d_Mo_pages_5 : decode b_Mo_pages 5 = .ok (.aload_n 0, 1) := by decide +kernel
theorem d_Mo_pages_6 : decode b_Mo_pages 6 = .ok (.invokevirtual 86, 3) := by decide +kernel
theorem d_Mo_pages_9 : decode b_Mo_pages 9 = .ok (.aload_n 0, 1) := by decide +kernel
theorem d_Mo_pages_10 : decode b_Mo_pages 10 = .ok (.getfield 70, 3) := by decide +kernel
theorem d_Mo_pages_13 : decode b_Mo_pages 13 = .ok (.ireturn, 1) := by decide +kernel
theorem d_Mo_page_0 : decode b_Mo_page 0 = .ok (.aload_n 0, 1) := by decide +kernel
theorem d_Mo_page_1 : decode b_Mo_page 1 = .ok (.aload_n 0, 1) := by decide +kernel
theorem d_Mo_page_2 : decode b_Mo_page 2 = .ok (.iload_n 1, 1) := by decide +kernel
theorem d_Mo_page_3 : decode b_Mo_page 3 = .ok (.invokevirtual 149, 3) := by decide +kernel
theorem d_Mo_page_6 : decode b_Mo_page 6 = .ok (.ifCond .eq 16, 3) := by decide +kernel
theorem d_Mo_page_9 : decode b_Mo_page 9 = .ok (.iload_n 2, 1) := by decide +kernel
theorem d_Mo_page_10 : decode b_Mo_page 10 = .ok (.ifCond .lt 12, 3) := by decide +kernel
theorem d_Mo_page_13 : decode b_Mo_page 13 = .ok (.iload_n 2, 1) := by decide +kernel
theorem d_Mo_page_14 : decode b_Mo_page 14 = .ok (.iconst 4, 1) := by decide +kernel
theorem d_Mo_page_15 : decode b_Mo_page 15 = .ok (.if_icmp .ge 7, 3) := by decide +kernel
theorem d_Mo_page_18 : decode b_Mo_page 18 = .ok (.iconst 0, 1) := by decide +kernel
theorem d_Mo_page_19 : decode b_Mo_page 19 = .ok (.goto 4, 3) := by decide +kernel
theorem d_Mo_page_22 : decode b_Mo_page 22 = .ok (.iconst 1, 1) := by decide +kernel
theorem d_Mo_page_23 : decode b_Mo_page 23 = .ok (.putfield 45, 3) := by decide +kernel
theorem d_Mo_page_26 : decode b_Mo_page 26 = .ok (.aload_n 0, 1) := by decide +kernel
theorem d_Mo_page_27 : decode b_Mo_page 27 = .ok (.getfield 45, 3) := by decide +kernel
theorem d_Mo_page_30 : decode b_Mo_page 30 = .ok (.ifCond .eq 5, 3) := by decide +kernel
theorem d_Mo_page_33 : decode b_Mo_page 33 = .ok (.iconst 0, 1) := by decide +kernel
theorem d_Mo_page_34 : decode b_Mo_page 34 = .ok (.ireturn, 1) := by decide +kernel
theorem d_Mo_page_35 : decode b_Mo_page 35 = .ok (.iload_n 2, 1) := by decide +kernel
theorem d_Mo_page_36 : decode b_Mo_page 36 = .ok (.ifCond .ne 12, 3) := by decide +kernel
theorem d_Mo_page_39 : decode b_Mo_page 39 = .ok (.aload_n 0, 1) := by decide +kernel
theorem d_Mo_page_40 : decode b_Mo_page 40 = .ok (.getfield 20, 3) := by decide +kernel
theorem d_Mo_page_43 : decode b_Mo_page 43 = .ok (.iload_n 1, 1) := by decide +kernel
theorem d_Mo_page_44 : decode b_Mo_page 44 = .ok (.iaload, 1) := by decide +kernel
theorem d_Mo_page_45 : decode b_Mo_page 45 = .ok (.goto 37, 3) := by decide +kernel
theorem d_Mo_page_48 : decode b_Mo_page 48 = .ok (.iload_n 2, 1) := by decide +kernel
theorem d_Mo_page_49 : decode b_Mo_page 49 = .ok (.iconst 1, 1) := by decide +kernel
theorem d_Mo_page_50 : decode b_Mo_page 50 = .ok (.if_icmp .ne 12, 3) := by decide +kernel
theorem d_Mo_page_53 : decode b_Mo_page 53 = .ok (.aload_n 0, 1) := by decide +kernel
theorem d_Mo_page_54 : decode b_Mo_page 54 = .ok (.getfield 24, 3) := by decide +kernel
theorem d_Mo_page_57 : decode b_Mo_page 57 = .ok (.iload_n 1, 1) := by decide +kernel
theorem d_Mo_page_58 : decode b_Mo_page 58 = .ok (.iaload, 1) := by decide +kernel
theorem d_Mo_page_59 : decode b_Mo_page 59 = .ok (.goto 23, 3) := by decide +kernel
theorem d_Mo_page_62 : decode b_Mo_page 62 = .ok (.iload_n 2, 1) := by decide +kernel
theorem d_Mo_page_63 : decode b_Mo_page 63 = .ok (.iconst 2, 1) := by decide +kernel
theorem d_Mo_page_64 : decode b_Mo_page 64 = .ok (.if_icmp .ne 12, 3) := by decide +kernel
theorem d_Mo_page_67 : decode b_Mo_page 67 = .ok (.aload_n 0, 1) := by decide +kernel
theorem d_Mo_page_68 : decode b_Mo_page 68 = .ok (.getfield 27, 3) := by decide +kernel
theorem d_Mo_page_71 : decode b_Mo_page 71 = .ok (.iload_n 1, 1) := by decide +kernel
theorem d_Mo_page_72 : decode b_Mo_page 72 = .ok (.iaload, 1) := by decide +kernel
theorem d_Mo_page_73 : decode b_Mo_page 73 = .ok (.goto 9, 3) := by decide +kernel
theorem d_Mo_page_76 : decode b_Mo_page 76 = .ok (.aload_n 0, 1) := by decide +kernel
theorem d_Mo_page_77 : decode b_Mo_page 77 = .ok (.getfield 30, 3) := by decide +kernel
theorem d_Mo_page_80 : decode b_Mo_page 80 = .ok (.iload_n 1, 1) := by decide +kernel
theorem d_Mo_page_81 : decode b_Mo_page 81 = .ok (.iaload, 1) := by decide +kernel
theorem d_Mo_page_82 : decode b_Mo_page 82 = .ok (.ireturn, 1) := by decide +kernel
theorem d_Mo_pageOf_0 : decode b_Mo_pageOf 0 = .ok (.iload_n 3, 1) := by decide +kernel
theorem d_Mo_pageOf_1 : decode b_Mo_pageOf 1 = .ok (.istore 4, 2) := by decide +kernel
theorem d_Mo_pageOf_3 : decode b_Mo_pageOf 3 = .ok (.iconst 0, 1) := by decide +kernel
theorem d_Mo_pageOf_4 : decode b_Mo_pageOf 4 = .ok (.istore 5, 2) := by decide +kernel
theorem d_Mo_pageOf_6 : decode b_Mo_pageOf 6 = .ok (.iload 5, 2) := by decide +kernel
theorem d_Mo_pageOf_8 : decode b_Mo_pageOf 8 = .ok (.aload_n 0, 1) := by decide +kernel
theorem d_Mo_pageOf_9 : decode b_Mo_pageOf 9 = .ok (.getfield 70, 3) := by decide +kernel
theorem d_Mo_pageOf_12 : decode b_Mo_pageOf 12 = .ok (.if_icmp .ge 36, 3) := by decide +kernel
theorem d_Mo_pageOf_15 : decode b_Mo_pageOf 15 = .ok (.aload_n 0, 1) := by decide +kernel
theorem d_Mo_pageOf_16 : decode b_Mo_pageOf 16 = .ok (.getfield 20, 3) := by decide +kernel
theorem d_Mo_pageOf_19 : decode b_Mo_pageOf 19 = .ok (.iload 5, 2) := by decide +kernel
theorem d_Mo_pageOf_21 : decode b_Mo_pageOf 21 = .ok (.iaload, 1) := by decide +kernel
theorem d_Mo_pageOf_22 : decode b_Mo_pageOf 22 = .ok (.i2l, 1) := by decide +kernel
theorem d_Mo_pageOf_23 : decode b_Mo_pageOf 23 = .ok (.lload_n 1, 1) := by decide +kernel
theorem d_Mo_pageOf_24 : decode b_Mo_pageOf 24 = .ok (.lcmp, 1) := by decide +kernel
theorem d_Mo_pageOf_25 : decode b_Mo_pageOf 25 = .ok (.ifCond .eq 6, 3) := by decide +kernel
theorem d_Mo_pageOf_28 : decode b_Mo_pageOf 28 = .ok (.goto 14, 3) := by decide +kernel
theorem d_Mo_pageOf_31 : decode b_Mo_pageOf 31 = .ok (.iload 4, 2) := by decide +kernel
theorem d_Mo_pageOf_33 : decode b_Mo_pageOf 33 = .ok (.ifCond .ne 6, 3) := by decide +kernel
theorem d_Mo_pageOf_36 : decode b_Mo_pageOf 36 = .ok (.iload 5, 2) := by decide +kernel
theorem d_Mo_pageOf_38 : decode b_Mo_pageOf 38 = .ok (.ireturn, 1) := by decide +kernel
theorem d_Mo_pageOf_39 : decode b_Mo_pageOf 39 = .ok (.iinc 4 (-1), 3) := by decide +kernel
theorem d_Mo_pageOf_42 : decode b_Mo_pageOf 42 = .ok (.iinc 5 1, 3) := by decide +kernel
theorem d_Mo_pageOf_45 : decode b_Mo_pageOf 45 = .ok (.goto (-39), 3) := by decide +kernel
theorem d_Mo_pageOf_48 : decode b_Mo_pageOf 48 = .ok (.iconst (-1), 1) := by decide +kernel
theorem d_Mo_pageOf_49 : decode b_Mo_pageOf 49 = .ok (.ireturn, 1) := by decide +kernel
theorem d_Mo_unitsOf_0 : decode b_Mo_unitsOf 0 = .ok (.aload_n 0, 1) := by decide +kernel
theorem d_Mo_unitsOf_1 : decode b_Mo_unitsOf 1 = .ok (.invokevirtual 86, 3) := by decide +kernel
theorem d_Mo_unitsOf_4 : decode b_Mo_unitsOf 4 = .ok (.iconst 0, 1) := by decide +kernel
theorem d_Mo_unitsOf_5 : decode b_Mo_unitsOf 5 = .ok (.istore_n 2, 1) := by decide +kernel
theorem d_Mo_unitsOf_6 : decode b_Mo_unitsOf 6 = .ok (.iconst 0, 1) := by decide +kernel
theorem d_Mo_unitsOf_7 : decode b_Mo_unitsOf 7 = .ok (.istore_n 3, 1) := by decide +kernel
theorem d_Mo_unitsOf_8 : decode b_Mo_unitsOf 8 = .ok (.iload_n 3, 1) := by decide +kernel
theorem d_Mo_unitsOf_9 : decode b_Mo_unitsOf 9 = .ok (.i2l, 1) := by decide +kernel
theorem d_Mo_unitsOf_10 : decode b_Mo_unitsOf 10 = .ok (.aload_n 0, 1) := by decide +kernel
theorem d_Mo_unitsOf_11 : decode b_Mo_unitsOf 11 = .ok (.getfield 7, 3) := by decide +kernel
theorem d_Mo_unitsOf_14 : decode b_Mo_unitsOf 14 = .ok (.sipush 2162, 3) := by decide +kernel
theorem d_Mo_unitsOf_17 : decode b_Mo_unitsOf 17 = .ok (.iload_n 1, 1) := by decide +kernel
theorem d_Mo_unitsOf_18 : decode b_Mo_unitsOf 18 = .ok (.iadd, 1) := by decide +kernel
theorem d_Mo_unitsOf_19 : decode b_Mo_unitsOf 19 = .ok (.laload, 1) := by decide +kernel
theorem d_Mo_unitsOf_20 : decode b_Mo_unitsOf 20 = .ok (.lcmp, 1) := by decide +kernel
theorem d_Mo_unitsOf_21 : decode b_Mo_unitsOf 21 = .ok (.ifCond .ge 82, 3) := by decide +kernel
theorem d_Mo_unitsOf_24 : decode b_Mo_unitsOf 24 = .ok (.iconst 0, 1) := by decide +kernel
theorem d_Mo_unitsOf_25 : decode b_Mo_unitsOf 25 = .ok (.istore 4, 2) := by decide +kernel
theorem d_Mo_unitsOf_27 : decode b_Mo_unitsOf 27 = .ok (.iconst 0, 1) := by decide +kernel
theorem d_Mo_unitsOf_28 : decode b_Mo_unitsOf 28 = .ok (.istore 5, 2) := by decide +kernel
theorem d_Mo_unitsOf_30 : decode b_Mo_unitsOf 30 = .ok (.iload 5, 2) := by decide +kernel
theorem d_Mo_unitsOf_32 : decode b_Mo_unitsOf 32 = .ok (.aload_n 0, 1) := by decide +kernel
theorem d_Mo_unitsOf_33 : decode b_Mo_unitsOf 33 = .ok (.getfield 70, 3) := by decide +kernel
theorem d_Mo_unitsOf_36 : decode b_Mo_unitsOf 36 = .ok (.if_icmp .ge 48, 3) := by decide +kernel
theorem d_Mo_unitsOf_39 : decode b_Mo_unitsOf 39 = .ok (.iload 4, 2) := by decide +kernel
theorem d_Mo_unitsOf_41 : decode b_Mo_unitsOf 41 = .ok (.aload_n 0, 1) := by decide +kernel
theorem d_Mo_unitsOf_42 : decode b_Mo_unitsOf 42 = .ok (.getfield 20, 3) := by decide +kernel
theorem d_Mo_unitsOf_45 : decode b_Mo_unitsOf 45 = .ok (.iload 5, 2) := by decide +kernel
theorem d_Mo_unitsOf_47 : decode b_Mo_unitsOf 47 = .ok (.iaload, 1) := by decide +kernel
theorem d_Mo_unitsOf_48 : decode b_Mo_unitsOf 48 = .ok (.i2l, 1) := by decide +kernel
theorem d_Mo_unitsOf_49 : decode b_Mo_unitsOf 49 = .ok (.aload_n 0, 1) := by decide +kernel
theorem d_Mo_unitsOf_50 : decode b_Mo_unitsOf 50 = .ok (.getfield 7, 3) := by decide +kernel
theorem d_Mo_unitsOf_53 : decode b_Mo_unitsOf 53 = .ok (.sipush 2192, 3) := by decide +kernel
theorem d_Mo_unitsOf_56 : decode b_Mo_unitsOf 56 = .ok (.bipush 8, 2) := by decide +kernel
theorem d_Mo_unitsOf_58 : decode b_Mo_unitsOf 58 = .ok (.iload_n 1, 1) := by decide +kernel
theorem d_Mo_unitsOf_59 : decode b_Mo_unitsOf 59 = .ok (.imul, 1) := by decide +kernel
theorem d_Mo_unitsOf_60 : decode b_Mo_unitsOf 60 = .ok (.iadd, 1) := by decide +kernel
theorem d_Mo_unitsOf_61 : decode b_Mo_unitsOf 61 = .ok (.iload_n 3, 1) := by decide +kernel
theorem d_Mo_unitsOf_62 : decode b_Mo_unitsOf 62 = .ok (.iadd, 1) := by decide +kernel
theorem d_Mo_unitsOf_63 : decode b_Mo_unitsOf 63 = .ok (.laload, 1) := by decide +kernel
theorem d_Mo_unitsOf_64 : decode b_Mo_unitsOf 64 = .ok (.lconst 1, 1) := by decide +kernel
theorem d_Mo_unitsOf_65 : decode b_Mo_unitsOf 65 = .ok (.lsub, 1) := by decide +kernel
theorem d_Mo_unitsOf_66 : decode b_Mo_unitsOf 66 = .ok (.lcmp, 1) := by decide +kernel
theorem d_Mo_unitsOf_67 : decode b_Mo_unitsOf 67 = .ok (.ifCond .ne 7, 3) := by decide +kernel
theorem d_Mo_unitsOf_70 : decode b_Mo_unitsOf 70 = .ok (.iconst 1, 1) := by decide +kernel
theorem d_Mo_unitsOf_71 : decode b_Mo_unitsOf 71 = .ok (.goto 4, 3) := by decide +kernel
theorem d_Mo_unitsOf_74 : decode b_Mo_unitsOf 74 = .ok (.iconst 0, 1) := by decide +kernel
theorem d_Mo_unitsOf_75 : decode b_Mo_unitsOf 75 = .ok (.iadd, 1) := by decide +kernel
theorem d_Mo_unitsOf_76 : decode b_Mo_unitsOf 76 = .ok (.istore 4, 2) := by decide +kernel
theorem d_Mo_unitsOf_78 : decode b_Mo_unitsOf 78 = .ok (.iinc 5 1, 3) := by decide +kernel
theorem d_Mo_unitsOf_81 : decode b_Mo_unitsOf 81 = .ok (.goto (-51), 3) := by decide +kernel
theorem d_Mo_unitsOf_84 : decode b_Mo_unitsOf 84 = .ok (.iload 4, 2) := by decide +kernel
theorem d_Mo_unitsOf_86 : decode b_Mo_unitsOf 86 = .ok (.iload_n 2, 1) := by decide +kernel
theorem d_Mo_unitsOf_87 : decode b_Mo_unitsOf 87 = .ok (.if_icmp .le 8, 3) := by decide +kernel
theorem d_Mo_unitsOf_90 : decode b_Mo_unitsOf 90 = .ok (.iload 4, 2) := by decide +kernel
theorem d_Mo_unitsOf_92 : decode b_Mo_unitsOf 92 = .ok (.goto 4, 3) := by decide +kernel
theorem d_Mo_unitsOf_95 : decode b_Mo_unitsOf 95 = .ok (.iload_n 2, 1) := by decide +kernel
theorem d_Mo_unitsOf_96 : decode b_Mo_unitsOf 96 = .ok (.istore_n 2, 1) := by decide +kernel
theorem d_Mo_unitsOf_97 : decode b_Mo_unitsOf 97 = .ok (.iinc 3 1, 3) := by decide +kernel
theorem d_Mo_unitsOf_100 : decode b_Mo_unitsOf 100 = .ok (.goto (-92), 3) := by decide +kernel
theorem d_Mo_unitsOf_103 : decode b_Mo_unitsOf 103 = .ok (.iload_n 2, 1) := by decide +kernel
theorem d_Mo_unitsOf_104 : decode b_Mo_unitsOf 104 = .ok (.ireturn, 1) := by decide +kernel
theorem d_Mo_units_0 : decode b_Mo_units 0 = .ok (.aload_n 0, 1) := by decide +kernel
theorem d_Mo_units_1 : decode b_Mo_units 1 = .ok (.aload_n 0, 1) := by decide +kernel
theorem d_Mo_units_2 : decode b_Mo_units 2 = .ok (.iload_n 1, 1) := by decide +kernel
theorem d_Mo_units_3 : decode b_Mo_units 3 = .ok (.invokevirtual 66, 3) := by decide +kernel
theorem d_Mo_units_6 : decode b_Mo_units 6 = .ok (.ifCond .eq 7, 3) := by decide +kernel
theorem d_Mo_units_9 : decode b_Mo_units 9 = .ok (.iconst 0, 1) := by decide +kernel
theorem d_Mo_units_10 : decode b_Mo_units 10 = .ok (.goto 4, 3) := by decide +kernel
theorem d_Mo_units_13 : decode b_Mo_units 13 = .ok (.iconst 1, 1) := by decide +kernel
theorem d_Mo_units_14 : decode b_Mo_units 14 = .ok (.putfield 45, 3) := by decide +kernel
theorem d_Mo_units_17 : decode b_Mo_units 17 = .ok (.aload_n 0, 1) := by decide +kernel
theorem d_Mo_units_18 : decode b_Mo_units 18 = .ok (.getfield 45, 3) := by decide +kernel
theorem d_Mo_units_21 : decode b_Mo_units 21 = .ok (.ifCond .ne 11, 3) := by decide +kernel
theorem d_Mo_units_24 : decode b_Mo_units 24 = .ok (.aload_n 0, 1) := by decide +kernel
theorem d_Mo_units_25 : decode b_Mo_units 25 = .ok (.iload_n 1, 1) := by decide +kernel
theorem d_Mo_units_26 : decode b_Mo_units 26 = .ok (.invokevirtual 167, 3) := by decide +kernel
theorem d_Mo_units_29 : decode b_Mo_units 29 = .ok (.goto 4, 3) := by decide +kernel
theorem d_Mo_units_32 : decode b_Mo_units 32 = .ok (.iconst 0, 1) := by decide +kernel
theorem d_Mo_units_33 : decode b_Mo_units 33 = .ok (.ireturn, 1) := by decide +kernel
theorem d_Mo_where_0 : decode b_Mo_where 0 = .ok (.aload_n 0, 1) := by decide +kernel
theorem d_Mo_where_1 : decode b_Mo_where 1 = .ok (.aload_n 0, 1) := by decide +kernel
theorem d_Mo_where_2 : decode b_Mo_where 2 = .ok (.iload_n 1, 1) := by decide +kernel
theorem d_Mo_where_3 : decode b_Mo_where 3 = .ok (.iload_n 3, 1) := by decide +kernel
theorem d_Mo_where_4 : decode b_Mo_where 4 = .ok (.invokevirtual 127, 3) := by decide +kernel
theorem d_Mo_where_7 : decode b_Mo_where 7 = .ok (.ifCond .eq 20, 3) := by decide +kernel
theorem d_Mo_where_10 : decode b_Mo_where 10 = .ok (.iload_n 2, 1) := by decide +kernel
theorem d_Mo_where_11 : decode b_Mo_where 11 = .ok (.ifCond .lt 16, 3) := by decide +kernel
theorem d_Mo_where_14 : decode b_Mo_where 14 = .ok (.iload_n 2, 1) := by decide +kernel
theorem d_Mo_where_15 : decode b_Mo_where 15 = .ok (.aload_n 0, 1) := by decide +kernel
theorem d_Mo_where_16 : decode b_Mo_where 16 = .ok (.iload_n 1, 1) := by decide +kernel
theorem d_Mo_where_17 : decode b_Mo_where 17 = .ok (.invokevirtual 167, 3) := by decide +kernel
theorem d_Mo_where_20 : decode b_Mo_where 20 = .ok (.if_icmp .ge 7, 3) := by decide +kernel
theorem d_Mo_where_23 : decode b_Mo_where 23 = .ok (.iconst 0, 1) := by decide +kernel
theorem d_Mo_where_24 : decode b_Mo_where 24 = .ok (.goto 4, 3) := by decide +kernel
theorem d_Mo_where_27 : decode b_Mo_where 27 = .ok (.iconst 1, 1) := by decide +kernel
theorem d_Mo_where_28 : decode b_Mo_where 28 = .ok (.putfield 45, 3) := by decide +kernel
theorem d_Mo_where_31 : decode b_Mo_where 31 = .ok (.aload_n 0, 1) := by decide +kernel
theorem d_Mo_where_32 : decode b_Mo_where 32 = .ok (.getfield 45, 3) := by decide +kernel
theorem d_Mo_where_35 : decode b_Mo_where 35 = .ok (.ifCond .ne 28, 3) := by decide +kernel
theorem d_Mo_where_38 : decode b_Mo_where 38 = .ok (.aload_n 0, 1) := by decide +kernel
theorem d_Mo_where_39 : decode b_Mo_where 39 = .ok (.aload_n 0, 1) := by decide +kernel
theorem d_Mo_where_40 : decode b_Mo_where 40 = .ok (.getfield 7, 3) := by decide +kernel
theorem d_Mo_where_43 : decode b_Mo_where 43 = .ok (.sipush 2192, 3) := by decide +kernel
theorem d_Mo_where_46 : decode b_Mo_where 46 = .ok (.bipush 8, 2) := by decide +kernel
theorem d_Mo_where_48 : decode b_Mo_where 48 = .ok (.iload_n 1, 1) := by decide +kernel
theorem d_Mo_where_49 : decode b_Mo_where 49 = .ok (.imul, 1) := by decide +kernel
theorem d_Mo_where_50 : decode b_Mo_where 50 = .ok (.iadd, 1) := by decide +kernel
theorem d_Mo_where_51 : decode b_Mo_where 51 = .ok (.iload_n 3, 1) := by decide +kernel
theorem d_Mo_where_52 : decode b_Mo_where 52 = .ok (.iadd, 1) := by decide +kernel
theorem d_Mo_where_53 : decode b_Mo_where 53 = .ok (.laload, 1) := by decide +kernel
theorem d_Mo_where_54 : decode b_Mo_where 54 = .ok (.lconst 1, 1) := by decide +kernel
theorem d_Mo_where_55 : decode b_Mo_where 55 = .ok (.lsub, 1) := by decide +kernel
theorem d_Mo_where_56 : decode b_Mo_where 56 = .ok (.iload_n 2, 1) := by decide +kernel
theorem d_Mo_where_57 : decode b_Mo_where 57 = .ok (.invokevirtual 170, 3) := by decide +kernel
theorem d_Mo_where_60 : decode b_Mo_where 60 = .ok (.goto 4, 3) := by decide +kernel
theorem d_Mo_where_63 : decode b_Mo_where 63 = .ok (.iconst 0, 1) := by decide +kernel
theorem d_Mo_where_64 : decode b_Mo_where 64 = .ok (.ireturn, 1) := by decide +kernel
theorem d_Mo_first_0 : decode b_Mo_first 0 = .ok (.aload_n 0, 1) := by decide +kernel
theorem d_Mo_first_1 : decode b_Mo_first 1 = .ok (.iconst (-1), 1) := by decide +kernel
theorem d_Mo_first_2 : decode b_Mo_first 2 = .ok (.putfield 174, 3) := by decide +kernel
theorem d_Mo_first_5 : decode b_Mo_first 5 = .ok (.aload_n 0, 1) := by decide +kernel
theorem d_Mo_first_6 : decode b_Mo_first 6 = .ok (.lconst 0, 1) := by decide +kernel
theorem d_Mo_first_7 : decode b_Mo_first 7 = .ok (.putfield 177, 3) := by decide +kernel
theorem d_Mo_first_10 : decode b_Mo_first 10 = .ok (.iconst 0, 1) := by decide +kernel
theorem d_Mo_first_11 : decode b_Mo_first 11 = .ok (.istore_n 3, 1) := by decide +kernel
theorem d_Mo_first_12 : decode b_Mo_first 12 = .ok (.iload_n 3, 1) := by decide +kernel
theorem d_Mo_first_13 : decode b_Mo_first 13 = .ok (.i2l, 1) := by decide +kernel
theorem d_Mo_first_14 : decode b_Mo_first 14 = .ok (.aload_n 0, 1) := by decide +kernel
theorem d_Mo_first_15 : decode b_Mo_first 15 = .ok (.getfield 7, 3) := by decide +kernel
theorem d_Mo_first_18 : decode b_Mo_first 18 = .ok (.sipush 2162, 3) := by decide +kernel
theorem d_Mo_first_21 : decode b_Mo_first 21 = .ok (.iload_n 1, 1) := by decide +kernel
theorem d_Mo_first_22 : decode b_Mo_first 22 = .ok (.iadd, 1) := by decide +kernel
theorem d_Mo_first_23 : decode b_Mo_first 23 = .ok (.laload, 1) := by decide +kernel
theorem d_Mo_first_24 : decode b_Mo_first 24 = .ok (.lcmp, 1) := by decide +kernel
theorem d_Mo_first_25 : decode b_Mo_first 25 = .ok (.ifCond .ge 116, 3) := by decide +kernel
theorem d_Mo_first_28 : decode b_Mo_first 28 = .ok (.aload_n 0, 1) := by decide +kernel
theorem d_Mo_first_29 : decode b_Mo_first 29 = .ok (.aload_n 0, 1) := by decide +kernel
theorem d_Mo_first_30 : decode b_Mo_first 30 = .ok (.getfield 7, 3) := by decide +kernel
theorem d_Mo_first_33 : decode b_Mo_first 33 = .ok (.sipush 2192, 3) := by decide +kernel
theorem d_Mo_first_36 : decode b_Mo_first 36 = .ok (.bipush 8, 2) := by decide +kernel
theorem d_Mo_first_38 : decode b_Mo_first 38 = .ok (.iload_n 1, 1) := by decide +kernel
theorem d_Mo_first_39 : decode b_Mo_first 39 = .ok (.imul, 1) := by decide +kernel
theorem d_Mo_first_40 : decode b_Mo_first 40 = .ok (.iadd, 1) := by decide +kernel
theorem d_Mo_first_41 : decode b_Mo_first 41 = .ok (.iload_n 3, 1) := by decide +kernel
theorem d_Mo_first_42 : decode b_Mo_first 42 = .ok (.iadd, 1) := by decide +kernel
theorem d_Mo_first_43 : decode b_Mo_first 43 = .ok (.laload, 1) := by decide +kernel
theorem d_Mo_first_44 : decode b_Mo_first 44 = .ok (.lconst 1, 1) := by decide +kernel
theorem d_Mo_first_45 : decode b_Mo_first 45 = .ok (.lsub, 1) := by decide +kernel
theorem d_Mo_first_46 : decode b_Mo_first 46 = .ok (.iload_n 2, 1) := by decide +kernel
theorem d_Mo_first_47 : decode b_Mo_first 47 = .ok (.invokevirtual 170, 3) := by decide +kernel
theorem d_Mo_first_50 : decode b_Mo_first 50 = .ok (.istore 4, 2) := by decide +kernel
theorem d_Mo_first_52 : decode b_Mo_first 52 = .ok (.aload_n 0, 1) := by decide +kernel
theorem d_Mo_first_53 : decode b_Mo_first 53 = .ok (.getfield 7, 3) := by decide +kernel
theorem d_Mo_first_56 : decode b_Mo_first 56 = .ok (.sipush 2432, 3) := by decide +kernel
theorem d_Mo_first_59 : decode b_Mo_first 59 = .ok (.bipush 8, 2) := by decide +kernel
theorem d_Mo_first_61 : decode b_Mo_first 61 = .ok (.iload_n 1, 1) := by decide +kernel
theorem d_Mo_first_62 : decode b_Mo_first 62 = .ok (.imul, 1) := by decide +kernel
theorem d_Mo_first_63 : decode b_Mo_first 63 = .ok (.iadd, 1) := by decide +kernel
theorem d_Mo_first_64 : decode b_Mo_first 64 = .ok (.iload_n 3, 1) := by decide +kernel
theorem d_Mo_first_65 : decode b_Mo_first 65 = .ok (.iadd, 1) := by decide +kernel
theorem d_Mo_first_66 : decode b_Mo_first 66 = .ok (.laload, 1) := by decide +kernel
theorem d_Mo_first_67 : decode b_Mo_first 67 = .ok (.lstore 5, 2) := by decide +kernel
theorem d_Mo_first_69 : decode b_Mo_first 69 = .ok (.aload_n 0, 1) := by decide +kernel
theorem d_Mo_first_70 : decode b_Mo_first 70 = .ok (.getfield 174, 3) := by decide +kernel
theorem d_Mo_first_73 : decode b_Mo_first 73 = .ok (.iconst (-1), 1) := by decide +kernel
theorem d_Mo_first_74 : decode b_Mo_first 74 = .ok (.if_icmp .eq 31, 3) := by decide +kernel
theorem d_Mo_first_77 : decode b_Mo_first 77 = .ok (.iload 4, 2) := by decide +kernel
theorem d_Mo_first_79 : decode b_Mo_first 79 = .ok (.aload_n 0, 1) := by decide +kernel
theorem d_Mo_first_80 : decode b_Mo_first 80 = .ok (.getfield 174, 3) := by decide +kernel
theorem d_Mo_first_83 : decode b_Mo_first 83 = .ok (.if_icmp .lt 22, 3) := by decide +kernel
theorem d_Mo_first_86 : decode b_Mo_first 86 = .ok (.iload 4, 2) := by decide +kernel
theorem d_Mo_first_88 : decode b_Mo_first 88 = .ok (.aload_n 0, 1) := by decide +kernel
theorem d_Mo_first_89 : decode b_Mo_first 89 = .ok (.getfield 174, 3) := by decide +kernel
theorem d_Mo_first_92 : decode b_Mo_first 92 = .ok (.if_icmp .ne 17, 3) := by decide +kernel
theorem d_Mo_first_95 : decode b_Mo_first 95 = .ok (.lload 5, 2) := by decide +kernel
theorem d_Mo_first_97 : decode b_Mo_first 97 = .ok (.aload_n 0, 1) := by decide +kernel
theorem d_Mo_first_98 : decode b_Mo_first 98 = .ok (.getfield 177, 3) := by decide +kernel
theorem d_Mo_first_101 : decode b_Mo_first 101 = .ok (.lcmp, 1) := by decide +kernel
theorem d_Mo_first_102 : decode b_Mo_first 102 = .ok (.ifCond .ge 7, 3) := by decide +kernel
theorem d_Mo_first_105 : decode b_Mo_first 105 = .ok (.iconst 1, 1) := by decide +kernel
theorem d_Mo_first_106 : decode b_Mo_first 106 = .ok (.goto 4, 3) := by decide +kernel
theorem d_Mo_first_109 : decode b_Mo_first 109 = .ok (.iconst 0, 1) := by decide +kernel
theorem d_Mo_first_110 : decode b_Mo_first 110 = .ok (.istore 7, 2) := by decide +kernel
theorem d_Mo_first_112 : decode b_Mo_first 112 = .ok (.iload 4, 2) := by decide +kernel
theorem d_Mo_first_114 : decode b_Mo_first 114 = .ok (.iconst (-1), 1) := by decide +kernel
theorem d_Mo_first_115 : decode b_Mo_first 115 = .ok (.if_icmp .eq 20, 3) := by decide +kernel
theorem d_Mo_first_118 : decode b_Mo_first 118 = .ok (.iload 7, 2) := by decide +kernel
theorem d_Mo_first_120 : decode b_Mo_first 120 = .ok (.ifCond .eq 15, 3) := by decide +kernel
theorem d_Mo_first_123 : decode b_Mo_first 123 = .ok (.aload_n 0, 1) := by decide +kernel
theorem d_Mo_first_124 : decode b_Mo_first 124 = .ok (.iload 4, 2) := by decide +kernel
theorem d_Mo_first_126 : decode b_Mo_first 126 = .ok (.putfield 174, 3) := by decide +kernel
theorem d_Mo_first_129 : decode b_Mo_first 129 = .ok (.aload_n 0, 1) := by decide +kernel
theorem d_Mo_first_130 : decode b_Mo_first 130 = .ok (.lload 5, 2) := by decide +kernel
theorem d_Mo_first_132 : decode b_Mo_first 132 = .ok (.putfield 177, 3) := by decide +kernel
theorem d_Mo_first_135 : decode b_Mo_first 135 = .ok (.iinc 3 1, 3) := by decide +kernel
theorem d_Mo_first_138 : decode b_Mo_first 138 = .ok (.goto (-126), 3) := by decide +kernel
theorem d_Mo_first_141 : decode b_Mo_first 141 = .ok (.return_, 1) := by decide +kernel
theorem d_Mo_name_0 : decode b_Mo_name 0 = .ok (.aload_n 0, 1) := by decide +kernel
theorem d_Mo_name_1 : decode b_Mo_name 1 = .ok (.aload_n 0, 1) := by decide +kernel
theorem d_Mo_name_2 : decode b_Mo_name 2 = .ok (.iload_n 1, 1) := by decide +kernel
theorem d_Mo_name_3 : decode b_Mo_name 3 = .ok (.invokevirtual 66, 3) := by decide +kernel
theorem d_Mo_name_6 : decode b_Mo_name 6 = .ok (.ifCond .eq 20, 3) := by decide +kernel
theorem d_Mo_name_9 : decode b_Mo_name 9 = .ok (.iload_n 2, 1) := by decide +kernel
theorem d_Mo_name_10 : decode b_Mo_name 10 = .ok (.ifCond .lt 16, 3) := by decide +kernel
theorem d_Mo_name_13 : decode b_Mo_name 13 = .ok (.iload_n 2, 1) := by decide +kernel
theorem d_Mo_name_14 : decode b_Mo_name 14 = .ok (.aload_n 0, 1) := by decide +kernel
theorem d_Mo_name_15 : decode b_Mo_name 15 = .ok (.iload_n 1, 1) := by decide +kernel
theorem d_Mo_name_16 : decode b_Mo_name 16 = .ok (.invokevirtual 167, 3) := by decide +kernel
theorem d_Mo_name_19 : decode b_Mo_name 19 = .ok (.if_icmp .ge 7, 3) := by decide +kernel
theorem d_Mo_name_22 : decode b_Mo_name 22 = .ok (.iconst 0, 1) := by decide +kernel
theorem d_Mo_name_23 : decode b_Mo_name 23 = .ok (.goto 4, 3) := by decide +kernel
theorem d_Mo_name_26 : decode b_Mo_name 26 = .ok (.iconst 1, 1) := by decide +kernel
theorem d_Mo_name_27 : decode b_Mo_name 27 = .ok (.putfield 45, 3) := by decide +kernel
theorem d_Mo_name_30 : decode b_Mo_name 30 = .ok (.aload_n 0, 1) := by decide +kernel
theorem d_Mo_name_31 : decode b_Mo_name 31 = .ok (.getfield 45, 3) := by decide +kernel
theorem d_Mo_name_34 : decode b_Mo_name 34 = .ok (.ifCond .eq 5, 3) := by decide +kernel
theorem d_Mo_name_37 : decode b_Mo_name 37 = .ok (.iconst 0, 1) := by decide +kernel
theorem d_Mo_name_38 : decode b_Mo_name 38 = .ok (.ireturn, 1) := by decide +kernel
theorem d_Mo_name_39 : decode b_Mo_name 39 = .ok (.aload_n 0, 1) := by decide +kernel
theorem d_Mo_name_40 : decode b_Mo_name 40 = .ok (.iload_n 1, 1) := by decide +kernel
theorem d_Mo_name_41 : decode b_Mo_name 41 = .ok (.iload_n 2, 1) := by decide +kernel
theorem d_Mo_name_42 : decode b_Mo_name 42 = .ok (.invokevirtual 181, 3) := by decide +kernel
theorem d_Mo_name_45 : decode b_Mo_name 45 = .ok (.aload_n 0, 1) := by decide +kernel
theorem d_Mo_name_46 : decode b_Mo_name 46 = .ok (.getfield 174, 3) := by decide +kernel
theorem d_Mo_name_49 : decode b_Mo_name 49 = .ok (.istore_n 3, 1) := by decide +kernel
theorem d_Mo_name_50 : decode b_Mo_name 50 = .ok (.aload_n 0, 1) := by decide +kernel
theorem d_Mo_name_51 : decode b_Mo_name 51 = .ok (.getfield 177, 3) := by decide +kernel
theorem d_Mo_name_54 : decode b_Mo_name 54 = .ok (.lstore 4, 2) := by decide +kernel
theorem d_Mo_name_56 : decode b_Mo_name 56 = .ok (.iconst 1, 1) := by decide +kernel
theorem d_Mo_name_57 : decode b_Mo_name 57 = .ok (.istore 6, 2) := by decide +kernel
theorem d_Mo_name_59 : decode b_Mo_name 59 = .ok (.iconst 0, 1) := by decide +kernel
theorem d_Mo_name_60 : decode b_Mo_name 60 = .ok (.istore 7, 2) := by decide +kernel
theorem d_Mo_name_62 : decode b_Mo_name 62 = .ok (.iload 7, 2) := by decide +kernel
theorem d_Mo_name_64 : decode b_Mo_name 64 = .ok (.aload_n 0, 1) := by decide +kernel
theorem d_Mo_name_65 : decode b_Mo_name 65 = .ok (.iconst 2, 1) := by decide +kernel
theorem d_Mo_name_66 : decode b_Mo_name 66 = .ok (.invokevirtual 62, 3) := by decide +kernel
theorem d_Mo_name_69 : decode b_Mo_name 69 = .ok (.if_icmp .ge 137, 3) := by decide +kernel
theorem d_Mo_name_72 : decode b_Mo_name 72 = .ok (.aload_n 0, 1) := by decide +kernel
theorem d_Mo_name_73 : decode b_Mo_name 73 = .ok (.getfield 7, 3) := by decide +kernel
theorem d_Mo_name_76 : decode b_Mo_name 76 = .ok (.sipush 2132, 3) := by decide +kernel
theorem d_Mo_name_79 : decode b_Mo_name 79 = .ok (.iload 7, 2) := by decide +kernel
theorem d_Mo_name_81 : decode b_Mo_name 81 = .ok (.iadd, 1) := by decide +kernel
theorem d_Mo_name_82 : decode b_Mo_name 82 = .ok (.laload, 1) := by decide +kernel
theorem d_Mo_name_83 : decode b_Mo_name 83 = .ok (.aload_n 0, 1) := by decide +kernel
theorem d_Mo_name_84 : decode b_Mo_name 84 = .ok (.getfield 7, 3) := by decide +kernel
theorem d_Mo_name_87 : decode b_Mo_name 87 = .ok (.sipush 2132, 3) := by decide +kernel
theorem d_Mo_name_90 : decode b_Mo_name 90 = .ok (.iload_n 1, 1) := by decide +kernel
theorem d_Mo_name_91 : decode b_Mo_name 91 = .ok (.iadd, 1) := by decide +kernel
theorem d_Mo_name_92 : decode b_Mo_name 92 = .ok (.laload, 1) := by decide +kernel
theorem d_Mo_name_93 : decode b_Mo_name 93 = .ok (.lcmp, 1) := by decide +kernel
theorem d_Mo_name_94 : decode b_Mo_name 94 = .ok (.ifCond .ne 12, 3) := by decide +kernel
theorem d_Mo_name_97 : decode b_Mo_name 97 = .ok (.aload_n 0, 1) := by decide +kernel
theorem d_Mo_name_98 : decode b_Mo_name 98 = .ok (.iload 7, 2) := by decide +kernel
theorem d_Mo_name_100 : decode b_Mo_name 100 = .ok (.invokevirtual 167, 3) := by decide +kernel
theorem d_Mo_name_103 : decode b_Mo_name 103 = .ok (.goto 4, 3) := by decide +kernel
theorem d_Mo_name_106 : decode b_Mo_name 106 = .ok (.iconst 0, 1) := by decide +kernel
theorem d_Mo_name_107 : decode b_Mo_name 107 = .ok (.istore 8, 2) := by decide +kernel
theorem d_Mo_name_109 : decode b_Mo_name 109 = .ok (.iconst 0, 1) := by decide +kernel
theorem d_Mo_name_110 : decode b_Mo_name 110 = .ok (.istore 9, 2) := by decide +kernel
theorem d_Mo_name_112 : decode b_Mo_name 112 = .ok (.iload 9, 2) := by decide +kernel
theorem d_Mo_name_114 : decode b_Mo_name 114 = .ok (.iload 8, 2) := by decide +kernel
theorem d_Mo_name_116 : decode b_Mo_name 116 = .ok (.if_icmp .ge 84, 3) := by decide +kernel
theorem d_Mo_name_119 : decode b_Mo_name 119 = .ok (.aload_n 0, 1) := by decide +kernel
theorem d_Mo_name_120 : decode b_Mo_name 120 = .ok (.iload 7, 2) := by decide +kernel
theorem d_Mo_name_122 : decode b_Mo_name 122 = .ok (.iload 9, 2) := by decide +kernel
theorem d_Mo_name_124 : decode b_Mo_name 124 = .ok (.invokevirtual 181, 3) := by decide +kernel
theorem d_Mo_name_127 : decode b_Mo_name 127 = .ok (.aload_n 0, 1) := by decide +kernel
theorem d_Mo_name_128 : decode b_Mo_name 128 = .ok (.getfield 174, 3) := by decide +kernel
theorem d_Mo_name_131 : decode b_Mo_name 131 = .ok (.iload_n 3, 1) := by decide +kernel
theorem d_Mo_name_132 : decode b_Mo_name 132 = .ok (.if_icmp .ne 21, 3) := by decide +kernel
theorem d_Mo_name_135 : decode b_Mo_name 135 = .ok (.aload_n 0, 1) := by decide +kernel
theorem d_Mo_name_136 : decode b_Mo_name 136 = .ok (.getfield 177, 3) := by decide +kernel
theorem d_Mo_name_139 : decode b_Mo_name 139 = .ok (.lload 4, 2) := by decide +kernel
theorem d_Mo_name_141 : decode b_Mo_name 141 = .ok (.lcmp, 1) := by decide +kernel
theorem d_Mo_name_142 : decode b_Mo_name 142 = .ok (.ifCond .ge 7, 3) := by decide +kernel
theorem d_Mo_name_145 : decode b_Mo_name 145 = .ok (.iconst 1, 1) := by decide +kernel
theorem d_Mo_name_146 : decode b_Mo_name 146 = .ok (.goto 31, 3) := by decide +kernel
theorem d_Mo_name_149 : decode b_Mo_name 149 = .ok (.iconst 0, 1) := by decide +kernel
theorem d_Mo_name_150 : decode b_Mo_name 150 = .ok (.goto 27, 3) := by decide +kernel
theorem d_Mo_name_153 : decode b_Mo_name 153 = .ok (.aload_n 0, 1) := by decide +kernel
theorem d_Mo_name_154 : decode b_Mo_name 154 = .ok (.getfield 174, 3) := by decide +kernel
theorem d_Mo_name_157 : decode b_Mo_name 157 = .ok (.iload_n 3, 1) := by decide +kernel
theorem d_Mo_name_158 : decode b_Mo_name 158 = .ok (.if_icmp .ge 18, 3) := by decide +kernel
theorem d_Mo_name_161 : decode b_Mo_name 161 = .ok (.aload_n 0, 1) := by decide +kernel
theorem d_Mo_name_162 : decode b_Mo_name 162 = .ok (.getfield 7, 3) := by decide +kernel
theorem d_Mo_name_165 : decode b_Mo_name 165 = .ok (.iconst 5, 1) := by decide +kernel
theorem d_Mo_name_166 : decode b_Mo_name 166 = .ok (.laload, 1) := by decide +kernel
theorem d_Mo_name_167 : decode b_Mo_name 167 = .ok (.lconst 0, 1) := by decide +kernel
theorem d_Mo_name_168 : decode b_Mo_name 168 = .ok (.lcmp, 1) := by decide +kernel
theorem d_Mo_name_169 : decode b_Mo_name 169 = .ok (.ifCond .ne 7, 3) := by decide +kernel
theorem d_Mo_name_172 : decode b_Mo_name 172 = .ok (.iconst 1, 1) := by decide +kernel
theorem d_Mo_name_173 : decode b_Mo_name 173 = .ok (.goto 4, 3) := by decide +kernel
theorem d_Mo_name_176 : decode b_Mo_name 176 = .ok (.iconst 0, 1) := by decide +kernel
theorem d_Mo_name_177 : decode b_Mo_name 177 = .ok (.istore 10, 2) := by decide +kernel
theorem d_Mo_name_179 : decode b_Mo_name 179 = .ok (.iload 6, 2) := by decide +kernel
theorem d_Mo_name_181 : decode b_Mo_name 181 = .ok (.iload 10, 2) := by decide +kernel
theorem d_Mo_name_183 : decode b_Mo_name 183 = .ok (.ifCond .eq 7, 3) := by decide +kernel
theorem d_Mo_name_186 : decode b_Mo_name 186 = .ok (.iconst 1, 1) := by decide +kernel
theorem d_Mo_name_187 : decode b_Mo_name 187 = .ok (.goto 4, 3) := by decide +kernel
theorem d_Mo_name_190 : decode b_Mo_name 190 = .ok (.iconst 0, 1) := by decide +kernel
theorem d_Mo_name_191 : decode b_Mo_name 191 = .ok (.iadd, 1) := by decide +kernel
theorem d_Mo_name_192 : decode b_Mo_name 192 = .ok (.istore 6, 2) := by decide +kernel
theorem d_Mo_name_194 : decode b_Mo_name 194 = .ok (.iinc 9 1, 3) := by decide +kernel
theorem d_Mo_name_197 : decode b_Mo_name 197 = .ok (.goto (-85), 3) := by decide +kernel
theorem d_Mo_name_200 : decode b_Mo_name 200 = .ok (.iinc 7 1, 3) := by decide +kernel
theorem d_Mo_name_203 : decode b_Mo_name 203 = .ok (.goto (-141), 3) := by decide +kernel
theorem d_Mo_name_206 : decode b_Mo_name 206 = .ok (.aload_n 0, 1) := by decide +kernel
theorem d_Mo_name_207 : decode b_Mo_name 207 = .ok (.getfield 7, 3) := by decide +kernel
theorem d_Mo_name_210 : decode b_Mo_name 210 = .ok (.sipush 2132, 3) := by decide +kernel
theorem d_Mo_name_213 : decode b_Mo_name 213 = .ok (.iload_n 1, 1) := by decide +kernel
theorem d_Mo_name_214 : decode b_Mo_name 214 = .ok (.iadd, 1) := by decide +kernel
theorem d_Mo_name_215 : decode b_Mo_name 215 = .ok (.laload, 1) := by decide +kernel
theorem d_Mo_name_216 : decode b_Mo_name 216 = .ok (.l2i, 1) := by decide +kernel
theorem d_Mo_name_217 : decode b_Mo_name 217 = .ok (.sipush 10000, 3) := by decide +kernel
theorem d_Mo_name_220 : decode b_Mo_name 220 = .ok (.imul, 1) := by decide +kernel
theorem d_Mo_name_221 : decode b_Mo_name 221 = .ok (.aload_n 0, 1) := by decide +kernel
theorem d_Mo_name_222 : decode b_Mo_name 222 = .ok (.getfield 7, 3) := by decide +kernel
theorem d_Mo_name_225 : decode b_Mo_name 225 = .ok (.iconst 5, 1) := by decide +kernel
theorem d_Mo_name_226 : decode b_Mo_name 226 = .ok (.laload, 1) := by decide +kernel
theorem d_Mo_name_227 : decode b_Mo_name 227 = .ok (.lconst 0, 1) := by decide +kernel
theorem d_Mo_name_228 : decode b_Mo_name 228 = .ok (.lcmp, 1) := by decide +kernel
theorem d_Mo_name_229 : decode b_Mo_name 229 = .ok (.ifCond .ne 8, 3) := by decide +kernel
theorem d_Mo_name_232 : decode b_Mo_name 232 = .ok (.iload 6, 2) := by decide +kernel
theorem d_Mo_name_234 : decode b_Mo_name 234 = .ok (.goto 10, 3) := by decide +kernel
theorem d_Mo_name_237 : decode b_Mo_name 237 = .ok (.bipush 100, 2) := by decide +kernel
theorem d_Mo_name_239 : decode b_Mo_name 239 = .ok (.iload_n 3, 1) := by decide +kernel
theorem d_Mo_name_240 : decode b_Mo_name 240 = .ok (.imul, 1) := by decide +kernel
theorem d_Mo_name_241 : decode b_Mo_name 241 = .ok (.iload 6, 2) := by decide +kernel
theorem d_Mo_name_243 : decode b_Mo_name 243 = .ok (.iadd, 1) := by decide +kernel
theorem d_Mo_name_244 : decode b_Mo_name 244 = .ok (.iadd, 1) := by decide +kernel
theorem d_Mo_name_245 : decode b_Mo_name 245 = .ok (.ireturn, 1) := by decide +kernel
