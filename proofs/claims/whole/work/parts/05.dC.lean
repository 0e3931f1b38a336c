theorem d_ST_init_0 : decode b_ST_init 0 = .ok (.aload_n 0, 1) := by decide +kernel
theorem d_ST_init_1 : decode b_ST_init 1 = .ok (.invokespecial 3, 3) := by decide +kernel
theorem d_ST_init_4 : decode b_ST_init 4 = .ok (.aload_n 0, 1) := by decide +kernel
theorem d_ST_init_5 : decode b_ST_init 5 = .ok (.new 9, 3) := by decide +kernel
theorem d_ST_init_8 : decode b_ST_init 8 = .ok (.dup, 1) := by decide +kernel
theorem d_ST_init_9 : decode b_ST_init 9 = .ok (.invokespecial 11, 3) := by decide +kernel
theorem d_ST_init_12 : decode b_ST_init 12 = .ok (.putfield 12, 3) := by decide +kernel
theorem d_ST_init_15 : decode b_ST_init 15 = .ok (.aload_n 0, 1) := by decide +kernel
theorem d_ST_init_16 : decode b_ST_init 16 = .ok (.new 16, 3) := by decide +kernel
theorem d_ST_init_19 : decode b_ST_init 19 = .ok (.dup, 1) := by decide +kernel
theorem d_ST_init_20 : decode b_ST_init 20 = .ok (.aload_n 0, 1) := by decide +kernel
theorem d_ST_init_21 : decode b_ST_init 21 = .ok (.getfield 12, 3) := by decide +kernel
theorem d_ST_init_24 : decode b_ST_init 24 = .ok (.invokespecial 18, 3) := by decide +kernel
theorem d_ST_init_27 : decode b_ST_init 27 = .ok (.putfield 21, 3) := by decide +kernel
theorem d_ST_init_30 : decode b_ST_init 30 = .ok (.aload_n 0, 1) := by decide +kernel
theorem d_ST_init_31 : decode b_ST_init 31 = .ok (.new 25, 3) := by decide +kernel
theorem d_ST_init_34 : decode b_ST_init 34 = .ok (.dup, 1) := by decide +kernel
theorem d_ST_init_35 : decode b_ST_init 35 = .ok (.aload_n 0, 1) := by decide +kernel
theorem d_ST_init_36 : decode b_ST_init 36 = .ok (.getfield 21, 3) := by decide +kernel
theorem d_ST_init_39 : decode b_ST_init 39 = .ok (.invokespecial 27, 3) := by decide +kernel
theorem d_ST_init_42 : decode b_ST_init 42 = .ok (.putfield 30, 3) := by decide +kernel
theorem d_ST_init_45 : decode b_ST_init 45 = .ok (.aload_n 0, 1) := by decide +kernel
theorem d_ST_init_46 : decode b_ST_init 46 = .ok (.new 34, 3) := by decide +kernel
theorem d_ST_init_49 : decode b_ST_init 49 = .ok (.dup, 1) := by decide +kernel
theorem d_ST_init_50 : decode b_ST_init 50 = .ok (.aload_n 0, 1) := by decide +kernel
theorem d_ST_init_51 : decode b_ST_init 51 = .ok (.getfield 12, 3) := by decide +kernel
theorem d_ST_init_54 : decode b_ST_init 54 = .ok (.aload_n 0, 1) := by decide +kernel
theorem d_ST_init_55 : decode b_ST_init 55 = .ok (.getfield 30, 3) := by decide +kernel
theorem d_ST_init_58 : decode b_ST_init 58 = .ok (.invokespecial 36, 3) := by decide +kernel
theorem d_ST_init_61 : decode b_ST_init 61 = .ok (.putfield 39, 3) := by decide +kernel
theorem d_ST_init_64 : decode b_ST_init 64 = .ok (.aload_n 0, 1) := by decide +kernel
theorem d_ST_init_65 : decode b_ST_init 65 = .ok (.new 43, 3) := by decide +kernel
theorem d_ST_init_68 : decode b_ST_init 68 = .ok (.dup, 1) := by decide +kernel
theorem d_ST_init_69 : decode b_ST_init 69 = .ok (.aload_n 0, 1) := by decide +kernel
theorem d_ST_init_70 : decode b_ST_init 70 = .ok (.getfield 12, 3) := by decide +kernel
theorem d_ST_init_73 : decode b_ST_init 73 = .ok (.aload_n 0, 1) := by decide +kernel
theorem d_ST_init_74 : decode b_ST_init 74 = .ok (.getfield 30, 3) := by decide +kernel
theorem d_ST_init_77 : decode b_ST_init 77 = .ok (.invokespecial 45, 3) := by decide +kernel
theorem d_ST_init_80 : decode b_ST_init 80 = .ok (.putfield 46, 3) := by decide +kernel
theorem d_ST_init_83 : decode b_ST_init 83 = .ok (.aload_n 0, 1) := by decide +kernel
theorem d_ST_init_84 : decode b_ST_init 84 = .ok (.new 50, 3) := by decide +kernel
theorem d_ST_init_87 : decode b_ST_init 87 = .ok (.dup, 1) := by decide +kernel
theorem d_ST_init_88 : decode b_ST_init 88 = .ok (.aload_n 0, 1) := by decide +kernel
theorem d_ST_init_89 : decode b_ST_init 89 = .ok (.getfield 12, 3) := by decide +kernel
theorem d_ST_init_92 : decode b_ST_init 92 = .ok (.iconst 1, 1) := by decide +kernel
theorem d_ST_init_93 : decode b_ST_init 93 = .ok (.lconst 0, 1) := by decide +kernel
theorem d_ST_init_94 : decode b_ST_init 94 = .ok (.invokespecial 52, 3) := by decide +kernel
theorem d_ST_init_97 : decode b_ST_init 97 = .ok (.putfield 55, 3) := by decide +kernel
theorem d_ST_init_100 : decode b_ST_init 100 = .ok (.aload_n 0, 1) := by decide +kernel
theorem d_ST_init_101 : decode b_ST_init 101 = .ok (.iconst 0, 1) := by decide +kernel
theorem d_ST_init_102 : decode b_ST_init 102 = .ok (.putfield 59, 3) := by decide +kernel
theorem d_ST_init_105 : decode b_ST_init 105 = .ok (.aload_n 0, 1) := by decide +kernel
theorem d_ST_init_106 : decode b_ST_init 106 = .ok (.getfield 30, 3) := by decide +kernel
theorem d_ST_init_109 : decode b_ST_init 109 = .ok (.invokevirtual 63, 3) := by decide +kernel
theorem d_ST_init_112 : decode b_ST_init 112 = .ok (.return_, 1) := by decide +kernel
theorem d_ST_sheet_0 : decode b_ST_sheet 0 = .ok (.aload_n 0, 1) := by decide +kernel
theorem d_ST_sheet_1 : decode b_ST_sheet 1 = .ok (.getfield 21, 3) := by decide +kernel
theorem d_ST_sheet_4 : decode b_ST_sheet 4 = .ok (.invokevirtual 66, 3) := by decide +kernel
theorem d_ST_sheet_7 : decode b_ST_sheet 7 = .ok (.bipush 24, 2) := by decide +kernel
theorem d_ST_sheet_9 : decode b_ST_sheet 9 = .ok (.if_icmp .lt 5, 3) := by decide +kernel
theorem d_ST_sheet_12 : decode b_ST_sheet 12 = .ok (.iconst (-1), 1) := by decide +kernel
theorem d_ST_sheet_13 : decode b_ST_sheet 13 = .ok (.ireturn, 1) := by decide +kernel
theorem d_ST_sheet_14 : decode b_ST_sheet 14 = .ok (.aload_n 0, 1) := by decide +kernel
theorem d_ST_sheet_15 : decode b_ST_sheet 15 = .ok (.getfield 21, 3) := by decide +kernel
theorem d_ST_sheet_18 : decode b_ST_sheet 18 = .ok (.invokevirtual 70, 3) := by decide +kernel
theorem d_ST_sheet_21 : decode b_ST_sheet 21 = .ok (.istore_n 1, 1) := by decide +kernel
theorem d_ST_sheet_22 : decode b_ST_sheet 22 = .ok (.aload_n 0, 1) := by decide +kernel
theorem d_ST_sheet_23 : decode b_ST_sheet 23 = .ok (.getfield 12, 3) := by decide +kernel
theorem d_ST_sheet_26 : decode b_ST_sheet 26 = .ok (.invokevirtual 73, 3) := by decide +kernel
theorem d_ST_sheet_29 : decode b_ST_sheet 29 = .ok (.iload_n 1, 1) := by decide +kernel
theorem d_ST_sheet_30 : decode b_ST_sheet 30 = .ok (.ireturn, 1) := by decide +kernel
theorem d_ST_place_0 : decode b_ST_place 0 = .ok (.aload_n 0, 1) := by decide +kernel
theorem d_ST_place_1 : decode b_ST_place 1 = .ok (.iload_n 1, 1) := by decide +kernel
theorem d_ST_place_2 : decode b_ST_place 2 = .ok (.invokevirtual 76, 3) := by decide +kernel
theorem d_ST_place_5 : decode b_ST_place 5 = .ok (.aload_n 0, 1) := by decide +kernel
theorem d_ST_place_6 : decode b_ST_place 6 = .ok (.iload_n 2, 1) := by decide +kernel
theorem d_ST_place_7 : decode b_ST_place 7 = .ok (.invokevirtual 76, 3) := by decide +kernel
theorem d_ST_place_10 : decode b_ST_place 10 = .ok (.aload_n 0, 1) := by decide +kernel
theorem d_ST_place_11 : decode b_ST_place 11 = .ok (.getfield 21, 3) := by decide +kernel
theorem d_ST_place_14 : decode b_ST_place 14 = .ok (.invokevirtual 80, 3) := by decide +kernel
theorem d_ST_place_17 : decode b_ST_place 17 = .ok (.iconst 1, 1) := by decide +kernel
theorem d_ST_place_18 : decode b_ST_place 18 = .ok (.if_icmp .lt 15, 3) := by decide +kernel
theorem d_ST_place_21 : decode b_ST_place 21 = .ok (.aload_n 0, 1) := by decide +kernel
theorem d_ST_place_22 : decode b_ST_place 22 = .ok (.getfield 21, 3) := by decide +kernel
theorem d_ST_place_25 : decode b_ST_place 25 = .ok (.iload_n 2, 1) := by decide +kernel
theorem d_ST_place_26 : decode b_ST_place 26 = .ok (.iload_n 1, 1) := by decide +kernel
theorem d_ST_place_27 : decode b_ST_place 27 = .ok (.invokevirtual 83, 3) := by decide +kernel
theorem d_ST_place_30 : decode b_ST_place 30 = .ok (.ifCond .eq 5, 3) := by decide +kernel
theorem d_ST_place_33 : decode b_ST_place 33 = .ok (.iconst (-1), 1) := by decide +kernel
theorem d_ST_place_34 : decode b_ST_place 34 = .ok (.ireturn, 1) := by decide +kernel
theorem d_ST_place_35 : decode b_ST_place 35 = .ok (.aload_n 0, 1) := by decide +kernel
theorem d_ST_place_36 : decode b_ST_place 36 = .ok (.getfield 21, 3) := by decide +kernel
theorem d_ST_place_39 : decode b_ST_place 39 = .ok (.iload_n 1, 1) := by decide +kernel
theorem d_ST_place_40 : decode b_ST_place 40 = .ok (.iload_n 2, 1) := by decide +kernel
theorem d_ST_place_41 : decode b_ST_place 41 = .ok (.invokevirtual 87, 3) := by decide +kernel
theorem d_ST_place_44 : decode b_ST_place 44 = .ok (.istore_n 3, 1) := by decide +kernel
theorem d_ST_place_45 : decode b_ST_place 45 = .ok (.aload_n 0, 1) := by decide +kernel
theorem d_ST_place_46 : decode b_ST_place 46 = .ok (.invokevirtual 91, 3) := by decide +kernel
theorem d_ST_place_49 : decode b_ST_place 49 = .ok (.ifCond .eq 7, 3) := by decide +kernel
theorem d_ST_place_52 : decode b_ST_place 52 = .ok (.iload_n 3, 1) := by decide +kernel
theorem d_ST_place_53 : decode b_ST_place 53 = .ok (.goto 4, 3) := by decide +kernel
theorem d_ST_place_56 : decode b_ST_place 56 = .ok (.iconst (-1), 1) := by decide +kernel
theorem d_ST_place_57 : decode b_ST_place 57 = .ok (.ireturn, 1) := by decide +kernel
theorem d_ST_remove_0 : decode b_ST_remove 0 = .ok (.aload_n 0, 1) := by decide +kernel
theorem d_ST_remove_1 : decode b_ST_remove 1 = .ok (.iload_n 1, 1) := by decide +kernel
theorem d_ST_remove_2 : decode b_ST_remove 2 = .ok (.invokevirtual 95, 3) := by decide +kernel
theorem d_ST_remove_5 : decode b_ST_remove 5 = .ok (.aload_n 0, 1) := by decide +kernel
theorem d_ST_remove_6 : decode b_ST_remove 6 = .ok (.getfield 21, 3) := by decide +kernel
theorem d_ST_remove_9 : decode b_ST_remove 9 = .ok (.iload_n 1, 1) := by decide +kernel
theorem d_ST_remove_10 : decode b_ST_remove 10 = .ok (.invokevirtual 98, 3) := by decide +kernel
theorem d_ST_remove_13 : decode b_ST_remove 13 = .ok (.aload_n 0, 1) := by decide +kernel
theorem d_ST_remove_14 : decode b_ST_remove 14 = .ok (.invokevirtual 91, 3) := by decide +kernel
theorem d_ST_remove_17 : decode b_ST_remove 17 = .ok (.ireturn, 1) := by decide +kernel
theorem d_ST_move_0 : decode b_ST_move 0 = .ok (.aload_n 0, 1) := by decide +kernel
theorem d_ST_move_1 : decode b_ST_move 1 = .ok (.iload_n 1, 1) := by decide +kernel
theorem d_ST_move_2 : decode b_ST_move 2 = .ok (.invokevirtual 95, 3) := by decide +kernel
theorem d_ST_move_5 : decode b_ST_move 5 = .ok (.aload_n 0, 1) := by decide +kernel
theorem d_ST_move_6 : decode b_ST_move 6 = .ok (.iload_n 2, 1) := by decide +kernel
theorem d_ST_move_7 : decode b_ST_move 7 = .ok (.invokevirtual 76, 3) := by decide +kernel
theorem d_ST_move_10 : decode b_ST_move 10 = .ok (.aload_n 0, 1) := by decide +kernel
theorem d_ST_move_11 : decode b_ST_move 11 = .ok (.getfield 21, 3) := by decide +kernel
theorem d_ST_move_14 : decode b_ST_move 14 = .ok (.aload_n 0, 1) := by decide +kernel
theorem d_ST_move_15 : decode b_ST_move 15 = .ok (.getfield 21, 3) := by decide +kernel
theorem d_ST_move_18 : decode b_ST_move 18 = .ok (.iload_n 1, 1) := by decide +kernel
theorem d_ST_move_19 : decode b_ST_move 19 = .ok (.invokevirtual 101, 3) := by decide +kernel
theorem d_ST_move_22 : decode b_ST_move 22 = .ok (.iload_n 2, 1) := by decide +kernel
theorem d_ST_move_23 : decode b_ST_move 23 = .ok (.invokevirtual 83, 3) := by decide +kernel
theorem d_ST_move_26 : decode b_ST_move 26 = .ok (.ifCond .eq 5, 3) := by decide +kernel
theorem d_ST_move_29 : decode b_ST_move 29 = .ok (.iconst 0, 1) := by decide +kernel
theorem d_ST_move_30 : decode b_ST_move 30 = .ok (.ireturn, 1) := by decide +kernel
theorem d_ST_move_31 : decode b_ST_move 31 = .ok (.aload_n 0, 1) := by decide +kernel
theorem d_ST_move_32 : decode b_ST_move 32 = .ok (.getfield 21, 3) := by decide +kernel
theorem d_ST_move_35 : decode b_ST_move 35 = .ok (.iload_n 1, 1) := by decide +kernel
theorem d_ST_move_36 : decode b_ST_move 36 = .ok (.iload_n 2, 1) := by decide +kernel
theorem d_ST_move_37 : decode b_ST_move 37 = .ok (.invokevirtual 105, 3) := by decide +kernel
theorem d_ST_move_40 : decode b_ST_move 40 = .ok (.istore_n 3, 1) := by decide +kernel
theorem d_ST_move_41 : decode b_ST_move 41 = .ok (.aload_n 0, 1) := by decide +kernel
theorem d_ST_move_42 : decode b_ST_move 42 = .ok (.invokevirtual 91, 3) := by decide +kernel
theorem d_ST_move_45 : decode b_ST_move 45 = .ok (.ifCond .ne 5, 3) := by decide +kernel
theorem d_ST_move_48 : decode b_ST_move 48 = .ok (.iconst 0, 1) := by decide +kernel
theorem d_ST_move_49 : decode b_ST_move 49 = .ok (.ireturn, 1) := by decide +kernel
theorem d_ST_move_50 : decode b_ST_move 50 = .ok (.aload_n 0, 1) := by decide +kernel
theorem d_ST_move_51 : decode b_ST_move 51 = .ok (.iload_n 3, 1) := by decide +kernel
theorem d_ST_move_52 : decode b_ST_move 52 = .ok (.putfield 59, 3) := by decide +kernel
theorem d_ST_move_55 : decode b_ST_move 55 = .ok (.iconst 1, 1) := by decide +kernel
theorem d_ST_move_56 : decode b_ST_move 56 = .ok (.ireturn, 1) := by decide +kernel
theorem d_ST_told_0 : decode b_ST_told 0 = .ok (.iload_n 1, 1) := by decide +kernel
theorem d_ST_told_1 : decode b_ST_told 1 = .ok (.istore_n 2, 1) := by decide +kernel
theorem d_ST_told_2 : decode b_ST_told 2 = .ok (.iconst 0, 1) := by decide +kernel
theorem d_ST_told_3 : decode b_ST_told 3 = .ok (.istore_n 3, 1) := by decide +kernel
theorem d_ST_told_4 : decode b_ST_told 4 = .ok (.iload_n 3, 1) := by decide +kernel
theorem d_ST_told_5 : decode b_ST_told 5 = .ok (.bipush 32, 2) := by decide +kernel
theorem d_ST_told_7 : decode b_ST_told 7 = .ok (.if_icmp .ge 33, 3) := by decide +kernel
theorem d_ST_told_10 : decode b_ST_told 10 = .ok (.iload_n 2, 1) := by decide +kernel
theorem d_ST_told_11 : decode b_ST_told 11 = .ok (.ifCond .lt 29, 3) := by decide +kernel
theorem d_ST_told_14 : decode b_ST_told 14 = .ok (.aload_n 0, 1) := by decide +kernel
theorem d_ST_told_15 : decode b_ST_told 15 = .ok (.getfield 59, 3) := by decide +kernel
theorem d_ST_told_18 : decode b_ST_told 18 = .ok (.iload_n 3, 1) := by decide +kernel
theorem d_ST_told_19 : decode b_ST_told 19 = .ok (.invokestatic 108, 3) := by decide +kernel
theorem d_ST_told_22 : decode b_ST_told 22 = .ok (.ifCond .eq 12, 3) := by decide +kernel
theorem d_ST_told_25 : decode b_ST_told 25 = .ok (.iload_n 2, 1) := by decide +kernel
theorem d_ST_told_26 : decode b_ST_told 26 = .ok (.ifCond .ne 5, 3) := by decide +kernel
theorem d_ST_told_29 : decode b_ST_told 29 = .ok (.iload_n 3, 1) := by decide +kernel
theorem d_ST_told_30 : decode b_ST_told 30 = .ok (.ireturn, 1) := by decide +kernel
theorem d_ST_told_31 : decode b_ST_told 31 = .ok (.iinc 2 (-1), 3) := by decide +kernel
theorem d_ST_told_34 : decode b_ST_told 34 = .ok (.iinc 3 1, 3) := by decide +kernel
theorem d_ST_told_37 : decode b_ST_told 37 = .ok (.goto (-33), 3) := by decide +kernel
theorem d_ST_told_40 : decode b_ST_told 40 = .ok (.iconst (-1), 1) := by decide +kernel
theorem d_ST_told_41 : decode b_ST_told 41 = .ok (.ireturn, 1) := by decide +kernel
theorem d_ST_port_0 : decode b_ST_port 0 = .ok (.aload_n 0, 1) := by decide +kernel
theorem d_ST_port_1 : decode b_ST_port 1 = .ok (.iload_n 1, 1) := by decide +kernel
theorem d_ST_port_2 : decode b_ST_port 2 = .ok (.invokevirtual 76, 3) := by decide +kernel
theorem d_ST_port_5 : decode b_ST_port 5 = .ok (.aload_n 0, 1) := by decide +kernel
theorem d_ST_port_6 : decode b_ST_port 6 = .ok (.iload_n 2, 1) := by decide +kernel
theorem d_ST_port_7 : decode b_ST_port 7 = .ok (.invokevirtual 111, 3) := by decide +kernel
theorem d_ST_port_10 : decode b_ST_port 10 = .ok (.aload_n 0, 1) := by decide +kernel
theorem d_ST_port_11 : decode b_ST_port 11 = .ok (.getfield 21, 3) := by decide +kernel
theorem d_ST_port_14 : decode b_ST_port 14 = .ok (.iload_n 1, 1) := by decide +kernel
theorem d_ST_port_15 : decode b_ST_port 15 = .ok (.iload_n 2, 1) := by decide +kernel
theorem d_ST_port_16 : decode b_ST_port 16 = .ok (.invokevirtual 114, 3) := by decide +kernel
theorem d_ST_port_19 : decode b_ST_port 19 = .ok (.ifCond .eq 5, 3) := by decide +kernel
theorem d_ST_port_22 : decode b_ST_port 22 = .ok (.iconst 0, 1) := by decide +kernel
theorem d_ST_port_23 : decode b_ST_port 23 = .ok (.ireturn, 1) := by decide +kernel
theorem d_ST_port_24 : decode b_ST_port 24 = .ok (.aload_n 0, 1) := by decide +kernel
theorem d_ST_port_25 : decode b_ST_port 25 = .ok (.getfield 21, 3) := by decide +kernel
theorem d_ST_port_28 : decode b_ST_port 28 = .ok (.iload_n 1, 1) := by decide +kernel
theorem d_ST_port_29 : decode b_ST_port 29 = .ok (.iload_n 2, 1) := by decide +kernel
theorem d_ST_port_30 : decode b_ST_port 30 = .ok (.invokevirtual 117, 3) := by decide +kernel
theorem d_ST_port_33 : decode b_ST_port 33 = .ok (.aload_n 0, 1) := by decide +kernel
theorem d_ST_port_34 : decode b_ST_port 34 = .ok (.getfield 12, 3) := by decide +kernel
theorem d_ST_port_37 : decode b_ST_port 37 = .ok (.invokevirtual 73, 3) := by decide +kernel
theorem d_ST_port_40 : decode b_ST_port 40 = .ok (.iconst 1, 1) := by decide +kernel
theorem d_ST_port_41 : decode b_ST_port 41 = .ok (.ireturn, 1) := by decide +kernel
theorem d_ST_join_0 : decode b_ST_join 0 = .ok (.aload_n 0, 1) := by decide +kernel
theorem d_ST_join_1 : decode b_ST_join 1 = .ok (.iload_n 1, 1) := by decide +kernel
theorem d_ST_join_2 : decode b_ST_join 2 = .ok (.invokevirtual 95, 3) := by decide +kernel
theorem d_ST_join_5 : decode b_ST_join 5 = .ok (.aload_n 0, 1) := by decide +kernel
theorem d_ST_join_6 : decode b_ST_join 6 = .ok (.iload_n 2, 1) := by decide +kernel
theorem d_ST_join_7 : decode b_ST_join 7 = .ok (.invokevirtual 111, 3) := by decide +kernel
theorem d_ST_join_10 : decode b_ST_join 10 = .ok (.aload_n 0, 1) := by decide +kernel
theorem d_ST_join_11 : decode b_ST_join 11 = .ok (.iload_n 3, 1) := by decide +kernel
theorem d_ST_join_12 : decode b_ST_join 12 = .ok (.invokevirtual 111, 3) := by decide +kernel
theorem d_ST_join_15 : decode b_ST_join 15 = .ok (.aload_n 0, 1) := by decide +kernel
theorem d_ST_join_16 : decode b_ST_join 16 = .ok (.getfield 21, 3) := by decide +kernel
theorem d_ST_join_19 : decode b_ST_join 19 = .ok (.aload_n 0, 1) := by decide +kernel
theorem d_ST_join_20 : decode b_ST_join 20 = .ok (.getfield 21, 3) := by decide +kernel
theorem d_ST_join_23 : decode b_ST_join 23 = .ok (.iload_n 1, 1) := by decide +kernel
theorem d_ST_join_24 : decode b_ST_join 24 = .ok (.invokevirtual 101, 3) := by decide +kernel
theorem d_ST_join_27 : decode b_ST_join 27 = .ok (.iload_n 2, 1) := by decide +kernel
theorem d_ST_join_28 : decode b_ST_join 28 = .ok (.invokevirtual 114, 3) := by decide +kernel
theorem d_ST_join_31 : decode b_ST_join 31 = .ok (.ifCond .eq 35, 3) := by decide +kernel
theorem d_ST_join_34 : decode b_ST_join 34 = .ok (.aload_n 0, 1) := by decide +kernel
theorem d_ST_join_35 : decode b_ST_join 35 = .ok (.getfield 21, 3) := by decide +kernel
theorem d_ST_join_38 : decode b_ST_join 38 = .ok (.aload_n 0, 1) := by decide +kernel
theorem d_ST_join_39 : decode b_ST_join 39 = .ok (.getfield 21, 3) := by decide +kernel
theorem d_ST_join_42 : decode b_ST_join 42 = .ok (.iload_n 1, 1) := by decide +kernel
theorem d_ST_join_43 : decode b_ST_join 43 = .ok (.invokevirtual 121, 3) := by decide +kernel
theorem d_ST_join_46 : decode b_ST_join 46 = .ok (.iload_n 3, 1) := by decide +kernel
theorem d_ST_join_47 : decode b_ST_join 47 = .ok (.invokevirtual 114, 3) := by decide +kernel
theorem d_ST_join_50 : decode b_ST_join 50 = .ok (.ifCond .eq 16, 3) := by decide +kernel
theorem d_ST_join_53 : decode b_ST_join 53 = .ok (.aload_n 0, 1) := by decide +kernel
theorem d_ST_join_54 : decode b_ST_join 54 = .ok (.getfield 21, 3) := by decide +kernel
theorem d_ST_join_57 : decode b_ST_join 57 = .ok (.iload_n 1, 1) := by decide +kernel
theorem d_ST_join_58 : decode b_ST_join 58 = .ok (.iload_n 2, 1) := by decide +kernel
theorem d_ST_join_59 : decode b_ST_join 59 = .ok (.invokevirtual 124, 3) := by decide +kernel
theorem d_ST_join_62 : decode b_ST_join 62 = .ok (.iload_n 3, 1) := by decide +kernel
theorem d_ST_join_63 : decode b_ST_join 63 = .ok (.if_icmp .ne 5, 3) := by decide +kernel
theorem d_ST_join_66 : decode b_ST_join 66 = .ok (.iconst 0, 1) := by decide +kernel
theorem d_ST_join_67 : decode b_ST_join 67 = .ok (.ireturn, 1) := by decide +kernel
theorem d_ST_join_68 : decode b_ST_join 68 = .ok (.aload_n 0, 1) := by decide +kernel
theorem d_ST_join_69 : decode b_ST_join 69 = .ok (.getfield 21, 3) := by decide +kernel
theorem d_ST_join_72 : decode b_ST_join 72 = .ok (.iload_n 1, 1) := by decide +kernel
theorem d_ST_join_73 : decode b_ST_join 73 = .ok (.iload_n 2, 1) := by decide +kernel
theorem d_ST_join_74 : decode b_ST_join 74 = .ok (.iload_n 3, 1) := by decide +kernel
theorem d_ST_join_75 : decode b_ST_join 75 = .ok (.invokevirtual 127, 3) := by decide +kernel
theorem d_ST_join_78 : decode b_ST_join 78 = .ok (.aload_n 0, 1) := by decide +kernel
theorem d_ST_join_79 : decode b_ST_join 79 = .ok (.getfield 12, 3) := by decide +kernel
theorem d_ST_join_82 : decode b_ST_join 82 = .ok (.invokevirtual 73, 3) := by decide +kernel
theorem d_ST_join_85 : decode b_ST_join 85 = .ok (.iconst 1, 1) := by decide +kernel
theorem d_ST_join_86 : decode b_ST_join 86 = .ok (.ireturn, 1) := by decide +kernel
theorem d_ST_joined_0 : decode b_ST_joined 0 = .ok (.aload_n 0, 1) := by decide +kernel
theorem d_ST_joined_1 : decode b_ST_joined 1 = .ok (.iload_n 1, 1) := by decide +kernel
theorem d_ST_joined_2 : decode b_ST_joined 2 = .ok (.invokevirtual 95, 3) := by decide +kernel
theorem d_ST_joined_5 : decode b_ST_joined 5 = .ok (.aload_n 0, 1) := by decide +kernel
theorem d_ST_joined_6 : decode b_ST_joined 6 = .ok (.iload_n 2, 1) := by decide +kernel
theorem d_ST_joined_7 : decode b_ST_joined 7 = .ok (.invokevirtual 111, 3) := by decide +kernel
theorem d_ST_joined_10 : decode b_ST_joined 10 = .ok (.aload_n 0, 1) := by decide +kernel
theorem d_ST_joined_11 : decode b_ST_joined 11 = .ok (.getfield 21, 3) := by decide +kernel
theorem d_ST_joined_14 : decode b_ST_joined 14 = .ok (.iload_n 1, 1) := by decide +kernel
theorem d_ST_joined_15 : decode b_ST_joined 15 = .ok (.iload_n 2, 1) := by decide +kernel
theorem d_ST_joined_16 : decode b_ST_joined 16 = .ok (.invokevirtual 124, 3) := by decide +kernel
theorem d_ST_joined_19 : decode b_ST_joined 19 = .ok (.ireturn, 1) := by decide +kernel
theorem d_ST_part_0 : decode b_ST_part 0 = .ok (.iload_n 1, 1) := by decide +kernel
theorem d_ST_part_1 : decode b_ST_part 1 = .ok (.ifCond .lt 20, 3) := by decide +kernel
theorem d_ST_part_4 : decode b_ST_part 4 = .ok (.iload_n 1, 1) := by decide +kernel
theorem d_ST_part_5 : decode b_ST_part 5 = .ok (.bipush 26, 2) := by decide +kernel
theorem d_ST_part_7 : decode b_ST_part 7 = .ok (.if_icmp .ge 14, 3) := by decide +kernel
theorem d_ST_part_10 : decode b_ST_part 10 = .ok (.iload_n 2, 1) := by decide +kernel
theorem d_ST_part_11 : decode b_ST_part 11 = .ok (.iconst 1, 1) := by decide +kernel
theorem d_ST_part_12 : decode b_ST_part 12 = .ok (.if_icmp .lt 9, 3) := by decide +kernel
theorem d_ST_part_15 : decode b_ST_part 15 = .ok (.iload_n 2, 1) := by decide +kernel
theorem d_ST_part_16 : decode b_ST_part 16 = .ok (.bipush 8, 2) := by decide +kernel
theorem d_ST_part_18 : decode b_ST_part 18 = .ok (.if_icmp .le 13, 3) := by decide +kernel
theorem d_ST_part_21 : decode b_ST_part 21 = .ok (.new 131, 3) := by decide +kernel
theorem d_ST_part_24 : decode b_ST_part 24 = .ok (.dup, 1) := by decide +kernel
theorem d_ST_part_25 : decode b_ST_part 25 = .ok (.ldc 133, 2) := by decide +kernel
theorem d_ST_part_27 : decode b_ST_part 27 = .ok (.invokespecial 135, 3) := by decide +kernel
theorem d_ST_part_30 : decode b_ST_part 30 = .ok (.athrow, 1) := by decide +kernel
theorem d_ST_part_31 : decode b_ST_part 31 = .ok (.aload_n 0, 1) := by decide +kernel
theorem d_ST_part_32 : decode b_ST_part 32 = .ok (.getfield 39, 3) := by decide +kernel
theorem d_ST_part_35 : decode b_ST_part 35 = .ok (.invokevirtual 138, 3) := by decide +kernel
theorem d_ST_part_38 : decode b_ST_part 38 = .ok (.iconst 1, 1) := by decide +kernel
theorem d_ST_part_39 : decode b_ST_part 39 = .ok (.if_icmp .ge 5, 3) := by decide +kernel
theorem d_ST_part_42 : decode b_ST_part 42 = .ok (.iconst (-1), 1) := by decide +kernel
theorem d_ST_part_43 : decode b_ST_part 43 = .ok (.ireturn, 1) := by decide +kernel
theorem d_ST_part_44 : decode b_ST_part 44 = .ok (.aload_n 0, 1) := by decide +kernel
theorem d_ST_part_45 : decode b_ST_part 45 = .ok (.getfield 39, 3) := by decide +kernel
theorem d_ST_part_48 : decode b_ST_part 48 = .ok (.iload_n 1, 1) := by decide +kernel
theorem d_ST_part_49 : decode b_ST_part 49 = .ok (.iload_n 2, 1) := by decide +kernel
theorem d_ST_part_50 : decode b_ST_part 50 = .ok (.invokevirtual 141, 3) := by decide +kernel
theorem d_ST_part_53 : decode b_ST_part 53 = .ok (.istore_n 3, 1) := by decide +kernel
theorem d_ST_part_54 : decode b_ST_part 54 = .ok (.aload_n 0, 1) := by decide +kernel
theorem d_ST_part_55 : decode b_ST_part 55 = .ok (.getfield 12, 3) := by decide +kernel
theorem d_ST_part_58 : decode b_ST_part 58 = .ok (.invokevirtual 73, 3) := by decide +kernel
theorem d_ST_part_61 : decode b_ST_part 61 = .ok (.iload_n 3, 1) := by decide +kernel
theorem d_ST_part_62 : decode b_ST_part 62 = .ok (.ireturn, 1) := by decide +kernel
theorem d_ST_gate_0 : decode b_ST_gate 0 = .ok (.aload_n 0, 1) := by decide +kernel
theorem d_ST_gate_1 : decode b_ST_gate 1 = .ok (.iload_n 1, 1) := by decide +kernel
theorem d_ST_gate_2 : decode b_ST_gate 2 = .ok (.invokevirtual 76, 3) := by decide +kernel
theorem d_ST_gate_5 : decode b_ST_gate 5 = .ok (.aload_n 0, 1) := by decide +kernel
theorem d_ST_gate_6 : decode b_ST_gate 6 = .ok (.iload_n 2, 1) := by decide +kernel
theorem d_ST_gate_7 : decode b_ST_gate 7 = .ok (.invokevirtual 144, 3) := by decide +kernel
theorem d_ST_gate_10 : decode b_ST_gate 10 = .ok (.aload_n 0, 1) := by decide +kernel
theorem d_ST_gate_11 : decode b_ST_gate 11 = .ok (.iload_n 2, 1) := by decide +kernel
theorem d_ST_gate_12 : decode b_ST_gate 12 = .ok (.iload_n 3, 1) := by decide +kernel
theorem d_ST_gate_13 : decode b_ST_gate 13 = .ok (.invokevirtual 147, 3) := by decide +kernel
theorem d_ST_gate_16 : decode b_ST_gate 16 = .ok (.aload_n 0, 1) := by decide +kernel
theorem d_ST_gate_17 : decode b_ST_gate 17 = .ok (.getfield 39, 3) := by decide +kernel
theorem d_ST_gate_20 : decode b_ST_gate 20 = .ok (.iload_n 2, 1) := by decide +kernel
theorem d_ST_gate_21 : decode b_ST_gate 21 = .ok (.iload_n 3, 1) := by decide +kernel
theorem d_ST_gate_22 : decode b_ST_gate 22 = .ok (.invokevirtual 150, 3) := by decide +kernel
theorem d_ST_gate_25 : decode b_ST_gate 25 = .ok (.iconst (-1), 1) := by decide +kernel
theorem d_ST_gate_26 : decode b_ST_gate 26 = .ok (.if_icmp .ne 16, 3) := by decide +kernel
theorem d_ST_gate_29 : decode b_ST_gate 29 = .ok (.aload_n 0, 1) := by decide +kernel
theorem d_ST_gate_30 : decode b_ST_gate 30 = .ok (.getfield 39, 3) := by decide +kernel
theorem d_ST_gate_33 : decode b_ST_gate 33 = .ok (.iload_n 1, 1) := by decide +kernel
theorem d_ST_gate_34 : decode b_ST_gate 34 = .ok (.invokevirtual 153, 3) := by decide +kernel
theorem d_ST_gate_37 : decode b_ST_gate 37 = .ok (.bipush 20, 2) := by decide +kernel
theorem d_ST_gate_39 : decode b_ST_gate 39 = .ok (.if_icmp .lt 5, 3) := by decide +kernel
theorem d_ST_gate_42 : decode b_ST_gate 42 = .ok (.iconst 0, 1) := by decide +kernel
theorem d_ST_gate_43 : decode b_ST_gate 43 = .ok (.ireturn, 1) := by decide +kernel
theorem d_ST_gate_44 : decode b_ST_gate 44 = .ok (.aload_n 0, 1) := by decide +kernel
theorem d_ST_gate_45 : decode b_ST_gate 45 = .ok (.getfield 39, 3) := by decide +kernel
theorem d_ST_gate_48 : decode b_ST_gate 48 = .ok (.iload_n 1, 1) := by decide +kernel
theorem d_ST_gate_49 : decode b_ST_gate 49 = .ok (.iload_n 2, 1) := by decide +kernel
theorem d_ST_gate_50 : decode b_ST_gate 50 = .ok (.iload_n 3, 1) := by decide +kernel
theorem d_ST_gate_51 : decode b_ST_gate 51 = .ok (.invokevirtual 156, 3) := by decide +kernel
theorem d_ST_gate_54 : decode b_ST_gate 54 = .ok (.aload_n 0, 1) := by decide +kernel
theorem d_ST_gate_55 : decode b_ST_gate 55 = .ok (.getfield 12, 3) := by decide +kernel
theorem d_ST_gate_58 : decode b_ST_gate 58 = .ok (.invokevirtual 73, 3) := by decide +kernel
theorem d_ST_gate_61 : decode b_ST_gate 61 = .ok (.iconst 1, 1) := by decide +kernel
theorem d_ST_gate_62 : decode b_ST_gate 62 = .ok (.ireturn, 1) := by decide +kernel
theorem d_ST_copy_0 : decode b_ST_copy 0 = .ok (.aload_n 0, 1) := by decide +kernel
theorem d_ST_copy_1 : decode b_ST_copy 1 = .ok (.iload_n 1, 1) := by decide +kernel
theorem d_ST_copy_2 : decode b_ST_copy 2 = .ok (.invokevirtual 76, 3) := by decide +kernel
theorem d_ST_copy_5 : decode b_ST_copy 5 = .ok (.aload_n 0, 1) := by decide +kernel
theorem d_ST_copy_6 : decode b_ST_copy 6 = .ok (.getfield 21, 3) := by decide +kernel
theorem d_ST_copy_9 : decode b_ST_copy 9 = .ok (.invokevirtual 66, 3) := by decide +kernel
theorem d_ST_copy_12 : decode b_ST_copy 12 = .ok (.bipush 24, 2) := by decide +kernel
theorem d_ST_copy_14 : decode b_ST_copy 14 = .ok (.if_icmp .ge 39, 3) := by decide +kernel
theorem d_ST_copy_17 : decode b_ST_copy 17 = .ok (.aload_n 0, 1) := by decide +kernel
theorem d_ST_copy_18 : decode b_ST_copy 18 = .ok (.getfield 21, 3) := by decide +kernel
theorem d_ST_copy_21 : decode b_ST_copy 21 = .ok (.invokevirtual 80, 3) := by decide +kernel
theorem d_ST_copy_24 : decode b_ST_copy 24 = .ok (.aload_n 0, 1) := by decide +kernel
theorem d_ST_copy_25 : decode b_ST_copy 25 = .ok (.getfield 21, 3) := by decide +kernel
theorem d_ST_copy_28 : decode b_ST_copy 28 = .ok (.iload_n 1, 1) := by decide +kernel
theorem d_ST_copy_29 : decode b_ST_copy 29 = .ok (.invokevirtual 159, 3) := by decide +kernel
theorem d_ST_copy_32 : decode b_ST_copy 32 = .ok (.if_icmp .lt 21, 3) := by decide +kernel
theorem d_ST_copy_35 : decode b_ST_copy 35 = .ok (.aload_n 0, 1) := by decide +kernel
theorem d_ST_copy_36 : decode b_ST_copy 36 = .ok (.getfield 39, 3) := by decide +kernel
theorem d_ST_copy_39 : decode b_ST_copy 39 = .ok (.invokevirtual 138, 3) := by decide +kernel
theorem d_ST_copy_42 : decode b_ST_copy 42 = .ok (.aload_n 0, 1) := by decide +kernel
theorem d_ST_copy_43 : decode b_ST_copy 43 = .ok (.getfield 39, 3) := by decide +kernel
theorem d_ST_copy_46 : decode b_ST_copy 46 = .ok (.iload_n 1, 1) := by decide +kernel
theorem d_ST_copy_47 : decode b_ST_copy 47 = .ok (.invokevirtual 162, 3) := by decide +kernel
theorem d_ST_copy_50 : decode b_ST_copy 50 = .ok (.if_icmp .ge 5, 3) := by decide +kernel
theorem d_ST_copy_53 : decode b_ST_copy 53 = .ok (.iconst (-1), 1) := by decide +kernel
theorem d_ST_copy_54 : decode b_ST_copy 54 = .ok (.ireturn, 1) := by decide +kernel
theorem d_ST_copy_55 : decode b_ST_copy 55 = .ok (.aload_n 0, 1) := by decide +kernel
theorem d_ST_copy_56 : decode b_ST_copy 56 = .ok (.getfield 21, 3) := by decide +kernel
theorem d_ST_copy_59 : decode b_ST_copy 59 = .ok (.iload_n 1, 1) := by decide +kernel
theorem d_ST_copy_60 : decode b_ST_copy 60 = .ok (.invokevirtual 165, 3) := by decide +kernel
theorem d_ST_copy_63 : decode b_ST_copy 63 = .ok (.istore_n 2, 1) := by decide +kernel
theorem d_ST_copy_64 : decode b_ST_copy 64 = .ok (.aload_n 0, 1) := by decide +kernel
theorem d_ST_copy_65 : decode b_ST_copy 65 = .ok (.getfield 39, 3) := by decide +kernel
theorem d_ST_copy_68 : decode b_ST_copy 68 = .ok (.iload_n 1, 1) := by decide +kernel
theorem d_ST_copy_69 : decode b_ST_copy 69 = .ok (.iload_n 2, 1) := by decide +kernel
theorem d_ST_copy_70 : decode b_ST_copy 70 = .ok (.invokevirtual 168, 3) := by decide +kernel
theorem d_ST_copy_73 : decode b_ST_copy 73 = .ok (.aload_n 0, 1) := by decide +kernel
theorem d_ST_copy_74 : decode b_ST_copy 74 = .ok (.getfield 12, 3) := by decide +kernel
theorem d_ST_copy_77 : decode b_ST_copy 77 = .ok (.invokevirtual 73, 3) := by decide +kernel
theorem d_ST_copy_80 : decode b_ST_copy 80 = .ok (.iload_n 2, 1) := by decide +kernel
theorem d_ST_copy_81 : decode b_ST_copy 81 = .ok (.ireturn, 1) := by decide +kernel
theorem d_ST_rule_0 : decode b_ST_rule 0 = .ok (.iload_n 1, 1) := by decide +kernel
theorem d_ST_rule_1 : decode b_ST_rule 1 = .ok (.ifCond .eq 18, 3) := by decide +kernel
theorem d_ST_rule_4 : decode b_ST_rule 4 = .ok (.iload_n 1, 1) := by decide +kernel
theorem d_ST_rule_5 : decode b_ST_rule 5 = .ok (.iconst 1, 1) := by decide +kernel
theorem d_ST_rule_6 : decode b_ST_rule 6 = .ok (.if_icmp .eq 13, 3) := by decide +kernel
theorem d_ST_rule_9 : decode b_ST_rule 9 = .ok (.new 131, 3) := by decide +kernel
theorem d_ST_rule_12 : decode b_ST_rule 12 = .ok (.dup, 1) := by decide +kernel
theorem d_ST_rule_13 : decode b_ST_rule 13 = .ok (.ldc 171, 2) := by decide +kernel
theorem d_ST_rule_15 : decode b_ST_rule 15 = .ok (.invokespecial 135, 3) := by decide +kernel
theorem d_ST_rule_18 : decode b_ST_rule 18 = .ok (.athrow, 1) := by decide +kernel
theorem d_ST_rule_19 : decode b_ST_rule 19 = .ok (.aload_n 0, 1) := by decide +kernel
theorem d_ST_rule_20 : decode b_ST_rule 20 = .ok (.getfield 55, 3) := by decide +kernel
theorem d_ST_rule_23 : decode b_ST_rule 23 = .ok (.iconst 0, 1) := by decide +kernel
theorem d_ST_rule_24 : decode b_ST_rule 24 = .ok (.invokevirtual 173, 3) := by decide +kernel
theorem d_ST_rule_27 : decode b_ST_rule 27 = .ok (.iload_n 1, 1) := by decide +kernel
theorem d_ST_rule_28 : decode b_ST_rule 28 = .ok (.if_icmp .ne 5, 3) := by decide +kernel
theorem d_ST_rule_31 : decode b_ST_rule 31 = .ok (.iconst 0, 1) := by decide +kernel
theorem d_ST_rule_32 : decode b_ST_rule 32 = .ok (.ireturn, 1) := by decide +kernel
theorem d_ST_rule_33 : decode b_ST_rule 33 = .ok (.aload_n 0, 1) := by decide +kernel
theorem d_ST_rule_34 : decode b_ST_rule 34 = .ok (.getfield 55, 3) := by decide +kernel
theorem d_ST_rule_37 : decode b_ST_rule 37 = .ok (.iconst 0, 1) := by decide +kernel
theorem d_ST_rule_38 : decode b_ST_rule 38 = .ok (.iload_n 1, 1) := by decide +kernel
theorem d_ST_rule_39 : decode b_ST_rule 39 = .ok (.i2l, 1) := by decide +kernel
theorem d_ST_rule_40 : decode b_ST_rule 40 = .ok (.invokevirtual 176, 3) := by decide +kernel
theorem d_ST_rule_43 : decode b_ST_rule 43 = .ok (.aload_n 0, 1) := by decide +kernel
theorem d_ST_rule_44 : decode b_ST_rule 44 = .ok (.getfield 12, 3) := by decide +kernel
theorem d_ST_rule_47 : decode b_ST_rule 47 = .ok (.invokevirtual 73, 3) := by decide +kernel
theorem d_ST_rule_50 : decode b_ST_rule 50 = .ok (.iconst 1, 1) := by decide +kernel
theorem d_ST_rule_51 : decode b_ST_rule 51 = .ok (.ireturn, 1) := by decide +kernel
theorem d_ST_variant_0 : decode b_ST_variant 0 = .ok (.aload_n 0, 1) := by decide +kernel
theorem d_ST_variant_1 : decode b_ST_variant 1 = .ok (.iload_n 1, 1) := by decide +kernel
theorem d_ST_variant_2 : decode b_ST_variant 2 = .ok (.invokevirtual 180, 3) := by decide +kernel
theorem d_ST_variant_5 : decode b_ST_variant 5 = .ok (.aload_n 0, 1) := by decide +kernel
theorem d_ST_variant_6 : decode b_ST_variant 6 = .ok (.getfield 46, 3) := by decide +kernel
theorem d_ST_variant_9 : decode b_ST_variant 9 = .ok (.invokevirtual 183, 3) := by decide +kernel
theorem d_ST_variant_12 : decode b_ST_variant 12 = .ok (.bipush 10, 2) := by decide +kernel
theorem d_ST_variant_14 : decode b_ST_variant 14 = .ok (.if_icmp .lt 5, 3) := by decide +kernel
theorem d_ST_variant_17 : decode b_ST_variant 17 = .ok (.iconst (-1), 1) := by decide +kernel
theorem d_ST_variant_18 : decode b_ST_variant 18 = .ok (.ireturn, 1) := by decide +kernel
theorem d_ST_variant_19 : decode b_ST_variant 19 = .ok (.aload_n 0, 1) := by decide +kernel
theorem d_ST_variant_20 : decode b_ST_variant 20 = .ok (.getfield 46, 3) := by decide +kernel
theorem d_ST_variant_23 : decode b_ST_variant 23 = .ok (.iload_n 1, 1) := by decide +kernel
theorem d_ST_variant_24 : decode b_ST_variant 24 = .ok (.invokevirtual 186, 3) := by decide +kernel
theorem d_ST_variant_27 : decode b_ST_variant 27 = .ok (.istore_n 2, 1) := by decide +kernel
theorem d_ST_variant_28 : decode b_ST_variant 28 = .ok (.aload_n 0, 1) := by decide +kernel
theorem d_ST_variant_29 : decode b_ST_variant 29 = .ok (.getfield 12, 3) := by decide +kernel
theorem d_ST_variant_32 : decode b_ST_variant 32 = .ok (.invokevirtual 73, 3) := by decide +kernel
theorem d_ST_variant_35 : decode b_ST_variant 35 = .ok (.iload_n 2, 1) := by decide +kernel
theorem d_ST_variant_36 : decode b_ST_variant 36 = .ok (.ireturn, 1) := by decide +kernel
theorem d_ST_value_0 : decode b_ST_value 0 = .ok (.aload_n 0, 1) := by decide +kernel
theorem d_ST_value_1 : decode b_ST_value 1 = .ok (.iconst 0, 1) := by decide +kernel
theorem d_ST_value_2 : decode b_ST_value 2 = .ok (.iload_n 1, 1) := by decide +kernel
theorem d_ST_value_3 : decode b_ST_value 3 = .ok (.iload_n 2, 1) := by decide +kernel
theorem d_ST_value_4 : decode b_ST_value 4 = .ok (.iload_n 3, 1) := by decide +kernel
theorem d_ST_value_5 : decode b_ST_value 5 = .ok (.lload 4, 2) := by decide +kernel
theorem d_ST_value_7 : decode b_ST_value 7 = .ok (.invokevirtual 189, 3) := by decide +kernel
theorem d_ST_value_10 : decode b_ST_value 10 = .ok (.ireturn, 1) := by decide +kernel
theorem d_ST_fit_0 : decode b_ST_fit 0 = .ok (.aload_n 0, 1) := by decide +kernel
theorem d_ST_fit_1 : decode b_ST_fit 1 = .ok (.iconst 1, 1) := by decide +kernel
theorem d_ST_fit_2 : decode b_ST_fit 2 = .ok (.iload_n 1, 1) := by decide +kernel
theorem d_ST_fit_3 : decode b_ST_fit 3 = .ok (.iload_n 2, 1) := by decide +kernel
theorem d_ST_fit_4 : decode b_ST_fit 4 = .ok (.iload_n 3, 1) := by decide +kernel
theorem d_ST_fit_5 : decode b_ST_fit 5 = .ok (.iload 4, 2) := by decide +kernel
theorem d_ST_fit_7 : decode b_ST_fit 7 = .ok (.ifCond .eq 7, 3) := by decide +kernel
theorem d_ST_fit_10 : decode b_ST_fit 10 = .ok (.lconst 1, 1) := by decide +kernel
theorem d_ST_fit_11 : decode b_ST_fit 11 = .ok (.goto 4, 3) := by decide +kernel
theorem d_ST_fit_14 : decode b_ST_fit 14 = .ok (.lconst 0, 1) := by decide +kernel
theorem d_ST_fit_15 : decode b_ST_fit 15 = .ok (.invokevirtual 189, 3) := by decide +kernel
theorem d_ST_fit_18 : decode b_ST_fit 18 = .ok (.ireturn, 1) := by decide +kernel
theorem d_ST_valueOf_0 : decode b_ST_valueOf 0 = .ok (.aload_n 0, 1) := by decide +kernel
theorem d_ST_valueOf_1 : decode b_ST_valueOf 1 = .ok (.iconst 0, 1) := by decide +kernel
theorem d_ST_valueOf_2 : decode b_ST_valueOf 2 = .ok (.iload_n 1, 1) := by decide +kernel
theorem d_ST_valueOf_3 : decode b_ST_valueOf 3 = .ok (.iload_n 2, 1) := by decide +kernel
theorem d_ST_valueOf_4 : decode b_ST_valueOf 4 = .ok (.iload_n 3, 1) := by decide +kernel
theorem d_ST_valueOf_5 : decode b_ST_valueOf 5 = .ok (.lconst 0, 1) := by decide +kernel
theorem d_ST_valueOf_6 : decode b_ST_valueOf 6 = .ok (.invokevirtual 193, 3) := by decide +kernel
theorem d_ST_valueOf_9 : decode b_ST_valueOf 9 = .ok (.lreturn, 1) := by decide +kernel
theorem d_ST_fitted_0 : decode b_ST_fitted 0 = .ok (.aload_n 0, 1) := by decide +kernel
theorem d_ST_fitted_1 : decode b_ST_fitted 1 = .ok (.iconst 1, 1) := by decide +kernel
theorem d_ST_fitted_2 : decode b_ST_fitted 2 = .ok (.iload_n 1, 1) := by decide +kernel
theorem d_ST_fitted_3 : decode b_ST_fitted 3 = .ok (.iload_n 2, 1) := by decide +kernel
theorem d_ST_fitted_4 : decode b_ST_fitted 4 = .ok (.iload_n 3, 1) := by decide +kernel
theorem d_ST_fitted_5 : decode b_ST_fitted 5 = .ok (.lconst 1, 1) := by decide +kernel
theorem d_ST_fitted_6 : decode b_ST_fitted 6 = .ok (.invokevirtual 193, 3) := by decide +kernel
theorem d_ST_fitted_9 : decode b_ST_fitted 9 = .ok (.lconst 1, 1) := by decide +kernel
theorem d_ST_fitted_10 : decode b_ST_fitted 10 = .ok (.lcmp, 1) := by decide +kernel
theorem d_ST_fitted_11 : decode b_ST_fitted 11 = .ok (.ifCond .ne 7, 3) := by decide +kernel
theorem d_ST_fitted_14 : decode b_ST_fitted 14 = .ok (.iconst 1, 1) := by decide +kernel
theorem d_ST_fitted_15 : decode b_ST_fitted 15 = .ok (.goto 4, 3) := by decide +kernel
theorem d_ST_fitted_18 : decode b_ST_fitted 18 = .ok (.iconst 0, 1) := by decide +kernel
theorem d_ST_fitted_19 : decode b_ST_fitted 19 = .ok (.ireturn, 1) := by decide +kernel
theorem d_ST_undo_0 : decode b_ST_undo 0 = .ok (.aload_n 0, 1) := by decide +kernel
theorem d_ST_undo_1 : decode b_ST_undo 1 = .ok (.getfield 12, 3) := by decide +kernel
theorem d_ST_undo_4 : decode b_ST_undo 4 = .ok (.invokevirtual 197, 3) := by decide +kernel
theorem d_ST_undo_7 : decode b_ST_undo 7 = .ok (.ifCond .ne 5, 3) := by decide +kernel
theorem d_ST_undo_10 : decode b_ST_undo 10 = .ok (.iconst 0, 1) := by decide +kernel
theorem d_ST_undo_11 : decode b_ST_undo 11 = .ok (.ireturn, 1) := by decide +kernel
theorem d_ST_undo_12 : decode b_ST_undo 12 = .ok (.aload_n 0, 1) := by decide +kernel
theorem d_ST_undo_13 : decode b_ST_undo 13 = .ok (.iconst 0, 1) := by decide +kernel
theorem d_ST_undo_14 : decode b_ST_undo 14 = .ok (.putfield 59, 3) := by decide +kernel
theorem d_ST_undo_17 : decode b_ST_undo 17 = .ok (.aload_n 0, 1) := by decide +kernel
theorem d_ST_undo_18 : decode b_ST_undo 18 = .ok (.getfield 30, 3) := by decide +kernel
theorem d_ST_undo_21 : decode b_ST_undo 21 = .ok (.invokevirtual 63, 3) := by decide +kernel
theorem d_ST_undo_24 : decode b_ST_undo 24 = .ok (.iconst 1, 1) := by decide +kernel
theorem d_ST_undo_25 : decode b_ST_undo 25 = .ok (.ireturn, 1) := by decide +kernel
theorem d_ST_pages_0 : decode b_ST_pages 0 = .ok (.aload_n 0, 1) := by decide +kernel
theorem d_ST_pages_1 : decode b_ST_pages 1 = .ok (.getfield 30, 3) := by decide +kernel
theorem d_ST_pages_4 : decode b_ST_pages 4 = .ok (.invokevirtual 200, 3) := by decide +kernel
theorem d_ST_pages_7 : decode b_ST_pages 7 = .ok (.ireturn, 1) := by decide +kernel
theorem d_ST_page_0 : decode b_ST_page 0 = .ok (.aload_n 0, 1) := by decide +kernel
theorem d_ST_page_1 : decode b_ST_page 1 = .ok (.iload_n 1, 1) := by decide +kernel
theorem d_ST_page_2 : decode b_ST_page 2 = .ok (.invokevirtual 201, 3) := by decide +kernel
theorem d_ST_page_5 : decode b_ST_page 5 = .ok (.iload_n 2, 1) := by decide +kernel
theorem d_ST_page_6 : decode b_ST_page 6 = .ok (.tableswitch 66 0 3 #[30, 39, 48, 57], 30) := by decide +kernel
theorem d_ST_page_36 : decode b_ST_page 36 = .ok (.aload_n 0, 1) := by decide +kernel
theorem d_ST_page_37 : decode b_ST_page 37 = .ok (.getfield 30, 3) := by decide +kernel
theorem d_ST_page_40 : decode b_ST_page 40 = .ok (.iload_n 1, 1) := by decide +kernel
theorem d_ST_page_41 : decode b_ST_page 41 = .ok (.invokevirtual 204, 3) := by decide +kernel
theorem d_ST_page_44 : decode b_ST_page 44 = .ok (.ireturn, 1) := by decide +kernel
theorem d_ST_page_45 : decode b_ST_page 45 = .ok (.aload_n 0, 1) := by decide +kernel
theorem d_ST_page_46 : decode b_ST_page 46 = .ok (.getfield 30, 3) := by decide +kernel
theorem d_ST_page_49 : decode b_ST_page 49 = .ok (.iload_n 1, 1) := by decide +kernel
theorem d_ST_page_50 : decode b_ST_page 50 = .ok (.invokevirtual 207, 3) := by decide +kernel
theorem d_ST_page_53 : decode b_ST_page 53 = .ok (.ireturn, 1) := by decide +kernel
theorem d_ST_page_54 : decode b_ST_page 54 = .ok (.aload_n 0, 1) := by decide +kernel
theorem d_ST_page_55 : decode b_ST_page 55 = .ok (.getfield 30, 3) := by decide +kernel
theorem d_ST_page_58 : decode b_ST_page 58 = .ok (.iload_n 1, 1) := by decide +kernel
theorem d_ST_page_59 : decode b_ST_page 59 = .ok (.invokevirtual 210, 3) := by decide +kernel
theorem d_ST_page_62 : decode b_ST_page 62 = .ok (.ireturn, 1) := by decide +kernel
theorem d_ST_page_63 : decode b_ST_page 63 = .ok (.aload_n 0, 1) := by decide +kernel
theorem d_ST_page_64 : decode b_ST_page 64 = .ok (.getfield 30, 3) := by decide +kernel
theorem d_ST_page_67 : decode b_ST_page 67 = .ok (.iload_n 1, 1) := by decide +kernel
theorem d_ST_page_68 : decode b_ST_page 68 = .ok (.invokevirtual 213, 3) := by decide +kernel
theorem d_ST_page_71 : decode b_ST_page 71 = .ok (.ireturn, 1) := by decide +kernel
theorem d_ST_page_72 : decode b_ST_page 72 = .ok (.new 216, 3) := by decide +kernel
theorem d_ST_page_75 : decode b_ST_page 75 = .ok (.dup, 1) := by decide +kernel
theorem d_ST_page_76 : decode b_ST_page 76 = .ok (.ldc 218, 2) := by decide +kernel
theorem d_ST_page_78 : decode b_ST_page 78 = .ok (.invokespecial 220, 3) := by decide +kernel
theorem d_ST_page_81 : decode b_ST_page 81 = .ok (.athrow, 1) := by decide +kernel
theorem d_ST_units_0 : decode b_ST_units 0 = .ok (.aload_n 0, 1) := by decide +kernel
theorem d_ST_units_1 : decode b_ST_units 1 = .ok (.iload_n 1, 1) := by decide +kernel
theorem d_ST_units_2 : decode b_ST_units 2 = .ok (.invokevirtual 144, 3) := by decide +kernel
theorem d_ST_units_5 : decode b_ST_units 5 = .ok (.aload_n 0, 1) := by decide +kernel
theorem d_ST_units_6 : decode b_ST_units 6 = .ok (.getfield 39, 3) := by decide +kernel
theorem d_ST_units_9 : decode b_ST_units 9 = .ok (.iload_n 1, 1) := by decide +kernel
theorem d_ST_units_10 : decode b_ST_units 10 = .ok (.invokevirtual 221, 3) := by decide +kernel
theorem d_ST_units_13 : decode b_ST_units 13 = .ok (.ireturn, 1) := by decide +kernel
theorem d_ST_where_0 : decode b_ST_where 0 = .ok (.aload_n 0, 1) := by decide +kernel
theorem d_ST_where_1 : decode b_ST_where 1 = .ok (.iload_n 1, 1) := by decide +kernel
theorem d_ST_where_2 : decode b_ST_where 2 = .ok (.invokevirtual 144, 3) := by decide +kernel
theorem d_ST_where_5 : decode b_ST_where 5 = .ok (.aload_n 0, 1) := by decide +kernel
theorem d_ST_where_6 : decode b_ST_where 6 = .ok (.iload_n 1, 1) := by decide +kernel
theorem d_ST_where_7 : decode b_ST_where 7 = .ok (.iload_n 2, 1) := by decide +kernel
theorem d_ST_where_8 : decode b_ST_where 8 = .ok (.invokevirtual 224, 3) := by decide +kernel
theorem d_ST_where_11 : decode b_ST_where 11 = .ok (.aload_n 0, 1) := by decide +kernel
theorem d_ST_where_12 : decode b_ST_where 12 = .ok (.iload_n 1, 1) := by decide +kernel
theorem d_ST_where_13 : decode b_ST_where 13 = .ok (.iload_n 3, 1) := by decide +kernel
theorem d_ST_where_14 : decode b_ST_where 14 = .ok (.invokevirtual 147, 3) := by decide +kernel
theorem d_ST_where_17 : decode b_ST_where 17 = .ok (.aload_n 0, 1) := by decide +kernel
theorem d_ST_where_18 : decode b_ST_where 18 = .ok (.getfield 30, 3) := by decide +kernel
theorem d_ST_where_21 : decode b_ST_where 21 = .ok (.aload_n 0, 1) := by decide +kernel
theorem d_ST_where_22 : decode b_ST_where 22 = .ok (.getfield 39, 3) := by decide +kernel
theorem d_ST_where_25 : decode b_ST_where 25 = .ok (.iload_n 1, 1) := by decide +kernel
theorem d_ST_where_26 : decode b_ST_where 26 = .ok (.iload_n 3, 1) := by decide +kernel
theorem d_ST_where_27 : decode b_ST_where 27 = .ok (.invokevirtual 150, 3) := by decide +kernel
theorem d_ST_where_30 : decode b_ST_where 30 = .ok (.iload_n 2, 1) := by decide +kernel
theorem d_ST_where_31 : decode b_ST_where 31 = .ok (.invokevirtual 227, 3) := by decide +kernel
theorem d_ST_where_34 : decode b_ST_where 34 = .ok (.ireturn, 1) := by decide +kernel
theorem d_ST_name_0 : decode b_ST_name 0 = .ok (.aload_n 0, 1) := by decide +kernel
theorem d_ST_name_1 : decode b_ST_name 1 = .ok (.iload_n 1, 1) := by decide +kernel
theorem d_ST_name_2 : decode b_ST_name 2 = .ok (.invokevirtual 144, 3) := by decide +kernel
theorem d_ST_name_5 : decode b_ST_name 5 = .ok (.aload_n 0, 1) := by decide +kernel
theorem d_ST_name_6 : decode b_ST_name 6 = .ok (.iload_n 1, 1) := by decide +kernel
theorem d_ST_name_7 : decode b_ST_name 7 = .ok (.iload_n 2, 1) := by decide +kernel
theorem d_ST_name_8 : decode b_ST_name 8 = .ok (.invokevirtual 224, 3) := by decide +kernel
theorem d_ST_name_11 : decode b_ST_name 11 = .ok (.aload_n 0, 1) := by decide +kernel
theorem d_ST_name_12 : decode b_ST_name 12 = .ok (.getfield 39, 3) := by decide +kernel
theorem d_ST_name_15 : decode b_ST_name 15 = .ok (.iload_n 1, 1) := by decide +kernel
theorem d_ST_name_16 : decode b_ST_name 16 = .ok (.iload_n 2, 1) := by decide +kernel
theorem d_ST_name_17 : decode b_ST_name 17 = .ok (.aload_n 0, 1) := by decide +kernel
theorem d_ST_name_18 : decode b_ST_name 18 = .ok (.getfield 55, 3) := by decide +kernel
theorem d_ST_name_21 : decode b_ST_name 21 = .ok (.iconst 0, 1) := by decide +kernel
theorem d_ST_name_22 : decode b_ST_name 22 = .ok (.invokevirtual 173, 3) := by decide +kernel
theorem d_ST_name_25 : decode b_ST_name 25 = .ok (.iconst 1, 1) := by decide +kernel
theorem d_ST_name_26 : decode b_ST_name 26 = .ok (.if_icmp .ne 7, 3) := by decide +kernel
theorem d_ST_name_29 : decode b_ST_name 29 = .ok (.iconst 1, 1) := by decide +kernel
theorem d_ST_name_30 : decode b_ST_name 30 = .ok (.goto 4, 3) := by decide +kernel
theorem d_ST_name_33 : decode b_ST_name 33 = .ok (.iconst 0, 1) := by decide +kernel
theorem d_ST_name_34 : decode b_ST_name 34 = .ok (.invokevirtual 230, 3) := by decide +kernel
theorem d_ST_name_37 : decode b_ST_name 37 = .ok (.istore_n 3, 1) := by decide +kernel
theorem d_ST_name_38 : decode b_ST_name 38 = .ok (.aload_n 0, 1) := by decide +kernel
theorem d_ST_name_39 : decode b_ST_name 39 = .ok (.getfield 39, 3) := by decide +kernel
theorem d_ST_name_42 : decode b_ST_name 42 = .ok (.iload_n 1, 1) := by decide +kernel
theorem d_ST_name_43 : decode b_ST_name 43 = .ok (.invokevirtual 234, 3) := by decide +kernel
theorem d_ST_name_46 : decode b_ST_name 46 = .ok (.sipush 10000, 3) := by decide +kernel
theorem d_ST_name_49 : decode b_ST_name 49 = .ok (.imul, 1) := by decide +kernel
theorem d_ST_name_50 : decode b_ST_name 50 = .ok (.iload_n 3, 1) := by decide +kernel
theorem d_ST_name_51 : decode b_ST_name 51 = .ok (.iadd, 1) := by decide +kernel
theorem d_ST_name_52 : decode b_ST_name 52 = .ok (.ireturn, 1) := by decide +kernel
theorem d_ST_settle_0 : decode b_ST_settle 0 = .ok (.aload_n 0, 1) := by decide +kernel
theorem d_ST_settle_1 : decode b_ST_settle 1 = .ok (.getfield 30, 3) := by decide +kernel
theorem d_ST_settle_4 : decode b_ST_settle 4 = .ok (.invokevirtual 63, 3) := by decide +kernel
theorem d_ST_settle_7 : decode b_ST_settle 7 = .ok (.aload_n 0, 1) := by decide +kernel
theorem d_ST_settle_8 : decode b_ST_settle 8 = .ok (.getfield 30, 3) := by decide +kernel
theorem d_ST_settle_11 : decode b_ST_settle 11 = .ok (.invokevirtual 237, 3) := by decide +kernel
theorem d_ST_settle_14 : decode b_ST_settle 14 = .ok (.ifCond .eq 12, 3) := by decide +kernel
theorem d_ST_settle_17 : decode b_ST_settle 17 = .ok (.aload_n 0, 1) := by decide +kernel
theorem d_ST_settle_18 : decode b_ST_settle 18 = .ok (.getfield 12, 3) := by decide +kernel
theorem d_ST_settle_21 : decode b_ST_settle 21 = .ok (.invokevirtual 73, 3) := by decide +kernel
theorem d_ST_settle_24 : decode b_ST_settle 24 = .ok (.iconst 1, 1) := by decide +kernel
theorem d_ST_settle_25 : decode b_ST_settle 25 = .ok (.ireturn, 1) := by decide +kernel
theorem d_ST_settle_26 : decode b_ST_settle 26 = .ok (.aload_n 0, 1) := by decide +kernel
theorem d_ST_settle_27 : decode b_ST_settle 27 = .ok (.getfield 12, 3) := by decide +kernel
theorem d_ST_settle_30 : decode b_ST_settle 30 = .ok (.invokevirtual 240, 3) := by decide +kernel
theorem d_ST_settle_33 : decode b_ST_settle 33 = .ok (.aload_n 0, 1) := by decide +kernel
theorem d_ST_settle_34 : decode b_ST_settle 34 = .ok (.getfield 30, 3) := by decide +kernel
theorem d_ST_settle_37 : decode b_ST_settle 37 = .ok (.invokevirtual 63, 3) := by decide +kernel
theorem d_ST_settle_40 : decode b_ST_settle 40 = .ok (.iconst 0, 1) := by decide +kernel
theorem d_ST_settle_41 : decode b_ST_settle 41 = .ok (.ireturn, 1) := by decide +kernel
theorem d_ST_tell_0 : decode b_ST_tell 0 = .ok (.aload_n 0, 1) := by decide +kernel
theorem d_ST_tell_1 : decode b_ST_tell 1 = .ok (.iload_n 2, 1) := by decide +kernel
theorem d_ST_tell_2 : decode b_ST_tell 2 = .ok (.invokevirtual 243, 3) := by decide +kernel
theorem d_ST_tell_5 : decode b_ST_tell 5 = .ok (.aload_n 0, 1) := by decide +kernel
theorem d_ST_tell_6 : decode b_ST_tell 6 = .ok (.iload_n 3, 1) := by decide +kernel
theorem d_ST_tell_7 : decode b_ST_tell 7 = .ok (.invokevirtual 201, 3) := by decide +kernel
theorem d_ST_tell_10 : decode b_ST_tell 10 = .ok (.aload_n 0, 1) := by decide +kernel
theorem d_ST_tell_11 : decode b_ST_tell 11 = .ok (.iload 4, 2) := by decide +kernel
theorem d_ST_tell_13 : decode b_ST_tell 13 = .ok (.invokevirtual 144, 3) := by decide +kernel
theorem d_ST_tell_16 : decode b_ST_tell 16 = .ok (.aload_n 0, 1) := by decide +kernel
theorem d_ST_tell_17 : decode b_ST_tell 17 = .ok (.getfield 46, 3) := by decide +kernel
theorem d_ST_tell_20 : decode b_ST_tell 20 = .ok (.iload_n 1, 1) := by decide +kernel
theorem d_ST_tell_21 : decode b_ST_tell 21 = .ok (.iload_n 2, 1) := by decide +kernel
theorem d_ST_tell_22 : decode b_ST_tell 22 = .ok (.iload_n 3, 1) := by decide +kernel
theorem d_ST_tell_23 : decode b_ST_tell 23 = .ok (.iload 4, 2) := by decide +kernel
theorem d_ST_tell_25 : decode b_ST_tell 25 = .ok (.lload 5, 2) := by decide +kernel
theorem d_ST_tell_27 : decode b_ST_tell 27 = .ok (.invokevirtual 246, 3) := by decide +kernel
theorem d_ST_tell_30 : decode b_ST_tell 30 = .ok (.ifCond .ne 5, 3) := by decide +kernel
theorem d_ST_tell_33 : decode b_ST_tell 33 = .ok (.iconst 0, 1) := by decide +kernel
theorem d_ST_tell_34 : decode b_ST_tell 34 = .ok (.ireturn, 1) := by decide +kernel
theorem d_ST_tell_35 : decode b_ST_tell 35 = .ok (.aload_n 0, 1) := by decide +kernel
theorem d_ST_tell_36 : decode b_ST_tell 36 = .ok (.getfield 12, 3) := by decide +kernel
theorem d_ST_tell_39 : decode b_ST_tell 39 = .ok (.invokevirtual 73, 3) := by decide +kernel
theorem d_ST_tell_42 : decode b_ST_tell 42 = .ok (.iconst 1, 1) := by decide +kernel
theorem d_ST_tell_43 : decode b_ST_tell 43 = .ok (.ireturn, 1) := by decide +kernel
theorem d_ST_heard_0 : decode b_ST_heard 0 = .ok (.aload_n 0, 1) := by decide +kernel
theorem d_ST_heard_1 : decode b_ST_heard 1 = .ok (.iload_n 2, 1) := by decide +kernel
theorem d_ST_heard_2 : decode b_ST_heard 2 = .ok (.invokevirtual 180, 3) := by decide +kernel
theorem d_ST_heard_5 : decode b_ST_heard 5 = .ok (.aload_n 0, 1) := by decide +kernel
theorem d_ST_heard_6 : decode b_ST_heard 6 = .ok (.iload_n 3, 1) := by decide +kernel
theorem d_ST_heard_7 : decode b_ST_heard 7 = .ok (.invokevirtual 201, 3) := by decide +kernel
theorem d_ST_heard_10 : decode b_ST_heard 10 = .ok (.aload_n 0, 1) := by decide +kernel
theorem d_ST_heard_11 : decode b_ST_heard 11 = .ok (.iload 4, 2) := by decide +kernel
theorem d_ST_heard_13 : decode b_ST_heard 13 = .ok (.invokevirtual 144, 3) := by decide +kernel
theorem d_ST_heard_16 : decode b_ST_heard 16 = .ok (.aload_n 0, 1) := by decide +kernel
theorem d_ST_heard_17 : decode b_ST_heard 17 = .ok (.getfield 46, 3) := by decide +kernel
theorem d_ST_heard_20 : decode b_ST_heard 20 = .ok (.iload_n 1, 1) := by decide +kernel
theorem d_ST_heard_21 : decode b_ST_heard 21 = .ok (.iload_n 2, 1) := by decide +kernel
theorem d_ST_heard_22 : decode b_ST_heard 22 = .ok (.iload_n 3, 1) := by decide +kernel
theorem d_ST_heard_23 : decode b_ST_heard 23 = .ok (.iload 4, 2) := by decide +kernel
theorem d_ST_heard_25 : decode b_ST_heard 25 = .ok (.invokevirtual 247, 3) := by decide +kernel
theorem d_ST_heard_28 : decode b_ST_heard 28 = .ok (.istore 7, 2) := by decide +kernel
theorem d_ST_heard_30 : decode b_ST_heard 30 = .ok (.iload 7, 2) := by decide +kernel
theorem d_ST_heard_32 : decode b_ST_heard 32 = .ok (.iconst (-1), 1) := by decide +kernel
theorem d_ST_heard_33 : decode b_ST_heard 33 = .ok (.if_icmp .ne 8, 3) := by decide +kernel
theorem d_ST_heard_36 : decode b_ST_heard 36 = .ok (.lload 5, 2) := by decide +kernel
theorem d_ST_heard_38 : decode b_ST_heard 38 = .ok (.goto 12, 3) := by decide +kernel
theorem d_ST_heard_41 : decode b_ST_heard 41 = .ok (.aload_n 0, 1) := by decide +kernel
theorem d_ST_heard_42 : decode b_ST_heard 42 = .ok (.getfield 46, 3) := by decide +kernel
theorem d_ST_heard_45 : decode b_ST_heard 45 = .ok (.iload 7, 2) := by decide +kernel
theorem d_ST_heard_47 : decode b_ST_heard 47 = .ok (.invokevirtual 251, 3) := by decide +kernel
theorem d_ST_heard_50 : decode b_ST_heard 50 = .ok (.lreturn, 1) := by decide +kernel
theorem d_ST_needSheet_0 : decode b_ST_needSheet 0 = .ok (.aload_n 0, 1) := by decide +kernel
theorem d_ST_needSheet_1 : decode b_ST_needSheet 1 = .ok (.getfield 21, 3) := by decide +kernel
theorem d_ST_needSheet_4 : decode b_ST_needSheet 4 = .ok (.iload_n 1, 1) := by decide +kernel
theorem d_ST_needSheet_5 : decode b_ST_needSheet 5 = .ok (.invokevirtual 255, 3) := by decide +kernel
theorem d_ST_needSheet_8 : decode b_ST_needSheet 8 = .ok (.ifCond .ne 14, 3) := by decide +kernel
theorem d_ST_needSheet_11 : decode b_ST_needSheet 11 = .ok (.new 216, 3) := by decide +kernel
theorem d_ST_needSheet_14 : decode b_ST_needSheet 14 = .ok (.dup, 1) := by decide +kernel
theorem d_ST_needSheet_15 : decode b_ST_needSheet 15 = .ok (.ldc_w 259, 3) := by decide +kernel
theorem d_ST_needSheet_18 : decode b_ST_needSheet 18 = .ok (.invokespecial 220, 3) := by decide +kernel
theorem d_ST_needSheet_21 : decode b_ST_needSheet 21 = .ok (.athrow, 1) := by decide +kernel
theorem d_ST_needSheet_22 : decode b_ST_needSheet 22 = .ok (.return_, 1) := by decide +kernel
theorem d_ST_needPlacement_0 : decode b_ST_needPlacement 0 = .ok (.aload_n 0, 1) := by decide +kernel
theorem d_ST_needPlacement_1 : decode b_ST_needPlacement 1 = .ok (.getfield 21, 3) := by decide +kernel
theorem d_ST_needPlacement_4 : decode b_ST_needPlacement 4 = .ok (.iload_n 1, 1) := by decide +kernel
theorem d_ST_needPlacement_5 : decode b_ST_needPlacement 5 = .ok (.invokevirtual 261, 3) := by decide +kernel
theorem d_ST_needPlacement_8 : decode b_ST_needPlacement 8 = .ok (.ifCond .ne 14, 3) := by decide +kernel
theorem d_ST_needPlacement_11 : decode b_ST_needPlacement 11 = .ok (.new 216, 3) := by decide +kernel
theorem d_ST_needPlacement_14 : decode b_ST_needPlacement 14 = .ok (.dup, 1) := by decide +kernel
theorem d_ST_needPlacement_15 : decode b_ST_needPlacement 15 = .ok (.ldc_w 264, 3) := by decide +kernel
theorem d_ST_needPlacement_18 : decode b_ST_needPlacement 18 = .ok (.invokespecial 220, 3) := by decide +kernel
theorem d_ST_needPlacement_21 : decode b_ST_needPlacement 21 = .ok (.athrow, 1) := by decide +kernel
theorem d_ST_needPlacement_22 : decode b_ST_needPlacement 22 = .ok (.return_, 1) := by decide +kernel
theorem d_ST_needName_0 : decode b_ST_needName 0 = .ok (.iload_n 1, 1) := by decide +kernel
theorem d_ST_needName_1 : decode b_ST_needName 1 = .ok (.ifCond .lt 9, 3) := by decide +kernel
theorem d_ST_needName_4 : decode b_ST_needName 4 = .ok (.iload_n 1, 1) := by decide +kernel
theorem d_ST_needName_5 : decode b_ST_needName 5 = .ok (.bipush 32, 2) := by decide +kernel
theorem d_ST_needName_7 : decode b_ST_needName 7 = .ok (.if_icmp .lt 14, 3) := by decide +kernel
theorem d_ST_needName_10 : decode b_ST_needName 10 = .ok (.new 216, 3) := by decide +kernel
theorem d_ST_needName_13 : decode b_ST_needName 13 = .ok (.dup, 1) := by decide +kernel
theorem d_ST_needName_14 : decode b_ST_needName 14 = .ok (.ldc_w 266, 3) := by decide +kernel
theorem d_ST_needName_17 : decode b_ST_needName 17 = .ok (.invokespecial 220, 3) := by decide +kernel
theorem d_ST_needName_20 : decode b_ST_needName 20 = .ok (.athrow, 1) := by decide +kernel
theorem d_ST_needName_21 : decode b_ST_needName 21 = .ok (.return_, 1) := by decide +kernel
theorem d_ST_needPart_0 : decode b_ST_needPart 0 = .ok (.aload_n 0, 1) := by decide +kernel
theorem d_ST_needPart_1 : decode b_ST_needPart 1 = .ok (.getfield 39, 3) := by decide +kernel
theorem d_ST_needPart_4 : decode b_ST_needPart 4 = .ok (.iload_n 1, 1) := by decide +kernel
theorem d_ST_needPart_5 : decode b_ST_needPart 5 = .ok (.invokevirtual 268, 3) := by decide +kernel
theorem d_ST_needPart_8 : decode b_ST_needPart 8 = .ok (.ifCond .ne 14, 3) := by decide +kernel
theorem d_ST_needPart_11 : decode b_ST_needPart 11 = .ok (.new 216, 3) := by decide +kernel
theorem d_ST_needPart_14 : decode b_ST_needPart 14 = .ok (.dup, 1) := by decide +kernel
theorem d_ST_needPart_15 : decode b_ST_needPart 15 = .ok (.ldc_w 271, 3) := by decide +kernel
theorem d_ST_needPart_18 : decode b_ST_needPart 18 = .ok (.invokespecial 220, 3) := by decide +kernel
theorem d_ST_needPart_21 : decode b_ST_needPart 21 = .ok (.athrow, 1) := by decide +kernel
theorem d_ST_needPart_22 : decode b_ST_needPart 22 = .ok (.return_, 1) := by decide +kernel
theorem d_ST_needGate_0 : decode b_ST_needGate 0 = .ok (.iload_n 2, 1) := by decide +kernel
theorem d_ST_needGate_1 : decode b_ST_needGate 1 = .ok (.ifCond .lt 15, 3) := by decide +kernel
theorem d_ST_needGate_4 : decode b_ST_needGate 4 = .ok (.iload_n 2, 1) := by decide +kernel
theorem d_ST_needGate_5 : decode b_ST_needGate 5 = .ok (.aload_n 0, 1) := by decide +kernel
theorem d_ST_needGate_6 : decode b_ST_needGate 6 = .ok (.getfield 39, 3) := by decide +kernel
theorem d_ST_needGate_9 : decode b_ST_needGate 9 = .ok (.iload_n 1, 1) := by decide +kernel
theorem d_ST_needGate_10 : decode b_ST_needGate 10 = .ok (.invokevirtual 273, 3) := by decide +kernel
theorem d_ST_needGate_13 : decode b_ST_needGate 13 = .ok (.if_icmp .lt 14, 3) := by decide +kernel
theorem d_ST_needGate_16 : decode b_ST_needGate 16 = .ok (.new 216, 3) := by decide +kernel
theorem d_ST_needGate_19 : decode b_ST_needGate 19 = .ok (.dup, 1) := by decide +kernel
theorem d_ST_needGate_20 : decode b_ST_needGate 20 = .ok (.ldc_w 276, 3) := by decide +kernel
theorem d_ST_needGate_23 : decode b_ST_needGate 23 = .ok (.invokespecial 220, 3) := by decide +kernel
theorem d_ST_needGate_26 : decode b_ST_needGate 26 = .ok (.athrow, 1) := by decide +kernel
theorem d_ST_needGate_27 : decode b_ST_needGate 27 = .ok (.return_, 1) := by decide +kernel
theorem d_ST_needUnit_0 : decode b_ST_needUnit 0 = .ok (.iload_n 2, 1) := by decide +kernel
theorem d_ST_needUnit_1 : decode b_ST_needUnit 1 = .ok (.ifCond .lt 15, 3) := by decide +kernel
theorem d_ST_needUnit_4 : decode b_ST_needUnit 4 = .ok (.iload_n 2, 1) := by decide +kernel
theorem d_ST_needUnit_5 : decode b_ST_needUnit 5 = .ok (.aload_n 0, 1) := by decide +kernel
theorem d_ST_needUnit_6 : decode b_ST_needUnit 6 = .ok (.getfield 39, 3) := by decide +kernel
theorem d_ST_needUnit_9 : decode b_ST_needUnit 9 = .ok (.iload_n 1, 1) := by decide +kernel
theorem d_ST_needUnit_10 : decode b_ST_needUnit 10 = .ok (.invokevirtual 221, 3) := by decide +kernel
theorem d_ST_needUnit_13 : decode b_ST_needUnit 13 = .ok (.if_icmp .lt 14, 3) := by decide +kernel
theorem d_ST_needUnit_16 : decode b_ST_needUnit 16 = .ok (.new 216, 3) := by decide +kernel
theorem d_ST_needUnit_19 : decode b_ST_needUnit 19 = .ok (.dup, 1) := by decide +kernel
theorem d_ST_needUnit_20 : decode b_ST_needUnit 20 = .ok (.ldc_w 278, 3) := by decide +kernel
theorem d_ST_needUnit_23 : decode b_ST_needUnit 23 = .ok (.invokespecial 220, 3) := by decide +kernel
theorem d_ST_needUnit_26 : decode b_ST_needUnit 26 = .ok (.athrow, 1) := by decide +kernel
theorem d_ST_needUnit_27 : decode b_ST_needUnit 27 = .ok (.return_, 1) := by decide +kernel
theorem d_ST_needVariant_0 : decode b_ST_needVariant 0 = .ok (.aload_n 0, 1) := by decide +kernel
theorem d_ST_needVariant_1 : decode b_ST_needVariant 1 = .ok (.getfield 46, 3) := by decide +kernel
theorem d_ST_needVariant_4 : decode b_ST_needVariant 4 = .ok (.iload_n 1, 1) := by decide +kernel
theorem d_ST_needVariant_5 : decode b_ST_needVariant 5 = .ok (.invokevirtual 280, 3) := by decide +kernel
theorem d_ST_needVariant_8 : decode b_ST_needVariant 8 = .ok (.ifCond .ne 14, 3) := by decide +kernel
theorem d_ST_needVariant_11 : decode b_ST_needVariant 11 = .ok (.new 216, 3) := by decide +kernel
theorem d_ST_needVariant_14 : decode b_ST_needVariant 14 = .ok (.dup, 1) := by decide +kernel
theorem d_ST_needVariant_15 : decode b_ST_needVariant 15 = .ok (.ldc_w 283, 3) := by decide +kernel
theorem d_ST_needVariant_18 : decode b_ST_needVariant 18 = .ok (.invokespecial 220, 3) := by decide +kernel
theorem d_ST_needVariant_21 : decode b_ST_needVariant 21 = .ok (.athrow, 1) := by decide +kernel
theorem d_ST_needVariant_22 : decode b_ST_needVariant 22 = .ok (.return_, 1) := by decide +kernel
theorem d_ST_needVariantOrNone_0 : decode b_ST_needVariantOrNone 0 = .ok (.iload_n 1, 1) := by decide +kernel
theorem d_ST_needVariantOrNone_1 : decode b_ST_needVariantOrNone 1 = .ok (.iconst (-1), 1) := by decide +kernel
theorem d_ST_needVariantOrNone_2 : decode b_ST_needVariantOrNone 2 = .ok (.if_icmp .eq 8, 3) := by decide +kernel
theorem d_ST_needVariantOrNone_5 : decode b_ST_needVariantOrNone 5 = .ok (.aload_n 0, 1) := by decide +kernel
theorem d_ST_needVariantOrNone_6 : decode b_ST_needVariantOrNone 6 = .ok (.iload_n 1, 1) := by decide +kernel
theorem d_ST_needVariantOrNone_7 : decode b_ST_needVariantOrNone 7 = .ok (.invokevirtual 243, 3) := by decide +kernel
theorem d_ST_needVariantOrNone_10 : decode b_ST_needVariantOrNone 10 = .ok (.return_, 1) := by decide +kernel
theorem d_ST_needPage_0 : decode b_ST_needPage 0 = .ok (.iload_n 1, 1) := by decide +kernel
theorem d_ST_needPage_1 : decode b_ST_needPage 1 = .ok (.ifCond .lt 14, 3) := by decide +kernel
theorem d_ST_needPage_4 : decode b_ST_needPage 4 = .ok (.iload_n 1, 1) := by decide +kernel
theorem d_ST_needPage_5 : decode b_ST_needPage 5 = .ok (.aload_n 0, 1) := by decide +kernel
theorem d_ST_needPage_6 : decode b_ST_needPage 6 = .ok (.getfield 30, 3) := by decide +kernel
theorem d_ST_needPage_9 : decode b_ST_needPage 9 = .ok (.invokevirtual 200, 3) := by decide +kernel
theorem d_ST_needPage_12 : decode b_ST_needPage 12 = .ok (.if_icmp .lt 14, 3) := by decide +kernel
theorem d_ST_needPage_15 : decode b_ST_needPage 15 = .ok (.new 216, 3) := by decide +kernel
theorem d_ST_needPage_18 : decode b_ST_needPage 18 = .ok (.dup, 1) := by decide +kernel
theorem d_ST_needPage_19 : decode b_ST_needPage 19 = .ok (.ldc_w 285, 3) := by decide +kernel
theorem d_ST_needPage_22 : decode b_ST_needPage 22 = .ok (.invokespecial 220, 3) := by decide +kernel
theorem d_ST_needPage_25 : decode b_ST_needPage 25 = .ok (.athrow, 1) := by decide +kernel
theorem d_ST_needPage_26 : decode b_ST_needPage 26 = .ok (.return_, 1) := by decide +kernel
theorem d_ST_holdsName_0 : decode b_ST_holdsName 0 = .ok (.iload_n 0, 1) := by decide +kernel
theorem d_ST_holdsName_1 : decode b_ST_holdsName 1 = .ok (.iconst 1, 1) := by decide +kernel
theorem d_ST_holdsName_2 : decode b_ST_holdsName 2 = .ok (.iload_n 1, 1) := by decide +kernel
theorem d_ST_holdsName_3 : decode b_ST_holdsName 3 = .ok (.ishl, 1) := by decide +kernel
theorem d_ST_holdsName_4 : decode b_ST_holdsName 4 = .ok (.iand, 1) := by decide +kernel
theorem d_ST_holdsName_5 : decode b_ST_holdsName 5 = .ok (.ifCond .eq 7, 3) := by decide +kernel
theorem d_ST_holdsName_8 : decode b_ST_holdsName 8 = .ok (.iconst 1, 1) := by decide +kernel
theorem d_ST_holdsName_9 : decode b_ST_holdsName 9 = .ok (.goto 4, 3) := by decide +kernel
theorem d_ST_holdsName_12 : decode b_ST_holdsName 12 = .ok (.iconst 0, 1) := by decide +kernel
theorem d_ST_holdsName_13 : decode b_ST_holdsName 13 = .ok (.ireturn, 1) := by decide +kernel
theorem d_ST_read_0 : decode b_ST_read 0 = .ok (.iload_n 1, 1) := by decide +kernel
theorem d_ST_read_1 : decode b_ST_read 1 = .ok (.ifCond .lt 15, 3) := by decide +kernel
theorem d_ST_read_4 : decode b_ST_read 4 = .ok (.iload_n 1, 1) := by decide +kernel
theorem d_ST_read_5 : decode b_ST_read 5 = .ok (.aload_n 0, 1) := by decide +kernel
theorem d_ST_read_6 : decode b_ST_read 6 = .ok (.arraylength, 1) := by decide +kernel
theorem d_ST_read_7 : decode b_ST_read 7 = .ok (.if_icmp .ge 9, 3) := by decide +kernel
theorem d_ST_read_10 : decode b_ST_read 10 = .ok (.aload_n 0, 1) := by decide +kernel
theorem d_ST_read_11 : decode b_ST_read 11 = .ok (.iload_n 1, 1) := by decide +kernel
theorem d_ST_read_12 : decode b_ST_read 12 = .ok (.iaload, 1) := by decide +kernel
theorem d_ST_read_13 : decode b_ST_read 13 = .ok (.goto 4, 3) := by decide +kernel
theorem d_ST_read_16 : decode b_ST_read 16 = .ok (.iconst (-1), 1) := by decide +kernel
theorem d_ST_read_17 : decode b_ST_read 17 = .ok (.ireturn, 1) := by decide +kernel
theorem d_ST_write_0 : decode b_ST_write 0 = .ok (.iload_n 1, 1) := by decide +kernel
theorem d_ST_write_1 : decode b_ST_write 1 = .ok (.ifCond .lt 13, 3) := by decide +kernel
theorem d_ST_write_4 : decode b_ST_write 4 = .ok (.iload_n 1, 1) := by decide +kernel
theorem d_ST_write_5 : decode b_ST_write 5 = .ok (.aload_n 0, 1) := by decide +kernel
theorem d_ST_write_6 : decode b_ST_write 6 = .ok (.arraylength, 1) := by decide +kernel
theorem d_ST_write_7 : decode b_ST_write 7 = .ok (.if_icmp .ge 7, 3) := by decide +kernel
theorem d_ST_write_10 : decode b_ST_write 10 = .ok (.aload_n 0, 1) := by decide +kernel
theorem d_ST_write_11 : decode b_ST_write 11 = .ok (.iload_n 1, 1) := by decide +kernel
theorem d_ST_write_12 : decode b_ST_write 12 = .ok (.iload_n 2, 1) := by decide +kernel
theorem d_ST_write_13 : decode b_ST_write 13 = .ok (.iastore, 1) := by decide +kernel
theorem d_ST_write_14 : decode b_ST_write 14 = .ok (.return_, 1) := by decide +kernel
theorem d_Book_init_0 : decode b_Book_init 0 = .ok (.aload_n 0, 1) := by decide +kernel
theorem d_Book_init_1 : decode b_Book_init 1 = .ok (.invokespecial 3, 3) := by decide +kernel
theorem d_Book_init_4 : decode b_Book_init 4 = .ok (.aload_n 0, 1) := by decide +kernel
theorem d_Book_init_5 : decode b_Book_init 5 = .ok (.sipush 301, 3) := by decide +kernel
theorem d_Book_init_8 : decode b_Book_init 8 = .ok (.newarray .int, 2) := by decide +kernel
theorem d_Book_init_10 : decode b_Book_init 10 = .ok (.putfield 9, 3) := by decide +kernel
theorem d_Book_init_13 : decode b_Book_init 13 = .ok (.aload_n 0, 1) := by decide +kernel
theorem d_Book_init_14 : decode b_Book_init 14 = .ok (.sipush 301, 3) := by decide +kernel
theorem d_Book_init_17 : decode b_Book_init 17 = .ok (.newarray .int, 2) := by decide +kernel
theorem d_Book_init_19 : decode b_Book_init 19 = .ok (.putfield 15, 3) := by decide +kernel
theorem d_Book_init_22 : decode b_Book_init 22 = .ok (.aload_n 0, 1) := by decide +kernel
theorem d_Book_init_23 : decode b_Book_init 23 = .ok (.sipush 301, 3) := by decide +kernel
theorem d_Book_init_26 : decode b_Book_init 26 = .ok (.newarray .int, 2) := by decide +kernel
theorem d_Book_init_28 : decode b_Book_init 28 = .ok (.putfield 18, 3) := by decide +kernel
theorem d_Book_init_31 : decode b_Book_init 31 = .ok (.aload_n 0, 1) := by decide +kernel
theorem d_Book_init_32 : decode b_Book_init 32 = .ok (.sipush 301, 3) := by decide +kernel
theorem d_Book_init_35 : decode b_Book_init 35 = .ok (.newarray .int, 2) := by decide +kernel
theorem d_Book_init_37 : decode b_Book_init 37 = .ok (.putfield 21, 3) := by decide +kernel
theorem d_Book_init_40 : decode b_Book_init 40 = .ok (.aload_n 0, 1) := by decide +kernel
theorem d_Book_init_41 : decode b_Book_init 41 = .ok (.sipush 301, 3) := by decide +kernel
theorem d_Book_init_44 : decode b_Book_init 44 = .ok (.newarray .int, 2) := by decide +kernel
theorem d_Book_init_46 : decode b_Book_init 46 = .ok (.putfield 24, 3) := by decide +kernel
theorem d_Book_init_49 : decode b_Book_init 49 = .ok (.aload_n 0, 1) := by decide +kernel
theorem d_Book_init_50 : decode b_Book_init 50 = .ok (.bipush 24, 2) := by decide +kernel
theorem d_Book_init_52 : decode b_Book_init 52 = .ok (.newarray .int, 2) := by decide +kernel
theorem d_Book_init_54 : decode b_Book_init 54 = .ok (.putfield 27, 3) := by decide +kernel
theorem d_Book_init_57 : decode b_Book_init 57 = .ok (.aload_n 0, 1) := by decide +kernel
theorem d_Book_init_58 : decode b_Book_init 58 = .ok (.aload_n 1, 1) := by decide +kernel
theorem d_Book_init_59 : decode b_Book_init 59 = .ok (.putfield 30, 3) := by decide +kernel
theorem d_Book_init_62 : decode b_Book_init 62 = .ok (.return_, 1) := by decide +kernel
theorem d_Book_lay_0 : decode b_Book_lay 0 = .ok (.aload_n 0, 1) := by decide +kernel
theorem d_Book_lay_1 : decode b_Book_lay 1 = .ok (.getfield 27, 3) := by decide +kernel
theorem d_Book_lay_4 : decode b_Book_lay 4 = .ok (.iconst 0, 1) := by decide +kernel
theorem d_Book_lay_5 : decode b_Book_lay 5 = .ok (.invokestatic 34, 3) := by decide +kernel
theorem d_Book_lay_8 : decode b_Book_lay 8 = .ok (.aload_n 0, 1) := by decide +kernel
theorem d_Book_lay_9 : decode b_Book_lay 9 = .ok (.iconst 0, 1) := by decide +kernel
theorem d_Book_lay_10 : decode b_Book_lay 10 = .ok (.putfield 40, 3) := by decide +kernel
theorem d_Book_lay_13 : decode b_Book_lay 13 = .ok (.aload_n 0, 1) := by decide +kernel
theorem d_Book_lay_14 : decode b_Book_lay 14 = .ok (.iconst 0, 1) := by decide +kernel
theorem d_Book_lay_15 : decode b_Book_lay 15 = .ok (.iconst (-1), 1) := by decide +kernel
theorem d_Book_lay_16 : decode b_Book_lay 16 = .ok (.iconst (-1), 1) := by decide +kernel
theorem d_Book_lay_17 : decode b_Book_lay 17 = .ok (.iconst 0, 1) := by decide +kernel
theorem d_Book_lay_18 : decode b_Book_lay 18 = .ok (.invokevirtual 44, 3) := by decide +kernel
theorem d_Book_lay_21 : decode b_Book_lay 21 = .ok (.pop, 1) := by decide +kernel
theorem d_Book_lay_22 : decode b_Book_lay 22 = .ok (.iconst 0, 1) := by decide +kernel
theorem d_Book_lay_23 : decode b_Book_lay 23 = .ok (.istore_n 1, 1) := by decide +kernel
theorem d_Book_lay_24 : decode b_Book_lay 24 = .ok (.iconst 0, 1) := by decide +kernel
theorem d_Book_lay_25 : decode b_Book_lay 25 = .ok (.istore_n 2, 1) := by decide +kernel
theorem d_Book_lay_26 : decode b_Book_lay 26 = .ok (.iload_n 2, 1) := by decide +kernel
theorem d_Book_lay_27 : decode b_Book_lay 27 = .ok (.sipush 300, 3) := by decide +kernel
theorem d_Book_lay_30 : decode b_Book_lay 30 = .ok (.if_icmp .ge 94, 3) := by decide +kernel
theorem d_Book_lay_33 : decode b_Book_lay 33 = .ok (.aload_n 0, 1) := by decide +kernel
theorem d_Book_lay_34 : decode b_Book_lay 34 = .ok (.getfield 30, 3) := by decide +kernel
theorem d_Book_lay_37 : decode b_Book_lay 37 = .ok (.aload_n 0, 1) := by decide +kernel
theorem d_Book_lay_38 : decode b_Book_lay 38 = .ok (.iload_n 1, 1) := by decide +kernel
theorem d_Book_lay_39 : decode b_Book_lay 39 = .ok (.invokevirtual 48, 3) := by decide +kernel
theorem d_Book_lay_42 : decode b_Book_lay 42 = .ok (.invokevirtual 52, 3) := by decide +kernel
theorem d_Book_lay_45 : decode b_Book_lay 45 = .ok (.istore_n 3, 1) := by decide +kernel
theorem d_Book_lay_46 : decode b_Book_lay 46 = .ok (.iconst 0, 1) := by decide +kernel
theorem d_Book_lay_47 : decode b_Book_lay 47 = .ok (.istore 4, 2) := by decide +kernel
theorem d_Book_lay_49 : decode b_Book_lay 49 = .ok (.iload 4, 2) := by decide +kernel
theorem d_Book_lay_51 : decode b_Book_lay 51 = .ok (.bipush 24, 2) := by decide +kernel
theorem d_Book_lay_53 : decode b_Book_lay 53 = .ok (.if_icmp .ge 37, 3) := by decide +kernel
theorem d_Book_lay_56 : decode b_Book_lay 56 = .ok (.iload_n 3, 1) := by decide +kernel
theorem d_Book_lay_57 : decode b_Book_lay 57 = .ok (.iconst (-1), 1) := by decide +kernel
theorem d_Book_lay_58 : decode b_Book_lay 58 = .ok (.if_icmp .ne 32, 3) := by decide +kernel
theorem d_Book_lay_61 : decode b_Book_lay 61 = .ok (.iload_n 1, 1) := by decide +kernel
theorem d_Book_lay_62 : decode b_Book_lay 62 = .ok (.ifCond .le 28, 3) := by decide +kernel
theorem d_Book_lay_65 : decode b_Book_lay 65 = .ok (.aload_n 0, 1) := by decide +kernel
theorem d_Book_lay_66 : decode b_Book_lay 66 = .ok (.getfield 30, 3) := by decide +kernel
theorem d_Book_lay_69 : decode b_Book_lay 69 = .ok (.aload_n 0, 1) := by decide +kernel
theorem d_Book_lay_70 : decode b_Book_lay 70 = .ok (.iload_n 1, 1) := by decide +kernel
theorem d_Book_lay_71 : decode b_Book_lay 71 = .ok (.invokevirtual 57, 3) := by decide +kernel
theorem d_Book_lay_74 : decode b_Book_lay 74 = .ok (.invokevirtual 60, 3) := by decide +kernel
theorem d_Book_lay_77 : decode b_Book_lay 77 = .ok (.istore_n 3, 1) := by decide +kernel
theorem d_Book_lay_78 : decode b_Book_lay 78 = .ok (.aload_n 0, 1) := by decide +kernel
theorem d_Book_lay_79 : decode b_Book_lay 79 = .ok (.iload_n 1, 1) := by decide +kernel
theorem d_Book_lay_80 : decode b_Book_lay 80 = .ok (.invokevirtual 63, 3) := by decide +kernel
theorem d_Book_lay_83 : decode b_Book_lay 83 = .ok (.istore_n 1, 1) := by decide +kernel
theorem d_Book_lay_84 : decode b_Book_lay 84 = .ok (.iinc 4 1, 3) := by decide +kernel
theorem d_Book_lay_87 : decode b_Book_lay 87 = .ok (.goto (-38), 3) := by decide +kernel
theorem d_Book_lay_90 : decode b_Book_lay 90 = .ok (.iload_n 3, 1) := by decide +kernel
theorem d_Book_lay_91 : decode b_Book_lay 91 = .ok (.iconst (-1), 1) := by decide +kernel
theorem d_Book_lay_92 : decode b_Book_lay 92 = .ok (.if_icmp .ne 4, 3) := by decide +kernel
theorem d_Book_lay_95 : decode b_Book_lay 95 = .ok (.return_, 1) := by decide +kernel
theorem d_Book_lay_96 : decode b_Book_lay 96 = .ok (.aload_n 0, 1) := by decide +kernel
theorem d_Book_lay_97 : decode b_Book_lay 97 = .ok (.aload_n 0, 1) := by decide +kernel
theorem d_Book_lay_98 : decode b_Book_lay 98 = .ok (.getfield 30, 3) := by decide +kernel
theorem d_Book_lay_101 : decode b_Book_lay 101 = .ok (.iload_n 3, 1) := by decide +kernel
theorem d_Book_lay_102 : decode b_Book_lay 102 = .ok (.invokevirtual 66, 3) := by decide +kernel
theorem d_Book_lay_105 : decode b_Book_lay 105 = .ok (.iload_n 3, 1) := by decide +kernel
theorem d_Book_lay_106 : decode b_Book_lay 106 = .ok (.iload_n 1, 1) := by decide +kernel
theorem d_Book_lay_107 : decode b_Book_lay 107 = .ok (.aload_n 0, 1) := by decide +kernel
theorem d_Book_lay_108 : decode b_Book_lay 108 = .ok (.iload_n 1, 1) := by decide +kernel
theorem d_Book_lay_109 : decode b_Book_lay 109 = .ok (.invokevirtual 69, 3) := by decide +kernel
theorem d_Book_lay_112 : decode b_Book_lay 112 = .ok (.iconst 1, 1) := by decide +kernel
theorem d_Book_lay_113 : decode b_Book_lay 113 = .ok (.iadd, 1) := by decide +kernel
theorem d_Book_lay_114 : decode b_Book_lay 114 = .ok (.invokevirtual 44, 3) := by decide +kernel
theorem d_Book_lay_117 : decode b_Book_lay 117 = .ok (.istore_n 1, 1) := by decide +kernel
theorem d_Book_lay_118 : decode b_Book_lay 118 = .ok (.iinc 2 1, 3) := by decide +kernel
theorem d_Book_lay_121 : decode b_Book_lay 121 = .ok (.goto (-95), 3) := by decide +kernel
theorem d_Book_lay_124 : decode b_Book_lay 124 = .ok (.return_, 1) := by decide +kernel
theorem d_Book_addPage_0 : decode b_Book_addPage 0 = .ok (.aload_n 0, 1) := by decide +kernel
theorem d_Book_addPage_1 : decode b_Book_addPage 1 = .ok (.getfield 40, 3) := by decide +kernel
theorem d_Book_addPage_4 : decode b_Book_addPage 4 = .ok (.istore 5, 2) := by decide +kernel
theorem d_Book_addPage_6 : decode b_Book_addPage 6 = .ok (.aload_n 0, 1) := by decide +kernel
theorem d_Book_addPage_7 : decode b_Book_addPage 7 = .ok (.getfield 9, 3) := by decide +kernel
theorem d_Book_addPage_10 : decode b_Book_addPage 10 = .ok (.iload 5, 2) := by decide +kernel
theorem d_Book_addPage_12 : decode b_Book_addPage 12 = .ok (.iload_n 1, 1) := by decide +kernel
theorem d_Book_addPage_13 : decode b_Book_addPage 13 = .ok (.invokestatic 72, 3) := by decide +kernel
theorem d_Book_addPage_16 : decode b_Book_addPage 16 = .ok (.aload_n 0, 1) := by decide +kernel
theorem d_Book_addPage_17 : decode b_Book_addPage 17 = .ok (.getfield 15, 3) := by decide +kernel
theorem d_Book_addPage_20 : decode b_Book_addPage 20 = .ok (.iload 5, 2) := by decide +kernel
theorem d_Book_addPage_22 : decode b_Book_addPage 22 = .ok (.iload_n 2, 1) := by decide +kernel
theorem d_Book_addPage_23 : decode b_Book_addPage 23 = .ok (.invokestatic 72, 3) := by decide +kernel
theorem d_Book_addPage_26 : decode b_Book_addPage 26 = .ok (.aload_n 0, 1) := by decide +kernel
theorem d_Book_addPage_27 : decode b_Book_addPage 27 = .ok (.getfield 18, 3) := by decide +kernel
theorem d_Book_addPage_30 : decode b_Book_addPage 30 = .ok (.iload 5, 2) := by decide +kernel
theorem d_Book_addPage_32 : decode b_Book_addPage 32 = .ok (.iload_n 3, 1) := by decide +kernel
theorem d_Book_addPage_33 : decode b_Book_addPage 33 = .ok (.invokestatic 72, 3) := by decide +kernel
theorem d_Book_addPage_36 : decode b_Book_addPage 36 = .ok (.aload_n 0, 1) := by decide +kernel
theorem d_Book_addPage_37 : decode b_Book_addPage 37 = .ok (.getfield 21, 3) := by decide +kernel
theorem d_Book_addPage_40 : decode b_Book_addPage 40 = .ok (.iload 5, 2) := by decide +kernel
theorem d_Book_addPage_42 : decode b_Book_addPage 42 = .ok (.iload 4, 2) := by decide +kernel
theorem d_Book_addPage_44 : decode b_Book_addPage 44 = .ok (.invokestatic 72, 3) := by decide +kernel
theorem d_Book_addPage_47 : decode b_Book_addPage 47 = .ok (.aload_n 0, 1) := by decide +kernel
theorem d_Book_addPage_48 : decode b_Book_addPage 48 = .ok (.getfield 24, 3) := by decide +kernel
theorem d_Book_addPage_51 : decode b_Book_addPage 51 = .ok (.iload 5, 2) := by decide +kernel
theorem d_Book_addPage_53 : decode b_Book_addPage 53 = .ok (.aload_n 0, 1) := by decide +kernel
theorem d_Book_addPage_54 : decode b_Book_addPage 54 = .ok (.iload_n 1, 1) := by decide +kernel
theorem d_Book_addPage_55 : decode b_Book_addPage 55 = .ok (.invokevirtual 76, 3) := by decide +kernel
theorem d_Book_addPage_58 : decode b_Book_addPage 58 = .ok (.invokestatic 72, 3) := by decide +kernel
theorem d_Book_addPage_61 : decode b_Book_addPage 61 = .ok (.aload_n 0, 1) := by decide +kernel
theorem d_Book_addPage_62 : decode b_Book_addPage 62 = .ok (.getfield 27, 3) := by decide +kernel
theorem d_Book_addPage_65 : decode b_Book_addPage 65 = .ok (.iload_n 1, 1) := by decide +kernel
theorem d_Book_addPage_66 : decode b_Book_addPage 66 = .ok (.aload_n 0, 1) := by decide +kernel
theorem d_Book_addPage_67 : decode b_Book_addPage 67 = .ok (.iload_n 1, 1) := by decide +kernel
theorem d_Book_addPage_68 : decode b_Book_addPage 68 = .ok (.invokevirtual 76, 3) := by decide +kernel
theorem d_Book_addPage_71 : decode b_Book_addPage 71 = .ok (.iconst 1, 1) := by decide +kernel
theorem d_Book_addPage_72 : decode b_Book_addPage 72 = .ok (.iadd, 1) := by decide +kernel
theorem d_Book_addPage_73 : decode b_Book_addPage 73 = .ok (.invokestatic 72, 3) := by decide +kernel
theorem d_Book_addPage_76 : decode b_Book_addPage 76 = .ok (.aload_n 0, 1) := by decide +kernel
theorem d_Book_addPage_77 : decode b_Book_addPage 77 = .ok (.dup, 1) := by decide +kernel
theorem d_Book_addPage_78 : decode b_Book_addPage 78 = .ok (.getfield 40, 3) := by decide +kernel
theorem d_Book_addPage_81 : decode b_Book_addPage 81 = .ok (.iconst 1, 1) := by decide +kernel
theorem d_Book_addPage_82 : decode b_Book_addPage 82 = .ok (.iadd, 1) := by decide +kernel
theorem d_Book_addPage_83 : decode b_Book_addPage 83 = .ok (.putfield 40, 3) := by decide +kernel
theorem d_Book_addPage_86 : decode b_Book_addPage 86 = .ok (.iload 5, 2) := by decide +kernel
theorem d_Book_addPage_88 : decode b_Book_addPage 88 = .ok (.ireturn, 1) := by decide +kernel
theorem d_Book_isWithinLimit_0 : decode b_Book_isWithinLimit 0 = .ok (.aload_n 0, 1) := by decide +kernel
theorem d_Book_isWithinLimit_1 : decode b_Book_isWithinLimit 1 = .ok (.getfield 40, 3) := by decide +kernel
theorem d_Book_isWithinLimit_4 : decode b_Book_isWithinLimit 4 = .ok (.sipush 300, 3) := by decide +kernel
theorem d_Book_isWithinLimit_7 : decode b_Book_isWithinLimit 7 = .ok (.if_icmp .gt 7, 3) := by decide +kernel
theorem d_Book_isWithinLimit_10 : decode b_Book_isWithinLimit 10 = .ok (.iconst 1, 1) := by decide +kernel
theorem d_Book_isWithinLimit_11 : decode b_Book_isWithinLimit 11 = .ok (.goto 4, 3) := by decide +kernel
theorem d_Book_isWithinLimit_14 : decode b_Book_isWithinLimit 14 = .ok (.iconst 0, 1) := by decide +kernel
theorem d_Book_isWithinLimit_15 : decode b_Book_isWithinLimit 15 = .ok (.ireturn, 1) := by decide +kernel
theorem d_Book_count_0 : decode b_Book_count 0 = .ok (.aload_n 0, 1) := by decide +kernel
theorem d_Book_count_1 : decode b_Book_count 1 = .ok (.getfield 40, 3) := by decide +kernel
theorem d_Book_count_4 : decode b_Book_count 4 = .ok (.ireturn, 1) := by decide +kernel
theorem d_Book_sheetAt_0 : decode b_Book_sheetAt 0 = .ok (.aload_n 0, 1) := by decide +kernel
theorem d_Book_sheetAt_1 : decode b_Book_sheetAt 1 = .ok (.getfield 9, 3) := by decide +kernel
theorem d_Book_sheetAt_4 : decode b_Book_sheetAt 4 = .ok (.iload_n 1, 1) := by decide +kernel
theorem d_Book_sheetAt_5 : decode b_Book_sheetAt 5 = .ok (.invokestatic 79, 3) := by decide +kernel
theorem d_Book_sheetAt_8 : decode b_Book_sheetAt 8 = .ok (.ireturn, 1) := by decide +kernel
theorem d_Book_placementAt_0 : decode b_Book_placementAt 0 = .ok (.aload_n 0, 1) := by decide +kernel
theorem d_Book_placementAt_1 : decode b_Book_placementAt 1 = .ok (.getfield 15, 3) := by decide +kernel
theorem d_Book_placementAt_4 : decode b_Book_placementAt 4 = .ok (.iload_n 1, 1) := by decide +kernel
theorem d_Book_placementAt_5 : decode b_Book_placementAt 5 = .ok (.invokestatic 79, 3) := by decide +kernel
theorem d_Book_placementAt_8 : decode b_Book_placementAt 8 = .ok (.ireturn, 1) := by decide +kernel
theorem d_Book_pageAbove_0 : decode b_Book_pageAbove 0 = .ok (.aload_n 0, 1) := by decide +kernel
theorem d_Book_pageAbove_1 : decode b_Book_pageAbove 1 = .ok (.getfield 18, 3) := by decide +kernel
theorem d_Book_pageAbove_4 : decode b_Book_pageAbove 4 = .ok (.iload_n 1, 1) := by decide +kernel
theorem d_Book_pageAbove_5 : decode b_Book_pageAbove 5 = .ok (.invokestatic 79, 3) := by decide +kernel
theorem d_Book_pageAbove_8 : decode b_Book_pageAbove 8 = .ok (.ireturn, 1) := by decide +kernel
theorem d_Book_depthAt_0 : decode b_Book_depthAt 0 = .ok (.aload_n 0, 1) := by decide +kernel
theorem d_Book_depthAt_1 : decode b_Book_depthAt 1 = .ok (.getfield 21, 3) := by decide +kernel
theorem d_Book_depthAt_4 : decode b_Book_depthAt 4 = .ok (.iload_n 1, 1) := by decide +kernel
theorem d_Book_depthAt_5 : decode b_Book_depthAt 5 = .ok (.invokestatic 79, 3) := by decide +kernel
theorem d_Book_depthAt_8 : decode b_Book_depthAt 8 = .ok (.ireturn, 1) := by decide +kernel
theorem d_Book_comingAt_0 : decode b_Book_comingAt 0 = .ok (.aload_n 0, 1) := by decide +kernel
theorem d_Book_comingAt_1 : decode b_Book_comingAt 1 = .ok (.getfield 24, 3) := by decide +kernel
theorem d_Book_comingAt_4 : decode b_Book_comingAt 4 = .ok (.iload_n 1, 1) := by decide +kernel
theorem d_Book_comingAt_5 : decode b_Book_comingAt 5 = .ok (.invokestatic 79, 3) := by decide +kernel
theorem d_Book_comingAt_8 : decode b_Book_comingAt 8 = .ok (.ireturn, 1) := by decide +kernel
theorem d_Book_comingsOf_0 : decode b_Book_comingsOf 0 = .ok (.aload_n 0, 1) := by decide +kernel
theorem d_Book_comingsOf_1 : decode b_Book_comingsOf 1 = .ok (.getfield 27, 3) := by decide +kernel
theorem d_Book_comingsOf_4 : decode b_Book_comingsOf 4 = .ok (.iload_n 1, 1) := by decide +kernel
theorem d_Book_comingsOf_5 : decode b_Book_comingsOf 5 = .ok (.invokestatic 79, 3) := by decide +kernel
theorem d_Book_comingsOf_8 : decode b_Book_comingsOf 8 = .ok (.iconst 0, 1) := by decide +kernel
theorem d_Book_comingsOf_9 : decode b_Book_comingsOf 9 = .ok (.invokestatic 83, 3) := by decide +kernel
theorem d_Book_comingsOf_12 : decode b_Book_comingsOf 12 = .ok (.ireturn, 1) := by decide +kernel
theorem d_Book_pageOfComing_0 : decode b_Book_pageOfComing 0 = .ok (.iconst 0, 1) := by decide +kernel
theorem d_Book_pageOfComing_1 : decode b_Book_pageOfComing 1 = .ok (.istore_n 3, 1) := by decide +kernel
theorem d_Book_pageOfComing_2 : decode b_Book_pageOfComing 2 = .ok (.iload_n 3, 1) := by decide +kernel
theorem d_Book_pageOfComing_3 : decode b_Book_pageOfComing 3 = .ok (.aload_n 0, 1) := by decide +kernel
theorem d_Book_pageOfComing_4 : decode b_Book_pageOfComing 4 = .ok (.getfield 40, 3) := by decide +kernel
theorem d_Book_pageOfComing_7 : decode b_Book_pageOfComing 7 = .ok (.if_icmp .ge 29, 3) := by decide +kernel
theorem d_Book_pageOfComing_10 : decode b_Book_pageOfComing 10 = .ok (.aload_n 0, 1) := by decide +kernel
theorem d_Book_pageOfComing_11 : decode b_Book_pageOfComing 11 = .ok (.iload_n 3, 1) := by decide +kernel
theorem d_Book_pageOfComing_12 : decode b_Book_pageOfComing 12 = .ok (.invokevirtual 48, 3) := by decide +kernel
theorem d_Book_pageOfComing_15 : decode b_Book_pageOfComing 15 = .ok (.iload_n 1, 1) := by decide +kernel
theorem d_Book_pageOfComing_16 : decode b_Book_pageOfComing 16 = .ok (.if_icmp .ne 14, 3) := by decide +kernel
theorem d_Book_pageOfComing_19 : decode b_Book_pageOfComing 19 = .ok (.aload_n 0, 1) := by decide +kernel
theorem d_Book_pageOfComing_20 : decode b_Book_pageOfComing 20 = .ok (.iload_n 3, 1) := by decide +kernel
theorem d_Book_pageOfComing_21 : decode b_Book_pageOfComing 21 = .ok (.invokevirtual 89, 3) := by decide +kernel
theorem d_Book_pageOfComing_24 : decode b_Book_pageOfComing 24 = .ok (.iload_n 2, 1) := by decide +kernel
theorem d_Book_pageOfComing_25 : decode b_Book_pageOfComing 25 = .ok (.if_icmp .ne 5, 3) := by decide +kernel
theorem d_Book_pageOfComing_28 : decode b_Book_pageOfComing 28 = .ok (.iload_n 3, 1) := by decide +kernel
theorem d_Book_pageOfComing_29 : decode b_Book_pageOfComing 29 = .ok (.ireturn, 1) := by decide +kernel
theorem d_Book_pageOfComing_30 : decode b_Book_pageOfComing 30 = .ok (.iinc 3 1, 3) := by decide +kernel
theorem d_Book_pageOfComing_33 : decode b_Book_pageOfComing 33 = .ok (.goto (-31), 3) := by decide +kernel
theorem d_Book_pageOfComing_36 : decode b_Book_pageOfComing 36 = .ok (.iconst (-1), 1) := by decide +kernel
theorem d_Book_pageOfComing_37 : decode b_Book_pageOfComing 37 = .ok (.ireturn, 1) := by decide +kernel
theorem d_Change_init_0 : decode b_Change_init 0 = .ok (.aload_n 0, 1) := by decide +kernel
theorem d_Change_init_1 : decode b_Change_init 1 = .ok (.invokespecial 1, 3) := by decide +kernel
theorem d_Change_init_4 : decode b_Change_init 4 = .ok (.return_, 1) := by decide +kernel
theorem d_Change_fill_0 : decode b_Change_fill 0 = .ok (.aload_n 0, 1) := by decide +kernel
theorem d_Change_fill_1 : decode b_Change_fill 1 = .ok (.aload_n 1, 1) := by decide +kernel
theorem d_Change_fill_2 : decode b_Change_fill 2 = .ok (.putfield 7, 3) := by decide +kernel
theorem d_Change_fill_5 : decode b_Change_fill 5 = .ok (.aload_n 0, 1) := by decide +kernel
theorem d_Change_fill_6 : decode b_Change_fill 6 = .ok (.iload_n 2, 1) := by decide +kernel
theorem d_Change_fill_7 : decode b_Change_fill 7 = .ok (.putfield 13, 3) := by decide +kernel
theorem d_Change_fill_10 : decode b_Change_fill 10 = .ok (.aload_n 0, 1) := by decide +kernel
theorem d_Change_fill_11 : decode b_Change_fill 11 = .ok (.lload_n 3, 1) := by decide +kernel
theorem d_Change_fill_12 : decode b_Change_fill 12 = .ok (.putfield 17, 3) := by decide +kernel
theorem d_Change_fill_15 : decode b_Change_fill 15 = .ok (.aload_n 0, 1) := by decide +kernel
theorem d_Change_fill_16 : decode b_Change_fill 16 = .ok (.aload 5, 2) := by decide +kernel
theorem d_Change_fill_18 : decode b_Change_fill 18 = .ok (.putfield 21, 3) := by decide +kernel
theorem d_Change_fill_21 : decode b_Change_fill 21 = .ok (.return_, 1) := by decide +kernel
theorem d_Change_takeBack_0 : decode b_Change_takeBack 0 = .ok (.aload_n 0, 1) := by decide +kernel
theorem d_Change_takeBack_1 : decode b_Change_takeBack 1 = .ok (.getfield 7, 3) := by decide +kernel
theorem d_Change_takeBack_4 : decode b_Change_takeBack 4 = .ok (.ifnull 18, 3) := by decide +kernel
theorem d_Change_takeBack_7 : decode b_Change_takeBack 7 = .ok (.aload_n 0, 1) := by decide +kernel
theorem d_Change_takeBack_8 : decode b_Change_takeBack 8 = .ok (.getfield 7, 3) := by decide +kernel
theorem d_Change_takeBack_11 : decode b_Change_takeBack 11 = .ok (.aload_n 0, 1) := by decide +kernel
theorem d_Change_takeBack_12 : decode b_Change_takeBack 12 = .ok (.getfield 13, 3) := by decide +kernel
theorem d_Change_takeBack_15 : decode b_Change_takeBack 15 = .ok (.aload_n 0, 1) := by decide +kernel
theorem d_Change_takeBack_16 : decode b_Change_takeBack 16 = .ok (.getfield 17, 3) := by decide +kernel
theorem d_Change_takeBack_19 : decode b_Change_takeBack 19 = .ok (.invokevirtual 25, 3) := by decide +kernel
theorem d_Change_takeBack_22 : decode b_Change_takeBack 22 = .ok (.return_, 1) := by decide +kernel
theorem d_Journal_init_0 : decode b_Journal_init 0 = .ok (.aload_n 0, 1) := by decide +kernel
theorem d_Journal_init_1 : decode b_Journal_init 1 = .ok (.invokespecial 3, 3) := by decide +kernel
theorem d_Journal_init_4 : decode b_Journal_init 4 = .ok (.aload_n 0, 1) := by decide +kernel
theorem d_Journal_init_5 : decode b_Journal_init 5 = .ok (.bipush 50, 2) := by decide +kernel
theorem d_Journal_init_7 : decode b_Journal_init 7 = .ok (.anewarray 9, 3) := by decide +kernel
theorem d_Journal_init_10 : decode b_Journal_init 10 = .ok (.putfield 11, 3) := by decide +kernel
theorem d_Journal_init_13 : decode b_Journal_init 13 = .ok (.return_, 1) := by decide +kernel
theorem d_Journal_note_0 : decode b_Journal_note 0 = .ok (.aload_n 0, 1) := by decide +kernel
theorem d_Journal_note_1 : decode b_Journal_note 1 = .ok (.getfield 17, 3) := by decide +kernel
theorem d_Journal_note_4 : decode b_Journal_note 4 = .ok (.astore 5, 2) := by decide +kernel
theorem d_Journal_note_6 : decode b_Journal_note 6 = .ok (.aload 5, 2) := by decide +kernel
theorem d_Journal_note_8 : decode b_Journal_note 8 = .ok (.ifnonnull 15, 3) := by decide +kernel
theorem d_Journal_note_11 : decode b_Journal_note 11 = .ok (.new 9, 3) := by decide +kernel
theorem d_Journal_note_14 : decode b_Journal_note 14 = .ok (.dup, 1) := by decide +kernel
theorem d_Journal_note_15 : decode b_Journal_note 15 = .ok (.invokespecial 21, 3) := by decide +kernel
theorem d_Journal_note_18 : decode b_Journal_note 18 = .ok (.astore 5, 2) := by decide +kernel
theorem d_Journal_note_20 : decode b_Journal_note 20 = .ok (.goto 12, 3) := by decide +kernel
theorem d_Journal_note_23 : decode b_Journal_note 23 = .ok (.aload_n 0, 1) := by decide +kernel
theorem d_Journal_note_24 : decode b_Journal_note 24 = .ok (.aload 5, 2) := by decide +kernel
theorem d_Journal_note_26 : decode b_Journal_note 26 = .ok (.getfield 22, 3) := by decide +kernel
theorem d_Journal_note_29 : decode b_Journal_note 29 = .ok (.putfield 17, 3) := by decide +kernel
theorem d_Journal_note_32 : decode b_Journal_note 32 = .ok (.aload 5, 2) := by decide +kernel
theorem d_Journal_note_34 : decode b_Journal_note 34 = .ok (.aload_n 1, 1) := by decide +kernel
theorem d_Journal_note_35 : decode b_Journal_note 35 = .ok (.iload_n 2, 1) := by decide +kernel
theorem d_Journal_note_36 : decode b_Journal_note 36 = .ok (.lload_n 3, 1) := by decide +kernel
theorem d_Journal_note_37 : decode b_Journal_note 37 = .ok (.aload_n 0, 1) := by decide +kernel
theorem d_Journal_note_38 : decode b_Journal_note 38 = .ok (.getfield 25, 3) := by decide +kernel
theorem d_Journal_note_41 : decode b_Journal_note 41 = .ok (.invokevirtual 28, 3) := by decide +kernel
theorem d_Journal_note_44 : decode b_Journal_note 44 = .ok (.aload_n 0, 1) := by decide +kernel
theorem d_Journal_note_45 : decode b_Journal_note 45 = .ok (.aload 5, 2) := by decide +kernel
theorem d_Journal_note_47 : decode b_Journal_note 47 = .ok (.putfield 25, 3) := by decide +kernel
theorem d_Journal_note_50 : decode b_Journal_note 50 = .ok (.return_, 1) := by decide +kernel
theorem d_Journal_keep_0 : decode b_Journal_keep 0 = .ok (.aload_n 0, 1) := by decide +kernel
theorem d_Journal_keep_1 : decode b_Journal_keep 1 = .ok (.aload_n 0, 1) := by decide +kernel
theorem d_Journal_keep_2 : decode b_Journal_keep 2 = .ok (.aload_n 0, 1) := by decide +kernel
theorem d_Journal_keep_3 : decode b_Journal_keep 3 = .ok (.getfield 32, 3) := by decide +kernel
theorem d_Journal_keep_6 : decode b_Journal_keep 6 = .ok (.invokevirtual 36, 3) := by decide +kernel
theorem d_Journal_keep_9 : decode b_Journal_keep 9 = .ok (.invokevirtual 40, 3) := by decide +kernel
theorem d_Journal_keep_12 : decode b_Journal_keep 12 = .ok (.aload_n 0, 1) := by decide +kernel
theorem d_Journal_keep_13 : decode b_Journal_keep 13 = .ok (.aload_n 0, 1) := by decide +kernel
theorem d_Journal_keep_14 : decode b_Journal_keep 14 = .ok (.getfield 32, 3) := by decide +kernel
theorem d_Journal_keep_17 : decode b_Journal_keep 17 = .ok (.aload_n 0, 1) := by decide +kernel
theorem d_Journal_keep_18 : decode b_Journal_keep 18 = .ok (.getfield 25, 3) := by decide +kernel
theorem d_Journal_keep_21 : decode b_Journal_keep 21 = .ok (.invokevirtual 44, 3) := by decide +kernel
theorem d_Journal_keep_24 : decode b_Journal_keep 24 = .ok (.aload_n 0, 1) := by decide +kernel
theorem d_Journal_keep_25 : decode b_Journal_keep 25 = .ok (.aconst_null, 1) := by decide +kernel
theorem d_Journal_keep_26 : decode b_Journal_keep 26 = .ok (.putfield 25, 3) := by decide +kernel
theorem d_Journal_keep_29 : decode b_Journal_keep 29 = .ok (.aload_n 0, 1) := by decide +kernel
theorem d_Journal_keep_30 : decode b_Journal_keep 30 = .ok (.aload_n 0, 1) := by decide +kernel
theorem d_Journal_keep_31 : decode b_Journal_keep 31 = .ok (.getfield 32, 3) := by decide +kernel
theorem d_Journal_keep_34 : decode b_Journal_keep 34 = .ok (.iconst 1, 1) := by decide +kernel
theorem d_Journal_keep_35 : decode b_Journal_keep 35 = .ok (.iadd, 1) := by decide +kernel
theorem d_Journal_keep_36 : decode b_Journal_keep 36 = .ok (.bipush 50, 2) := by decide +kernel
theorem d_Journal_keep_38 : decode b_Journal_keep 38 = .ok (.irem, 1) := by decide +kernel
theorem d_Journal_keep_39 : decode b_Journal_keep 39 = .ok (.putfield 32, 3) := by decide +kernel
theorem d_Journal_keep_42 : decode b_Journal_keep 42 = .ok (.aload_n 0, 1) := by decide +kernel
theorem d_Journal_keep_43 : decode b_Journal_keep 43 = .ok (.aload_n 0, 1) := by decide +kernel
theorem d_Journal_keep_44 : decode b_Journal_keep 44 = .ok (.getfield 48, 3) := by decide +kernel
theorem d_Journal_keep_47 : decode b_Journal_keep 47 = .ok (.iconst 1, 1) := by decide +kernel
theorem d_Journal_keep_48 : decode b_Journal_keep 48 = .ok (.iadd, 1) := by decide +kernel
theorem d_Journal_keep_49 : decode b_Journal_keep 49 = .ok (.bipush 50, 2) := by decide +kernel
theorem d_Journal_keep_51 : decode b_Journal_keep 51 = .ok (.invokestatic 51, 3) := by decide +kernel
theorem d_Journal_keep_54 : decode b_Journal_keep 54 = .ok (.putfield 48, 3) := by decide +kernel
theorem d_Journal_keep_57 : decode b_Journal_keep 57 = .ok (.return_, 1) := by decide +kernel
theorem d_Journal_takeBack_0 : decode b_Journal_takeBack 0 = .ok (.aload_n 0, 1) := by decide +kernel
theorem d_Journal_takeBack_1 : decode b_Journal_takeBack 1 = .ok (.getfield 25, 3) := by decide +kernel
theorem d_Journal_takeBack_4 : decode b_Journal_takeBack 4 = .ok (.astore_n 1, 1) := by decide +kernel
theorem d_Journal_takeBack_5 : decode b_Journal_takeBack 5 = .ok (.aload_n 1, 1) := by decide +kernel
theorem d_Journal_takeBack_6 : decode b_Journal_takeBack 6 = .ok (.ifnull 15, 3) := by decide +kernel
theorem d_Journal_takeBack_9 : decode b_Journal_takeBack 9 = .ok (.aload_n 1, 1) := by decide +kernel
theorem d_Journal_takeBack_10 : decode b_Journal_takeBack 10 = .ok (.invokevirtual 57, 3) := by decide +kernel
theorem d_Journal_takeBack_13 : decode b_Journal_takeBack 13 = .ok (.aload_n 1, 1) := by decide +kernel
theorem d_Journal_takeBack_14 : decode b_Journal_takeBack 14 = .ok (.getfield 22, 3) := by decide +kernel
theorem d_Journal_takeBack_17 : decode b_Journal_takeBack 17 = .ok (.astore_n 1, 1) := by decide +kernel
theorem d_Journal_takeBack_18 : decode b_Journal_takeBack 18 = .ok (.goto (-13), 3) := by decide +kernel
theorem d_Journal_takeBack_21 : decode b_Journal_takeBack 21 = .ok (.aload_n 0, 1) := by decide +kernel
theorem d_Journal_takeBack_22 : decode b_Journal_takeBack 22 = .ok (.aload_n 0, 1) := by decide +kernel
theorem d_Journal_takeBack_23 : decode b_Journal_takeBack 23 = .ok (.getfield 25, 3) := by decide +kernel
theorem d_Journal_takeBack_26 : decode b_Journal_takeBack 26 = .ok (.invokevirtual 40, 3) := by decide +kernel
theorem d_Journal_takeBack_29 : decode b_Journal_takeBack 29 = .ok (.aload_n 0, 1) := by decide +kernel
theorem d_Journal_takeBack_30 : decode b_Journal_takeBack 30 = .ok (.aconst_null, 1) := by decide +kernel
theorem d_Journal_takeBack_31 : decode b_Journal_takeBack 31 = .ok (.putfield 25, 3) := by decide +kernel
theorem d_Journal_takeBack_34 : decode b_Journal_takeBack 34 = .ok (.return_, 1) := by decide +kernel
theorem d_Journal_setFree_0 : decode b_Journal_setFree 0 = .ok (.aload_n 1, 1) := by decide +kernel
theorem d_Journal_setFree_1 : decode b_Journal_setFree 1 = .ok (.astore_n 2, 1) := by decide +kernel
theorem d_Journal_setFree_2 : decode b_Journal_setFree 2 = .ok (.aload_n 1, 1) := by decide +kernel
theorem d_Journal_setFree_3 : decode b_Journal_setFree 3 = .ok (.astore_n 3, 1) := by decide +kernel
theorem d_Journal_setFree_4 : decode b_Journal_setFree 4 = .ok (.aload_n 3, 1) := by decide +kernel
theorem d_Journal_setFree_5 : decode b_Journal_setFree 5 = .ok (.ifnull 13, 3) := by decide +kernel
theorem d_Journal_setFree_8 : decode b_Journal_setFree 8 = .ok (.aload_n 3, 1) := by decide +kernel
theorem d_Journal_setFree_9 : decode b_Journal_setFree 9 = .ok (.astore_n 2, 1) := by decide +kernel
theorem d_Journal_setFree_10 : decode b_Journal_setFree 10 = .ok (.aload_n 3, 1) := by decide +kernel
theorem d_Journal_setFree_11 : decode b_Journal_setFree 11 = .ok (.getfield 22, 3) := by decide +kernel
theorem d_Journal_setFree_14 : decode b_Journal_setFree 14 = .ok (.astore_n 3, 1) := by decide +kernel
theorem d_Journal_setFree_15 : decode b_Journal_setFree 15 = .ok (.goto (-11), 3) := by decide +kernel
theorem d_Journal_setFree_18 : decode b_Journal_setFree 18 = .ok (.aload_n 2, 1) := by decide +kernel
theorem d_Journal_setFree_19 : decode b_Journal_setFree 19 = .ok (.ifnull 16, 3) := by decide +kernel
theorem d_Journal_setFree_22 : decode b_Journal_setFree 22 = .ok (.aload_n 2, 1) := by decide +kernel
theorem d_Journal_setFree_23 : decode b_Journal_setFree 23 = .ok (.aload_n 0, 1) := by decide +kernel
theorem d_Journal_setFree_24 : decode b_Journal_setFree 24 = .ok (.getfield 17, 3) := by decide +kernel
theorem d_Journal_setFree_27 : decode b_Journal_setFree 27 = .ok (.putfield 22, 3) := by decide +kernel
theorem d_Journal_setFree_30 : decode b_Journal_setFree 30 = .ok (.aload_n 0, 1) := by decide +kernel
theorem d_Journal_setFree_31 : decode b_Journal_setFree 31 = .ok (.aload_n 1, 1) := by decide +kernel
theorem d_Journal_setFree_32 : decode b_Journal_setFree 32 = .ok (.putfield 17, 3) := by decide +kernel
theorem d_Journal_setFree_35 : decode b_Journal_setFree 35 = .ok (.return_, 1) := by decide +kernel
theorem d_Journal_stepBack_0 : decode b_Journal_stepBack 0 = .ok (.aload_n 0, 1) := by decide +kernel
theorem d_Journal_stepBack_1 : decode b_Journal_stepBack 1 = .ok (.getfield 48, 3) := by decide +kernel
theorem d_Journal_stepBack_4 : decode b_Journal_stepBack 4 = .ok (.ifCond .ne 5, 3) := by decide +kernel
theorem d_Journal_stepBack_7 : decode b_Journal_stepBack 7 = .ok (.iconst 0, 1) := by decide +kernel
theorem d_Journal_stepBack_8 : decode b_Journal_stepBack 8 = .ok (.ireturn, 1) := by decide +kernel
theorem d_Journal_stepBack_9 : decode b_Journal_stepBack 9 = .ok (.aload_n 0, 1) := by decide +kernel
theorem d_Journal_stepBack_10 : decode b_Journal_stepBack 10 = .ok (.dup, 1) := by decide +kernel
theorem d_Journal_stepBack_11 : decode b_Journal_stepBack 11 = .ok (.getfield 48, 3) := by decide +kernel
theorem d_Journal_stepBack_14 : decode b_Journal_stepBack 14 = .ok (.iconst 1, 1) := by decide +kernel
theorem d_Journal_stepBack_15 : decode b_Journal_stepBack 15 = .ok (.isub, 1) := by decide +kernel
theorem d_Journal_stepBack_16 : decode b_Journal_stepBack 16 = .ok (.putfield 48, 3) := by decide +kernel
theorem d_Journal_stepBack_19 : decode b_Journal_stepBack 19 = .ok (.aload_n 0, 1) := by decide +kernel
theorem d_Journal_stepBack_20 : decode b_Journal_stepBack 20 = .ok (.aload_n 0, 1) := by decide +kernel
theorem d_Journal_stepBack_21 : decode b_Journal_stepBack 21 = .ok (.getfield 32, 3) := by decide +kernel
theorem d_Journal_stepBack_24 : decode b_Journal_stepBack 24 = .ok (.bipush 50, 2) := by decide +kernel
theorem d_Journal_stepBack_26 : decode b_Journal_stepBack 26 = .ok (.iadd, 1) := by decide +kernel
theorem d_Journal_stepBack_27 : decode b_Journal_stepBack 27 = .ok (.iconst 1, 1) := by decide +kernel
theorem d_Journal_stepBack_28 : decode b_Journal_stepBack 28 = .ok (.isub, 1) := by decide +kernel
theorem d_Journal_stepBack_29 : decode b_Journal_stepBack 29 = .ok (.bipush 50, 2) := by decide +kernel
theorem d_Journal_stepBack_31 : decode b_Journal_stepBack 31 = .ok (.irem, 1) := by decide +kernel
theorem d_Journal_stepBack_32 : decode b_Journal_stepBack 32 = .ok (.putfield 32, 3) := by decide +kernel
theorem d_Journal_stepBack_35 : decode b_Journal_stepBack 35 = .ok (.aload_n 0, 1) := by decide +kernel
theorem d_Journal_stepBack_36 : decode b_Journal_stepBack 36 = .ok (.aload_n 0, 1) := by decide +kernel
theorem d_Journal_stepBack_37 : decode b_Journal_stepBack 37 = .ok (.aload_n 0, 1) := by decide +kernel
theorem d_Journal_stepBack_38 : decode b_Journal_stepBack 38 = .ok (.getfield 32, 3) := by decide +kernel
theorem d_Journal_stepBack_41 : decode b_Journal_stepBack 41 = .ok (.invokevirtual 36, 3) := by decide +kernel
theorem d_Journal_stepBack_44 : decode b_Journal_stepBack 44 = .ok (.putfield 25, 3) := by decide +kernel
theorem d_Journal_stepBack_47 : decode b_Journal_stepBack 47 = .ok (.aload_n 0, 1) := by decide +kernel
theorem d_Journal_stepBack_48 : decode b_Journal_stepBack 48 = .ok (.aload_n 0, 1) := by decide +kernel
theorem d_Journal_stepBack_49 : decode b_Journal_stepBack 49 = .ok (.getfield 32, 3) := by decide +kernel
theorem d_Journal_stepBack_52 : decode b_Journal_stepBack 52 = .ok (.aconst_null, 1) := by decide +kernel
theorem d_Journal_stepBack_53 : decode b_Journal_stepBack 53 = .ok (.invokevirtual 44, 3) := by decide +kernel
theorem d_Journal_stepBack_56 : decode b_Journal_stepBack 56 = .ok (.aload_n 0, 1) := by decide +kernel
theorem d_Journal_stepBack_57 : decode b_Journal_stepBack 57 = .ok (.invokevirtual 60, 3) := by decide +kernel
theorem d_Journal_stepBack_60 : decode b_Journal_stepBack 60 = .ok (.iconst 1, 1) := by decide +kernel
theorem d_Journal_stepBack_61 : decode b_Journal_stepBack 61 = .ok (.ireturn, 1) := by decide +kernel
theorem d_Journal_getAct_0 : decode b_Journal_getAct 0 = .ok (.iload_n 1, 1) := by decide +kernel
theorem d_Journal_getAct_1 : decode b_Journal_getAct 1 = .ok (.ifCond .lt 21, 3) := by decide +kernel
theorem d_Journal_getAct_4 : decode b_Journal_getAct 4 = .ok (.iload_n 1, 1) := by decide +kernel
theorem d_Journal_getAct_5 : decode b_Journal_getAct 5 = .ok (.aload_n 0, 1) := by decide +kernel
theorem d_Journal_getAct_6 : decode b_Journal_getAct 6 = .ok (.getfield 11, 3) := by decide +kernel
theorem d_Journal_getAct_9 : decode b_Journal_getAct 9 = .ok (.arraylength, 1) := by decide +kernel
theorem d_Journal_getAct_10 : decode b_Journal_getAct 10 = .ok (.if_icmp .ge 12, 3) := by decide +kernel
theorem d_Journal_getAct_13 : decode b_Journal_getAct 13 = .ok (.aload_n 0, 1) := by decide +kernel
theorem d_Journal_getAct_14 : decode b_Journal_getAct 14 = .ok (.getfield 11, 3) := by decide +kernel
theorem d_Journal_getAct_17 : decode b_Journal_getAct 17 = .ok (.iload_n 1, 1) := by decide +kernel
theorem d_Journal_getAct_18 : decode b_Journal_getAct 18 = .ok (.aaload, 1) := by decide +kernel
theorem d_Journal_getAct_19 : decode b_Journal_getAct 19 = .ok (.goto 4, 3) := by decide +kernel
theorem d_Journal_getAct_22 : decode b_Journal_getAct 22 = .ok (.aconst_null, 1) := by decide +kernel
theorem d_Journal_getAct_23 : decode b_Journal_getAct 23 = .ok (.areturn, 1) := by decide +kernel
theorem d_Journal_putAct_0 : decode b_Journal_putAct 0 = .ok (.iload_n 1, 1) := by decide +kernel
theorem d_Journal_putAct_1 : decode b_Journal_putAct 1 = .ok (.ifCond .lt 19, 3) := by decide +kernel
theorem d_Journal_putAct_4 : decode b_Journal_putAct 4 = .ok (.iload_n 1, 1) := by decide +kernel
theorem d_Journal_putAct_5 : decode b_Journal_putAct 5 = .ok (.aload_n 0, 1) := by decide +kernel
theorem d_Journal_putAct_6 : decode b_Journal_putAct 6 = .ok (.getfield 11, 3) := by decide +kernel
theorem d_Journal_putAct_9 : decode b_Journal_putAct 9 = .ok (.arraylength, 1) := by decide +kernel
theorem d_Journal_putAct_10 : decode b_Journal_putAct 10 = .ok (.if_icmp .ge 10, 3) := by decide +kernel
theorem d_Journal_putAct_13 : decode b_Journal_putAct 13 = .ok (.aload_n 0, 1) := by decide +kernel
theorem d_Journal_putAct_14 : decode b_Journal_putAct 14 = .ok (.getfield 11, 3) := by decide +kernel
theorem d_Journal_putAct_17 : decode b_Journal_putAct 17 = .ok (.iload_n 1, 1) := by decide +kernel
theorem d_Journal_putAct_18 : decode b_Journal_putAct 18 = .ok (.aload_n 2, 1) := by decide +kernel
theorem d_Journal_putAct_19 : decode b_Journal_putAct 19 = .ok (.aastore, 1) := by decide +kernel
theorem d_Journal_putAct_20 : decode b_Journal_putAct 20 = .ok (.return_, 1) := by decide +kernel
theorem d_Parts_init_0 : decode b_Parts_init 0 = .ok (.aload_n 0, 1) := by decide +kernel
theorem d_Parts_init_1 : decode b_Parts_init 1 = .ok (.invokespecial 3, 3) := by decide +kernel
theorem d_Parts_init_4 : decode b_Parts_init 4 = .ok (.aload_n 0, 1) := by decide +kernel
theorem d_Parts_init_5 : decode b_Parts_init 5 = .ok (.bipush 30, 2) := by decide +kernel
theorem d_Parts_init_7 : decode b_Parts_init 7 = .ok (.newarray .int, 2) := by decide +kernel
theorem d_Parts_init_9 : decode b_Parts_init 9 = .ok (.putfield 9, 3) := by decide +kernel
theorem d_Parts_init_12 : decode b_Parts_init 12 = .ok (.aload_n 0, 1) := by decide +kernel
theorem d_Parts_init_13 : decode b_Parts_init 13 = .ok (.aload_n 2, 1) := by decide +kernel
theorem d_Parts_init_14 : decode b_Parts_init 14 = .ok (.putfield 15, 3) := by decide +kernel
theorem d_Parts_init_17 : decode b_Parts_init 17 = .ok (.aload_n 0, 1) := by decide +kernel
theorem d_Parts_init_18 : decode b_Parts_init 18 = .ok (.new 19, 3) := by decide +kernel
theorem d_Parts_init_21 : decode b_Parts_init 21 = .ok (.dup, 1) := by decide +kernel
theorem d_Parts_init_22 : decode b_Parts_init 22 = .ok (.aload_n 1, 1) := by decide +kernel
theorem d_Parts_init_23 : decode b_Parts_init 23 = .ok (.iconst 1, 1) := by decide +kernel
theorem d_Parts_init_24 : decode b_Parts_init 24 = .ok (.lconst 0, 1) := by decide +kernel
theorem d_Parts_init_25 : decode b_Parts_init 25 = .ok (.invokespecial 21, 3) := by decide +kernel
theorem d_Parts_init_28 : decode b_Parts_init 28 = .ok (.putfield 24, 3) := by decide +kernel
theorem d_Parts_init_31 : decode b_Parts_init 31 = .ok (.aload_n 0, 1) := by decide +kernel
theorem d_Parts_init_32 : decode b_Parts_init 32 = .ok (.new 19, 3) := by decide +kernel
theorem d_Parts_init_35 : decode b_Parts_init 35 = .ok (.dup, 1) := by decide +kernel
theorem d_Parts_init_36 : decode b_Parts_init 36 = .ok (.aload_n 1, 1) := by decide +kernel
theorem d_Parts_init_37 : decode b_Parts_init 37 = .ok (.bipush 30, 2) := by decide +kernel
theorem d_Parts_init_39 : decode b_Parts_init 39 = .ok (.lconst 0, 1) := by decide +kernel
theorem d_Parts_init_40 : decode b_Parts_init 40 = .ok (.invokespecial 21, 3) := by decide +kernel
theorem d_Parts_init_43 : decode b_Parts_init 43 = .ok (.putfield 28, 3) := by decide +kernel
theorem d_Parts_init_46 : decode b_Parts_init 46 = .ok (.aload_n 0, 1) := by decide +kernel
theorem d_Parts_init_47 : decode b_Parts_init 47 = .ok (.new 19, 3) := by decide +kernel
theorem d_Parts_init_50 : decode b_Parts_init 50 = .ok (.dup, 1) := by decide +kernel
theorem d_Parts_init_51 : decode b_Parts_init 51 = .ok (.aload_n 1, 1) := by decide +kernel
theorem d_Parts_init_52 : decode b_Parts_init 52 = .ok (.bipush 30, 2) := by decide +kernel
theorem d_Parts_init_54 : decode b_Parts_init 54 = .ok (.lconst 0, 1) := by decide +kernel
theorem d_Parts_init_55 : decode b_Parts_init 55 = .ok (.invokespecial 21, 3) := by decide +kernel
theorem d_Parts_init_58 : decode b_Parts_init 58 = .ok (.putfield 31, 3) := by decide +kernel
theorem d_Parts_init_61 : decode b_Parts_init 61 = .ok (.aload_n 0, 1) := by decide +kernel
theorem d_Parts_init_62 : decode b_Parts_init 62 = .ok (.new 19, 3) := by decide +kernel
theorem d_Parts_init_65 : decode b_Parts_init 65 = .ok (.dup, 1) := by decide +kernel
theorem d_Parts_init_66 : decode b_Parts_init 66 = .ok (.aload_n 1, 1) := by decide +kernel
theorem d_Parts_init_67 : decode b_Parts_init 67 = .ok (.sipush 240, 3) := by decide +kernel
theorem d_Parts_init_70 : decode b_Parts_init 70 = .ok (.ldc2_w 34, 3) := by decide +kernel
theorem d_Parts_init_73 : decode b_Parts_init 73 = .ok (.invokespecial 21, 3) := by decide +kernel
theorem d_Parts_init_76 : decode b_Parts_init 76 = .ok (.putfield 36, 3) := by decide +kernel
theorem d_Parts_init_79 : decode b_Parts_init 79 = .ok (.aload_n 0, 1) := by decide +kernel
theorem d_Parts_init_80 : decode b_Parts_init 80 = .ok (.new 19, 3) := by decide +kernel
theorem d_Parts_init_83 : decode b_Parts_init 83 = .ok (.dup, 1) := by decide +kernel
theorem d_Parts_init_84 : decode b_Parts_init 84 = .ok (.aload_n 1, 1) := by decide +kernel
theorem d_Parts_init_85 : decode b_Parts_init 85 = .ok (.sipush 480, 3) := by decide +kernel
theorem d_Parts_init_88 : decode b_Parts_init 88 = .ok (.ldc2_w 34, 3) := by decide +kernel
theorem d_Parts_init_91 : decode b_Parts_init 91 = .ok (.invokespecial 21, 3) := by decide +kernel
theorem d_Parts_init_94 : decode b_Parts_init 94 = .ok (.putfield 39, 3) := by decide +kernel
theorem d_Parts_init_97 : decode b_Parts_init 97 = .ok (.aload_n 0, 1) := by decide +kernel
theorem d_Parts_init_98 : decode b_Parts_init 98 = .ok (.new 19, 3) := by decide +kernel
theorem d_Parts_init_101 : decode b_Parts_init 101 = .ok (.dup, 1) := by decide +kernel
theorem d_Parts_init_102 : decode b_Parts_init 102 = .ok (.aload_n 1, 1) := by decide +kernel
theorem d_Parts_init_103 : decode b_Parts_init 103 = .ok (.bipush 24, 2) := by decide +kernel
theorem d_Parts_init_105 : decode b_Parts_init 105 = .ok (.lconst 0, 1) := by decide +kernel
theorem d_Parts_init_106 : decode b_Parts_init 106 = .ok (.invokespecial 21, 3) := by decide +kernel
theorem d_Parts_init_109 : decode b_Parts_init 109 = .ok (.putfield 42, 3) := by decide +kernel
theorem d_Parts_init_112 : decode b_Parts_init 112 = .ok (.return_, 1) := by decide +kernel
theorem d_Parts_isPart_0 : decode b_Parts_isPart 0 = .ok (.iload_n 1, 1) := by decide +kernel
theorem d_Parts_isPart_1 : decode b_Parts_isPart 1 = .ok (.ifCond .lt 19, 3) := by decide +kernel
theorem d_Parts_isPart_4 : decode b_Parts_isPart 4 = .ok (.iload_n 1, 1) := by decide +kernel
theorem d_Parts_isPart_5 : decode b_Parts_isPart 5 = .ok (.aload_n 0, 1) := by decide +kernel
theorem d_Parts_isPart_6 : decode b_Parts_isPart 6 = .ok (.getfield 24, 3) := by decide +kernel
theorem d_Parts_isPart_9 : decode b_Parts_isPart 9 = .ok (.iconst 0, 1) := by decide +kernel
theorem d_Parts_isPart_10 : decode b_Parts_isPart 10 = .ok (.invokevirtual 45, 3) := by decide +kernel
theorem d_Parts_isPart_13 : decode b_Parts_isPart 13 = .ok (.if_icmp .ge 7, 3) := by decide +kernel
theorem d_Parts_isPart_16 : decode b_Parts_isPart 16 = .ok (.iconst 1, 1) := by decide +kernel
theorem d_Parts_isPart_17 : decode b_Parts_isPart 17 = .ok (.goto 4, 3) := by decide +kernel
theorem d_Parts_isPart_20 : decode b_Parts_isPart 20 = .ok (.iconst 0, 1) := by decide +kernel
theorem d_Parts_isPart_21 : decode b_Parts_isPart 21 = .ok (.ireturn, 1) := by decide +kernel
theorem d_Parts_partsLeft_0 : decode b_Parts_partsLeft 0 = .ok (.bipush 30, 2) := by decide +kernel
theorem d_Parts_partsLeft_2 : decode b_Parts_partsLeft 2 = .ok (.aload_n 0, 1) := by decide +kernel
theorem d_Parts_partsLeft_3 : decode b_Parts_partsLeft 3 = .ok (.getfield 24, 3) := by decide +kernel
theorem d_Parts_partsLeft_6 : decode b_Parts_partsLeft 6 = .ok (.iconst 0, 1) := by decide +kernel
theorem d_Parts_partsLeft_7 : decode b_Parts_partsLeft 7 = .ok (.invokevirtual 45, 3) := by decide +kernel
theorem d_Parts_partsLeft_10 : decode b_Parts_partsLeft 10 = .ok (.isub, 1) := by decide +kernel
theorem d_Parts_partsLeft_11 : decode b_Parts_partsLeft 11 = .ok (.ireturn, 1) := by decide +kernel
theorem d_Parts_letterOf_0 : decode b_Parts_letterOf 0 = .ok (.aload_n 0, 1) := by decide +kernel
theorem d_Parts_letterOf_1 : decode b_Parts_letterOf 1 = .ok (.getfield 28, 3) := by decide +kernel
theorem d_Parts_letterOf_4 : decode b_Parts_letterOf 4 = .ok (.iload_n 1, 1) := by decide +kernel
theorem d_Parts_letterOf_5 : decode b_Parts_letterOf 5 = .ok (.invokevirtual 45, 3) := by decide +kernel
theorem d_Parts_letterOf_8 : decode b_Parts_letterOf 8 = .ok (.ireturn, 1) := by decide +kernel
theorem d_Parts_gateCount_0 : decode b_Parts_gateCount 0 = .ok (.aload_n 0, 1) := by decide +kernel
theorem d_Parts_gateCount_1 : decode b_Parts_gateCount 1 = .ok (.getfield 31, 3) := by decide +kernel
theorem d_Parts_gateCount_4 : decode b_Parts_gateCount 4 = .ok (.iload_n 1, 1) := by decide +kernel
theorem d_Parts_gateCount_5 : decode b_Parts_gateCount 5 = .ok (.invokevirtual 45, 3) := by decide +kernel
theorem d_Parts_gateCount_8 : decode b_Parts_gateCount 8 = .ok (.ireturn, 1) := by decide +kernel
theorem d_Parts_sheetOfGate_0 : decode b_Parts_sheetOfGate 0 = .ok (.aload_n 0, 1) := by decide +kernel
theorem d_Parts_sheetOfGate_1 : decode b_Parts_sheetOfGate 1 = .ok (.getfield 36, 3) := by decide +kernel
theorem d_Parts_sheetOfGate_4 : decode b_Parts_sheetOfGate 4 = .ok (.iload_n 1, 1) := by decide +kernel
theorem d_Parts_sheetOfGate_5 : decode b_Parts_sheetOfGate 5 = .ok (.bipush 8, 2) := by decide +kernel
theorem d_Parts_sheetOfGate_7 : decode b_Parts_sheetOfGate 7 = .ok (.imul, 1) := by decide +kernel
theorem d_Parts_sheetOfGate_8 : decode b_Parts_sheetOfGate 8 = .ok (.iload_n 2, 1) := by decide +kernel
theorem d_Parts_sheetOfGate_9 : decode b_Parts_sheetOfGate 9 = .ok (.iadd, 1) := by decide +kernel
theorem d_Parts_sheetOfGate_10 : decode b_Parts_sheetOfGate 10 = .ok (.invokevirtual 45, 3) := by decide +kernel
theorem d_Parts_sheetOfGate_13 : decode b_Parts_sheetOfGate 13 = .ok (.ireturn, 1) := by decide +kernel
theorem d_Parts_gatesOn_0 : decode b_Parts_gatesOn 0 = .ok (.aload_n 0, 1) := by decide +kernel
theorem d_Parts_gatesOn_1 : decode b_Parts_gatesOn 1 = .ok (.getfield 42, 3) := by decide +kernel
theorem d_Parts_gatesOn_4 : decode b_Parts_gatesOn 4 = .ok (.iload_n 1, 1) := by decide +kernel
theorem d_Parts_gatesOn_5 : decode b_Parts_gatesOn 5 = .ok (.invokevirtual 45, 3) := by decide +kernel
theorem d_Parts_gatesOn_8 : decode b_Parts_gatesOn 8 = .ok (.ireturn, 1) := by decide +kernel
theorem d_Parts_gateAt_0 : decode b_Parts_gateAt 0 = .ok (.aload_n 0, 1) := by decide +kernel
theorem d_Parts_gateAt_1 : decode b_Parts_gateAt 1 = .ok (.getfield 39, 3) := by decide +kernel
theorem d_Parts_gateAt_4 : decode b_Parts_gateAt 4 = .ok (.iload_n 1, 1) := by decide +kernel
theorem d_Parts_gateAt_5 : decode b_Parts_gateAt 5 = .ok (.bipush 20, 2) := by decide +kernel
theorem d_Parts_gateAt_7 : decode b_Parts_gateAt 7 = .ok (.imul, 1) := by decide +kernel
theorem d_Parts_gateAt_8 : decode b_Parts_gateAt 8 = .ok (.iload_n 2, 1) := by decide +kernel
theorem d_Parts_gateAt_9 : decode b_Parts_gateAt 9 = .ok (.iadd, 1) := by decide +kernel
theorem d_Parts_gateAt_10 : decode b_Parts_gateAt 10 = .ok (.invokevirtual 45, 3) := by decide +kernel
theorem d_Parts_gateAt_13 : decode b_Parts_gateAt 13 = .ok (.ireturn, 1) := by decide +kernel
theorem d_Parts_partAt_0 : decode b_Parts_partAt 0 = .ok (.aload_n 0, 1) := by decide +kernel
theorem d_Parts_partAt_1 : decode b_Parts_partAt 1 = .ok (.iload_n 1, 1) := by decide +kernel
theorem d_Parts_partAt_2 : decode b_Parts_partAt 2 = .ok (.iload_n 2, 1) := by decide +kernel
theorem d_Parts_partAt_3 : decode b_Parts_partAt 3 = .ok (.invokevirtual 49, 3) := by decide +kernel
theorem d_Parts_partAt_6 : decode b_Parts_partAt 6 = .ok (.bipush 8, 2) := by decide +kernel
theorem d_Parts_partAt_8 : decode b_Parts_partAt 8 = .ok (.idiv, 1) := by decide +kernel
theorem d_Parts_partAt_9 : decode b_Parts_partAt 9 = .ok (.ireturn, 1) := by decide +kernel
theorem d_Parts_addPart_0 : decode b_Parts_addPart 0 = .ok (.aload_n 0, 1) := by decide +kernel
theorem d_Parts_addPart_1 : decode b_Parts_addPart 1 = .ok (.getfield 24, 3) := by decide +kernel
theorem d_Parts_addPart_4 : decode b_Parts_addPart 4 = .ok (.iconst 0, 1) := by decide +kernel
theorem d_Parts_addPart_5 : decode b_Parts_addPart 5 = .ok (.invokevirtual 45, 3) := by decide +kernel
theorem d_Parts_addPart_8 : decode b_Parts_addPart 8 = .ok (.istore_n 3, 1) := by decide +kernel
theorem d_Parts_addPart_9 : decode b_Parts_addPart 9 = .ok (.aload_n 0, 1) := by decide +kernel
theorem d_Parts_addPart_10 : decode b_Parts_addPart 10 = .ok (.getfield 24, 3) := by decide +kernel
theorem d_Parts_addPart_13 : decode b_Parts_addPart 13 = .ok (.iconst 0, 1) := by decide +kernel
theorem d_Parts_addPart_14 : decode b_Parts_addPart 14 = .ok (.iload_n 3, 1) := by decide +kernel
theorem d_Parts_addPart_15 : decode b_Parts_addPart 15 = .ok (.iconst 1, 1) := by decide +kernel
theorem d_Parts_addPart_16 : decode b_Parts_addPart 16 = .ok (.iadd, 1) := by decide +kernel
theorem d_Parts_addPart_17 : decode b_Parts_addPart 17 = .ok (.i2l, 1) := by decide +kernel
theorem d_Parts_addPart_18 : decode b_Parts_addPart 18 = .ok (.invokevirtual 53, 3) := by decide +kernel
theorem d_Parts_addPart_21 : decode b_Parts_addPart 21 = .ok (.aload_n 0, 1) := by decide +kernel
theorem d_Parts_addPart_22 : decode b_Parts_addPart 22 = .ok (.getfield 28, 3) := by decide +kernel
theorem d_Parts_addPart_25 : decode b_Parts_addPart 25 = .ok (.iload_n 3, 1) := by decide +kernel
theorem d_Parts_addPart_26 : decode b_Parts_addPart 26 = .ok (.iload_n 1, 1) := by decide +kernel
theorem d_Parts_addPart_27 : decode b_Parts_addPart 27 = .ok (.i2l, 1) := by decide +kernel
theorem d_Parts_addPart_28 : decode b_Parts_addPart 28 = .ok (.invokevirtual 53, 3) := by decide +kernel
theorem d_Parts_addPart_31 : decode b_Parts_addPart 31 = .ok (.aload_n 0, 1) := by decide +kernel
theorem d_Parts_addPart_32 : decode b_Parts_addPart 32 = .ok (.getfield 31, 3) := by decide +kernel
theorem d_Parts_addPart_35 : decode b_Parts_addPart 35 = .ok (.iload_n 3, 1) := by decide +kernel
theorem d_Parts_addPart_36 : decode b_Parts_addPart 36 = .ok (.iload_n 2, 1) := by decide +kernel
theorem d_Parts_addPart_37 : decode b_Parts_addPart 37 = .ok (.i2l, 1) := by decide +kernel
theorem d_Parts_addPart_38 : decode b_Parts_addPart 38 = .ok (.invokevirtual 53, 3) := by decide +kernel
theorem d_Parts_addPart_41 : decode b_Parts_addPart 41 = .ok (.iload_n 3, 1) := by decide +kernel
theorem d_Parts_addPart_42 : decode b_Parts_addPart 42 = .ok (.ireturn, 1) := by decide +kernel
theorem d_Parts_layGate_0 : decode b_Parts_layGate 0 = .ok (.aload_n 0, 1) := by decide +kernel
theorem d_Parts_layGate_1 : decode b_Parts_layGate 1 = .ok (.iload_n 1, 1) := by decide +kernel
theorem d_Parts_layGate_2 : decode b_Parts_layGate 2 = .ok (.invokevirtual 57, 3) := by decide +kernel
theorem d_Parts_layGate_5 : decode b_Parts_layGate 5 = .ok (.istore 4, 2) := by decide +kernel
theorem d_Parts_layGate_7 : decode b_Parts_layGate 7 = .ok (.aload_n 0, 1) := by decide +kernel
theorem d_Parts_layGate_8 : decode b_Parts_layGate 8 = .ok (.getfield 36, 3) := by decide +kernel
theorem d_Parts_layGate_11 : decode b_Parts_layGate 11 = .ok (.iload_n 2, 1) := by decide +kernel
theorem d_Parts_layGate_12 : decode b_Parts_layGate 12 = .ok (.bipush 8, 2) := by decide +kernel
theorem d_Parts_layGate_14 : decode b_Parts_layGate 14 = .ok (.imul, 1) := by decide +kernel
theorem d_Parts_layGate_15 : decode b_Parts_layGate 15 = .ok (.iload_n 3, 1) := by decide +kernel
theorem d_Parts_layGate_16 : decode b_Parts_layGate 16 = .ok (.iadd, 1) := by decide +kernel
theorem d_Parts_layGate_17 : decode b_Parts_layGate 17 = .ok (.iload_n 1, 1) := by decide +kernel
theorem d_Parts_layGate_18 : decode b_Parts_layGate 18 = .ok (.i2l, 1) := by decide +kernel
theorem d_Parts_layGate_19 : decode b_Parts_layGate 19 = .ok (.invokevirtual 53, 3) := by decide +kernel
theorem d_Parts_layGate_22 : decode b_Parts_layGate 22 = .ok (.aload_n 0, 1) := by decide +kernel
theorem d_Parts_layGate_23 : decode b_Parts_layGate 23 = .ok (.getfield 39, 3) := by decide +kernel
theorem d_Parts_layGate_26 : decode b_Parts_layGate 26 = .ok (.iload_n 1, 1) := by decide +kernel
theorem d_Parts_layGate_27 : decode b_Parts_layGate 27 = .ok (.bipush 20, 2) := by decide +kernel
theorem d_Parts_layGate_29 : decode b_Parts_layGate 29 = .ok (.imul, 1) := by decide +kernel
theorem d_Parts_layGate_30 : decode b_Parts_layGate 30 = .ok (.iload 4, 2) := by decide +kernel
theorem d_Parts_layGate_32 : decode b_Parts_layGate 32 = .ok (.iadd, 1) := by decide +kernel
theorem d_Parts_layGate_33 : decode b_Parts_layGate 33 = .ok (.iload_n 2, 1) := by decide +kernel
theorem d_Parts_layGate_34 : decode b_Parts_layGate 34 = .ok (.bipush 8, 2) := by decide +kernel
theorem d_Parts_layGate_36 : decode b_Parts_layGate 36 = .ok (.imul, 1) := by decide +kernel
theorem d_Parts_layGate_37 : decode b_Parts_layGate 37 = .ok (.iload_n 3, 1) := by decide +kernel
theorem d_Parts_layGate_38 : decode b_Parts_layGate 38 = .ok (.iadd, 1) := by decide +kernel
theorem d_Parts_layGate_39 : decode b_Parts_layGate 39 = .ok (.i2l, 1) := by decide +kernel
theorem d_Parts_layGate_40 : decode b_Parts_layGate 40 = .ok (.invokevirtual 53, 3) := by decide +kernel
theorem d_Parts_layGate_43 : decode b_Parts_layGate 43 = .ok (.aload_n 0, 1) := by decide +kernel
theorem d_Parts_layGate_44 : decode b_Parts_layGate 44 = .ok (.getfield 42, 3) := by decide +kernel
theorem d_Parts_layGate_47 : decode b_Parts_layGate 47 = .ok (.iload_n 1, 1) := by decide +kernel
theorem d_Parts_layGate_48 : decode b_Parts_layGate 48 = .ok (.iload 4, 2) := by decide +kernel
theorem d_Parts_layGate_50 : decode b_Parts_layGate 50 = .ok (.iconst 1, 1) := by decide +kernel
theorem d_Parts_layGate_51 : decode b_Parts_layGate 51 = .ok (.iadd, 1) := by decide +kernel
theorem d_Parts_layGate_52 : decode b_Parts_layGate 52 = .ok (.i2l, 1) := by decide +kernel
theorem d_Parts_layGate_53 : decode b_Parts_layGate 53 = .ok (.invokevirtual 53, 3) := by decide +kernel
theorem d_Parts_layGate_56 : decode b_Parts_layGate 56 = .ok (.return_, 1) := by decide +kernel
theorem d_Parts_partsOn_0 : decode b_Parts_partsOn 0 = .ok (.aload_n 0, 1) := by decide +kernel
theorem d_Parts_partsOn_1 : decode b_Parts_partsOn 1 = .ok (.getfield 9, 3) := by decide +kernel
theorem d_Parts_partsOn_4 : decode b_Parts_partsOn 4 = .ok (.iconst (-1), 1) := by decide +kernel
theorem d_Parts_partsOn_5 : decode b_Parts_partsOn 5 = .ok (.invokestatic 60, 3) := by decide +kernel
theorem d_Parts_partsOn_8 : decode b_Parts_partsOn 8 = .ok (.iconst 0, 1) := by decide +kernel
theorem d_Parts_partsOn_9 : decode b_Parts_partsOn 9 = .ok (.istore_n 2, 1) := by decide +kernel
theorem d_Parts_partsOn_10 : decode b_Parts_partsOn 10 = .ok (.iconst 0, 1) := by decide +kernel
theorem d_Parts_partsOn_11 : decode b_Parts_partsOn 11 = .ok (.istore_n 3, 1) := by decide +kernel
theorem d_Parts_partsOn_12 : decode b_Parts_partsOn 12 = .ok (.iload_n 3, 1) := by decide +kernel
theorem d_Parts_partsOn_13 : decode b_Parts_partsOn 13 = .ok (.aload_n 0, 1) := by decide +kernel
theorem d_Parts_partsOn_14 : decode b_Parts_partsOn 14 = .ok (.iload_n 1, 1) := by decide +kernel
theorem d_Parts_partsOn_15 : decode b_Parts_partsOn 15 = .ok (.invokevirtual 57, 3) := by decide +kernel
theorem d_Parts_partsOn_18 : decode b_Parts_partsOn 18 = .ok (.if_icmp .ge 44, 3) := by decide +kernel
theorem d_Parts_partsOn_21 : decode b_Parts_partsOn 21 = .ok (.aload_n 0, 1) := by decide +kernel
theorem d_Parts_partsOn_22 : decode b_Parts_partsOn 22 = .ok (.iload_n 1, 1) := by decide +kernel
theorem d_Parts_partsOn_23 : decode b_Parts_partsOn 23 = .ok (.iload_n 3, 1) := by decide +kernel
theorem d_Parts_partsOn_24 : decode b_Parts_partsOn 24 = .ok (.invokevirtual 66, 3) := by decide +kernel
theorem d_Parts_partsOn_27 : decode b_Parts_partsOn 27 = .ok (.istore 4, 2) := by decide +kernel
theorem d_Parts_partsOn_29 : decode b_Parts_partsOn 29 = .ok (.aload_n 0, 1) := by decide +kernel
theorem d_Parts_partsOn_30 : decode b_Parts_partsOn 30 = .ok (.getfield 9, 3) := by decide +kernel
theorem d_Parts_partsOn_33 : decode b_Parts_partsOn 33 = .ok (.iload 4, 2) := by decide +kernel
theorem d_Parts_partsOn_35 : decode b_Parts_partsOn 35 = .ok (.invokestatic 69, 3) := by decide +kernel
theorem d_Parts_partsOn_38 : decode b_Parts_partsOn 38 = .ok (.iconst (-1), 1) := by decide +kernel
theorem d_Parts_partsOn_39 : decode b_Parts_partsOn 39 = .ok (.if_icmp .ne 17, 3) := by decide +kernel
theorem d_Parts_partsOn_42 : decode b_Parts_partsOn 42 = .ok (.aload_n 0, 1) := by decide +kernel
theorem d_Parts_partsOn_43 : decode b_Parts_partsOn 43 = .ok (.getfield 9, 3) := by decide +kernel
theorem d_Parts_partsOn_46 : decode b_Parts_partsOn 46 = .ok (.iload 4, 2) := by decide +kernel
theorem d_Parts_partsOn_48 : decode b_Parts_partsOn 48 = .ok (.iload 4, 2) := by decide +kernel
theorem d_Parts_partsOn_50 : decode b_Parts_partsOn 50 = .ok (.invokestatic 73, 3) := by decide +kernel
theorem d_Parts_partsOn_53 : decode b_Parts_partsOn 53 = .ok (.iinc 2 1, 3) := by decide +kernel
theorem d_Parts_partsOn_56 : decode b_Parts_partsOn 56 = .ok (.iinc 3 1, 3) := by decide +kernel
theorem d_Parts_partsOn_59 : decode b_Parts_partsOn 59 = .ok (.goto (-47), 3) := by decide +kernel
theorem d_Parts_partsOn_62 : decode b_Parts_partsOn 62 = .ok (.iload_n 2, 1) := by decide +kernel
theorem d_Parts_partsOn_63 : decode b_Parts_partsOn 63 = .ok (.ireturn, 1) := by decide +kernel
theorem d_Parts_addPartsLike_0 : decode b_Parts_addPartsLike 0 = .ok (.aload_n 0, 1) := by decide +kernel
theorem d_Parts_addPartsLike_1 : decode b_Parts_addPartsLike 1 = .ok (.getfield 9, 3) := by decide +kernel
theorem d_Parts_addPartsLike_4 : decode b_Parts_addPartsLike 4 = .ok (.iconst (-1), 1) := by decide +kernel
theorem d_Parts_addPartsLike_5 : decode b_Parts_addPartsLike 5 = .ok (.invokestatic 60, 3) := by decide +kernel
theorem d_Parts_addPartsLike_8 : decode b_Parts_addPartsLike 8 = .ok (.aload_n 0, 1) := by decide +kernel
theorem d_Parts_addPartsLike_9 : decode b_Parts_addPartsLike 9 = .ok (.iload_n 1, 1) := by decide +kernel
theorem d_Parts_addPartsLike_10 : decode b_Parts_addPartsLike 10 = .ok (.invokevirtual 57, 3) := by decide +kernel
theorem d_Parts_addPartsLike_13 : decode b_Parts_addPartsLike 13 = .ok (.istore_n 3, 1) := by decide +kernel
theorem d_Parts_addPartsLike_14 : decode b_Parts_addPartsLike 14 = .ok (.iconst 0, 1) := by decide +kernel
theorem d_Parts_addPartsLike_15 : decode b_Parts_addPartsLike 15 = .ok (.istore 4, 2) := by decide +kernel
theorem d_Parts_addPartsLike_17 : decode b_Parts_addPartsLike 17 = .ok (.iload 4, 2) := by decide +kernel
theorem d_Parts_addPartsLike_19 : decode b_Parts_addPartsLike 19 = .ok (.iload_n 3, 1) := by decide +kernel
theorem d_Parts_addPartsLike_20 : decode b_Parts_addPartsLike 20 = .ok (.if_icmp .ge 80, 3) := by decide +kernel
theorem d_Parts_addPartsLike_23 : decode b_Parts_addPartsLike 23 = .ok (.aload_n 0, 1) := by decide +kernel
theorem d_Parts_addPartsLike_24 : decode b_Parts_addPartsLike 24 = .ok (.iload_n 1, 1) := by decide +kernel
theorem d_Parts_addPartsLike_25 : decode b_Parts_addPartsLike 25 = .ok (.iload 4, 2) := by decide +kernel
theorem d_Parts_addPartsLike_27 : decode b_Parts_addPartsLike 27 = .ok (.invokevirtual 66, 3) := by decide +kernel
theorem d_Parts_addPartsLike_30 : decode b_Parts_addPartsLike 30 = .ok (.istore 5, 2) := by decide +kernel
theorem d_Parts_addPartsLike_32 : decode b_Parts_addPartsLike 32 = .ok (.aload_n 0, 1) := by decide +kernel
theorem d_Parts_addPartsLike_33 : decode b_Parts_addPartsLike 33 = .ok (.getfield 9, 3) := by decide +kernel
theorem d_Parts_addPartsLike_36 : decode b_Parts_addPartsLike 36 = .ok (.iload 5, 2) := by decide +kernel
theorem d_Parts_addPartsLike_38 : decode b_Parts_addPartsLike 38 = .ok (.invokestatic 69, 3) := by decide +kernel
theorem d_Parts_addPartsLike_41 : decode b_Parts_addPartsLike 41 = .ok (.iconst (-1), 1) := by decide +kernel
theorem d_Parts_addPartsLike_42 : decode b_Parts_addPartsLike 42 = .ok (.if_icmp .ne 28, 3) := by decide +kernel
theorem d_Parts_addPartsLike_45 : decode b_Parts_addPartsLike 45 = .ok (.aload_n 0, 1) := by decide +kernel
theorem d_Parts_addPartsLike_46 : decode b_Parts_addPartsLike 46 = .ok (.getfield 9, 3) := by decide +kernel
theorem d_Parts_addPartsLike_49 : decode b_Parts_addPartsLike 49 = .ok (.iload 5, 2) := by decide +kernel
theorem d_Parts_addPartsLike_51 : decode b_Parts_addPartsLike 51 = .ok (.aload_n 0, 1) := by decide +kernel
theorem d_Parts_addPartsLike_52 : decode b_Parts_addPartsLike 52 = .ok (.aload_n 0, 1) := by decide +kernel
theorem d_Parts_addPartsLike_53 : decode b_Parts_addPartsLike 53 = .ok (.iload 5, 2) := by decide +kernel
theorem d_Parts_addPartsLike_55 : decode b_Parts_addPartsLike 55 = .ok (.invokevirtual 77, 3) := by decide +kernel
theorem d_Parts_addPartsLike_58 : decode b_Parts_addPartsLike 58 = .ok (.aload_n 0, 1) := by decide +kernel
theorem d_Parts_addPartsLike_59 : decode b_Parts_addPartsLike 59 = .ok (.iload 5, 2) := by decide +kernel
theorem d_Parts_addPartsLike_61 : decode b_Parts_addPartsLike 61 = .ok (.invokevirtual 80, 3) := by decide +kernel
theorem d_Parts_addPartsLike_64 : decode b_Parts_addPartsLike 64 = .ok (.invokevirtual 83, 3) := by decide +kernel
theorem d_Parts_addPartsLike_67 : decode b_Parts_addPartsLike 67 = .ok (.invokestatic 73, 3) := by decide +kernel
theorem d_Parts_addPartsLike_70 : decode b_Parts_addPartsLike 70 = .ok (.aload_n 0, 1) := by decide +kernel
theorem d_Parts_addPartsLike_71 : decode b_Parts_addPartsLike 71 = .ok (.iload_n 2, 1) := by decide +kernel
theorem d_Parts_addPartsLike_72 : decode b_Parts_addPartsLike 72 = .ok (.aload_n 0, 1) := by decide +kernel
theorem d_Parts_addPartsLike_73 : decode b_Parts_addPartsLike 73 = .ok (.getfield 9, 3) := by decide +kernel
theorem d_Parts_addPartsLike_76 : decode b_Parts_addPartsLike 76 = .ok (.iload 5, 2) := by decide +kernel
theorem d_Parts_addPartsLike_78 : decode b_Parts_addPartsLike 78 = .ok (.invokestatic 69, 3) := by decide +kernel
theorem d_Parts_addPartsLike_81 : decode b_Parts_addPartsLike 81 = .ok (.aload_n 0, 1) := by decide +kernel
theorem d_Parts_addPartsLike_82 : decode b_Parts_addPartsLike 82 = .ok (.iload_n 1, 1) := by decide +kernel
theorem d_Parts_addPartsLike_83 : decode b_Parts_addPartsLike 83 = .ok (.iload 4, 2) := by decide +kernel
theorem d_Parts_addPartsLike_85 : decode b_Parts_addPartsLike 85 = .ok (.invokevirtual 49, 3) := by decide +kernel
theorem d_Parts_addPartsLike_88 : decode b_Parts_addPartsLike 88 = .ok (.bipush 8, 2) := by decide +kernel
theorem d_Parts_addPartsLike_90 : decode b_Parts_addPartsLike 90 = .ok (.irem, 1) := by decide +kernel
theorem d_Parts_addPartsLike_91 : decode b_Parts_addPartsLike 91 = .ok (.invokevirtual 86, 3) := by decide +kernel
theorem d_Parts_addPartsLike_94 : decode b_Parts_addPartsLike 94 = .ok (.iinc 4 1, 3) := by decide +kernel
theorem d_Parts_addPartsLike_97 : decode b_Parts_addPartsLike 97 = .ok (.goto (-80), 3) := by decide +kernel
theorem d_Parts_addPartsLike_100 : decode b_Parts_addPartsLike 100 = .ok (.return_, 1) := by decide +kernel
theorem d_Parts_unitCount_0 : decode b_Parts_unitCount 0 = .ok (.iconst 0, 1) := by decide +kernel
theorem d_Parts_unitCount_1 : decode b_Parts_unitCount 1 = .ok (.istore_n 2, 1) := by decide +kernel
theorem d_Parts_unitCount_2 : decode b_Parts_unitCount 2 = .ok (.iconst 0, 1) := by decide +kernel
theorem d_Parts_unitCount_3 : decode b_Parts_unitCount 3 = .ok (.istore_n 3, 1) := by decide +kernel
theorem d_Parts_unitCount_4 : decode b_Parts_unitCount 4 = .ok (.iload_n 3, 1) := by decide +kernel
theorem d_Parts_unitCount_5 : decode b_Parts_unitCount 5 = .ok (.aload_n 0, 1) := by decide +kernel
theorem d_Parts_unitCount_6 : decode b_Parts_unitCount 6 = .ok (.iload_n 1, 1) := by decide +kernel
theorem d_Parts_unitCount_7 : decode b_Parts_unitCount 7 = .ok (.invokevirtual 80, 3) := by decide +kernel
theorem d_Parts_unitCount_10 : decode b_Parts_unitCount 10 = .ok (.if_icmp .ge 27, 3) := by decide +kernel
theorem d_Parts_unitCount_13 : decode b_Parts_unitCount 13 = .ok (.iload_n 2, 1) := by decide +kernel
theorem d_Parts_unitCount_14 : decode b_Parts_unitCount 14 = .ok (.aload_n 0, 1) := by decide +kernel
theorem d_Parts_unitCount_15 : decode b_Parts_unitCount 15 = .ok (.getfield 15, 3) := by decide +kernel
theorem d_Parts_unitCount_18 : decode b_Parts_unitCount 18 = .ok (.aload_n 0, 1) := by decide +kernel
theorem d_Parts_unitCount_19 : decode b_Parts_unitCount 19 = .ok (.iload_n 1, 1) := by decide +kernel
theorem d_Parts_unitCount_20 : decode b_Parts_unitCount 20 = .ok (.iload_n 3, 1) := by decide +kernel
theorem d_Parts_unitCount_21 : decode b_Parts_unitCount 21 = .ok (.invokevirtual 90, 3) := by decide +kernel
theorem d_Parts_unitCount_24 : decode b_Parts_unitCount 24 = .ok (.invokevirtual 93, 3) := by decide +kernel
theorem d_Parts_unitCount_27 : decode b_Parts_unitCount 27 = .ok (.invokestatic 98, 3) := by decide +kernel
theorem d_Parts_unitCount_30 : decode b_Parts_unitCount 30 = .ok (.istore_n 2, 1) := by decide +kernel
theorem d_Parts_unitCount_31 : decode b_Parts_unitCount 31 = .ok (.iinc 3 1, 3) := by decide +kernel
theorem d_Parts_unitCount_34 : decode b_Parts_unitCount 34 = .ok (.goto (-30), 3) := by decide +kernel
theorem d_Parts_unitCount_37 : decode b_Parts_unitCount 37 = .ok (.iload_n 2, 1) := by decide +kernel
theorem d_Parts_unitCount_38 : decode b_Parts_unitCount 38 = .ok (.ireturn, 1) := by decide +kernel
theorem d_Parts_numberOf_0 : decode b_Parts_numberOf 0 = .ok (.aload_n 0, 1) := by decide +kernel
theorem d_Parts_numberOf_1 : decode b_Parts_numberOf 1 = .ok (.getfield 9, 3) := by decide +kernel
theorem d_Parts_numberOf_4 : decode b_Parts_numberOf 4 = .ok (.iconst 0, 1) := by decide +kernel
theorem d_Parts_numberOf_5 : decode b_Parts_numberOf 5 = .ok (.invokestatic 60, 3) := by decide +kernel
theorem d_Parts_numberOf_8 : decode b_Parts_numberOf 8 = .ok (.iconst 0, 1) := by decide +kernel
theorem d_Parts_numberOf_9 : decode b_Parts_numberOf 9 = .ok (.istore 4, 2) := by decide +kernel
theorem d_Parts_numberOf_11 : decode b_Parts_numberOf 11 = .ok (.iconst 0, 1) := by decide +kernel
theorem d_Parts_numberOf_12 : decode b_Parts_numberOf 12 = .ok (.istore 5, 2) := by decide +kernel
theorem d_Parts_numberOf_14 : decode b_Parts_numberOf 14 = .ok (.iload 5, 2) := by decide +kernel
theorem d_Parts_numberOf_16 : decode b_Parts_numberOf 16 = .ok (.aload_n 0, 1) := by decide +kernel
theorem d_Parts_numberOf_17 : decode b_Parts_numberOf 17 = .ok (.getfield 15, 3) := by decide +kernel
theorem d_Parts_numberOf_20 : decode b_Parts_numberOf 20 = .ok (.invokevirtual 103, 3) := by decide +kernel
theorem d_Parts_numberOf_23 : decode b_Parts_numberOf 23 = .ok (.if_icmp .ge 48, 3) := by decide +kernel
theorem d_Parts_numberOf_26 : decode b_Parts_numberOf 26 = .ok (.iload_n 3, 1) := by decide +kernel
theorem d_Parts_numberOf_27 : decode b_Parts_numberOf 27 = .ok (.ifCond .eq 10, 3) := by decide +kernel
theorem d_Parts_numberOf_30 : decode b_Parts_numberOf 30 = .ok (.iload 5, 2) := by decide +kernel
theorem d_Parts_numberOf_32 : decode b_Parts_numberOf 32 = .ok (.bipush 100, 2) := by decide +kernel
theorem d_Parts_numberOf_34 : decode b_Parts_numberOf 34 = .ok (.imul, 1) := by decide +kernel
theorem d_Parts_numberOf_35 : decode b_Parts_numberOf 35 = .ok (.istore 4, 2) := by decide +kernel
theorem d_Parts_numberOf_37 : decode b_Parts_numberOf 37 = .ok (.iload 4, 2) := by decide +kernel
theorem d_Parts_numberOf_39 : decode b_Parts_numberOf 39 = .ok (.aload_n 0, 1) := by decide +kernel
theorem d_Parts_numberOf_40 : decode b_Parts_numberOf 40 = .ok (.iload 5, 2) := by decide +kernel
theorem d_Parts_numberOf_42 : decode b_Parts_numberOf 42 = .ok (.iload_n 1, 1) := by decide +kernel
theorem d_Parts_numberOf_43 : decode b_Parts_numberOf 43 = .ok (.iload_n 2, 1) := by decide +kernel
theorem d_Parts_numberOf_44 : decode b_Parts_numberOf 44 = .ok (.invokevirtual 107, 3) := by decide +kernel
theorem d_Parts_numberOf_47 : decode b_Parts_numberOf 47 = .ok (.iadd, 1) := by decide +kernel
theorem d_Parts_numberOf_48 : decode b_Parts_numberOf 48 = .ok (.istore 4, 2) := by decide +kernel
theorem d_Parts_numberOf_50 : decode b_Parts_numberOf 50 = .ok (.aload_n 0, 1) := by decide +kernel
theorem d_Parts_numberOf_51 : decode b_Parts_numberOf 51 = .ok (.getfield 9, 3) := by decide +kernel
theorem d_Parts_numberOf_54 : decode b_Parts_numberOf 54 = .ok (.iload_n 1, 1) := by decide +kernel
theorem d_Parts_numberOf_55 : decode b_Parts_numberOf 55 = .ok (.invokestatic 69, 3) := by decide +kernel
theorem d_Parts_numberOf_58 : decode b_Parts_numberOf 58 = .ok (.iload_n 2, 1) := by decide +kernel
theorem d_Parts_numberOf_59 : decode b_Parts_numberOf 59 = .ok (.if_icmp .le 6, 3) := by decide +kernel
theorem d_Parts_numberOf_62 : decode b_Parts_numberOf 62 = .ok (.iload 4, 2) := by decide +kernel
theorem d_Parts_numberOf_64 : decode b_Parts_numberOf 64 = .ok (.ireturn, 1) := by decide +kernel
theorem d_Parts_numberOf_65 : decode b_Parts_numberOf 65 = .ok (.iinc 5 1, 3) := by decide +kernel
theorem d_Parts_numberOf_68 : decode b_Parts_numberOf 68 = .ok (.goto (-54), 3) := by decide +kernel
theorem d_Parts_numberOf_71 : decode b_Parts_numberOf 71 = .ok (.iconst (-1), 1) := by decide +kernel
theorem d_Parts_numberOf_72 : decode b_Parts_numberOf 72 = .ok (.ireturn, 1) := by decide +kernel
theorem d_Parts_newUnitsAt_0 : decode b_Parts_newUnitsAt 0 = .ok (.aload_n 0, 1) := by decide +kernel
theorem d_Parts_newUnitsAt_1 : decode b_Parts_newUnitsAt 1 = .ok (.getfield 15, 3) := by decide +kernel
theorem d_Parts_newUnitsAt_4 : decode b_Parts_newUnitsAt 4 = .ok (.iload_n 1, 1) := by decide +kernel
theorem d_Parts_newUnitsAt_5 : decode b_Parts_newUnitsAt 5 = .ok (.invokevirtual 111, 3) := by decide +kernel
theorem d_Parts_newUnitsAt_8 : decode b_Parts_newUnitsAt 8 = .ok (.istore 4, 2) := by decide +kernel
theorem d_Parts_newUnitsAt_10 : decode b_Parts_newUnitsAt 10 = .ok (.aload_n 0, 1) := by decide +kernel
theorem d_Parts_newUnitsAt_11 : decode b_Parts_newUnitsAt 11 = .ok (.getfield 15, 3) := by decide +kernel
theorem d_Parts_newUnitsAt_14 : decode b_Parts_newUnitsAt 14 = .ok (.iload_n 1, 1) := by decide +kernel
theorem d_Parts_newUnitsAt_15 : decode b_Parts_newUnitsAt 15 = .ok (.invokevirtual 114, 3) := by decide +kernel
theorem d_Parts_newUnitsAt_18 : decode b_Parts_newUnitsAt 18 = .ok (.istore 5, 2) := by decide +kernel
theorem d_Parts_newUnitsAt_20 : decode b_Parts_newUnitsAt 20 = .ok (.iconst 0, 1) := by decide +kernel
theorem d_Parts_newUnitsAt_21 : decode b_Parts_newUnitsAt 21 = .ok (.istore 6, 2) := by decide +kernel
theorem d_Parts_newUnitsAt_23 : decode b_Parts_newUnitsAt 23 = .ok (.iconst 0, 1) := by decide +kernel
theorem d_Parts_newUnitsAt_24 : decode b_Parts_newUnitsAt 24 = .ok (.istore 7, 2) := by decide +kernel
theorem d_Parts_newUnitsAt_26 : decode b_Parts_newUnitsAt 26 = .ok (.iload 7, 2) := by decide +kernel
theorem d_Parts_newUnitsAt_28 : decode b_Parts_newUnitsAt 28 = .ok (.aload_n 0, 1) := by decide +kernel
theorem d_Parts_newUnitsAt_29 : decode b_Parts_newUnitsAt 29 = .ok (.iload 4, 2) := by decide +kernel
theorem d_Parts_newUnitsAt_31 : decode b_Parts_newUnitsAt 31 = .ok (.invokevirtual 57, 3) := by decide +kernel
theorem d_Parts_newUnitsAt_34 : decode b_Parts_newUnitsAt 34 = .ok (.if_icmp .ge 78, 3) := by decide +kernel
theorem d_Parts_newUnitsAt_37 : decode b_Parts_newUnitsAt 37 = .ok (.aload_n 0, 1) := by decide +kernel
theorem d_Parts_newUnitsAt_38 : decode b_Parts_newUnitsAt 38 = .ok (.iload 4, 2) := by decide +kernel
theorem d_Parts_newUnitsAt_40 : decode b_Parts_newUnitsAt 40 = .ok (.iload 7, 2) := by decide +kernel
theorem d_Parts_newUnitsAt_42 : decode b_Parts_newUnitsAt 42 = .ok (.invokevirtual 66, 3) := by decide +kernel
theorem d_Parts_newUnitsAt_45 : decode b_Parts_newUnitsAt 45 = .ok (.istore 8, 2) := by decide +kernel
theorem d_Parts_newUnitsAt_47 : decode b_Parts_newUnitsAt 47 = .ok (.aload_n 0, 1) := by decide +kernel
theorem d_Parts_newUnitsAt_48 : decode b_Parts_newUnitsAt 48 = .ok (.iload 8, 2) := by decide +kernel
theorem d_Parts_newUnitsAt_50 : decode b_Parts_newUnitsAt 50 = .ok (.invokevirtual 77, 3) := by decide +kernel
theorem d_Parts_newUnitsAt_53 : decode b_Parts_newUnitsAt 53 = .ok (.aload_n 0, 1) := by decide +kernel
theorem d_Parts_newUnitsAt_54 : decode b_Parts_newUnitsAt 54 = .ok (.iload_n 2, 1) := by decide +kernel
theorem d_Parts_newUnitsAt_55 : decode b_Parts_newUnitsAt 55 = .ok (.invokevirtual 77, 3) := by decide +kernel
theorem d_Parts_newUnitsAt_58 : decode b_Parts_newUnitsAt 58 = .ok (.if_icmp .ne 48, 3) := by decide +kernel
theorem d_Parts_newUnitsAt_61 : decode b_Parts_newUnitsAt 61 = .ok (.aload_n 0, 1) := by decide +kernel
theorem d_Parts_newUnitsAt_62 : decode b_Parts_newUnitsAt 62 = .ok (.getfield 9, 3) := by decide +kernel
theorem d_Parts_newUnitsAt_65 : decode b_Parts_newUnitsAt 65 = .ok (.iload 8, 2) := by decide +kernel
theorem d_Parts_newUnitsAt_67 : decode b_Parts_newUnitsAt 67 = .ok (.invokestatic 69, 3) := by decide +kernel
theorem d_Parts_newUnitsAt_70 : decode b_Parts_newUnitsAt 70 = .ok (.iload 5, 2) := by decide +kernel
theorem d_Parts_newUnitsAt_72 : decode b_Parts_newUnitsAt 72 = .ok (.if_icmp .ne 34, 3) := by decide +kernel
theorem d_Parts_newUnitsAt_75 : decode b_Parts_newUnitsAt 75 = .ok (.aload_n 0, 1) := by decide +kernel
theorem d_Parts_newUnitsAt_76 : decode b_Parts_newUnitsAt 76 = .ok (.getfield 9, 3) := by decide +kernel
theorem d_Parts_newUnitsAt_79 : decode b_Parts_newUnitsAt 79 = .ok (.iload 8, 2) := by decide +kernel
theorem d_Parts_newUnitsAt_81 : decode b_Parts_newUnitsAt 81 = .ok (.iload 5, 2) := by decide +kernel
theorem d_Parts_newUnitsAt_83 : decode b_Parts_newUnitsAt 83 = .ok (.iconst 1, 1) := by decide +kernel
theorem d_Parts_newUnitsAt_84 : decode b_Parts_newUnitsAt 84 = .ok (.iadd, 1) := by decide +kernel
theorem d_Parts_newUnitsAt_85 : decode b_Parts_newUnitsAt 85 = .ok (.invokestatic 73, 3) := by decide +kernel
theorem d_Parts_newUnitsAt_88 : decode b_Parts_newUnitsAt 88 = .ok (.iinc 6 1, 3) := by decide +kernel
theorem d_Parts_newUnitsAt_91 : decode b_Parts_newUnitsAt 91 = .ok (.iload 8, 2) := by decide +kernel
theorem d_Parts_newUnitsAt_93 : decode b_Parts_newUnitsAt 93 = .ok (.iload_n 2, 1) := by decide +kernel
theorem d_Parts_newUnitsAt_94 : decode b_Parts_newUnitsAt 94 = .ok (.if_icmp .ne 12, 3) := by decide +kernel
theorem d_Parts_newUnitsAt_97 : decode b_Parts_newUnitsAt 97 = .ok (.iload 5, 2) := by decide +kernel
theorem d_Parts_newUnitsAt_99 : decode b_Parts_newUnitsAt 99 = .ok (.iload_n 3, 1) := by decide +kernel
theorem d_Parts_newUnitsAt_100 : decode b_Parts_newUnitsAt 100 = .ok (.if_icmp .ne 6, 3) := by decide +kernel
theorem d_Parts_newUnitsAt_103 : decode b_Parts_newUnitsAt 103 = .ok (.iload 6, 2) := by decide +kernel
theorem d_Parts_newUnitsAt_105 : decode b_Parts_newUnitsAt 105 = .ok (.ireturn, 1) := by decide +kernel
theorem d_Parts_newUnitsAt_106 : decode b_Parts_newUnitsAt 106 = .ok (.iinc 7 1, 3) := by decide +kernel
theorem d_Parts_newUnitsAt_109 : decode b_Parts_newUnitsAt 109 = .ok (.goto (-83), 3) := by decide +kernel
theorem d_Parts_newUnitsAt_112 : decode b_Parts_newUnitsAt 112 = .ok (.iload 6, 2) := by decide +kernel
theorem d_Parts_newUnitsAt_114 : decode b_Parts_newUnitsAt 114 = .ok (.ireturn, 1) := by decide +kernel
theorem d_Row_init_0 : decode b_Row_init 0 = .ok (.aload_n 0, 1) := by decide +kernel
theorem d_Row_init_1 : decode b_Row_init 1 = .ok (.invokespecial 3, 3) := by decide +kernel
theorem d_Row_init_4 : decode b_Row_init 4 = .ok (.aload_n 0, 1) := by decide +kernel
theorem d_Row_init_5 : decode b_Row_init 5 = .ok (.aload_n 1, 1) := by decide +kernel
theorem d_Row_init_6 : decode b_Row_init 6 = .ok (.putfield 9, 3) := by decide +kernel
theorem d_Row_init_9 : decode b_Row_init 9 = .ok (.aload_n 0, 1) := by decide +kernel
theorem d_Row_init_10 : decode b_Row_init 10 = .ok (.iload_n 2, 1) := by decide +kernel
theorem d_Row_init_11 : decode b_Row_init 11 = .ok (.iconst 0, 1) := by decide +kernel
theorem d_Row_init_12 : decode b_Row_init 12 = .ok (.invokestatic 15, 3) := by decide +kernel
theorem d_Row_init_15 : decode b_Row_init 15 = .ok (.newarray .long, 2) := by decide +kernel
theorem d_Row_init_17 : decode b_Row_init 17 = .ok (.putfield 21, 3) := by decide +kernel
theorem d_Row_init_20 : decode b_Row_init 20 = .ok (.aload_n 0, 1) := by decide +kernel
theorem d_Row_init_21 : decode b_Row_init 21 = .ok (.getfield 21, 3) := by decide +kernel
theorem d_Row_init_24 : decode b_Row_init 24 = .ok (.lload_n 3, 1) := by decide +kernel
theorem d_Row_init_25 : decode b_Row_init 25 = .ok (.invokestatic 25, 3) := by decide +kernel
theorem d_Row_init_28 : decode b_Row_init 28 = .ok (.return_, 1) := by decide +kernel
theorem d_Row_longAt_0 : decode b_Row_longAt 0 = .ok (.iload_n 1, 1) := by decide +kernel
theorem d_Row_longAt_1 : decode b_Row_longAt 1 = .ok (.ifCond .lt 21, 3) := by decide +kernel
theorem d_Row_longAt_4 : decode b_Row_longAt 4 = .ok (.iload_n 1, 1) := by decide +kernel
theorem d_Row_longAt_5 : decode b_Row_longAt 5 = .ok (.aload_n 0, 1) := by decide +kernel
theorem d_Row_longAt_6 : decode b_Row_longAt 6 = .ok (.getfield 21, 3) := by decide +kernel
theorem d_Row_longAt_9 : decode b_Row_longAt 9 = .ok (.arraylength, 1) := by decide +kernel
theorem d_Row_longAt_10 : decode b_Row_longAt 10 = .ok (.if_icmp .ge 12, 3) := by decide +kernel
theorem d_Row_longAt_13 : decode b_Row_longAt 13 = .ok (.aload_n 0, 1) := by decide +kernel
theorem d_Row_longAt_14 : decode b_Row_longAt 14 = .ok (.getfield 21, 3) := by decide +kernel
theorem d_Row_longAt_17 : decode b_Row_longAt 17 = .ok (.iload_n 1, 1) := by decide +kernel
theorem d_Row_longAt_18 : decode b_Row_longAt 18 = .ok (.laload, 1) := by decide +kernel
theorem d_Row_longAt_19 : decode b_Row_longAt 19 = .ok (.goto 6, 3) := by decide +kernel
theorem d_Row_longAt_22 : decode b_Row_longAt 22 = .ok (.ldc2_w 31, 3) := by decide +kernel
theorem d_Row_longAt_25 : decode b_Row_longAt 25 = .ok (.lreturn, 1) := by decide +kernel
theorem d_Row_at_0 : decode b_Row_at 0 = .ok (.iload_n 1, 1) := by decide +kernel
theorem d_Row_at_1 : decode b_Row_at 1 = .ok (.ifCond .lt 22, 3) := by decide +kernel
theorem d_Row_at_4 : decode b_Row_at 4 = .ok (.iload_n 1, 1) := by decide +kernel
theorem d_Row_at_5 : decode b_Row_at 5 = .ok (.aload_n 0, 1) := by decide +kernel
theorem d_Row_at_6 : decode b_Row_at 6 = .ok (.getfield 21, 3) := by decide +kernel
theorem d_Row_at_9 : decode b_Row_at 9 = .ok (.arraylength, 1) := by decide +kernel
theorem d_Row_at_10 : decode b_Row_at 10 = .ok (.if_icmp .ge 13, 3) := by decide +kernel
theorem d_Row_at_13 : decode b_Row_at 13 = .ok (.aload_n 0, 1) := by decide +kernel
theorem d_Row_at_14 : decode b_Row_at 14 = .ok (.getfield 21, 3) := by decide +kernel
theorem d_Row_at_17 : decode b_Row_at 17 = .ok (.iload_n 1, 1) := by decide +kernel
theorem d_Row_at_18 : decode b_Row_at 18 = .ok (.laload, 1) := by decide +kernel
theorem d_Row_at_19 : decode b_Row_at 19 = .ok (.l2i, 1) := by decide +kernel
theorem d_Row_at_20 : decode b_Row_at 20 = .ok (.goto 4, 3) := by decide +kernel
theorem d_Row_at_23 : decode b_Row_at 23 = .ok (.iconst (-1), 1) := by decide +kernel
theorem d_Row_at_24 : decode b_Row_at 24 = .ok (.ireturn, 1) := by decide +kernel
theorem d_Row_set_0 : decode b_Row_set 0 = .ok (.aload_n 0, 1) := by decide +kernel
theorem d_Row_set_1 : decode b_Row_set 1 = .ok (.iload_n 1, 1) := by decide +kernel
theorem d_Row_set_2 : decode b_Row_set 2 = .ok (.invokevirtual 33, 3) := by decide +kernel
theorem d_Row_set_5 : decode b_Row_set 5 = .ok (.lstore 4, 2) := by decide +kernel
theorem d_Row_set_7 : decode b_Row_set 7 = .ok (.lload 4, 2) := by decide +kernel
theorem d_Row_set_9 : decode b_Row_set 9 = .ok (.lload_n 2, 1) := by decide +kernel
theorem d_Row_set_10 : decode b_Row_set 10 = .ok (.lcmp, 1) := by decide +kernel
theorem d_Row_set_11 : decode b_Row_set 11 = .ok (.ifCond .eq 20, 3) := by decide +kernel
theorem d_Row_set_14 : decode b_Row_set 14 = .ok (.aload_n 0, 1) := by decide +kernel
theorem d_Row_set_15 : decode b_Row_set 15 = .ok (.getfield 9, 3) := by decide +kernel
theorem d_Row_set_18 : decode b_Row_set 18 = .ok (.aload_n 0, 1) := by decide +kernel
theorem d_Row_set_19 : decode b_Row_set 19 = .ok (.iload_n 1, 1) := by decide +kernel
theorem d_Row_set_20 : decode b_Row_set 20 = .ok (.lload 4, 2) := by decide +kernel
theorem d_Row_set_22 : decode b_Row_set 22 = .ok (.invokevirtual 37, 3) := by decide +kernel
theorem d_Row_set_25 : decode b_Row_set 25 = .ok (.aload_n 0, 1) := by decide +kernel
theorem d_Row_set_26 : decode b_Row_set 26 = .ok (.iload_n 1, 1) := by decide +kernel
theorem d_Row_set_27 : decode b_Row_set 27 = .ok (.lload_n 2, 1) := by decide +kernel
theorem d_Row_set_28 : decode b_Row_set 28 = .ok (.invokevirtual 43, 3) := by decide +kernel
theorem d_Row_set_31 : decode b_Row_set 31 = .ok (.return_, 1) := by decide +kernel
theorem d_Row_restore_0 : decode b_Row_restore 0 = .ok (.iload_n 1, 1) := by decide +kernel
theorem d_Row_restore_1 : decode b_Row_restore 1 = .ok (.ifCond .lt 19, 3) := by decide +kernel
theorem d_Row_restore_4 : decode b_Row_restore 4 = .ok (.iload_n 1, 1) := by decide +kernel
theorem d_Row_restore_5 : decode b_Row_restore 5 = .ok (.aload_n 0, 1) := by decide +kernel
theorem d_Row_restore_6 : decode b_Row_restore 6 = .ok (.getfield 21, 3) := by decide +kernel
theorem d_Row_restore_9 : decode b_Row_restore 9 = .ok (.arraylength, 1) := by decide +kernel
theorem d_Row_restore_10 : decode b_Row_restore 10 = .ok (.if_icmp .ge 10, 3) := by decide +kernel
theorem d_Row_restore_13 : decode b_Row_restore 13 = .ok (.aload_n 0, 1) := by decide +kernel
theorem d_Row_restore_14 : decode b_Row_restore 14 = .ok (.getfield 21, 3) := by decide +kernel
theorem d_Row_restore_17 : decode b_Row_restore 17 = .ok (.iload_n 1, 1) := by decide +kernel
theorem d_Row_restore_18 : decode b_Row_restore 18 = .ok (.lload_n 2, 1) := by decide +kernel
theorem d_Row_restore_19 : decode b_Row_restore 19 = .ok (.lastore, 1) := by decide +kernel
theorem d_Row_restore_20 : decode b_Row_restore 20 = .ok (.return_, 1) := by decide +kernel
theorem d_Sheets_init_0 : decode b_Sheets_init 0 = .ok (.aload_n 0, 1) := by decide +kernel
theorem d_Sheets_init_1 : decode b_Sheets_init 1 = .ok (.invokespecial 3, 3) := by decide +kernel
theorem d_Sheets_init_4 : decode b_Sheets_init 4 = .ok (.aload_n 0, 1) := by decide +kernel
theorem d_Sheets_init_5 : decode b_Sheets_init 5 = .ok (.new 9, 3) := by decide +kernel
theorem d_Sheets_init_8 : decode b_Sheets_init 8 = .ok (.dup, 1) := by decide +kernel
theorem d_Sheets_init_9 : decode b_Sheets_init 9 = .ok (.aload_n 1, 1) := by decide +kernel
theorem d_Sheets_init_10 : decode b_Sheets_init 10 = .ok (.iconst 2, 1) := by decide +kernel
theorem d_Sheets_init_11 : decode b_Sheets_init 11 = .ok (.lconst 0, 1) := by decide +kernel
theorem d_Sheets_init_12 : decode b_Sheets_init 12 = .ok (.invokespecial 11, 3) := by decide +kernel
theorem d_Sheets_init_15 : decode b_Sheets_init 15 = .ok (.putfield 14, 3) := by decide +kernel
theorem d_Sheets_init_18 : decode b_Sheets_init 18 = .ok (.aload_n 0, 1) := by decide +kernel
theorem d_Sheets_init_19 : decode b_Sheets_init 19 = .ok (.new 9, 3) := by decide +kernel
theorem d_Sheets_init_22 : decode b_Sheets_init 22 = .ok (.dup, 1) := by decide +kernel
theorem d_Sheets_init_23 : decode b_Sheets_init 23 = .ok (.aload_n 1, 1) := by decide +kernel
theorem d_Sheets_init_24 : decode b_Sheets_init 24 = .ok (.bipush 24, 2) := by decide +kernel
theorem d_Sheets_init_26 : decode b_Sheets_init 26 = .ok (.lconst 0, 1) := by decide +kernel
theorem d_Sheets_init_27 : decode b_Sheets_init 27 = .ok (.invokespecial 11, 3) := by decide +kernel
theorem d_Sheets_init_30 : decode b_Sheets_init 30 = .ok (.putfield 20, 3) := by decide +kernel
theorem d_Sheets_init_33 : decode b_Sheets_init 33 = .ok (.aload_n 0, 1) := by decide +kernel
theorem d_Sheets_init_34 : decode b_Sheets_init 34 = .ok (.new 9, 3) := by decide +kernel
theorem d_Sheets_init_37 : decode b_Sheets_init 37 = .ok (.dup, 1) := by decide +kernel
theorem d_Sheets_init_38 : decode b_Sheets_init 38 = .ok (.aload_n 1, 1) := by decide +kernel
theorem d_Sheets_init_39 : decode b_Sheets_init 39 = .ok (.bipush 60, 2) := by decide +kernel
theorem d_Sheets_init_41 : decode b_Sheets_init 41 = .ok (.ldc2_w 23, 3) := by decide +kernel
theorem d_Sheets_init_44 : decode b_Sheets_init 44 = .ok (.invokespecial 11, 3) := by decide +kernel
theorem d_Sheets_init_47 : decode b_Sheets_init 47 = .ok (.putfield 25, 3) := by decide +kernel
theorem d_Sheets_init_50 : decode b_Sheets_init 50 = .ok (.aload_n 0, 1) := by decide +kernel
theorem d_Sheets_init_51 : decode b_Sheets_init 51 = .ok (.new 9, 3) := by decide +kernel
theorem d_Sheets_init_54 : decode b_Sheets_init 54 = .ok (.dup, 1) := by decide +kernel
theorem d_Sheets_init_55 : decode b_Sheets_init 55 = .ok (.aload_n 1, 1) := by decide +kernel
theorem d_Sheets_init_56 : decode b_Sheets_init 56 = .ok (.bipush 60, 2) := by decide +kernel
theorem d_Sheets_init_58 : decode b_Sheets_init 58 = .ok (.ldc2_w 23, 3) := by decide +kernel
theorem d_Sheets_init_61 : decode b_Sheets_init 61 = .ok (.invokespecial 11, 3) := by decide +kernel
theorem d_Sheets_init_64 : decode b_Sheets_init 64 = .ok (.putfield 28, 3) := by decide +kernel
theorem d_Sheets_init_67 : decode b_Sheets_init 67 = .ok (.aload_n 0, 1) := by decide +kernel
theorem d_Sheets_init_68 : decode b_Sheets_init 68 = .ok (.new 9, 3) := by decide +kernel
theorem d_Sheets_init_71 : decode b_Sheets_init 71 = .ok (.dup, 1) := by decide +kernel
theorem d_Sheets_init_72 : decode b_Sheets_init 72 = .ok (.aload_n 1, 1) := by decide +kernel
theorem d_Sheets_init_73 : decode b_Sheets_init 73 = .ok (.bipush 84, 2) := by decide +kernel
theorem d_Sheets_init_75 : decode b_Sheets_init 75 = .ok (.ldc2_w 23, 3) := by decide +kernel
theorem d_Sheets_init_78 : decode b_Sheets_init 78 = .ok (.invokespecial 11, 3) := by decide +kernel
theorem d_Sheets_init_81 : decode b_Sheets_init 81 = .ok (.putfield 31, 3) := by decide +kernel
theorem d_Sheets_init_84 : decode b_Sheets_init 84 = .ok (.aload_n 0, 1) := by decide +kernel
theorem d_Sheets_init_85 : decode b_Sheets_init 85 = .ok (.new 9, 3) := by decide +kernel
theorem d_Sheets_init_88 : decode b_Sheets_init 88 = .ok (.dup, 1) := by decide +kernel
theorem d_Sheets_init_89 : decode b_Sheets_init 89 = .ok (.aload_n 1, 1) := by decide +kernel
theorem d_Sheets_init_90 : decode b_Sheets_init 90 = .ok (.sipush 1920, 3) := by decide +kernel
theorem d_Sheets_init_93 : decode b_Sheets_init 93 = .ok (.ldc2_w 23, 3) := by decide +kernel
theorem d_Sheets_init_96 : decode b_Sheets_init 96 = .ok (.invokespecial 11, 3) := by decide +kernel
theorem d_Sheets_init_99 : decode b_Sheets_init 99 = .ok (.putfield 34, 3) := by decide +kernel
theorem d_Sheets_init_102 : decode b_Sheets_init 102 = .ok (.aload_n 0, 1) := by decide +kernel
theorem d_Sheets_init_103 : decode b_Sheets_init 103 = .ok (.getfield 14, 3) := by decide +kernel
theorem d_Sheets_init_106 : decode b_Sheets_init 106 = .ok (.iconst 0, 1) := by decide +kernel
theorem d_Sheets_init_107 : decode b_Sheets_init 107 = .ok (.lconst 1, 1) := by decide +kernel
theorem d_Sheets_init_108 : decode b_Sheets_init 108 = .ok (.invokevirtual 37, 3) := by decide +kernel
theorem d_Sheets_init_111 : decode b_Sheets_init 111 = .ok (.return_, 1) := by decide +kernel
theorem d_Sheets_sheetCount_0 : decode b_Sheets_sheetCount 0 = .ok (.aload_n 0, 1) := by decide +kernel
theorem d_Sheets_sheetCount_1 : decode b_Sheets_sheetCount 1 = .ok (.getfield 14, 3) := by decide +kernel
theorem d_Sheets_sheetCount_4 : decode b_Sheets_sheetCount 4 = .ok (.iconst 0, 1) := by decide +kernel
theorem d_Sheets_sheetCount_5 : decode b_Sheets_sheetCount 5 = .ok (.invokevirtual 41, 3) := by decide +kernel
theorem d_Sheets_sheetCount_8 : decode b_Sheets_sheetCount 8 = .ok (.ireturn, 1) := by decide +kernel
theorem d_Sheets_placementsLeft_0 : decode b_Sheets_placementsLeft 0 = .ok (.bipush 60, 2) := by decide +kernel
theorem d_Sheets_placementsLeft_2 : decode b_Sheets_placementsLeft 2 = .ok (.aload_n 0, 1) := by decide +kernel
theorem d_Sheets_placementsLeft_3 : decode b_Sheets_placementsLeft 3 = .ok (.getfield 14, 3) := by decide +kernel
theorem d_Sheets_placementsLeft_6 : decode b_Sheets_placementsLeft 6 = .ok (.iconst 1, 1) := by decide +kernel
theorem d_Sheets_placementsLeft_7 : decode b_Sheets_placementsLeft 7 = .ok (.invokevirtual 41, 3) := by decide +kernel
theorem d_Sheets_placementsLeft_10 : decode b_Sheets_placementsLeft 10 = .ok (.isub, 1) := by decide +kernel
theorem d_Sheets_placementsLeft_11 : decode b_Sheets_placementsLeft 11 = .ok (.ireturn, 1) := by decide +kernel
theorem d_Sheets_isSheet_0 : decode b_Sheets_isSheet 0 = .ok (.iload_n 1, 1) := by decide +kernel
theorem d_Sheets_isSheet_1 : decode b_Sheets_isSheet 1 = .ok (.ifCond .lt 15, 3) := by decide +kernel
theorem d_Sheets_isSheet_4 : decode b_Sheets_isSheet 4 = .ok (.iload_n 1, 1) := by decide +kernel
theorem d_Sheets_isSheet_5 : decode b_Sheets_isSheet 5 = .ok (.aload_n 0, 1) := by decide +kernel
theorem d_Sheets_isSheet_6 : decode b_Sheets_isSheet 6 = .ok (.invokevirtual 45, 3) := by decide +kernel
theorem d_Sheets_isSheet_9 : decode b_Sheets_isSheet 9 = .ok (.if_icmp .ge 7, 3) := by decide +kernel
theorem d_Sheets_isSheet_12 : decode b_Sheets_isSheet 12 = .ok (.iconst 1, 1) := by decide +kernel
theorem d_Sheets_isSheet_13 : decode b_Sheets_isSheet 13 = .ok (.goto 4, 3) := by decide +kernel
theorem d_Sheets_isSheet_16 : decode b_Sheets_isSheet 16 = .ok (.iconst 0, 1) := by decide +kernel
theorem d_Sheets_isSheet_17 : decode b_Sheets_isSheet 17 = .ok (.ireturn, 1) := by decide +kernel
theorem d_Sheets_isPlacement_0 : decode b_Sheets_isPlacement 0 = .ok (.aload_n 0, 1) := by decide +kernel
theorem d_Sheets_isPlacement_1 : decode b_Sheets_isPlacement 1 = .ok (.iload_n 1, 1) := by decide +kernel
theorem d_Sheets_isPlacement_2 : decode b_Sheets_isPlacement 2 = .ok (.invokevirtual 49, 3) := by decide +kernel
theorem d_Sheets_isPlacement_5 : decode b_Sheets_isPlacement 5 = .ok (.iconst (-1), 1) := by decide +kernel
theorem d_Sheets_isPlacement_6 : decode b_Sheets_isPlacement 6 = .ok (.if_icmp .eq 7, 3) := by decide +kernel
theorem d_Sheets_isPlacement_9 : decode b_Sheets_isPlacement 9 = .ok (.iconst 1, 1) := by decide +kernel
theorem d_Sheets_isPlacement_10 : decode b_Sheets_isPlacement 10 = .ok (.goto 4, 3) := by decide +kernel
theorem d_Sheets_isPlacement_13 : decode b_Sheets_isPlacement 13 = .ok (.iconst 0, 1) := by decide +kernel
theorem d_Sheets_isPlacement_14 : decode b_Sheets_isPlacement 14 = .ok (.ireturn, 1) := by decide +kernel
theorem d_Sheets_sheetOf_0 : decode b_Sheets_sheetOf 0 = .ok (.aload_n 0, 1) := by decide +kernel
theorem d_Sheets_sheetOf_1 : decode b_Sheets_sheetOf 1 = .ok (.getfield 25, 3) := by decide +kernel
theorem d_Sheets_sheetOf_4 : decode b_Sheets_sheetOf 4 = .ok (.iload_n 1, 1) := by decide +kernel
theorem d_Sheets_sheetOf_5 : decode b_Sheets_sheetOf 5 = .ok (.invokevirtual 41, 3) := by decide +kernel
theorem d_Sheets_sheetOf_8 : decode b_Sheets_sheetOf 8 = .ok (.ireturn, 1) := by decide +kernel
theorem d_Sheets_parentOf_0 : decode b_Sheets_parentOf 0 = .ok (.aload_n 0, 1) := by decide +kernel
theorem d_Sheets_parentOf_1 : decode b_Sheets_parentOf 1 = .ok (.getfield 28, 3) := by decide +kernel
theorem d_Sheets_parentOf_4 : decode b_Sheets_parentOf 4 = .ok (.iload_n 1, 1) := by decide +kernel
theorem d_Sheets_parentOf_5 : decode b_Sheets_parentOf 5 = .ok (.invokevirtual 41, 3) := by decide +kernel
theorem d_Sheets_parentOf_8 : decode b_Sheets_parentOf 8 = .ok (.ireturn, 1) := by decide +kernel
theorem d_Sheets_firstOn_0 : decode b_Sheets_firstOn 0 = .ok (.aload_n 0, 1) := by decide +kernel
theorem d_Sheets_firstOn_1 : decode b_Sheets_firstOn 1 = .ok (.getfield 31, 3) := by decide +kernel
theorem d_Sheets_firstOn_4 : decode b_Sheets_firstOn 4 = .ok (.aload_n 0, 1) := by decide +kernel
theorem d_Sheets_firstOn_5 : decode b_Sheets_firstOn 5 = .ok (.iload_n 1, 1) := by decide +kernel
theorem d_Sheets_firstOn_6 : decode b_Sheets_firstOn 6 = .ok (.invokevirtual 52, 3) := by decide +kernel
theorem d_Sheets_firstOn_9 : decode b_Sheets_firstOn 9 = .ok (.invokevirtual 41, 3) := by decide +kernel
theorem d_Sheets_firstOn_12 : decode b_Sheets_firstOn 12 = .ok (.ireturn, 1) := by decide +kernel
theorem d_Sheets_nextOf_0 : decode b_Sheets_nextOf 0 = .ok (.aload_n 0, 1) := by decide +kernel
theorem d_Sheets_nextOf_1 : decode b_Sheets_nextOf 1 = .ok (.getfield 31, 3) := by decide +kernel
theorem d_Sheets_nextOf_4 : decode b_Sheets_nextOf 4 = .ok (.iload_n 1, 1) := by decide +kernel
theorem d_Sheets_nextOf_5 : decode b_Sheets_nextOf 5 = .ok (.invokevirtual 41, 3) := by decide +kernel
theorem d_Sheets_nextOf_8 : decode b_Sheets_nextOf 8 = .ok (.ireturn, 1) := by decide +kernel
theorem d_Sheets_placementsOn_0 : decode b_Sheets_placementsOn 0 = .ok (.iconst 0, 1) := by decide +kernel
theorem d_Sheets_placementsOn_1 : decode b_Sheets_placementsOn 1 = .ok (.istore_n 2, 1) := by decide +kernel
theorem d_Sheets_placementsOn_2 : decode b_Sheets_placementsOn 2 = .ok (.aload_n 0, 1) := by decide +kernel
theorem d_Sheets_placementsOn_3 : decode b_Sheets_placementsOn 3 = .ok (.iload_n 1, 1) := by decide +kernel
theorem d_Sheets_placementsOn_4 : decode b_Sheets_placementsOn 4 = .ok (.invokevirtual 55, 3) := by decide +kernel
theorem d_Sheets_placementsOn_7 : decode b_Sheets_placementsOn 7 = .ok (.istore_n 3, 1) := by decide +kernel
theorem d_Sheets_placementsOn_8 : decode b_Sheets_placementsOn 8 = .ok (.iload_n 3, 1) := by decide +kernel
theorem d_Sheets_placementsOn_9 : decode b_Sheets_placementsOn 9 = .ok (.iconst (-1), 1) := by decide +kernel
theorem d_Sheets_placementsOn_10 : decode b_Sheets_placementsOn 10 = .ok (.if_icmp .eq 21, 3) := by decide +kernel
theorem d_Sheets_placementsOn_13 : decode b_Sheets_placementsOn 13 = .ok (.iload_n 2, 1) := by decide +kernel
theorem d_Sheets_placementsOn_14 : decode b_Sheets_placementsOn 14 = .ok (.bipush 60, 2) := by decide +kernel
theorem d_Sheets_placementsOn_16 : decode b_Sheets_placementsOn 16 = .ok (.if_icmp .ge 15, 3) := by decide +kernel
theorem d_Sheets_placementsOn_19 : decode b_Sheets_placementsOn 19 = .ok (.iinc 2 1, 3) := by decide +kernel
theorem d_Sheets_placementsOn_22 : decode b_Sheets_placementsOn 22 = .ok (.aload_n 0, 1) := by decide +kernel
theorem d_Sheets_placementsOn_23 : decode b_Sheets_placementsOn 23 = .ok (.iload_n 3, 1) := by decide +kernel
theorem d_Sheets_placementsOn_24 : decode b_Sheets_placementsOn 24 = .ok (.invokevirtual 58, 3) := by decide +kernel
theorem d_Sheets_placementsOn_27 : decode b_Sheets_placementsOn 27 = .ok (.istore_n 3, 1) := by decide +kernel
theorem d_Sheets_placementsOn_28 : decode b_Sheets_placementsOn 28 = .ok (.goto (-20), 3) := by decide +kernel
theorem d_Sheets_placementsOn_31 : decode b_Sheets_placementsOn 31 = .ok (.iload_n 2, 1) := by decide +kernel
theorem d_Sheets_placementsOn_32 : decode b_Sheets_placementsOn 32 = .ok (.ireturn, 1) := by decide +kernel
theorem d_Sheets_holds_0 : decode b_Sheets_holds 0 = .ok (.iconst 1, 1) := by decide +kernel
theorem d_Sheets_holds_1 : decode b_Sheets_holds 1 = .ok (.iload_n 1, 1) := by decide +kernel
theorem d_Sheets_holds_2 : decode b_Sheets_holds 2 = .ok (.ishl, 1) := by decide +kernel
theorem d_Sheets_holds_3 : decode b_Sheets_holds 3 = .ok (.istore_n 3, 1) := by decide +kernel
theorem d_Sheets_holds_4 : decode b_Sheets_holds 4 = .ok (.iconst 0, 1) := by decide +kernel
theorem d_Sheets_holds_5 : decode b_Sheets_holds 5 = .ok (.istore 4, 2) := by decide +kernel
theorem d_Sheets_holds_7 : decode b_Sheets_holds 7 = .ok (.iconst 0, 1) := by decide +kernel
theorem d_Sheets_holds_8 : decode b_Sheets_holds 8 = .ok (.istore 5, 2) := by decide +kernel
theorem d_Sheets_holds_10 : decode b_Sheets_holds 10 = .ok (.iload 5, 2) := by decide +kernel
theorem d_Sheets_holds_12 : decode b_Sheets_holds 12 = .ok (.bipush 24, 2) := by decide +kernel
theorem d_Sheets_holds_14 : decode b_Sheets_holds 14 = .ok (.if_icmp .ge 24, 3) := by decide +kernel
theorem d_Sheets_holds_17 : decode b_Sheets_holds 17 = .ok (.iload_n 3, 1) := by decide +kernel
theorem d_Sheets_holds_18 : decode b_Sheets_holds 18 = .ok (.iload 4, 2) := by decide +kernel
theorem d_Sheets_holds_20 : decode b_Sheets_holds 20 = .ok (.if_icmp .eq 18, 3) := by decide +kernel
theorem d_Sheets_holds_23 : decode b_Sheets_holds 23 = .ok (.iload_n 3, 1) := by decide +kernel
theorem d_Sheets_holds_24 : decode b_Sheets_holds 24 = .ok (.istore 4, 2) := by decide +kernel
theorem d_Sheets_holds_26 : decode b_Sheets_holds 26 = .ok (.aload_n 0, 1) := by decide +kernel
theorem d_Sheets_holds_27 : decode b_Sheets_holds 27 = .ok (.iload_n 3, 1) := by decide +kernel
theorem d_Sheets_holds_28 : decode b_Sheets_holds 28 = .ok (.invokevirtual 61, 3) := by decide +kernel
theorem d_Sheets_holds_31 : decode b_Sheets_holds 31 = .ok (.istore_n 3, 1) := by decide +kernel
theorem d_Sheets_holds_32 : decode b_Sheets_holds 32 = .ok (.iinc 5 1, 3) := by decide +kernel
theorem d_Sheets_holds_35 : decode b_Sheets_holds 35 = .ok (.goto (-25), 3) := by decide +kernel
theorem d_Sheets_holds_38 : decode b_Sheets_holds 38 = .ok (.iload_n 3, 1) := by decide +kernel
theorem d_Sheets_holds_39 : decode b_Sheets_holds 39 = .ok (.iconst 1, 1) := by decide +kernel
theorem d_Sheets_holds_40 : decode b_Sheets_holds 40 = .ok (.iload_n 2, 1) := by decide +kernel
theorem d_Sheets_holds_41 : decode b_Sheets_holds 41 = .ok (.ishl, 1) := by decide +kernel
theorem d_Sheets_holds_42 : decode b_Sheets_holds 42 = .ok (.iand, 1) := by decide +kernel
theorem d_Sheets_holds_43 : decode b_Sheets_holds 43 = .ok (.ifCond .eq 7, 3) := by decide +kernel
theorem d_Sheets_holds_46 : decode b_Sheets_holds 46 = .ok (.iconst 1, 1) := by decide +kernel
theorem d_Sheets_holds_47 : decode b_Sheets_holds 47 = .ok (.goto 4, 3) := by decide +kernel
theorem d_Sheets_holds_50 : decode b_Sheets_holds 50 = .ok (.iconst 0, 1) := by decide +kernel
theorem d_Sheets_holds_51 : decode b_Sheets_holds 51 = .ok (.ireturn, 1) := by decide +kernel
theorem d_Sheets_withPlacedOn_0 : decode b_Sheets_withPlacedOn 0 = .ok (.iload_n 1, 1) := by decide +kernel
theorem d_Sheets_withPlacedOn_1 : decode b_Sheets_withPlacedOn 1 = .ok (.istore_n 2, 1) := by decide +kernel
theorem d_Sheets_withPlacedOn_2 : decode b_Sheets_withPlacedOn 2 = .ok (.iconst 0, 1) := by decide +kernel
theorem d_Sheets_withPlacedOn_3 : decode b_Sheets_withPlacedOn 3 = .ok (.istore_n 3, 1) := by decide +kernel
theorem d_Sheets_withPlacedOn_4 : decode b_Sheets_withPlacedOn 4 = .ok (.iload_n 3, 1) := by decide +kernel
theorem d_Sheets_withPlacedOn_5 : decode b_Sheets_withPlacedOn 5 = .ok (.bipush 60, 2) := by decide +kernel
theorem d_Sheets_withPlacedOn_7 : decode b_Sheets_withPlacedOn 7 = .ok (.if_icmp .ge 39, 3) := by decide +kernel
theorem d_Sheets_withPlacedOn_10 : decode b_Sheets_withPlacedOn 10 = .ok (.aload_n 0, 1) := by decide +kernel
theorem d_Sheets_withPlacedOn_11 : decode b_Sheets_withPlacedOn 11 = .ok (.iload_n 3, 1) := by decide +kernel
theorem d_Sheets_withPlacedOn_12 : decode b_Sheets_withPlacedOn 12 = .ok (.invokevirtual 64, 3) := by decide +kernel
theorem d_Sheets_withPlacedOn_15 : decode b_Sheets_withPlacedOn 15 = .ok (.ifCond .eq 25, 3) := by decide +kernel
theorem d_Sheets_withPlacedOn_18 : decode b_Sheets_withPlacedOn 18 = .ok (.iload_n 2, 1) := by decide +kernel
theorem d_Sheets_withPlacedOn_19 : decode b_Sheets_withPlacedOn 19 = .ok (.iconst 1, 1) := by decide +kernel
theorem d_Sheets_withPlacedOn_20 : decode b_Sheets_withPlacedOn 20 = .ok (.aload_n 0, 1) := by decide +kernel
theorem d_Sheets_withPlacedOn_21 : decode b_Sheets_withPlacedOn 21 = .ok (.iload_n 3, 1) := by decide +kernel
theorem d_Sheets_withPlacedOn_22 : decode b_Sheets_withPlacedOn 22 = .ok (.invokevirtual 49, 3) := by decide +kernel
theorem d_Sheets_withPlacedOn_25 : decode b_Sheets_withPlacedOn 25 = .ok (.ishl, 1) := by decide +kernel
theorem d_Sheets_withPlacedOn_26 : decode b_Sheets_withPlacedOn 26 = .ok (.iand, 1) := by decide +kernel
theorem d_Sheets_withPlacedOn_27 : decode b_Sheets_withPlacedOn 27 = .ok (.ifCond .eq 13, 3) := by decide +kernel
theorem d_Sheets_withPlacedOn_30 : decode b_Sheets_withPlacedOn 30 = .ok (.iload_n 2, 1) := by decide +kernel
theorem d_Sheets_withPlacedOn_31 : decode b_Sheets_withPlacedOn 31 = .ok (.iconst 1, 1) := by decide +kernel
theorem d_Sheets_withPlacedOn_32 : decode b_Sheets_withPlacedOn 32 = .ok (.aload_n 0, 1) := by decide +kernel
theorem d_Sheets_withPlacedOn_33 : decode b_Sheets_withPlacedOn 33 = .ok (.iload_n 3, 1) := by decide +kernel
theorem d_Sheets_withPlacedOn_34 : decode b_Sheets_withPlacedOn 34 = .ok (.invokevirtual 68, 3) := by decide +kernel
theorem d_Sheets_withPlacedOn_37 : decode b_Sheets_withPlacedOn 37 = .ok (.ishl, 1) := by decide +kernel
theorem d_Sheets_withPlacedOn_38 : decode b_Sheets_withPlacedOn 38 = .ok (.ior, 1) := by decide +kernel
theorem d_Sheets_withPlacedOn_39 : decode b_Sheets_withPlacedOn 39 = .ok (.istore_n 2, 1) := by decide +kernel
theorem d_Sheets_withPlacedOn_40 : decode b_Sheets_withPlacedOn 40 = .ok (.iinc 3 1, 3) := by decide +kernel
theorem d_Sheets_withPlacedOn_43 : decode b_Sheets_withPlacedOn 43 = .ok (.goto (-39), 3) := by decide +kernel
theorem d_Sheets_withPlacedOn_46 : decode b_Sheets_withPlacedOn 46 = .ok (.iload_n 2, 1) := by decide +kernel
theorem d_Sheets_withPlacedOn_47 : decode b_Sheets_withPlacedOn 47 = .ok (.ireturn, 1) := by decide +kernel
theorem d_Sheets_addSheet_0 : decode b_Sheets_addSheet 0 = .ok (.aload_n 0, 1) := by decide +kernel
theorem d_Sheets_addSheet_1 : decode b_Sheets_addSheet 1 = .ok (.invokevirtual 45, 3) := by decide +kernel
theorem d_Sheets_addSheet_4 : decode b_Sheets_addSheet 4 = .ok (.istore_n 1, 1) := by decide +kernel
theorem d_Sheets_addSheet_5 : decode b_Sheets_addSheet 5 = .ok (.aload_n 0, 1) := by decide +kernel
theorem d_Sheets_addSheet_6 : decode b_Sheets_addSheet 6 = .ok (.getfield 14, 3) := by decide +kernel
theorem d_Sheets_addSheet_9 : decode b_Sheets_addSheet 9 = .ok (.iconst 0, 1) := by decide +kernel
theorem d_Sheets_addSheet_10 : decode b_Sheets_addSheet 10 = .ok (.iload_n 1, 1) := by decide +kernel
theorem d_Sheets_addSheet_11 : decode b_Sheets_addSheet 11 = .ok (.iconst 1, 1) := by decide +kernel
theorem d_Sheets_addSheet_12 : decode b_Sheets_addSheet 12 = .ok (.iadd, 1) := by decide +kernel
theorem d_Sheets_addSheet_13 : decode b_Sheets_addSheet 13 = .ok (.i2l, 1) := by decide +kernel
theorem d_Sheets_addSheet_14 : decode b_Sheets_addSheet 14 = .ok (.invokevirtual 71, 3) := by decide +kernel
theorem d_Sheets_addSheet_17 : decode b_Sheets_addSheet 17 = .ok (.iload_n 1, 1) := by decide +kernel
theorem d_Sheets_addSheet_18 : decode b_Sheets_addSheet 18 = .ok (.ireturn, 1) := by decide +kernel
theorem d_Sheets_addSheetLike_0 : decode b_Sheets_addSheetLike 0 = .ok (.aload_n 0, 1) := by decide +kernel
theorem d_Sheets_addSheetLike_1 : decode b_Sheets_addSheetLike 1 = .ok (.invokevirtual 74, 3) := by decide +kernel
theorem d_Sheets_addSheetLike_4 : decode b_Sheets_addSheetLike 4 = .ok (.istore_n 2, 1) := by decide +kernel
theorem d_Sheets_addSheetLike_5 : decode b_Sheets_addSheetLike 5 = .ok (.aload_n 0, 1) := by decide +kernel
theorem d_Sheets_addSheetLike_6 : decode b_Sheets_addSheetLike 6 = .ok (.getfield 20, 3) := by decide +kernel
theorem d_Sheets_addSheetLike_9 : decode b_Sheets_addSheetLike 9 = .ok (.iload_n 2, 1) := by decide +kernel
theorem d_Sheets_addSheetLike_10 : decode b_Sheets_addSheetLike 10 = .ok (.aload_n 0, 1) := by decide +kernel
theorem d_Sheets_addSheetLike_11 : decode b_Sheets_addSheetLike 11 = .ok (.getfield 20, 3) := by decide +kernel
theorem d_Sheets_addSheetLike_14 : decode b_Sheets_addSheetLike 14 = .ok (.iload_n 1, 1) := by decide +kernel
theorem d_Sheets_addSheetLike_15 : decode b_Sheets_addSheetLike 15 = .ok (.invokevirtual 41, 3) := by decide +kernel
theorem d_Sheets_addSheetLike_18 : decode b_Sheets_addSheetLike 18 = .ok (.i2l, 1) := by decide +kernel
theorem d_Sheets_addSheetLike_19 : decode b_Sheets_addSheetLike 19 = .ok (.invokevirtual 71, 3) := by decide +kernel
theorem d_Sheets_addSheetLike_22 : decode b_Sheets_addSheetLike 22 = .ok (.aload_n 0, 1) := by decide +kernel
theorem d_Sheets_addSheetLike_23 : decode b_Sheets_addSheetLike 23 = .ok (.iload_n 1, 1) := by decide +kernel
theorem d_Sheets_addSheetLike_24 : decode b_Sheets_addSheetLike 24 = .ok (.invokevirtual 55, 3) := by decide +kernel
theorem d_Sheets_addSheetLike_27 : decode b_Sheets_addSheetLike 27 = .ok (.istore_n 3, 1) := by decide +kernel
theorem d_Sheets_addSheetLike_28 : decode b_Sheets_addSheetLike 28 = .ok (.iconst 0, 1) := by decide +kernel
theorem d_Sheets_addSheetLike_29 : decode b_Sheets_addSheetLike 29 = .ok (.istore 4, 2) := by decide +kernel
theorem d_Sheets_addSheetLike_31 : decode b_Sheets_addSheetLike 31 = .ok (.iload 4, 2) := by decide +kernel
theorem d_Sheets_addSheetLike_33 : decode b_Sheets_addSheetLike 33 = .ok (.bipush 60, 2) := by decide +kernel
theorem d_Sheets_addSheetLike_35 : decode b_Sheets_addSheetLike 35 = .ok (.if_icmp .ge 35, 3) := by decide +kernel
theorem d_Sheets_addSheetLike_38 : decode b_Sheets_addSheetLike 38 = .ok (.iload_n 3, 1) := by decide +kernel
theorem d_Sheets_addSheetLike_39 : decode b_Sheets_addSheetLike 39 = .ok (.iconst (-1), 1) := by decide +kernel
theorem d_Sheets_addSheetLike_40 : decode b_Sheets_addSheetLike 40 = .ok (.if_icmp .eq 30, 3) := by decide +kernel
theorem d_Sheets_addSheetLike_43 : decode b_Sheets_addSheetLike 43 = .ok (.aload_n 0, 1) := by decide +kernel
theorem d_Sheets_addSheetLike_44 : decode b_Sheets_addSheetLike 44 = .ok (.iload_n 3, 1) := by decide +kernel
theorem d_Sheets_addSheetLike_45 : decode b_Sheets_addSheetLike 45 = .ok (.aload_n 0, 1) := by decide +kernel
theorem d_Sheets_addSheetLike_46 : decode b_Sheets_addSheetLike 46 = .ok (.iload_n 2, 1) := by decide +kernel
theorem d_Sheets_addSheetLike_47 : decode b_Sheets_addSheetLike 47 = .ok (.aload_n 0, 1) := by decide +kernel
theorem d_Sheets_addSheetLike_48 : decode b_Sheets_addSheetLike 48 = .ok (.iload_n 3, 1) := by decide +kernel
theorem d_Sheets_addSheetLike_49 : decode b_Sheets_addSheetLike 49 = .ok (.invokevirtual 68, 3) := by decide +kernel
theorem d_Sheets_addSheetLike_52 : decode b_Sheets_addSheetLike 52 = .ok (.invokevirtual 77, 3) := by decide +kernel
theorem d_Sheets_addSheetLike_55 : decode b_Sheets_addSheetLike 55 = .ok (.invokevirtual 81, 3) := by decide +kernel
theorem d_Sheets_addSheetLike_58 : decode b_Sheets_addSheetLike 58 = .ok (.aload_n 0, 1) := by decide +kernel
theorem d_Sheets_addSheetLike_59 : decode b_Sheets_addSheetLike 59 = .ok (.iload_n 3, 1) := by decide +kernel
theorem d_Sheets_addSheetLike_60 : decode b_Sheets_addSheetLike 60 = .ok (.invokevirtual 58, 3) := by decide +kernel
theorem d_Sheets_addSheetLike_63 : decode b_Sheets_addSheetLike 63 = .ok (.istore_n 3, 1) := by decide +kernel
theorem d_Sheets_addSheetLike_64 : decode b_Sheets_addSheetLike 64 = .ok (.iinc 4 1, 3) := by decide +kernel
theorem d_Sheets_addSheetLike_67 : decode b_Sheets_addSheetLike 67 = .ok (.goto (-36), 3) := by decide +kernel
theorem d_Sheets_addSheetLike_70 : decode b_Sheets_addSheetLike 70 = .ok (.iload_n 2, 1) := by decide +kernel
theorem d_Sheets_addSheetLike_71 : decode b_Sheets_addSheetLike 71 = .ok (.ireturn, 1) := by decide +kernel
theorem d_Sheets_copyJoints_0 : decode b_Sheets_copyJoints 0 = .ok (.iconst 0, 1) := by decide +kernel
theorem d_Sheets_copyJoints_1 : decode b_Sheets_copyJoints 1 = .ok (.istore_n 3, 1) := by decide +kernel
theorem d_Sheets_copyJoints_2 : decode b_Sheets_copyJoints 2 = .ok (.iload_n 3, 1) := by decide +kernel
theorem d_Sheets_copyJoints_3 : decode b_Sheets_copyJoints 3 = .ok (.bipush 32, 2) := by decide +kernel
theorem d_Sheets_copyJoints_5 : decode b_Sheets_copyJoints 5 = .ok (.if_icmp .ge 21, 3) := by decide +kernel
theorem d_Sheets_copyJoints_8 : decode b_Sheets_copyJoints 8 = .ok (.aload_n 0, 1) := by decide +kernel
theorem d_Sheets_copyJoints_9 : decode b_Sheets_copyJoints 9 = .ok (.iload_n 2, 1) := by decide +kernel
theorem d_Sheets_copyJoints_10 : decode b_Sheets_copyJoints 10 = .ok (.iload_n 3, 1) := by decide +kernel
theorem d_Sheets_copyJoints_11 : decode b_Sheets_copyJoints 11 = .ok (.aload_n 0, 1) := by decide +kernel
theorem d_Sheets_copyJoints_12 : decode b_Sheets_copyJoints 12 = .ok (.iload_n 1, 1) := by decide +kernel
theorem d_Sheets_copyJoints_13 : decode b_Sheets_copyJoints 13 = .ok (.iload_n 3, 1) := by decide +kernel
theorem d_Sheets_copyJoints_14 : decode b_Sheets_copyJoints 14 = .ok (.invokevirtual 85, 3) := by decide +kernel
theorem d_Sheets_copyJoints_17 : decode b_Sheets_copyJoints 17 = .ok (.invokevirtual 88, 3) := by decide +kernel
theorem d_Sheets_copyJoints_20 : decode b_Sheets_copyJoints 20 = .ok (.iinc 3 1, 3) := by decide +kernel
theorem d_Sheets_copyJoints_23 : decode b_Sheets_copyJoints 23 = .ok (.goto (-21), 3) := by decide +kernel
theorem d_Sheets_copyJoints_26 : decode b_Sheets_copyJoints 26 = .ok (.return_, 1) := by decide +kernel
theorem d_Sheets_addPlacement_0 : decode b_Sheets_addPlacement 0 = .ok (.aload_n 0, 1) := by decide +kernel
theorem d_Sheets_addPlacement_1 : decode b_Sheets_addPlacement 1 = .ok (.getfield 14, 3) := by decide +kernel
theorem d_Sheets_addPlacement_4 : decode b_Sheets_addPlacement 4 = .ok (.iconst 1, 1) := by decide +kernel
theorem d_Sheets_addPlacement_5 : decode b_Sheets_addPlacement 5 = .ok (.invokevirtual 41, 3) := by decide +kernel
theorem d_Sheets_addPlacement_8 : decode b_Sheets_addPlacement 8 = .ok (.istore_n 3, 1) := by decide +kernel
theorem d_Sheets_addPlacement_9 : decode b_Sheets_addPlacement 9 = .ok (.aload_n 0, 1) := by decide +kernel
theorem d_Sheets_addPlacement_10 : decode b_Sheets_addPlacement 10 = .ok (.getfield 14, 3) := by decide +kernel
theorem d_Sheets_addPlacement_13 : decode b_Sheets_addPlacement 13 = .ok (.iconst 1, 1) := by decide +kernel
theorem d_Sheets_addPlacement_14 : decode b_Sheets_addPlacement 14 = .ok (.iload_n 3, 1) := by decide +kernel
theorem d_Sheets_addPlacement_15 : decode b_Sheets_addPlacement 15 = .ok (.iconst 1, 1) := by decide +kernel
theorem d_Sheets_addPlacement_16 : decode b_Sheets_addPlacement 16 = .ok (.iadd, 1) := by decide +kernel
theorem d_Sheets_addPlacement_17 : decode b_Sheets_addPlacement 17 = .ok (.i2l, 1) := by decide +kernel
theorem d_Sheets_addPlacement_18 : decode b_Sheets_addPlacement 18 = .ok (.invokevirtual 71, 3) := by decide +kernel
theorem d_Sheets_addPlacement_21 : decode b_Sheets_addPlacement 21 = .ok (.aload_n 0, 1) := by decide +kernel
theorem d_Sheets_addPlacement_22 : decode b_Sheets_addPlacement 22 = .ok (.getfield 25, 3) := by decide +kernel
theorem d_Sheets_addPlacement_25 : decode b_Sheets_addPlacement 25 = .ok (.iload_n 3, 1) := by decide +kernel
theorem d_Sheets_addPlacement_26 : decode b_Sheets_addPlacement 26 = .ok (.iload_n 2, 1) := by decide +kernel
theorem d_Sheets_addPlacement_27 : decode b_Sheets_addPlacement 27 = .ok (.i2l, 1) := by decide +kernel
theorem d_Sheets_addPlacement_28 : decode b_Sheets_addPlacement 28 = .ok (.invokevirtual 71, 3) := by decide +kernel
theorem d_Sheets_addPlacement_31 : decode b_Sheets_addPlacement 31 = .ok (.aload_n 0, 1) := by decide +kernel
theorem d_Sheets_addPlacement_32 : decode b_Sheets_addPlacement 32 = .ok (.iload_n 3, 1) := by decide +kernel
theorem d_Sheets_addPlacement_33 : decode b_Sheets_addPlacement 33 = .ok (.iload_n 1, 1) := by decide +kernel
theorem d_Sheets_addPlacement_34 : decode b_Sheets_addPlacement 34 = .ok (.invokevirtual 92, 3) := by decide +kernel
theorem d_Sheets_addPlacement_37 : decode b_Sheets_addPlacement 37 = .ok (.iload_n 3, 1) := by decide +kernel
theorem d_Sheets_addPlacement_38 : decode b_Sheets_addPlacement 38 = .ok (.ireturn, 1) := by decide +kernel
theorem d_Sheets_takeAway_0 : decode b_Sheets_takeAway 0 = .ok (.aload_n 0, 1) := by decide +kernel
theorem d_Sheets_takeAway_1 : decode b_Sheets_takeAway 1 = .ok (.iload_n 1, 1) := by decide +kernel
theorem d_Sheets_takeAway_2 : decode b_Sheets_takeAway 2 = .ok (.invokevirtual 95, 3) := by decide +kernel
theorem d_Sheets_takeAway_5 : decode b_Sheets_takeAway 5 = .ok (.aload_n 0, 1) := by decide +kernel
theorem d_Sheets_takeAway_6 : decode b_Sheets_takeAway 6 = .ok (.getfield 28, 3) := by decide +kernel
theorem d_Sheets_takeAway_9 : decode b_Sheets_takeAway 9 = .ok (.iload_n 1, 1) := by decide +kernel
theorem d_Sheets_takeAway_10 : decode b_Sheets_takeAway 10 = .ok (.ldc2_w 23, 3) := by decide +kernel
theorem d_Sheets_takeAway_13 : decode b_Sheets_takeAway 13 = .ok (.invokevirtual 71, 3) := by decide +kernel
theorem d_Sheets_takeAway_16 : decode b_Sheets_takeAway 16 = .ok (.return_, 1) := by decide +kernel
theorem d_Sheets_bringTo_0 : decode b_Sheets_bringTo 0 = .ok (.aload_n 0, 1) := by decide +kernel
theorem d_Sheets_bringTo_1 : decode b_Sheets_bringTo 1 = .ok (.iload_n 1, 1) := by decide +kernel
theorem d_Sheets_bringTo_2 : decode b_Sheets_bringTo 2 = .ok (.invokevirtual 95, 3) := by decide +kernel
theorem d_Sheets_bringTo_5 : decode b_Sheets_bringTo 5 = .ok (.aload_n 0, 1) := by decide +kernel
theorem d_Sheets_bringTo_6 : decode b_Sheets_bringTo 6 = .ok (.iload_n 1, 1) := by decide +kernel
theorem d_Sheets_bringTo_7 : decode b_Sheets_bringTo 7 = .ok (.iload_n 2, 1) := by decide +kernel
theorem d_Sheets_bringTo_8 : decode b_Sheets_bringTo 8 = .ok (.invokevirtual 92, 3) := by decide +kernel
theorem d_Sheets_bringTo_11 : decode b_Sheets_bringTo 11 = .ok (.iconst 0, 1) := by decide +kernel
theorem d_Sheets_bringTo_12 : decode b_Sheets_bringTo 12 = .ok (.istore_n 3, 1) := by decide +kernel
theorem d_Sheets_bringTo_13 : decode b_Sheets_bringTo 13 = .ok (.iconst 0, 1) := by decide +kernel
theorem d_Sheets_bringTo_14 : decode b_Sheets_bringTo 14 = .ok (.istore 4, 2) := by decide +kernel
theorem d_Sheets_bringTo_16 : decode b_Sheets_bringTo 16 = .ok (.iload 4, 2) := by decide +kernel
theorem d_Sheets_bringTo_18 : decode b_Sheets_bringTo 18 = .ok (.bipush 32, 2) := by decide +kernel
theorem d_Sheets_bringTo_20 : decode b_Sheets_bringTo 20 = .ok (.if_icmp .ge 49, 3) := by decide +kernel
theorem d_Sheets_bringTo_23 : decode b_Sheets_bringTo 23 = .ok (.aload_n 0, 1) := by decide +kernel
theorem d_Sheets_bringTo_24 : decode b_Sheets_bringTo 24 = .ok (.iload_n 1, 1) := by decide +kernel
theorem d_Sheets_bringTo_25 : decode b_Sheets_bringTo 25 = .ok (.iload 4, 2) := by decide +kernel
theorem d_Sheets_bringTo_27 : decode b_Sheets_bringTo 27 = .ok (.invokevirtual 85, 3) := by decide +kernel
theorem d_Sheets_bringTo_30 : decode b_Sheets_bringTo 30 = .ok (.istore 5, 2) := by decide +kernel
theorem d_Sheets_bringTo_32 : decode b_Sheets_bringTo 32 = .ok (.iload 5, 2) := by decide +kernel
theorem d_Sheets_bringTo_34 : decode b_Sheets_bringTo 34 = .ok (.iconst (-1), 1) := by decide +kernel
theorem d_Sheets_bringTo_35 : decode b_Sheets_bringTo 35 = .ok (.if_icmp .eq 28, 3) := by decide +kernel
theorem d_Sheets_bringTo_38 : decode b_Sheets_bringTo 38 = .ok (.aload_n 0, 1) := by decide +kernel
theorem d_Sheets_bringTo_39 : decode b_Sheets_bringTo 39 = .ok (.iload_n 2, 1) := by decide +kernel
theorem d_Sheets_bringTo_40 : decode b_Sheets_bringTo 40 = .ok (.iload 5, 2) := by decide +kernel
theorem d_Sheets_bringTo_42 : decode b_Sheets_bringTo 42 = .ok (.invokevirtual 99, 3) := by decide +kernel
theorem d_Sheets_bringTo_45 : decode b_Sheets_bringTo 45 = .ok (.ifCond .ne 18, 3) := by decide +kernel
theorem d_Sheets_bringTo_48 : decode b_Sheets_bringTo 48 = .ok (.aload_n 0, 1) := by decide +kernel
theorem d_Sheets_bringTo_49 : decode b_Sheets_bringTo 49 = .ok (.iload_n 1, 1) := by decide +kernel
theorem d_Sheets_bringTo_50 : decode b_Sheets_bringTo 50 = .ok (.iload 4, 2) := by decide +kernel
theorem d_Sheets_bringTo_52 : decode b_Sheets_bringTo 52 = .ok (.iconst (-1), 1) := by decide +kernel
theorem d_Sheets_bringTo_53 : decode b_Sheets_bringTo 53 = .ok (.invokevirtual 88, 3) := by decide +kernel
theorem d_Sheets_bringTo_56 : decode b_Sheets_bringTo 56 = .ok (.iload_n 3, 1) := by decide +kernel
theorem d_Sheets_bringTo_57 : decode b_Sheets_bringTo 57 = .ok (.iconst 1, 1) := by decide +kernel
theorem d_Sheets_bringTo_58 : decode b_Sheets_bringTo 58 = .ok (.iload 4, 2) := by decide +kernel
theorem d_Sheets_bringTo_60 : decode b_Sheets_bringTo 60 = .ok (.ishl, 1) := by decide +kernel
theorem d_Sheets_bringTo_61 : decode b_Sheets_bringTo 61 = .ok (.ior, 1) := by decide +kernel
theorem d_Sheets_bringTo_62 : decode b_Sheets_bringTo 62 = .ok (.istore_n 3, 1) := by decide +kernel
theorem d_Sheets_bringTo_63 : decode b_Sheets_bringTo 63 = .ok (.iinc 4 1, 3) := by decide +kernel
theorem d_Sheets_bringTo_66 : decode b_Sheets_bringTo 66 = .ok (.goto (-50), 3) := by decide +kernel
theorem d_Sheets_bringTo_69 : decode b_Sheets_bringTo 69 = .ok (.iload_n 3, 1) := by decide +kernel
theorem d_Sheets_bringTo_70 : decode b_Sheets_bringTo 70 = .ok (.ireturn, 1) := by decide +kernel
theorem d_Sheets_append_0 : decode b_Sheets_append 0 = .ok (.aload_n 0, 1) := by decide +kernel
theorem d_Sheets_append_1 : decode b_Sheets_append 1 = .ok (.getfield 28, 3) := by decide +kernel
theorem d_Sheets_append_4 : decode b_Sheets_append 4 = .ok (.iload_n 1, 1) := by decide +kernel
theorem d_Sheets_append_5 : decode b_Sheets_append 5 = .ok (.iload_n 2, 1) := by decide +kernel
theorem d_Sheets_append_6 : decode b_Sheets_append 6 = .ok (.i2l, 1) := by decide +kernel
theorem d_Sheets_append_7 : decode b_Sheets_append 7 = .ok (.invokevirtual 71, 3) := by decide +kernel
theorem d_Sheets_append_10 : decode b_Sheets_append 10 = .ok (.aload_n 0, 1) := by decide +kernel
theorem d_Sheets_append_11 : decode b_Sheets_append 11 = .ok (.getfield 31, 3) := by decide +kernel
theorem d_Sheets_append_14 : decode b_Sheets_append 14 = .ok (.aload_n 0, 1) := by decide +kernel
theorem d_Sheets_append_15 : decode b_Sheets_append 15 = .ok (.iload_n 2, 1) := by decide +kernel
theorem d_Sheets_append_16 : decode b_Sheets_append 16 = .ok (.iconst (-1), 1) := by decide +kernel
theorem d_Sheets_append_17 : decode b_Sheets_append 17 = .ok (.invokevirtual 103, 3) := by decide +kernel
theorem d_Sheets_append_20 : decode b_Sheets_append 20 = .ok (.iload_n 1, 1) := by decide +kernel
theorem d_Sheets_append_21 : decode b_Sheets_append 21 = .ok (.i2l, 1) := by decide +kernel
theorem d_Sheets_append_22 : decode b_Sheets_append 22 = .ok (.invokevirtual 71, 3) := by decide +kernel
theorem d_Sheets_append_25 : decode b_Sheets_append 25 = .ok (.return_, 1) := by decide +kernel
theorem d_Sheets_unlink_0 : decode b_Sheets_unlink 0 = .ok (.aload_n 0, 1) := by decide +kernel
theorem d_Sheets_unlink_1 : decode b_Sheets_unlink 1 = .ok (.getfield 31, 3) := by decide +kernel
theorem d_Sheets_unlink_4 : decode b_Sheets_unlink 4 = .ok (.aload_n 0, 1) := by decide +kernel
theorem d_Sheets_unlink_5 : decode b_Sheets_unlink 5 = .ok (.aload_n 0, 1) := by decide +kernel
theorem d_Sheets_unlink_6 : decode b_Sheets_unlink 6 = .ok (.iload_n 1, 1) := by decide +kernel
theorem d_Sheets_unlink_7 : decode b_Sheets_unlink 7 = .ok (.invokevirtual 49, 3) := by decide +kernel
theorem d_Sheets_unlink_10 : decode b_Sheets_unlink 10 = .ok (.iload_n 1, 1) := by decide +kernel
theorem d_Sheets_unlink_11 : decode b_Sheets_unlink 11 = .ok (.invokevirtual 103, 3) := by decide +kernel
theorem d_Sheets_unlink_14 : decode b_Sheets_unlink 14 = .ok (.aload_n 0, 1) := by decide +kernel
theorem d_Sheets_unlink_15 : decode b_Sheets_unlink 15 = .ok (.iload_n 1, 1) := by decide +kernel
theorem d_Sheets_unlink_16 : decode b_Sheets_unlink 16 = .ok (.invokevirtual 58, 3) := by decide +kernel
theorem d_Sheets_unlink_19 : decode b_Sheets_unlink 19 = .ok (.i2l, 1) := by decide +kernel
theorem d_Sheets_unlink_20 : decode b_Sheets_unlink 20 = .ok (.invokevirtual 71, 3) := by decide +kernel
theorem d_Sheets_unlink_23 : decode b_Sheets_unlink 23 = .ok (.aload_n 0, 1) := by decide +kernel
theorem d_Sheets_unlink_24 : decode b_Sheets_unlink 24 = .ok (.getfield 31, 3) := by decide +kernel
theorem d_Sheets_unlink_27 : decode b_Sheets_unlink 27 = .ok (.iload_n 1, 1) := by decide +kernel
theorem d_Sheets_unlink_28 : decode b_Sheets_unlink 28 = .ok (.ldc2_w 23, 3) := by decide +kernel
theorem d_Sheets_unlink_31 : decode b_Sheets_unlink 31 = .ok (.invokevirtual 71, 3) := by decide +kernel
theorem d_Sheets_unlink_34 : decode b_Sheets_unlink 34 = .ok (.return_, 1) := by decide +kernel
theorem d_Sheets_cellBefore_0 : decode b_Sheets_cellBefore 0 = .ok (.aload_n 0, 1) := by decide +kernel
theorem d_Sheets_cellBefore_1 : decode b_Sheets_cellBefore 1 = .ok (.iload_n 1, 1) := by decide +kernel
theorem d_Sheets_cellBefore_2 : decode b_Sheets_cellBefore 2 = .ok (.invokevirtual 52, 3) := by decide +kernel
theorem d_Sheets_cellBefore_5 : decode b_Sheets_cellBefore 5 = .ok (.istore_n 3, 1) := by decide +kernel
theorem d_Sheets_cellBefore_6 : decode b_Sheets_cellBefore 6 = .ok (.iconst 0, 1) := by decide +kernel
theorem d_Sheets_cellBefore_7 : decode b_Sheets_cellBefore 7 = .ok (.istore 4, 2) := by decide +kernel
theorem d_Sheets_cellBefore_9 : decode b_Sheets_cellBefore 9 = .ok (.iload 4, 2) := by decide +kernel
theorem d_Sheets_cellBefore_11 : decode b_Sheets_cellBefore 11 = .ok (.bipush 60, 2) := by decide +kernel
theorem d_Sheets_cellBefore_13 : decode b_Sheets_cellBefore 13 = .ok (.if_icmp .ge 30, 3) := by decide +kernel
theorem d_Sheets_cellBefore_16 : decode b_Sheets_cellBefore 16 = .ok (.aload_n 0, 1) := by decide +kernel
theorem d_Sheets_cellBefore_17 : decode b_Sheets_cellBefore 17 = .ok (.getfield 31, 3) := by decide +kernel
theorem d_Sheets_cellBefore_20 : decode b_Sheets_cellBefore 20 = .ok (.iload_n 3, 1) := by decide +kernel
theorem d_Sheets_cellBefore_21 : decode b_Sheets_cellBefore 21 = .ok (.invokevirtual 41, 3) := by decide +kernel
theorem d_Sheets_cellBefore_24 : decode b_Sheets_cellBefore 24 = .ok (.iload_n 2, 1) := by decide +kernel
theorem d_Sheets_cellBefore_25 : decode b_Sheets_cellBefore 25 = .ok (.if_icmp .eq 18, 3) := by decide +kernel
theorem d_Sheets_cellBefore_28 : decode b_Sheets_cellBefore 28 = .ok (.aload_n 0, 1) := by decide +kernel
theorem d_Sheets_cellBefore_29 : decode b_Sheets_cellBefore 29 = .ok (.getfield 31, 3) := by decide +kernel
theorem d_Sheets_cellBefore_32 : decode b_Sheets_cellBefore 32 = .ok (.iload_n 3, 1) := by decide +kernel
theorem d_Sheets_cellBefore_33 : decode b_Sheets_cellBefore 33 = .ok (.invokevirtual 41, 3) := by decide +kernel
theorem d_Sheets_cellBefore_36 : decode b_Sheets_cellBefore 36 = .ok (.istore_n 3, 1) := by decide +kernel
theorem d_Sheets_cellBefore_37 : decode b_Sheets_cellBefore 37 = .ok (.iinc 4 1, 3) := by decide +kernel
theorem d_Sheets_cellBefore_40 : decode b_Sheets_cellBefore 40 = .ok (.goto (-31), 3) := by decide +kernel
theorem d_Sheets_cellBefore_43 : decode b_Sheets_cellBefore 43 = .ok (.iload_n 3, 1) := by decide +kernel
theorem d_Sheets_cellBefore_44 : decode b_Sheets_cellBefore 44 = .ok (.ireturn, 1) := by decide +kernel
theorem d_Sheets_headOf_0 : decode b_Sheets_headOf 0 = .ok (.bipush 60, 2) := by decide +kernel
theorem d_Sheets_headOf_2 : decode b_Sheets_headOf 2 = .ok (.iload_n 1, 1) := by decide +kernel
theorem d_Sheets_headOf_3 : decode b_Sheets_headOf 3 = .ok (.iadd, 1) := by decide +kernel
theorem d_Sheets_headOf_4 : decode b_Sheets_headOf 4 = .ok (.ireturn, 1) := by decide +kernel
theorem d_Sheets_tells_0 : decode b_Sheets_tells 0 = .ok (.aload_n 0, 1) := by decide +kernel
theorem d_Sheets_tells_1 : decode b_Sheets_tells 1 = .ok (.getfield 20, 3) := by decide +kernel
theorem d_Sheets_tells_4 : decode b_Sheets_tells 4 = .ok (.iload_n 1, 1) := by decide +kernel
theorem d_Sheets_tells_5 : decode b_Sheets_tells 5 = .ok (.invokevirtual 41, 3) := by decide +kernel
theorem d_Sheets_tells_8 : decode b_Sheets_tells 8 = .ok (.iload_n 2, 1) := by decide +kernel
theorem d_Sheets_tells_9 : decode b_Sheets_tells 9 = .ok (.invokestatic 106, 3) := by decide +kernel
theorem d_Sheets_tells_12 : decode b_Sheets_tells 12 = .ok (.ireturn, 1) := by decide +kernel
theorem d_Sheets_addName_0 : decode b_Sheets_addName 0 = .ok (.aload_n 0, 1) := by decide +kernel
theorem d_Sheets_addName_1 : decode b_Sheets_addName 1 = .ok (.getfield 20, 3) := by decide +kernel
theorem d_Sheets_addName_4 : decode b_Sheets_addName 4 = .ok (.iload_n 1, 1) := by decide +kernel
theorem d_Sheets_addName_5 : decode b_Sheets_addName 5 = .ok (.aload_n 0, 1) := by decide +kernel
theorem d_Sheets_addName_6 : decode b_Sheets_addName 6 = .ok (.getfield 20, 3) := by decide +kernel
theorem d_Sheets_addName_9 : decode b_Sheets_addName 9 = .ok (.iload_n 1, 1) := by decide +kernel
theorem d_Sheets_addName_10 : decode b_Sheets_addName 10 = .ok (.invokevirtual 41, 3) := by decide +kernel
theorem d_Sheets_addName_13 : decode b_Sheets_addName 13 = .ok (.iconst 1, 1) := by decide +kernel
theorem d_Sheets_addName_14 : decode b_Sheets_addName 14 = .ok (.iload_n 2, 1) := by decide +kernel
theorem d_Sheets_addName_15 : decode b_Sheets_addName 15 = .ok (.ishl, 1) := by decide +kernel
theorem d_Sheets_addName_16 : decode b_Sheets_addName 16 = .ok (.ior, 1) := by decide +kernel
theorem d_Sheets_addName_17 : decode b_Sheets_addName 17 = .ok (.i2l, 1) := by decide +kernel
theorem d_Sheets_addName_18 : decode b_Sheets_addName 18 = .ok (.invokevirtual 71, 3) := by decide +kernel
theorem d_Sheets_addName_21 : decode b_Sheets_addName 21 = .ok (.return_, 1) := by decide +kernel
theorem d_Sheets_jointOf_0 : decode b_Sheets_jointOf 0 = .ok (.aload_n 0, 1) := by decide +kernel
theorem d_Sheets_jointOf_1 : decode b_Sheets_jointOf 1 = .ok (.getfield 34, 3) := by decide +kernel
theorem d_Sheets_jointOf_4 : decode b_Sheets_jointOf 4 = .ok (.iload_n 1, 1) := by decide +kernel
theorem d_Sheets_jointOf_5 : decode b_Sheets_jointOf 5 = .ok (.bipush 32, 2) := by decide +kernel
theorem d_Sheets_jointOf_7 : decode b_Sheets_jointOf 7 = .ok (.imul, 1) := by decide +kernel
theorem d_Sheets_jointOf_8 : decode b_Sheets_jointOf 8 = .ok (.iload_n 2, 1) := by decide +kernel
theorem d_Sheets_jointOf_9 : decode b_Sheets_jointOf 9 = .ok (.iadd, 1) := by decide +kernel
theorem d_Sheets_jointOf_10 : decode b_Sheets_jointOf 10 = .ok (.invokevirtual 41, 3) := by decide +kernel
theorem d_Sheets_jointOf_13 : decode b_Sheets_jointOf 13 = .ok (.ireturn, 1) := by decide +kernel
theorem d_Sheets_setJoint_0 : decode b_Sheets_setJoint 0 = .ok (.aload_n 0, 1) := by decide +kernel
theorem d_Sheets_setJoint_1 : decode b_Sheets_setJoint 1 = .ok (.getfield 34, 3) := by decide +kernel
theorem d_Sheets_setJoint_4 : decode b_Sheets_setJoint 4 = .ok (.iload_n 1, 1) := by decide +kernel
theorem d_Sheets_setJoint_5 : decode b_Sheets_setJoint 5 = .ok (.bipush 32, 2) := by decide +kernel
theorem d_Sheets_setJoint_7 : decode b_Sheets_setJoint 7 = .ok (.imul, 1) := by decide +kernel
theorem d_Sheets_setJoint_8 : decode b_Sheets_setJoint 8 = .ok (.iload_n 2, 1) := by decide +kernel
theorem d_Sheets_setJoint_9 : decode b_Sheets_setJoint 9 = .ok (.iadd, 1) := by decide +kernel
theorem d_Sheets_setJoint_10 : decode b_Sheets_setJoint 10 = .ok (.iload_n 3, 1) := by decide +kernel
theorem d_Sheets_setJoint_11 : decode b_Sheets_setJoint 11 = .ok (.i2l, 1) := by decide +kernel
theorem d_Sheets_setJoint_12 : decode b_Sheets_setJoint 12 = .ok (.invokevirtual 71, 3) := by decide +kernel
theorem d_Sheets_setJoint_15 : decode b_Sheets_setJoint 15 = .ok (.return_, 1) := by decide +kernel
theorem d_Variants_init_0 : decode b_Variants_init 0 = .ok (.aload_n 0, 1) := by decide +kernel
theorem d_Variants_init_1 : decode b_Variants_init 1 = .ok (.invokespecial 3, 3) := by decide +kernel
theorem d_Variants_init_4 : decode b_Variants_init 4 = .ok (.aload_n 0, 1) := by decide +kernel
theorem d_Variants_init_5 : decode b_Variants_init 5 = .ok (.aload_n 2, 1) := by decide +kernel
theorem d_Variants_init_6 : decode b_Variants_init 6 = .ok (.putfield 9, 3) := by decide +kernel
theorem d_Variants_init_9 : decode b_Variants_init 9 = .ok (.aload_n 0, 1) := by decide +kernel
theorem d_Variants_init_10 : decode b_Variants_init 10 = .ok (.new 15, 3) := by decide +kernel
theorem d_Variants_init_13 : decode b_Variants_init 13 = .ok (.dup, 1) := by decide +kernel
theorem d_Variants_init_14 : decode b_Variants_init 14 = .ok (.aload_n 1, 1) := by decide +kernel
theorem d_Variants_init_15 : decode b_Variants_init 15 = .ok (.iconst 2, 1) := by decide +kernel
theorem d_Variants_init_16 : decode b_Variants_init 16 = .ok (.lconst 0, 1) := by decide +kernel
theorem d_Variants_init_17 : decode b_Variants_init 17 = .ok (.invokespecial 17, 3) := by decide +kernel
theorem d_Variants_init_20 : decode b_Variants_init 20 = .ok (.putfield 20, 3) := by decide +kernel
theorem d_Variants_init_23 : decode b_Variants_init 23 = .ok (.aload_n 0, 1) := by decide +kernel
theorem d_Variants_init_24 : decode b_Variants_init 24 = .ok (.new 15, 3) := by decide +kernel
theorem d_Variants_init_27 : decode b_Variants_init 27 = .ok (.dup, 1) := by decide +kernel
theorem d_Variants_init_28 : decode b_Variants_init 28 = .ok (.aload_n 1, 1) := by decide +kernel
theorem d_Variants_init_29 : decode b_Variants_init 29 = .ok (.bipush 10, 2) := by decide +kernel
theorem d_Variants_init_31 : decode b_Variants_init 31 = .ok (.ldc2_w 24, 3) := by decide +kernel
theorem d_Variants_init_34 : decode b_Variants_init 34 = .ok (.invokespecial 17, 3) := by decide +kernel
theorem d_Variants_init_37 : decode b_Variants_init 37 = .ok (.putfield 26, 3) := by decide +kernel
theorem d_Variants_init_40 : decode b_Variants_init 40 = .ok (.aload_n 0, 1) := by decide +kernel
theorem d_Variants_init_41 : decode b_Variants_init 41 = .ok (.new 15, 3) := by decide +kernel
theorem d_Variants_init_44 : decode b_Variants_init 44 = .ok (.dup, 1) := by decide +kernel
theorem d_Variants_init_45 : decode b_Variants_init 45 = .ok (.aload_n 1, 1) := by decide +kernel
theorem d_Variants_init_46 : decode b_Variants_init 46 = .ok (.bipush 40, 2) := by decide +kernel
theorem d_Variants_init_48 : decode b_Variants_init 48 = .ok (.ldc2_w 24, 3) := by decide +kernel
theorem d_Variants_init_51 : decode b_Variants_init 51 = .ok (.invokespecial 17, 3) := by decide +kernel
theorem d_Variants_init_54 : decode b_Variants_init 54 = .ok (.putfield 29, 3) := by decide +kernel
theorem d_Variants_init_57 : decode b_Variants_init 57 = .ok (.aload_n 0, 1) := by decide +kernel
theorem d_Variants_init_58 : decode b_Variants_init 58 = .ok (.new 15, 3) := by decide +kernel
theorem d_Variants_init_61 : decode b_Variants_init 61 = .ok (.dup, 1) := by decide +kernel
theorem d_Variants_init_62 : decode b_Variants_init 62 = .ok (.aload_n 1, 1) := by decide +kernel
theorem d_Variants_init_63 : decode b_Variants_init 63 = .ok (.bipush 40, 2) := by decide +kernel
theorem d_Variants_init_65 : decode b_Variants_init 65 = .ok (.lconst 0, 1) := by decide +kernel
theorem d_Variants_init_66 : decode b_Variants_init 66 = .ok (.invokespecial 17, 3) := by decide +kernel
theorem d_Variants_init_69 : decode b_Variants_init 69 = .ok (.putfield 32, 3) := by decide +kernel
theorem d_Variants_init_72 : decode b_Variants_init 72 = .ok (.aload_n 0, 1) := by decide +kernel
theorem d_Variants_init_73 : decode b_Variants_init 73 = .ok (.new 15, 3) := by decide +kernel
theorem d_Variants_init_76 : decode b_Variants_init 76 = .ok (.dup, 1) := by decide +kernel
theorem d_Variants_init_77 : decode b_Variants_init 77 = .ok (.aload_n 1, 1) := by decide +kernel
theorem d_Variants_init_78 : decode b_Variants_init 78 = .ok (.bipush 40, 2) := by decide +kernel
theorem d_Variants_init_80 : decode b_Variants_init 80 = .ok (.lconst 0, 1) := by decide +kernel
theorem d_Variants_init_81 : decode b_Variants_init 81 = .ok (.invokespecial 17, 3) := by decide +kernel
theorem d_Variants_init_84 : decode b_Variants_init 84 = .ok (.putfield 35, 3) := by decide +kernel
theorem d_Variants_init_87 : decode b_Variants_init 87 = .ok (.aload_n 0, 1) := by decide +kernel
theorem d_Variants_init_88 : decode b_Variants_init 88 = .ok (.new 15, 3) := by decide +kernel
theorem d_Variants_init_91 : decode b_Variants_init 91 = .ok (.dup, 1) := by decide +kernel
theorem d_Variants_init_92 : decode b_Variants_init 92 = .ok (.aload_n 1, 1) := by decide +kernel
theorem d_Variants_init_93 : decode b_Variants_init 93 = .ok (.sipush 920, 3) := by decide +kernel
theorem d_Variants_init_96 : decode b_Variants_init 96 = .ok (.ldc2_w 24, 3) := by decide +kernel
theorem d_Variants_init_99 : decode b_Variants_init 99 = .ok (.invokespecial 17, 3) := by decide +kernel
theorem d_Variants_init_102 : decode b_Variants_init 102 = .ok (.putfield 38, 3) := by decide +kernel
theorem d_Variants_init_105 : decode b_Variants_init 105 = .ok (.return_, 1) := by decide +kernel
theorem d_Variants_count_0 : decode b_Variants_count 0 = .ok (.aload_n 0, 1) := by decide +kernel
theorem d_Variants_count_1 : decode b_Variants_count 1 = .ok (.getfield 20, 3) := by decide +kernel
theorem d_Variants_count_4 : decode b_Variants_count 4 = .ok (.iconst 0, 1) := by decide +kernel
theorem d_Variants_count_5 : decode b_Variants_count 5 = .ok (.invokevirtual 41, 3) := by decide +kernel
theorem d_Variants_count_8 : decode b_Variants_count 8 = .ok (.ireturn, 1) := by decide +kernel
theorem d_Variants_isVariant_0 : decode b_Variants_isVariant 0 = .ok (.iload_n 1, 1) := by decide +kernel
theorem d_Variants_isVariant_1 : decode b_Variants_isVariant 1 = .ok (.ifCond .lt 15, 3) := by decide +kernel
theorem d_Variants_isVariant_4 : decode b_Variants_isVariant 4 = .ok (.iload_n 1, 1) := by decide +kernel
theorem d_Variants_isVariant_5 : decode b_Variants_isVariant 5 = .ok (.aload_n 0, 1) := by decide +kernel
theorem d_Variants_isVariant_6 : decode b_Variants_isVariant 6 = .ok (.invokevirtual 45, 3) := by decide +kernel
theorem d_Variants_isVariant_9 : decode b_Variants_isVariant 9 = .ok (.if_icmp .ge 7, 3) := by decide +kernel
theorem d_Variants_isVariant_12 : decode b_Variants_isVariant 12 = .ok (.iconst 1, 1) := by decide +kernel
theorem d_Variants_isVariant_13 : decode b_Variants_isVariant 13 = .ok (.goto 4, 3) := by decide +kernel
theorem d_Variants_isVariant_16 : decode b_Variants_isVariant 16 = .ok (.iconst 0, 1) := by decide +kernel
theorem d_Variants_isVariant_17 : decode b_Variants_isVariant 17 = .ok (.ireturn, 1) := by decide +kernel
theorem d_Variants_addVariant_0 : decode b_Variants_addVariant 0 = .ok (.aload_n 0, 1) := by decide +kernel
theorem d_Variants_addVariant_1 : decode b_Variants_addVariant 1 = .ok (.invokevirtual 45, 3) := by decide +kernel
theorem d_Variants_addVariant_4 : decode b_Variants_addVariant 4 = .ok (.istore_n 2, 1) := by decide +kernel
theorem d_Variants_addVariant_5 : decode b_Variants_addVariant 5 = .ok (.aload_n 0, 1) := by decide +kernel
theorem d_Variants_addVariant_6 : decode b_Variants_addVariant 6 = .ok (.getfield 20, 3) := by decide +kernel
theorem d_Variants_addVariant_9 : decode b_Variants_addVariant 9 = .ok (.iconst 0, 1) := by decide +kernel
theorem d_Variants_addVariant_10 : decode b_Variants_addVariant 10 = .ok (.iload_n 2, 1) := by decide +kernel
theorem d_Variants_addVariant_11 : decode b_Variants_addVariant 11 = .ok (.iconst 1, 1) := by decide +kernel
theorem d_Variants_addVariant_12 : decode b_Variants_addVariant 12 = .ok (.iadd, 1) := by decide +kernel
theorem d_Variants_addVariant_13 : decode b_Variants_addVariant 13 = .ok (.i2l, 1) := by decide +kernel
theorem d_Variants_addVariant_14 : decode b_Variants_addVariant 14 = .ok (.invokevirtual 49, 3) := by decide +kernel
theorem d_Variants_addVariant_17 : decode b_Variants_addVariant 17 = .ok (.aload_n 0, 1) := by decide +kernel
theorem d_Variants_addVariant_18 : decode b_Variants_addVariant 18 = .ok (.getfield 26, 3) := by decide +kernel
theorem d_Variants_addVariant_21 : decode b_Variants_addVariant 21 = .ok (.iload_n 2, 1) := by decide +kernel
theorem d_Variants_addVariant_22 : decode b_Variants_addVariant 22 = .ok (.iload_n 1, 1) := by decide +kernel
theorem d_Variants_addVariant_23 : decode b_Variants_addVariant 23 = .ok (.i2l, 1) := by decide +kernel
theorem d_Variants_addVariant_24 : decode b_Variants_addVariant 24 = .ok (.invokevirtual 49, 3) := by decide +kernel
theorem d_Variants_addVariant_27 : decode b_Variants_addVariant 27 = .ok (.iload_n 2, 1) := by decide +kernel
theorem d_Variants_addVariant_28 : decode b_Variants_addVariant 28 = .ok (.ireturn, 1) := by decide +kernel
theorem d_Variants_content_0 : decode b_Variants_content 0 = .ok (.aload_n 0, 1) := by decide +kernel
theorem d_Variants_content_1 : decode b_Variants_content 1 = .ok (.getfield 32, 3) := by decide +kernel
theorem d_Variants_content_4 : decode b_Variants_content 4 = .ok (.iload_n 1, 1) := by decide +kernel
theorem d_Variants_content_5 : decode b_Variants_content 5 = .ok (.invokevirtual 53, 3) := by decide +kernel
theorem d_Variants_content_8 : decode b_Variants_content 8 = .ok (.lreturn, 1) := by decide +kernel
theorem d_Variants_tell_0 : decode b_Variants_tell 0 = .ok (.iload_n 1, 1) := by decide +kernel
theorem d_Variants_tell_1 : decode b_Variants_tell 1 = .ok (.iload_n 2, 1) := by decide +kernel
theorem d_Variants_tell_2 : decode b_Variants_tell 2 = .ok (.iload 4, 2) := by decide +kernel
theorem d_Variants_tell_4 : decode b_Variants_tell 4 = .ok (.invokestatic 57, 3) := by decide +kernel
theorem d_Variants_tell_7 : decode b_Variants_tell 7 = .ok (.istore 7, 2) := by decide +kernel
theorem d_Variants_tell_9 : decode b_Variants_tell 9 = .ok (.aload_n 0, 1) := by decide +kernel
theorem d_Variants_tell_10 : decode b_Variants_tell 10 = .ok (.iload 7, 2) := by decide +kernel
theorem d_Variants_tell_12 : decode b_Variants_tell 12 = .ok (.iload_n 3, 1) := by decide +kernel
theorem d_Variants_tell_13 : decode b_Variants_tell 13 = .ok (.invokevirtual 61, 3) := by decide +kernel
theorem d_Variants_tell_16 : decode b_Variants_tell 16 = .ok (.istore 8, 2) := by decide +kernel
theorem d_Variants_tell_18 : decode b_Variants_tell 18 = .ok (.iload 8, 2) := by decide +kernel
theorem d_Variants_tell_20 : decode b_Variants_tell 20 = .ok (.iconst (-1), 1) := by decide +kernel
theorem d_Variants_tell_21 : decode b_Variants_tell 21 = .ok (.if_icmp .eq 17, 3) := by decide +kernel
theorem d_Variants_tell_24 : decode b_Variants_tell 24 = .ok (.aload_n 0, 1) := by decide +kernel
theorem d_Variants_tell_25 : decode b_Variants_tell 25 = .ok (.iload 8, 2) := by decide +kernel
theorem d_Variants_tell_27 : decode b_Variants_tell 27 = .ok (.invokevirtual 65, 3) := by decide +kernel
theorem d_Variants_tell_30 : decode b_Variants_tell 30 = .ok (.lload 5, 2) := by decide +kernel
theorem d_Variants_tell_32 : decode b_Variants_tell 32 = .ok (.lcmp, 1) := by decide +kernel
theorem d_Variants_tell_33 : decode b_Variants_tell 33 = .ok (.ifCond .ne 5, 3) := by decide +kernel
theorem d_Variants_tell_36 : decode b_Variants_tell 36 = .ok (.iconst 0, 1) := by decide +kernel
theorem d_Variants_tell_37 : decode b_Variants_tell 37 = .ok (.ireturn, 1) := by decide +kernel
theorem d_Variants_tell_38 : decode b_Variants_tell 38 = .ok (.iload 8, 2) := by decide +kernel
theorem d_Variants_tell_40 : decode b_Variants_tell 40 = .ok (.iconst (-1), 1) := by decide +kernel
theorem d_Variants_tell_41 : decode b_Variants_tell 41 = .ok (.if_icmp .ne 27, 3) := by decide +kernel
theorem d_Variants_tell_44 : decode b_Variants_tell 44 = .ok (.aload_n 0, 1) := by decide +kernel
theorem d_Variants_tell_45 : decode b_Variants_tell 45 = .ok (.getfield 20, 3) := by decide +kernel
theorem d_Variants_tell_48 : decode b_Variants_tell 48 = .ok (.iconst 1, 1) := by decide +kernel
theorem d_Variants_tell_49 : decode b_Variants_tell 49 = .ok (.invokevirtual 41, 3) := by decide +kernel
theorem d_Variants_tell_52 : decode b_Variants_tell 52 = .ok (.bipush 40, 2) := by decide +kernel
theorem d_Variants_tell_54 : decode b_Variants_tell 54 = .ok (.if_icmp .lt 5, 3) := by decide +kernel
theorem d_Variants_tell_57 : decode b_Variants_tell 57 = .ok (.iconst 0, 1) := by decide +kernel
theorem d_Variants_tell_58 : decode b_Variants_tell 58 = .ok (.ireturn, 1) := by decide +kernel
theorem d_Variants_tell_59 : decode b_Variants_tell 59 = .ok (.aload_n 0, 1) := by decide +kernel
theorem d_Variants_tell_60 : decode b_Variants_tell 60 = .ok (.iload 7, 2) := by decide +kernel
theorem d_Variants_tell_62 : decode b_Variants_tell 62 = .ok (.iload_n 3, 1) := by decide +kernel
theorem d_Variants_tell_63 : decode b_Variants_tell 63 = .ok (.invokevirtual 68, 3) := by decide +kernel
theorem d_Variants_tell_66 : decode b_Variants_tell 66 = .ok (.istore 8, 2) := by decide +kernel
theorem d_Variants_tell_68 : decode b_Variants_tell 68 = .ok (.aload_n 0, 1) := by decide +kernel
theorem d_Variants_tell_69 : decode b_Variants_tell 69 = .ok (.getfield 32, 3) := by decide +kernel
theorem d_Variants_tell_72 : decode b_Variants_tell 72 = .ok (.iload 8, 2) := by decide +kernel
theorem d_Variants_tell_74 : decode b_Variants_tell 74 = .ok (.lload 5, 2) := by decide +kernel
theorem d_Variants_tell_76 : decode b_Variants_tell 76 = .ok (.invokevirtual 49, 3) := by decide +kernel
theorem d_Variants_tell_79 : decode b_Variants_tell 79 = .ok (.iconst 1, 1) := by decide +kernel
theorem d_Variants_tell_80 : decode b_Variants_tell 80 = .ok (.ireturn, 1) := by decide +kernel
theorem d_Variants_nearest_0 : decode b_Variants_nearest 0 = .ok (.iload_n 2, 1) := by decide +kernel
theorem d_Variants_nearest_1 : decode b_Variants_nearest 1 = .ok (.istore 5, 2) := by decide +kernel
theorem d_Variants_nearest_3 : decode b_Variants_nearest 3 = .ok (.iconst 0, 1) := by decide +kernel
theorem d_Variants_nearest_4 : decode b_Variants_nearest 4 = .ok (.istore 6, 2) := by decide +kernel
theorem d_Variants_nearest_6 : decode b_Variants_nearest 6 = .ok (.iload 6, 2) := by decide +kernel
theorem d_Variants_nearest_8 : decode b_Variants_nearest 8 = .ok (.bipush 10, 2) := by decide +kernel
theorem d_Variants_nearest_10 : decode b_Variants_nearest 10 = .ok (.if_icmp .ge 91, 3) := by decide +kernel
theorem d_Variants_nearest_13 : decode b_Variants_nearest 13 = .ok (.iload 5, 2) := by decide +kernel
theorem d_Variants_nearest_15 : decode b_Variants_nearest 15 = .ok (.iconst (-1), 1) := by decide +kernel
theorem d_Variants_nearest_16 : decode b_Variants_nearest 16 = .ok (.if_icmp .eq 85, 3) := by decide +kernel
theorem d_Variants_nearest_19 : decode b_Variants_nearest 19 = .ok (.iload_n 1, 1) := by decide +kernel
theorem d_Variants_nearest_20 : decode b_Variants_nearest 20 = .ok (.iload 5, 2) := by decide +kernel
theorem d_Variants_nearest_22 : decode b_Variants_nearest 22 = .ok (.iload 4, 2) := by decide +kernel
theorem d_Variants_nearest_24 : decode b_Variants_nearest 24 = .ok (.invokestatic 57, 3) := by decide +kernel
theorem d_Variants_nearest_27 : decode b_Variants_nearest 27 = .ok (.istore 7, 2) := by decide +kernel
theorem d_Variants_nearest_29 : decode b_Variants_nearest 29 = .ok (.iload_n 3, 1) := by decide +kernel
theorem d_Variants_nearest_30 : decode b_Variants_nearest 30 = .ok (.istore 8, 2) := by decide +kernel
theorem d_Variants_nearest_32 : decode b_Variants_nearest 32 = .ok (.iconst 0, 1) := by decide +kernel
theorem d_Variants_nearest_33 : decode b_Variants_nearest 33 = .ok (.istore 9, 2) := by decide +kernel
theorem d_Variants_nearest_35 : decode b_Variants_nearest 35 = .ok (.iload 9, 2) := by decide +kernel
theorem d_Variants_nearest_37 : decode b_Variants_nearest 37 = .ok (.bipush 24, 2) := by decide +kernel
theorem d_Variants_nearest_39 : decode b_Variants_nearest 39 = .ok (.if_icmp .ge 45, 3) := by decide +kernel
theorem d_Variants_nearest_42 : decode b_Variants_nearest 42 = .ok (.iload 8, 2) := by decide +kernel
theorem d_Variants_nearest_44 : decode b_Variants_nearest 44 = .ok (.iconst (-1), 1) := by decide +kernel
theorem d_Variants_nearest_45 : decode b_Variants_nearest 45 = .ok (.if_icmp .eq 39, 3) := by decide +kernel
theorem d_Variants_nearest_48 : decode b_Variants_nearest 48 = .ok (.aload_n 0, 1) := by decide +kernel
theorem d_Variants_nearest_49 : decode b_Variants_nearest 49 = .ok (.iload 7, 2) := by decide +kernel
theorem d_Variants_nearest_51 : decode b_Variants_nearest 51 = .ok (.iload 8, 2) := by decide +kernel
theorem d_Variants_nearest_53 : decode b_Variants_nearest 53 = .ok (.invokevirtual 61, 3) := by decide +kernel
theorem d_Variants_nearest_56 : decode b_Variants_nearest 56 = .ok (.istore 10, 2) := by decide +kernel
theorem d_Variants_nearest_58 : decode b_Variants_nearest 58 = .ok (.iload 10, 2) := by decide +kernel
theorem d_Variants_nearest_60 : decode b_Variants_nearest 60 = .ok (.iconst (-1), 1) := by decide +kernel
theorem d_Variants_nearest_61 : decode b_Variants_nearest 61 = .ok (.if_icmp .eq 6, 3) := by decide +kernel
theorem d_Variants_nearest_64 : decode b_Variants_nearest 64 = .ok (.iload 10, 2) := by decide +kernel
theorem d_Variants_nearest_66 : decode b_Variants_nearest 66 = .ok (.ireturn, 1) := by decide +kernel
theorem d_Variants_nearest_67 : decode b_Variants_nearest 67 = .ok (.aload_n 0, 1) := by decide +kernel
theorem d_Variants_nearest_68 : decode b_Variants_nearest 68 = .ok (.getfield 9, 3) := by decide +kernel
theorem d_Variants_nearest_71 : decode b_Variants_nearest 71 = .ok (.iload 8, 2) := by decide +kernel
theorem d_Variants_nearest_73 : decode b_Variants_nearest 73 = .ok (.invokevirtual 71, 3) := by decide +kernel
theorem d_Variants_nearest_76 : decode b_Variants_nearest 76 = .ok (.istore 8, 2) := by decide +kernel
theorem d_Variants_nearest_78 : decode b_Variants_nearest 78 = .ok (.iinc 9 1, 3) := by decide +kernel
theorem d_Variants_nearest_81 : decode b_Variants_nearest 81 = .ok (.goto (-46), 3) := by decide +kernel
theorem d_Variants_nearest_84 : decode b_Variants_nearest 84 = .ok (.aload_n 0, 1) := by decide +kernel
theorem d_Variants_nearest_85 : decode b_Variants_nearest 85 = .ok (.getfield 26, 3) := by decide +kernel
theorem d_Variants_nearest_88 : decode b_Variants_nearest 88 = .ok (.iload 5, 2) := by decide +kernel
theorem d_Variants_nearest_90 : decode b_Variants_nearest 90 = .ok (.invokevirtual 41, 3) := by decide +kernel
theorem d_Variants_nearest_93 : decode b_Variants_nearest 93 = .ok (.istore 5, 2) := by decide +kernel
theorem d_Variants_nearest_95 : decode b_Variants_nearest 95 = .ok (.iinc 6 1, 3) := by decide +kernel
theorem d_Variants_nearest_98 : decode b_Variants_nearest 98 = .ok (.goto (-92), 3) := by decide +kernel
theorem d_Variants_nearest_101 : decode b_Variants_nearest 101 = .ok (.iconst (-1), 1) := by decide +kernel
theorem d_Variants_nearest_102 : decode b_Variants_nearest 102 = .ok (.ireturn, 1) := by decide +kernel
theorem d_Variants_find_0 : decode b_Variants_find 0 = .ok (.iconst 0, 1) := by decide +kernel
theorem d_Variants_find_1 : decode b_Variants_find 1 = .ok (.istore_n 3, 1) := by decide +kernel
theorem d_Variants_find_2 : decode b_Variants_find 2 = .ok (.iload_n 3, 1) := by decide +kernel
theorem d_Variants_find_3 : decode b_Variants_find 3 = .ok (.aload_n 0, 1) := by decide +kernel
theorem d_Variants_find_4 : decode b_Variants_find 4 = .ok (.getfield 20, 3) := by decide +kernel
theorem d_Variants_find_7 : decode b_Variants_find 7 = .ok (.iconst 1, 1) := by decide +kernel
theorem d_Variants_find_8 : decode b_Variants_find 8 = .ok (.invokevirtual 41, 3) := by decide +kernel
theorem d_Variants_find_11 : decode b_Variants_find 11 = .ok (.if_icmp .ge 32, 3) := by decide +kernel
theorem d_Variants_find_14 : decode b_Variants_find 14 = .ok (.aload_n 0, 1) := by decide +kernel
theorem d_Variants_find_15 : decode b_Variants_find 15 = .ok (.getfield 29, 3) := by decide +kernel
theorem d_Variants_find_18 : decode b_Variants_find 18 = .ok (.iload_n 3, 1) := by decide +kernel
theorem d_Variants_find_19 : decode b_Variants_find 19 = .ok (.invokevirtual 41, 3) := by decide +kernel
theorem d_Variants_find_22 : decode b_Variants_find 22 = .ok (.iload_n 1, 1) := by decide +kernel
theorem d_Variants_find_23 : decode b_Variants_find 23 = .ok (.if_icmp .ne 14, 3) := by decide +kernel
theorem d_Variants_find_26 : decode b_Variants_find 26 = .ok (.aload_n 0, 1) := by decide +kernel
theorem d_Variants_find_27 : decode b_Variants_find 27 = .ok (.iload_n 3, 1) := by decide +kernel
theorem d_Variants_find_28 : decode b_Variants_find 28 = .ok (.iload_n 2, 1) := by decide +kernel
theorem d_Variants_find_29 : decode b_Variants_find 29 = .ok (.invokevirtual 76, 3) := by decide +kernel
theorem d_Variants_find_32 : decode b_Variants_find 32 = .ok (.ifCond .eq 5, 3) := by decide +kernel
theorem d_Variants_find_35 : decode b_Variants_find 35 = .ok (.iload_n 3, 1) := by decide +kernel
theorem d_Variants_find_36 : decode b_Variants_find 36 = .ok (.ireturn, 1) := by decide +kernel
theorem d_Variants_find_37 : decode b_Variants_find 37 = .ok (.iinc 3 1, 3) := by decide +kernel
theorem d_Variants_find_40 : decode b_Variants_find 40 = .ok (.goto (-38), 3) := by decide +kernel
theorem d_Variants_find_43 : decode b_Variants_find 43 = .ok (.iconst (-1), 1) := by decide +kernel
theorem d_Variants_find_44 : decode b_Variants_find 44 = .ok (.ireturn, 1) := by decide +kernel
theorem d_Variants_isAt_0 : decode b_Variants_isAt 0 = .ok (.aload_n 0, 1) := by decide +kernel
theorem d_Variants_isAt_1 : decode b_Variants_isAt 1 = .ok (.getfield 9, 3) := by decide +kernel
theorem d_Variants_isAt_4 : decode b_Variants_isAt 4 = .ok (.iload_n 2, 1) := by decide +kernel
theorem d_Variants_isAt_5 : decode b_Variants_isAt 5 = .ok (.invokevirtual 80, 3) := by decide +kernel
theorem d_Variants_isAt_8 : decode b_Variants_isAt 8 = .ok (.istore_n 3, 1) := by decide +kernel
theorem d_Variants_isAt_9 : decode b_Variants_isAt 9 = .ok (.aload_n 0, 1) := by decide +kernel
theorem d_Variants_isAt_10 : decode b_Variants_isAt 10 = .ok (.getfield 35, 3) := by decide +kernel
theorem d_Variants_isAt_13 : decode b_Variants_isAt 13 = .ok (.iload_n 1, 1) := by decide +kernel
theorem d_Variants_isAt_14 : decode b_Variants_isAt 14 = .ok (.invokevirtual 41, 3) := by decide +kernel
theorem d_Variants_isAt_17 : decode b_Variants_isAt 17 = .ok (.iload_n 3, 1) := by decide +kernel
theorem d_Variants_isAt_18 : decode b_Variants_isAt 18 = .ok (.if_icmp .eq 5, 3) := by decide +kernel
theorem d_Variants_isAt_21 : decode b_Variants_isAt 21 = .ok (.iconst 0, 1) := by decide +kernel
theorem d_Variants_isAt_22 : decode b_Variants_isAt 22 = .ok (.ireturn, 1) := by decide +kernel
theorem d_Variants_isAt_23 : decode b_Variants_isAt 23 = .ok (.iload_n 2, 1) := by decide +kernel
theorem d_Variants_isAt_24 : decode b_Variants_isAt 24 = .ok (.istore 4, 2) := by decide +kernel
theorem d_Variants_isAt_26 : decode b_Variants_isAt 26 = .ok (.iload_n 3, 1) := by decide +kernel
theorem d_Variants_isAt_27 : decode b_Variants_isAt 27 = .ok (.iconst 1, 1) := by decide +kernel
theorem d_Variants_isAt_28 : decode b_Variants_isAt 28 = .ok (.isub, 1) := by decide +kernel
theorem d_Variants_isAt_29 : decode b_Variants_isAt 29 = .ok (.istore 5, 2) := by decide +kernel
theorem d_Variants_isAt_31 : decode b_Variants_isAt 31 = .ok (.iload 5, 2) := by decide +kernel
theorem d_Variants_isAt_33 : decode b_Variants_isAt 33 = .ok (.ifCond .lt 48, 3) := by decide +kernel
theorem d_Variants_isAt_36 : decode b_Variants_isAt 36 = .ok (.aload_n 0, 1) := by decide +kernel
theorem d_Variants_isAt_37 : decode b_Variants_isAt 37 = .ok (.getfield 38, 3) := by decide +kernel
theorem d_Variants_isAt_40 : decode b_Variants_isAt 40 = .ok (.iload_n 1, 1) := by decide +kernel
theorem d_Variants_isAt_41 : decode b_Variants_isAt 41 = .ok (.bipush 23, 2) := by decide +kernel
theorem d_Variants_isAt_43 : decode b_Variants_isAt 43 = .ok (.imul, 1) := by decide +kernel
theorem d_Variants_isAt_44 : decode b_Variants_isAt 44 = .ok (.iload 5, 2) := by decide +kernel
theorem d_Variants_isAt_46 : decode b_Variants_isAt 46 = .ok (.iadd, 1) := by decide +kernel
theorem d_Variants_isAt_47 : decode b_Variants_isAt 47 = .ok (.invokevirtual 41, 3) := by decide +kernel
theorem d_Variants_isAt_50 : decode b_Variants_isAt 50 = .ok (.aload_n 0, 1) := by decide +kernel
theorem d_Variants_isAt_51 : decode b_Variants_isAt 51 = .ok (.getfield 9, 3) := by decide +kernel
theorem d_Variants_isAt_54 : decode b_Variants_isAt 54 = .ok (.iload 4, 2) := by decide +kernel
theorem d_Variants_isAt_56 : decode b_Variants_isAt 56 = .ok (.invokevirtual 83, 3) := by decide +kernel
theorem d_Variants_isAt_59 : decode b_Variants_isAt 59 = .ok (.if_icmp .eq 5, 3) := by decide +kernel
theorem d_Variants_isAt_62 : decode b_Variants_isAt 62 = .ok (.iconst 0, 1) := by decide +kernel
theorem d_Variants_isAt_63 : decode b_Variants_isAt 63 = .ok (.ireturn, 1) := by decide +kernel
theorem d_Variants_isAt_64 : decode b_Variants_isAt 64 = .ok (.aload_n 0, 1) := by decide +kernel
theorem d_Variants_isAt_65 : decode b_Variants_isAt 65 = .ok (.getfield 9, 3) := by decide +kernel
theorem d_Variants_isAt_68 : decode b_Variants_isAt 68 = .ok (.iload 4, 2) := by decide +kernel
theorem d_Variants_isAt_70 : decode b_Variants_isAt 70 = .ok (.invokevirtual 71, 3) := by decide +kernel
theorem d_Variants_isAt_73 : decode b_Variants_isAt 73 = .ok (.istore 4, 2) := by decide +kernel
theorem d_Variants_isAt_75 : decode b_Variants_isAt 75 = .ok (.iinc 5 (-1), 3) := by decide +kernel
theorem d_Variants_isAt_78 : decode b_Variants_isAt 78 = .ok (.goto (-47), 3) := by decide +kernel
theorem d_Variants_isAt_81 : decode b_Variants_isAt 81 = .ok (.iconst 1, 1) := by decide +kernel
theorem d_Variants_isAt_82 : decode b_Variants_isAt 82 = .ok (.ireturn, 1) := by decide +kernel
theorem d_Variants_addTelling_0 : decode b_Variants_addTelling 0 = .ok (.aload_n 0, 1) := by decide +kernel
theorem d_Variants_addTelling_1 : decode b_Variants_addTelling 1 = .ok (.getfield 20, 3) := by decide +kernel
theorem d_Variants_addTelling_4 : decode b_Variants_addTelling 4 = .ok (.iconst 1, 1) := by decide +kernel
theorem d_Variants_addTelling_5 : decode b_Variants_addTelling 5 = .ok (.invokevirtual 41, 3) := by decide +kernel
theorem d_Variants_addTelling_8 : decode b_Variants_addTelling 8 = .ok (.istore_n 3, 1) := by decide +kernel
theorem d_Variants_addTelling_9 : decode b_Variants_addTelling 9 = .ok (.aload_n 0, 1) := by decide +kernel
theorem d_Variants_addTelling_10 : decode b_Variants_addTelling 10 = .ok (.getfield 20, 3) := by decide +kernel
theorem d_Variants_addTelling_13 : decode b_Variants_addTelling 13 = .ok (.iconst 1, 1) := by decide +kernel
theorem d_Variants_addTelling_14 : decode b_Variants_addTelling 14 = .ok (.iload_n 3, 1) := by decide +kernel
theorem d_Variants_addTelling_15 : decode b_Variants_addTelling 15 = .ok (.iconst 1, 1) := by decide +kernel
theorem d_Variants_addTelling_16 : decode b_Variants_addTelling 16 = .ok (.iadd, 1) := by decide +kernel
theorem d_Variants_addTelling_17 : decode b_Variants_addTelling 17 = .ok (.i2l, 1) := by decide +kernel
theorem d_Variants_addTelling_18 : decode b_Variants_addTelling 18 = .ok (.invokevirtual 49, 3) := by decide +kernel
theorem d_Variants_addTelling_21 : decode b_Variants_addTelling 21 = .ok (.aload_n 0, 1) := by decide +kernel
theorem d_Variants_addTelling_22 : decode b_Variants_addTelling 22 = .ok (.getfield 29, 3) := by decide +kernel
theorem d_Variants_addTelling_25 : decode b_Variants_addTelling 25 = .ok (.iload_n 3, 1) := by decide +kernel
theorem d_Variants_addTelling_26 : decode b_Variants_addTelling 26 = .ok (.iload_n 1, 1) := by decide +kernel
theorem d_Variants_addTelling_27 : decode b_Variants_addTelling 27 = .ok (.i2l, 1) := by decide +kernel
theorem d_Variants_addTelling_28 : decode b_Variants_addTelling 28 = .ok (.invokevirtual 49, 3) := by decide +kernel
theorem d_Variants_addTelling_31 : decode b_Variants_addTelling 31 = .ok (.aload_n 0, 1) := by decide +kernel
theorem d_Variants_addTelling_32 : decode b_Variants_addTelling 32 = .ok (.getfield 35, 3) := by decide +kernel
theorem d_Variants_addTelling_35 : decode b_Variants_addTelling 35 = .ok (.iload_n 3, 1) := by decide +kernel
theorem d_Variants_addTelling_36 : decode b_Variants_addTelling 36 = .ok (.aload_n 0, 1) := by decide +kernel
theorem d_Variants_addTelling_37 : decode b_Variants_addTelling 37 = .ok (.getfield 9, 3) := by decide +kernel
theorem d_Variants_addTelling_40 : decode b_Variants_addTelling 40 = .ok (.iload_n 2, 1) := by decide +kernel
theorem d_Variants_addTelling_41 : decode b_Variants_addTelling 41 = .ok (.invokevirtual 80, 3) := by decide +kernel
theorem d_Variants_addTelling_44 : decode b_Variants_addTelling 44 = .ok (.i2l, 1) := by decide +kernel
theorem d_Variants_addTelling_45 : decode b_Variants_addTelling 45 = .ok (.invokevirtual 49, 3) := by decide +kernel
theorem d_Variants_addTelling_48 : decode b_Variants_addTelling 48 = .ok (.iload_n 2, 1) := by decide +kernel
theorem d_Variants_addTelling_49 : decode b_Variants_addTelling 49 = .ok (.istore 4, 2) := by decide +kernel
theorem d_Variants_addTelling_51 : decode b_Variants_addTelling 51 = .ok (.aload_n 0, 1) := by decide +kernel
theorem d_Variants_addTelling_52 : decode b_Variants_addTelling 52 = .ok (.getfield 9, 3) := by decide +kernel
theorem d_Variants_addTelling_55 : decode b_Variants_addTelling 55 = .ok (.iload_n 2, 1) := by decide +kernel
theorem d_Variants_addTelling_56 : decode b_Variants_addTelling 56 = .ok (.invokevirtual 80, 3) := by decide +kernel
theorem d_Variants_addTelling_59 : decode b_Variants_addTelling 59 = .ok (.iconst 1, 1) := by decide +kernel
theorem d_Variants_addTelling_60 : decode b_Variants_addTelling 60 = .ok (.isub, 1) := by decide +kernel
theorem d_Variants_addTelling_61 : decode b_Variants_addTelling 61 = .ok (.istore 5, 2) := by decide +kernel
theorem d_Variants_addTelling_63 : decode b_Variants_addTelling 63 = .ok (.iload 5, 2) := by decide +kernel
theorem d_Variants_addTelling_65 : decode b_Variants_addTelling 65 = .ok (.ifCond .lt 44, 3) := by decide +kernel
theorem d_Variants_addTelling_68 : decode b_Variants_addTelling 68 = .ok (.aload_n 0, 1) := by decide +kernel
theorem d_Variants_addTelling_69 : decode b_Variants_addTelling 69 = .ok (.getfield 38, 3) := by decide +kernel
theorem d_Variants_addTelling_72 : decode b_Variants_addTelling 72 = .ok (.iload_n 3, 1) := by decide +kernel
theorem d_Variants_addTelling_73 : decode b_Variants_addTelling 73 = .ok (.bipush 23, 2) := by decide +kernel
theorem d_Variants_addTelling_75 : decode b_Variants_addTelling 75 = .ok (.imul, 1) := by decide +kernel
theorem d_Variants_addTelling_76 : decode b_Variants_addTelling 76 = .ok (.iload 5, 2) := by decide +kernel
theorem d_Variants_addTelling_78 : decode b_Variants_addTelling 78 = .ok (.iadd, 1) := by decide +kernel
theorem d_Variants_addTelling_79 : decode b_Variants_addTelling 79 = .ok (.aload_n 0, 1) := by decide +kernel
theorem d_Variants_addTelling_80 : decode b_Variants_addTelling 80 = .ok (.getfield 9, 3) := by decide +kernel
theorem d_Variants_addTelling_83 : decode b_Variants_addTelling 83 = .ok (.iload 4, 2) := by decide +kernel
theorem d_Variants_addTelling_85 : decode b_Variants_addTelling 85 = .ok (.invokevirtual 83, 3) := by decide +kernel
theorem d_Variants_addTelling_88 : decode b_Variants_addTelling 88 = .ok (.i2l, 1) := by decide +kernel
theorem d_Variants_addTelling_89 : decode b_Variants_addTelling 89 = .ok (.invokevirtual 49, 3) := by decide +kernel
theorem d_Variants_addTelling_92 : decode b_Variants_addTelling 92 = .ok (.aload_n 0, 1) := by decide +kernel
theorem d_Variants_addTelling_93 : decode b_Variants_addTelling 93 = .ok (.getfield 9, 3) := by decide +kernel
theorem d_Variants_addTelling_96 : decode b_Variants_addTelling 96 = .ok (.iload 4, 2) := by decide +kernel
theorem d_Variants_addTelling_98 : decode b_Variants_addTelling 98 = .ok (.invokevirtual 71, 3) := by decide +kernel
theorem d_Variants_addTelling_101 : decode b_Variants_addTelling 101 = .ok (.istore 4, 2) := by decide +kernel
theorem d_Variants_addTelling_103 : decode b_Variants_addTelling 103 = .ok (.iinc 5 (-1), 3) := by decide +kernel
theorem d_Variants_addTelling_106 : decode b_Variants_addTelling 106 = .ok (.goto (-43), 3) := by decide +kernel
theorem d_Variants_addTelling_109 : decode b_Variants_addTelling 109 = .ok (.iload_n 3, 1) := by decide +kernel
theorem d_Variants_addTelling_110 : decode b_Variants_addTelling 110 = .ok (.ireturn, 1) := by decide +kernel
theorem d_Variants_subjectOf_0 : decode b_Variants_subjectOf 0 = .ok (.iload_n 0, 1) := by decide +kernel
theorem d_Variants_subjectOf_1 : decode b_Variants_subjectOf 1 = .ok (.bipush 10, 2) := by decide +kernel
theorem d_Variants_subjectOf_3 : decode b_Variants_subjectOf 3 = .ok (.imul, 1) := by decide +kernel
theorem d_Variants_subjectOf_4 : decode b_Variants_subjectOf 4 = .ok (.iload_n 1, 1) := by decide +kernel
theorem d_Variants_subjectOf_5 : decode b_Variants_subjectOf 5 = .ok (.iadd, 1) := by decide +kernel
theorem d_Variants_subjectOf_6 : decode b_Variants_subjectOf 6 = .ok (.bipush 30, 2) := by decide +kernel
theorem d_Variants_subjectOf_8 : decode b_Variants_subjectOf 8 = .ok (.imul, 1) := by decide +kernel
theorem d_Variants_subjectOf_9 : decode b_Variants_subjectOf 9 = .ok (.iload_n 2, 1) := by decide +kernel
theorem d_Variants_subjectOf_10 : decode b_Variants_subjectOf 10 = .ok (.iadd, 1) := by decide +kernel
theorem d_Variants_subjectOf_11 : decode b_Variants_subjectOf 11 = .ok (.ireturn, 1) := by decide +kernel
theorem d_Arrays_fillI_0 : decode b_Arrays_fillI 0 = .ok (.iconst 0, 1) := by decide +kernel
theorem d_Arrays_fillI_1 : decode b_Arrays_fillI 1 = .ok (.istore_n 2, 1) := by decide +kernel
theorem d_Arrays_fillI_2 : decode b_Arrays_fillI 2 = .ok (.aload_n 0, 1) := by decide +kernel
theorem d_Arrays_fillI_3 : decode b_Arrays_fillI 3 = .ok (.arraylength, 1) := by decide +kernel
theorem d_Arrays_fillI_4 : decode b_Arrays_fillI 4 = .ok (.istore_n 3, 1) := by decide +kernel
theorem d_Arrays_fillI_5 : decode b_Arrays_fillI 5 = .ok (.iload_n 2, 1) := by decide +kernel
theorem d_Arrays_fillI_6 : decode b_Arrays_fillI 6 = .ok (.iload_n 3, 1) := by decide +kernel
theorem d_Arrays_fillI_7 : decode b_Arrays_fillI 7 = .ok (.if_icmp .ge 13, 3) := by decide +kernel
theorem d_Arrays_fillI_10 : decode b_Arrays_fillI 10 = .ok (.aload_n 0, 1) := by decide +kernel
theorem d_Arrays_fillI_11 : decode b_Arrays_fillI 11 = .ok (.iload_n 2, 1) := by decide +kernel
theorem d_Arrays_fillI_12 : decode b_Arrays_fillI 12 = .ok (.iload_n 1, 1) := by decide +kernel
theorem d_Arrays_fillI_13 : decode b_Arrays_fillI 13 = .ok (.iastore, 1) := by decide +kernel
theorem d_Arrays_fillI_14 : decode b_Arrays_fillI 14 = .ok (.iinc 2 1, 3) := by decide +kernel
theorem d_Arrays_fillI_17 : decode b_Arrays_fillI 17 = .ok (.goto (-12), 3) := by decide +kernel
theorem d_Arrays_fillI_20 : decode b_Arrays_fillI 20 = .ok (.return_, 1) := by decide +kernel
theorem d_Arrays_fillL_0 : decode b_Arrays_fillL 0 = .ok (.iconst 0, 1) := by decide +kernel
theorem d_Arrays_fillL_1 : decode b_Arrays_fillL 1 = .ok (.istore_n 3, 1) := by decide +kernel
theorem d_Arrays_fillL_2 : decode b_Arrays_fillL 2 = .ok (.aload_n 0, 1) := by decide +kernel
theorem d_Arrays_fillL_3 : decode b_Arrays_fillL 3 = .ok (.arraylength, 1) := by decide +kernel
theorem d_Arrays_fillL_4 : decode b_Arrays_fillL 4 = .ok (.istore 4, 2) := by decide +kernel
theorem d_Arrays_fillL_6 : decode b_Arrays_fillL 6 = .ok (.iload_n 3, 1) := by decide +kernel
theorem d_Arrays_fillL_7 : decode b_Arrays_fillL 7 = .ok (.iload 4, 2) := by decide +kernel
theorem d_Arrays_fillL_9 : decode b_Arrays_fillL 9 = .ok (.if_icmp .ge 13, 3) := by decide +kernel
theorem d_Arrays_fillL_12 : decode b_Arrays_fillL 12 = .ok (.aload_n 0, 1) := by decide +kernel
theorem d_Arrays_fillL_13 : decode b_Arrays_fillL 13 = .ok (.iload_n 3, 1) := by decide +kernel
theorem d_Arrays_fillL_14 : decode b_Arrays_fillL 14 = .ok (.lload_n 1, 1) := by decide +kernel
theorem d_Arrays_fillL_15 : decode b_Arrays_fillL 15 = .ok (.lastore, 1) := by decide +kernel
theorem d_Arrays_fillL_16 : decode b_Arrays_fillL 16 = .ok (.iinc 3 1, 3) := by decide +kernel
theorem d_Arrays_fillL_19 : decode b_Arrays_fillL 19 = .ok (.goto (-13), 3) := by decide +kernel
theorem d_Arrays_fillL_22 : decode b_Arrays_fillL 22 = .ok (.return_, 1) := by decide +kernel
