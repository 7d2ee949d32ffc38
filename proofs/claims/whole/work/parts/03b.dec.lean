theorem dX7_party_91 : decode cX7_party 91 = .ok (.ireturn, 1) := by decide +kernel
theorem dX7_party_92 : decode cX7_party 92 = .ok (.aload_n 3, 1) := by decide +kernel
theorem dX7_party_93 : decode cX7_party 93 = .ok (.getfield 267, 3) := by decide +kernel
theorem dX7_party_96 : decode cX7_party 96 = .ok (.ireturn, 1) := by decide +kernel
theorem dX7_party_97 : decode cX7_party 97 = .ok (.aload_n 3, 1) := by decide +kernel
theorem dX7_party_98 : decode cX7_party 98 = .ok (.getfield 268, 3) := by decide +kernel
theorem dX7_party_101 : decode cX7_party 101 = .ok (.ireturn, 1) := by decide +kernel
theorem dX7_party_102 : decode cX7_party 102 = .ok (.aload_n 3, 1) := by decide +kernel
theorem dX7_party_103 : decode cX7_party 103 = .ok (.getfield 271, 3) := by decide +kernel
theorem dX7_party_106 : decode cX7_party 106 = .ok (.ireturn, 1) := by decide +kernel
theorem dX7_party_107 : decode cX7_party 107 = .ok (.aload_n 3, 1) := by decide +kernel
theorem dX7_party_108 : decode cX7_party 108 = .ok (.getfield 274, 3) := by decide +kernel
theorem dX7_party_111 : decode cX7_party 111 = .ok (.ireturn, 1) := by decide +kernel
theorem dX7_party_112 : decode cX7_party 112 = .ok (.aload_n 3, 1) := by decide +kernel
theorem dX7_party_113 : decode cX7_party 113 = .ok (.getfield 277, 3) := by decide +kernel
theorem dX7_party_116 : decode cX7_party 116 = .ok (.ifCond .eq 7, 3) := by decide +kernel
theorem dX7_party_119 : decode cX7_party 119 = .ok (.iconst 1, 1) := by decide +kernel
theorem dX7_party_120 : decode cX7_party 120 = .ok (.goto 4, 3) := by decide +kernel
theorem dX7_party_123 : decode cX7_party 123 = .ok (.iconst 0, 1) := by decide +kernel
theorem dX7_party_124 : decode cX7_party 124 = .ok (.ireturn, 1) := by decide +kernel
theorem dX7_party_125 : decode cX7_party 125 = .ok (.aload_n 3, 1) := by decide +kernel
theorem dX7_party_126 : decode cX7_party 126 = .ok (.getfield 280, 3) := by decide +kernel
theorem dX7_party_129 : decode cX7_party 129 = .ok (.ireturn, 1) := by decide +kernel
theorem dX7_party_130 : decode cX7_party 130 = .ok (.new 60, 3) := by decide +kernel
theorem dX7_party_133 : decode cX7_party 133 = .ok (.dup, 1) := by decide +kernel
theorem dX7_party_134 : decode cX7_party 134 = .ok (.ldc_w 283, 3) := by decide +kernel
theorem dX7_party_137 : decode cX7_party 137 = .ok (.invokespecial 64, 3) := by decide +kernel
theorem dX7_party_140 : decode cX7_party 140 = .ok (.athrow, 1) := by decide +kernel
theorem dX7_moves_0 : decode cX7_moves 0 = .ok (.aload_n 0, 1) := by decide +kernel
theorem dX7_moves_1 : decode cX7_moves 1 = .ok (.getfield 49, 3) := by decide +kernel
theorem dX7_moves_4 : decode cX7_moves 4 = .ok (.ireturn, 1) := by decide +kernel
theorem dX7_moveOf_0 : decode cX7_moveOf 0 = .ok (.iload_n 1, 1) := by decide +kernel
theorem dX7_moveOf_1 : decode cX7_moveOf 1 = .ok (.iconst 0, 1) := by decide +kernel
theorem dX7_moveOf_2 : decode cX7_moveOf 2 = .ok (.aload_n 0, 1) := by decide +kernel
theorem dX7_moveOf_3 : decode cX7_moveOf 3 = .ok (.getfield 49, 3) := by decide +kernel
theorem dX7_moveOf_6 : decode cX7_moveOf 6 = .ok (.iconst 1, 1) := by decide +kernel
theorem dX7_moveOf_7 : decode cX7_moveOf 7 = .ok (.isub, 1) := by decide +kernel
theorem dX7_moveOf_8 : decode cX7_moveOf 8 = .ok (.invokestatic 56, 3) := by decide +kernel
theorem dX7_moveOf_11 : decode cX7_moveOf 11 = .ok (.ifCond .ne 14, 3) := by decide +kernel
theorem dX7_moveOf_14 : decode cX7_moveOf 14 = .ok (.new 249, 3) := by decide +kernel
theorem dX7_moveOf_17 : decode cX7_moveOf 17 = .ok (.dup, 1) := by decide +kernel
theorem dX7_moveOf_18 : decode cX7_moveOf 18 = .ok (.ldc_w 285, 3) := by decide +kernel
theorem dX7_moveOf_21 : decode cX7_moveOf 21 = .ok (.invokespecial 253, 3) := by decide +kernel
theorem dX7_moveOf_24 : decode cX7_moveOf 24 = .ok (.athrow, 1) := by decide +kernel
theorem dX7_moveOf_25 : decode cX7_moveOf 25 = .ok (.iload_n 2, 1) := by decide +kernel
theorem dX7_moveOf_26 : decode cX7_moveOf 26 = .ok (.iconst 0, 1) := by decide +kernel
theorem dX7_moveOf_27 : decode cX7_moveOf 27 = .ok (.iconst 2, 1) := by decide +kernel
theorem dX7_moveOf_28 : decode cX7_moveOf 28 = .ok (.invokestatic 56, 3) := by decide +kernel
theorem dX7_moveOf_31 : decode cX7_moveOf 31 = .ok (.ifCond .ne 14, 3) := by decide +kernel
theorem dX7_moveOf_34 : decode cX7_moveOf 34 = .ok (.new 60, 3) := by decide +kernel
theorem dX7_moveOf_37 : decode cX7_moveOf 37 = .ok (.dup, 1) := by decide +kernel
theorem dX7_moveOf_38 : decode cX7_moveOf 38 = .ok (.ldc_w 287, 3) := by decide +kernel
theorem dX7_moveOf_41 : decode cX7_moveOf 41 = .ok (.invokespecial 64, 3) := by decide +kernel
theorem dX7_moveOf_44 : decode cX7_moveOf 44 = .ok (.athrow, 1) := by decide +kernel
theorem dX7_moveOf_45 : decode cX7_moveOf 45 = .ok (.aload_n 0, 1) := by decide +kernel
theorem dX7_moveOf_46 : decode cX7_moveOf 46 = .ok (.getfield 52, 3) := by decide +kernel
theorem dX7_moveOf_49 : decode cX7_moveOf 49 = .ok (.iload_n 1, 1) := by decide +kernel
theorem dX7_moveOf_50 : decode cX7_moveOf 50 = .ok (.iconst 3, 1) := by decide +kernel
theorem dX7_moveOf_51 : decode cX7_moveOf 51 = .ok (.imul, 1) := by decide +kernel
theorem dX7_moveOf_52 : decode cX7_moveOf 52 = .ok (.iload_n 2, 1) := by decide +kernel
theorem dX7_moveOf_53 : decode cX7_moveOf 53 = .ok (.iadd, 1) := by decide +kernel
theorem dX7_moveOf_54 : decode cX7_moveOf 54 = .ok (.iaload, 1) := by decide +kernel
theorem dX7_moveOf_55 : decode cX7_moveOf 55 = .ok (.ireturn, 1) := by decide +kernel
theorem dX7_move_0 : decode cX7_move 0 = .ok (.aload_n 0, 1) := by decide +kernel
theorem dX7_move_1 : decode cX7_move 1 = .ok (.iload_n 1, 1) := by decide +kernel
theorem dX7_move_2 : decode cX7_move 2 = .ok (.invokevirtual 254, 3) := by decide +kernel
theorem dX7_move_5 : decode cX7_move 5 = .ok (.aload_n 0, 1) := by decide +kernel
theorem dX7_move_6 : decode cX7_move 6 = .ok (.iload_n 2, 1) := by decide +kernel
theorem dX7_move_7 : decode cX7_move 7 = .ok (.invokevirtual 83, 3) := by decide +kernel
theorem dX7_move_10 : decode cX7_move 10 = .ok (.aload_n 0, 1) := by decide +kernel
theorem dX7_move_11 : decode cX7_move 11 = .ok (.getfield 20, 3) := by decide +kernel
theorem dX7_move_14 : decode cX7_move 14 = .ok (.getfield 257, 3) := by decide +kernel
theorem dX7_move_17 : decode cX7_move 17 = .ok (.iload_n 1, 1) := by decide +kernel
theorem dX7_move_18 : decode cX7_move 18 = .ok (.aaload, 1) := by decide +kernel
theorem dX7_move_19 : decode cX7_move 19 = .ok (.astore_n 3, 1) := by decide +kernel
theorem dX7_move_20 : decode cX7_move 20 = .ok (.aload_n 0, 1) := by decide +kernel
theorem dX7_move_21 : decode cX7_move 21 = .ok (.getfield 20, 3) := by decide +kernel
theorem dX7_move_24 : decode cX7_move 24 = .ok (.aload_n 3, 1) := by decide +kernel
theorem dX7_move_25 : decode cX7_move 25 = .ok (.invokevirtual 289, 3) := by decide +kernel
theorem dX7_move_28 : decode cX7_move 28 = .ok (.ifCond .eq 11, 3) := by decide +kernel
theorem dX7_move_31 : decode cX7_move 31 = .ok (.aload_n 3, 1) := by decide +kernel
theorem dX7_move_32 : decode cX7_move 32 = .ok (.getfield 271, 3) := by decide +kernel
theorem dX7_move_35 : decode cX7_move 35 = .ok (.iload_n 2, 1) := by decide +kernel
theorem dX7_move_36 : decode cX7_move 36 = .ok (.if_icmp .ne 14, 3) := by decide +kernel
theorem dX7_move_39 : decode cX7_move 39 = .ok (.new 70, 3) := by decide +kernel
theorem dX7_move_42 : decode cX7_move 42 = .ok (.dup, 1) := by decide +kernel
theorem dX7_move_43 : decode cX7_move 43 = .ok (.ldc_w 293, 3) := by decide +kernel
theorem dX7_move_46 : decode cX7_move 46 = .ok (.invokespecial 74, 3) := by decide +kernel
theorem dX7_move_49 : decode cX7_move 49 = .ok (.athrow, 1) := by decide +kernel
theorem dX7_move_50 : decode cX7_move 50 = .ok (.aload_n 0, 1) := by decide +kernel
theorem dX7_move_51 : decode cX7_move 51 = .ok (.getfield 20, 3) := by decide +kernel
theorem dX7_move_54 : decode cX7_move 54 = .ok (.aload_n 3, 1) := by decide +kernel
theorem dX7_move_55 : decode cX7_move 55 = .ok (.iload_n 1, 1) := by decide +kernel
theorem dX7_move_56 : decode cX7_move 56 = .ok (.iload_n 2, 1) := by decide +kernel
theorem dX7_move_57 : decode cX7_move 57 = .ok (.invokevirtual 295, 3) := by decide +kernel
theorem dX7_move_60 : decode cX7_move 60 = .ok (.iconst 1, 1) := by decide +kernel
theorem dX7_move_61 : decode cX7_move 61 = .ok (.iconst 3, 1) := by decide +kernel
theorem dX7_move_62 : decode cX7_move 62 = .ok (.invokestatic 56, 3) := by decide +kernel
theorem dX7_move_65 : decode cX7_move 65 = .ok (.ifCond .eq 14, 3) := by decide +kernel
theorem dX7_move_68 : decode cX7_move 68 = .ok (.new 214, 3) := by decide +kernel
theorem dX7_move_71 : decode cX7_move 71 = .ok (.dup, 1) := by decide +kernel
theorem dX7_move_72 : decode cX7_move 72 = .ok (.ldc_w 299, 3) := by decide +kernel
theorem dX7_move_75 : decode cX7_move 75 = .ok (.invokespecial 218, 3) := by decide +kernel
theorem dX7_move_78 : decode cX7_move 78 = .ok (.athrow, 1) := by decide +kernel
theorem dX7_move_79 : decode cX7_move 79 = .ok (.aload_n 0, 1) := by decide +kernel
theorem dX7_move_80 : decode cX7_move 80 = .ok (.getfield 34, 3) := by decide +kernel
theorem dX7_move_83 : decode cX7_move 83 = .ok (.aload_n 0, 1) := by decide +kernel
theorem dX7_move_84 : decode cX7_move 84 = .ok (.getfield 20, 3) := by decide +kernel
theorem dX7_move_87 : decode cX7_move 87 = .ok (.invokevirtual 75, 3) := by decide +kernel
theorem dX7_move_90 : decode cX7_move 90 = .ok (.aload_n 3, 1) := by decide +kernel
theorem dX7_move_91 : decode cX7_move 91 = .ok (.getfield 271, 3) := by decide +kernel
theorem dX7_move_94 : decode cX7_move 94 = .ok (.istore 4, 2) := by decide +kernel
theorem dX7_move_96 : decode cX7_move 96 = .ok (.aload_n 3, 1) := by decide +kernel
theorem dX7_move_97 : decode cX7_move 97 = .ok (.iload_n 2, 1) := by decide +kernel
theorem dX7_move_98 : decode cX7_move 98 = .ok (.putfield 271, 3) := by decide +kernel
theorem dX7_move_101 : decode cX7_move 101 = .ok (.iload 4, 2) := by decide +kernel
theorem dX7_move_103 : decode cX7_move 103 = .ok (.ireturn, 1) := by decide +kernel
theorem dX7_cancel_0 : decode cX7_cancel 0 = .ok (.aload_n 0, 1) := by decide +kernel
theorem dX7_cancel_1 : decode cX7_cancel 1 = .ok (.iload_n 1, 1) := by decide +kernel
theorem dX7_cancel_2 : decode cX7_cancel 2 = .ok (.invokevirtual 254, 3) := by decide +kernel
theorem dX7_cancel_5 : decode cX7_cancel 5 = .ok (.aload_n 0, 1) := by decide +kernel
theorem dX7_cancel_6 : decode cX7_cancel 6 = .ok (.getfield 20, 3) := by decide +kernel
theorem dX7_cancel_9 : decode cX7_cancel 9 = .ok (.getfield 257, 3) := by decide +kernel
theorem dX7_cancel_12 : decode cX7_cancel 12 = .ok (.iload_n 1, 1) := by decide +kernel
theorem dX7_cancel_13 : decode cX7_cancel 13 = .ok (.aaload, 1) := by decide +kernel
theorem dX7_cancel_14 : decode cX7_cancel 14 = .ok (.astore_n 2, 1) := by decide +kernel
theorem dX7_cancel_15 : decode cX7_cancel 15 = .ok (.aload_n 0, 1) := by decide +kernel
theorem dX7_cancel_16 : decode cX7_cancel 16 = .ok (.getfield 20, 3) := by decide +kernel
theorem dX7_cancel_19 : decode cX7_cancel 19 = .ok (.aload_n 2, 1) := by decide +kernel
theorem dX7_cancel_20 : decode cX7_cancel 20 = .ok (.invokevirtual 289, 3) := by decide +kernel
theorem dX7_cancel_23 : decode cX7_cancel 23 = .ok (.ifCond .ne 14, 3) := by decide +kernel
theorem dX7_cancel_26 : decode cX7_cancel 26 = .ok (.new 70, 3) := by decide +kernel
theorem dX7_cancel_29 : decode cX7_cancel 29 = .ok (.dup, 1) := by decide +kernel
theorem dX7_cancel_30 : decode cX7_cancel 30 = .ok (.ldc_w 301, 3) := by decide +kernel
theorem dX7_cancel_33 : decode cX7_cancel 33 = .ok (.invokespecial 74, 3) := by decide +kernel
theorem dX7_cancel_36 : decode cX7_cancel 36 = .ok (.athrow, 1) := by decide +kernel
theorem dX7_cancel_37 : decode cX7_cancel 37 = .ok (.aload_n 0, 1) := by decide +kernel
theorem dX7_cancel_38 : decode cX7_cancel 38 = .ok (.getfield 34, 3) := by decide +kernel
theorem dX7_cancel_41 : decode cX7_cancel 41 = .ok (.aload_n 0, 1) := by decide +kernel
theorem dX7_cancel_42 : decode cX7_cancel 42 = .ok (.getfield 20, 3) := by decide +kernel
theorem dX7_cancel_45 : decode cX7_cancel 45 = .ok (.invokevirtual 75, 3) := by decide +kernel
theorem dX7_cancel_48 : decode cX7_cancel 48 = .ok (.aload_n 2, 1) := by decide +kernel
theorem dX7_cancel_49 : decode cX7_cancel 49 = .ok (.iconst 0, 1) := by decide +kernel
theorem dX7_cancel_50 : decode cX7_cancel 50 = .ok (.putfield 277, 3) := by decide +kernel
theorem dX7_cancel_53 : decode cX7_cancel 53 = .ok (.aload_n 2, 1) := by decide +kernel
theorem dX7_cancel_54 : decode cX7_cancel 54 = .ok (.aload_n 2, 1) := by decide +kernel
theorem dX7_cancel_55 : decode cX7_cancel 55 = .ok (.aload_n 0, 1) := by decide +kernel
theorem dX7_cancel_56 : decode cX7_cancel 56 = .ok (.getfield 20, 3) := by decide +kernel
theorem dX7_cancel_59 : decode cX7_cancel 59 = .ok (.getfield 186, 3) := by decide +kernel
theorem dX7_cancel_62 : decode cX7_cancel 62 = .ok (.invokevirtual 303, 3) := by decide +kernel
theorem dX7_cancel_65 : decode cX7_cancel 65 = .ok (.putfield 280, 3) := by decide +kernel
theorem dX7_cancel_68 : decode cX7_cancel 68 = .ok (.aload_n 2, 1) := by decide +kernel
theorem dX7_cancel_69 : decode cX7_cancel 69 = .ok (.getfield 280, 3) := by decide +kernel
theorem dX7_cancel_72 : decode cX7_cancel 72 = .ok (.ireturn, 1) := by decide +kernel
theorem dX7_advance_0 : decode cX7_advance 0 = .ok (.iload_n 1, 1) := by decide +kernel
theorem dX7_advance_1 : decode cX7_advance 1 = .ok (.iconst 0, 1) := by decide +kernel
theorem dX7_advance_2 : decode cX7_advance 2 = .ok (.bipush 60, 2) := by decide +kernel
theorem dX7_advance_4 : decode cX7_advance 4 = .ok (.aload_n 0, 1) := by decide +kernel
theorem dX7_advance_5 : decode cX7_advance 5 = .ok (.getfield 20, 3) := by decide +kernel
theorem dX7_advance_8 : decode cX7_advance 8 = .ok (.getfield 186, 3) := by decide +kernel
theorem dX7_advance_11 : decode cX7_advance 11 = .ok (.isub, 1) := by decide +kernel
theorem dX7_advance_12 : decode cX7_advance 12 = .ok (.invokestatic 56, 3) := by decide +kernel
theorem dX7_advance_15 : decode cX7_advance 15 = .ok (.ifCond .ne 14, 3) := by decide +kernel
theorem dX7_advance_18 : decode cX7_advance 18 = .ok (.new 60, 3) := by decide +kernel
theorem dX7_advance_21 : decode cX7_advance 21 = .ok (.dup, 1) := by decide +kernel
theorem dX7_advance_22 : decode cX7_advance 22 = .ok (.ldc_w 307, 3) := by decide +kernel
theorem dX7_advance_25 : decode cX7_advance 25 = .ok (.invokespecial 64, 3) := by decide +kernel
theorem dX7_advance_28 : decode cX7_advance 28 = .ok (.athrow, 1) := by decide +kernel
theorem dX7_advance_29 : decode cX7_advance 29 = .ok (.aload_n 0, 1) := by decide +kernel
theorem dX7_advance_30 : decode cX7_advance 30 = .ok (.getfield 34, 3) := by decide +kernel
theorem dX7_advance_33 : decode cX7_advance 33 = .ok (.aload_n 0, 1) := by decide +kernel
theorem dX7_advance_34 : decode cX7_advance 34 = .ok (.getfield 20, 3) := by decide +kernel
theorem dX7_advance_37 : decode cX7_advance 37 = .ok (.invokevirtual 75, 3) := by decide +kernel
theorem dX7_advance_40 : decode cX7_advance 40 = .ok (.aload_n 0, 1) := by decide +kernel
theorem dX7_advance_41 : decode cX7_advance 41 = .ok (.getfield 20, 3) := by decide +kernel
theorem dX7_advance_44 : decode cX7_advance 44 = .ok (.getfield 186, 3) := by decide +kernel
theorem dX7_advance_47 : decode cX7_advance 47 = .ok (.istore_n 2, 1) := by decide +kernel
theorem dX7_advance_48 : decode cX7_advance 48 = .ok (.aload_n 0, 1) := by decide +kernel
theorem dX7_advance_49 : decode cX7_advance 49 = .ok (.getfield 20, 3) := by decide +kernel
theorem dX7_advance_52 : decode cX7_advance 52 = .ok (.iload_n 2, 1) := by decide +kernel
theorem dX7_advance_53 : decode cX7_advance 53 = .ok (.iload_n 1, 1) := by decide +kernel
theorem dX7_advance_54 : decode cX7_advance 54 = .ok (.iadd, 1) := by decide +kernel
theorem dX7_advance_55 : decode cX7_advance 55 = .ok (.putfield 186, 3) := by decide +kernel
theorem dX7_advance_58 : decode cX7_advance 58 = .ok (.aload_n 0, 1) := by decide +kernel
theorem dX7_advance_59 : decode cX7_advance 59 = .ok (.getfield 20, 3) := by decide +kernel
theorem dX7_advance_62 : decode cX7_advance 62 = .ok (.iload_n 2, 1) := by decide +kernel
theorem dX7_advance_63 : decode cX7_advance 63 = .ok (.aload_n 0, 1) := by decide +kernel
theorem dX7_advance_64 : decode cX7_advance 64 = .ok (.getfield 20, 3) := by decide +kernel
theorem dX7_advance_67 : decode cX7_advance 67 = .ok (.getfield 186, 3) := by decide +kernel
theorem dX7_advance_70 : decode cX7_advance 70 = .ok (.invokevirtual 309, 3) := by decide +kernel
theorem dX7_advance_73 : decode cX7_advance 73 = .ok (.ireturn, 1) := by decide +kernel
theorem dX7_tonight_0 : decode cX7_tonight 0 = .ok (.aload_n 0, 1) := by decide +kernel
theorem dX7_tonight_1 : decode cX7_tonight 1 = .ok (.getfield 20, 3) := by decide +kernel
theorem dX7_tonight_4 : decode cX7_tonight 4 = .ok (.getfield 186, 3) := by decide +kernel
theorem dX7_tonight_7 : decode cX7_tonight 7 = .ok (.ireturn, 1) := by decide +kernel
theorem dX7_obstacle_0 : decode cX7_obstacle 0 = .ok (.aload_n 0, 1) := by decide +kernel
theorem dX7_obstacle_1 : decode cX7_obstacle 1 = .ok (.iload_n 1, 1) := by decide +kernel
theorem dX7_obstacle_2 : decode cX7_obstacle 2 = .ok (.invokevirtual 254, 3) := by decide +kernel
theorem dX7_obstacle_5 : decode cX7_obstacle 5 = .ok (.aload_n 0, 1) := by decide +kernel
theorem dX7_obstacle_6 : decode cX7_obstacle 6 = .ok (.iload_n 2, 1) := by decide +kernel
theorem dX7_obstacle_7 : decode cX7_obstacle 7 = .ok (.invokevirtual 83, 3) := by decide +kernel
theorem dX7_obstacle_10 : decode cX7_obstacle 10 = .ok (.aload_n 0, 1) := by decide +kernel
theorem dX7_obstacle_11 : decode cX7_obstacle 11 = .ok (.getfield 20, 3) := by decide +kernel
theorem dX7_obstacle_14 : decode cX7_obstacle 14 = .ok (.aload_n 0, 1) := by decide +kernel
theorem dX7_obstacle_15 : decode cX7_obstacle 15 = .ok (.getfield 20, 3) := by decide +kernel
theorem dX7_obstacle_18 : decode cX7_obstacle 18 = .ok (.getfield 257, 3) := by decide +kernel
theorem dX7_obstacle_21 : decode cX7_obstacle 21 = .ok (.iload_n 1, 1) := by decide +kernel
theorem dX7_obstacle_22 : decode cX7_obstacle 22 = .ok (.aaload, 1) := by decide +kernel
theorem dX7_obstacle_23 : decode cX7_obstacle 23 = .ok (.iload_n 1, 1) := by decide +kernel
theorem dX7_obstacle_24 : decode cX7_obstacle 24 = .ok (.iload_n 2, 1) := by decide +kernel
theorem dX7_obstacle_25 : decode cX7_obstacle 25 = .ok (.invokevirtual 295, 3) := by decide +kernel
theorem dX7_obstacle_28 : decode cX7_obstacle 28 = .ok (.ireturn, 1) := by decide +kernel
theorem dX7_occupant_0 : decode cX7_occupant 0 = .ok (.aload_n 0, 1) := by decide +kernel
theorem dX7_occupant_1 : decode cX7_occupant 1 = .ok (.iload_n 1, 1) := by decide +kernel
theorem dX7_occupant_2 : decode cX7_occupant 2 = .ok (.invokevirtual 83, 3) := by decide +kernel
theorem dX7_occupant_5 : decode cX7_occupant 5 = .ok (.iload_n 2, 1) := by decide +kernel
theorem dX7_occupant_6 : decode cX7_occupant 6 = .ok (.invokestatic 312, 3) := by decide +kernel
theorem dX7_occupant_9 : decode cX7_occupant 9 = .ok (.aload_n 0, 1) := by decide +kernel
theorem dX7_occupant_10 : decode cX7_occupant 10 = .ok (.getfield 20, 3) := by decide +kernel
theorem dX7_occupant_13 : decode cX7_occupant 13 = .ok (.iload_n 1, 1) := by decide +kernel
theorem dX7_occupant_14 : decode cX7_occupant 14 = .ok (.iload_n 2, 1) := by decide +kernel
theorem dX7_occupant_15 : decode cX7_occupant 15 = .ok (.invokevirtual 315, 3) := by decide +kernel
theorem dX7_occupant_18 : decode cX7_occupant 18 = .ok (.ireturn, 1) := by decide +kernel
theorem dX7_busyNight_0 : decode cX7_busyNight 0 = .ok (.aload_n 0, 1) := by decide +kernel
theorem dX7_busyNight_1 : decode cX7_busyNight 1 = .ok (.iload_n 1, 1) := by decide +kernel
theorem dX7_busyNight_2 : decode cX7_busyNight 2 = .ok (.invokevirtual 83, 3) := by decide +kernel
theorem dX7_busyNight_5 : decode cX7_busyNight 5 = .ok (.aload_n 0, 1) := by decide +kernel
theorem dX7_busyNight_6 : decode cX7_busyNight 6 = .ok (.getfield 20, 3) := by decide +kernel
theorem dX7_busyNight_9 : decode cX7_busyNight 9 = .ok (.iload_n 1, 1) := by decide +kernel
theorem dX7_busyNight_10 : decode cX7_busyNight 10 = .ok (.iconst (-1), 1) := by decide +kernel
theorem dX7_busyNight_11 : decode cX7_busyNight 11 = .ok (.invokevirtual 108, 3) := by decide +kernel
theorem dX7_busyNight_14 : decode cX7_busyNight 14 = .ok (.iload_n 2, 1) := by decide +kernel
theorem dX7_busyNight_15 : decode cX7_busyNight 15 = .ok (.invokestatic 318, 3) := by decide +kernel
theorem dX7_busyNight_18 : decode cX7_busyNight 18 = .ok (.istore_n 3, 1) := by decide +kernel
theorem dX7_busyNight_19 : decode cX7_busyNight 19 = .ok (.iload_n 3, 1) := by decide +kernel
theorem dX7_busyNight_20 : decode cX7_busyNight 20 = .ok (.bipush 60, 2) := by decide +kernel
theorem dX7_busyNight_22 : decode cX7_busyNight 22 = .ok (.if_icmp .lt 14, 3) := by decide +kernel
theorem dX7_busyNight_25 : decode cX7_busyNight 25 = .ok (.new 249, 3) := by decide +kernel
theorem dX7_busyNight_28 : decode cX7_busyNight 28 = .ok (.dup, 1) := by decide +kernel
theorem dX7_busyNight_29 : decode cX7_busyNight 29 = .ok (.ldc_w 322, 3) := by decide +kernel
theorem dX7_busyNight_32 : decode cX7_busyNight 32 = .ok (.invokespecial 253, 3) := by decide +kernel
theorem dX7_busyNight_35 : decode cX7_busyNight 35 = .ok (.athrow, 1) := by decide +kernel
theorem dX7_busyNight_36 : decode cX7_busyNight 36 = .ok (.iload_n 3, 1) := by decide +kernel
theorem dX7_busyNight_37 : decode cX7_busyNight 37 = .ok (.ireturn, 1) := by decide +kernel
theorem dX7_firstFree_0 : decode cX7_firstFree 0 = .ok (.aload_n 0, 1) := by decide +kernel
theorem dX7_firstFree_1 : decode cX7_firstFree 1 = .ok (.iload_n 1, 1) := by decide +kernel
theorem dX7_firstFree_2 : decode cX7_firstFree 2 = .ok (.invokevirtual 83, 3) := by decide +kernel
theorem dX7_firstFree_5 : decode cX7_firstFree 5 = .ok (.iload_n 2, 1) := by decide +kernel
theorem dX7_firstFree_6 : decode cX7_firstFree 6 = .ok (.invokestatic 138, 3) := by decide +kernel
theorem dX7_firstFree_9 : decode cX7_firstFree 9 = .ok (.ifCond .eq 13, 3) := by decide +kernel
theorem dX7_firstFree_12 : decode cX7_firstFree 12 = .ok (.iload_n 3, 1) := by decide +kernel
theorem dX7_firstFree_13 : decode cX7_firstFree 13 = .ok (.iconst 1, 1) := by decide +kernel
theorem dX7_firstFree_14 : decode cX7_firstFree 14 = .ok (.bipush 14, 2) := by decide +kernel
theorem dX7_firstFree_16 : decode cX7_firstFree 16 = .ok (.invokestatic 56, 3) := by decide +kernel
theorem dX7_firstFree_19 : decode cX7_firstFree 19 = .ok (.ifCond .ne 14, 3) := by decide +kernel
theorem dX7_firstFree_22 : decode cX7_firstFree 22 = .ok (.new 60, 3) := by decide +kernel
theorem dX7_firstFree_25 : decode cX7_firstFree 25 = .ok (.dup, 1) := by decide +kernel
theorem dX7_firstFree_26 : decode cX7_firstFree 26 = .ok (.ldc_w 324, 3) := by decide +kernel
theorem dX7_firstFree_29 : decode cX7_firstFree 29 = .ok (.invokespecial 64, 3) := by decide +kernel
theorem dX7_firstFree_32 : decode cX7_firstFree 32 = .ok (.athrow, 1) := by decide +kernel
theorem dX7_firstFree_33 : decode cX7_firstFree 33 = .ok (.aload_n 0, 1) := by decide +kernel
theorem dX7_firstFree_34 : decode cX7_firstFree 34 = .ok (.getfield 20, 3) := by decide +kernel
theorem dX7_firstFree_37 : decode cX7_firstFree 37 = .ok (.iload_n 1, 1) := by decide +kernel
theorem dX7_firstFree_38 : decode cX7_firstFree 38 = .ok (.iconst (-1), 1) := by decide +kernel
theorem dX7_firstFree_39 : decode cX7_firstFree 39 = .ok (.invokevirtual 108, 3) := by decide +kernel
theorem dX7_firstFree_42 : decode cX7_firstFree 42 = .ok (.iload_n 2, 1) := by decide +kernel
theorem dX7_firstFree_43 : decode cX7_firstFree 43 = .ok (.iload_n 3, 1) := by decide +kernel
theorem dX7_firstFree_44 : decode cX7_firstFree 44 = .ok (.invokestatic 326, 3) := by decide +kernel
theorem dX7_firstFree_47 : decode cX7_firstFree 47 = .ok (.istore 4, 2) := by decide +kernel
theorem dX7_firstFree_49 : decode cX7_firstFree 49 = .ok (.iload 4, 2) := by decide +kernel
theorem dX7_firstFree_51 : decode cX7_firstFree 51 = .ok (.bipush 60, 2) := by decide +kernel
theorem dX7_firstFree_53 : decode cX7_firstFree 53 = .ok (.if_icmp .lt 14, 3) := by decide +kernel
theorem dX7_firstFree_56 : decode cX7_firstFree 56 = .ok (.new 249, 3) := by decide +kernel
theorem dX7_firstFree_59 : decode cX7_firstFree 59 = .ok (.dup, 1) := by decide +kernel
theorem dX7_firstFree_60 : decode cX7_firstFree 60 = .ok (.ldc_w 322, 3) := by decide +kernel
theorem dX7_firstFree_63 : decode cX7_firstFree 63 = .ok (.invokespecial 253, 3) := by decide +kernel
theorem dX7_firstFree_66 : decode cX7_firstFree 66 = .ok (.athrow, 1) := by decide +kernel
theorem dX7_firstFree_67 : decode cX7_firstFree 67 = .ok (.iload 4, 2) := by decide +kernel
theorem dX7_firstFree_69 : decode cX7_firstFree 69 = .ok (.ireturn, 1) := by decide +kernel
theorem dX7_power_0 : decode cX7_power 0 = .ok (.iload_n 1, 1) := by decide +kernel
theorem dX7_power_1 : decode cX7_power 1 = .ok (.invokestatic 123, 3) := by decide +kernel
theorem dX7_power_4 : decode cX7_power 4 = .ok (.iload_n 2, 1) := by decide +kernel
theorem dX7_power_5 : decode cX7_power 5 = .ok (.invokestatic 312, 3) := by decide +kernel
theorem dX7_power_8 : decode cX7_power 8 = .ok (.aload_n 0, 1) := by decide +kernel
theorem dX7_power_9 : decode cX7_power 9 = .ok (.getfield 20, 3) := by decide +kernel
theorem dX7_power_12 : decode cX7_power 12 = .ok (.iload_n 1, 1) := by decide +kernel
theorem dX7_power_13 : decode cX7_power 13 = .ok (.iload_n 2, 1) := by decide +kernel
theorem dX7_power_14 : decode cX7_power 14 = .ok (.iconst (-1), 1) := by decide +kernel
theorem dX7_power_15 : decode cX7_power 15 = .ok (.invokevirtual 330, 3) := by decide +kernel
theorem dX7_power_18 : decode cX7_power 18 = .ok (.ireturn, 1) := by decide +kernel
theorem dX7_peak_0 : decode cX7_peak 0 = .ok (.iload_n 1, 1) := by decide +kernel
theorem dX7_peak_1 : decode cX7_peak 1 = .ok (.invokestatic 123, 3) := by decide +kernel
theorem dX7_peak_4 : decode cX7_peak 4 = .ok (.bipush 60, 2) := by decide +kernel
theorem dX7_peak_6 : decode cX7_peak 6 = .ok (.istore_n 2, 1) := by decide +kernel
theorem dX7_peak_7 : decode cX7_peak 7 = .ok (.iconst 0, 1) := by decide +kernel
theorem dX7_peak_8 : decode cX7_peak 8 = .ok (.istore_n 3, 1) := by decide +kernel
theorem dX7_peak_9 : decode cX7_peak 9 = .ok (.iconst 0, 1) := by decide +kernel
theorem dX7_peak_10 : decode cX7_peak 10 = .ok (.istore 4, 2) := by decide +kernel
theorem dX7_peak_12 : decode cX7_peak 12 = .ok (.iload 4, 2) := by decide +kernel
theorem dX7_peak_14 : decode cX7_peak 14 = .ok (.bipush 60, 2) := by decide +kernel
theorem dX7_peak_16 : decode cX7_peak 16 = .ok (.if_icmp .ge 34, 3) := by decide +kernel
theorem dX7_peak_19 : decode cX7_peak 19 = .ok (.aload_n 0, 1) := by decide +kernel
theorem dX7_peak_20 : decode cX7_peak 20 = .ok (.getfield 20, 3) := by decide +kernel
theorem dX7_peak_23 : decode cX7_peak 23 = .ok (.iload_n 1, 1) := by decide +kernel
theorem dX7_peak_24 : decode cX7_peak 24 = .ok (.iload 4, 2) := by decide +kernel
theorem dX7_peak_26 : decode cX7_peak 26 = .ok (.iconst (-1), 1) := by decide +kernel
theorem dX7_peak_27 : decode cX7_peak 27 = .ok (.invokevirtual 330, 3) := by decide +kernel
theorem dX7_peak_30 : decode cX7_peak 30 = .ok (.istore 5, 2) := by decide +kernel
theorem dX7_peak_32 : decode cX7_peak 32 = .ok (.iload 5, 2) := by decide +kernel
theorem dX7_peak_34 : decode cX7_peak 34 = .ok (.iload_n 3, 1) := by decide +kernel
theorem dX7_peak_35 : decode cX7_peak 35 = .ok (.if_icmp .le 9, 3) := by decide +kernel
theorem dX7_peak_38 : decode cX7_peak 38 = .ok (.iload 5, 2) := by decide +kernel
theorem dX7_peak_40 : decode cX7_peak 40 = .ok (.istore_n 3, 1) := by decide +kernel
theorem dX7_peak_41 : decode cX7_peak 41 = .ok (.iload 4, 2) := by decide +kernel
theorem dX7_peak_43 : decode cX7_peak 43 = .ok (.istore_n 2, 1) := by decide +kernel
theorem dX7_peak_44 : decode cX7_peak 44 = .ok (.iinc 4 1, 3) := by decide +kernel
theorem dX7_peak_47 : decode cX7_peak 47 = .ok (.goto (-35), 3) := by decide +kernel
theorem dX7_peak_50 : decode cX7_peak 50 = .ok (.iload_n 2, 1) := by decide +kernel
theorem dX7_peak_51 : decode cX7_peak 51 = .ok (.bipush 60, 2) := by decide +kernel
theorem dX7_peak_53 : decode cX7_peak 53 = .ok (.if_icmp .lt 14, 3) := by decide +kernel
theorem dX7_peak_56 : decode cX7_peak 56 = .ok (.new 249, 3) := by decide +kernel
theorem dX7_peak_59 : decode cX7_peak 59 = .ok (.dup, 1) := by decide +kernel
theorem dX7_peak_60 : decode cX7_peak 60 = .ok (.ldc_w 333, 3) := by decide +kernel
theorem dX7_peak_63 : decode cX7_peak 63 = .ok (.invokespecial 253, 3) := by decide +kernel
theorem dX7_peak_66 : decode cX7_peak 66 = .ok (.athrow, 1) := by decide +kernel
theorem dX7_peak_67 : decode cX7_peak 67 = .ok (.iload_n 2, 1) := by decide +kernel
theorem dX7_peak_68 : decode cX7_peak 68 = .ok (.ireturn, 1) := by decide +kernel
theorem dX7_gap_0 : decode cX7_gap 0 = .ok (.aload_n 0, 1) := by decide +kernel
theorem dX7_gap_1 : decode cX7_gap 1 = .ok (.iload_n 1, 1) := by decide +kernel
theorem dX7_gap_2 : decode cX7_gap 2 = .ok (.invokevirtual 83, 3) := by decide +kernel
theorem dX7_gap_5 : decode cX7_gap 5 = .ok (.aload_n 0, 1) := by decide +kernel
theorem dX7_gap_6 : decode cX7_gap 6 = .ok (.getfield 20, 3) := by decide +kernel
theorem dX7_gap_9 : decode cX7_gap 9 = .ok (.iload_n 1, 1) := by decide +kernel
theorem dX7_gap_10 : decode cX7_gap 10 = .ok (.iconst (-1), 1) := by decide +kernel
theorem dX7_gap_11 : decode cX7_gap 11 = .ok (.invokevirtual 108, 3) := by decide +kernel
theorem dX7_gap_14 : decode cX7_gap 14 = .ok (.lstore 4, 2) := by decide +kernel
theorem dX7_gap_16 : decode cX7_gap 16 = .ok (.aload_n 0, 1) := by decide +kernel
theorem dX7_gap_17 : decode cX7_gap 17 = .ok (.getfield 20, 3) := by decide +kernel
theorem dX7_gap_20 : decode cX7_gap 20 = .ok (.lload 4, 2) := by decide +kernel
theorem dX7_gap_22 : decode cX7_gap 22 = .ok (.invokevirtual 335, 3) := by decide +kernel
theorem dX7_gap_25 : decode cX7_gap 25 = .ok (.iload_n 2, 1) := by decide +kernel
theorem dX7_gap_26 : decode cX7_gap 26 = .ok (.invokestatic 318, 3) := by decide +kernel
theorem dX7_gap_29 : decode cX7_gap 29 = .ok (.istore 6, 2) := by decide +kernel
theorem dX7_gap_31 : decode cX7_gap 31 = .ok (.iload 6, 2) := by decide +kernel
theorem dX7_gap_33 : decode cX7_gap 33 = .ok (.bipush 60, 2) := by decide +kernel
theorem dX7_gap_35 : decode cX7_gap 35 = .ok (.if_icmp .lt 14, 3) := by decide +kernel
theorem dX7_gap_38 : decode cX7_gap 38 = .ok (.new 249, 3) := by decide +kernel
theorem dX7_gap_41 : decode cX7_gap 41 = .ok (.dup, 1) := by decide +kernel
theorem dX7_gap_42 : decode cX7_gap 42 = .ok (.ldc_w 339, 3) := by decide +kernel
theorem dX7_gap_45 : decode cX7_gap 45 = .ok (.invokespecial 253, 3) := by decide +kernel
theorem dX7_gap_48 : decode cX7_gap 48 = .ok (.athrow, 1) := by decide +kernel
theorem dX7_gap_49 : decode cX7_gap 49 = .ok (.iload_n 3, 1) := by decide +kernel
theorem dX7_gap_50 : decode cX7_gap 50 = .ok (.ifCond .eq 17, 3) := by decide +kernel
theorem dX7_gap_53 : decode cX7_gap 53 = .ok (.lload 4, 2) := by decide +kernel
theorem dX7_gap_55 : decode cX7_gap 55 = .ok (.iload 6, 2) := by decide +kernel
theorem dX7_gap_57 : decode cX7_gap 57 = .ok (.iconst 1, 1) := by decide +kernel
theorem dX7_gap_58 : decode cX7_gap 58 = .ok (.iadd, 1) := by decide +kernel
theorem dX7_gap_59 : decode cX7_gap 59 = .ok (.invokestatic 341, 3) := by decide +kernel
theorem dX7_gap_62 : decode cX7_gap 62 = .ok (.iconst 1, 1) := by decide +kernel
theorem dX7_gap_63 : decode cX7_gap 63 = .ok (.isub, 1) := by decide +kernel
theorem dX7_gap_64 : decode cX7_gap 64 = .ok (.goto 7, 3) := by decide +kernel
theorem dX7_gap_67 : decode cX7_gap 67 = .ok (.iload 6, 2) := by decide +kernel
theorem dX7_gap_69 : decode cX7_gap 69 = .ok (.iconst 1, 1) := by decide +kernel
theorem dX7_gap_70 : decode cX7_gap 70 = .ok (.iadd, 1) := by decide +kernel
theorem dX7_gap_71 : decode cX7_gap 71 = .ok (.ireturn, 1) := by decide +kernel
theorem dX7_account_0 : decode cX7_account 0 = .ok (.iload_n 1, 1) := by decide +kernel
theorem dX7_account_1 : decode cX7_account 1 = .ok (.tableswitch 119 0 7 #[47, 55, 63, 79, 87, 95, 103, 111], 47) := by decide +kernel
theorem dX7_account_48 : decode cX7_account 48 = .ok (.aload_n 0, 1) := by decide +kernel
theorem dX7_account_49 : decode cX7_account 49 = .ok (.getfield 20, 3) := by decide +kernel
theorem dX7_account_52 : decode cX7_account 52 = .ok (.getfield 67, 3) := by decide +kernel
theorem dX7_account_55 : decode cX7_account 55 = .ok (.ireturn, 1) := by decide +kernel
theorem dX7_account_56 : decode cX7_account 56 = .ok (.aload_n 0, 1) := by decide +kernel
theorem dX7_account_57 : decode cX7_account 57 = .ok (.getfield 20, 3) := by decide +kernel
theorem dX7_account_60 : decode cX7_account 60 = .ok (.invokevirtual 344, 3) := by decide +kernel
theorem dX7_account_63 : decode cX7_account 63 = .ok (.ireturn, 1) := by decide +kernel
theorem dX7_account_64 : decode cX7_account 64 = .ok (.aload_n 0, 1) := by decide +kernel
theorem dX7_account_65 : decode cX7_account 65 = .ok (.getfield 20, 3) := by decide +kernel
theorem dX7_account_68 : decode cX7_account 68 = .ok (.getfield 191, 3) := by decide +kernel
theorem dX7_account_71 : decode cX7_account 71 = .ok (.aload_n 0, 1) := by decide +kernel
theorem dX7_account_72 : decode cX7_account 72 = .ok (.getfield 20, 3) := by decide +kernel
theorem dX7_account_75 : decode cX7_account 75 = .ok (.invokevirtual 344, 3) := by decide +kernel
theorem dX7_account_78 : decode cX7_account 78 = .ok (.isub, 1) := by decide +kernel
theorem dX7_account_79 : decode cX7_account 79 = .ok (.ireturn, 1) := by decide +kernel
theorem dX7_account_80 : decode cX7_account 80 = .ok (.aload_n 0, 1) := by decide +kernel
theorem dX7_account_81 : decode cX7_account 81 = .ok (.getfield 20, 3) := by decide +kernel
theorem dX7_account_84 : decode cX7_account 84 = .ok (.invokevirtual 347, 3) := by decide +kernel
theorem dX7_account_87 : decode cX7_account 87 = .ok (.ireturn, 1) := by decide +kernel
theorem dX7_account_88 : decode cX7_account 88 = .ok (.aload_n 0, 1) := by decide +kernel
theorem dX7_account_89 : decode cX7_account 89 = .ok (.getfield 20, 3) := by decide +kernel
theorem dX7_account_92 : decode cX7_account 92 = .ok (.invokevirtual 350, 3) := by decide +kernel
theorem dX7_account_95 : decode cX7_account 95 = .ok (.ireturn, 1) := by decide +kernel
theorem dX7_account_96 : decode cX7_account 96 = .ok (.aload_n 0, 1) := by decide +kernel
theorem dX7_account_97 : decode cX7_account 97 = .ok (.getfield 20, 3) := by decide +kernel
theorem dX7_account_100 : decode cX7_account 100 = .ok (.invokevirtual 353, 3) := by decide +kernel
theorem dX7_account_103 : decode cX7_account 103 = .ok (.ireturn, 1) := by decide +kernel
theorem dX7_account_104 : decode cX7_account 104 = .ok (.aload_n 0, 1) := by decide +kernel
theorem dX7_account_105 : decode cX7_account 105 = .ok (.getfield 20, 3) := by decide +kernel
theorem dX7_account_108 : decode cX7_account 108 = .ok (.invokevirtual 356, 3) := by decide +kernel
theorem dX7_account_111 : decode cX7_account 111 = .ok (.ireturn, 1) := by decide +kernel
theorem dX7_account_112 : decode cX7_account 112 = .ok (.aload_n 0, 1) := by decide +kernel
theorem dX7_account_113 : decode cX7_account 113 = .ok (.getfield 20, 3) := by decide +kernel
theorem dX7_account_116 : decode cX7_account 116 = .ok (.getfield 144, 3) := by decide +kernel
theorem dX7_account_119 : decode cX7_account 119 = .ok (.ireturn, 1) := by decide +kernel
theorem dX7_account_120 : decode cX7_account 120 = .ok (.new 60, 3) := by decide +kernel
theorem dX7_account_123 : decode cX7_account 123 = .ok (.dup, 1) := by decide +kernel
theorem dX7_account_124 : decode cX7_account 124 = .ok (.ldc_w 359, 3) := by decide +kernel
theorem dX7_account_127 : decode cX7_account 127 = .ok (.invokespecial 64, 3) := by decide +kernel
theorem dX7_account_130 : decode cX7_account 130 = .ok (.athrow, 1) := by decide +kernel
theorem dX7_share_0 : decode cX7_share 0 = .ok (.aload_n 0, 1) := by decide +kernel
theorem dX7_share_1 : decode cX7_share 1 = .ok (.getfield 20, 3) := by decide +kernel
theorem dX7_share_4 : decode cX7_share 4 = .ok (.getfield 67, 3) := by decide +kernel
theorem dX7_share_7 : decode cX7_share 7 = .ok (.ifCond .gt 14, 3) := by decide +kernel
theorem dX7_share_10 : decode cX7_share 10 = .ok (.new 361, 3) := by decide +kernel
theorem dX7_share_13 : decode cX7_share 13 = .ok (.dup, 1) := by decide +kernel
theorem dX7_share_14 : decode cX7_share 14 = .ok (.ldc_w 363, 3) := by decide +kernel
theorem dX7_share_17 : decode cX7_share 17 = .ok (.invokespecial 365, 3) := by decide +kernel
theorem dX7_share_20 : decode cX7_share 20 = .ok (.athrow, 1) := by decide +kernel
theorem dX7_share_21 : decode cX7_share 21 = .ok (.aload_n 0, 1) := by decide +kernel
theorem dX7_share_22 : decode cX7_share 22 = .ok (.getfield 20, 3) := by decide +kernel
theorem dX7_share_25 : decode cX7_share 25 = .ok (.invokevirtual 356, 3) := by decide +kernel
theorem dX7_share_28 : decode cX7_share 28 = .ok (.i2d, 1) := by decide +kernel
theorem dX7_share_29 : decode cX7_share 29 = .ok (.bipush 60, 2) := by decide +kernel
theorem dX7_share_31 : decode cX7_share 31 = .ok (.aload_n 0, 1) := by decide +kernel
theorem dX7_share_32 : decode cX7_share 32 = .ok (.getfield 20, 3) := by decide +kernel
theorem dX7_share_35 : decode cX7_share 35 = .ok (.getfield 67, 3) := by decide +kernel
theorem dX7_share_38 : decode cX7_share 38 = .ok (.imul, 1) := by decide +kernel
theorem dX7_share_39 : decode cX7_share 39 = .ok (.i2d, 1) := by decide +kernel
theorem dX7_share_40 : decode cX7_share 40 = .ok (.ddiv, 1) := by decide +kernel
theorem dX7_share_41 : decode cX7_share 41 = .ok (.dreturn, 1) := by decide +kernel
theorem dX7_undo_0 : decode cX7_undo 0 = .ok (.aload_n 0, 1) := by decide +kernel
theorem dX7_undo_1 : decode cX7_undo 1 = .ok (.getfield 34, 3) := by decide +kernel
theorem dX7_undo_4 : decode cX7_undo 4 = .ok (.getfield 366, 3) := by decide +kernel
theorem dX7_undo_7 : decode cX7_undo 7 = .ok (.ifCond .gt 14, 3) := by decide +kernel
theorem dX7_undo_10 : decode cX7_undo 10 = .ok (.new 70, 3) := by decide +kernel
theorem dX7_undo_13 : decode cX7_undo 13 = .ok (.dup, 1) := by decide +kernel
theorem dX7_undo_14 : decode cX7_undo 14 = .ok (.ldc_w 369, 3) := by decide +kernel
theorem dX7_undo_17 : decode cX7_undo 17 = .ok (.invokespecial 74, 3) := by decide +kernel
theorem dX7_undo_20 : decode cX7_undo 20 = .ok (.athrow, 1) := by decide +kernel
theorem dX7_undo_21 : decode cX7_undo 21 = .ok (.aload_n 0, 1) := by decide +kernel
theorem dX7_undo_22 : decode cX7_undo 22 = .ok (.getfield 34, 3) := by decide +kernel
theorem dX7_undo_25 : decode cX7_undo 25 = .ok (.aload_n 0, 1) := by decide +kernel
theorem dX7_undo_26 : decode cX7_undo 26 = .ok (.getfield 20, 3) := by decide +kernel
theorem dX7_undo_29 : decode cX7_undo 29 = .ok (.invokevirtual 371, 3) := by decide +kernel
theorem dX7_undo_32 : decode cX7_undo 32 = .ok (.aload_n 0, 1) := by decide +kernel
theorem dX7_undo_33 : decode cX7_undo 33 = .ok (.getfield 34, 3) := by decide +kernel
theorem dX7_undo_36 : decode cX7_undo 36 = .ok (.getfield 366, 3) := by decide +kernel
theorem dX7_undo_39 : decode cX7_undo 39 = .ok (.ireturn, 1) := by decide +kernel
theorem dX7_save_0 : decode cX7_save 0 = .ok (.aload_n 0, 1) := by decide +kernel
theorem dX7_save_1 : decode cX7_save 1 = .ok (.getfield 24, 3) := by decide +kernel
theorem dX7_save_4 : decode cX7_save 4 = .ok (.aload_n 0, 1) := by decide +kernel
theorem dX7_save_5 : decode cX7_save 5 = .ok (.getfield 20, 3) := by decide +kernel
theorem dX7_save_8 : decode cX7_save 8 = .ok (.invokevirtual 374, 3) := by decide +kernel
theorem dX7_save_11 : decode cX7_save 11 = .ok (.aload_n 0, 1) := by decide +kernel
theorem dX7_save_12 : decode cX7_save 12 = .ok (.iconst 1, 1) := by decide +kernel
theorem dX7_save_13 : decode cX7_save 13 = .ok (.putfield 27, 3) := by decide +kernel
theorem dX7_save_16 : decode cX7_save 16 = .ok (.return_, 1) := by decide +kernel
theorem dX7_restore_0 : decode cX7_restore 0 = .ok (.aload_n 0, 1) := by decide +kernel
theorem dX7_restore_1 : decode cX7_restore 1 = .ok (.getfield 27, 3) := by decide +kernel
theorem dX7_restore_4 : decode cX7_restore 4 = .ok (.ifCond .ne 14, 3) := by decide +kernel
theorem dX7_restore_7 : decode cX7_restore 7 = .ok (.new 70, 3) := by decide +kernel
theorem dX7_restore_10 : decode cX7_restore 10 = .ok (.dup, 1) := by decide +kernel
theorem dX7_restore_11 : decode cX7_restore 11 = .ok (.ldc_w 377, 3) := by decide +kernel
theorem dX7_restore_14 : decode cX7_restore 14 = .ok (.invokespecial 74, 3) := by decide +kernel
theorem dX7_restore_17 : decode cX7_restore 17 = .ok (.athrow, 1) := by decide +kernel
theorem dX7_restore_18 : decode cX7_restore 18 = .ok (.aload_n 0, 1) := by decide +kernel
theorem dX7_restore_19 : decode cX7_restore 19 = .ok (.getfield 20, 3) := by decide +kernel
theorem dX7_restore_22 : decode cX7_restore 22 = .ok (.aload_n 0, 1) := by decide +kernel
theorem dX7_restore_23 : decode cX7_restore 23 = .ok (.getfield 24, 3) := by decide +kernel
theorem dX7_restore_26 : decode cX7_restore 26 = .ok (.invokevirtual 374, 3) := by decide +kernel
theorem dX7_restore_29 : decode cX7_restore 29 = .ok (.aload_n 0, 1) := by decide +kernel
theorem dX7_restore_30 : decode cX7_restore 30 = .ok (.getfield 34, 3) := by decide +kernel
theorem dX7_restore_33 : decode cX7_restore 33 = .ok (.iconst 0, 1) := by decide +kernel
theorem dX7_restore_34 : decode cX7_restore 34 = .ok (.putfield 366, 3) := by decide +kernel
theorem dX7_restore_37 : decode cX7_restore 37 = .ok (.return_, 1) := by decide +kernel
theorem dX7_requirePitch_0 : decode cX7_requirePitch 0 = .ok (.aload_n 0, 1) := by decide +kernel
theorem dX7_requirePitch_1 : decode cX7_requirePitch 1 = .ok (.getfield 20, 3) := by decide +kernel
theorem dX7_requirePitch_4 : decode cX7_requirePitch 4 = .ok (.iload_n 1, 1) := by decide +kernel
theorem dX7_requirePitch_5 : decode cX7_requirePitch 5 = .ok (.invokevirtual 379, 3) := by decide +kernel
theorem dX7_requirePitch_8 : decode cX7_requirePitch 8 = .ok (.ifCond .ne 14, 3) := by decide +kernel
theorem dX7_requirePitch_11 : decode cX7_requirePitch 11 = .ok (.new 382, 3) := by decide +kernel
theorem dX7_requirePitch_14 : decode cX7_requirePitch 14 = .ok (.dup, 1) := by decide +kernel
theorem dX7_requirePitch_15 : decode cX7_requirePitch 15 = .ok (.ldc_w 384, 3) := by decide +kernel
theorem dX7_requirePitch_18 : decode cX7_requirePitch 18 = .ok (.invokespecial 386, 3) := by decide +kernel
theorem dX7_requirePitch_21 : decode cX7_requirePitch 21 = .ok (.athrow, 1) := by decide +kernel
theorem dX7_requirePitch_22 : decode cX7_requirePitch 22 = .ok (.return_, 1) := by decide +kernel
theorem dX7_requireParty_0 : decode cX7_requireParty 0 = .ok (.iload_n 1, 1) := by decide +kernel
theorem dX7_requireParty_1 : decode cX7_requireParty 1 = .ok (.iconst 0, 1) := by decide +kernel
theorem dX7_requireParty_2 : decode cX7_requireParty 2 = .ok (.aload_n 0, 1) := by decide +kernel
theorem dX7_requireParty_3 : decode cX7_requireParty 3 = .ok (.getfield 20, 3) := by decide +kernel
theorem dX7_requireParty_6 : decode cX7_requireParty 6 = .ok (.getfield 191, 3) := by decide +kernel
theorem dX7_requireParty_9 : decode cX7_requireParty 9 = .ok (.iconst 1, 1) := by decide +kernel
theorem dX7_requireParty_10 : decode cX7_requireParty 10 = .ok (.isub, 1) := by decide +kernel
theorem dX7_requireParty_11 : decode cX7_requireParty 11 = .ok (.invokestatic 56, 3) := by decide +kernel
theorem dX7_requireParty_14 : decode cX7_requireParty 14 = .ok (.ifCond .ne 14, 3) := by decide +kernel
theorem dX7_requireParty_17 : decode cX7_requireParty 17 = .ok (.new 382, 3) := by decide +kernel
theorem dX7_requireParty_20 : decode cX7_requireParty 20 = .ok (.dup, 1) := by decide +kernel
theorem dX7_requireParty_21 : decode cX7_requireParty 21 = .ok (.ldc_w 387, 3) := by decide +kernel
theorem dX7_requireParty_24 : decode cX7_requireParty 24 = .ok (.invokespecial 386, 3) := by decide +kernel
theorem dX7_requireParty_27 : decode cX7_requireParty 27 = .ok (.athrow, 1) := by decide +kernel
theorem dX7_requireParty_28 : decode cX7_requireParty 28 = .ok (.return_, 1) := by decide +kernel
theorem dX7_requireSeason_0 : decode cX7_requireSeason 0 = .ok (.iload_n 1, 1) := by decide +kernel
theorem dX7_requireSeason_1 : decode cX7_requireSeason 1 = .ok (.iconst 0, 1) := by decide +kernel
theorem dX7_requireSeason_2 : decode cX7_requireSeason 2 = .ok (.aload_n 0, 1) := by decide +kernel
theorem dX7_requireSeason_3 : decode cX7_requireSeason 3 = .ok (.getfield 20, 3) := by decide +kernel
theorem dX7_requireSeason_6 : decode cX7_requireSeason 6 = .ok (.getfield 144, 3) := by decide +kernel
theorem dX7_requireSeason_9 : decode cX7_requireSeason 9 = .ok (.iconst 1, 1) := by decide +kernel
theorem dX7_requireSeason_10 : decode cX7_requireSeason 10 = .ok (.isub, 1) := by decide +kernel
theorem dX7_requireSeason_11 : decode cX7_requireSeason 11 = .ok (.invokestatic 56, 3) := by decide +kernel
theorem dX7_requireSeason_14 : decode cX7_requireSeason 14 = .ok (.ifCond .ne 14, 3) := by decide +kernel
theorem dX7_requireSeason_17 : decode cX7_requireSeason 17 = .ok (.new 382, 3) := by decide +kernel
theorem dX7_requireSeason_20 : decode cX7_requireSeason 20 = .ok (.dup, 1) := by decide +kernel
theorem dX7_requireSeason_21 : decode cX7_requireSeason 21 = .ok (.ldc_w 389, 3) := by decide +kernel
theorem dX7_requireSeason_24 : decode cX7_requireSeason 24 = .ok (.invokespecial 386, 3) := by decide +kernel
theorem dX7_requireSeason_27 : decode cX7_requireSeason 27 = .ok (.athrow, 1) := by decide +kernel
theorem dX7_requireSeason_28 : decode cX7_requireSeason 28 = .ok (.return_, 1) := by decide +kernel
theorem dX7_requireCircuit_0 : decode cX7_requireCircuit 0 = .ok (.iload_n 0, 1) := by decide +kernel
theorem dX7_requireCircuit_1 : decode cX7_requireCircuit 1 = .ok (.invokestatic 391, 3) := by decide +kernel
theorem dX7_requireCircuit_4 : decode cX7_requireCircuit 4 = .ok (.ifCond .ne 14, 3) := by decide +kernel
theorem dX7_requireCircuit_7 : decode cX7_requireCircuit 7 = .ok (.new 382, 3) := by decide +kernel
theorem dX7_requireCircuit_10 : decode cX7_requireCircuit 10 = .ok (.dup, 1) := by decide +kernel
theorem dX7_requireCircuit_11 : decode cX7_requireCircuit 11 = .ok (.ldc_w 394, 3) := by decide +kernel
theorem dX7_requireCircuit_14 : decode cX7_requireCircuit 14 = .ok (.invokespecial 386, 3) := by decide +kernel
theorem dX7_requireCircuit_17 : decode cX7_requireCircuit 17 = .ok (.athrow, 1) := by decide +kernel
theorem dX7_requireCircuit_18 : decode cX7_requireCircuit 18 = .ok (.return_, 1) := by decide +kernel
theorem dX7_requireNight_0 : decode cX7_requireNight 0 = .ok (.iload_n 0, 1) := by decide +kernel
theorem dX7_requireNight_1 : decode cX7_requireNight 1 = .ok (.invokestatic 138, 3) := by decide +kernel
theorem dX7_requireNight_4 : decode cX7_requireNight 4 = .ok (.ifCond .ne 14, 3) := by decide +kernel
theorem dX7_requireNight_7 : decode cX7_requireNight 7 = .ok (.new 382, 3) := by decide +kernel
theorem dX7_requireNight_10 : decode cX7_requireNight 10 = .ok (.dup, 1) := by decide +kernel
theorem dX7_requireNight_11 : decode cX7_requireNight 11 = .ok (.ldc_w 322, 3) := by decide +kernel
theorem dX7_requireNight_14 : decode cX7_requireNight 14 = .ok (.invokespecial 386, 3) := by decide +kernel
theorem dX7_requireNight_17 : decode cX7_requireNight 17 = .ok (.athrow, 1) := by decide +kernel
theorem dX7_requireNight_18 : decode cX7_requireNight 18 = .ok (.return_, 1) := by decide +kernel
theorem dX7_isWithin_0 : decode cX7_isWithin 0 = .ok (.iload_n 0, 1) := by decide +kernel
theorem dX7_isWithin_1 : decode cX7_isWithin 1 = .ok (.iload_n 1, 1) := by decide +kernel
theorem dX7_isWithin_2 : decode cX7_isWithin 2 = .ok (.if_icmp .lt 12, 3) := by decide +kernel
theorem dX7_isWithin_5 : decode cX7_isWithin 5 = .ok (.iload_n 0, 1) := by decide +kernel
theorem dX7_isWithin_6 : decode cX7_isWithin 6 = .ok (.iload_n 2, 1) := by decide +kernel
theorem dX7_isWithin_7 : decode cX7_isWithin 7 = .ok (.if_icmp .gt 7, 3) := by decide +kernel
theorem dX7_isWithin_10 : decode cX7_isWithin 10 = .ok (.iconst 1, 1) := by decide +kernel
theorem dX7_isWithin_11 : decode cX7_isWithin 11 = .ok (.goto 4, 3) := by decide +kernel
theorem dX7_isWithin_14 : decode cX7_isWithin 14 = .ok (.iconst 0, 1) := by decide +kernel
theorem dX7_isWithin_15 : decode cX7_isWithin 15 = .ok (.ireturn, 1) := by decide +kernel
theorem dX7_isNight_0 : decode cX7_isNight 0 = .ok (.iload_n 0, 1) := by decide +kernel
theorem dX7_isNight_1 : decode cX7_isNight 1 = .ok (.ifCond .lt 13, 3) := by decide +kernel
theorem dX7_isNight_4 : decode cX7_isNight 4 = .ok (.iload_n 0, 1) := by decide +kernel
theorem dX7_isNight_5 : decode cX7_isNight 5 = .ok (.bipush 60, 2) := by decide +kernel
theorem dX7_isNight_7 : decode cX7_isNight 7 = .ok (.if_icmp .ge 7, 3) := by decide +kernel
theorem dX7_isNight_10 : decode cX7_isNight 10 = .ok (.iconst 1, 1) := by decide +kernel
theorem dX7_isNight_11 : decode cX7_isNight 11 = .ok (.goto 4, 3) := by decide +kernel
theorem dX7_isNight_14 : decode cX7_isNight 14 = .ok (.iconst 0, 1) := by decide +kernel
theorem dX7_isNight_15 : decode cX7_isNight 15 = .ok (.ireturn, 1) := by decide +kernel
theorem dX7_isCircuit_0 : decode cX7_isCircuit 0 = .ok (.iload_n 0, 1) := by decide +kernel
theorem dX7_isCircuit_1 : decode cX7_isCircuit 1 = .ok (.ifCond .lt 12, 3) := by decide +kernel
theorem dX7_isCircuit_4 : decode cX7_isCircuit 4 = .ok (.iload_n 0, 1) := by decide +kernel
theorem dX7_isCircuit_5 : decode cX7_isCircuit 5 = .ok (.iconst 3, 1) := by decide +kernel
theorem dX7_isCircuit_6 : decode cX7_isCircuit 6 = .ok (.if_icmp .ge 7, 3) := by decide +kernel
theorem dX7_isCircuit_9 : decode cX7_isCircuit 9 = .ok (.iconst 1, 1) := by decide +kernel
theorem dX7_isCircuit_10 : decode cX7_isCircuit 10 = .ok (.goto 4, 3) := by decide +kernel
theorem dX7_isCircuit_13 : decode cX7_isCircuit 13 = .ok (.iconst 0, 1) := by decide +kernel
theorem dX7_isCircuit_14 : decode cX7_isCircuit 14 = .ok (.ireturn, 1) := by decide +kernel
theorem dX7_isStay_0 : decode cX7_isStay 0 = .ok (.iload_n 0, 1) := by decide +kernel
theorem dX7_isStay_1 : decode cX7_isStay 1 = .ok (.invokestatic 138, 3) := by decide +kernel
theorem dX7_isStay_4 : decode cX7_isStay 4 = .ok (.ifCond .eq 25, 3) := by decide +kernel
theorem dX7_isStay_7 : decode cX7_isStay 7 = .ok (.iload_n 1, 1) := by decide +kernel
theorem dX7_isStay_8 : decode cX7_isStay 8 = .ok (.iconst 1, 1) := by decide +kernel
theorem dX7_isStay_9 : decode cX7_isStay 9 = .ok (.bipush 14, 2) := by decide +kernel
theorem dX7_isStay_11 : decode cX7_isStay 11 = .ok (.invokestatic 56, 3) := by decide +kernel
theorem dX7_isStay_14 : decode cX7_isStay 14 = .ok (.ifCond .eq 15, 3) := by decide +kernel
theorem dX7_isStay_17 : decode cX7_isStay 17 = .ok (.iload_n 1, 1) := by decide +kernel
theorem dX7_isStay_18 : decode cX7_isStay 18 = .ok (.bipush 60, 2) := by decide +kernel
theorem dX7_isStay_20 : decode cX7_isStay 20 = .ok (.iload_n 0, 1) := by decide +kernel
theorem dX7_isStay_21 : decode cX7_isStay 21 = .ok (.isub, 1) := by decide +kernel
theorem dX7_isStay_22 : decode cX7_isStay 22 = .ok (.if_icmp .gt 7, 3) := by decide +kernel
theorem dX7_isStay_25 : decode cX7_isStay 25 = .ok (.iconst 1, 1) := by decide +kernel
theorem dX7_isStay_26 : decode cX7_isStay 26 = .ok (.goto 4, 3) := by decide +kernel
theorem dX7_isStay_29 : decode cX7_isStay 29 = .ok (.iconst 0, 1) := by decide +kernel
theorem dX7_isStay_30 : decode cX7_isStay 30 = .ok (.ireturn, 1) := by decide +kernel
theorem dX7_stayOf_0 : decode cX7_stayOf 0 = .ok (.lconst 1, 1) := by decide +kernel
theorem dX7_stayOf_1 : decode cX7_stayOf 1 = .ok (.iload_n 1, 1) := by decide +kernel
theorem dX7_stayOf_2 : decode cX7_stayOf 2 = .ok (.lshl, 1) := by decide +kernel
theorem dX7_stayOf_3 : decode cX7_stayOf 3 = .ok (.lconst 1, 1) := by decide +kernel
theorem dX7_stayOf_4 : decode cX7_stayOf 4 = .ok (.lsub, 1) := by decide +kernel
theorem dX7_stayOf_5 : decode cX7_stayOf 5 = .ok (.iload_n 0, 1) := by decide +kernel
theorem dX7_stayOf_6 : decode cX7_stayOf 6 = .ok (.lshl, 1) := by decide +kernel
theorem dX7_stayOf_7 : decode cX7_stayOf 7 = .ok (.lreturn, 1) := by decide +kernel
theorem dX7_holds_0 : decode cX7_holds 0 = .ok (.iload_n 2, 1) := by decide +kernel
theorem dX7_holds_1 : decode cX7_holds 1 = .ok (.ifCond .lt 23, 3) := by decide +kernel
theorem dX7_holds_4 : decode cX7_holds 4 = .ok (.iload_n 2, 1) := by decide +kernel
theorem dX7_holds_5 : decode cX7_holds 5 = .ok (.bipush 60, 2) := by decide +kernel
theorem dX7_holds_7 : decode cX7_holds 7 = .ok (.if_icmp .ge 17, 3) := by decide +kernel
theorem dX7_holds_10 : decode cX7_holds 10 = .ok (.lload_n 0, 1) := by decide +kernel
theorem dX7_holds_11 : decode cX7_holds 11 = .ok (.iload_n 2, 1) := by decide +kernel
theorem dX7_holds_12 : decode cX7_holds 12 = .ok (.lushr, 1) := by decide +kernel
theorem dX7_holds_13 : decode cX7_holds 13 = .ok (.lconst 1, 1) := by decide +kernel
theorem dX7_holds_14 : decode cX7_holds 14 = .ok (.land, 1) := by decide +kernel
theorem dX7_holds_15 : decode cX7_holds 15 = .ok (.lconst 0, 1) := by decide +kernel
theorem dX7_holds_16 : decode cX7_holds 16 = .ok (.lcmp, 1) := by decide +kernel
theorem dX7_holds_17 : decode cX7_holds 17 = .ok (.ifCond .eq 7, 3) := by decide +kernel
theorem dX7_holds_20 : decode cX7_holds 20 = .ok (.iconst 1, 1) := by decide +kernel
theorem dX7_holds_21 : decode cX7_holds 21 = .ok (.goto 4, 3) := by decide +kernel
theorem dX7_holds_24 : decode cX7_holds 24 = .ok (.iconst 0, 1) := by decide +kernel
theorem dX7_holds_25 : decode cX7_holds 25 = .ok (.ireturn, 1) := by decide +kernel
theorem dX7_nightAt_0 : decode cX7_nightAt 0 = .ok (.iconst 0, 1) := by decide +kernel
theorem dX7_nightAt_1 : decode cX7_nightAt 1 = .ok (.istore_n 3, 1) := by decide +kernel
theorem dX7_nightAt_2 : decode cX7_nightAt 2 = .ok (.iconst 0, 1) := by decide +kernel
theorem dX7_nightAt_3 : decode cX7_nightAt 3 = .ok (.istore 4, 2) := by decide +kernel
theorem dX7_nightAt_5 : decode cX7_nightAt 5 = .ok (.iload 4, 2) := by decide +kernel
theorem dX7_nightAt_7 : decode cX7_nightAt 7 = .ok (.bipush 60, 2) := by decide +kernel
theorem dX7_nightAt_9 : decode cX7_nightAt 9 = .ok (.if_icmp .ge 29, 3) := by decide +kernel
theorem dX7_nightAt_12 : decode cX7_nightAt 12 = .ok (.lload_n 0, 1) := by decide +kernel
theorem dX7_nightAt_13 : decode cX7_nightAt 13 = .ok (.iload 4, 2) := by decide +kernel
theorem dX7_nightAt_15 : decode cX7_nightAt 15 = .ok (.invokestatic 396, 3) := by decide +kernel
theorem dX7_nightAt_18 : decode cX7_nightAt 18 = .ok (.ifCond .eq 14, 3) := by decide +kernel
theorem dX7_nightAt_21 : decode cX7_nightAt 21 = .ok (.iload_n 3, 1) := by decide +kernel
theorem dX7_nightAt_22 : decode cX7_nightAt 22 = .ok (.iload_n 2, 1) := by decide +kernel
theorem dX7_nightAt_23 : decode cX7_nightAt 23 = .ok (.if_icmp .ne 6, 3) := by decide +kernel
theorem dX7_nightAt_26 : decode cX7_nightAt 26 = .ok (.iload 4, 2) := by decide +kernel
theorem dX7_nightAt_28 : decode cX7_nightAt 28 = .ok (.ireturn, 1) := by decide +kernel
theorem dX7_nightAt_29 : decode cX7_nightAt 29 = .ok (.iinc 3 1, 3) := by decide +kernel
theorem dX7_nightAt_32 : decode cX7_nightAt 32 = .ok (.iinc 4 1, 3) := by decide +kernel
theorem dX7_nightAt_35 : decode cX7_nightAt 35 = .ok (.goto (-30), 3) := by decide +kernel
theorem dX7_nightAt_38 : decode cX7_nightAt 38 = .ok (.bipush 60, 2) := by decide +kernel
theorem dX7_nightAt_40 : decode cX7_nightAt 40 = .ok (.ireturn, 1) := by decide +kernel
theorem dX7_nextBusy_0 : decode cX7_nextBusy 0 = .ok (.iload_n 2, 1) := by decide +kernel
theorem dX7_nextBusy_1 : decode cX7_nextBusy 1 = .ok (.istore_n 3, 1) := by decide +kernel
theorem dX7_nextBusy_2 : decode cX7_nextBusy 2 = .ok (.iload_n 3, 1) := by decide +kernel
theorem dX7_nextBusy_3 : decode cX7_nextBusy 3 = .ok (.bipush 60, 2) := by decide +kernel
theorem dX7_nextBusy_5 : decode cX7_nextBusy 5 = .ok (.if_icmp .ge 17, 3) := by decide +kernel
theorem dX7_nextBusy_8 : decode cX7_nextBusy 8 = .ok (.lload_n 0, 1) := by decide +kernel
theorem dX7_nextBusy_9 : decode cX7_nextBusy 9 = .ok (.iload_n 3, 1) := by decide +kernel
theorem dX7_nextBusy_10 : decode cX7_nextBusy 10 = .ok (.invokestatic 396, 3) := by decide +kernel
theorem dX7_nextBusy_13 : decode cX7_nextBusy 13 = .ok (.ifCond .ne 9, 3) := by decide +kernel
theorem dX7_nextBusy_16 : decode cX7_nextBusy 16 = .ok (.iinc 3 1, 3) := by decide +kernel
theorem dX7_nextBusy_19 : decode cX7_nextBusy 19 = .ok (.goto (-17), 3) := by decide +kernel
theorem dX7_nextBusy_22 : decode cX7_nextBusy 22 = .ok (.iload_n 3, 1) := by decide +kernel
theorem dX7_nextBusy_23 : decode cX7_nextBusy 23 = .ok (.ireturn, 1) := by decide +kernel
theorem dX7_freeFrom_0 : decode cX7_freeFrom 0 = .ok (.iload_n 2, 1) := by decide +kernel
theorem dX7_freeFrom_1 : decode cX7_freeFrom 1 = .ok (.istore 4, 2) := by decide +kernel
theorem dX7_freeFrom_3 : decode cX7_freeFrom 3 = .ok (.iload 4, 2) := by decide +kernel
theorem dX7_freeFrom_5 : decode cX7_freeFrom 5 = .ok (.bipush 60, 2) := by decide +kernel
theorem dX7_freeFrom_7 : decode cX7_freeFrom 7 = .ok (.iload_n 3, 1) := by decide +kernel
theorem dX7_freeFrom_8 : decode cX7_freeFrom 8 = .ok (.isub, 1) := by decide +kernel
theorem dX7_freeFrom_9 : decode cX7_freeFrom 9 = .ok (.if_icmp .gt 25, 3) := by decide +kernel
theorem dX7_freeFrom_12 : decode cX7_freeFrom 12 = .ok (.lload_n 0, 1) := by decide +kernel
theorem dX7_freeFrom_13 : decode cX7_freeFrom 13 = .ok (.iload 4, 2) := by decide +kernel
theorem dX7_freeFrom_15 : decode cX7_freeFrom 15 = .ok (.iload_n 3, 1) := by decide +kernel
theorem dX7_freeFrom_16 : decode cX7_freeFrom 16 = .ok (.invokestatic 400, 3) := by decide +kernel
theorem dX7_freeFrom_19 : decode cX7_freeFrom 19 = .ok (.land, 1) := by decide +kernel
theorem dX7_freeFrom_20 : decode cX7_freeFrom 20 = .ok (.lconst 0, 1) := by decide +kernel
theorem dX7_freeFrom_21 : decode cX7_freeFrom 21 = .ok (.lcmp, 1) := by decide +kernel
theorem dX7_freeFrom_22 : decode cX7_freeFrom 22 = .ok (.ifCond .ne 6, 3) := by decide +kernel
theorem dX7_freeFrom_25 : decode cX7_freeFrom 25 = .ok (.iload 4, 2) := by decide +kernel
theorem dX7_freeFrom_27 : decode cX7_freeFrom 27 = .ok (.ireturn, 1) := by decide +kernel
theorem dX7_freeFrom_28 : decode cX7_freeFrom 28 = .ok (.iinc 4 1, 3) := by decide +kernel
theorem dX7_freeFrom_31 : decode cX7_freeFrom 31 = .ok (.goto (-28), 3) := by decide +kernel
theorem dX7_freeFrom_34 : decode cX7_freeFrom 34 = .ok (.bipush 60, 2) := by decide +kernel
theorem dX7_freeFrom_36 : decode cX7_freeFrom 36 = .ok (.ireturn, 1) := by decide +kernel
theorem dX8_init_0 : decode cX8_init 0 = .ok (.aload_n 0, 1) := by decide +kernel
theorem dX8_init_1 : decode cX8_init 1 = .ok (.invokespecial 3, 3) := by decide +kernel
theorem dX8_init_4 : decode cX8_init 4 = .ok (.aload_n 0, 1) := by decide +kernel
theorem dX8_init_5 : decode cX8_init 5 = .ok (.sipush 1700, 3) := by decide +kernel
theorem dX8_init_8 : decode cX8_init 8 = .ok (.newarray .int, 2) := by decide +kernel
theorem dX8_init_10 : decode cX8_init 10 = .ok (.putfield 9, 3) := by decide +kernel
theorem dX8_init_13 : decode cX8_init 13 = .ok (.aload_n 0, 1) := by decide +kernel
theorem dX8_init_14 : decode cX8_init 14 = .ok (.bipush 13, 2) := by decide +kernel
theorem dX8_init_16 : decode cX8_init 16 = .ok (.newarray .int, 2) := by decide +kernel
theorem dX8_init_18 : decode cX8_init 18 = .ok (.putfield 13, 3) := by decide +kernel
theorem dX8_init_21 : decode cX8_init 21 = .ok (.aload_n 0, 1) := by decide +kernel
theorem dX8_init_22 : decode cX8_init 22 = .ok (.bipush 13, 2) := by decide +kernel
theorem dX8_init_24 : decode cX8_init 24 = .ok (.newarray .int, 2) := by decide +kernel
theorem dX8_init_26 : decode cX8_init 26 = .ok (.putfield 16, 3) := by decide +kernel
theorem dX8_init_29 : decode cX8_init 29 = .ok (.aload_n 0, 1) := by decide +kernel
theorem dX8_init_30 : decode cX8_init 30 = .ok (.bipush 13, 2) := by decide +kernel
theorem dX8_init_32 : decode cX8_init 32 = .ok (.newarray .int, 2) := by decide +kernel
theorem dX8_init_34 : decode cX8_init 34 = .ok (.putfield 19, 3) := by decide +kernel
theorem dX8_init_37 : decode cX8_init 37 = .ok (.aload_n 0, 1) := by decide +kernel
theorem dX8_init_38 : decode cX8_init 38 = .ok (.bipush 13, 2) := by decide +kernel
theorem dX8_init_40 : decode cX8_init 40 = .ok (.newarray .int, 2) := by decide +kernel
theorem dX8_init_42 : decode cX8_init 42 = .ok (.putfield 22, 3) := by decide +kernel
theorem dX8_init_45 : decode cX8_init 45 = .ok (.aload_n 0, 1) := by decide +kernel
theorem dX8_init_46 : decode cX8_init 46 = .ok (.iconst 2, 1) := by decide +kernel
theorem dX8_init_47 : decode cX8_init 47 = .ok (.newarray .int, 2) := by decide +kernel
theorem dX8_init_49 : decode cX8_init 49 = .ok (.putfield 25, 3) := by decide +kernel
theorem dX8_init_52 : decode cX8_init 52 = .ok (.aload_n 0, 1) := by decide +kernel
theorem dX8_init_53 : decode cX8_init 53 = .ok (.bipush 6, 2) := by decide +kernel
theorem dX8_init_55 : decode cX8_init 55 = .ok (.newarray .int, 2) := by decide +kernel
theorem dX8_init_57 : decode cX8_init 57 = .ok (.putfield 28, 3) := by decide +kernel
theorem dX8_init_60 : decode cX8_init 60 = .ok (.aload_n 0, 1) := by decide +kernel
theorem dX8_init_61 : decode cX8_init 61 = .ok (.bipush 6, 2) := by decide +kernel
theorem dX8_init_63 : decode cX8_init 63 = .ok (.newarray .int, 2) := by decide +kernel
theorem dX8_init_65 : decode cX8_init 65 = .ok (.putfield 31, 3) := by decide +kernel
theorem dX8_init_68 : decode cX8_init 68 = .ok (.aload_n 0, 1) := by decide +kernel
theorem dX8_init_69 : decode cX8_init 69 = .ok (.bipush 30, 2) := by decide +kernel
theorem dX8_init_71 : decode cX8_init 71 = .ok (.newarray .char, 2) := by decide +kernel
theorem dX8_init_73 : decode cX8_init 73 = .ok (.putfield 34, 3) := by decide +kernel
theorem dX8_init_76 : decode cX8_init 76 = .ok (.aload_n 0, 1) := by decide +kernel
theorem dX8_init_77 : decode cX8_init 77 = .ok (.iconst (-1), 1) := by decide +kernel
theorem dX8_init_78 : decode cX8_init 78 = .ok (.putfield 38, 3) := by decide +kernel
theorem dX8_init_81 : decode cX8_init 81 = .ok (.aload_n 0, 1) := by decide +kernel
theorem dX8_init_82 : decode cX8_init 82 = .ok (.getfield 9, 3) := by decide +kernel
theorem dX8_init_85 : decode cX8_init 85 = .ok (.iconst 4, 1) := by decide +kernel
theorem dX8_init_86 : decode cX8_init 86 = .ok (.iconst 1, 1) := by decide +kernel
theorem dX8_init_87 : decode cX8_init 87 = .ok (.iastore, 1) := by decide +kernel
theorem dX8_init_88 : decode cX8_init 88 = .ok (.iconst 0, 1) := by decide +kernel
theorem dX8_init_89 : decode cX8_init 89 = .ok (.istore_n 1, 1) := by decide +kernel
theorem dX8_init_90 : decode cX8_init 90 = .ok (.iload_n 1, 1) := by decide +kernel
theorem dX8_init_91 : decode cX8_init 91 = .ok (.iconst 3, 1) := by decide +kernel
theorem dX8_init_92 : decode cX8_init 92 = .ok (.if_icmp .ge 19, 3) := by decide +kernel
theorem dX8_init_95 : decode cX8_init 95 = .ok (.aload_n 0, 1) := by decide +kernel
theorem dX8_init_96 : decode cX8_init 96 = .ok (.getfield 9, 3) := by decide +kernel
theorem dX8_init_99 : decode cX8_init 99 = .ok (.iconst 5, 1) := by decide +kernel
theorem dX8_init_100 : decode cX8_init 100 = .ok (.iload_n 1, 1) := by decide +kernel
theorem dX8_init_101 : decode cX8_init 101 = .ok (.iadd, 1) := by decide +kernel
theorem dX8_init_102 : decode cX8_init 102 = .ok (.bipush 16, 2) := by decide +kernel
theorem dX8_init_104 : decode cX8_init 104 = .ok (.iastore, 1) := by decide +kernel
theorem dX8_init_105 : decode cX8_init 105 = .ok (.iinc 1 1, 3) := by decide +kernel
theorem dX8_init_108 : decode cX8_init 108 = .ok (.goto (-18), 3) := by decide +kernel
theorem dX8_init_111 : decode cX8_init 111 = .ok (.return_, 1) := by decide +kernel
theorem dX8_thrown_0 : decode cX8_thrown 0 = .ok (.aload_n 0, 1) := by decide +kernel
theorem dX8_thrown_1 : decode cX8_thrown 1 = .ok (.getfield 42, 3) := by decide +kernel
theorem dX8_thrown_4 : decode cX8_thrown 4 = .ok (.ireturn, 1) := by decide +kernel
theorem dX8_in_0 : decode cX8_in 0 = .ok (.iload_n 0, 1) := by decide +kernel
theorem dX8_in_1 : decode cX8_in 1 = .ok (.iload_n 1, 1) := by decide +kernel
theorem dX8_in_2 : decode cX8_in 2 = .ok (.if_icmp .lt 12, 3) := by decide +kernel
theorem dX8_in_5 : decode cX8_in 5 = .ok (.iload_n 0, 1) := by decide +kernel
theorem dX8_in_6 : decode cX8_in 6 = .ok (.iload_n 2, 1) := by decide +kernel
theorem dX8_in_7 : decode cX8_in 7 = .ok (.if_icmp .gt 7, 3) := by decide +kernel
theorem dX8_in_10 : decode cX8_in 10 = .ok (.iconst 1, 1) := by decide +kernel
theorem dX8_in_11 : decode cX8_in 11 = .ok (.goto 4, 3) := by decide +kernel
theorem dX8_in_14 : decode cX8_in 14 = .ok (.iconst 0, 1) := by decide +kernel
theorem dX8_in_15 : decode cX8_in 15 = .ok (.ireturn, 1) := by decide +kernel
theorem dX8_copies_0 : decode cX8_copies 0 = .ok (.iconst 0, 1) := by decide +kernel
theorem dX8_copies_1 : decode cX8_copies 1 = .ok (.istore_n 3, 1) := by decide +kernel
theorem dX8_copies_2 : decode cX8_copies 2 = .ok (.iload_n 3, 1) := by decide +kernel
theorem dX8_copies_3 : decode cX8_copies 3 = .ok (.sipush 170, 3) := by decide +kernel
theorem dX8_copies_6 : decode cX8_copies 6 = .ok (.if_icmp .ge 33, 3) := by decide +kernel
theorem dX8_copies_9 : decode cX8_copies 9 = .ok (.aload_n 0, 1) := by decide +kernel
theorem dX8_copies_10 : decode cX8_copies 10 = .ok (.getfield 9, 3) := by decide +kernel
theorem dX8_copies_13 : decode cX8_copies 13 = .ok (.sipush 170, 3) := by decide +kernel
theorem dX8_copies_16 : decode cX8_copies 16 = .ok (.iload_n 2, 1) := by decide +kernel
theorem dX8_copies_17 : decode cX8_copies 17 = .ok (.imul, 1) := by decide +kernel
theorem dX8_copies_18 : decode cX8_copies 18 = .ok (.iload_n 3, 1) := by decide +kernel
theorem dX8_copies_19 : decode cX8_copies 19 = .ok (.iadd, 1) := by decide +kernel
theorem dX8_copies_20 : decode cX8_copies 20 = .ok (.aload_n 0, 1) := by decide +kernel
theorem dX8_copies_21 : decode cX8_copies 21 = .ok (.getfield 9, 3) := by decide +kernel
theorem dX8_copies_24 : decode cX8_copies 24 = .ok (.sipush 170, 3) := by decide +kernel
theorem dX8_copies_27 : decode cX8_copies 27 = .ok (.iload_n 1, 1) := by decide +kernel
theorem dX8_copies_28 : decode cX8_copies 28 = .ok (.imul, 1) := by decide +kernel
theorem dX8_copies_29 : decode cX8_copies 29 = .ok (.iload_n 3, 1) := by decide +kernel
theorem dX8_copies_30 : decode cX8_copies 30 = .ok (.iadd, 1) := by decide +kernel
theorem dX8_copies_31 : decode cX8_copies 31 = .ok (.iaload, 1) := by decide +kernel
theorem dX8_copies_32 : decode cX8_copies 32 = .ok (.iastore, 1) := by decide +kernel
theorem dX8_copies_33 : decode cX8_copies 33 = .ok (.iinc 3 1, 3) := by decide +kernel
theorem dX8_copies_36 : decode cX8_copies 36 = .ok (.goto (-34), 3) := by decide +kernel
theorem dX8_copies_39 : decode cX8_copies 39 = .ok (.return_, 1) := by decide +kernel
theorem dX8_keeps_0 : decode cX8_keeps 0 = .ok (.aload_n 0, 1) := by decide +kernel
theorem dX8_keeps_1 : decode cX8_keeps 1 = .ok (.getfield 45, 3) := by decide +kernel
theorem dX8_keeps_4 : decode cX8_keeps 4 = .ok (.bipush 8, 2) := by decide +kernel
theorem dX8_keeps_6 : decode cX8_keeps 6 = .ok (.if_icmp .ne 35, 3) := by decide +kernel
theorem dX8_keeps_9 : decode cX8_keeps 9 = .ok (.iconst 1, 1) := by decide +kernel
theorem dX8_keeps_10 : decode cX8_keeps 10 = .ok (.istore_n 1, 1) := by decide +kernel
theorem dX8_keeps_11 : decode cX8_keeps 11 = .ok (.iload_n 1, 1) := by decide +kernel
theorem dX8_keeps_12 : decode cX8_keeps 12 = .ok (.bipush 8, 2) := by decide +kernel
theorem dX8_keeps_14 : decode cX8_keeps 14 = .ok (.if_icmp .ge 17, 3) := by decide +kernel
theorem dX8_keeps_17 : decode cX8_keeps 17 = .ok (.aload_n 0, 1) := by decide +kernel
theorem dX8_keeps_18 : decode cX8_keeps 18 = .ok (.iload_n 1, 1) := by decide +kernel
theorem dX8_keeps_19 : decode cX8_keeps 19 = .ok (.iconst 1, 1) := by decide +kernel
theorem dX8_keeps_20 : decode cX8_keeps 20 = .ok (.iadd, 1) := by decide +kernel
theorem dX8_keeps_21 : decode cX8_keeps 21 = .ok (.iload_n 1, 1) := by decide +kernel
theorem dX8_keeps_22 : decode cX8_keeps 22 = .ok (.invokevirtual 48, 3) := by decide +kernel
theorem dX8_keeps_25 : decode cX8_keeps 25 = .ok (.iinc 1 1, 3) := by decide +kernel
theorem dX8_keeps_28 : decode cX8_keeps 28 = .ok (.goto (-17), 3) := by decide +kernel
theorem dX8_keeps_31 : decode cX8_keeps 31 = .ok (.aload_n 0, 1) := by decide +kernel
theorem dX8_keeps_32 : decode cX8_keeps 32 = .ok (.dup, 1) := by decide +kernel
theorem dX8_keeps_33 : decode cX8_keeps 33 = .ok (.getfield 45, 3) := by decide +kernel
theorem dX8_keeps_36 : decode cX8_keeps 36 = .ok (.iconst 1, 1) := by decide +kernel
theorem dX8_keeps_37 : decode cX8_keeps 37 = .ok (.isub, 1) := by decide +kernel
theorem dX8_keeps_38 : decode cX8_keeps 38 = .ok (.putfield 45, 3) := by decide +kernel
theorem dX8_keeps_41 : decode cX8_keeps 41 = .ok (.aload_n 0, 1) := by decide +kernel
theorem dX8_keeps_42 : decode cX8_keeps 42 = .ok (.dup, 1) := by decide +kernel
theorem dX8_keeps_43 : decode cX8_keeps 43 = .ok (.getfield 45, 3) := by decide +kernel
theorem dX8_keeps_46 : decode cX8_keeps 46 = .ok (.iconst 1, 1) := by decide +kernel
theorem dX8_keeps_47 : decode cX8_keeps 47 = .ok (.iadd, 1) := by decide +kernel
theorem dX8_keeps_48 : decode cX8_keeps 48 = .ok (.putfield 45, 3) := by decide +kernel
theorem dX8_keeps_51 : decode cX8_keeps 51 = .ok (.aload_n 0, 1) := by decide +kernel
theorem dX8_keeps_52 : decode cX8_keeps 52 = .ok (.iconst 0, 1) := by decide +kernel
theorem dX8_keeps_53 : decode cX8_keeps 53 = .ok (.aload_n 0, 1) := by decide +kernel
theorem dX8_keeps_54 : decode cX8_keeps 54 = .ok (.getfield 45, 3) := by decide +kernel
theorem dX8_keeps_57 : decode cX8_keeps 57 = .ok (.invokevirtual 48, 3) := by decide +kernel
theorem dX8_keeps_60 : decode cX8_keeps 60 = .ok (.return_, 1) := by decide +kernel
theorem dX8_isPitch_0 : decode cX8_isPitch 0 = .ok (.iload_n 1, 1) := by decide +kernel
theorem dX8_isPitch_1 : decode cX8_isPitch 1 = .ok (.iconst 0, 1) := by decide +kernel
theorem dX8_isPitch_2 : decode cX8_isPitch 2 = .ok (.aload_n 0, 1) := by decide +kernel
theorem dX8_isPitch_3 : decode cX8_isPitch 3 = .ok (.getfield 9, 3) := by decide +kernel
theorem dX8_isPitch_6 : decode cX8_isPitch 6 = .ok (.iconst 0, 1) := by decide +kernel
theorem dX8_isPitch_7 : decode cX8_isPitch 7 = .ok (.iaload, 1) := by decide +kernel
theorem dX8_isPitch_8 : decode cX8_isPitch 8 = .ok (.iconst 1, 1) := by decide +kernel
theorem dX8_isPitch_9 : decode cX8_isPitch 9 = .ok (.isub, 1) := by decide +kernel
theorem dX8_isPitch_10 : decode cX8_isPitch 10 = .ok (.invokestatic 52, 3) := by decide +kernel
theorem dX8_isPitch_13 : decode cX8_isPitch 13 = .ok (.ireturn, 1) := by decide +kernel
theorem dX8_isParty_0 : decode cX8_isParty 0 = .ok (.iload_n 1, 1) := by decide +kernel
theorem dX8_isParty_1 : decode cX8_isParty 1 = .ok (.iconst 0, 1) := by decide +kernel
theorem dX8_isParty_2 : decode cX8_isParty 2 = .ok (.aload_n 0, 1) := by decide +kernel
theorem dX8_isParty_3 : decode cX8_isParty 3 = .ok (.getfield 9, 3) := by decide +kernel
theorem dX8_isParty_6 : decode cX8_isParty 6 = .ok (.iconst 1, 1) := by decide +kernel
theorem dX8_isParty_7 : decode cX8_isParty 7 = .ok (.iaload, 1) := by decide +kernel
theorem dX8_isParty_8 : decode cX8_isParty 8 = .ok (.iconst 1, 1) := by decide +kernel
theorem dX8_isParty_9 : decode cX8_isParty 9 = .ok (.isub, 1) := by decide +kernel
theorem dX8_isParty_10 : decode cX8_isParty 10 = .ok (.invokestatic 52, 3) := by decide +kernel
theorem dX8_isParty_13 : decode cX8_isParty 13 = .ok (.ireturn, 1) := by decide +kernel
theorem dX8_isNight_0 : decode cX8_isNight 0 = .ok (.iload_n 0, 1) := by decide +kernel
theorem dX8_isNight_1 : decode cX8_isNight 1 = .ok (.iconst 0, 1) := by decide +kernel
theorem dX8_isNight_2 : decode cX8_isNight 2 = .ok (.bipush 59, 2) := by decide +kernel
theorem dX8_isNight_4 : decode cX8_isNight 4 = .ok (.invokestatic 52, 3) := by decide +kernel
theorem dX8_isNight_7 : decode cX8_isNight 7 = .ok (.ireturn, 1) := by decide +kernel
theorem dX8_isCircuit_0 : decode cX8_isCircuit 0 = .ok (.iload_n 0, 1) := by decide +kernel
theorem dX8_isCircuit_1 : decode cX8_isCircuit 1 = .ok (.iconst 0, 1) := by decide +kernel
theorem dX8_isCircuit_2 : decode cX8_isCircuit 2 = .ok (.iconst 2, 1) := by decide +kernel
theorem dX8_isCircuit_3 : decode cX8_isCircuit 3 = .ok (.invokestatic 52, 3) := by decide +kernel
theorem dX8_isCircuit_6 : decode cX8_isCircuit 6 = .ok (.ireturn, 1) := by decide +kernel
theorem dX8_ofPitch_0 : decode cX8_ofPitch 0 = .ok (.aload_n 0, 1) := by decide +kernel
theorem dX8_ofPitch_1 : decode cX8_ofPitch 1 = .ok (.getfield 9, 3) := by decide +kernel
theorem dX8_ofPitch_4 : decode cX8_ofPitch 4 = .ok (.bipush 8, 2) := by decide +kernel
theorem dX8_ofPitch_6 : decode cX8_ofPitch 6 = .ok (.iconst 5, 1) := by decide +kernel
theorem dX8_ofPitch_7 : decode cX8_ofPitch 7 = .ok (.iload_n 1, 1) := by decide +kernel
theorem dX8_ofPitch_8 : decode cX8_ofPitch 8 = .ok (.imul, 1) := by decide +kernel
theorem dX8_ofPitch_9 : decode cX8_ofPitch 9 = .ok (.iadd, 1) := by decide +kernel
theorem dX8_ofPitch_10 : decode cX8_ofPitch 10 = .ok (.iload_n 2, 1) := by decide +kernel
theorem dX8_ofPitch_11 : decode cX8_ofPitch 11 = .ok (.iadd, 1) := by decide +kernel
theorem dX8_ofPitch_12 : decode cX8_ofPitch 12 = .ok (.iaload, 1) := by decide +kernel
theorem dX8_ofPitch_13 : decode cX8_ofPitch 13 = .ok (.ireturn, 1) := by decide +kernel
theorem dX8_of_0 : decode cX8_of 0 = .ok (.aload_n 0, 1) := by decide +kernel
theorem dX8_of_1 : decode cX8_of 1 = .ok (.getfield 9, 3) := by decide +kernel
theorem dX8_of_4 : decode cX8_of 4 = .ok (.bipush 50, 2) := by decide +kernel
theorem dX8_of_6 : decode cX8_of 6 = .ok (.bipush 10, 2) := by decide +kernel
theorem dX8_of_8 : decode cX8_of 8 = .ok (.iload_n 1, 1) := by decide +kernel
theorem dX8_of_9 : decode cX8_of 9 = .ok (.imul, 1) := by decide +kernel
theorem dX8_of_10 : decode cX8_of 10 = .ok (.iadd, 1) := by decide +kernel
theorem dX8_of_11 : decode cX8_of 11 = .ok (.iload_n 2, 1) := by decide +kernel
theorem dX8_of_12 : decode cX8_of 12 = .ok (.iadd, 1) := by decide +kernel
theorem dX8_of_13 : decode cX8_of 13 = .ok (.iaload, 1) := by decide +kernel
theorem dX8_of_14 : decode cX8_of 14 = .ok (.ireturn, 1) := by decide +kernel
theorem dX8_lays_0 : decode cX8_lays 0 = .ok (.aload_n 0, 1) := by decide +kernel
theorem dX8_lays_1 : decode cX8_lays 1 = .ok (.getfield 9, 3) := by decide +kernel
theorem dX8_lays_4 : decode cX8_lays 4 = .ok (.bipush 50, 2) := by decide +kernel
theorem dX8_lays_6 : decode cX8_lays 6 = .ok (.bipush 10, 2) := by decide +kernel
theorem dX8_lays_8 : decode cX8_lays 8 = .ok (.iload_n 1, 1) := by decide +kernel
theorem dX8_lays_9 : decode cX8_lays 9 = .ok (.imul, 1) := by decide +kernel
theorem dX8_lays_10 : decode cX8_lays 10 = .ok (.iadd, 1) := by decide +kernel
theorem dX8_lays_11 : decode cX8_lays 11 = .ok (.iload_n 2, 1) := by decide +kernel
theorem dX8_lays_12 : decode cX8_lays 12 = .ok (.iadd, 1) := by decide +kernel
theorem dX8_lays_13 : decode cX8_lays 13 = .ok (.iload_n 3, 1) := by decide +kernel
theorem dX8_lays_14 : decode cX8_lays 14 = .ok (.iastore, 1) := by decide +kernel
theorem dX8_lays_15 : decode cX8_lays 15 = .ok (.return_, 1) := by decide +kernel
theorem dX8_addPitch_0 : decode cX8_addPitch 0 = .ok (.aload_n 0, 1) := by decide +kernel
theorem dX8_addPitch_1 : decode cX8_addPitch 1 = .ok (.iload_n 1, 1) := by decide +kernel
theorem dX8_addPitch_2 : decode cX8_addPitch 2 = .ok (.iconst 0, 1) := by decide +kernel
theorem dX8_addPitch_3 : decode cX8_addPitch 3 = .ok (.iconst 2, 1) := by decide +kernel
theorem dX8_addPitch_4 : decode cX8_addPitch 4 = .ok (.invokestatic 52, 3) := by decide +kernel
theorem dX8_addPitch_7 : decode cX8_addPitch 7 = .ok (.ifCond .eq 33, 3) := by decide +kernel
theorem dX8_addPitch_10 : decode cX8_addPitch 10 = .ok (.iload_n 2, 1) := by decide +kernel
theorem dX8_addPitch_11 : decode cX8_addPitch 11 = .ok (.iconst 2, 1) := by decide +kernel
theorem dX8_addPitch_12 : decode cX8_addPitch 12 = .ok (.bipush 12, 2) := by decide +kernel
theorem dX8_addPitch_14 : decode cX8_addPitch 14 = .ok (.invokestatic 52, 3) := by decide +kernel
theorem dX8_addPitch_17 : decode cX8_addPitch 17 = .ok (.ifCond .eq 23, 3) := by decide +kernel
theorem dX8_addPitch_20 : decode cX8_addPitch 20 = .ok (.iload_n 3, 1) := by decide +kernel
theorem dX8_addPitch_21 : decode cX8_addPitch 21 = .ok (.iconst 2, 1) := by decide +kernel
theorem dX8_addPitch_22 : decode cX8_addPitch 22 = .ok (.bipush 12, 2) := by decide +kernel
theorem dX8_addPitch_24 : decode cX8_addPitch 24 = .ok (.invokestatic 52, 3) := by decide +kernel
theorem dX8_addPitch_27 : decode cX8_addPitch 27 = .ok (.ifCond .eq 13, 3) := by decide +kernel
theorem dX8_addPitch_30 : decode cX8_addPitch 30 = .ok (.iload 4, 2) := by decide +kernel
theorem dX8_addPitch_32 : decode cX8_addPitch 32 = .ok (.iconst (-1), 1) := by decide +kernel
theorem dX8_addPitch_33 : decode cX8_addPitch 33 = .ok (.iconst 2, 1) := by decide +kernel
theorem dX8_addPitch_34 : decode cX8_addPitch 34 = .ok (.invokestatic 52, 3) := by decide +kernel
theorem dX8_addPitch_37 : decode cX8_addPitch 37 = .ok (.ifCond .ne 7, 3) := by decide +kernel
theorem dX8_addPitch_40 : decode cX8_addPitch 40 = .ok (.iconst 1, 1) := by decide +kernel
theorem dX8_addPitch_41 : decode cX8_addPitch 41 = .ok (.goto 19, 3) := by decide +kernel
theorem dX8_addPitch_44 : decode cX8_addPitch 44 = .ok (.aload_n 0, 1) := by decide +kernel
theorem dX8_addPitch_45 : decode cX8_addPitch 45 = .ok (.getfield 9, 3) := by decide +kernel
theorem dX8_addPitch_48 : decode cX8_addPitch 48 = .ok (.iconst 0, 1) := by decide +kernel
theorem dX8_addPitch_49 : decode cX8_addPitch 49 = .ok (.iaload, 1) := by decide +kernel
theorem dX8_addPitch_50 : decode cX8_addPitch 50 = .ok (.bipush 6, 2) := by decide +kernel
theorem dX8_addPitch_52 : decode cX8_addPitch 52 = .ok (.if_icmp .ne 7, 3) := by decide +kernel
theorem dX8_addPitch_55 : decode cX8_addPitch 55 = .ok (.iconst 2, 1) := by decide +kernel
theorem dX8_addPitch_56 : decode cX8_addPitch 56 = .ok (.goto 4, 3) := by decide +kernel
theorem dX8_addPitch_59 : decode cX8_addPitch 59 = .ok (.iconst 0, 1) := by decide +kernel
theorem dX8_addPitch_60 : decode cX8_addPitch 60 = .ok (.putfield 42, 3) := by decide +kernel
theorem dX8_addPitch_63 : decode cX8_addPitch 63 = .ok (.aload_n 0, 1) := by decide +kernel
theorem dX8_addPitch_64 : decode cX8_addPitch 64 = .ok (.getfield 42, 3) := by decide +kernel
theorem dX8_addPitch_67 : decode cX8_addPitch 67 = .ok (.ifCond .eq 5, 3) := by decide +kernel
theorem dX8_addPitch_70 : decode cX8_addPitch 70 = .ok (.iconst 0, 1) := by decide +kernel
theorem dX8_addPitch_71 : decode cX8_addPitch 71 = .ok (.ireturn, 1) := by decide +kernel
theorem dX8_addPitch_72 : decode cX8_addPitch 72 = .ok (.aload_n 0, 1) := by decide +kernel
theorem dX8_addPitch_73 : decode cX8_addPitch 73 = .ok (.invokevirtual 56, 3) := by decide +kernel
theorem dX8_addPitch_76 : decode cX8_addPitch 76 = .ok (.bipush 8, 2) := by decide +kernel
theorem dX8_addPitch_78 : decode cX8_addPitch 78 = .ok (.iconst 5, 1) := by decide +kernel
theorem dX8_addPitch_79 : decode cX8_addPitch 79 = .ok (.aload_n 0, 1) := by decide +kernel
theorem dX8_addPitch_80 : decode cX8_addPitch 80 = .ok (.getfield 9, 3) := by decide +kernel
theorem dX8_addPitch_83 : decode cX8_addPitch 83 = .ok (.iconst 0, 1) := by decide +kernel
theorem dX8_addPitch_84 : decode cX8_addPitch 84 = .ok (.iaload, 1) := by decide +kernel
theorem dX8_addPitch_85 : decode cX8_addPitch 85 = .ok (.imul, 1) := by decide +kernel
theorem dX8_addPitch_86 : decode cX8_addPitch 86 = .ok (.iadd, 1) := by decide +kernel
theorem dX8_addPitch_87 : decode cX8_addPitch 87 = .ok (.istore 5, 2) := by decide +kernel
theorem dX8_addPitch_89 : decode cX8_addPitch 89 = .ok (.aload_n 0, 1) := by decide +kernel
theorem dX8_addPitch_90 : decode cX8_addPitch 90 = .ok (.getfield 9, 3) := by decide +kernel
theorem dX8_addPitch_93 : decode cX8_addPitch 93 = .ok (.iload 5, 2) := by decide +kernel
theorem dX8_addPitch_95 : decode cX8_addPitch 95 = .ok (.iload_n 1, 1) := by decide +kernel
theorem dX8_addPitch_96 : decode cX8_addPitch 96 = .ok (.iastore, 1) := by decide +kernel
theorem dX8_addPitch_97 : decode cX8_addPitch 97 = .ok (.aload_n 0, 1) := by decide +kernel
theorem dX8_addPitch_98 : decode cX8_addPitch 98 = .ok (.getfield 9, 3) := by decide +kernel
theorem dX8_addPitch_101 : decode cX8_addPitch 101 = .ok (.iload 5, 2) := by decide +kernel
theorem dX8_addPitch_103 : decode cX8_addPitch 103 = .ok (.iconst 1, 1) := by decide +kernel
theorem dX8_addPitch_104 : decode cX8_addPitch 104 = .ok (.iadd, 1) := by decide +kernel
theorem dX8_addPitch_105 : decode cX8_addPitch 105 = .ok (.iload_n 2, 1) := by decide +kernel
theorem dX8_addPitch_106 : decode cX8_addPitch 106 = .ok (.iastore, 1) := by decide +kernel
theorem dX8_addPitch_107 : decode cX8_addPitch 107 = .ok (.aload_n 0, 1) := by decide +kernel
theorem dX8_addPitch_108 : decode cX8_addPitch 108 = .ok (.getfield 9, 3) := by decide +kernel
theorem dX8_addPitch_111 : decode cX8_addPitch 111 = .ok (.iload 5, 2) := by decide +kernel
theorem dX8_addPitch_113 : decode cX8_addPitch 113 = .ok (.iconst 2, 1) := by decide +kernel
theorem dX8_addPitch_114 : decode cX8_addPitch 114 = .ok (.iadd, 1) := by decide +kernel
theorem dX8_addPitch_115 : decode cX8_addPitch 115 = .ok (.iload_n 3, 1) := by decide +kernel
theorem dX8_addPitch_116 : decode cX8_addPitch 116 = .ok (.iastore, 1) := by decide +kernel
theorem dX8_addPitch_117 : decode cX8_addPitch 117 = .ok (.aload_n 0, 1) := by decide +kernel
theorem dX8_addPitch_118 : decode cX8_addPitch 118 = .ok (.getfield 9, 3) := by decide +kernel
theorem dX8_addPitch_121 : decode cX8_addPitch 121 = .ok (.iload 5, 2) := by decide +kernel
theorem dX8_addPitch_123 : decode cX8_addPitch 123 = .ok (.iconst 3, 1) := by decide +kernel
theorem dX8_addPitch_124 : decode cX8_addPitch 124 = .ok (.iadd, 1) := by decide +kernel
theorem dX8_addPitch_125 : decode cX8_addPitch 125 = .ok (.iload 4, 2) := by decide +kernel
theorem dX8_addPitch_127 : decode cX8_addPitch 127 = .ok (.iastore, 1) := by decide +kernel
theorem dX8_addPitch_128 : decode cX8_addPitch 128 = .ok (.aload_n 0, 1) := by decide +kernel
theorem dX8_addPitch_129 : decode cX8_addPitch 129 = .ok (.getfield 9, 3) := by decide +kernel
theorem dX8_addPitch_132 : decode cX8_addPitch 132 = .ok (.iload 5, 2) := by decide +kernel
theorem dX8_addPitch_134 : decode cX8_addPitch 134 = .ok (.iconst 4, 1) := by decide +kernel
theorem dX8_addPitch_135 : decode cX8_addPitch 135 = .ok (.iadd, 1) := by decide +kernel
theorem dX8_addPitch_136 : decode cX8_addPitch 136 = .ok (.bipush 10, 2) := by decide +kernel
theorem dX8_addPitch_138 : decode cX8_addPitch 138 = .ok (.iastore, 1) := by decide +kernel
theorem dX8_addPitch_139 : decode cX8_addPitch 139 = .ok (.aload_n 0, 1) := by decide +kernel
theorem dX8_addPitch_140 : decode cX8_addPitch 140 = .ok (.getfield 9, 3) := by decide +kernel
theorem dX8_addPitch_143 : decode cX8_addPitch 143 = .ok (.iconst 0, 1) := by decide +kernel
theorem dX8_addPitch_144 : decode cX8_addPitch 144 = .ok (.dup2, 1) := by decide +kernel
theorem dX8_addPitch_145 : decode cX8_addPitch 145 = .ok (.iaload, 1) := by decide +kernel
theorem dX8_addPitch_146 : decode cX8_addPitch 146 = .ok (.iconst 1, 1) := by decide +kernel
theorem dX8_addPitch_147 : decode cX8_addPitch 147 = .ok (.iadd, 1) := by decide +kernel
theorem dX8_addPitch_148 : decode cX8_addPitch 148 = .ok (.iastore, 1) := by decide +kernel
theorem dX8_addPitch_149 : decode cX8_addPitch 149 = .ok (.aload_n 0, 1) := by decide +kernel
theorem dX8_addPitch_150 : decode cX8_addPitch 150 = .ok (.getfield 9, 3) := by decide +kernel
theorem dX8_addPitch_153 : decode cX8_addPitch 153 = .ok (.iconst 0, 1) := by decide +kernel
theorem dX8_addPitch_154 : decode cX8_addPitch 154 = .ok (.iaload, 1) := by decide +kernel
theorem dX8_addPitch_155 : decode cX8_addPitch 155 = .ok (.iconst 1, 1) := by decide +kernel
theorem dX8_addPitch_156 : decode cX8_addPitch 156 = .ok (.isub, 1) := by decide +kernel
theorem dX8_addPitch_157 : decode cX8_addPitch 157 = .ok (.ireturn, 1) := by decide +kernel
theorem dX8_pitch_0 : decode cX8_pitch 0 = .ok (.aload_n 0, 1) := by decide +kernel
theorem dX8_pitch_1 : decode cX8_pitch 1 = .ok (.aload_n 0, 1) := by decide +kernel
theorem dX8_pitch_2 : decode cX8_pitch 2 = .ok (.iload_n 1, 1) := by decide +kernel
theorem dX8_pitch_3 : decode cX8_pitch 3 = .ok (.invokevirtual 59, 3) := by decide +kernel
theorem dX8_pitch_6 : decode cX8_pitch 6 = .ok (.ifCond .ne 7, 3) := by decide +kernel
theorem dX8_pitch_9 : decode cX8_pitch 9 = .ok (.iconst 1, 1) := by decide +kernel
theorem dX8_pitch_10 : decode cX8_pitch 10 = .ok (.goto 18, 3) := by decide +kernel
theorem dX8_pitch_13 : decode cX8_pitch 13 = .ok (.iload_n 2, 1) := by decide +kernel
theorem dX8_pitch_14 : decode cX8_pitch 14 = .ok (.iconst 0, 1) := by decide +kernel
theorem dX8_pitch_15 : decode cX8_pitch 15 = .ok (.bipush 6, 2) := by decide +kernel
theorem dX8_pitch_17 : decode cX8_pitch 17 = .ok (.invokestatic 52, 3) := by decide +kernel
theorem dX8_pitch_20 : decode cX8_pitch 20 = .ok (.ifCond .eq 7, 3) := by decide +kernel
theorem dX8_pitch_23 : decode cX8_pitch 23 = .ok (.iconst 0, 1) := by decide +kernel
theorem dX8_pitch_24 : decode cX8_pitch 24 = .ok (.goto 4, 3) := by decide +kernel
theorem dX8_pitch_27 : decode cX8_pitch 27 = .ok (.iconst 2, 1) := by decide +kernel
theorem dX8_pitch_28 : decode cX8_pitch 28 = .ok (.putfield 42, 3) := by decide +kernel
theorem dX8_pitch_31 : decode cX8_pitch 31 = .ok (.aload_n 0, 1) := by decide +kernel
theorem dX8_pitch_32 : decode cX8_pitch 32 = .ok (.getfield 42, 3) := by decide +kernel
theorem dX8_pitch_35 : decode cX8_pitch 35 = .ok (.ifCond .eq 5, 3) := by decide +kernel
theorem dX8_pitch_38 : decode cX8_pitch 38 = .ok (.iconst 0, 1) := by decide +kernel
theorem dX8_pitch_39 : decode cX8_pitch 39 = .ok (.ireturn, 1) := by decide +kernel
theorem dX8_pitch_40 : decode cX8_pitch 40 = .ok (.iload_n 2, 1) := by decide +kernel
theorem dX8_pitch_41 : decode cX8_pitch 41 = .ok (.iconst 5, 1) := by decide +kernel
theorem dX8_pitch_42 : decode cX8_pitch 42 = .ok (.if_icmp .ge 10, 3) := by decide +kernel
theorem dX8_pitch_45 : decode cX8_pitch 45 = .ok (.aload_n 0, 1) := by decide +kernel
theorem dX8_pitch_46 : decode cX8_pitch 46 = .ok (.iload_n 1, 1) := by decide +kernel
theorem dX8_pitch_47 : decode cX8_pitch 47 = .ok (.iload_n 2, 1) := by decide +kernel
theorem dX8_pitch_48 : decode cX8_pitch 48 = .ok (.invokevirtual 63, 3) := by decide +kernel
theorem dX8_pitch_51 : decode cX8_pitch 51 = .ok (.ireturn, 1) := by decide +kernel
theorem dX8_pitch_52 : decode cX8_pitch 52 = .ok (.aload_n 0, 1) := by decide +kernel
theorem dX8_pitch_53 : decode cX8_pitch 53 = .ok (.iconst (-1), 1) := by decide +kernel
theorem dX8_pitch_54 : decode cX8_pitch 54 = .ok (.invokevirtual 67, 3) := by decide +kernel
theorem dX8_pitch_57 : decode cX8_pitch 57 = .ok (.iload_n 2, 1) := by decide +kernel
theorem dX8_pitch_58 : decode cX8_pitch 58 = .ok (.iconst 5, 1) := by decide +kernel
theorem dX8_pitch_59 : decode cX8_pitch 59 = .ok (.if_icmp .ne 14, 3) := by decide +kernel
theorem dX8_pitch_62 : decode cX8_pitch 62 = .ok (.aload_n 0, 1) := by decide +kernel
theorem dX8_pitch_63 : decode cX8_pitch 63 = .ok (.iload_n 1, 1) := by decide +kernel
theorem dX8_pitch_64 : decode cX8_pitch 64 = .ok (.invokevirtual 71, 3) := by decide +kernel
theorem dX8_pitch_67 : decode cX8_pitch 67 = .ok (.invokestatic 75, 3) := by decide +kernel
theorem dX8_pitch_70 : decode cX8_pitch 70 = .ok (.goto 12, 3) := by decide +kernel
theorem dX8_pitch_73 : decode cX8_pitch 73 = .ok (.aload_n 0, 1) := by decide +kernel
theorem dX8_pitch_74 : decode cX8_pitch 74 = .ok (.aload_n 0, 1) := by decide +kernel
theorem dX8_pitch_75 : decode cX8_pitch 75 = .ok (.iload_n 1, 1) := by decide +kernel
theorem dX8_pitch_76 : decode cX8_pitch 76 = .ok (.invokevirtual 71, 3) := by decide +kernel
theorem dX8_pitch_79 : decode cX8_pitch 79 = .ok (.invokevirtual 79, 3) := by decide +kernel
theorem dX8_pitch_82 : decode cX8_pitch 82 = .ok (.ireturn, 1) := by decide +kernel
theorem dX8_setLimit_0 : decode cX8_setLimit 0 = .ok (.aload_n 0, 1) := by decide +kernel
theorem dX8_setLimit_1 : decode cX8_setLimit 1 = .ok (.iload_n 1, 1) := by decide +kernel
theorem dX8_setLimit_2 : decode cX8_setLimit 2 = .ok (.invokestatic 82, 3) := by decide +kernel
theorem dX8_setLimit_5 : decode cX8_setLimit 5 = .ok (.ifCond .ne 7, 3) := by decide +kernel
theorem dX8_setLimit_8 : decode cX8_setLimit 8 = .ok (.iconst 1, 1) := by decide +kernel
theorem dX8_setLimit_9 : decode cX8_setLimit 9 = .ok (.goto 18, 3) := by decide +kernel
theorem dX8_setLimit_12 : decode cX8_setLimit 12 = .ok (.iload_n 2, 1) := by decide +kernel
theorem dX8_setLimit_13 : decode cX8_setLimit 13 = .ok (.iconst 0, 1) := by decide +kernel
theorem dX8_setLimit_14 : decode cX8_setLimit 14 = .ok (.bipush 40, 2) := by decide +kernel
theorem dX8_setLimit_16 : decode cX8_setLimit 16 = .ok (.invokestatic 52, 3) := by decide +kernel
theorem dX8_setLimit_19 : decode cX8_setLimit 19 = .ok (.ifCond .eq 7, 3) := by decide +kernel
theorem dX8_setLimit_22 : decode cX8_setLimit 22 = .ok (.iconst 0, 1) := by decide +kernel
theorem dX8_setLimit_23 : decode cX8_setLimit 23 = .ok (.goto 4, 3) := by decide +kernel
theorem dX8_setLimit_26 : decode cX8_setLimit 26 = .ok (.iconst 2, 1) := by decide +kernel
theorem dX8_setLimit_27 : decode cX8_setLimit 27 = .ok (.putfield 42, 3) := by decide +kernel
theorem dX8_setLimit_30 : decode cX8_setLimit 30 = .ok (.aload_n 0, 1) := by decide +kernel
theorem dX8_setLimit_31 : decode cX8_setLimit 31 = .ok (.getfield 42, 3) := by decide +kernel
theorem dX8_setLimit_34 : decode cX8_setLimit 34 = .ok (.ifCond .ne 14, 3) := by decide +kernel
theorem dX8_setLimit_37 : decode cX8_setLimit 37 = .ok (.aload_n 0, 1) := by decide +kernel
theorem dX8_setLimit_38 : decode cX8_setLimit 38 = .ok (.iconst 5, 1) := by decide +kernel
theorem dX8_setLimit_39 : decode cX8_setLimit 39 = .ok (.iload_n 1, 1) := by decide +kernel
theorem dX8_setLimit_40 : decode cX8_setLimit 40 = .ok (.iadd, 1) := by decide +kernel
theorem dX8_setLimit_41 : decode cX8_setLimit 41 = .ok (.iload_n 2, 1) := by decide +kernel
theorem dX8_setLimit_42 : decode cX8_setLimit 42 = .ok (.invokevirtual 85, 3) := by decide +kernel
theorem dX8_setLimit_45 : decode cX8_setLimit 45 = .ok (.goto 4, 3) := by decide +kernel
theorem dX8_setLimit_48 : decode cX8_setLimit 48 = .ok (.iconst 0, 1) := by decide +kernel
theorem dX8_setLimit_49 : decode cX8_setLimit 49 = .ok (.ireturn, 1) := by decide +kernel
theorem dX8_setRate_0 : decode cX8_setRate 0 = .ok (.aload_n 0, 1) := by decide +kernel
theorem dX8_setRate_1 : decode cX8_setRate 1 = .ok (.aload_n 0, 1) := by decide +kernel
theorem dX8_setRate_2 : decode cX8_setRate 2 = .ok (.iload_n 1, 1) := by decide +kernel
theorem dX8_setRate_3 : decode cX8_setRate 3 = .ok (.invokevirtual 59, 3) := by decide +kernel
theorem dX8_setRate_6 : decode cX8_setRate 6 = .ok (.ifCond .ne 7, 3) := by decide +kernel
theorem dX8_setRate_9 : decode cX8_setRate 9 = .ok (.iconst 1, 1) := by decide +kernel
theorem dX8_setRate_10 : decode cX8_setRate 10 = .ok (.goto 18, 3) := by decide +kernel
theorem dX8_setRate_13 : decode cX8_setRate 13 = .ok (.iload_n 2, 1) := by decide +kernel
theorem dX8_setRate_14 : decode cX8_setRate 14 = .ok (.iconst 1, 1) := by decide +kernel
theorem dX8_setRate_15 : decode cX8_setRate 15 = .ok (.bipush 99, 2) := by decide +kernel
theorem dX8_setRate_17 : decode cX8_setRate 17 = .ok (.invokestatic 52, 3) := by decide +kernel
theorem dX8_setRate_20 : decode cX8_setRate 20 = .ok (.ifCond .eq 7, 3) := by decide +kernel
theorem dX8_setRate_23 : decode cX8_setRate 23 = .ok (.iconst 0, 1) := by decide +kernel
theorem dX8_setRate_24 : decode cX8_setRate 24 = .ok (.goto 4, 3) := by decide +kernel
theorem dX8_setRate_27 : decode cX8_setRate 27 = .ok (.iconst 2, 1) := by decide +kernel
theorem dX8_setRate_28 : decode cX8_setRate 28 = .ok (.putfield 42, 3) := by decide +kernel
theorem dX8_setRate_31 : decode cX8_setRate 31 = .ok (.aload_n 0, 1) := by decide +kernel
theorem dX8_setRate_32 : decode cX8_setRate 32 = .ok (.getfield 42, 3) := by decide +kernel
theorem dX8_setRate_35 : decode cX8_setRate 35 = .ok (.ifCond .ne 19, 3) := by decide +kernel
theorem dX8_setRate_38 : decode cX8_setRate 38 = .ok (.aload_n 0, 1) := by decide +kernel
theorem dX8_setRate_39 : decode cX8_setRate 39 = .ok (.bipush 8, 2) := by decide +kernel
theorem dX8_setRate_41 : decode cX8_setRate 41 = .ok (.iconst 5, 1) := by decide +kernel
theorem dX8_setRate_42 : decode cX8_setRate 42 = .ok (.iload_n 1, 1) := by decide +kernel
theorem dX8_setRate_43 : decode cX8_setRate 43 = .ok (.imul, 1) := by decide +kernel
theorem dX8_setRate_44 : decode cX8_setRate 44 = .ok (.iadd, 1) := by decide +kernel
theorem dX8_setRate_45 : decode cX8_setRate 45 = .ok (.iconst 4, 1) := by decide +kernel
theorem dX8_setRate_46 : decode cX8_setRate 46 = .ok (.iadd, 1) := by decide +kernel
theorem dX8_setRate_47 : decode cX8_setRate 47 = .ok (.iload_n 2, 1) := by decide +kernel
theorem dX8_setRate_48 : decode cX8_setRate 48 = .ok (.invokevirtual 85, 3) := by decide +kernel
theorem dX8_setRate_51 : decode cX8_setRate 51 = .ok (.goto 4, 3) := by decide +kernel
theorem dX8_setRate_54 : decode cX8_setRate 54 = .ok (.iconst 0, 1) := by decide +kernel
theorem dX8_setRate_55 : decode cX8_setRate 55 = .ok (.ireturn, 1) := by decide +kernel
theorem dX8_setGap_0 : decode cX8_setGap 0 = .ok (.aload_n 0, 1) := by decide +kernel
theorem dX8_setGap_1 : decode cX8_setGap 1 = .ok (.iload_n 1, 1) := by decide +kernel
theorem dX8_setGap_2 : decode cX8_setGap 2 = .ok (.iconst 0, 1) := by decide +kernel
theorem dX8_setGap_3 : decode cX8_setGap 3 = .ok (.iconst 5, 1) := by decide +kernel
theorem dX8_setGap_4 : decode cX8_setGap 4 = .ok (.invokestatic 52, 3) := by decide +kernel
theorem dX8_setGap_7 : decode cX8_setGap 7 = .ok (.ifCond .eq 7, 3) := by decide +kernel
theorem dX8_setGap_10 : decode cX8_setGap 10 = .ok (.iconst 0, 1) := by decide +kernel
theorem dX8_setGap_11 : decode cX8_setGap 11 = .ok (.goto 4, 3) := by decide +kernel
theorem dX8_setGap_14 : decode cX8_setGap 14 = .ok (.iconst 1, 1) := by decide +kernel
theorem dX8_setGap_15 : decode cX8_setGap 15 = .ok (.putfield 42, 3) := by decide +kernel
theorem dX8_setGap_18 : decode cX8_setGap 18 = .ok (.aload_n 0, 1) := by decide +kernel
theorem dX8_setGap_19 : decode cX8_setGap 19 = .ok (.getfield 42, 3) := by decide +kernel
theorem dX8_setGap_22 : decode cX8_setGap 22 = .ok (.ifCond .ne 12, 3) := by decide +kernel
theorem dX8_setGap_25 : decode cX8_setGap 25 = .ok (.aload_n 0, 1) := by decide +kernel
theorem dX8_setGap_26 : decode cX8_setGap 26 = .ok (.iconst 4, 1) := by decide +kernel
theorem dX8_setGap_27 : decode cX8_setGap 27 = .ok (.iload_n 1, 1) := by decide +kernel
theorem dX8_setGap_28 : decode cX8_setGap 28 = .ok (.invokevirtual 85, 3) := by decide +kernel
theorem dX8_setGap_31 : decode cX8_setGap 31 = .ok (.goto 4, 3) := by decide +kernel
theorem dX8_setGap_34 : decode cX8_setGap 34 = .ok (.iconst 0, 1) := by decide +kernel
theorem dX8_setGap_35 : decode cX8_setGap 35 = .ok (.ireturn, 1) := by decide +kernel
theorem dX8_sets_0 : decode cX8_sets 0 = .ok (.aload_n 0, 1) := by decide +kernel
theorem dX8_sets_1 : decode cX8_sets 1 = .ok (.invokevirtual 56, 3) := by decide +kernel
theorem dX8_sets_4 : decode cX8_sets 4 = .ok (.aload_n 0, 1) := by decide +kernel
theorem dX8_sets_5 : decode cX8_sets 5 = .ok (.getfield 9, 3) := by decide +kernel
theorem dX8_sets_8 : decode cX8_sets 8 = .ok (.iload_n 1, 1) := by decide +kernel
theorem dX8_sets_9 : decode cX8_sets 9 = .ok (.iaload, 1) := by decide +kernel
theorem dX8_sets_10 : decode cX8_sets 10 = .ok (.istore_n 3, 1) := by decide +kernel
theorem dX8_sets_11 : decode cX8_sets 11 = .ok (.aload_n 0, 1) := by decide +kernel
theorem dX8_sets_12 : decode cX8_sets 12 = .ok (.getfield 9, 3) := by decide +kernel
theorem dX8_sets_15 : decode cX8_sets 15 = .ok (.iload_n 1, 1) := by decide +kernel
theorem dX8_sets_16 : decode cX8_sets 16 = .ok (.iload_n 2, 1) := by decide +kernel
theorem dX8_sets_17 : decode cX8_sets 17 = .ok (.iastore, 1) := by decide +kernel
theorem dX8_sets_18 : decode cX8_sets 18 = .ok (.iload_n 3, 1) := by decide +kernel
theorem dX8_sets_19 : decode cX8_sets 19 = .ok (.ireturn, 1) := by decide +kernel
theorem dX8_addSeason_0 : decode cX8_addSeason 0 = .ok (.aload_n 0, 1) := by decide +kernel
theorem dX8_addSeason_1 : decode cX8_addSeason 1 = .ok (.iload_n 1, 1) := by decide +kernel
theorem dX8_addSeason_2 : decode cX8_addSeason 2 = .ok (.invokestatic 88, 3) := by decide +kernel
theorem dX8_addSeason_5 : decode cX8_addSeason 5 = .ok (.ifCond .eq 23, 3) := by decide +kernel
theorem dX8_addSeason_8 : decode cX8_addSeason 8 = .ok (.iload_n 2, 1) := by decide +kernel
theorem dX8_addSeason_9 : decode cX8_addSeason 9 = .ok (.iload_n 1, 1) := by decide +kernel
theorem dX8_addSeason_10 : decode cX8_addSeason 10 = .ok (.bipush 59, 2) := by decide +kernel
theorem dX8_addSeason_12 : decode cX8_addSeason 12 = .ok (.invokestatic 52, 3) := by decide +kernel
theorem dX8_addSeason_15 : decode cX8_addSeason 15 = .ok (.ifCond .eq 13, 3) := by decide +kernel
theorem dX8_addSeason_18 : decode cX8_addSeason 18 = .ok (.iload_n 3, 1) := by decide +kernel
theorem dX8_addSeason_19 : decode cX8_addSeason 19 = .ok (.iconst 1, 1) := by decide +kernel
theorem dX8_addSeason_20 : decode cX8_addSeason 20 = .ok (.bipush 14, 2) := by decide +kernel
theorem dX8_addSeason_22 : decode cX8_addSeason 22 = .ok (.invokestatic 52, 3) := by decide +kernel
theorem dX8_addSeason_25 : decode cX8_addSeason 25 = .ok (.ifCond .ne 7, 3) := by decide +kernel
theorem dX8_addSeason_28 : decode cX8_addSeason 28 = .ok (.iconst 1, 1) := by decide +kernel
theorem dX8_addSeason_29 : decode cX8_addSeason 29 = .ok (.goto 18, 3) := by decide +kernel
theorem dX8_addSeason_32 : decode cX8_addSeason 32 = .ok (.aload_n 0, 1) := by decide +kernel
theorem dX8_addSeason_33 : decode cX8_addSeason 33 = .ok (.getfield 9, 3) := by decide +kernel
theorem dX8_addSeason_36 : decode cX8_addSeason 36 = .ok (.iconst 2, 1) := by decide +kernel
theorem dX8_addSeason_37 : decode cX8_addSeason 37 = .ok (.iaload, 1) := by decide +kernel
theorem dX8_addSeason_38 : decode cX8_addSeason 38 = .ok (.iconst 4, 1) := by decide +kernel
theorem dX8_addSeason_39 : decode cX8_addSeason 39 = .ok (.if_icmp .ne 7, 3) := by decide +kernel
theorem dX8_addSeason_42 : decode cX8_addSeason 42 = .ok (.iconst 2, 1) := by decide +kernel
theorem dX8_addSeason_43 : decode cX8_addSeason 43 = .ok (.goto 4, 3) := by decide +kernel
theorem dX8_addSeason_46 : decode cX8_addSeason 46 = .ok (.iconst 0, 1) := by decide +kernel
theorem dX8_addSeason_47 : decode cX8_addSeason 47 = .ok (.putfield 42, 3) := by decide +kernel
theorem dX8_addSeason_50 : decode cX8_addSeason 50 = .ok (.aload_n 0, 1) := by decide +kernel
theorem dX8_addSeason_51 : decode cX8_addSeason 51 = .ok (.getfield 42, 3) := by decide +kernel
theorem dX8_addSeason_54 : decode cX8_addSeason 54 = .ok (.ifCond .eq 5, 3) := by decide +kernel
theorem dX8_addSeason_57 : decode cX8_addSeason 57 = .ok (.iconst 0, 1) := by decide +kernel
theorem dX8_addSeason_58 : decode cX8_addSeason 58 = .ok (.ireturn, 1) := by decide +kernel
theorem dX8_addSeason_59 : decode cX8_addSeason 59 = .ok (.aload_n 0, 1) := by decide +kernel
theorem dX8_addSeason_60 : decode cX8_addSeason 60 = .ok (.invokevirtual 56, 3) := by decide +kernel
theorem dX8_addSeason_63 : decode cX8_addSeason 63 = .ok (.bipush 38, 2) := by decide +kernel
theorem dX8_addSeason_65 : decode cX8_addSeason 65 = .ok (.iconst 3, 1) := by decide +kernel
theorem dX8_addSeason_66 : decode cX8_addSeason 66 = .ok (.aload_n 0, 1) := by decide +kernel
theorem dX8_addSeason_67 : decode cX8_addSeason 67 = .ok (.getfield 9, 3) := by decide +kernel
theorem dX8_addSeason_70 : decode cX8_addSeason 70 = .ok (.iconst 2, 1) := by decide +kernel
theorem dX8_addSeason_71 : decode cX8_addSeason 71 = .ok (.iaload, 1) := by decide +kernel
theorem dX8_addSeason_72 : decode cX8_addSeason 72 = .ok (.imul, 1) := by decide +kernel
theorem dX8_addSeason_73 : decode cX8_addSeason 73 = .ok (.iadd, 1) := by decide +kernel
theorem dX8_addSeason_74 : decode cX8_addSeason 74 = .ok (.istore 4, 2) := by decide +kernel
theorem dX8_addSeason_76 : decode cX8_addSeason 76 = .ok (.aload_n 0, 1) := by decide +kernel
theorem dX8_addSeason_77 : decode cX8_addSeason 77 = .ok (.getfield 9, 3) := by decide +kernel
theorem dX8_addSeason_80 : decode cX8_addSeason 80 = .ok (.iload 4, 2) := by decide +kernel
theorem dX8_addSeason_82 : decode cX8_addSeason 82 = .ok (.iload_n 1, 1) := by decide +kernel
theorem dX8_addSeason_83 : decode cX8_addSeason 83 = .ok (.iastore, 1) := by decide +kernel
theorem dX8_addSeason_84 : decode cX8_addSeason 84 = .ok (.aload_n 0, 1) := by decide +kernel
theorem dX8_addSeason_85 : decode cX8_addSeason 85 = .ok (.getfield 9, 3) := by decide +kernel
theorem dX8_addSeason_88 : decode cX8_addSeason 88 = .ok (.iload 4, 2) := by decide +kernel
theorem dX8_addSeason_90 : decode cX8_addSeason 90 = .ok (.iconst 1, 1) := by decide +kernel
theorem dX8_addSeason_91 : decode cX8_addSeason 91 = .ok (.iadd, 1) := by decide +kernel
theorem dX8_addSeason_92 : decode cX8_addSeason 92 = .ok (.iload_n 2, 1) := by decide +kernel
theorem dX8_addSeason_93 : decode cX8_addSeason 93 = .ok (.iastore, 1) := by decide +kernel
theorem dX8_addSeason_94 : decode cX8_addSeason 94 = .ok (.aload_n 0, 1) := by decide +kernel
theorem dX8_addSeason_95 : decode cX8_addSeason 95 = .ok (.getfield 9, 3) := by decide +kernel
theorem dX8_addSeason_98 : decode cX8_addSeason 98 = .ok (.iload 4, 2) := by decide +kernel
theorem dX8_addSeason_100 : decode cX8_addSeason 100 = .ok (.iconst 2, 1) := by decide +kernel
theorem dX8_addSeason_101 : decode cX8_addSeason 101 = .ok (.iadd, 1) := by decide +kernel
theorem dX8_addSeason_102 : decode cX8_addSeason 102 = .ok (.iload_n 3, 1) := by decide +kernel
theorem dX8_addSeason_103 : decode cX8_addSeason 103 = .ok (.iastore, 1) := by decide +kernel
theorem dX8_addSeason_104 : decode cX8_addSeason 104 = .ok (.aload_n 0, 1) := by decide +kernel
theorem dX8_addSeason_105 : decode cX8_addSeason 105 = .ok (.getfield 9, 3) := by decide +kernel
theorem dX8_addSeason_108 : decode cX8_addSeason 108 = .ok (.iconst 2, 1) := by decide +kernel
theorem dX8_addSeason_109 : decode cX8_addSeason 109 = .ok (.dup2, 1) := by decide +kernel
theorem dX8_addSeason_110 : decode cX8_addSeason 110 = .ok (.iaload, 1) := by decide +kernel
theorem dX8_addSeason_111 : decode cX8_addSeason 111 = .ok (.iconst 1, 1) := by decide +kernel
theorem dX8_addSeason_112 : decode cX8_addSeason 112 = .ok (.iadd, 1) := by decide +kernel
theorem dX8_addSeason_113 : decode cX8_addSeason 113 = .ok (.iastore, 1) := by decide +kernel
theorem dX8_addSeason_114 : decode cX8_addSeason 114 = .ok (.aload_n 0, 1) := by decide +kernel
theorem dX8_addSeason_115 : decode cX8_addSeason 115 = .ok (.getfield 9, 3) := by decide +kernel
theorem dX8_addSeason_118 : decode cX8_addSeason 118 = .ok (.iconst 2, 1) := by decide +kernel
theorem dX8_addSeason_119 : decode cX8_addSeason 119 = .ok (.iaload, 1) := by decide +kernel
theorem dX8_addSeason_120 : decode cX8_addSeason 120 = .ok (.iconst 1, 1) := by decide +kernel
theorem dX8_addSeason_121 : decode cX8_addSeason 121 = .ok (.isub, 1) := by decide +kernel
theorem dX8_addSeason_122 : decode cX8_addSeason 122 = .ok (.ireturn, 1) := by decide +kernel
theorem dX8_dropSeason_0 : decode cX8_dropSeason 0 = .ok (.aload_n 0, 1) := by decide +kernel
theorem dX8_dropSeason_1 : decode cX8_dropSeason 1 = .ok (.iload_n 1, 1) := by decide +kernel
theorem dX8_dropSeason_2 : decode cX8_dropSeason 2 = .ok (.iconst 0, 1) := by decide +kernel
theorem dX8_dropSeason_3 : decode cX8_dropSeason 3 = .ok (.aload_n 0, 1) := by decide +kernel
theorem dX8_dropSeason_4 : decode cX8_dropSeason 4 = .ok (.getfield 9, 3) := by decide +kernel
theorem dX8_dropSeason_7 : decode cX8_dropSeason 7 = .ok (.iconst 2, 1) := by decide +kernel
theorem dX8_dropSeason_8 : decode cX8_dropSeason 8 = .ok (.iaload, 1) := by decide +kernel
theorem dX8_dropSeason_9 : decode cX8_dropSeason 9 = .ok (.iconst 1, 1) := by decide +kernel
theorem dX8_dropSeason_10 : decode cX8_dropSeason 10 = .ok (.isub, 1) := by decide +kernel
theorem dX8_dropSeason_11 : decode cX8_dropSeason 11 = .ok (.invokestatic 52, 3) := by decide +kernel
theorem dX8_dropSeason_14 : decode cX8_dropSeason 14 = .ok (.ifCond .eq 7, 3) := by decide +kernel
theorem dX8_dropSeason_17 : decode cX8_dropSeason 17 = .ok (.iconst 0, 1) := by decide +kernel
theorem dX8_dropSeason_18 : decode cX8_dropSeason 18 = .ok (.goto 4, 3) := by decide +kernel
theorem dX8_dropSeason_21 : decode cX8_dropSeason 21 = .ok (.iconst 1, 1) := by decide +kernel
theorem dX8_dropSeason_22 : decode cX8_dropSeason 22 = .ok (.putfield 42, 3) := by decide +kernel
theorem dX8_dropSeason_25 : decode cX8_dropSeason 25 = .ok (.aload_n 0, 1) := by decide +kernel
theorem dX8_dropSeason_26 : decode cX8_dropSeason 26 = .ok (.getfield 42, 3) := by decide +kernel
theorem dX8_dropSeason_29 : decode cX8_dropSeason 29 = .ok (.ifCond .eq 5, 3) := by decide +kernel
theorem dX8_dropSeason_32 : decode cX8_dropSeason 32 = .ok (.iconst 0, 1) := by decide +kernel
theorem dX8_dropSeason_33 : decode cX8_dropSeason 33 = .ok (.ireturn, 1) := by decide +kernel
theorem dX8_dropSeason_34 : decode cX8_dropSeason 34 = .ok (.aload_n 0, 1) := by decide +kernel
theorem dX8_dropSeason_35 : decode cX8_dropSeason 35 = .ok (.invokevirtual 56, 3) := by decide +kernel
theorem dX8_dropSeason_38 : decode cX8_dropSeason 38 = .ok (.aload_n 0, 1) := by decide +kernel
theorem dX8_dropSeason_39 : decode cX8_dropSeason 39 = .ok (.getfield 9, 3) := by decide +kernel
theorem dX8_dropSeason_42 : decode cX8_dropSeason 42 = .ok (.iconst 2, 1) := by decide +kernel
theorem dX8_dropSeason_43 : decode cX8_dropSeason 43 = .ok (.dup2, 1) := by decide +kernel
theorem dX8_dropSeason_44 : decode cX8_dropSeason 44 = .ok (.iaload, 1) := by decide +kernel
theorem dX8_dropSeason_45 : decode cX8_dropSeason 45 = .ok (.iconst 1, 1) := by decide +kernel
theorem dX8_dropSeason_46 : decode cX8_dropSeason 46 = .ok (.isub, 1) := by decide +kernel
theorem dX8_dropSeason_47 : decode cX8_dropSeason 47 = .ok (.iastore, 1) := by decide +kernel
theorem dX8_dropSeason_48 : decode cX8_dropSeason 48 = .ok (.bipush 38, 2) := by decide +kernel
theorem dX8_dropSeason_50 : decode cX8_dropSeason 50 = .ok (.iconst 3, 1) := by decide +kernel
theorem dX8_dropSeason_51 : decode cX8_dropSeason 51 = .ok (.iload_n 1, 1) := by decide +kernel
theorem dX8_dropSeason_52 : decode cX8_dropSeason 52 = .ok (.imul, 1) := by decide +kernel
theorem dX8_dropSeason_53 : decode cX8_dropSeason 53 = .ok (.iadd, 1) := by decide +kernel
theorem dX8_dropSeason_54 : decode cX8_dropSeason 54 = .ok (.istore_n 2, 1) := by decide +kernel
theorem dX8_dropSeason_55 : decode cX8_dropSeason 55 = .ok (.iload_n 2, 1) := by decide +kernel
theorem dX8_dropSeason_56 : decode cX8_dropSeason 56 = .ok (.bipush 38, 2) := by decide +kernel
theorem dX8_dropSeason_58 : decode cX8_dropSeason 58 = .ok (.iconst 3, 1) := by decide +kernel
theorem dX8_dropSeason_59 : decode cX8_dropSeason 59 = .ok (.aload_n 0, 1) := by decide +kernel
theorem dX8_dropSeason_60 : decode cX8_dropSeason 60 = .ok (.getfield 9, 3) := by decide +kernel
theorem dX8_dropSeason_63 : decode cX8_dropSeason 63 = .ok (.iconst 2, 1) := by decide +kernel
theorem dX8_dropSeason_64 : decode cX8_dropSeason 64 = .ok (.iaload, 1) := by decide +kernel
theorem dX8_dropSeason_65 : decode cX8_dropSeason 65 = .ok (.imul, 1) := by decide +kernel
theorem dX8_dropSeason_66 : decode cX8_dropSeason 66 = .ok (.iadd, 1) := by decide +kernel
theorem dX8_dropSeason_67 : decode cX8_dropSeason 67 = .ok (.if_icmp .ge 23, 3) := by decide +kernel
theorem dX8_dropSeason_70 : decode cX8_dropSeason 70 = .ok (.aload_n 0, 1) := by decide +kernel
theorem dX8_dropSeason_71 : decode cX8_dropSeason 71 = .ok (.getfield 9, 3) := by decide +kernel
theorem dX8_dropSeason_74 : decode cX8_dropSeason 74 = .ok (.iload_n 2, 1) := by decide +kernel
theorem dX8_dropSeason_75 : decode cX8_dropSeason 75 = .ok (.aload_n 0, 1) := by decide +kernel
theorem dX8_dropSeason_76 : decode cX8_dropSeason 76 = .ok (.getfield 9, 3) := by decide +kernel
theorem dX8_dropSeason_79 : decode cX8_dropSeason 79 = .ok (.iload_n 2, 1) := by decide +kernel
theorem dX8_dropSeason_80 : decode cX8_dropSeason 80 = .ok (.iconst 3, 1) := by decide +kernel
theorem dX8_dropSeason_81 : decode cX8_dropSeason 81 = .ok (.iadd, 1) := by decide +kernel
theorem dX8_dropSeason_82 : decode cX8_dropSeason 82 = .ok (.iaload, 1) := by decide +kernel
theorem dX8_dropSeason_83 : decode cX8_dropSeason 83 = .ok (.iastore, 1) := by decide +kernel
theorem dX8_dropSeason_84 : decode cX8_dropSeason 84 = .ok (.iinc 2 1, 3) := by decide +kernel
theorem dX8_dropSeason_87 : decode cX8_dropSeason 87 = .ok (.goto (-32), 3) := by decide +kernel
theorem dX8_dropSeason_90 : decode cX8_dropSeason 90 = .ok (.aload_n 0, 1) := by decide +kernel
theorem dX8_dropSeason_91 : decode cX8_dropSeason 91 = .ok (.getfield 9, 3) := by decide +kernel
theorem dX8_dropSeason_94 : decode cX8_dropSeason 94 = .ok (.iconst 2, 1) := by decide +kernel
theorem dX8_dropSeason_95 : decode cX8_dropSeason 95 = .ok (.iaload, 1) := by decide +kernel
theorem dX8_dropSeason_96 : decode cX8_dropSeason 96 = .ok (.ireturn, 1) := by decide +kernel
theorem dX8_season_0 : decode cX8_season 0 = .ok (.aload_n 0, 1) := by decide +kernel
theorem dX8_season_1 : decode cX8_season 1 = .ok (.iload_n 1, 1) := by decide +kernel
theorem dX8_season_2 : decode cX8_season 2 = .ok (.iconst 0, 1) := by decide +kernel
theorem dX8_season_3 : decode cX8_season 3 = .ok (.aload_n 0, 1) := by decide +kernel
theorem dX8_season_4 : decode cX8_season 4 = .ok (.getfield 9, 3) := by decide +kernel
theorem dX8_season_7 : decode cX8_season 7 = .ok (.iconst 2, 1) := by decide +kernel
theorem dX8_season_8 : decode cX8_season 8 = .ok (.iaload, 1) := by decide +kernel
theorem dX8_season_9 : decode cX8_season 9 = .ok (.iconst 1, 1) := by decide +kernel
theorem dX8_season_10 : decode cX8_season 10 = .ok (.isub, 1) := by decide +kernel
theorem dX8_season_11 : decode cX8_season 11 = .ok (.invokestatic 52, 3) := by decide +kernel
theorem dX8_season_14 : decode cX8_season 14 = .ok (.ifCond .ne 7, 3) := by decide +kernel
theorem dX8_season_17 : decode cX8_season 17 = .ok (.iconst 1, 1) := by decide +kernel
theorem dX8_season_18 : decode cX8_season 18 = .ok (.goto 17, 3) := by decide +kernel
theorem dX8_season_21 : decode cX8_season 21 = .ok (.iload_n 2, 1) := by decide +kernel
theorem dX8_season_22 : decode cX8_season 22 = .ok (.iconst 0, 1) := by decide +kernel
theorem dX8_season_23 : decode cX8_season 23 = .ok (.iconst 2, 1) := by decide +kernel
theorem dX8_season_24 : decode cX8_season 24 = .ok (.invokestatic 52, 3) := by decide +kernel
theorem dX8_season_27 : decode cX8_season 27 = .ok (.ifCond .eq 7, 3) := by decide +kernel
theorem dX8_season_30 : decode cX8_season 30 = .ok (.iconst 0, 1) := by decide +kernel
theorem dX8_season_31 : decode cX8_season 31 = .ok (.goto 4, 3) := by decide +kernel
theorem dX8_season_34 : decode cX8_season 34 = .ok (.iconst 2, 1) := by decide +kernel
theorem dX8_season_35 : decode cX8_season 35 = .ok (.putfield 42, 3) := by decide +kernel
theorem dX8_season_38 : decode cX8_season 38 = .ok (.aload_n 0, 1) := by decide +kernel
theorem dX8_season_39 : decode cX8_season 39 = .ok (.getfield 42, 3) := by decide +kernel
theorem dX8_season_42 : decode cX8_season 42 = .ok (.ifCond .ne 19, 3) := by decide +kernel
theorem dX8_season_45 : decode cX8_season 45 = .ok (.aload_n 0, 1) := by decide +kernel
theorem dX8_season_46 : decode cX8_season 46 = .ok (.getfield 9, 3) := by decide +kernel
theorem dX8_season_49 : decode cX8_season 49 = .ok (.bipush 38, 2) := by decide +kernel
theorem dX8_season_51 : decode cX8_season 51 = .ok (.iconst 3, 1) := by decide +kernel
theorem dX8_season_52 : decode cX8_season 52 = .ok (.iload_n 1, 1) := by decide +kernel
theorem dX8_season_53 : decode cX8_season 53 = .ok (.imul, 1) := by decide +kernel
theorem dX8_season_54 : decode cX8_season 54 = .ok (.iadd, 1) := by decide +kernel
theorem dX8_season_55 : decode cX8_season 55 = .ok (.iload_n 2, 1) := by decide +kernel
theorem dX8_season_56 : decode cX8_season 56 = .ok (.iadd, 1) := by decide +kernel
theorem dX8_season_57 : decode cX8_season 57 = .ok (.iaload, 1) := by decide +kernel
theorem dX8_season_58 : decode cX8_season 58 = .ok (.goto 4, 3) := by decide +kernel
theorem dX8_season_61 : decode cX8_season 61 = .ok (.iconst 0, 1) := by decide +kernel
theorem dX8_season_62 : decode cX8_season 62 = .ok (.ireturn, 1) := by decide +kernel
theorem dX8_asked_0 : decode cX8_asked 0 = .ok (.iconst 1, 1) := by decide +kernel
theorem dX8_asked_1 : decode cX8_asked 1 = .ok (.istore_n 3, 1) := by decide +kernel
theorem dX8_asked_2 : decode cX8_asked 2 = .ok (.iconst 0, 1) := by decide +kernel
theorem dX8_asked_3 : decode cX8_asked 3 = .ok (.istore 4, 2) := by decide +kernel
theorem dX8_asked_5 : decode cX8_asked 5 = .ok (.iload 4, 2) := by decide +kernel
theorem dX8_asked_7 : decode cX8_asked 7 = .ok (.aload_n 0, 1) := by decide +kernel
theorem dX8_asked_8 : decode cX8_asked 8 = .ok (.getfield 9, 3) := by decide +kernel
theorem dX8_asked_11 : decode cX8_asked 11 = .ok (.iconst 2, 1) := by decide +kernel
theorem dX8_asked_12 : decode cX8_asked 12 = .ok (.iaload, 1) := by decide +kernel
theorem dX8_asked_13 : decode cX8_asked 13 = .ok (.if_icmp .ge 73, 3) := by decide +kernel
theorem dX8_asked_16 : decode cX8_asked 16 = .ok (.bipush 38, 2) := by decide +kernel
theorem dX8_asked_18 : decode cX8_asked 18 = .ok (.iconst 3, 1) := by decide +kernel
theorem dX8_asked_19 : decode cX8_asked 19 = .ok (.iload 4, 2) := by decide +kernel
theorem dX8_asked_21 : decode cX8_asked 21 = .ok (.imul, 1) := by decide +kernel
theorem dX8_asked_22 : decode cX8_asked 22 = .ok (.iadd, 1) := by decide +kernel
theorem dX8_asked_23 : decode cX8_asked 23 = .ok (.istore 5, 2) := by decide +kernel
theorem dX8_asked_25 : decode cX8_asked 25 = .ok (.aload_n 0, 1) := by decide +kernel
theorem dX8_asked_26 : decode cX8_asked 26 = .ok (.getfield 9, 3) := by decide +kernel
theorem dX8_asked_29 : decode cX8_asked 29 = .ok (.iload 5, 2) := by decide +kernel
theorem dX8_asked_31 : decode cX8_asked 31 = .ok (.iaload, 1) := by decide +kernel
theorem dX8_asked_32 : decode cX8_asked 32 = .ok (.iload_n 1, 1) := by decide +kernel
theorem dX8_asked_33 : decode cX8_asked 33 = .ok (.iload_n 2, 1) := by decide +kernel
theorem dX8_asked_34 : decode cX8_asked 34 = .ok (.iadd, 1) := by decide +kernel
theorem dX8_asked_35 : decode cX8_asked 35 = .ok (.iconst 1, 1) := by decide +kernel
theorem dX8_asked_36 : decode cX8_asked 36 = .ok (.isub, 1) := by decide +kernel
theorem dX8_asked_37 : decode cX8_asked 37 = .ok (.if_icmp .gt 41, 3) := by decide +kernel
theorem dX8_asked_40 : decode cX8_asked 40 = .ok (.iload_n 1, 1) := by decide +kernel
theorem dX8_asked_41 : decode cX8_asked 41 = .ok (.aload_n 0, 1) := by decide +kernel
theorem dX8_asked_42 : decode cX8_asked 42 = .ok (.getfield 9, 3) := by decide +kernel
theorem dX8_asked_45 : decode cX8_asked 45 = .ok (.iload 5, 2) := by decide +kernel
theorem dX8_asked_47 : decode cX8_asked 47 = .ok (.iconst 1, 1) := by decide +kernel
theorem dX8_asked_48 : decode cX8_asked 48 = .ok (.iadd, 1) := by decide +kernel
theorem dX8_asked_49 : decode cX8_asked 49 = .ok (.iaload, 1) := by decide +kernel
theorem dX8_asked_50 : decode cX8_asked 50 = .ok (.if_icmp .gt 28, 3) := by decide +kernel
theorem dX8_asked_53 : decode cX8_asked 53 = .ok (.aload_n 0, 1) := by decide +kernel
theorem dX8_asked_54 : decode cX8_asked 54 = .ok (.getfield 9, 3) := by decide +kernel
theorem dX8_asked_57 : decode cX8_asked 57 = .ok (.iload 5, 2) := by decide +kernel
theorem dX8_asked_59 : decode cX8_asked 59 = .ok (.iconst 2, 1) := by decide +kernel
theorem dX8_asked_60 : decode cX8_asked 60 = .ok (.iadd, 1) := by decide +kernel
theorem dX8_asked_61 : decode cX8_asked 61 = .ok (.iaload, 1) := by decide +kernel
theorem dX8_asked_62 : decode cX8_asked 62 = .ok (.iload_n 3, 1) := by decide +kernel
theorem dX8_asked_63 : decode cX8_asked 63 = .ok (.if_icmp .le 15, 3) := by decide +kernel
theorem dX8_asked_66 : decode cX8_asked 66 = .ok (.aload_n 0, 1) := by decide +kernel
theorem dX8_asked_67 : decode cX8_asked 67 = .ok (.getfield 9, 3) := by decide +kernel
theorem dX8_asked_70 : decode cX8_asked 70 = .ok (.iload 5, 2) := by decide +kernel
theorem dX8_asked_72 : decode cX8_asked 72 = .ok (.iconst 2, 1) := by decide +kernel
theorem dX8_asked_73 : decode cX8_asked 73 = .ok (.iadd, 1) := by decide +kernel
theorem dX8_asked_74 : decode cX8_asked 74 = .ok (.iaload, 1) := by decide +kernel
theorem dX8_asked_75 : decode cX8_asked 75 = .ok (.goto 4, 3) := by decide +kernel
theorem dX8_asked_78 : decode cX8_asked 78 = .ok (.iload_n 3, 1) := by decide +kernel
theorem dX8_asked_79 : decode cX8_asked 79 = .ok (.istore_n 3, 1) := by decide +kernel
theorem dX8_asked_80 : decode cX8_asked 80 = .ok (.iinc 4 1, 3) := by decide +kernel
theorem dX8_asked_83 : decode cX8_asked 83 = .ok (.goto (-78), 3) := by decide +kernel
theorem dX8_asked_86 : decode cX8_asked 86 = .ok (.iload_n 3, 1) := by decide +kernel
theorem dX8_asked_87 : decode cX8_asked 87 = .ok (.ireturn, 1) := by decide +kernel
theorem dX8_leastStay_0 : decode cX8_leastStay 0 = .ok (.aload_n 0, 1) := by decide +kernel
theorem dX8_leastStay_1 : decode cX8_leastStay 1 = .ok (.iload_n 1, 1) := by decide +kernel
theorem dX8_leastStay_2 : decode cX8_leastStay 2 = .ok (.invokestatic 88, 3) := by decide +kernel
theorem dX8_leastStay_5 : decode cX8_leastStay 5 = .ok (.ifCond .eq 28, 3) := by decide +kernel
theorem dX8_leastStay_8 : decode cX8_leastStay 8 = .ok (.iload_n 2, 1) := by decide +kernel
theorem dX8_leastStay_9 : decode cX8_leastStay 9 = .ok (.iconst 1, 1) := by decide +kernel
theorem dX8_leastStay_10 : decode cX8_leastStay 10 = .ok (.bipush 14, 2) := by decide +kernel
theorem dX8_leastStay_12 : decode cX8_leastStay 12 = .ok (.invokestatic 52, 3) := by decide +kernel
theorem dX8_leastStay_15 : decode cX8_leastStay 15 = .ok (.ifCond .eq 18, 3) := by decide +kernel
theorem dX8_leastStay_18 : decode cX8_leastStay 18 = .ok (.iload_n 1, 1) := by decide +kernel
theorem dX8_leastStay_19 : decode cX8_leastStay 19 = .ok (.iload_n 2, 1) := by decide +kernel
theorem dX8_leastStay_20 : decode cX8_leastStay 20 = .ok (.iadd, 1) := by decide +kernel
theorem dX8_leastStay_21 : decode cX8_leastStay 21 = .ok (.iconst 1, 1) := by decide +kernel
theorem dX8_leastStay_22 : decode cX8_leastStay 22 = .ok (.isub, 1) := by decide +kernel
theorem dX8_leastStay_23 : decode cX8_leastStay 23 = .ok (.invokestatic 88, 3) := by decide +kernel
theorem dX8_leastStay_26 : decode cX8_leastStay 26 = .ok (.ifCond .eq 7, 3) := by decide +kernel
theorem dX8_leastStay_29 : decode cX8_leastStay 29 = .ok (.iconst 0, 1) := by decide +kernel
theorem dX8_leastStay_30 : decode cX8_leastStay 30 = .ok (.goto 4, 3) := by decide +kernel
theorem dX8_leastStay_33 : decode cX8_leastStay 33 = .ok (.iconst 1, 1) := by decide +kernel
theorem dX8_leastStay_34 : decode cX8_leastStay 34 = .ok (.putfield 42, 3) := by decide +kernel
theorem dX8_leastStay_37 : decode cX8_leastStay 37 = .ok (.aload_n 0, 1) := by decide +kernel
theorem dX8_leastStay_38 : decode cX8_leastStay 38 = .ok (.getfield 42, 3) := by decide +kernel
theorem dX8_leastStay_41 : decode cX8_leastStay 41 = .ok (.ifCond .ne 12, 3) := by decide +kernel
theorem dX8_leastStay_44 : decode cX8_leastStay 44 = .ok (.aload_n 0, 1) := by decide +kernel
theorem dX8_leastStay_45 : decode cX8_leastStay 45 = .ok (.iload_n 1, 1) := by decide +kernel
theorem dX8_leastStay_46 : decode cX8_leastStay 46 = .ok (.iload_n 2, 1) := by decide +kernel
theorem dX8_leastStay_47 : decode cX8_leastStay 47 = .ok (.invokevirtual 91, 3) := by decide +kernel
theorem dX8_leastStay_50 : decode cX8_leastStay 50 = .ok (.goto 4, 3) := by decide +kernel
theorem dX8_leastStay_53 : decode cX8_leastStay 53 = .ok (.iconst 0, 1) := by decide +kernel
theorem dX8_leastStay_54 : decode cX8_leastStay 54 = .ok (.ireturn, 1) := by decide +kernel
theorem dX8_loads_0 : decode cX8_loads 0 = .ok (.iconst 0, 1) := by decide +kernel
theorem dX8_loads_1 : decode cX8_loads 1 = .ok (.istore_n 2, 1) := by decide +kernel
theorem dX8_loads_2 : decode cX8_loads 2 = .ok (.iload_n 2, 1) := by decide +kernel
theorem dX8_loads_3 : decode cX8_loads 3 = .ok (.bipush 12, 2) := by decide +kernel
theorem dX8_loads_5 : decode cX8_loads 5 = .ok (.if_icmp .gt 120, 3) := by decide +kernel
theorem dX8_loads_8 : decode cX8_loads 8 = .ok (.aload_n 0, 1) := by decide +kernel
theorem dX8_loads_9 : decode cX8_loads 9 = .ok (.iload_n 2, 1) := by decide +kernel
theorem dX8_loads_10 : decode cX8_loads 10 = .ok (.invokevirtual 94, 3) := by decide +kernel
theorem dX8_loads_13 : decode cX8_loads 13 = .ok (.ifCond .eq 23, 3) := by decide +kernel
theorem dX8_loads_16 : decode cX8_loads 16 = .ok (.aload_n 0, 1) := by decide +kernel
theorem dX8_loads_17 : decode cX8_loads 17 = .ok (.iload_n 2, 1) := by decide +kernel
theorem dX8_loads_18 : decode cX8_loads 18 = .ok (.bipush 8, 2) := by decide +kernel
theorem dX8_loads_20 : decode cX8_loads 20 = .ok (.invokevirtual 97, 3) := by decide +kernel
theorem dX8_loads_23 : decode cX8_loads 23 = .ok (.iconst 1, 1) := by decide +kernel
theorem dX8_loads_24 : decode cX8_loads 24 = .ok (.if_icmp .ne 12, 3) := by decide +kernel
theorem dX8_loads_27 : decode cX8_loads 27 = .ok (.iload_n 2, 1) := by decide +kernel
theorem dX8_loads_28 : decode cX8_loads 28 = .ok (.iload_n 1, 1) := by decide +kernel
theorem dX8_loads_29 : decode cX8_loads 29 = .ok (.if_icmp .eq 7, 3) := by decide +kernel
theorem dX8_loads_32 : decode cX8_loads 32 = .ok (.iconst 1, 1) := by decide +kernel
theorem dX8_loads_33 : decode cX8_loads 33 = .ok (.goto 4, 3) := by decide +kernel
theorem dX8_loads_36 : decode cX8_loads 36 = .ok (.iconst 0, 1) := by decide +kernel
theorem dX8_loads_37 : decode cX8_loads 37 = .ok (.istore_n 3, 1) := by decide +kernel
theorem dX8_loads_38 : decode cX8_loads 38 = .ok (.aload_n 0, 1) := by decide +kernel
theorem dX8_loads_39 : decode cX8_loads 39 = .ok (.getfield 13, 3) := by decide +kernel
theorem dX8_loads_42 : decode cX8_loads 42 = .ok (.iload_n 2, 1) := by decide +kernel
theorem dX8_loads_43 : decode cX8_loads 43 = .ok (.iload_n 3, 1) := by decide +kernel
theorem dX8_loads_44 : decode cX8_loads 44 = .ok (.ifCond .eq 13, 3) := by decide +kernel
theorem dX8_loads_47 : decode cX8_loads 47 = .ok (.aload_n 0, 1) := by decide +kernel
theorem dX8_loads_48 : decode cX8_loads 48 = .ok (.iload_n 2, 1) := by decide +kernel
theorem dX8_loads_49 : decode cX8_loads 49 = .ok (.bipush 6, 2) := by decide +kernel
theorem dX8_loads_51 : decode cX8_loads 51 = .ok (.invokevirtual 97, 3) := by decide +kernel
theorem dX8_loads_54 : decode cX8_loads 54 = .ok (.goto 4, 3) := by decide +kernel
theorem dX8_loads_57 : decode cX8_loads 57 = .ok (.iconst (-1), 1) := by decide +kernel
theorem dX8_loads_58 : decode cX8_loads 58 = .ok (.iastore, 1) := by decide +kernel
theorem dX8_loads_59 : decode cX8_loads 59 = .ok (.aload_n 0, 1) := by decide +kernel
theorem dX8_loads_60 : decode cX8_loads 60 = .ok (.getfield 16, 3) := by decide +kernel
theorem dX8_loads_63 : decode cX8_loads 63 = .ok (.iload_n 2, 1) := by decide +kernel
theorem dX8_loads_64 : decode cX8_loads 64 = .ok (.iload_n 3, 1) := by decide +kernel
theorem dX8_loads_65 : decode cX8_loads 65 = .ok (.ifCond .eq 12, 3) := by decide +kernel
theorem dX8_loads_68 : decode cX8_loads 68 = .ok (.aload_n 0, 1) := by decide +kernel
theorem dX8_loads_69 : decode cX8_loads 69 = .ok (.iload_n 2, 1) := by decide +kernel
theorem dX8_loads_70 : decode cX8_loads 70 = .ok (.iconst 4, 1) := by decide +kernel
theorem dX8_loads_71 : decode cX8_loads 71 = .ok (.invokevirtual 97, 3) := by decide +kernel
theorem dX8_loads_74 : decode cX8_loads 74 = .ok (.goto 4, 3) := by decide +kernel
theorem dX8_loads_77 : decode cX8_loads 77 = .ok (.iconst 0, 1) := by decide +kernel
theorem dX8_loads_78 : decode cX8_loads 78 = .ok (.iastore, 1) := by decide +kernel
theorem dX8_loads_79 : decode cX8_loads 79 = .ok (.aload_n 0, 1) := by decide +kernel
theorem dX8_loads_80 : decode cX8_loads 80 = .ok (.getfield 19, 3) := by decide +kernel
theorem dX8_loads_83 : decode cX8_loads 83 = .ok (.iload_n 2, 1) := by decide +kernel
theorem dX8_loads_84 : decode cX8_loads 84 = .ok (.iload_n 3, 1) := by decide +kernel
theorem dX8_loads_85 : decode cX8_loads 85 = .ok (.ifCond .eq 12, 3) := by decide +kernel
theorem dX8_loads_88 : decode cX8_loads 88 = .ok (.aload_n 0, 1) := by decide +kernel
theorem dX8_loads_89 : decode cX8_loads 89 = .ok (.iload_n 2, 1) := by decide +kernel
theorem dX8_loads_90 : decode cX8_loads 90 = .ok (.iconst 5, 1) := by decide +kernel
theorem dX8_loads_91 : decode cX8_loads 91 = .ok (.invokevirtual 97, 3) := by decide +kernel
theorem dX8_loads_94 : decode cX8_loads 94 = .ok (.goto 4, 3) := by decide +kernel
theorem dX8_loads_97 : decode cX8_loads 97 = .ok (.iconst 0, 1) := by decide +kernel
theorem dX8_loads_98 : decode cX8_loads 98 = .ok (.iastore, 1) := by decide +kernel
theorem dX8_loads_99 : decode cX8_loads 99 = .ok (.aload_n 0, 1) := by decide +kernel
theorem dX8_loads_100 : decode cX8_loads 100 = .ok (.getfield 22, 3) := by decide +kernel
theorem dX8_loads_103 : decode cX8_loads 103 = .ok (.iload_n 2, 1) := by decide +kernel
theorem dX8_loads_104 : decode cX8_loads 104 = .ok (.iload_n 3, 1) := by decide +kernel
theorem dX8_loads_105 : decode cX8_loads 105 = .ok (.ifCond .eq 12, 3) := by decide +kernel
theorem dX8_loads_108 : decode cX8_loads 108 = .ok (.aload_n 0, 1) := by decide +kernel
theorem dX8_loads_109 : decode cX8_loads 109 = .ok (.iload_n 2, 1) := by decide +kernel
theorem dX8_loads_110 : decode cX8_loads 110 = .ok (.iconst 3, 1) := by decide +kernel
theorem dX8_loads_111 : decode cX8_loads 111 = .ok (.invokevirtual 97, 3) := by decide +kernel
theorem dX8_loads_114 : decode cX8_loads 114 = .ok (.goto 4, 3) := by decide +kernel
theorem dX8_loads_117 : decode cX8_loads 117 = .ok (.iconst 0, 1) := by decide +kernel
theorem dX8_loads_118 : decode cX8_loads 118 = .ok (.iastore, 1) := by decide +kernel
theorem dX8_loads_119 : decode cX8_loads 119 = .ok (.iinc 2 1, 3) := by decide +kernel
theorem dX8_loads_122 : decode cX8_loads 122 = .ok (.goto (-120), 3) := by decide +kernel
theorem dX8_loads_125 : decode cX8_loads 125 = .ok (.return_, 1) := by decide +kernel
theorem dX8_comes_0 : decode cX8_comes 0 = .ok (.aload_n 0, 1) := by decide +kernel
theorem dX8_comes_1 : decode cX8_comes 1 = .ok (.getfield 16, 3) := by decide +kernel
theorem dX8_comes_4 : decode cX8_comes 4 = .ok (.bipush 12, 2) := by decide +kernel
theorem dX8_comes_6 : decode cX8_comes 6 = .ok (.iload_n 2, 1) := by decide +kernel
theorem dX8_comes_7 : decode cX8_comes 7 = .ok (.iastore, 1) := by decide +kernel
theorem dX8_comes_8 : decode cX8_comes 8 = .ok (.aload_n 0, 1) := by decide +kernel
theorem dX8_comes_9 : decode cX8_comes 9 = .ok (.getfield 19, 3) := by decide +kernel
theorem dX8_comes_12 : decode cX8_comes 12 = .ok (.bipush 12, 2) := by decide +kernel
theorem dX8_comes_14 : decode cX8_comes 14 = .ok (.iload_n 3, 1) := by decide +kernel
theorem dX8_comes_15 : decode cX8_comes 15 = .ok (.iastore, 1) := by decide +kernel
theorem dX8_comes_16 : decode cX8_comes 16 = .ok (.aload_n 0, 1) := by decide +kernel
theorem dX8_comes_17 : decode cX8_comes 17 = .ok (.getfield 22, 3) := by decide +kernel
theorem dX8_comes_20 : decode cX8_comes 20 = .ok (.bipush 12, 2) := by decide +kernel
theorem dX8_comes_22 : decode cX8_comes 22 = .ok (.iload_n 1, 1) := by decide +kernel
theorem dX8_comes_23 : decode cX8_comes 23 = .ok (.iastore, 1) := by decide +kernel
theorem dX8_comes_24 : decode cX8_comes 24 = .ok (.return_, 1) := by decide +kernel
theorem dX8_mask_0 : decode cX8_mask 0 = .ok (.lconst 1, 1) := by decide +kernel
theorem dX8_mask_1 : decode cX8_mask 1 = .ok (.iload_n 1, 1) := by decide +kernel
theorem dX8_mask_2 : decode cX8_mask 2 = .ok (.lshl, 1) := by decide +kernel
theorem dX8_mask_3 : decode cX8_mask 3 = .ok (.lconst 1, 1) := by decide +kernel
theorem dX8_mask_4 : decode cX8_mask 4 = .ok (.lsub, 1) := by decide +kernel
theorem dX8_mask_5 : decode cX8_mask 5 = .ok (.iload_n 0, 1) := by decide +kernel
theorem dX8_mask_6 : decode cX8_mask 6 = .ok (.lshl, 1) := by decide +kernel
theorem dX8_mask_7 : decode cX8_mask 7 = .ok (.lreturn, 1) := by decide +kernel
theorem dX8_maskOf_0 : decode cX8_maskOf 0 = .ok (.aload_n 0, 1) := by decide +kernel
theorem dX8_maskOf_1 : decode cX8_maskOf 1 = .ok (.iload_n 1, 1) := by decide +kernel
theorem dX8_maskOf_2 : decode cX8_maskOf 2 = .ok (.iconst (-1), 1) := by decide +kernel
theorem dX8_maskOf_3 : decode cX8_maskOf 3 = .ok (.invokevirtual 100, 3) := by decide +kernel
theorem dX8_maskOf_6 : decode cX8_maskOf 6 = .ok (.lreturn, 1) := by decide +kernel
theorem dX8_maskOf__0 : decode cX8_maskOf_ 0 = .ok (.lconst 0, 1) := by decide +kernel
theorem dX8_maskOf__1 : decode cX8_maskOf_ 1 = .ok (.lstore_n 3, 1) := by decide +kernel
theorem dX8_maskOf__2 : decode cX8_maskOf_ 2 = .ok (.iconst 0, 1) := by decide +kernel
theorem dX8_maskOf__3 : decode cX8_maskOf_ 3 = .ok (.istore 5, 2) := by decide +kernel
theorem dX8_maskOf__5 : decode cX8_maskOf_ 5 = .ok (.iload 5, 2) := by decide +kernel
theorem dX8_maskOf__7 : decode cX8_maskOf_ 7 = .ok (.bipush 12, 2) := by decide +kernel
theorem dX8_maskOf__9 : decode cX8_maskOf_ 9 = .ok (.if_icmp .gt 50, 3) := by decide +kernel
theorem dX8_maskOf__12 : decode cX8_maskOf_ 12 = .ok (.lload_n 3, 1) := by decide +kernel
theorem dX8_maskOf__13 : decode cX8_maskOf_ 13 = .ok (.aload_n 0, 1) := by decide +kernel
theorem dX8_maskOf__14 : decode cX8_maskOf_ 14 = .ok (.getfield 13, 3) := by decide +kernel
theorem dX8_maskOf__17 : decode cX8_maskOf_ 17 = .ok (.iload 5, 2) := by decide +kernel
theorem dX8_maskOf__19 : decode cX8_maskOf_ 19 = .ok (.iaload, 1) := by decide +kernel
theorem dX8_maskOf__20 : decode cX8_maskOf_ 20 = .ok (.iload_n 1, 1) := by decide +kernel
theorem dX8_maskOf__21 : decode cX8_maskOf_ 21 = .ok (.if_icmp .ne 29, 3) := by decide +kernel
theorem dX8_maskOf__24 : decode cX8_maskOf_ 24 = .ok (.iload 5, 2) := by decide +kernel
theorem dX8_maskOf__26 : decode cX8_maskOf_ 26 = .ok (.iload_n 2, 1) := by decide +kernel
theorem dX8_maskOf__27 : decode cX8_maskOf_ 27 = .ok (.if_icmp .eq 23, 3) := by decide +kernel
theorem dX8_maskOf__30 : decode cX8_maskOf_ 30 = .ok (.aload_n 0, 1) := by decide +kernel
theorem dX8_maskOf__31 : decode cX8_maskOf_ 31 = .ok (.getfield 16, 3) := by decide +kernel
theorem dX8_maskOf__34 : decode cX8_maskOf_ 34 = .ok (.iload 5, 2) := by decide +kernel
theorem dX8_maskOf__36 : decode cX8_maskOf_ 36 = .ok (.iaload, 1) := by decide +kernel
theorem dX8_maskOf__37 : decode cX8_maskOf_ 37 = .ok (.aload_n 0, 1) := by decide +kernel
theorem dX8_maskOf__38 : decode cX8_maskOf_ 38 = .ok (.getfield 19, 3) := by decide +kernel
theorem dX8_maskOf__41 : decode cX8_maskOf_ 41 = .ok (.iload 5, 2) := by decide +kernel
theorem dX8_maskOf__43 : decode cX8_maskOf_ 43 = .ok (.iaload, 1) := by decide +kernel
theorem dX8_maskOf__44 : decode cX8_maskOf_ 44 = .ok (.invokestatic 103, 3) := by decide +kernel
theorem dX8_maskOf__47 : decode cX8_maskOf_ 47 = .ok (.goto 4, 3) := by decide +kernel
theorem dX8_maskOf__50 : decode cX8_maskOf_ 50 = .ok (.lconst 0, 1) := by decide +kernel
theorem dX8_maskOf__51 : decode cX8_maskOf_ 51 = .ok (.lor, 1) := by decide +kernel
theorem dX8_maskOf__52 : decode cX8_maskOf_ 52 = .ok (.lstore_n 3, 1) := by decide +kernel
theorem dX8_maskOf__53 : decode cX8_maskOf_ 53 = .ok (.iinc 5 1, 3) := by decide +kernel
theorem dX8_maskOf__56 : decode cX8_maskOf_ 56 = .ok (.goto (-51), 3) := by decide +kernel
theorem dX8_maskOf__59 : decode cX8_maskOf_ 59 = .ok (.lload_n 3, 1) := by decide +kernel
theorem dX8_maskOf__60 : decode cX8_maskOf_ 60 = .ok (.lreturn, 1) := by decide +kernel
theorem dX8_bits_0 : decode cX8_bits 0 = .ok (.iconst 0, 1) := by decide +kernel
theorem dX8_bits_1 : decode cX8_bits 1 = .ok (.istore_n 2, 1) := by decide +kernel
theorem dX8_bits_2 : decode cX8_bits 2 = .ok (.iconst 0, 1) := by decide +kernel
theorem dX8_bits_3 : decode cX8_bits 3 = .ok (.istore_n 3, 1) := by decide +kernel
theorem dX8_bits_4 : decode cX8_bits 4 = .ok (.iload_n 3, 1) := by decide +kernel
theorem dX8_bits_5 : decode cX8_bits 5 = .ok (.bipush 60, 2) := by decide +kernel
theorem dX8_bits_7 : decode cX8_bits 7 = .ok (.if_icmp .ge 18, 3) := by decide +kernel
theorem dX8_bits_10 : decode cX8_bits 10 = .ok (.iload_n 2, 1) := by decide +kernel
theorem dX8_bits_11 : decode cX8_bits 11 = .ok (.lload_n 0, 1) := by decide +kernel
theorem dX8_bits_12 : decode cX8_bits 12 = .ok (.iload_n 3, 1) := by decide +kernel
theorem dX8_bits_13 : decode cX8_bits 13 = .ok (.lshr, 1) := by decide +kernel
theorem dX8_bits_14 : decode cX8_bits 14 = .ok (.lconst 1, 1) := by decide +kernel
theorem dX8_bits_15 : decode cX8_bits 15 = .ok (.land, 1) := by decide +kernel
theorem dX8_bits_16 : decode cX8_bits 16 = .ok (.l2i, 1) := by decide +kernel
theorem dX8_bits_17 : decode cX8_bits 17 = .ok (.iadd, 1) := by decide +kernel
theorem dX8_bits_18 : decode cX8_bits 18 = .ok (.istore_n 2, 1) := by decide +kernel
theorem dX8_bits_19 : decode cX8_bits 19 = .ok (.iinc 3 1, 3) := by decide +kernel
theorem dX8_bits_22 : decode cX8_bits 22 = .ok (.goto (-18), 3) := by decide +kernel
theorem dX8_bits_25 : decode cX8_bits 25 = .ok (.iload_n 2, 1) := by decide +kernel
theorem dX8_bits_26 : decode cX8_bits 26 = .ok (.ireturn, 1) := by decide +kernel
theorem dX8_gaps_0 : decode cX8_gaps 0 = .ok (.iconst 0, 1) := by decide +kernel
theorem dX8_gaps_1 : decode cX8_gaps 1 = .ok (.istore 4, 2) := by decide +kernel
theorem dX8_gaps_3 : decode cX8_gaps 3 = .ok (.iconst (-1), 1) := by decide +kernel
theorem dX8_gaps_4 : decode cX8_gaps 4 = .ok (.istore 5, 2) := by decide +kernel
theorem dX8_gaps_6 : decode cX8_gaps 6 = .ok (.iconst 0, 1) := by decide +kernel
theorem dX8_gaps_7 : decode cX8_gaps 7 = .ok (.istore 6, 2) := by decide +kernel
theorem dX8_gaps_9 : decode cX8_gaps 9 = .ok (.iload 6, 2) := by decide +kernel
theorem dX8_gaps_11 : decode cX8_gaps 11 = .ok (.bipush 60, 2) := by decide +kernel
theorem dX8_gaps_13 : decode cX8_gaps 13 = .ok (.if_icmp .ge 97, 3) := by decide +kernel
theorem dX8_gaps_16 : decode cX8_gaps 16 = .ok (.lload_n 1, 1) := by decide +kernel
theorem dX8_gaps_17 : decode cX8_gaps 17 = .ok (.iload 6, 2) := by decide +kernel
theorem dX8_gaps_19 : decode cX8_gaps 19 = .ok (.lshr, 1) := by decide +kernel
theorem dX8_gaps_20 : decode cX8_gaps 20 = .ok (.lconst 1, 1) := by decide +kernel
theorem dX8_gaps_21 : decode cX8_gaps 21 = .ok (.land, 1) := by decide +kernel
theorem dX8_gaps_22 : decode cX8_gaps 22 = .ok (.lconst 0, 1) := by decide +kernel
theorem dX8_gaps_23 : decode cX8_gaps 23 = .ok (.lcmp, 1) := by decide +kernel
theorem dX8_gaps_24 : decode cX8_gaps 24 = .ok (.ifCond .ne 6, 3) := by decide +kernel
theorem dX8_gaps_27 : decode cX8_gaps 27 = .ok (.goto 77, 3) := by decide +kernel
theorem dX8_gaps_30 : decode cX8_gaps 30 = .ok (.iload 5, 2) := by decide +kernel
theorem dX8_gaps_32 : decode cX8_gaps 32 = .ok (.ifCond .lt 68, 3) := by decide +kernel
theorem dX8_gaps_35 : decode cX8_gaps 35 = .ok (.iload 6, 2) := by decide +kernel
theorem dX8_gaps_37 : decode cX8_gaps 37 = .ok (.iload 5, 2) := by decide +kernel
theorem dX8_gaps_39 : decode cX8_gaps 39 = .ok (.isub, 1) := by decide +kernel
theorem dX8_gaps_40 : decode cX8_gaps 40 = .ok (.iconst 1, 1) := by decide +kernel
theorem dX8_gaps_41 : decode cX8_gaps 41 = .ok (.isub, 1) := by decide +kernel
theorem dX8_gaps_42 : decode cX8_gaps 42 = .ok (.iconst 1, 1) := by decide +kernel
theorem dX8_gaps_43 : decode cX8_gaps 43 = .ok (.aload_n 0, 1) := by decide +kernel
theorem dX8_gaps_44 : decode cX8_gaps 44 = .ok (.getfield 9, 3) := by decide +kernel
theorem dX8_gaps_47 : decode cX8_gaps 47 = .ok (.iconst 4, 1) := by decide +kernel
theorem dX8_gaps_48 : decode cX8_gaps 48 = .ok (.iaload, 1) := by decide +kernel
theorem dX8_gaps_49 : decode cX8_gaps 49 = .ok (.invokestatic 52, 3) := by decide +kernel
theorem dX8_gaps_52 : decode cX8_gaps 52 = .ok (.ifCond .eq 48, 3) := by decide +kernel
theorem dX8_gaps_55 : decode cX8_gaps 55 = .ok (.aload_n 0, 1) := by decide +kernel
theorem dX8_gaps_56 : decode cX8_gaps 56 = .ok (.iload 4, 2) := by decide +kernel
theorem dX8_gaps_58 : decode cX8_gaps 58 = .ok (.iload_n 3, 1) := by decide +kernel
theorem dX8_gaps_59 : decode cX8_gaps 59 = .ok (.if_icmp .ne 10, 3) := by decide +kernel
theorem dX8_gaps_62 : decode cX8_gaps 62 = .ok (.iload 5, 2) := by decide +kernel
theorem dX8_gaps_64 : decode cX8_gaps 64 = .ok (.iconst 1, 1) := by decide +kernel
theorem dX8_gaps_65 : decode cX8_gaps 65 = .ok (.iadd, 1) := by decide +kernel
theorem dX8_gaps_66 : decode cX8_gaps 66 = .ok (.goto 7, 3) := by decide +kernel
theorem dX8_gaps_69 : decode cX8_gaps 69 = .ok (.aload_n 0, 1) := by decide +kernel
theorem dX8_gaps_70 : decode cX8_gaps 70 = .ok (.getfield 106, 3) := by decide +kernel
theorem dX8_gaps_73 : decode cX8_gaps 73 = .ok (.putfield 106, 3) := by decide +kernel
theorem dX8_gaps_76 : decode cX8_gaps 76 = .ok (.aload_n 0, 1) := by decide +kernel
theorem dX8_gaps_77 : decode cX8_gaps 77 = .ok (.iload 4, 2) := by decide +kernel
theorem dX8_gaps_79 : decode cX8_gaps 79 = .ok (.iload_n 3, 1) := by decide +kernel
theorem dX8_gaps_80 : decode cX8_gaps 80 = .ok (.if_icmp .ne 10, 3) := by decide +kernel
theorem dX8_gaps_83 : decode cX8_gaps 83 = .ok (.iload 6, 2) := by decide +kernel
theorem dX8_gaps_85 : decode cX8_gaps 85 = .ok (.iconst 1, 1) := by decide +kernel
theorem dX8_gaps_86 : decode cX8_gaps 86 = .ok (.isub, 1) := by decide +kernel
theorem dX8_gaps_87 : decode cX8_gaps 87 = .ok (.goto 7, 3) := by decide +kernel
theorem dX8_gaps_90 : decode cX8_gaps 90 = .ok (.aload_n 0, 1) := by decide +kernel
theorem dX8_gaps_91 : decode cX8_gaps 91 = .ok (.getfield 109, 3) := by decide +kernel
theorem dX8_gaps_94 : decode cX8_gaps 94 = .ok (.putfield 109, 3) := by decide +kernel
theorem dX8_gaps_97 : decode cX8_gaps 97 = .ok (.iinc 4 1, 3) := by decide +kernel
theorem dX8_gaps_100 : decode cX8_gaps 100 = .ok (.iload 6, 2) := by decide +kernel
theorem dX8_gaps_102 : decode cX8_gaps 102 = .ok (.istore 5, 2) := by decide +kernel
theorem dX8_gaps_104 : decode cX8_gaps 104 = .ok (.iinc 6 1, 3) := by decide +kernel
theorem dX8_gaps_107 : decode cX8_gaps 107 = .ok (.goto (-98), 3) := by decide +kernel
theorem dX8_gaps_110 : decode cX8_gaps 110 = .ok (.iload 4, 2) := by decide +kernel
theorem dX8_gaps_112 : decode cX8_gaps 112 = .ok (.ireturn, 1) := by decide +kernel
theorem dX8_gapsOf_0 : decode cX8_gapsOf 0 = .ok (.aload_n 0, 1) := by decide +kernel
theorem dX8_gapsOf_1 : decode cX8_gapsOf 1 = .ok (.lload_n 1, 1) := by decide +kernel
theorem dX8_gapsOf_2 : decode cX8_gapsOf 2 = .ok (.iconst (-1), 1) := by decide +kernel
theorem dX8_gapsOf_3 : decode cX8_gapsOf 3 = .ok (.invokevirtual 112, 3) := by decide +kernel
theorem dX8_gapsOf_6 : decode cX8_gapsOf 6 = .ok (.ireturn, 1) := by decide +kernel
theorem dX8_gapsOfAll_0 : decode cX8_gapsOfAll 0 = .ok (.iconst 0, 1) := by decide +kernel
theorem dX8_gapsOfAll_1 : decode cX8_gapsOfAll 1 = .ok (.istore_n 1, 1) := by decide +kernel
theorem dX8_gapsOfAll_2 : decode cX8_gapsOfAll 2 = .ok (.iconst 0, 1) := by decide +kernel
theorem dX8_gapsOfAll_3 : decode cX8_gapsOfAll 3 = .ok (.istore_n 2, 1) := by decide +kernel
theorem dX8_gapsOfAll_4 : decode cX8_gapsOfAll 4 = .ok (.iload_n 2, 1) := by decide +kernel
theorem dX8_gapsOfAll_5 : decode cX8_gapsOfAll 5 = .ok (.aload_n 0, 1) := by decide +kernel
theorem dX8_gapsOfAll_6 : decode cX8_gapsOfAll 6 = .ok (.getfield 9, 3) := by decide +kernel
theorem dX8_gapsOfAll_9 : decode cX8_gapsOfAll 9 = .ok (.iconst 0, 1) := by decide +kernel
theorem dX8_gapsOfAll_10 : decode cX8_gapsOfAll 10 = .ok (.iaload, 1) := by decide +kernel
theorem dX8_gapsOfAll_11 : decode cX8_gapsOfAll 11 = .ok (.if_icmp .ge 21, 3) := by decide +kernel
theorem dX8_gapsOfAll_14 : decode cX8_gapsOfAll 14 = .ok (.iload_n 1, 1) := by decide +kernel
theorem dX8_gapsOfAll_15 : decode cX8_gapsOfAll 15 = .ok (.aload_n 0, 1) := by decide +kernel
theorem dX8_gapsOfAll_16 : decode cX8_gapsOfAll 16 = .ok (.aload_n 0, 1) := by decide +kernel
theorem dX8_gapsOfAll_17 : decode cX8_gapsOfAll 17 = .ok (.iload_n 2, 1) := by decide +kernel
theorem dX8_gapsOfAll_18 : decode cX8_gapsOfAll 18 = .ok (.invokevirtual 71, 3) := by decide +kernel
theorem dX8_gapsOfAll_21 : decode cX8_gapsOfAll 21 = .ok (.invokevirtual 79, 3) := by decide +kernel
theorem dX8_gapsOfAll_24 : decode cX8_gapsOfAll 24 = .ok (.iadd, 1) := by decide +kernel
theorem dX8_gapsOfAll_25 : decode cX8_gapsOfAll 25 = .ok (.istore_n 1, 1) := by decide +kernel
theorem dX8_gapsOfAll_26 : decode cX8_gapsOfAll 26 = .ok (.iinc 2 1, 3) := by decide +kernel
theorem dX8_gapsOfAll_29 : decode cX8_gapsOfAll 29 = .ok (.goto (-25), 3) := by decide +kernel
theorem dX8_gapsOfAll_32 : decode cX8_gapsOfAll 32 = .ok (.iload_n 1, 1) := by decide +kernel
theorem dX8_gapsOfAll_33 : decode cX8_gapsOfAll 33 = .ok (.ireturn, 1) := by decide +kernel
theorem dX8_powerAt_0 : decode cX8_powerAt 0 = .ok (.iconst 0, 1) := by decide +kernel
theorem dX8_powerAt_1 : decode cX8_powerAt 1 = .ok (.istore_n 3, 1) := by decide +kernel
theorem dX8_powerAt_2 : decode cX8_powerAt 2 = .ok (.iconst 0, 1) := by decide +kernel
theorem dX8_powerAt_3 : decode cX8_powerAt 3 = .ok (.istore 4, 2) := by decide +kernel
theorem dX8_powerAt_5 : decode cX8_powerAt 5 = .ok (.iload 4, 2) := by decide +kernel
theorem dX8_powerAt_7 : decode cX8_powerAt 7 = .ok (.bipush 12, 2) := by decide +kernel
theorem dX8_powerAt_9 : decode cX8_powerAt 9 = .ok (.if_icmp .gt 80, 3) := by decide +kernel
theorem dX8_powerAt_12 : decode cX8_powerAt 12 = .ok (.iload_n 3, 1) := by decide +kernel
theorem dX8_powerAt_13 : decode cX8_powerAt 13 = .ok (.aload_n 0, 1) := by decide +kernel
theorem dX8_powerAt_14 : decode cX8_powerAt 14 = .ok (.getfield 13, 3) := by decide +kernel
theorem dX8_powerAt_17 : decode cX8_powerAt 17 = .ok (.iload 4, 2) := by decide +kernel
theorem dX8_powerAt_19 : decode cX8_powerAt 19 = .ok (.iaload, 1) := by decide +kernel
theorem dX8_powerAt_20 : decode cX8_powerAt 20 = .ok (.ifCond .lt 60, 3) := by decide +kernel
theorem dX8_powerAt_23 : decode cX8_powerAt 23 = .ok (.aload_n 0, 1) := by decide +kernel
theorem dX8_powerAt_24 : decode cX8_powerAt 24 = .ok (.aload_n 0, 1) := by decide +kernel
theorem dX8_powerAt_25 : decode cX8_powerAt 25 = .ok (.getfield 13, 3) := by decide +kernel
theorem dX8_powerAt_28 : decode cX8_powerAt 28 = .ok (.iload 4, 2) := by decide +kernel
theorem dX8_powerAt_30 : decode cX8_powerAt 30 = .ok (.iaload, 1) := by decide +kernel
theorem dX8_powerAt_31 : decode cX8_powerAt 31 = .ok (.iconst 3, 1) := by decide +kernel
theorem dX8_powerAt_32 : decode cX8_powerAt 32 = .ok (.invokevirtual 63, 3) := by decide +kernel
theorem dX8_powerAt_35 : decode cX8_powerAt 35 = .ok (.iload_n 1, 1) := by decide +kernel
theorem dX8_powerAt_36 : decode cX8_powerAt 36 = .ok (.if_icmp .ne 44, 3) := by decide +kernel
theorem dX8_powerAt_39 : decode cX8_powerAt 39 = .ok (.iload_n 2, 1) := by decide +kernel
theorem dX8_powerAt_40 : decode cX8_powerAt 40 = .ok (.aload_n 0, 1) := by decide +kernel
theorem dX8_powerAt_41 : decode cX8_powerAt 41 = .ok (.getfield 16, 3) := by decide +kernel
theorem dX8_powerAt_44 : decode cX8_powerAt 44 = .ok (.iload 4, 2) := by decide +kernel
theorem dX8_powerAt_46 : decode cX8_powerAt 46 = .ok (.iaload, 1) := by decide +kernel
theorem dX8_powerAt_47 : decode cX8_powerAt 47 = .ok (.aload_n 0, 1) := by decide +kernel
theorem dX8_powerAt_48 : decode cX8_powerAt 48 = .ok (.getfield 16, 3) := by decide +kernel
theorem dX8_powerAt_51 : decode cX8_powerAt 51 = .ok (.iload 4, 2) := by decide +kernel
theorem dX8_powerAt_53 : decode cX8_powerAt 53 = .ok (.iaload, 1) := by decide +kernel
theorem dX8_powerAt_54 : decode cX8_powerAt 54 = .ok (.aload_n 0, 1) := by decide +kernel
theorem dX8_powerAt_55 : decode cX8_powerAt 55 = .ok (.getfield 19, 3) := by decide +kernel
theorem dX8_powerAt_58 : decode cX8_powerAt 58 = .ok (.iload 4, 2) := by decide +kernel
theorem dX8_powerAt_60 : decode cX8_powerAt 60 = .ok (.iaload, 1) := by decide +kernel
theorem dX8_powerAt_61 : decode cX8_powerAt 61 = .ok (.iadd, 1) := by decide +kernel
theorem dX8_powerAt_62 : decode cX8_powerAt 62 = .ok (.iconst 1, 1) := by decide +kernel
theorem dX8_powerAt_63 : decode cX8_powerAt 63 = .ok (.isub, 1) := by decide +kernel
theorem dX8_powerAt_64 : decode cX8_powerAt 64 = .ok (.invokestatic 52, 3) := by decide +kernel
theorem dX8_powerAt_67 : decode cX8_powerAt 67 = .ok (.ifCond .eq 13, 3) := by decide +kernel
theorem dX8_powerAt_70 : decode cX8_powerAt 70 = .ok (.aload_n 0, 1) := by decide +kernel
theorem dX8_powerAt_71 : decode cX8_powerAt 71 = .ok (.getfield 22, 3) := by decide +kernel
theorem dX8_powerAt_74 : decode cX8_powerAt 74 = .ok (.iload 4, 2) := by decide +kernel
theorem dX8_powerAt_76 : decode cX8_powerAt 76 = .ok (.iaload, 1) := by decide +kernel
theorem dX8_powerAt_77 : decode cX8_powerAt 77 = .ok (.goto 4, 3) := by decide +kernel
theorem dX8_powerAt_80 : decode cX8_powerAt 80 = .ok (.iconst 0, 1) := by decide +kernel
theorem dX8_powerAt_81 : decode cX8_powerAt 81 = .ok (.iadd, 1) := by decide +kernel
theorem dX8_powerAt_82 : decode cX8_powerAt 82 = .ok (.istore_n 3, 1) := by decide +kernel
theorem dX8_powerAt_83 : decode cX8_powerAt 83 = .ok (.iinc 4 1, 3) := by decide +kernel
theorem dX8_powerAt_86 : decode cX8_powerAt 86 = .ok (.goto (-81), 3) := by decide +kernel
theorem dX8_powerAt_89 : decode cX8_powerAt 89 = .ok (.iload_n 3, 1) := by decide +kernel
theorem dX8_powerAt_90 : decode cX8_powerAt 90 = .ok (.ireturn, 1) := by decide +kernel
theorem dX8_fits_0 : decode cX8_fits 0 = .ok (.aload_n 0, 1) := by decide +kernel
theorem dX8_fits_1 : decode cX8_fits 1 = .ok (.iload 5, 2) := by decide +kernel
theorem dX8_fits_3 : decode cX8_fits 3 = .ok (.iconst 1, 1) := by decide +kernel
theorem dX8_fits_4 : decode cX8_fits 4 = .ok (.invokevirtual 63, 3) := by decide +kernel
theorem dX8_fits_7 : decode cX8_fits 7 = .ok (.istore 6, 2) := by decide +kernel
theorem dX8_fits_9 : decode cX8_fits 9 = .ok (.aload_n 0, 1) := by decide +kernel
theorem dX8_fits_10 : decode cX8_fits 10 = .ok (.iload 5, 2) := by decide +kernel
theorem dX8_fits_12 : decode cX8_fits 12 = .ok (.iconst 2, 1) := by decide +kernel
theorem dX8_fits_13 : decode cX8_fits 13 = .ok (.invokevirtual 63, 3) := by decide +kernel
theorem dX8_fits_16 : decode cX8_fits 16 = .ok (.istore 7, 2) := by decide +kernel
theorem dX8_fits_18 : decode cX8_fits 18 = .ok (.iload_n 1, 1) := by decide +kernel
theorem dX8_fits_19 : decode cX8_fits 19 = .ok (.aload_n 0, 1) := by decide +kernel
theorem dX8_fits_20 : decode cX8_fits 20 = .ok (.iload 5, 2) := by decide +kernel
theorem dX8_fits_22 : decode cX8_fits 22 = .ok (.iconst 0, 1) := by decide +kernel
theorem dX8_fits_23 : decode cX8_fits 23 = .ok (.invokevirtual 63, 3) := by decide +kernel
theorem dX8_fits_26 : decode cX8_fits 26 = .ok (.if_icmp .gt 46, 3) := by decide +kernel
theorem dX8_fits_29 : decode cX8_fits 29 = .ok (.iload_n 2, 1) := by decide +kernel
theorem dX8_fits_30 : decode cX8_fits 30 = .ok (.iload 6, 2) := by decide +kernel
theorem dX8_fits_32 : decode cX8_fits 32 = .ok (.if_icmp .gt 9, 3) := by decide +kernel
theorem dX8_fits_35 : decode cX8_fits 35 = .ok (.iload_n 3, 1) := by decide +kernel
theorem dX8_fits_36 : decode cX8_fits 36 = .ok (.iload 7, 2) := by decide +kernel
theorem dX8_fits_38 : decode cX8_fits 38 = .ok (.if_icmp .le 15, 3) := by decide +kernel
theorem dX8_fits_41 : decode cX8_fits 41 = .ok (.iload_n 3, 1) := by decide +kernel
theorem dX8_fits_42 : decode cX8_fits 42 = .ok (.iload 6, 2) := by decide +kernel
theorem dX8_fits_44 : decode cX8_fits 44 = .ok (.if_icmp .gt 28, 3) := by decide +kernel
theorem dX8_fits_47 : decode cX8_fits 47 = .ok (.iload_n 2, 1) := by decide +kernel
theorem dX8_fits_48 : decode cX8_fits 48 = .ok (.iload 7, 2) := by decide +kernel
theorem dX8_fits_50 : decode cX8_fits 50 = .ok (.if_icmp .gt 22, 3) := by decide +kernel
theorem dX8_fits_53 : decode cX8_fits 53 = .ok (.iload 4, 2) := by decide +kernel
theorem dX8_fits_55 : decode cX8_fits 55 = .ok (.ifCond .eq 13, 3) := by decide +kernel
theorem dX8_fits_58 : decode cX8_fits 58 = .ok (.aload_n 0, 1) := by decide +kernel
theorem dX8_fits_59 : decode cX8_fits 59 = .ok (.iload 5, 2) := by decide +kernel
theorem dX8_fits_61 : decode cX8_fits 61 = .ok (.iconst 3, 1) := by decide +kernel
theorem dX8_fits_62 : decode cX8_fits 62 = .ok (.invokevirtual 63, 3) := by decide +kernel
theorem dX8_fits_65 : decode cX8_fits 65 = .ok (.ifCond .lt 7, 3) := by decide +kernel
theorem dX8_fits_68 : decode cX8_fits 68 = .ok (.iconst 1, 1) := by decide +kernel
theorem dX8_fits_69 : decode cX8_fits 69 = .ok (.goto 4, 3) := by decide +kernel
theorem dX8_fits_72 : decode cX8_fits 72 = .ok (.iconst 0, 1) := by decide +kernel
theorem dX8_fits_73 : decode cX8_fits 73 = .ok (.ireturn, 1) := by decide +kernel
theorem dX8_isAlone_0 : decode cX8_isAlone 0 = .ok (.aload_n 0, 1) := by decide +kernel
theorem dX8_isAlone_1 : decode cX8_isAlone 1 = .ok (.aload_n 0, 1) := by decide +kernel
theorem dX8_isAlone_2 : decode cX8_isAlone 2 = .ok (.getfield 13, 3) := by decide +kernel
theorem dX8_isAlone_5 : decode cX8_isAlone 5 = .ok (.iload_n 1, 1) := by decide +kernel
theorem dX8_isAlone_6 : decode cX8_isAlone 6 = .ok (.iaload, 1) := by decide +kernel
theorem dX8_isAlone_7 : decode cX8_isAlone 7 = .ok (.iload_n 1, 1) := by decide +kernel
theorem dX8_isAlone_8 : decode cX8_isAlone 8 = .ok (.invokevirtual 100, 3) := by decide +kernel
theorem dX8_isAlone_11 : decode cX8_isAlone 11 = .ok (.aload_n 0, 1) := by decide +kernel
theorem dX8_isAlone_12 : decode cX8_isAlone 12 = .ok (.getfield 16, 3) := by decide +kernel
theorem dX8_isAlone_15 : decode cX8_isAlone 15 = .ok (.iload_n 1, 1) := by decide +kernel
theorem dX8_isAlone_16 : decode cX8_isAlone 16 = .ok (.iaload, 1) := by decide +kernel
theorem dX8_isAlone_17 : decode cX8_isAlone 17 = .ok (.aload_n 0, 1) := by decide +kernel
theorem dX8_isAlone_18 : decode cX8_isAlone 18 = .ok (.getfield 19, 3) := by decide +kernel
theorem dX8_isAlone_21 : decode cX8_isAlone 21 = .ok (.iload_n 1, 1) := by decide +kernel
theorem dX8_isAlone_22 : decode cX8_isAlone 22 = .ok (.iaload, 1) := by decide +kernel
theorem dX8_isAlone_23 : decode cX8_isAlone 23 = .ok (.invokestatic 103, 3) := by decide +kernel
theorem dX8_isAlone_26 : decode cX8_isAlone 26 = .ok (.land, 1) := by decide +kernel
theorem dX8_isAlone_27 : decode cX8_isAlone 27 = .ok (.lconst 0, 1) := by decide +kernel
theorem dX8_isAlone_28 : decode cX8_isAlone 28 = .ok (.lcmp, 1) := by decide +kernel
theorem dX8_isAlone_29 : decode cX8_isAlone 29 = .ok (.ifCond .ne 7, 3) := by decide +kernel
theorem dX8_isAlone_32 : decode cX8_isAlone 32 = .ok (.iconst 1, 1) := by decide +kernel
theorem dX8_isAlone_33 : decode cX8_isAlone 33 = .ok (.goto 4, 3) := by decide +kernel
theorem dX8_isAlone_36 : decode cX8_isAlone 36 = .ok (.iconst 0, 1) := by decide +kernel
theorem dX8_isAlone_37 : decode cX8_isAlone 37 = .ok (.ireturn, 1) := by decide +kernel
theorem dX8_hasPower_0 : decode cX8_hasPower 0 = .ok (.aload_n 0, 1) := by decide +kernel
theorem dX8_hasPower_1 : decode cX8_hasPower 1 = .ok (.aload_n 0, 1) := by decide +kernel
theorem dX8_hasPower_2 : decode cX8_hasPower 2 = .ok (.getfield 13, 3) := by decide +kernel
theorem dX8_hasPower_5 : decode cX8_hasPower 5 = .ok (.iload_n 1, 1) := by decide +kernel
theorem dX8_hasPower_6 : decode cX8_hasPower 6 = .ok (.iaload, 1) := by decide +kernel
theorem dX8_hasPower_7 : decode cX8_hasPower 7 = .ok (.iconst 3, 1) := by decide +kernel
theorem dX8_hasPower_8 : decode cX8_hasPower 8 = .ok (.invokevirtual 63, 3) := by decide +kernel
theorem dX8_hasPower_11 : decode cX8_hasPower 11 = .ok (.istore_n 2, 1) := by decide +kernel
theorem dX8_hasPower_12 : decode cX8_hasPower 12 = .ok (.aload_n 0, 1) := by decide +kernel
theorem dX8_hasPower_13 : decode cX8_hasPower 13 = .ok (.getfield 16, 3) := by decide +kernel
theorem dX8_hasPower_16 : decode cX8_hasPower 16 = .ok (.iload_n 1, 1) := by decide +kernel
theorem dX8_hasPower_17 : decode cX8_hasPower 17 = .ok (.iaload, 1) := by decide +kernel
theorem dX8_hasPower_18 : decode cX8_hasPower 18 = .ok (.istore_n 3, 1) := by decide +kernel
theorem dX8_hasPower_19 : decode cX8_hasPower 19 = .ok (.iload_n 2, 1) := by decide +kernel
theorem dX8_hasPower_20 : decode cX8_hasPower 20 = .ok (.ifCond .lt 45, 3) := by decide +kernel
theorem dX8_hasPower_23 : decode cX8_hasPower 23 = .ok (.iload_n 3, 1) := by decide +kernel
theorem dX8_hasPower_24 : decode cX8_hasPower 24 = .ok (.aload_n 0, 1) := by decide +kernel
theorem dX8_hasPower_25 : decode cX8_hasPower 25 = .ok (.getfield 16, 3) := by decide +kernel
theorem dX8_hasPower_28 : decode cX8_hasPower 28 = .ok (.iload_n 1, 1) := by decide +kernel
theorem dX8_hasPower_29 : decode cX8_hasPower 29 = .ok (.iaload, 1) := by decide +kernel
theorem dX8_hasPower_30 : decode cX8_hasPower 30 = .ok (.aload_n 0, 1) := by decide +kernel
theorem dX8_hasPower_31 : decode cX8_hasPower 31 = .ok (.getfield 19, 3) := by decide +kernel
theorem dX8_hasPower_34 : decode cX8_hasPower 34 = .ok (.iload_n 1, 1) := by decide +kernel
theorem dX8_hasPower_35 : decode cX8_hasPower 35 = .ok (.iaload, 1) := by decide +kernel
theorem dX8_hasPower_36 : decode cX8_hasPower 36 = .ok (.iadd, 1) := by decide +kernel
theorem dX8_hasPower_37 : decode cX8_hasPower 37 = .ok (.if_icmp .ge 28, 3) := by decide +kernel
theorem dX8_hasPower_40 : decode cX8_hasPower 40 = .ok (.aload_n 0, 1) := by decide +kernel
theorem dX8_hasPower_41 : decode cX8_hasPower 41 = .ok (.iload_n 2, 1) := by decide +kernel
theorem dX8_hasPower_42 : decode cX8_hasPower 42 = .ok (.iload_n 3, 1) := by decide +kernel
theorem dX8_hasPower_43 : decode cX8_hasPower 43 = .ok (.invokevirtual 116, 3) := by decide +kernel
theorem dX8_hasPower_46 : decode cX8_hasPower 46 = .ok (.aload_n 0, 1) := by decide +kernel
theorem dX8_hasPower_47 : decode cX8_hasPower 47 = .ok (.getfield 9, 3) := by decide +kernel
theorem dX8_hasPower_50 : decode cX8_hasPower 50 = .ok (.iconst 5, 1) := by decide +kernel
theorem dX8_hasPower_51 : decode cX8_hasPower 51 = .ok (.iload_n 2, 1) := by decide +kernel
theorem dX8_hasPower_52 : decode cX8_hasPower 52 = .ok (.iadd, 1) := by decide +kernel
theorem dX8_hasPower_53 : decode cX8_hasPower 53 = .ok (.iaload, 1) := by decide +kernel
theorem dX8_hasPower_54 : decode cX8_hasPower 54 = .ok (.if_icmp .le 5, 3) := by decide +kernel
theorem dX8_hasPower_57 : decode cX8_hasPower 57 = .ok (.iconst 0, 1) := by decide +kernel
theorem dX8_hasPower_58 : decode cX8_hasPower 58 = .ok (.ireturn, 1) := by decide +kernel
theorem dX8_hasPower_59 : decode cX8_hasPower 59 = .ok (.iinc 3 1, 3) := by decide +kernel
theorem dX8_hasPower_62 : decode cX8_hasPower 62 = .ok (.goto (-43), 3) := by decide +kernel
theorem dX8_hasPower_65 : decode cX8_hasPower 65 = .ok (.iconst 1, 1) := by decide +kernel
theorem dX8_hasPower_66 : decode cX8_hasPower 66 = .ok (.ireturn, 1) := by decide +kernel
theorem dX8_staysLong_0 : decode cX8_staysLong 0 = .ok (.aload_n 0, 1) := by decide +kernel
theorem dX8_staysLong_1 : decode cX8_staysLong 1 = .ok (.aload_n 0, 1) := by decide +kernel
theorem dX8_staysLong_2 : decode cX8_staysLong 2 = .ok (.getfield 16, 3) := by decide +kernel
theorem dX8_staysLong_5 : decode cX8_staysLong 5 = .ok (.bipush 12, 2) := by decide +kernel
theorem dX8_staysLong_7 : decode cX8_staysLong 7 = .ok (.iaload, 1) := by decide +kernel
theorem dX8_staysLong_8 : decode cX8_staysLong 8 = .ok (.aload_n 0, 1) := by decide +kernel
theorem dX8_staysLong_9 : decode cX8_staysLong 9 = .ok (.getfield 19, 3) := by decide +kernel
theorem dX8_staysLong_12 : decode cX8_staysLong 12 = .ok (.bipush 12, 2) := by decide +kernel
theorem dX8_staysLong_14 : decode cX8_staysLong 14 = .ok (.iaload, 1) := by decide +kernel
theorem dX8_staysLong_15 : decode cX8_staysLong 15 = .ok (.invokevirtual 91, 3) := by decide +kernel
theorem dX8_staysLong_18 : decode cX8_staysLong 18 = .ok (.aload_n 0, 1) := by decide +kernel
theorem dX8_staysLong_19 : decode cX8_staysLong 19 = .ok (.getfield 19, 3) := by decide +kernel
theorem dX8_staysLong_22 : decode cX8_staysLong 22 = .ok (.bipush 12, 2) := by decide +kernel
theorem dX8_staysLong_24 : decode cX8_staysLong 24 = .ok (.iaload, 1) := by decide +kernel
theorem dX8_staysLong_25 : decode cX8_staysLong 25 = .ok (.if_icmp .gt 5, 3) := by decide +kernel
theorem dX8_staysLong_28 : decode cX8_staysLong 28 = .ok (.iconst 1, 1) := by decide +kernel
theorem dX8_staysLong_29 : decode cX8_staysLong 29 = .ok (.ireturn, 1) := by decide +kernel
theorem dX8_staysLong_30 : decode cX8_staysLong 30 = .ok (.aload_n 0, 1) := by decide +kernel
theorem dX8_staysLong_31 : decode cX8_staysLong 31 = .ok (.aload_n 0, 1) := by decide +kernel
theorem dX8_staysLong_32 : decode cX8_staysLong 32 = .ok (.getfield 13, 3) := by decide +kernel
theorem dX8_staysLong_35 : decode cX8_staysLong 35 = .ok (.bipush 12, 2) := by decide +kernel
theorem dX8_staysLong_37 : decode cX8_staysLong 37 = .ok (.iaload, 1) := by decide +kernel
theorem dX8_staysLong_38 : decode cX8_staysLong 38 = .ok (.bipush 12, 2) := by decide +kernel
theorem dX8_staysLong_40 : decode cX8_staysLong 40 = .ok (.invokevirtual 100, 3) := by decide +kernel
theorem dX8_staysLong_43 : decode cX8_staysLong 43 = .ok (.lstore_n 1, 1) := by decide +kernel
theorem dX8_staysLong_44 : decode cX8_staysLong 44 = .ok (.aload_n 0, 1) := by decide +kernel
theorem dX8_staysLong_45 : decode cX8_staysLong 45 = .ok (.getfield 16, 3) := by decide +kernel
theorem dX8_staysLong_48 : decode cX8_staysLong 48 = .ok (.bipush 12, 2) := by decide +kernel
theorem dX8_staysLong_50 : decode cX8_staysLong 50 = .ok (.iaload, 1) := by decide +kernel
theorem dX8_staysLong_51 : decode cX8_staysLong 51 = .ok (.iconst 1, 1) := by decide +kernel
theorem dX8_staysLong_52 : decode cX8_staysLong 52 = .ok (.isub, 1) := by decide +kernel
theorem dX8_staysLong_53 : decode cX8_staysLong 53 = .ok (.istore_n 3, 1) := by decide +kernel
theorem dX8_staysLong_54 : decode cX8_staysLong 54 = .ok (.aload_n 0, 1) := by decide +kernel
theorem dX8_staysLong_55 : decode cX8_staysLong 55 = .ok (.getfield 16, 3) := by decide +kernel
theorem dX8_staysLong_58 : decode cX8_staysLong 58 = .ok (.bipush 12, 2) := by decide +kernel
theorem dX8_staysLong_60 : decode cX8_staysLong 60 = .ok (.iaload, 1) := by decide +kernel
theorem dX8_staysLong_61 : decode cX8_staysLong 61 = .ok (.aload_n 0, 1) := by decide +kernel
theorem dX8_staysLong_62 : decode cX8_staysLong 62 = .ok (.getfield 19, 3) := by decide +kernel
theorem dX8_staysLong_65 : decode cX8_staysLong 65 = .ok (.bipush 12, 2) := by decide +kernel
theorem dX8_staysLong_67 : decode cX8_staysLong 67 = .ok (.iaload, 1) := by decide +kernel
theorem dX8_staysLong_68 : decode cX8_staysLong 68 = .ok (.iadd, 1) := by decide +kernel
theorem dX8_staysLong_69 : decode cX8_staysLong 69 = .ok (.istore 4, 2) := by decide +kernel
theorem dX8_staysLong_71 : decode cX8_staysLong 71 = .ok (.iload_n 3, 1) := by decide +kernel
theorem dX8_staysLong_72 : decode cX8_staysLong 72 = .ok (.invokestatic 88, 3) := by decide +kernel
theorem dX8_staysLong_75 : decode cX8_staysLong 75 = .ok (.ifCond .eq 36, 3) := by decide +kernel
theorem dX8_staysLong_78 : decode cX8_staysLong 78 = .ok (.iload 4, 2) := by decide +kernel
theorem dX8_staysLong_80 : decode cX8_staysLong 80 = .ok (.invokestatic 88, 3) := by decide +kernel
theorem dX8_staysLong_83 : decode cX8_staysLong 83 = .ok (.ifCond .eq 28, 3) := by decide +kernel
theorem dX8_staysLong_86 : decode cX8_staysLong 86 = .ok (.lload_n 1, 1) := by decide +kernel
theorem dX8_staysLong_87 : decode cX8_staysLong 87 = .ok (.iload_n 3, 1) := by decide +kernel
theorem dX8_staysLong_88 : decode cX8_staysLong 88 = .ok (.lshr, 1) := by decide +kernel
theorem dX8_staysLong_89 : decode cX8_staysLong 89 = .ok (.lconst 1, 1) := by decide +kernel
theorem dX8_staysLong_90 : decode cX8_staysLong 90 = .ok (.land, 1) := by decide +kernel
theorem dX8_staysLong_91 : decode cX8_staysLong 91 = .ok (.lconst 1, 1) := by decide +kernel
theorem dX8_staysLong_92 : decode cX8_staysLong 92 = .ok (.lcmp, 1) := by decide +kernel
theorem dX8_staysLong_93 : decode cX8_staysLong 93 = .ok (.ifCond .ne 18, 3) := by decide +kernel
theorem dX8_staysLong_96 : decode cX8_staysLong 96 = .ok (.lload_n 1, 1) := by decide +kernel
theorem dX8_staysLong_97 : decode cX8_staysLong 97 = .ok (.iload 4, 2) := by decide +kernel
theorem dX8_staysLong_99 : decode cX8_staysLong 99 = .ok (.lshr, 1) := by decide +kernel
theorem dX8_staysLong_100 : decode cX8_staysLong 100 = .ok (.lconst 1, 1) := by decide +kernel
theorem dX8_staysLong_101 : decode cX8_staysLong 101 = .ok (.land, 1) := by decide +kernel
theorem dX8_staysLong_102 : decode cX8_staysLong 102 = .ok (.lconst 1, 1) := by decide +kernel
theorem dX8_staysLong_103 : decode cX8_staysLong 103 = .ok (.lcmp, 1) := by decide +kernel
theorem dX8_staysLong_104 : decode cX8_staysLong 104 = .ok (.ifCond .ne 7, 3) := by decide +kernel
theorem dX8_staysLong_107 : decode cX8_staysLong 107 = .ok (.iconst 1, 1) := by decide +kernel
theorem dX8_staysLong_108 : decode cX8_staysLong 108 = .ok (.goto 4, 3) := by decide +kernel
theorem dX8_staysLong_111 : decode cX8_staysLong 111 = .ok (.iconst 0, 1) := by decide +kernel
theorem dX8_staysLong_112 : decode cX8_staysLong 112 = .ok (.ireturn, 1) := by decide +kernel
theorem dX8_obstacleOf_0 : decode cX8_obstacleOf 0 = .ok (.aload_n 0, 1) := by decide +kernel
theorem dX8_obstacleOf_1 : decode cX8_obstacleOf 1 = .ok (.iload_n 1, 1) := by decide +kernel
theorem dX8_obstacleOf_2 : decode cX8_obstacleOf 2 = .ok (.iload_n 2, 1) := by decide +kernel
theorem dX8_obstacleOf_3 : decode cX8_obstacleOf 3 = .ok (.iload_n 3, 1) := by decide +kernel
theorem dX8_obstacleOf_4 : decode cX8_obstacleOf 4 = .ok (.aload_n 0, 1) := by decide +kernel
theorem dX8_obstacleOf_5 : decode cX8_obstacleOf 5 = .ok (.getfield 22, 3) := by decide +kernel
theorem dX8_obstacleOf_8 : decode cX8_obstacleOf 8 = .ok (.bipush 12, 2) := by decide +kernel
theorem dX8_obstacleOf_10 : decode cX8_obstacleOf 10 = .ok (.iaload, 1) := by decide +kernel
theorem dX8_obstacleOf_11 : decode cX8_obstacleOf 11 = .ok (.iload 4, 2) := by decide +kernel
theorem dX8_obstacleOf_13 : decode cX8_obstacleOf 13 = .ok (.invokevirtual 119, 3) := by decide +kernel
theorem dX8_obstacleOf_16 : decode cX8_obstacleOf 16 = .ok (.ifCond .ne 5, 3) := by decide +kernel
theorem dX8_obstacleOf_19 : decode cX8_obstacleOf 19 = .ok (.iconst 1, 1) := by decide +kernel
theorem dX8_obstacleOf_20 : decode cX8_obstacleOf 20 = .ok (.ireturn, 1) := by decide +kernel
theorem dX8_obstacleOf_21 : decode cX8_obstacleOf 21 = .ok (.aload_n 0, 1) := by decide +kernel
theorem dX8_obstacleOf_22 : decode cX8_obstacleOf 22 = .ok (.invokevirtual 123, 3) := by decide +kernel
theorem dX8_obstacleOf_25 : decode cX8_obstacleOf 25 = .ok (.istore 5, 2) := by decide +kernel
theorem dX8_obstacleOf_27 : decode cX8_obstacleOf 27 = .ok (.aload_n 0, 1) := by decide +kernel
theorem dX8_obstacleOf_28 : decode cX8_obstacleOf 28 = .ok (.getfield 13, 3) := by decide +kernel
theorem dX8_obstacleOf_31 : decode cX8_obstacleOf 31 = .ok (.bipush 12, 2) := by decide +kernel
theorem dX8_obstacleOf_33 : decode cX8_obstacleOf 33 = .ok (.iload 4, 2) := by decide +kernel
theorem dX8_obstacleOf_35 : decode cX8_obstacleOf 35 = .ok (.iastore, 1) := by decide +kernel
theorem dX8_obstacleOf_36 : decode cX8_obstacleOf 36 = .ok (.aload_n 0, 1) := by decide +kernel
theorem dX8_obstacleOf_37 : decode cX8_obstacleOf 37 = .ok (.bipush 12, 2) := by decide +kernel
theorem dX8_obstacleOf_39 : decode cX8_obstacleOf 39 = .ok (.invokevirtual 127, 3) := by decide +kernel
theorem dX8_obstacleOf_42 : decode cX8_obstacleOf 42 = .ok (.ifCond .ne 7, 3) := by decide +kernel
theorem dX8_obstacleOf_45 : decode cX8_obstacleOf 45 = .ok (.iconst 2, 1) := by decide +kernel
theorem dX8_obstacleOf_46 : decode cX8_obstacleOf 46 = .ok (.goto 41, 3) := by decide +kernel
theorem dX8_obstacleOf_49 : decode cX8_obstacleOf 49 = .ok (.aload_n 0, 1) := by decide +kernel
theorem dX8_obstacleOf_50 : decode cX8_obstacleOf 50 = .ok (.bipush 12, 2) := by decide +kernel
theorem dX8_obstacleOf_52 : decode cX8_obstacleOf 52 = .ok (.invokevirtual 130, 3) := by decide +kernel
theorem dX8_obstacleOf_55 : decode cX8_obstacleOf 55 = .ok (.ifCond .ne 7, 3) := by decide +kernel
theorem dX8_obstacleOf_58 : decode cX8_obstacleOf 58 = .ok (.iconst 3, 1) := by decide +kernel
theorem dX8_obstacleOf_59 : decode cX8_obstacleOf 59 = .ok (.goto 28, 3) := by decide +kernel
theorem dX8_obstacleOf_62 : decode cX8_obstacleOf 62 = .ok (.aload_n 0, 1) := by decide +kernel
theorem dX8_obstacleOf_63 : decode cX8_obstacleOf 63 = .ok (.invokevirtual 133, 3) := by decide +kernel
theorem dX8_obstacleOf_66 : decode cX8_obstacleOf 66 = .ok (.ifCond .ne 7, 3) := by decide +kernel
theorem dX8_obstacleOf_69 : decode cX8_obstacleOf 69 = .ok (.iconst 4, 1) := by decide +kernel
theorem dX8_obstacleOf_70 : decode cX8_obstacleOf 70 = .ok (.goto 17, 3) := by decide +kernel
theorem dX8_obstacleOf_73 : decode cX8_obstacleOf 73 = .ok (.aload_n 0, 1) := by decide +kernel
theorem dX8_obstacleOf_74 : decode cX8_obstacleOf 74 = .ok (.invokevirtual 123, 3) := by decide +kernel
theorem dX8_obstacleOf_77 : decode cX8_obstacleOf 77 = .ok (.iload 5, 2) := by decide +kernel
theorem dX8_obstacleOf_79 : decode cX8_obstacleOf 79 = .ok (.if_icmp .le 7, 3) := by decide +kernel
theorem dX8_obstacleOf_82 : decode cX8_obstacleOf 82 = .ok (.iconst 5, 1) := by decide +kernel
theorem dX8_obstacleOf_83 : decode cX8_obstacleOf 83 = .ok (.goto 4, 3) := by decide +kernel
theorem dX8_obstacleOf_86 : decode cX8_obstacleOf 86 = .ok (.iconst 0, 1) := by decide +kernel
theorem dX8_obstacleOf_87 : decode cX8_obstacleOf 87 = .ok (.istore 6, 2) := by decide +kernel
theorem dX8_obstacleOf_89 : decode cX8_obstacleOf 89 = .ok (.aload_n 0, 1) := by decide +kernel
theorem dX8_obstacleOf_90 : decode cX8_obstacleOf 90 = .ok (.getfield 13, 3) := by decide +kernel
theorem dX8_obstacleOf_93 : decode cX8_obstacleOf 93 = .ok (.bipush 12, 2) := by decide +kernel
theorem dX8_obstacleOf_95 : decode cX8_obstacleOf 95 = .ok (.iconst (-1), 1) := by decide +kernel
theorem dX8_obstacleOf_96 : decode cX8_obstacleOf 96 = .ok (.iastore, 1) := by decide +kernel
theorem dX8_obstacleOf_97 : decode cX8_obstacleOf 97 = .ok (.iload 6, 2) := by decide +kernel
theorem dX8_obstacleOf_99 : decode cX8_obstacleOf 99 = .ok (.ireturn, 1) := by decide +kernel
theorem dX8_isRight_0 : decode cX8_isRight 0 = .ok (.aload_n 0, 1) := by decide +kernel
theorem dX8_isRight_1 : decode cX8_isRight 1 = .ok (.bipush 12, 2) := by decide +kernel
theorem dX8_isRight_3 : decode cX8_isRight 3 = .ok (.invokevirtual 127, 3) := by decide +kernel
theorem dX8_isRight_6 : decode cX8_isRight 6 = .ok (.ifCond .ne 5, 3) := by decide +kernel
theorem dX8_isRight_9 : decode cX8_isRight 9 = .ok (.iconst 0, 1) := by decide +kernel
theorem dX8_isRight_10 : decode cX8_isRight 10 = .ok (.ireturn, 1) := by decide +kernel
theorem dX8_isRight_11 : decode cX8_isRight 11 = .ok (.iconst 0, 1) := by decide +kernel
theorem dX8_isRight_12 : decode cX8_isRight 12 = .ok (.istore_n 1, 1) := by decide +kernel
theorem dX8_isRight_13 : decode cX8_isRight 13 = .ok (.iload_n 1, 1) := by decide +kernel
theorem dX8_isRight_14 : decode cX8_isRight 14 = .ok (.aload_n 0, 1) := by decide +kernel
theorem dX8_isRight_15 : decode cX8_isRight 15 = .ok (.getfield 137, 3) := by decide +kernel
theorem dX8_isRight_18 : decode cX8_isRight 18 = .ok (.if_icmp .ge 24, 3) := by decide +kernel
theorem dX8_isRight_21 : decode cX8_isRight 21 = .ok (.aload_n 0, 1) := by decide +kernel
theorem dX8_isRight_22 : decode cX8_isRight 22 = .ok (.aload_n 0, 1) := by decide +kernel
theorem dX8_isRight_23 : decode cX8_isRight 23 = .ok (.getfield 25, 3) := by decide +kernel
theorem dX8_isRight_26 : decode cX8_isRight 26 = .ok (.iload_n 1, 1) := by decide +kernel
theorem dX8_isRight_27 : decode cX8_isRight 27 = .ok (.iaload, 1) := by decide +kernel
theorem dX8_isRight_28 : decode cX8_isRight 28 = .ok (.invokevirtual 127, 3) := by decide +kernel
theorem dX8_isRight_31 : decode cX8_isRight 31 = .ok (.ifCond .ne 5, 3) := by decide +kernel
theorem dX8_isRight_34 : decode cX8_isRight 34 = .ok (.iconst 0, 1) := by decide +kernel
theorem dX8_isRight_35 : decode cX8_isRight 35 = .ok (.ireturn, 1) := by decide +kernel
theorem dX8_isRight_36 : decode cX8_isRight 36 = .ok (.iinc 1 1, 3) := by decide +kernel
theorem dX8_isRight_39 : decode cX8_isRight 39 = .ok (.goto (-26), 3) := by decide +kernel
theorem dX8_isRight_42 : decode cX8_isRight 42 = .ok (.aload_n 0, 1) := by decide +kernel
theorem dX8_isRight_43 : decode cX8_isRight 43 = .ok (.bipush 12, 2) := by decide +kernel
theorem dX8_isRight_45 : decode cX8_isRight 45 = .ok (.invokevirtual 130, 3) := by decide +kernel
theorem dX8_isRight_48 : decode cX8_isRight 48 = .ok (.ifCond .eq 10, 3) := by decide +kernel
theorem dX8_isRight_51 : decode cX8_isRight 51 = .ok (.aload_n 0, 1) := by decide +kernel
theorem dX8_isRight_52 : decode cX8_isRight 52 = .ok (.invokevirtual 133, 3) := by decide +kernel
theorem dX8_isRight_55 : decode cX8_isRight 55 = .ok (.ifCond .ne 5, 3) := by decide +kernel
theorem dX8_isRight_58 : decode cX8_isRight 58 = .ok (.iconst 0, 1) := by decide +kernel
theorem dX8_isRight_59 : decode cX8_isRight 59 = .ok (.ireturn, 1) := by decide +kernel
theorem dX8_isRight_60 : decode cX8_isRight 60 = .ok (.iconst 0, 1) := by decide +kernel
theorem dX8_isRight_61 : decode cX8_isRight 61 = .ok (.istore_n 1, 1) := by decide +kernel
theorem dX8_isRight_62 : decode cX8_isRight 62 = .ok (.iload_n 1, 1) := by decide +kernel
theorem dX8_isRight_63 : decode cX8_isRight 63 = .ok (.aload_n 0, 1) := by decide +kernel
theorem dX8_isRight_64 : decode cX8_isRight 64 = .ok (.getfield 137, 3) := by decide +kernel
theorem dX8_isRight_67 : decode cX8_isRight 67 = .ok (.if_icmp .ge 24, 3) := by decide +kernel
theorem dX8_isRight_70 : decode cX8_isRight 70 = .ok (.aload_n 0, 1) := by decide +kernel
theorem dX8_isRight_71 : decode cX8_isRight 71 = .ok (.aload_n 0, 1) := by decide +kernel
theorem dX8_isRight_72 : decode cX8_isRight 72 = .ok (.getfield 25, 3) := by decide +kernel
theorem dX8_isRight_75 : decode cX8_isRight 75 = .ok (.iload_n 1, 1) := by decide +kernel
theorem dX8_isRight_76 : decode cX8_isRight 76 = .ok (.iaload, 1) := by decide +kernel
theorem dX8_isRight_77 : decode cX8_isRight 77 = .ok (.invokevirtual 130, 3) := by decide +kernel
theorem dX8_isRight_80 : decode cX8_isRight 80 = .ok (.ifCond .ne 5, 3) := by decide +kernel
theorem dX8_isRight_83 : decode cX8_isRight 83 = .ok (.iconst 0, 1) := by decide +kernel
theorem dX8_isRight_84 : decode cX8_isRight 84 = .ok (.ireturn, 1) := by decide +kernel
theorem dX8_isRight_85 : decode cX8_isRight 85 = .ok (.iinc 1 1, 3) := by decide +kernel
theorem dX8_isRight_88 : decode cX8_isRight 88 = .ok (.goto (-26), 3) := by decide +kernel
theorem dX8_isRight_91 : decode cX8_isRight 91 = .ok (.aload_n 0, 1) := by decide +kernel
theorem dX8_isRight_92 : decode cX8_isRight 92 = .ok (.invokevirtual 123, 3) := by decide +kernel
theorem dX8_isRight_95 : decode cX8_isRight 95 = .ok (.aload_n 0, 1) := by decide +kernel
theorem dX8_isRight_96 : decode cX8_isRight 96 = .ok (.getfield 140, 3) := by decide +kernel
theorem dX8_isRight_99 : decode cX8_isRight 99 = .ok (.if_icmp .gt 7, 3) := by decide +kernel
theorem dX8_isRight_102 : decode cX8_isRight 102 = .ok (.iconst 1, 1) := by decide +kernel
theorem dX8_isRight_103 : decode cX8_isRight 103 = .ok (.goto 4, 3) := by decide +kernel
theorem dX8_isRight_106 : decode cX8_isRight 106 = .ok (.iconst 0, 1) := by decide +kernel
theorem dX8_isRight_107 : decode cX8_isRight 107 = .ok (.ireturn, 1) := by decide +kernel
theorem dX8_canMove_0 : decode cX8_canMove 0 = .ok (.aload_n 0, 1) := by decide +kernel
theorem dX8_canMove_1 : decode cX8_canMove 1 = .ok (.getfield 13, 3) := by decide +kernel
theorem dX8_canMove_4 : decode cX8_canMove 4 = .ok (.iload_n 1, 1) := by decide +kernel
theorem dX8_canMove_5 : decode cX8_canMove 5 = .ok (.iaload, 1) := by decide +kernel
theorem dX8_canMove_6 : decode cX8_canMove 6 = .ok (.ifCond .lt 22, 3) := by decide +kernel
theorem dX8_canMove_9 : decode cX8_canMove 9 = .ok (.aload_n 0, 1) := by decide +kernel
theorem dX8_canMove_10 : decode cX8_canMove 10 = .ok (.iload_n 1, 1) := by decide +kernel
theorem dX8_canMove_11 : decode cX8_canMove 11 = .ok (.iconst 4, 1) := by decide +kernel
theorem dX8_canMove_12 : decode cX8_canMove 12 = .ok (.invokevirtual 97, 3) := by decide +kernel
theorem dX8_canMove_15 : decode cX8_canMove 15 = .ok (.aload_n 0, 1) := by decide +kernel
theorem dX8_canMove_16 : decode cX8_canMove 16 = .ok (.getfield 9, 3) := by decide +kernel
theorem dX8_canMove_19 : decode cX8_canMove 19 = .ok (.iconst 3, 1) := by decide +kernel
theorem dX8_canMove_20 : decode cX8_canMove 20 = .ok (.iaload, 1) := by decide +kernel
theorem dX8_canMove_21 : decode cX8_canMove 21 = .ok (.if_icmp .lt 7, 3) := by decide +kernel
theorem dX8_canMove_24 : decode cX8_canMove 24 = .ok (.iconst 1, 1) := by decide +kernel
theorem dX8_canMove_25 : decode cX8_canMove 25 = .ok (.goto 4, 3) := by decide +kernel
theorem dX8_canMove_28 : decode cX8_canMove 28 = .ok (.iconst 0, 1) := by decide +kernel
theorem dX8_canMove_29 : decode cX8_canMove 29 = .ok (.ireturn, 1) := by decide +kernel
theorem dX8_plans_0 : decode cX8_plans 0 = .ok (.iload_n 2, 1) := by decide +kernel
theorem dX8_plans_1 : decode cX8_plans 1 = .ok (.ifCond .ne 8, 3) := by decide +kernel
theorem dX8_plans_4 : decode cX8_plans 4 = .ok (.aload_n 0, 1) := by decide +kernel
theorem dX8_plans_5 : decode cX8_plans 5 = .ok (.invokevirtual 143, 3) := by decide +kernel
theorem dX8_plans_8 : decode cX8_plans 8 = .ok (.ireturn, 1) := by decide +kernel
theorem dX8_plans_9 : decode cX8_plans 9 = .ok (.iload_n 1, 1) := by decide +kernel
theorem dX8_plans_10 : decode cX8_plans 10 = .ok (.istore_n 3, 1) := by decide +kernel
theorem dX8_plans_11 : decode cX8_plans 11 = .ok (.iload_n 3, 1) := by decide +kernel
theorem dX8_plans_12 : decode cX8_plans 12 = .ok (.aload_n 0, 1) := by decide +kernel
theorem dX8_plans_13 : decode cX8_plans 13 = .ok (.getfield 9, 3) := by decide +kernel
theorem dX8_plans_16 : decode cX8_plans 16 = .ok (.iconst 1, 1) := by decide +kernel
theorem dX8_plans_17 : decode cX8_plans 17 = .ok (.iaload, 1) := by decide +kernel
theorem dX8_plans_18 : decode cX8_plans 18 = .ok (.if_icmp .ge 152, 3) := by decide +kernel
theorem dX8_plans_21 : decode cX8_plans 21 = .ok (.aload_n 0, 1) := by decide +kernel
theorem dX8_plans_22 : decode cX8_plans 22 = .ok (.iload_n 3, 1) := by decide +kernel
theorem dX8_plans_23 : decode cX8_plans 23 = .ok (.invokevirtual 146, 3) := by decide +kernel
theorem dX8_plans_26 : decode cX8_plans 26 = .ok (.ifCond .ne 6, 3) := by decide +kernel
theorem dX8_plans_29 : decode cX8_plans 29 = .ok (.goto 135, 3) := by decide +kernel
theorem dX8_plans_32 : decode cX8_plans 32 = .ok (.aload_n 0, 1) := by decide +kernel
theorem dX8_plans_33 : decode cX8_plans 33 = .ok (.getfield 13, 3) := by decide +kernel
theorem dX8_plans_36 : decode cX8_plans 36 = .ok (.iload_n 3, 1) := by decide +kernel
theorem dX8_plans_37 : decode cX8_plans 37 = .ok (.iaload, 1) := by decide +kernel
theorem dX8_plans_38 : decode cX8_plans 38 = .ok (.istore 4, 2) := by decide +kernel
theorem dX8_plans_40 : decode cX8_plans 40 = .ok (.iconst 0, 1) := by decide +kernel
theorem dX8_plans_41 : decode cX8_plans 41 = .ok (.istore 5, 2) := by decide +kernel
theorem dX8_plans_43 : decode cX8_plans 43 = .ok (.iload 5, 2) := by decide +kernel
theorem dX8_plans_45 : decode cX8_plans 45 = .ok (.aload_n 0, 1) := by decide +kernel
theorem dX8_plans_46 : decode cX8_plans 46 = .ok (.getfield 9, 3) := by decide +kernel
theorem dX8_plans_49 : decode cX8_plans 49 = .ok (.iconst 0, 1) := by decide +kernel
theorem dX8_plans_50 : decode cX8_plans 50 = .ok (.iaload, 1) := by decide +kernel
theorem dX8_plans_51 : decode cX8_plans 51 = .ok (.if_icmp .ge 105, 3) := by decide +kernel
theorem dX8_plans_54 : decode cX8_plans 54 = .ok (.iload 5, 2) := by decide +kernel
theorem dX8_plans_56 : decode cX8_plans 56 = .ok (.iload 4, 2) := by decide +kernel
theorem dX8_plans_58 : decode cX8_plans 58 = .ok (.if_icmp .eq 92, 3) := by decide +kernel
theorem dX8_plans_61 : decode cX8_plans 61 = .ok (.aload_n 0, 1) := by decide +kernel
theorem dX8_plans_62 : decode cX8_plans 62 = .ok (.aload_n 0, 1) := by decide +kernel
theorem dX8_plans_63 : decode cX8_plans 63 = .ok (.iload_n 3, 1) := by decide +kernel
theorem dX8_plans_64 : decode cX8_plans 64 = .ok (.iconst 0, 1) := by decide +kernel
theorem dX8_plans_65 : decode cX8_plans 65 = .ok (.invokevirtual 97, 3) := by decide +kernel
theorem dX8_plans_68 : decode cX8_plans 68 = .ok (.aload_n 0, 1) := by decide +kernel
theorem dX8_plans_69 : decode cX8_plans 69 = .ok (.iload_n 3, 1) := by decide +kernel
theorem dX8_plans_70 : decode cX8_plans 70 = .ok (.iconst 1, 1) := by decide +kernel
theorem dX8_plans_71 : decode cX8_plans 71 = .ok (.invokevirtual 97, 3) := by decide +kernel
theorem dX8_plans_74 : decode cX8_plans 74 = .ok (.aload_n 0, 1) := by decide +kernel
theorem dX8_plans_75 : decode cX8_plans 75 = .ok (.iload_n 3, 1) := by decide +kernel
theorem dX8_plans_76 : decode cX8_plans 76 = .ok (.iconst 2, 1) := by decide +kernel
theorem dX8_plans_77 : decode cX8_plans 77 = .ok (.invokevirtual 97, 3) := by decide +kernel
theorem dX8_plans_80 : decode cX8_plans 80 = .ok (.aload_n 0, 1) := by decide +kernel
theorem dX8_plans_81 : decode cX8_plans 81 = .ok (.iload_n 3, 1) := by decide +kernel
theorem dX8_plans_82 : decode cX8_plans 82 = .ok (.iconst 3, 1) := by decide +kernel
theorem dX8_plans_83 : decode cX8_plans 83 = .ok (.invokevirtual 97, 3) := by decide +kernel
theorem dX8_plans_86 : decode cX8_plans 86 = .ok (.iload 5, 2) := by decide +kernel
theorem dX8_plans_88 : decode cX8_plans 88 = .ok (.invokevirtual 119, 3) := by decide +kernel
theorem dX8_plans_91 : decode cX8_plans 91 = .ok (.ifCond .ne 6, 3) := by decide +kernel
theorem dX8_plans_94 : decode cX8_plans 94 = .ok (.goto 56, 3) := by decide +kernel
theorem dX8_plans_97 : decode cX8_plans 97 = .ok (.aload_n 0, 1) := by decide +kernel
theorem dX8_plans_98 : decode cX8_plans 98 = .ok (.getfield 13, 3) := by decide +kernel
theorem dX8_plans_101 : decode cX8_plans 101 = .ok (.iload_n 3, 1) := by decide +kernel
theorem dX8_plans_102 : decode cX8_plans 102 = .ok (.iload 5, 2) := by decide +kernel
theorem dX8_plans_104 : decode cX8_plans 104 = .ok (.iastore, 1) := by decide +kernel
theorem dX8_plans_105 : decode cX8_plans 105 = .ok (.aload_n 0, 1) := by decide +kernel
theorem dX8_plans_106 : decode cX8_plans 106 = .ok (.getfield 25, 3) := by decide +kernel
theorem dX8_plans_109 : decode cX8_plans 109 = .ok (.aload_n 0, 1) := by decide +kernel
theorem dX8_plans_110 : decode cX8_plans 110 = .ok (.getfield 137, 3) := by decide +kernel
theorem dX8_plans_113 : decode cX8_plans 113 = .ok (.iload_n 3, 1) := by decide +kernel
theorem dX8_plans_114 : decode cX8_plans 114 = .ok (.iastore, 1) := by decide +kernel
theorem dX8_plans_115 : decode cX8_plans 115 = .ok (.aload_n 0, 1) := by decide +kernel
theorem dX8_plans_116 : decode cX8_plans 116 = .ok (.dup, 1) := by decide +kernel
theorem dX8_plans_117 : decode cX8_plans 117 = .ok (.getfield 137, 3) := by decide +kernel
theorem dX8_plans_120 : decode cX8_plans 120 = .ok (.iconst 1, 1) := by decide +kernel
theorem dX8_plans_121 : decode cX8_plans 121 = .ok (.iadd, 1) := by decide +kernel
theorem dX8_plans_122 : decode cX8_plans 122 = .ok (.putfield 137, 3) := by decide +kernel
theorem dX8_plans_125 : decode cX8_plans 125 = .ok (.aload_n 0, 1) := by decide +kernel
theorem dX8_plans_126 : decode cX8_plans 126 = .ok (.iload_n 3, 1) := by decide +kernel
theorem dX8_plans_127 : decode cX8_plans 127 = .ok (.iconst 1, 1) := by decide +kernel
theorem dX8_plans_128 : decode cX8_plans 128 = .ok (.iadd, 1) := by decide +kernel
theorem dX8_plans_129 : decode cX8_plans 129 = .ok (.iload_n 2, 1) := by decide +kernel
theorem dX8_plans_130 : decode cX8_plans 130 = .ok (.iconst 1, 1) := by decide +kernel
theorem dX8_plans_131 : decode cX8_plans 131 = .ok (.isub, 1) := by decide +kernel
theorem dX8_plans_132 : decode cX8_plans 132 = .ok (.invokevirtual 149, 3) := by decide +kernel
theorem dX8_plans_135 : decode cX8_plans 135 = .ok (.ifCond .eq 5, 3) := by decide +kernel
theorem dX8_plans_138 : decode cX8_plans 138 = .ok (.iconst 1, 1) := by decide +kernel
theorem dX8_plans_139 : decode cX8_plans 139 = .ok (.ireturn, 1) := by decide +kernel
theorem dX8_plans_140 : decode cX8_plans 140 = .ok (.aload_n 0, 1) := by decide +kernel
theorem dX8_plans_141 : decode cX8_plans 141 = .ok (.dup, 1) := by decide +kernel
theorem dX8_plans_142 : decode cX8_plans 142 = .ok (.getfield 137, 3) := by decide +kernel
theorem dX8_plans_145 : decode cX8_plans 145 = .ok (.iconst 1, 1) := by decide +kernel
theorem dX8_plans_146 : decode cX8_plans 146 = .ok (.isub, 1) := by decide +kernel
theorem dX8_plans_147 : decode cX8_plans 147 = .ok (.putfield 137, 3) := by decide +kernel
theorem dX8_plans_150 : decode cX8_plans 150 = .ok (.iinc 5 1, 3) := by decide +kernel
theorem dX8_plans_153 : decode cX8_plans 153 = .ok (.goto (-110), 3) := by decide +kernel
theorem dX8_plans_156 : decode cX8_plans 156 = .ok (.aload_n 0, 1) := by decide +kernel
theorem dX8_plans_157 : decode cX8_plans 157 = .ok (.getfield 13, 3) := by decide +kernel
theorem dX8_plans_160 : decode cX8_plans 160 = .ok (.iload_n 3, 1) := by decide +kernel
theorem dX8_plans_161 : decode cX8_plans 161 = .ok (.iload 4, 2) := by decide +kernel
theorem dX8_plans_163 : decode cX8_plans 163 = .ok (.iastore, 1) := by decide +kernel
theorem dX8_plans_164 : decode cX8_plans 164 = .ok (.iinc 3 1, 3) := by decide +kernel
theorem dX8_plans_167 : decode cX8_plans 167 = .ok (.goto (-156), 3) := by decide +kernel
theorem dX8_plans_170 : decode cX8_plans 170 = .ok (.iconst 0, 1) := by decide +kernel
theorem dX8_plans_171 : decode cX8_plans 171 = .ok (.ireturn, 1) := by decide +kernel
theorem dX8_fitting_0 : decode cX8_fitting 0 = .ok (.iconst 0, 1) := by decide +kernel
theorem dX8_fitting_1 : decode cX8_fitting 1 = .ok (.istore 4, 2) := by decide +kernel
theorem dX8_fitting_3 : decode cX8_fitting 3 = .ok (.iconst 0, 1) := by decide +kernel
theorem dX8_fitting_4 : decode cX8_fitting 4 = .ok (.istore 5, 2) := by decide +kernel
theorem dX8_fitting_6 : decode cX8_fitting 6 = .ok (.iload 5, 2) := by decide +kernel
theorem dX8_fitting_8 : decode cX8_fitting 8 = .ok (.aload_n 0, 1) := by decide +kernel
theorem dX8_fitting_9 : decode cX8_fitting 9 = .ok (.getfield 9, 3) := by decide +kernel
theorem dX8_fitting_12 : decode cX8_fitting 12 = .ok (.iconst 0, 1) := by decide +kernel
theorem dX8_fitting_13 : decode cX8_fitting 13 = .ok (.iaload, 1) := by decide +kernel
theorem dX8_fitting_14 : decode cX8_fitting 14 = .ok (.if_icmp .ge 121, 3) := by decide +kernel
theorem dX8_fitting_17 : decode cX8_fitting 17 = .ok (.aload_n 0, 1) := by decide +kernel
theorem dX8_fitting_18 : decode cX8_fitting 18 = .ok (.iload_n 1, 1) := by decide +kernel
theorem dX8_fitting_19 : decode cX8_fitting 19 = .ok (.iload_n 2, 1) := by decide +kernel
theorem dX8_fitting_20 : decode cX8_fitting 20 = .ok (.iload_n 3, 1) := by decide +kernel
theorem dX8_fitting_21 : decode cX8_fitting 21 = .ok (.aload_n 0, 1) := by decide +kernel
theorem dX8_fitting_22 : decode cX8_fitting 22 = .ok (.getfield 22, 3) := by decide +kernel
theorem dX8_fitting_25 : decode cX8_fitting 25 = .ok (.bipush 12, 2) := by decide +kernel
theorem dX8_fitting_27 : decode cX8_fitting 27 = .ok (.iaload, 1) := by decide +kernel
theorem dX8_fitting_28 : decode cX8_fitting 28 = .ok (.iload 5, 2) := by decide +kernel
theorem dX8_fitting_30 : decode cX8_fitting 30 = .ok (.invokevirtual 119, 3) := by decide +kernel
theorem dX8_fitting_33 : decode cX8_fitting 33 = .ok (.ifCond .ne 6, 3) := by decide +kernel
theorem dX8_fitting_36 : decode cX8_fitting 36 = .ok (.goto 93, 3) := by decide +kernel
theorem dX8_fitting_39 : decode cX8_fitting 39 = .ok (.iload 4, 2) := by decide +kernel
theorem dX8_fitting_41 : decode cX8_fitting 41 = .ok (.istore 6, 2) := by decide +kernel
theorem dX8_fitting_43 : decode cX8_fitting 43 = .ok (.iload 6, 2) := by decide +kernel
theorem dX8_fitting_45 : decode cX8_fitting 45 = .ok (.ifCond .le 72, 3) := by decide +kernel
theorem dX8_fitting_48 : decode cX8_fitting 48 = .ok (.aload_n 0, 1) := by decide +kernel
theorem dX8_fitting_49 : decode cX8_fitting 49 = .ok (.aload_n 0, 1) := by decide +kernel
theorem dX8_fitting_50 : decode cX8_fitting 50 = .ok (.getfield 28, 3) := by decide +kernel
theorem dX8_fitting_53 : decode cX8_fitting 53 = .ok (.iload 6, 2) := by decide +kernel
theorem dX8_fitting_55 : decode cX8_fitting 55 = .ok (.iconst 1, 1) := by decide +kernel
theorem dX8_fitting_56 : decode cX8_fitting 56 = .ok (.isub, 1) := by decide +kernel
theorem dX8_fitting_57 : decode cX8_fitting 57 = .ok (.iaload, 1) := by decide +kernel
theorem dX8_fitting_58 : decode cX8_fitting 58 = .ok (.iconst 1, 1) := by decide +kernel
theorem dX8_fitting_59 : decode cX8_fitting 59 = .ok (.invokevirtual 63, 3) := by decide +kernel
theorem dX8_fitting_62 : decode cX8_fitting 62 = .ok (.aload_n 0, 1) := by decide +kernel
theorem dX8_fitting_63 : decode cX8_fitting 63 = .ok (.aload_n 0, 1) := by decide +kernel
theorem dX8_fitting_64 : decode cX8_fitting 64 = .ok (.getfield 28, 3) := by decide +kernel
theorem dX8_fitting_67 : decode cX8_fitting 67 = .ok (.iload 6, 2) := by decide +kernel
theorem dX8_fitting_69 : decode cX8_fitting 69 = .ok (.iconst 1, 1) := by decide +kernel
theorem dX8_fitting_70 : decode cX8_fitting 70 = .ok (.isub, 1) := by decide +kernel
theorem dX8_fitting_71 : decode cX8_fitting 71 = .ok (.iaload, 1) := by decide +kernel
theorem dX8_fitting_72 : decode cX8_fitting 72 = .ok (.iconst 2, 1) := by decide +kernel
theorem dX8_fitting_73 : decode cX8_fitting 73 = .ok (.invokevirtual 63, 3) := by decide +kernel
theorem dX8_fitting_76 : decode cX8_fitting 76 = .ok (.imul, 1) := by decide +kernel
theorem dX8_fitting_77 : decode cX8_fitting 77 = .ok (.aload_n 0, 1) := by decide +kernel
theorem dX8_fitting_78 : decode cX8_fitting 78 = .ok (.iload 5, 2) := by decide +kernel
theorem dX8_fitting_80 : decode cX8_fitting 80 = .ok (.iconst 1, 1) := by decide +kernel
theorem dX8_fitting_81 : decode cX8_fitting 81 = .ok (.invokevirtual 63, 3) := by decide +kernel
theorem dX8_fitting_84 : decode cX8_fitting 84 = .ok (.aload_n 0, 1) := by decide +kernel
theorem dX8_fitting_85 : decode cX8_fitting 85 = .ok (.iload 5, 2) := by decide +kernel
theorem dX8_fitting_87 : decode cX8_fitting 87 = .ok (.iconst 2, 1) := by decide +kernel
theorem dX8_fitting_88 : decode cX8_fitting 88 = .ok (.invokevirtual 63, 3) := by decide +kernel
theorem dX8_fitting_91 : decode cX8_fitting 91 = .ok (.imul, 1) := by decide +kernel
theorem dX8_fitting_92 : decode cX8_fitting 92 = .ok (.if_icmp .le 25, 3) := by decide +kernel
theorem dX8_fitting_95 : decode cX8_fitting 95 = .ok (.aload_n 0, 1) := by decide +kernel
theorem dX8_fitting_96 : decode cX8_fitting 96 = .ok (.getfield 28, 3) := by decide +kernel
theorem dX8_fitting_99 : decode cX8_fitting 99 = .ok (.iload 6, 2) := by decide +kernel
theorem dX8_fitting_101 : decode cX8_fitting 101 = .ok (.aload_n 0, 1) := by decide +kernel
theorem dX8_fitting_102 : decode cX8_fitting 102 = .ok (.getfield 28, 3) := by decide +kernel
theorem dX8_fitting_105 : decode cX8_fitting 105 = .ok (.iload 6, 2) := by decide +kernel
theorem dX8_fitting_107 : decode cX8_fitting 107 = .ok (.iconst 1, 1) := by decide +kernel
theorem dX8_fitting_108 : decode cX8_fitting 108 = .ok (.isub, 1) := by decide +kernel
theorem dX8_fitting_109 : decode cX8_fitting 109 = .ok (.iaload, 1) := by decide +kernel
theorem dX8_fitting_110 : decode cX8_fitting 110 = .ok (.iastore, 1) := by decide +kernel
theorem dX8_fitting_111 : decode cX8_fitting 111 = .ok (.iinc 6 (-1), 3) := by decide +kernel
theorem dX8_fitting_114 : decode cX8_fitting 114 = .ok (.goto (-71), 3) := by decide +kernel
theorem dX8_fitting_117 : decode cX8_fitting 117 = .ok (.aload_n 0, 1) := by decide +kernel
theorem dX8_fitting_118 : decode cX8_fitting 118 = .ok (.getfield 28, 3) := by decide +kernel
theorem dX8_fitting_121 : decode cX8_fitting 121 = .ok (.iload 6, 2) := by decide +kernel
theorem dX8_fitting_123 : decode cX8_fitting 123 = .ok (.iload 5, 2) := by decide +kernel
theorem dX8_fitting_125 : decode cX8_fitting 125 = .ok (.iastore, 1) := by decide +kernel
theorem dX8_fitting_126 : decode cX8_fitting 126 = .ok (.iinc 4 1, 3) := by decide +kernel
theorem dX8_fitting_129 : decode cX8_fitting 129 = .ok (.iinc 5 1, 3) := by decide +kernel
theorem dX8_fitting_132 : decode cX8_fitting 132 = .ok (.goto (-126), 3) := by decide +kernel
theorem dX8_fitting_135 : decode cX8_fitting 135 = .ok (.iload 4, 2) := by decide +kernel
theorem dX8_fitting_137 : decode cX8_fitting 137 = .ok (.ireturn, 1) := by decide +kernel
theorem dX8_finds_0 : decode cX8_finds 0 = .ok (.aload_n 0, 1) := by decide +kernel
theorem dX8_finds_1 : decode cX8_finds 1 = .ok (.aload_n 0, 1) := by decide +kernel
theorem dX8_finds_2 : decode cX8_finds 2 = .ok (.invokevirtual 123, 3) := by decide +kernel
theorem dX8_finds_5 : decode cX8_finds 5 = .ok (.putfield 140, 3) := by decide +kernel
theorem dX8_finds_8 : decode cX8_finds 8 = .ok (.aload_n 0, 1) := by decide +kernel
theorem dX8_finds_9 : decode cX8_finds 9 = .ok (.iload_n 1, 1) := by decide +kernel
theorem dX8_finds_10 : decode cX8_finds 10 = .ok (.iload_n 2, 1) := by decide +kernel
theorem dX8_finds_11 : decode cX8_finds 11 = .ok (.iload_n 3, 1) := by decide +kernel
theorem dX8_finds_12 : decode cX8_finds 12 = .ok (.invokevirtual 153, 3) := by decide +kernel
theorem dX8_finds_15 : decode cX8_finds 15 = .ok (.istore 4, 2) := by decide +kernel
theorem dX8_finds_17 : decode cX8_finds 17 = .ok (.iconst 0, 1) := by decide +kernel
theorem dX8_finds_18 : decode cX8_finds 18 = .ok (.istore 5, 2) := by decide +kernel
theorem dX8_finds_20 : decode cX8_finds 20 = .ok (.iload 5, 2) := by decide +kernel
theorem dX8_finds_22 : decode cX8_finds 22 = .ok (.iconst 3, 1) := by decide +kernel
theorem dX8_finds_23 : decode cX8_finds 23 = .ok (.if_icmp .ge 56, 3) := by decide +kernel
theorem dX8_finds_26 : decode cX8_finds 26 = .ok (.iconst 0, 1) := by decide +kernel
theorem dX8_finds_27 : decode cX8_finds 27 = .ok (.istore 6, 2) := by decide +kernel
theorem dX8_finds_29 : decode cX8_finds 29 = .ok (.iload 6, 2) := by decide +kernel
theorem dX8_finds_31 : decode cX8_finds 31 = .ok (.iload 4, 2) := by decide +kernel
theorem dX8_finds_33 : decode cX8_finds 33 = .ok (.if_icmp .ge 40, 3) := by decide +kernel
theorem dX8_finds_36 : decode cX8_finds 36 = .ok (.aload_n 0, 1) := by decide +kernel
theorem dX8_finds_37 : decode cX8_finds 37 = .ok (.getfield 13, 3) := by decide +kernel
theorem dX8_finds_40 : decode cX8_finds 40 = .ok (.bipush 12, 2) := by decide +kernel
theorem dX8_finds_42 : decode cX8_finds 42 = .ok (.aload_n 0, 1) := by decide +kernel
theorem dX8_finds_43 : decode cX8_finds 43 = .ok (.getfield 28, 3) := by decide +kernel
theorem dX8_finds_46 : decode cX8_finds 46 = .ok (.iload 6, 2) := by decide +kernel
theorem dX8_finds_48 : decode cX8_finds 48 = .ok (.iaload, 1) := by decide +kernel
theorem dX8_finds_49 : decode cX8_finds 49 = .ok (.iastore, 1) := by decide +kernel
theorem dX8_finds_50 : decode cX8_finds 50 = .ok (.aload_n 0, 1) := by decide +kernel
theorem dX8_finds_51 : decode cX8_finds 51 = .ok (.iconst 0, 1) := by decide +kernel
theorem dX8_finds_52 : decode cX8_finds 52 = .ok (.putfield 137, 3) := by decide +kernel
theorem dX8_finds_55 : decode cX8_finds 55 = .ok (.aload_n 0, 1) := by decide +kernel
theorem dX8_finds_56 : decode cX8_finds 56 = .ok (.iconst 0, 1) := by decide +kernel
theorem dX8_finds_57 : decode cX8_finds 57 = .ok (.iload 5, 2) := by decide +kernel
theorem dX8_finds_59 : decode cX8_finds 59 = .ok (.invokevirtual 149, 3) := by decide +kernel
theorem dX8_finds_62 : decode cX8_finds 62 = .ok (.ifCond .eq 5, 3) := by decide +kernel
theorem dX8_finds_65 : decode cX8_finds 65 = .ok (.iconst 1, 1) := by decide +kernel
theorem dX8_finds_66 : decode cX8_finds 66 = .ok (.ireturn, 1) := by decide +kernel
theorem dX8_finds_67 : decode cX8_finds 67 = .ok (.iinc 6 1, 3) := by decide +kernel
theorem dX8_finds_70 : decode cX8_finds 70 = .ok (.goto (-41), 3) := by decide +kernel
theorem dX8_finds_73 : decode cX8_finds 73 = .ok (.iinc 5 1, 3) := by decide +kernel
theorem dX8_finds_76 : decode cX8_finds 76 = .ok (.goto (-56), 3) := by decide +kernel
theorem dX8_finds_79 : decode cX8_finds 79 = .ok (.aload_n 0, 1) := by decide +kernel
theorem dX8_finds_80 : decode cX8_finds 80 = .ok (.getfield 13, 3) := by decide +kernel
theorem dX8_finds_83 : decode cX8_finds 83 = .ok (.bipush 12, 2) := by decide +kernel
theorem dX8_finds_85 : decode cX8_finds 85 = .ok (.iconst (-1), 1) := by decide +kernel
theorem dX8_finds_86 : decode cX8_finds 86 = .ok (.iastore, 1) := by decide +kernel
theorem dX8_finds_87 : decode cX8_finds 87 = .ok (.iconst 0, 1) := by decide +kernel
theorem dX8_finds_88 : decode cX8_finds 88 = .ok (.ireturn, 1) := by decide +kernel
theorem dX8_book_0 : decode cX8_book 0 = .ok (.iload_n 1, 1) := by decide +kernel
theorem dX8_book_1 : decode cX8_book 1 = .ok (.iconst 0, 1) := by decide +kernel
theorem dX8_book_2 : decode cX8_book 2 = .ok (.iconst 2, 1) := by decide +kernel
theorem dX8_book_3 : decode cX8_book 3 = .ok (.invokestatic 52, 3) := by decide +kernel
theorem dX8_book_6 : decode cX8_book 6 = .ok (.ifCond .eq 81, 3) := by decide +kernel
theorem dX8_book_9 : decode cX8_book 9 = .ok (.iload_n 2, 1) := by decide +kernel
theorem dX8_book_10 : decode cX8_book 10 = .ok (.iconst 1, 1) := by decide +kernel
theorem dX8_book_11 : decode cX8_book 11 = .ok (.bipush 12, 2) := by decide +kernel
theorem dX8_book_13 : decode cX8_book 13 = .ok (.invokestatic 52, 3) := by decide +kernel
theorem dX8_book_16 : decode cX8_book 16 = .ok (.ifCond .eq 71, 3) := by decide +kernel
theorem dX8_book_19 : decode cX8_book 19 = .ok (.iload_n 3, 1) := by decide +kernel
theorem dX8_book_20 : decode cX8_book 20 = .ok (.iconst 1, 1) := by decide +kernel
theorem dX8_book_21 : decode cX8_book 21 = .ok (.bipush 12, 2) := by decide +kernel
theorem dX8_book_23 : decode cX8_book 23 = .ok (.invokestatic 52, 3) := by decide +kernel
theorem dX8_book_26 : decode cX8_book 26 = .ok (.ifCond .eq 61, 3) := by decide +kernel
theorem dX8_book_29 : decode cX8_book 29 = .ok (.iload 4, 2) := by decide +kernel
theorem dX8_book_31 : decode cX8_book 31 = .ok (.iconst 0, 1) := by decide +kernel
theorem dX8_book_32 : decode cX8_book 32 = .ok (.bipush 16, 2) := by decide +kernel
theorem dX8_book_34 : decode cX8_book 34 = .ok (.invokestatic 52, 3) := by decide +kernel
theorem dX8_book_37 : decode cX8_book 37 = .ok (.ifCond .eq 50, 3) := by decide +kernel
theorem dX8_book_40 : decode cX8_book 40 = .ok (.iload 5, 2) := by decide +kernel
theorem dX8_book_42 : decode cX8_book 42 = .ok (.invokestatic 88, 3) := by decide +kernel
theorem dX8_book_45 : decode cX8_book 45 = .ok (.ifCond .eq 42, 3) := by decide +kernel
theorem dX8_book_48 : decode cX8_book 48 = .ok (.iload 5, 2) := by decide +kernel
theorem dX8_book_50 : decode cX8_book 50 = .ok (.aload_n 0, 1) := by decide +kernel
theorem dX8_book_51 : decode cX8_book 51 = .ok (.getfield 9, 3) := by decide +kernel
theorem dX8_book_54 : decode cX8_book 54 = .ok (.iconst 3, 1) := by decide +kernel
theorem dX8_book_55 : decode cX8_book 55 = .ok (.iaload, 1) := by decide +kernel
theorem dX8_book_56 : decode cX8_book 56 = .ok (.if_icmp .lt 31, 3) := by decide +kernel
theorem dX8_book_59 : decode cX8_book 59 = .ok (.iload 6, 2) := by decide +kernel
theorem dX8_book_61 : decode cX8_book 61 = .ok (.iconst 1, 1) := by decide +kernel
theorem dX8_book_62 : decode cX8_book 62 = .ok (.bipush 14, 2) := by decide +kernel
theorem dX8_book_64 : decode cX8_book 64 = .ok (.invokestatic 52, 3) := by decide +kernel
theorem dX8_book_67 : decode cX8_book 67 = .ok (.ifCond .eq 20, 3) := by decide +kernel
theorem dX8_book_70 : decode cX8_book 70 = .ok (.iload 5, 2) := by decide +kernel
theorem dX8_book_72 : decode cX8_book 72 = .ok (.iload 6, 2) := by decide +kernel
theorem dX8_book_74 : decode cX8_book 74 = .ok (.iadd, 1) := by decide +kernel
theorem dX8_book_75 : decode cX8_book 75 = .ok (.iconst 1, 1) := by decide +kernel
theorem dX8_book_76 : decode cX8_book 76 = .ok (.isub, 1) := by decide +kernel
theorem dX8_book_77 : decode cX8_book 77 = .ok (.invokestatic 88, 3) := by decide +kernel
theorem dX8_book_80 : decode cX8_book 80 = .ok (.ifCond .eq 7, 3) := by decide +kernel
theorem dX8_book_83 : decode cX8_book 83 = .ok (.iconst 1, 1) := by decide +kernel
theorem dX8_book_84 : decode cX8_book 84 = .ok (.goto 4, 3) := by decide +kernel
theorem dX8_book_87 : decode cX8_book 87 = .ok (.iconst 0, 1) := by decide +kernel
theorem dX8_book_88 : decode cX8_book 88 = .ok (.istore 7, 2) := by decide +kernel
theorem dX8_book_90 : decode cX8_book 90 = .ok (.aload_n 0, 1) := by decide +kernel
theorem dX8_book_91 : decode cX8_book 91 = .ok (.iload 7, 2) := by decide +kernel
theorem dX8_book_93 : decode cX8_book 93 = .ok (.ifCond .ne 7, 3) := by decide +kernel
theorem dX8_book_96 : decode cX8_book 96 = .ok (.iconst 1, 1) := by decide +kernel
theorem dX8_book_97 : decode cX8_book 97 = .ok (.goto 19, 3) := by decide +kernel
theorem dX8_book_100 : decode cX8_book 100 = .ok (.aload_n 0, 1) := by decide +kernel
theorem dX8_book_101 : decode cX8_book 101 = .ok (.getfield 9, 3) := by decide +kernel
theorem dX8_book_104 : decode cX8_book 104 = .ok (.iconst 1, 1) := by decide +kernel
theorem dX8_book_105 : decode cX8_book 105 = .ok (.iaload, 1) := by decide +kernel
theorem dX8_book_106 : decode cX8_book 106 = .ok (.bipush 12, 2) := by decide +kernel
theorem dX8_book_108 : decode cX8_book 108 = .ok (.if_icmp .ne 7, 3) := by decide +kernel
theorem dX8_book_111 : decode cX8_book 111 = .ok (.iconst 2, 1) := by decide +kernel
theorem dX8_book_112 : decode cX8_book 112 = .ok (.goto 4, 3) := by decide +kernel
theorem dX8_book_115 : decode cX8_book 115 = .ok (.iconst 0, 1) := by decide +kernel
theorem dX8_book_116 : decode cX8_book 116 = .ok (.putfield 42, 3) := by decide +kernel
theorem dX8_book_119 : decode cX8_book 119 = .ok (.aload_n 0, 1) := by decide +kernel
theorem dX8_book_120 : decode cX8_book 120 = .ok (.getfield 42, 3) := by decide +kernel
theorem dX8_book_123 : decode cX8_book 123 = .ok (.ifCond .eq 5, 3) := by decide +kernel
theorem dX8_book_126 : decode cX8_book 126 = .ok (.iconst 0, 1) := by decide +kernel
theorem dX8_book_127 : decode cX8_book 127 = .ok (.ireturn, 1) := by decide +kernel
theorem dX8_book_128 : decode cX8_book 128 = .ok (.aload_n 0, 1) := by decide +kernel
theorem dX8_book_129 : decode cX8_book 129 = .ok (.iconst (-1), 1) := by decide +kernel
theorem dX8_book_130 : decode cX8_book 130 = .ok (.invokevirtual 67, 3) := by decide +kernel
theorem dX8_book_133 : decode cX8_book 133 = .ok (.aload_n 0, 1) := by decide +kernel
theorem dX8_book_134 : decode cX8_book 134 = .ok (.iload 4, 2) := by decide +kernel
theorem dX8_book_136 : decode cX8_book 136 = .ok (.iload 5, 2) := by decide +kernel
theorem dX8_book_138 : decode cX8_book 138 = .ok (.iload 6, 2) := by decide +kernel
theorem dX8_book_140 : decode cX8_book 140 = .ok (.invokevirtual 157, 3) := by decide +kernel
theorem dX8_book_143 : decode cX8_book 143 = .ok (.aload_n 0, 1) := by decide +kernel
theorem dX8_book_144 : decode cX8_book 144 = .ok (.iload_n 1, 1) := by decide +kernel
theorem dX8_book_145 : decode cX8_book 145 = .ok (.iload_n 2, 1) := by decide +kernel
theorem dX8_book_146 : decode cX8_book 146 = .ok (.iload_n 3, 1) := by decide +kernel
theorem dX8_book_147 : decode cX8_book 147 = .ok (.invokevirtual 161, 3) := by decide +kernel
theorem dX8_book_150 : decode cX8_book 150 = .ok (.ifCond .ne 83, 3) := by decide +kernel
theorem dX8_book_153 : decode cX8_book 153 = .ok (.aload_n 0, 1) := by decide +kernel
theorem dX8_book_154 : decode cX8_book 154 = .ok (.iconst 3, 1) := by decide +kernel
theorem dX8_book_155 : decode cX8_book 155 = .ok (.putfield 42, 3) := by decide +kernel
theorem dX8_book_158 : decode cX8_book 158 = .ok (.aload_n 0, 1) := by decide +kernel
theorem dX8_book_159 : decode cX8_book 159 = .ok (.iconst (-1), 1) := by decide +kernel
theorem dX8_book_160 : decode cX8_book 160 = .ok (.invokevirtual 67, 3) := by decide +kernel
theorem dX8_book_163 : decode cX8_book 163 = .ok (.aload_n 0, 1) := by decide +kernel
theorem dX8_book_164 : decode cX8_book 164 = .ok (.iload 4, 2) := by decide +kernel
theorem dX8_book_166 : decode cX8_book 166 = .ok (.iload 5, 2) := by decide +kernel
theorem dX8_book_168 : decode cX8_book 168 = .ok (.iload 6, 2) := by decide +kernel
theorem dX8_book_170 : decode cX8_book 170 = .ok (.invokevirtual 157, 3) := by decide +kernel
theorem dX8_book_173 : decode cX8_book 173 = .ok (.aload_n 0, 1) := by decide +kernel
theorem dX8_book_174 : decode cX8_book 174 = .ok (.iconst 1, 1) := by decide +kernel
theorem dX8_book_175 : decode cX8_book 175 = .ok (.putfield 164, 3) := by decide +kernel
theorem dX8_book_178 : decode cX8_book 178 = .ok (.iconst 0, 1) := by decide +kernel
theorem dX8_book_179 : decode cX8_book 179 = .ok (.istore 8, 2) := by decide +kernel
theorem dX8_book_181 : decode cX8_book 181 = .ok (.iload 8, 2) := by decide +kernel
theorem dX8_book_183 : decode cX8_book 183 = .ok (.aload_n 0, 1) := by decide +kernel
theorem dX8_book_184 : decode cX8_book 184 = .ok (.getfield 9, 3) := by decide +kernel
theorem dX8_book_187 : decode cX8_book 187 = .ok (.iconst 0, 1) := by decide +kernel
theorem dX8_book_188 : decode cX8_book 188 = .ok (.iaload, 1) := by decide +kernel
theorem dX8_book_189 : decode cX8_book 189 = .ok (.if_icmp .ge 42, 3) := by decide +kernel
theorem dX8_book_192 : decode cX8_book 192 = .ok (.aload_n 0, 1) := by decide +kernel
theorem dX8_book_193 : decode cX8_book 193 = .ok (.iload_n 1, 1) := by decide +kernel
theorem dX8_book_194 : decode cX8_book 194 = .ok (.iload_n 2, 1) := by decide +kernel
theorem dX8_book_195 : decode cX8_book 195 = .ok (.iload_n 3, 1) := by decide +kernel
theorem dX8_book_196 : decode cX8_book 196 = .ok (.iload 8, 2) := by decide +kernel
theorem dX8_book_198 : decode cX8_book 198 = .ok (.invokevirtual 167, 3) := by decide +kernel
theorem dX8_book_201 : decode cX8_book 201 = .ok (.istore 9, 2) := by decide +kernel
theorem dX8_book_203 : decode cX8_book 203 = .ok (.aload_n 0, 1) := by decide +kernel
theorem dX8_book_204 : decode cX8_book 204 = .ok (.iload 9, 2) := by decide +kernel
theorem dX8_book_206 : decode cX8_book 206 = .ok (.aload_n 0, 1) := by decide +kernel
theorem dX8_book_207 : decode cX8_book 207 = .ok (.getfield 164, 3) := by decide +kernel
theorem dX8_book_210 : decode cX8_book 210 = .ok (.if_icmp .le 8, 3) := by decide +kernel
theorem dX8_book_213 : decode cX8_book 213 = .ok (.iload 9, 2) := by decide +kernel
theorem dX8_book_215 : decode cX8_book 215 = .ok (.goto 7, 3) := by decide +kernel
theorem dX8_book_218 : decode cX8_book 218 = .ok (.aload_n 0, 1) := by decide +kernel
theorem dX8_book_219 : decode cX8_book 219 = .ok (.getfield 164, 3) := by decide +kernel
theorem dX8_book_222 : decode cX8_book 222 = .ok (.putfield 164, 3) := by decide +kernel
theorem dX8_book_225 : decode cX8_book 225 = .ok (.iinc 8 1, 3) := by decide +kernel
theorem dX8_book_228 : decode cX8_book 228 = .ok (.goto (-47), 3) := by decide +kernel
theorem dX8_book_231 : decode cX8_book 231 = .ok (.iconst 0, 1) := by decide +kernel
theorem dX8_book_232 : decode cX8_book 232 = .ok (.ireturn, 1) := by decide +kernel
theorem dX8_book_233 : decode cX8_book 233 = .ok (.aload_n 0, 1) := by decide +kernel
theorem dX8_book_234 : decode cX8_book 234 = .ok (.invokevirtual 56, 3) := by decide +kernel
theorem dX8_book_237 : decode cX8_book 237 = .ok (.aload_n 0, 1) := by decide +kernel
theorem dX8_book_238 : decode cX8_book 238 = .ok (.aload_n 0, 1) := by decide +kernel
theorem dX8_book_239 : decode cX8_book 239 = .ok (.getfield 137, 3) := by decide +kernel
theorem dX8_book_242 : decode cX8_book 242 = .ok (.putfield 171, 3) := by decide +kernel
theorem dX8_book_245 : decode cX8_book 245 = .ok (.iconst 0, 1) := by decide +kernel
theorem dX8_book_246 : decode cX8_book 246 = .ok (.istore 8, 2) := by decide +kernel
theorem dX8_book_248 : decode cX8_book 248 = .ok (.iload 8, 2) := by decide +kernel
theorem dX8_book_250 : decode cX8_book 250 = .ok (.aload_n 0, 1) := by decide +kernel
theorem dX8_book_251 : decode cX8_book 251 = .ok (.getfield 137, 3) := by decide +kernel
theorem dX8_book_254 : decode cX8_book 254 = .ok (.if_icmp .ge 81, 3) := by decide +kernel
theorem dX8_book_257 : decode cX8_book 257 = .ok (.aload_n 0, 1) := by decide +kernel
theorem dX8_book_258 : decode cX8_book 258 = .ok (.getfield 25, 3) := by decide +kernel
theorem dX8_book_261 : decode cX8_book 261 = .ok (.iload 8, 2) := by decide +kernel
theorem dX8_book_263 : decode cX8_book 263 = .ok (.iaload, 1) := by decide +kernel
theorem dX8_book_264 : decode cX8_book 264 = .ok (.istore 9, 2) := by decide +kernel
theorem dX8_book_266 : decode cX8_book 266 = .ok (.aload_n 0, 1) := by decide +kernel
theorem dX8_book_267 : decode cX8_book 267 = .ok (.getfield 31, 3) := by decide +kernel
theorem dX8_book_270 : decode cX8_book 270 = .ok (.iconst 3, 1) := by decide +kernel
theorem dX8_book_271 : decode cX8_book 271 = .ok (.iload 8, 2) := by decide +kernel
theorem dX8_book_273 : decode cX8_book 273 = .ok (.imul, 1) := by decide +kernel
theorem dX8_book_274 : decode cX8_book 274 = .ok (.iload 9, 2) := by decide +kernel
theorem dX8_book_276 : decode cX8_book 276 = .ok (.iastore, 1) := by decide +kernel
theorem dX8_book_277 : decode cX8_book 277 = .ok (.aload_n 0, 1) := by decide +kernel
theorem dX8_book_278 : decode cX8_book 278 = .ok (.getfield 31, 3) := by decide +kernel
theorem dX8_book_281 : decode cX8_book 281 = .ok (.iconst 3, 1) := by decide +kernel
theorem dX8_book_282 : decode cX8_book 282 = .ok (.iload 8, 2) := by decide +kernel
theorem dX8_book_284 : decode cX8_book 284 = .ok (.imul, 1) := by decide +kernel
theorem dX8_book_285 : decode cX8_book 285 = .ok (.iconst 1, 1) := by decide +kernel
theorem dX8_book_286 : decode cX8_book 286 = .ok (.iadd, 1) := by decide +kernel
theorem dX8_book_287 : decode cX8_book 287 = .ok (.aload_n 0, 1) := by decide +kernel
theorem dX8_book_288 : decode cX8_book 288 = .ok (.iload 9, 2) := by decide +kernel
theorem dX8_book_290 : decode cX8_book 290 = .ok (.bipush 6, 2) := by decide +kernel
theorem dX8_book_292 : decode cX8_book 292 = .ok (.invokevirtual 97, 3) := by decide +kernel
theorem dX8_book_295 : decode cX8_book 295 = .ok (.iastore, 1) := by decide +kernel
theorem dX8_book_296 : decode cX8_book 296 = .ok (.aload_n 0, 1) := by decide +kernel
theorem dX8_book_297 : decode cX8_book 297 = .ok (.getfield 31, 3) := by decide +kernel
theorem dX8_book_300 : decode cX8_book 300 = .ok (.iconst 3, 1) := by decide +kernel
theorem dX8_book_301 : decode cX8_book 301 = .ok (.iload 8, 2) := by decide +kernel
theorem dX8_book_303 : decode cX8_book 303 = .ok (.imul, 1) := by decide +kernel
theorem dX8_book_304 : decode cX8_book 304 = .ok (.iconst 2, 1) := by decide +kernel
theorem dX8_book_305 : decode cX8_book 305 = .ok (.iadd, 1) := by decide +kernel
theorem dX8_book_306 : decode cX8_book 306 = .ok (.aload_n 0, 1) := by decide +kernel
theorem dX8_book_307 : decode cX8_book 307 = .ok (.getfield 13, 3) := by decide +kernel
theorem dX8_book_310 : decode cX8_book 310 = .ok (.iload 9, 2) := by decide +kernel
theorem dX8_book_312 : decode cX8_book 312 = .ok (.iaload, 1) := by decide +kernel
theorem dX8_book_313 : decode cX8_book 313 = .ok (.iastore, 1) := by decide +kernel
theorem dX8_book_314 : decode cX8_book 314 = .ok (.aload_n 0, 1) := by decide +kernel
theorem dX8_book_315 : decode cX8_book 315 = .ok (.iload 9, 2) := by decide +kernel
theorem dX8_book_317 : decode cX8_book 317 = .ok (.bipush 6, 2) := by decide +kernel
theorem dX8_book_319 : decode cX8_book 319 = .ok (.aload_n 0, 1) := by decide +kernel
theorem dX8_book_320 : decode cX8_book 320 = .ok (.getfield 13, 3) := by decide +kernel
theorem dX8_book_323 : decode cX8_book 323 = .ok (.iload 9, 2) := by decide +kernel
theorem dX8_book_325 : decode cX8_book 325 = .ok (.iaload, 1) := by decide +kernel
theorem dX8_book_326 : decode cX8_book 326 = .ok (.invokevirtual 174, 3) := by decide +kernel
theorem dX8_book_329 : decode cX8_book 329 = .ok (.iinc 8 1, 3) := by decide +kernel
theorem dX8_book_332 : decode cX8_book 332 = .ok (.goto (-84), 3) := by decide +kernel
theorem dX8_book_335 : decode cX8_book 335 = .ok (.aload_n 0, 1) := by decide +kernel
theorem dX8_book_336 : decode cX8_book 336 = .ok (.getfield 9, 3) := by decide +kernel
theorem dX8_book_339 : decode cX8_book 339 = .ok (.iconst 1, 1) := by decide +kernel
theorem dX8_book_340 : decode cX8_book 340 = .ok (.iaload, 1) := by decide +kernel
theorem dX8_book_341 : decode cX8_book 341 = .ok (.istore 8, 2) := by decide +kernel
theorem dX8_book_343 : decode cX8_book 343 = .ok (.aload_n 0, 1) := by decide +kernel
theorem dX8_book_344 : decode cX8_book 344 = .ok (.getfield 9, 3) := by decide +kernel
theorem dX8_book_347 : decode cX8_book 347 = .ok (.iconst 1, 1) := by decide +kernel
theorem dX8_book_348 : decode cX8_book 348 = .ok (.dup2, 1) := by decide +kernel
theorem dX8_book_349 : decode cX8_book 349 = .ok (.iaload, 1) := by decide +kernel
theorem dX8_book_350 : decode cX8_book 350 = .ok (.iconst 1, 1) := by decide +kernel
theorem dX8_book_351 : decode cX8_book 351 = .ok (.iadd, 1) := by decide +kernel
theorem dX8_book_352 : decode cX8_book 352 = .ok (.iastore, 1) := by decide +kernel
theorem dX8_book_353 : decode cX8_book 353 = .ok (.aload_n 0, 1) := by decide +kernel
theorem dX8_book_354 : decode cX8_book 354 = .ok (.iload 8, 2) := by decide +kernel
theorem dX8_book_356 : decode cX8_book 356 = .ok (.iconst 0, 1) := by decide +kernel
theorem dX8_book_357 : decode cX8_book 357 = .ok (.iload_n 1, 1) := by decide +kernel
theorem dX8_book_358 : decode cX8_book 358 = .ok (.invokevirtual 174, 3) := by decide +kernel
theorem dX8_book_361 : decode cX8_book 361 = .ok (.aload_n 0, 1) := by decide +kernel
theorem dX8_book_362 : decode cX8_book 362 = .ok (.iload 8, 2) := by decide +kernel
theorem dX8_book_364 : decode cX8_book 364 = .ok (.iconst 1, 1) := by decide +kernel
theorem dX8_book_365 : decode cX8_book 365 = .ok (.iload_n 2, 1) := by decide +kernel
theorem dX8_book_366 : decode cX8_book 366 = .ok (.invokevirtual 174, 3) := by decide +kernel
theorem dX8_book_369 : decode cX8_book 369 = .ok (.aload_n 0, 1) := by decide +kernel
theorem dX8_book_370 : decode cX8_book 370 = .ok (.iload 8, 2) := by decide +kernel
theorem dX8_book_372 : decode cX8_book 372 = .ok (.iconst 2, 1) := by decide +kernel
theorem dX8_book_373 : decode cX8_book 373 = .ok (.iload_n 3, 1) := by decide +kernel
theorem dX8_book_374 : decode cX8_book 374 = .ok (.invokevirtual 174, 3) := by decide +kernel
theorem dX8_book_377 : decode cX8_book 377 = .ok (.aload_n 0, 1) := by decide +kernel
theorem dX8_book_378 : decode cX8_book 378 = .ok (.iload 8, 2) := by decide +kernel
theorem dX8_book_380 : decode cX8_book 380 = .ok (.iconst 3, 1) := by decide +kernel
theorem dX8_book_381 : decode cX8_book 381 = .ok (.iload 4, 2) := by decide +kernel
theorem dX8_book_383 : decode cX8_book 383 = .ok (.invokevirtual 174, 3) := by decide +kernel
theorem dX8_book_386 : decode cX8_book 386 = .ok (.aload_n 0, 1) := by decide +kernel
theorem dX8_book_387 : decode cX8_book 387 = .ok (.iload 8, 2) := by decide +kernel
theorem dX8_book_389 : decode cX8_book 389 = .ok (.iconst 4, 1) := by decide +kernel
theorem dX8_book_390 : decode cX8_book 390 = .ok (.iload 5, 2) := by decide +kernel
theorem dX8_book_392 : decode cX8_book 392 = .ok (.invokevirtual 174, 3) := by decide +kernel
theorem dX8_book_395 : decode cX8_book 395 = .ok (.aload_n 0, 1) := by decide +kernel
theorem dX8_book_396 : decode cX8_book 396 = .ok (.iload 8, 2) := by decide +kernel
theorem dX8_book_398 : decode cX8_book 398 = .ok (.iconst 5, 1) := by decide +kernel
theorem dX8_book_399 : decode cX8_book 399 = .ok (.iload 6, 2) := by decide +kernel
theorem dX8_book_401 : decode cX8_book 401 = .ok (.invokevirtual 174, 3) := by decide +kernel
theorem dX8_book_404 : decode cX8_book 404 = .ok (.aload_n 0, 1) := by decide +kernel
theorem dX8_book_405 : decode cX8_book 405 = .ok (.iload 8, 2) := by decide +kernel
theorem dX8_book_407 : decode cX8_book 407 = .ok (.bipush 6, 2) := by decide +kernel
theorem dX8_book_409 : decode cX8_book 409 = .ok (.aload_n 0, 1) := by decide +kernel
theorem dX8_book_410 : decode cX8_book 410 = .ok (.getfield 13, 3) := by decide +kernel
theorem dX8_book_413 : decode cX8_book 413 = .ok (.bipush 12, 2) := by decide +kernel
theorem dX8_book_415 : decode cX8_book 415 = .ok (.iaload, 1) := by decide +kernel
theorem dX8_book_416 : decode cX8_book 416 = .ok (.invokevirtual 174, 3) := by decide +kernel
theorem dX8_book_419 : decode cX8_book 419 = .ok (.aload_n 0, 1) := by decide +kernel
theorem dX8_book_420 : decode cX8_book 420 = .ok (.iload 8, 2) := by decide +kernel
theorem dX8_book_422 : decode cX8_book 422 = .ok (.bipush 7, 2) := by decide +kernel
theorem dX8_book_424 : decode cX8_book 424 = .ok (.aload_n 0, 1) := by decide +kernel
theorem dX8_book_425 : decode cX8_book 425 = .ok (.aload_n 0, 1) := by decide +kernel
theorem dX8_book_426 : decode cX8_book 426 = .ok (.getfield 13, 3) := by decide +kernel
theorem dX8_book_429 : decode cX8_book 429 = .ok (.bipush 12, 2) := by decide +kernel
theorem dX8_book_431 : decode cX8_book 431 = .ok (.iaload, 1) := by decide +kernel
theorem dX8_book_432 : decode cX8_book 432 = .ok (.iconst 4, 1) := by decide +kernel
theorem dX8_book_433 : decode cX8_book 433 = .ok (.invokevirtual 63, 3) := by decide +kernel
theorem dX8_book_436 : decode cX8_book 436 = .ok (.iload 4, 2) := by decide +kernel
theorem dX8_book_438 : decode cX8_book 438 = .ok (.iadd, 1) := by decide +kernel
theorem dX8_book_439 : decode cX8_book 439 = .ok (.iload 6, 2) := by decide +kernel
theorem dX8_book_441 : decode cX8_book 441 = .ok (.imul, 1) := by decide +kernel
theorem dX8_book_442 : decode cX8_book 442 = .ok (.invokevirtual 174, 3) := by decide +kernel
theorem dX8_book_445 : decode cX8_book 445 = .ok (.aload_n 0, 1) := by decide +kernel
theorem dX8_book_446 : decode cX8_book 446 = .ok (.iload 8, 2) := by decide +kernel
theorem dX8_book_448 : decode cX8_book 448 = .ok (.bipush 8, 2) := by decide +kernel
theorem dX8_book_450 : decode cX8_book 450 = .ok (.iconst 1, 1) := by decide +kernel
theorem dX8_book_451 : decode cX8_book 451 = .ok (.invokevirtual 174, 3) := by decide +kernel
theorem dX8_book_454 : decode cX8_book 454 = .ok (.aload_n 0, 1) := by decide +kernel
theorem dX8_book_455 : decode cX8_book 455 = .ok (.iload 8, 2) := by decide +kernel
theorem dX8_book_457 : decode cX8_book 457 = .ok (.bipush 9, 2) := by decide +kernel
theorem dX8_book_459 : decode cX8_book 459 = .ok (.iconst 0, 1) := by decide +kernel
theorem dX8_book_460 : decode cX8_book 460 = .ok (.invokevirtual 174, 3) := by decide +kernel
theorem dX8_book_463 : decode cX8_book 463 = .ok (.iload 8, 2) := by decide +kernel
theorem dX8_book_465 : decode cX8_book 465 = .ok (.ireturn, 1) := by decide +kernel
theorem dX8_append_0 : decode cX8_append 0 = .ok (.aload_n 0, 1) := by decide +kernel
theorem dX8_append_1 : decode cX8_append 1 = .ok (.aload_n 0, 1) := by decide +kernel
theorem dX8_append_2 : decode cX8_append 2 = .ok (.getfield 177, 3) := by decide +kernel
theorem dX8_append_5 : decode cX8_append 5 = .ok (.bipush 30, 2) := by decide +kernel
theorem dX8_append_7 : decode cX8_append 7 = .ok (.if_icmp .ne 7, 3) := by decide +kernel
theorem dX8_append_10 : decode cX8_append 10 = .ok (.iconst 1, 1) := by decide +kernel
theorem dX8_append_11 : decode cX8_append 11 = .ok (.goto 4, 3) := by decide +kernel
theorem dX8_append_14 : decode cX8_append 14 = .ok (.iconst 0, 1) := by decide +kernel
theorem dX8_append_15 : decode cX8_append 15 = .ok (.putfield 42, 3) := by decide +kernel
theorem dX8_append_18 : decode cX8_append 18 = .ok (.aload_n 0, 1) := by decide +kernel
theorem dX8_append_19 : decode cX8_append 19 = .ok (.getfield 42, 3) := by decide +kernel
theorem dX8_append_22 : decode cX8_append 22 = .ok (.ifCond .eq 4, 3) := by decide +kernel
theorem dX8_append_25 : decode cX8_append 25 = .ok (.return_, 1) := by decide +kernel
theorem dX8_append_26 : decode cX8_append 26 = .ok (.aload_n 0, 1) := by decide +kernel
theorem dX8_append_27 : decode cX8_append 27 = .ok (.getfield 34, 3) := by decide +kernel
theorem dX8_append_30 : decode cX8_append 30 = .ok (.aload_n 0, 1) := by decide +kernel
theorem dX8_append_31 : decode cX8_append 31 = .ok (.getfield 177, 3) := by decide +kernel
theorem dX8_append_34 : decode cX8_append 34 = .ok (.iload_n 1, 1) := by decide +kernel
theorem dX8_append_35 : decode cX8_append 35 = .ok (.castore, 1) := by decide +kernel
theorem dX8_append_36 : decode cX8_append 36 = .ok (.aload_n 0, 1) := by decide +kernel
theorem dX8_append_37 : decode cX8_append 37 = .ok (.dup, 1) := by decide +kernel
theorem dX8_append_38 : decode cX8_append 38 = .ok (.getfield 177, 3) := by decide +kernel
theorem dX8_append_41 : decode cX8_append 41 = .ok (.iconst 1, 1) := by decide +kernel
theorem dX8_append_42 : decode cX8_append 42 = .ok (.iadd, 1) := by decide +kernel
theorem dX8_append_43 : decode cX8_append 43 = .ok (.putfield 177, 3) := by decide +kernel
theorem dX8_append_46 : decode cX8_append 46 = .ok (.return_, 1) := by decide +kernel
theorem dX8_here_0 : decode cX8_here 0 = .ok (.aload_n 0, 1) := by decide +kernel
theorem dX8_here_1 : decode cX8_here 1 = .ok (.getfield 180, 3) := by decide +kernel
theorem dX8_here_4 : decode cX8_here 4 = .ok (.aload_n 0, 1) := by decide +kernel
theorem dX8_here_5 : decode cX8_here 5 = .ok (.getfield 177, 3) := by decide +kernel
theorem dX8_here_8 : decode cX8_here 8 = .ok (.if_icmp .ge 15, 3) := by decide +kernel
theorem dX8_here_11 : decode cX8_here 11 = .ok (.aload_n 0, 1) := by decide +kernel
theorem dX8_here_12 : decode cX8_here 12 = .ok (.getfield 34, 3) := by decide +kernel
theorem dX8_here_15 : decode cX8_here 15 = .ok (.aload_n 0, 1) := by decide +kernel
theorem dX8_here_16 : decode cX8_here 16 = .ok (.getfield 180, 3) := by decide +kernel
theorem dX8_here_19 : decode cX8_here 19 = .ok (.caload, 1) := by decide +kernel
theorem dX8_here_20 : decode cX8_here 20 = .ok (.goto 4, 3) := by decide +kernel
theorem dX8_here_23 : decode cX8_here 23 = .ok (.iconst 0, 1) := by decide +kernel
theorem dX8_here_24 : decode cX8_here 24 = .ok (.ireturn, 1) := by decide +kernel
theorem dX8_isDigit_0 : decode cX8_isDigit 0 = .ok (.aload_n 0, 1) := by decide +kernel
theorem dX8_isDigit_1 : decode cX8_isDigit 1 = .ok (.getfield 180, 3) := by decide +kernel
theorem dX8_isDigit_4 : decode cX8_isDigit 4 = .ok (.aload_n 0, 1) := by decide +kernel
theorem dX8_isDigit_5 : decode cX8_isDigit 5 = .ok (.getfield 177, 3) := by decide +kernel
theorem dX8_isDigit_8 : decode cX8_isDigit 8 = .ok (.if_icmp .ge 21, 3) := by decide +kernel
theorem dX8_isDigit_11 : decode cX8_isDigit 11 = .ok (.aload_n 0, 1) := by decide +kernel
theorem dX8_isDigit_12 : decode cX8_isDigit 12 = .ok (.invokevirtual 183, 3) := by decide +kernel
theorem dX8_isDigit_15 : decode cX8_isDigit 15 = .ok (.bipush 48, 2) := by decide +kernel
theorem dX8_isDigit_17 : decode cX8_isDigit 17 = .ok (.bipush 57, 2) := by decide +kernel
theorem dX8_isDigit_19 : decode cX8_isDigit 19 = .ok (.invokestatic 52, 3) := by decide +kernel
theorem dX8_isDigit_22 : decode cX8_isDigit 22 = .ok (.ifCond .eq 7, 3) := by decide +kernel
theorem dX8_isDigit_25 : decode cX8_isDigit 25 = .ok (.iconst 1, 1) := by decide +kernel
theorem dX8_isDigit_26 : decode cX8_isDigit 26 = .ok (.goto 4, 3) := by decide +kernel
theorem dX8_isDigit_29 : decode cX8_isDigit 29 = .ok (.iconst 0, 1) := by decide +kernel
theorem dX8_isDigit_30 : decode cX8_isDigit 30 = .ok (.ireturn, 1) := by decide +kernel
theorem dX8_wants_0 : decode cX8_wants 0 = .ok (.aload_n 0, 1) := by decide +kernel
theorem dX8_wants_1 : decode cX8_wants 1 = .ok (.getfield 187, 3) := by decide +kernel
theorem dX8_wants_4 : decode cX8_wants 4 = .ok (.ifCond .lt 4, 3) := by decide +kernel
theorem dX8_wants_7 : decode cX8_wants 7 = .ok (.return_, 1) := by decide +kernel
theorem dX8_wants_8 : decode cX8_wants 8 = .ok (.aload_n 0, 1) := by decide +kernel
theorem dX8_wants_9 : decode cX8_wants 9 = .ok (.getfield 180, 3) := by decide +kernel
theorem dX8_wants_12 : decode cX8_wants 12 = .ok (.aload_n 0, 1) := by decide +kernel
theorem dX8_wants_13 : decode cX8_wants 13 = .ok (.getfield 177, 3) := by decide +kernel
theorem dX8_wants_16 : decode cX8_wants 16 = .ok (.if_icmp .eq 11, 3) := by decide +kernel
theorem dX8_wants_19 : decode cX8_wants 19 = .ok (.aload_n 0, 1) := by decide +kernel
theorem dX8_wants_20 : decode cX8_wants 20 = .ok (.invokevirtual 183, 3) := by decide +kernel
theorem dX8_wants_23 : decode cX8_wants 23 = .ok (.iload_n 1, 1) := by decide +kernel
theorem dX8_wants_24 : decode cX8_wants 24 = .ok (.if_icmp .eq 12, 3) := by decide +kernel
theorem dX8_wants_27 : decode cX8_wants 27 = .ok (.aload_n 0, 1) := by decide +kernel
theorem dX8_wants_28 : decode cX8_wants 28 = .ok (.aload_n 0, 1) := by decide +kernel
theorem dX8_wants_29 : decode cX8_wants 29 = .ok (.getfield 180, 3) := by decide +kernel
theorem dX8_wants_32 : decode cX8_wants 32 = .ok (.putfield 187, 3) := by decide +kernel
theorem dX8_wants_35 : decode cX8_wants 35 = .ok (.return_, 1) := by decide +kernel
theorem dX8_wants_36 : decode cX8_wants 36 = .ok (.aload_n 0, 1) := by decide +kernel
theorem dX8_wants_37 : decode cX8_wants 37 = .ok (.dup, 1) := by decide +kernel
theorem dX8_wants_38 : decode cX8_wants 38 = .ok (.getfield 180, 3) := by decide +kernel
theorem dX8_wants_41 : decode cX8_wants 41 = .ok (.iconst 1, 1) := by decide +kernel
theorem dX8_wants_42 : decode cX8_wants 42 = .ok (.iadd, 1) := by decide +kernel
theorem dX8_wants_43 : decode cX8_wants 43 = .ok (.putfield 180, 3) := by decide +kernel
theorem dX8_wants_46 : decode cX8_wants 46 = .ok (.return_, 1) := by decide +kernel
theorem dX8_number_0 : decode cX8_number 0 = .ok (.aload_n 0, 1) := by decide +kernel
theorem dX8_number_1 : decode cX8_number 1 = .ok (.getfield 187, 3) := by decide +kernel
theorem dX8_number_4 : decode cX8_number 4 = .ok (.ifCond .ge 18, 3) := by decide +kernel
theorem dX8_number_7 : decode cX8_number 7 = .ok (.aload_n 0, 1) := by decide +kernel
theorem dX8_number_8 : decode cX8_number 8 = .ok (.invokevirtual 190, 3) := by decide +kernel
theorem dX8_number_11 : decode cX8_number 11 = .ok (.ifCond .ne 11, 3) := by decide +kernel
theorem dX8_number_14 : decode cX8_number 14 = .ok (.aload_n 0, 1) := by decide +kernel
theorem dX8_number_15 : decode cX8_number 15 = .ok (.aload_n 0, 1) := by decide +kernel
theorem dX8_number_16 : decode cX8_number 16 = .ok (.getfield 180, 3) := by decide +kernel
theorem dX8_number_19 : decode cX8_number 19 = .ok (.putfield 187, 3) := by decide +kernel
theorem dX8_number_22 : decode cX8_number 22 = .ok (.aload_n 0, 1) := by decide +kernel
theorem dX8_number_23 : decode cX8_number 23 = .ok (.getfield 187, 3) := by decide +kernel
theorem dX8_number_26 : decode cX8_number 26 = .ok (.ifCond .lt 5, 3) := by decide +kernel
theorem dX8_number_29 : decode cX8_number 29 = .ok (.iconst 0, 1) := by decide +kernel
theorem dX8_number_30 : decode cX8_number 30 = .ok (.ireturn, 1) := by decide +kernel
theorem dX8_number_31 : decode cX8_number 31 = .ok (.aload_n 0, 1) := by decide +kernel
theorem dX8_number_32 : decode cX8_number 32 = .ok (.invokevirtual 183, 3) := by decide +kernel
theorem dX8_number_35 : decode cX8_number 35 = .ok (.bipush 48, 2) := by decide +kernel
theorem dX8_number_37 : decode cX8_number 37 = .ok (.isub, 1) := by decide +kernel
theorem dX8_number_38 : decode cX8_number 38 = .ok (.istore_n 1, 1) := by decide +kernel
theorem dX8_number_39 : decode cX8_number 39 = .ok (.aload_n 0, 1) := by decide +kernel
theorem dX8_number_40 : decode cX8_number 40 = .ok (.dup, 1) := by decide +kernel
theorem dX8_number_41 : decode cX8_number 41 = .ok (.getfield 180, 3) := by decide +kernel
theorem dX8_number_44 : decode cX8_number 44 = .ok (.iconst 1, 1) := by decide +kernel
theorem dX8_number_45 : decode cX8_number 45 = .ok (.iadd, 1) := by decide +kernel
theorem dX8_number_46 : decode cX8_number 46 = .ok (.putfield 180, 3) := by decide +kernel
theorem dX8_number_49 : decode cX8_number 49 = .ok (.iload_n 1, 1) := by decide +kernel
theorem dX8_number_50 : decode cX8_number 50 = .ok (.ifCond .eq 10, 3) := by decide +kernel
theorem dX8_number_53 : decode cX8_number 53 = .ok (.aload_n 0, 1) := by decide +kernel
theorem dX8_number_54 : decode cX8_number 54 = .ok (.invokevirtual 190, 3) := by decide +kernel
theorem dX8_number_57 : decode cX8_number 57 = .ok (.ifCond .ne 5, 3) := by decide +kernel
theorem dX8_number_60 : decode cX8_number 60 = .ok (.iload_n 1, 1) := by decide +kernel
theorem dX8_number_61 : decode cX8_number 61 = .ok (.ireturn, 1) := by decide +kernel
theorem dX8_number_62 : decode cX8_number 62 = .ok (.bipush 10, 2) := by decide +kernel
theorem dX8_number_64 : decode cX8_number 64 = .ok (.iload_n 1, 1) := by decide +kernel
theorem dX8_number_65 : decode cX8_number 65 = .ok (.imul, 1) := by decide +kernel
theorem dX8_number_66 : decode cX8_number 66 = .ok (.aload_n 0, 1) := by decide +kernel
theorem dX8_number_67 : decode cX8_number 67 = .ok (.invokevirtual 183, 3) := by decide +kernel
theorem dX8_number_70 : decode cX8_number 70 = .ok (.iadd, 1) := by decide +kernel
theorem dX8_number_71 : decode cX8_number 71 = .ok (.bipush 48, 2) := by decide +kernel
theorem dX8_number_73 : decode cX8_number 73 = .ok (.isub, 1) := by decide +kernel
theorem dX8_number_74 : decode cX8_number 74 = .ok (.istore_n 1, 1) := by decide +kernel
theorem dX8_number_75 : decode cX8_number 75 = .ok (.aload_n 0, 1) := by decide +kernel
theorem dX8_number_76 : decode cX8_number 76 = .ok (.dup, 1) := by decide +kernel
theorem dX8_number_77 : decode cX8_number 77 = .ok (.getfield 180, 3) := by decide +kernel
theorem dX8_number_80 : decode cX8_number 80 = .ok (.iconst 1, 1) := by decide +kernel
theorem dX8_number_81 : decode cX8_number 81 = .ok (.iadd, 1) := by decide +kernel
theorem dX8_number_82 : decode cX8_number 82 = .ok (.putfield 180, 3) := by decide +kernel
theorem dX8_number_85 : decode cX8_number 85 = .ok (.iload_n 1, 1) := by decide +kernel
theorem dX8_number_86 : decode cX8_number 86 = .ok (.ireturn, 1) := by decide +kernel
theorem dX8_readBooking_0 : decode cX8_readBooking 0 = .ok (.aload_n 0, 1) := by decide +kernel
theorem dX8_readBooking_1 : decode cX8_readBooking 1 = .ok (.iconst 0, 1) := by decide +kernel
theorem dX8_readBooking_2 : decode cX8_readBooking 2 = .ok (.putfield 180, 3) := by decide +kernel
theorem dX8_readBooking_5 : decode cX8_readBooking 5 = .ok (.aload_n 0, 1) := by decide +kernel
theorem dX8_readBooking_6 : decode cX8_readBooking 6 = .ok (.iconst (-1), 1) := by decide +kernel
theorem dX8_readBooking_7 : decode cX8_readBooking 7 = .ok (.putfield 187, 3) := by decide +kernel
theorem dX8_readBooking_10 : decode cX8_readBooking 10 = .ok (.aload_n 0, 1) := by decide +kernel
theorem dX8_readBooking_11 : decode cX8_readBooking 11 = .ok (.invokevirtual 183, 3) := by decide +kernel
theorem dX8_readBooking_14 : decode cX8_readBooking 14 = .ok (.istore_n 1, 1) := by decide +kernel
theorem dX8_readBooking_15 : decode cX8_readBooking 15 = .ok (.aload_n 0, 1) := by decide +kernel
theorem dX8_readBooking_16 : decode cX8_readBooking 16 = .ok (.getfield 177, 3) := by decide +kernel
theorem dX8_readBooking_19 : decode cX8_readBooking 19 = .ok (.ifCond .ne 7, 3) := by decide +kernel
theorem dX8_readBooking_22 : decode cX8_readBooking 22 = .ok (.iconst (-1), 1) := by decide +kernel
theorem dX8_readBooking_23 : decode cX8_readBooking 23 = .ok (.goto 34, 3) := by decide +kernel
theorem dX8_readBooking_26 : decode cX8_readBooking 26 = .ok (.iload_n 1, 1) := by decide +kernel
theorem dX8_readBooking_27 : decode cX8_readBooking 27 = .ok (.bipush 116, 2) := by decide +kernel
theorem dX8_readBooking_29 : decode cX8_readBooking 29 = .ok (.if_icmp .ne 7, 3) := by decide +kernel
theorem dX8_readBooking_32 : decode cX8_readBooking 32 = .ok (.iconst 0, 1) := by decide +kernel
theorem dX8_readBooking_33 : decode cX8_readBooking 33 = .ok (.goto 24, 3) := by decide +kernel
theorem dX8_readBooking_36 : decode cX8_readBooking 36 = .ok (.iload_n 1, 1) := by decide +kernel
theorem dX8_readBooking_37 : decode cX8_readBooking 37 = .ok (.bipush 99, 2) := by decide +kernel
theorem dX8_readBooking_39 : decode cX8_readBooking 39 = .ok (.if_icmp .ne 7, 3) := by decide +kernel
theorem dX8_readBooking_42 : decode cX8_readBooking 42 = .ok (.iconst 1, 1) := by decide +kernel
theorem dX8_readBooking_43 : decode cX8_readBooking 43 = .ok (.goto 14, 3) := by decide +kernel
theorem dX8_readBooking_46 : decode cX8_readBooking 46 = .ok (.iload_n 1, 1) := by decide +kernel
theorem dX8_readBooking_47 : decode cX8_readBooking 47 = .ok (.bipush 109, 2) := by decide +kernel
theorem dX8_readBooking_49 : decode cX8_readBooking 49 = .ok (.if_icmp .ne 7, 3) := by decide +kernel
theorem dX8_readBooking_52 : decode cX8_readBooking 52 = .ok (.iconst 2, 1) := by decide +kernel
theorem dX8_readBooking_53 : decode cX8_readBooking 53 = .ok (.goto 4, 3) := by decide +kernel
theorem dX8_readBooking_56 : decode cX8_readBooking 56 = .ok (.iconst (-1), 1) := by decide +kernel
theorem dX8_readBooking_57 : decode cX8_readBooking 57 = .ok (.istore_n 2, 1) := by decide +kernel
theorem dX8_readBooking_58 : decode cX8_readBooking 58 = .ok (.iload_n 2, 1) := by decide +kernel
theorem dX8_readBooking_59 : decode cX8_readBooking 59 = .ok (.ifCond .ge 8, 3) := by decide +kernel
theorem dX8_readBooking_62 : decode cX8_readBooking 62 = .ok (.aload_n 0, 1) := by decide +kernel
theorem dX8_readBooking_63 : decode cX8_readBooking 63 = .ok (.iconst 0, 1) := by decide +kernel
theorem dX8_readBooking_64 : decode cX8_readBooking 64 = .ok (.putfield 187, 3) := by decide +kernel
theorem dX8_readBooking_67 : decode cX8_readBooking 67 = .ok (.aload_n 0, 1) := by decide +kernel
theorem dX8_readBooking_68 : decode cX8_readBooking 68 = .ok (.dup, 1) := by decide +kernel
theorem dX8_readBooking_69 : decode cX8_readBooking 69 = .ok (.getfield 180, 3) := by decide +kernel
theorem dX8_readBooking_72 : decode cX8_readBooking 72 = .ok (.iconst 1, 1) := by decide +kernel
theorem dX8_readBooking_73 : decode cX8_readBooking 73 = .ok (.iadd, 1) := by decide +kernel
theorem dX8_readBooking_74 : decode cX8_readBooking 74 = .ok (.putfield 180, 3) := by decide +kernel
theorem dX8_readBooking_77 : decode cX8_readBooking 77 = .ok (.aload_n 0, 1) := by decide +kernel
theorem dX8_readBooking_78 : decode cX8_readBooking 78 = .ok (.invokevirtual 193, 3) := by decide +kernel
theorem dX8_readBooking_81 : decode cX8_readBooking 81 = .ok (.istore_n 3, 1) := by decide +kernel
theorem dX8_readBooking_82 : decode cX8_readBooking 82 = .ok (.aload_n 0, 1) := by decide +kernel
theorem dX8_readBooking_83 : decode cX8_readBooking 83 = .ok (.bipush 120, 2) := by decide +kernel
theorem dX8_readBooking_85 : decode cX8_readBooking 85 = .ok (.invokevirtual 196, 3) := by decide +kernel
theorem dX8_readBooking_88 : decode cX8_readBooking 88 = .ok (.aload_n 0, 1) := by decide +kernel
theorem dX8_readBooking_89 : decode cX8_readBooking 89 = .ok (.invokevirtual 193, 3) := by decide +kernel
theorem dX8_readBooking_92 : decode cX8_readBooking 92 = .ok (.istore 4, 2) := by decide +kernel
theorem dX8_readBooking_94 : decode cX8_readBooking 94 = .ok (.aload_n 0, 1) := by decide +kernel
theorem dX8_readBooking_95 : decode cX8_readBooking 95 = .ok (.bipush 64, 2) := by decide +kernel
theorem dX8_readBooking_97 : decode cX8_readBooking 97 = .ok (.invokevirtual 196, 3) := by decide +kernel
theorem dX8_readBooking_100 : decode cX8_readBooking 100 = .ok (.aload_n 0, 1) := by decide +kernel
theorem dX8_readBooking_101 : decode cX8_readBooking 101 = .ok (.invokevirtual 193, 3) := by decide +kernel
theorem dX8_readBooking_104 : decode cX8_readBooking 104 = .ok (.istore 5, 2) := by decide +kernel
theorem dX8_readBooking_106 : decode cX8_readBooking 106 = .ok (.aload_n 0, 1) := by decide +kernel
theorem dX8_readBooking_107 : decode cX8_readBooking 107 = .ok (.bipush 43, 2) := by decide +kernel
theorem dX8_readBooking_109 : decode cX8_readBooking 109 = .ok (.invokevirtual 196, 3) := by decide +kernel
theorem dX8_readBooking_112 : decode cX8_readBooking 112 = .ok (.aload_n 0, 1) := by decide +kernel
theorem dX8_readBooking_113 : decode cX8_readBooking 113 = .ok (.invokevirtual 193, 3) := by decide +kernel
theorem dX8_readBooking_116 : decode cX8_readBooking 116 = .ok (.istore 6, 2) := by decide +kernel
theorem dX8_readBooking_118 : decode cX8_readBooking 118 = .ok (.iconst 0, 1) := by decide +kernel
theorem dX8_readBooking_119 : decode cX8_readBooking 119 = .ok (.istore 7, 2) := by decide +kernel
theorem dX8_readBooking_121 : decode cX8_readBooking 121 = .ok (.aload_n 0, 1) := by decide +kernel
theorem dX8_readBooking_122 : decode cX8_readBooking 122 = .ok (.getfield 187, 3) := by decide +kernel
theorem dX8_readBooking_125 : decode cX8_readBooking 125 = .ok (.ifCond .ge 39, 3) := by decide +kernel
theorem dX8_readBooking_128 : decode cX8_readBooking 128 = .ok (.aload_n 0, 1) := by decide +kernel
theorem dX8_readBooking_129 : decode cX8_readBooking 129 = .ok (.getfield 180, 3) := by decide +kernel
theorem dX8_readBooking_132 : decode cX8_readBooking 132 = .ok (.aload_n 0, 1) := by decide +kernel
theorem dX8_readBooking_133 : decode cX8_readBooking 133 = .ok (.getfield 177, 3) := by decide +kernel
theorem dX8_readBooking_136 : decode cX8_readBooking 136 = .ok (.if_icmp .ge 28, 3) := by decide +kernel
theorem dX8_readBooking_139 : decode cX8_readBooking 139 = .ok (.aload_n 0, 1) := by decide +kernel
theorem dX8_readBooking_140 : decode cX8_readBooking 140 = .ok (.invokevirtual 183, 3) := by decide +kernel
theorem dX8_readBooking_143 : decode cX8_readBooking 143 = .ok (.bipush 112, 2) := by decide +kernel
theorem dX8_readBooking_145 : decode cX8_readBooking 145 = .ok (.if_icmp .ne 19, 3) := by decide +kernel
theorem dX8_readBooking_148 : decode cX8_readBooking 148 = .ok (.aload_n 0, 1) := by decide +kernel
theorem dX8_readBooking_149 : decode cX8_readBooking 149 = .ok (.dup, 1) := by decide +kernel
theorem dX8_readBooking_150 : decode cX8_readBooking 150 = .ok (.getfield 180, 3) := by decide +kernel
theorem dX8_readBooking_153 : decode cX8_readBooking 153 = .ok (.iconst 1, 1) := by decide +kernel
theorem dX8_readBooking_154 : decode cX8_readBooking 154 = .ok (.iadd, 1) := by decide +kernel
theorem dX8_readBooking_155 : decode cX8_readBooking 155 = .ok (.putfield 180, 3) := by decide +kernel
theorem dX8_readBooking_158 : decode cX8_readBooking 158 = .ok (.aload_n 0, 1) := by decide +kernel
theorem dX8_readBooking_159 : decode cX8_readBooking 159 = .ok (.invokevirtual 193, 3) := by decide +kernel
theorem dX8_readBooking_162 : decode cX8_readBooking 162 = .ok (.istore 7, 2) := by decide +kernel
theorem dX8_readBooking_164 : decode cX8_readBooking 164 = .ok (.aload_n 0, 1) := by decide +kernel
theorem dX8_readBooking_165 : decode cX8_readBooking 165 = .ok (.getfield 187, 3) := by decide +kernel
theorem dX8_readBooking_168 : decode cX8_readBooking 168 = .ok (.ifCond .ge 22, 3) := by decide +kernel
theorem dX8_readBooking_171 : decode cX8_readBooking 171 = .ok (.aload_n 0, 1) := by decide +kernel
theorem dX8_readBooking_172 : decode cX8_readBooking 172 = .ok (.getfield 180, 3) := by decide +kernel
theorem dX8_readBooking_175 : decode cX8_readBooking 175 = .ok (.aload_n 0, 1) := by decide +kernel
theorem dX8_readBooking_176 : decode cX8_readBooking 176 = .ok (.getfield 177, 3) := by decide +kernel
theorem dX8_readBooking_179 : decode cX8_readBooking 179 = .ok (.if_icmp .ge 11, 3) := by decide +kernel
theorem dX8_readBooking_182 : decode cX8_readBooking 182 = .ok (.aload_n 0, 1) := by decide +kernel
theorem dX8_readBooking_183 : decode cX8_readBooking 183 = .ok (.aload_n 0, 1) := by decide +kernel
theorem dX8_readBooking_184 : decode cX8_readBooking 184 = .ok (.getfield 180, 3) := by decide +kernel
theorem dX8_readBooking_187 : decode cX8_readBooking 187 = .ok (.putfield 187, 3) := by decide +kernel
theorem dX8_readBooking_190 : decode cX8_readBooking 190 = .ok (.aload_n 0, 1) := by decide +kernel
theorem dX8_readBooking_191 : decode cX8_readBooking 191 = .ok (.iconst 0, 1) := by decide +kernel
theorem dX8_readBooking_192 : decode cX8_readBooking 192 = .ok (.putfield 177, 3) := by decide +kernel
theorem dX8_readBooking_195 : decode cX8_readBooking 195 = .ok (.aload_n 0, 1) := by decide +kernel
theorem dX8_readBooking_196 : decode cX8_readBooking 196 = .ok (.aload_n 0, 1) := by decide +kernel
theorem dX8_readBooking_197 : decode cX8_readBooking 197 = .ok (.getfield 187, 3) := by decide +kernel
theorem dX8_readBooking_200 : decode cX8_readBooking 200 = .ok (.putfield 38, 3) := by decide +kernel
theorem dX8_readBooking_203 : decode cX8_readBooking 203 = .ok (.aload_n 0, 1) := by decide +kernel
theorem dX8_readBooking_204 : decode cX8_readBooking 204 = .ok (.getfield 187, 3) := by decide +kernel
theorem dX8_readBooking_207 : decode cX8_readBooking 207 = .ok (.ifCond .lt 10, 3) := by decide +kernel
theorem dX8_readBooking_210 : decode cX8_readBooking 210 = .ok (.aload_n 0, 1) := by decide +kernel
theorem dX8_readBooking_211 : decode cX8_readBooking 211 = .ok (.iconst 1, 1) := by decide +kernel
theorem dX8_readBooking_212 : decode cX8_readBooking 212 = .ok (.putfield 42, 3) := by decide +kernel
theorem dX8_readBooking_215 : decode cX8_readBooking 215 = .ok (.iconst 0, 1) := by decide +kernel
theorem dX8_readBooking_216 : decode cX8_readBooking 216 = .ok (.ireturn, 1) := by decide +kernel
theorem dX8_readBooking_217 : decode cX8_readBooking 217 = .ok (.aload_n 0, 1) := by decide +kernel
theorem dX8_readBooking_218 : decode cX8_readBooking 218 = .ok (.iload_n 2, 1) := by decide +kernel
theorem dX8_readBooking_219 : decode cX8_readBooking 219 = .ok (.iload_n 3, 1) := by decide +kernel
theorem dX8_readBooking_220 : decode cX8_readBooking 220 = .ok (.iload 4, 2) := by decide +kernel
theorem dX8_readBooking_222 : decode cX8_readBooking 222 = .ok (.iload 7, 2) := by decide +kernel
theorem dX8_readBooking_224 : decode cX8_readBooking 224 = .ok (.iload 5, 2) := by decide +kernel
theorem dX8_readBooking_226 : decode cX8_readBooking 226 = .ok (.iload 6, 2) := by decide +kernel
theorem dX8_readBooking_228 : decode cX8_readBooking 228 = .ok (.invokevirtual 200, 3) := by decide +kernel
theorem dX8_readBooking_231 : decode cX8_readBooking 231 = .ok (.ireturn, 1) := by decide +kernel
theorem dX8_faultPosition_0 : decode cX8_faultPosition 0 = .ok (.aload_n 0, 1) := by decide +kernel
theorem dX8_faultPosition_1 : decode cX8_faultPosition 1 = .ok (.iconst 0, 1) := by decide +kernel
theorem dX8_faultPosition_2 : decode cX8_faultPosition 2 = .ok (.putfield 42, 3) := by decide +kernel
theorem dX8_faultPosition_5 : decode cX8_faultPosition 5 = .ok (.aload_n 0, 1) := by decide +kernel
theorem dX8_faultPosition_6 : decode cX8_faultPosition 6 = .ok (.getfield 38, 3) := by decide +kernel
theorem dX8_faultPosition_9 : decode cX8_faultPosition 9 = .ok (.ireturn, 1) := by decide +kernel
theorem dX8_refusal_0 : decode cX8_refusal 0 = .ok (.aload_n 0, 1) := by decide +kernel
theorem dX8_refusal_1 : decode cX8_refusal 1 = .ok (.aload_n 0, 1) := by decide +kernel
theorem dX8_refusal_2 : decode cX8_refusal 2 = .ok (.getfield 164, 3) := by decide +kernel
theorem dX8_refusal_5 : decode cX8_refusal 5 = .ok (.ifCond .ne 7, 3) := by decide +kernel
theorem dX8_refusal_8 : decode cX8_refusal 8 = .ok (.iconst 1, 1) := by decide +kernel
theorem dX8_refusal_9 : decode cX8_refusal 9 = .ok (.goto 4, 3) := by decide +kernel
theorem dX8_refusal_12 : decode cX8_refusal 12 = .ok (.iconst 0, 1) := by decide +kernel
