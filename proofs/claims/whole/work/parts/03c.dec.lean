theorem dX8_refusal_13 : decode cX8_refusal 13 = .ok (.putfield 42, 3) := by decide +kernel
theorem dX8_refusal_16 : decode cX8_refusal 16 = .ok (.aload_n 0, 1) := by decide +kernel
theorem dX8_refusal_17 : decode cX8_refusal 17 = .ok (.getfield 164, 3) := by decide +kernel
theorem dX8_refusal_20 : decode cX8_refusal 20 = .ok (.ireturn, 1) := by decide +kernel
theorem dX8_party_0 : decode cX8_party 0 = .ok (.aload_n 0, 1) := by decide +kernel
theorem dX8_party_1 : decode cX8_party 1 = .ok (.aload_n 0, 1) := by decide +kernel
theorem dX8_party_2 : decode cX8_party 2 = .ok (.iload_n 1, 1) := by decide +kernel
theorem dX8_party_3 : decode cX8_party 3 = .ok (.invokevirtual 94, 3) := by decide +kernel
theorem dX8_party_6 : decode cX8_party 6 = .ok (.ifCond .ne 7, 3) := by decide +kernel
theorem dX8_party_9 : decode cX8_party 9 = .ok (.iconst 1, 1) := by decide +kernel
theorem dX8_party_10 : decode cX8_party 10 = .ok (.goto 18, 3) := by decide +kernel
theorem dX8_party_13 : decode cX8_party 13 = .ok (.iload_n 2, 1) := by decide +kernel
theorem dX8_party_14 : decode cX8_party 14 = .ok (.iconst 0, 1) := by decide +kernel
theorem dX8_party_15 : decode cX8_party 15 = .ok (.bipush 9, 2) := by decide +kernel
theorem dX8_party_17 : decode cX8_party 17 = .ok (.invokestatic 52, 3) := by decide +kernel
theorem dX8_party_20 : decode cX8_party 20 = .ok (.ifCond .eq 7, 3) := by decide +kernel
theorem dX8_party_23 : decode cX8_party 23 = .ok (.iconst 0, 1) := by decide +kernel
theorem dX8_party_24 : decode cX8_party 24 = .ok (.goto 4, 3) := by decide +kernel
theorem dX8_party_27 : decode cX8_party 27 = .ok (.iconst 2, 1) := by decide +kernel
theorem dX8_party_28 : decode cX8_party 28 = .ok (.putfield 42, 3) := by decide +kernel
theorem dX8_party_31 : decode cX8_party 31 = .ok (.aload_n 0, 1) := by decide +kernel
theorem dX8_party_32 : decode cX8_party 32 = .ok (.getfield 42, 3) := by decide +kernel
theorem dX8_party_35 : decode cX8_party 35 = .ok (.ifCond .ne 12, 3) := by decide +kernel
theorem dX8_party_38 : decode cX8_party 38 = .ok (.aload_n 0, 1) := by decide +kernel
theorem dX8_party_39 : decode cX8_party 39 = .ok (.iload_n 1, 1) := by decide +kernel
theorem dX8_party_40 : decode cX8_party 40 = .ok (.iload_n 2, 1) := by decide +kernel
theorem dX8_party_41 : decode cX8_party 41 = .ok (.invokevirtual 97, 3) := by decide +kernel
theorem dX8_party_44 : decode cX8_party 44 = .ok (.goto 4, 3) := by decide +kernel
theorem dX8_party_47 : decode cX8_party 47 = .ok (.iconst 0, 1) := by decide +kernel
theorem dX8_party_48 : decode cX8_party 48 = .ok (.ireturn, 1) := by decide +kernel
theorem dX8_moves_0 : decode cX8_moves 0 = .ok (.aload_n 0, 1) := by decide +kernel
theorem dX8_moves_1 : decode cX8_moves 1 = .ok (.iconst 0, 1) := by decide +kernel
theorem dX8_moves_2 : decode cX8_moves 2 = .ok (.putfield 42, 3) := by decide +kernel
theorem dX8_moves_5 : decode cX8_moves 5 = .ok (.aload_n 0, 1) := by decide +kernel
theorem dX8_moves_6 : decode cX8_moves 6 = .ok (.getfield 171, 3) := by decide +kernel
theorem dX8_moves_9 : decode cX8_moves 9 = .ok (.ireturn, 1) := by decide +kernel
theorem dX8_moveOf_0 : decode cX8_moveOf 0 = .ok (.aload_n 0, 1) := by decide +kernel
theorem dX8_moveOf_1 : decode cX8_moveOf 1 = .ok (.iload_n 1, 1) := by decide +kernel
theorem dX8_moveOf_2 : decode cX8_moveOf 2 = .ok (.iconst 0, 1) := by decide +kernel
theorem dX8_moveOf_3 : decode cX8_moveOf 3 = .ok (.aload_n 0, 1) := by decide +kernel
theorem dX8_moveOf_4 : decode cX8_moveOf 4 = .ok (.getfield 171, 3) := by decide +kernel
theorem dX8_moveOf_7 : decode cX8_moveOf 7 = .ok (.iconst 1, 1) := by decide +kernel
theorem dX8_moveOf_8 : decode cX8_moveOf 8 = .ok (.isub, 1) := by decide +kernel
theorem dX8_moveOf_9 : decode cX8_moveOf 9 = .ok (.invokestatic 52, 3) := by decide +kernel
theorem dX8_moveOf_12 : decode cX8_moveOf 12 = .ok (.ifCond .ne 7, 3) := by decide +kernel
theorem dX8_moveOf_15 : decode cX8_moveOf 15 = .ok (.iconst 1, 1) := by decide +kernel
theorem dX8_moveOf_16 : decode cX8_moveOf 16 = .ok (.goto 17, 3) := by decide +kernel
theorem dX8_moveOf_19 : decode cX8_moveOf 19 = .ok (.iload_n 2, 1) := by decide +kernel
theorem dX8_moveOf_20 : decode cX8_moveOf 20 = .ok (.iconst 0, 1) := by decide +kernel
theorem dX8_moveOf_21 : decode cX8_moveOf 21 = .ok (.iconst 2, 1) := by decide +kernel
theorem dX8_moveOf_22 : decode cX8_moveOf 22 = .ok (.invokestatic 52, 3) := by decide +kernel
theorem dX8_moveOf_25 : decode cX8_moveOf 25 = .ok (.ifCond .eq 7, 3) := by decide +kernel
theorem dX8_moveOf_28 : decode cX8_moveOf 28 = .ok (.iconst 0, 1) := by decide +kernel
theorem dX8_moveOf_29 : decode cX8_moveOf 29 = .ok (.goto 4, 3) := by decide +kernel
theorem dX8_moveOf_32 : decode cX8_moveOf 32 = .ok (.iconst 2, 1) := by decide +kernel
theorem dX8_moveOf_33 : decode cX8_moveOf 33 = .ok (.putfield 42, 3) := by decide +kernel
theorem dX8_moveOf_36 : decode cX8_moveOf 36 = .ok (.aload_n 0, 1) := by decide +kernel
theorem dX8_moveOf_37 : decode cX8_moveOf 37 = .ok (.getfield 42, 3) := by decide +kernel
theorem dX8_moveOf_40 : decode cX8_moveOf 40 = .ok (.ifCond .ne 16, 3) := by decide +kernel
theorem dX8_moveOf_43 : decode cX8_moveOf 43 = .ok (.aload_n 0, 1) := by decide +kernel
theorem dX8_moveOf_44 : decode cX8_moveOf 44 = .ok (.getfield 31, 3) := by decide +kernel
theorem dX8_moveOf_47 : decode cX8_moveOf 47 = .ok (.iconst 3, 1) := by decide +kernel
theorem dX8_moveOf_48 : decode cX8_moveOf 48 = .ok (.iload_n 1, 1) := by decide +kernel
theorem dX8_moveOf_49 : decode cX8_moveOf 49 = .ok (.imul, 1) := by decide +kernel
theorem dX8_moveOf_50 : decode cX8_moveOf 50 = .ok (.iload_n 2, 1) := by decide +kernel
theorem dX8_moveOf_51 : decode cX8_moveOf 51 = .ok (.iadd, 1) := by decide +kernel
theorem dX8_moveOf_52 : decode cX8_moveOf 52 = .ok (.iaload, 1) := by decide +kernel
theorem dX8_moveOf_53 : decode cX8_moveOf 53 = .ok (.goto 4, 3) := by decide +kernel
theorem dX8_moveOf_56 : decode cX8_moveOf 56 = .ok (.iconst 0, 1) := by decide +kernel
theorem dX8_moveOf_57 : decode cX8_moveOf 57 = .ok (.ireturn, 1) := by decide +kernel
theorem dX8_isAhead_0 : decode cX8_isAhead 0 = .ok (.aload_n 0, 1) := by decide +kernel
theorem dX8_isAhead_1 : decode cX8_isAhead 1 = .ok (.iload_n 1, 1) := by decide +kernel
theorem dX8_isAhead_2 : decode cX8_isAhead 2 = .ok (.bipush 8, 2) := by decide +kernel
theorem dX8_isAhead_4 : decode cX8_isAhead 4 = .ok (.invokevirtual 97, 3) := by decide +kernel
theorem dX8_isAhead_7 : decode cX8_isAhead 7 = .ok (.iconst 1, 1) := by decide +kernel
theorem dX8_isAhead_8 : decode cX8_isAhead 8 = .ok (.if_icmp .ne 22, 3) := by decide +kernel
theorem dX8_isAhead_11 : decode cX8_isAhead 11 = .ok (.aload_n 0, 1) := by decide +kernel
theorem dX8_isAhead_12 : decode cX8_isAhead 12 = .ok (.iload_n 1, 1) := by decide +kernel
theorem dX8_isAhead_13 : decode cX8_isAhead 13 = .ok (.iconst 4, 1) := by decide +kernel
theorem dX8_isAhead_14 : decode cX8_isAhead 14 = .ok (.invokevirtual 97, 3) := by decide +kernel
theorem dX8_isAhead_17 : decode cX8_isAhead 17 = .ok (.aload_n 0, 1) := by decide +kernel
theorem dX8_isAhead_18 : decode cX8_isAhead 18 = .ok (.getfield 9, 3) := by decide +kernel
theorem dX8_isAhead_21 : decode cX8_isAhead 21 = .ok (.iconst 3, 1) := by decide +kernel
theorem dX8_isAhead_22 : decode cX8_isAhead 22 = .ok (.iaload, 1) := by decide +kernel
theorem dX8_isAhead_23 : decode cX8_isAhead 23 = .ok (.if_icmp .lt 7, 3) := by decide +kernel
theorem dX8_isAhead_26 : decode cX8_isAhead 26 = .ok (.iconst 1, 1) := by decide +kernel
theorem dX8_isAhead_27 : decode cX8_isAhead 27 = .ok (.goto 4, 3) := by decide +kernel
theorem dX8_isAhead_30 : decode cX8_isAhead 30 = .ok (.iconst 0, 1) := by decide +kernel
theorem dX8_isAhead_31 : decode cX8_isAhead 31 = .ok (.ireturn, 1) := by decide +kernel
theorem dX8_comesAs_0 : decode cX8_comesAs 0 = .ok (.aload_n 0, 1) := by decide +kernel
theorem dX8_comesAs_1 : decode cX8_comesAs 1 = .ok (.iload_n 1, 1) := by decide +kernel
theorem dX8_comesAs_2 : decode cX8_comesAs 2 = .ok (.invokevirtual 67, 3) := by decide +kernel
theorem dX8_comesAs_5 : decode cX8_comesAs 5 = .ok (.aload_n 0, 1) := by decide +kernel
theorem dX8_comesAs_6 : decode cX8_comesAs 6 = .ok (.aload_n 0, 1) := by decide +kernel
theorem dX8_comesAs_7 : decode cX8_comesAs 7 = .ok (.iload_n 1, 1) := by decide +kernel
theorem dX8_comesAs_8 : decode cX8_comesAs 8 = .ok (.iconst 3, 1) := by decide +kernel
theorem dX8_comesAs_9 : decode cX8_comesAs 9 = .ok (.invokevirtual 97, 3) := by decide +kernel
theorem dX8_comesAs_12 : decode cX8_comesAs 12 = .ok (.aload_n 0, 1) := by decide +kernel
theorem dX8_comesAs_13 : decode cX8_comesAs 13 = .ok (.iload_n 1, 1) := by decide +kernel
theorem dX8_comesAs_14 : decode cX8_comesAs 14 = .ok (.iconst 4, 1) := by decide +kernel
theorem dX8_comesAs_15 : decode cX8_comesAs 15 = .ok (.invokevirtual 97, 3) := by decide +kernel
theorem dX8_comesAs_18 : decode cX8_comesAs 18 = .ok (.aload_n 0, 1) := by decide +kernel
theorem dX8_comesAs_19 : decode cX8_comesAs 19 = .ok (.iload_n 1, 1) := by decide +kernel
theorem dX8_comesAs_20 : decode cX8_comesAs 20 = .ok (.iconst 5, 1) := by decide +kernel
theorem dX8_comesAs_21 : decode cX8_comesAs 21 = .ok (.invokevirtual 97, 3) := by decide +kernel
theorem dX8_comesAs_24 : decode cX8_comesAs 24 = .ok (.invokevirtual 157, 3) := by decide +kernel
theorem dX8_comesAs_27 : decode cX8_comesAs 27 = .ok (.return_, 1) := by decide +kernel
theorem dX8_move_0 : decode cX8_move 0 = .ok (.aload_n 0, 1) := by decide +kernel
theorem dX8_move_1 : decode cX8_move 1 = .ok (.aload_n 0, 1) := by decide +kernel
theorem dX8_move_2 : decode cX8_move 2 = .ok (.iload_n 1, 1) := by decide +kernel
theorem dX8_move_3 : decode cX8_move 3 = .ok (.invokevirtual 94, 3) := by decide +kernel
theorem dX8_move_6 : decode cX8_move 6 = .ok (.ifCond .eq 11, 3) := by decide +kernel
theorem dX8_move_9 : decode cX8_move 9 = .ok (.aload_n 0, 1) := by decide +kernel
theorem dX8_move_10 : decode cX8_move 10 = .ok (.iload_n 2, 1) := by decide +kernel
theorem dX8_move_11 : decode cX8_move 11 = .ok (.invokevirtual 59, 3) := by decide +kernel
theorem dX8_move_14 : decode cX8_move 14 = .ok (.ifCond .ne 7, 3) := by decide +kernel
theorem dX8_move_17 : decode cX8_move 17 = .ok (.iconst 1, 1) := by decide +kernel
theorem dX8_move_18 : decode cX8_move 18 = .ok (.goto 27, 3) := by decide +kernel
theorem dX8_move_21 : decode cX8_move 21 = .ok (.aload_n 0, 1) := by decide +kernel
theorem dX8_move_22 : decode cX8_move 22 = .ok (.iload_n 1, 1) := by decide +kernel
theorem dX8_move_23 : decode cX8_move 23 = .ok (.invokevirtual 204, 3) := by decide +kernel
theorem dX8_move_26 : decode cX8_move 26 = .ok (.ifCond .eq 14, 3) := by decide +kernel
theorem dX8_move_29 : decode cX8_move 29 = .ok (.aload_n 0, 1) := by decide +kernel
theorem dX8_move_30 : decode cX8_move 30 = .ok (.iload_n 1, 1) := by decide +kernel
theorem dX8_move_31 : decode cX8_move 31 = .ok (.bipush 6, 2) := by decide +kernel
theorem dX8_move_33 : decode cX8_move 33 = .ok (.invokevirtual 97, 3) := by decide +kernel
theorem dX8_move_36 : decode cX8_move 36 = .ok (.iload_n 2, 1) := by decide +kernel
theorem dX8_move_37 : decode cX8_move 37 = .ok (.if_icmp .ne 7, 3) := by decide +kernel
theorem dX8_move_40 : decode cX8_move 40 = .ok (.iconst 2, 1) := by decide +kernel
theorem dX8_move_41 : decode cX8_move 41 = .ok (.goto 4, 3) := by decide +kernel
theorem dX8_move_44 : decode cX8_move 44 = .ok (.iconst 0, 1) := by decide +kernel
theorem dX8_move_45 : decode cX8_move 45 = .ok (.putfield 42, 3) := by decide +kernel
theorem dX8_move_48 : decode cX8_move 48 = .ok (.aload_n 0, 1) := by decide +kernel
theorem dX8_move_49 : decode cX8_move 49 = .ok (.getfield 42, 3) := by decide +kernel
theorem dX8_move_52 : decode cX8_move 52 = .ok (.ifCond .eq 5, 3) := by decide +kernel
theorem dX8_move_55 : decode cX8_move 55 = .ok (.iconst 0, 1) := by decide +kernel
theorem dX8_move_56 : decode cX8_move 56 = .ok (.ireturn, 1) := by decide +kernel
theorem dX8_move_57 : decode cX8_move 57 = .ok (.aload_n 0, 1) := by decide +kernel
theorem dX8_move_58 : decode cX8_move 58 = .ok (.iload_n 1, 1) := by decide +kernel
theorem dX8_move_59 : decode cX8_move 59 = .ok (.invokevirtual 207, 3) := by decide +kernel
theorem dX8_move_62 : decode cX8_move 62 = .ok (.aload_n 0, 1) := by decide +kernel
theorem dX8_move_63 : decode cX8_move 63 = .ok (.aload_n 0, 1) := by decide +kernel
theorem dX8_move_64 : decode cX8_move 64 = .ok (.aload_n 0, 1) := by decide +kernel
theorem dX8_move_65 : decode cX8_move 65 = .ok (.iload_n 1, 1) := by decide +kernel
theorem dX8_move_66 : decode cX8_move 66 = .ok (.iconst 0, 1) := by decide +kernel
theorem dX8_move_67 : decode cX8_move 67 = .ok (.invokevirtual 97, 3) := by decide +kernel
theorem dX8_move_70 : decode cX8_move 70 = .ok (.aload_n 0, 1) := by decide +kernel
theorem dX8_move_71 : decode cX8_move 71 = .ok (.iload_n 1, 1) := by decide +kernel
theorem dX8_move_72 : decode cX8_move 72 = .ok (.iconst 1, 1) := by decide +kernel
theorem dX8_move_73 : decode cX8_move 73 = .ok (.invokevirtual 97, 3) := by decide +kernel
theorem dX8_move_76 : decode cX8_move 76 = .ok (.aload_n 0, 1) := by decide +kernel
theorem dX8_move_77 : decode cX8_move 77 = .ok (.iload_n 1, 1) := by decide +kernel
theorem dX8_move_78 : decode cX8_move 78 = .ok (.iconst 2, 1) := by decide +kernel
theorem dX8_move_79 : decode cX8_move 79 = .ok (.invokevirtual 97, 3) := by decide +kernel
theorem dX8_move_82 : decode cX8_move 82 = .ok (.iload_n 2, 1) := by decide +kernel
theorem dX8_move_83 : decode cX8_move 83 = .ok (.invokevirtual 167, 3) := by decide +kernel
theorem dX8_move_86 : decode cX8_move 86 = .ok (.iconst 1, 1) := by decide +kernel
theorem dX8_move_87 : decode cX8_move 87 = .ok (.iconst 3, 1) := by decide +kernel
theorem dX8_move_88 : decode cX8_move 88 = .ok (.invokestatic 52, 3) := by decide +kernel
theorem dX8_move_91 : decode cX8_move 91 = .ok (.ifCond .eq 7, 3) := by decide +kernel
theorem dX8_move_94 : decode cX8_move 94 = .ok (.iconst 3, 1) := by decide +kernel
theorem dX8_move_95 : decode cX8_move 95 = .ok (.goto 4, 3) := by decide +kernel
theorem dX8_move_98 : decode cX8_move 98 = .ok (.iconst 0, 1) := by decide +kernel
theorem dX8_move_99 : decode cX8_move 99 = .ok (.putfield 42, 3) := by decide +kernel
theorem dX8_move_102 : decode cX8_move 102 = .ok (.aload_n 0, 1) := by decide +kernel
theorem dX8_move_103 : decode cX8_move 103 = .ok (.getfield 42, 3) := by decide +kernel
theorem dX8_move_106 : decode cX8_move 106 = .ok (.ifCond .eq 5, 3) := by decide +kernel
theorem dX8_move_109 : decode cX8_move 109 = .ok (.iconst 0, 1) := by decide +kernel
theorem dX8_move_110 : decode cX8_move 110 = .ok (.ireturn, 1) := by decide +kernel
theorem dX8_move_111 : decode cX8_move 111 = .ok (.aload_n 0, 1) := by decide +kernel
theorem dX8_move_112 : decode cX8_move 112 = .ok (.invokevirtual 56, 3) := by decide +kernel
theorem dX8_move_115 : decode cX8_move 115 = .ok (.aload_n 0, 1) := by decide +kernel
theorem dX8_move_116 : decode cX8_move 116 = .ok (.iload_n 1, 1) := by decide +kernel
theorem dX8_move_117 : decode cX8_move 117 = .ok (.bipush 6, 2) := by decide +kernel
theorem dX8_move_119 : decode cX8_move 119 = .ok (.invokevirtual 97, 3) := by decide +kernel
theorem dX8_move_122 : decode cX8_move 122 = .ok (.istore_n 3, 1) := by decide +kernel
theorem dX8_move_123 : decode cX8_move 123 = .ok (.aload_n 0, 1) := by decide +kernel
theorem dX8_move_124 : decode cX8_move 124 = .ok (.iload_n 1, 1) := by decide +kernel
theorem dX8_move_125 : decode cX8_move 125 = .ok (.bipush 6, 2) := by decide +kernel
theorem dX8_move_127 : decode cX8_move 127 = .ok (.iload_n 2, 1) := by decide +kernel
theorem dX8_move_128 : decode cX8_move 128 = .ok (.invokevirtual 174, 3) := by decide +kernel
theorem dX8_move_131 : decode cX8_move 131 = .ok (.iload_n 3, 1) := by decide +kernel
theorem dX8_move_132 : decode cX8_move 132 = .ok (.ireturn, 1) := by decide +kernel
theorem dX8_cancel_0 : decode cX8_cancel 0 = .ok (.aload_n 0, 1) := by decide +kernel
theorem dX8_cancel_1 : decode cX8_cancel 1 = .ok (.aload_n 0, 1) := by decide +kernel
theorem dX8_cancel_2 : decode cX8_cancel 2 = .ok (.iload_n 1, 1) := by decide +kernel
theorem dX8_cancel_3 : decode cX8_cancel 3 = .ok (.invokevirtual 94, 3) := by decide +kernel
theorem dX8_cancel_6 : decode cX8_cancel 6 = .ok (.ifCond .ne 7, 3) := by decide +kernel
theorem dX8_cancel_9 : decode cX8_cancel 9 = .ok (.iconst 1, 1) := by decide +kernel
theorem dX8_cancel_10 : decode cX8_cancel 10 = .ok (.goto 16, 3) := by decide +kernel
theorem dX8_cancel_13 : decode cX8_cancel 13 = .ok (.aload_n 0, 1) := by decide +kernel
theorem dX8_cancel_14 : decode cX8_cancel 14 = .ok (.iload_n 1, 1) := by decide +kernel
theorem dX8_cancel_15 : decode cX8_cancel 15 = .ok (.invokevirtual 204, 3) := by decide +kernel
theorem dX8_cancel_18 : decode cX8_cancel 18 = .ok (.ifCond .eq 7, 3) := by decide +kernel
theorem dX8_cancel_21 : decode cX8_cancel 21 = .ok (.iconst 0, 1) := by decide +kernel
theorem dX8_cancel_22 : decode cX8_cancel 22 = .ok (.goto 4, 3) := by decide +kernel
theorem dX8_cancel_25 : decode cX8_cancel 25 = .ok (.iconst 2, 1) := by decide +kernel
theorem dX8_cancel_26 : decode cX8_cancel 26 = .ok (.putfield 42, 3) := by decide +kernel
theorem dX8_cancel_29 : decode cX8_cancel 29 = .ok (.aload_n 0, 1) := by decide +kernel
theorem dX8_cancel_30 : decode cX8_cancel 30 = .ok (.getfield 42, 3) := by decide +kernel
theorem dX8_cancel_33 : decode cX8_cancel 33 = .ok (.ifCond .eq 5, 3) := by decide +kernel
theorem dX8_cancel_36 : decode cX8_cancel 36 = .ok (.iconst 0, 1) := by decide +kernel
theorem dX8_cancel_37 : decode cX8_cancel 37 = .ok (.ireturn, 1) := by decide +kernel
theorem dX8_cancel_38 : decode cX8_cancel 38 = .ok (.aload_n 0, 1) := by decide +kernel
theorem dX8_cancel_39 : decode cX8_cancel 39 = .ok (.invokevirtual 56, 3) := by decide +kernel
theorem dX8_cancel_42 : decode cX8_cancel 42 = .ok (.aload_n 0, 1) := by decide +kernel
theorem dX8_cancel_43 : decode cX8_cancel 43 = .ok (.iload_n 1, 1) := by decide +kernel
theorem dX8_cancel_44 : decode cX8_cancel 44 = .ok (.iconst 4, 1) := by decide +kernel
theorem dX8_cancel_45 : decode cX8_cancel 45 = .ok (.invokevirtual 97, 3) := by decide +kernel
theorem dX8_cancel_48 : decode cX8_cancel 48 = .ok (.aload_n 0, 1) := by decide +kernel
theorem dX8_cancel_49 : decode cX8_cancel 49 = .ok (.getfield 9, 3) := by decide +kernel
theorem dX8_cancel_52 : decode cX8_cancel 52 = .ok (.iconst 3, 1) := by decide +kernel
theorem dX8_cancel_53 : decode cX8_cancel 53 = .ok (.iaload, 1) := by decide +kernel
theorem dX8_cancel_54 : decode cX8_cancel 54 = .ok (.isub, 1) := by decide +kernel
theorem dX8_cancel_55 : decode cX8_cancel 55 = .ok (.istore_n 2, 1) := by decide +kernel
theorem dX8_cancel_56 : decode cX8_cancel 56 = .ok (.aload_n 0, 1) := by decide +kernel
theorem dX8_cancel_57 : decode cX8_cancel 57 = .ok (.iload_n 1, 1) := by decide +kernel
theorem dX8_cancel_58 : decode cX8_cancel 58 = .ok (.bipush 7, 2) := by decide +kernel
theorem dX8_cancel_60 : decode cX8_cancel 60 = .ok (.invokevirtual 97, 3) := by decide +kernel
theorem dX8_cancel_63 : decode cX8_cancel 63 = .ok (.istore_n 3, 1) := by decide +kernel
theorem dX8_cancel_64 : decode cX8_cancel 64 = .ok (.iload_n 2, 1) := by decide +kernel
theorem dX8_cancel_65 : decode cX8_cancel 65 = .ok (.bipush 6, 2) := by decide +kernel
theorem dX8_cancel_67 : decode cX8_cancel 67 = .ok (.if_icmp .le 7, 3) := by decide +kernel
theorem dX8_cancel_70 : decode cX8_cancel 70 = .ok (.iconst 0, 1) := by decide +kernel
theorem dX8_cancel_71 : decode cX8_cancel 71 = .ok (.goto 15, 3) := by decide +kernel
theorem dX8_cancel_74 : decode cX8_cancel 74 = .ok (.iload_n 2, 1) := by decide +kernel
theorem dX8_cancel_75 : decode cX8_cancel 75 = .ok (.iconst 2, 1) := by decide +kernel
theorem dX8_cancel_76 : decode cX8_cancel 76 = .ok (.if_icmp .le 9, 3) := by decide +kernel
theorem dX8_cancel_79 : decode cX8_cancel 79 = .ok (.iload_n 3, 1) := by decide +kernel
theorem dX8_cancel_80 : decode cX8_cancel 80 = .ok (.iconst 2, 1) := by decide +kernel
theorem dX8_cancel_81 : decode cX8_cancel 81 = .ok (.idiv, 1) := by decide +kernel
theorem dX8_cancel_82 : decode cX8_cancel 82 = .ok (.goto 4, 3) := by decide +kernel
theorem dX8_cancel_85 : decode cX8_cancel 85 = .ok (.iload_n 3, 1) := by decide +kernel
theorem dX8_cancel_86 : decode cX8_cancel 86 = .ok (.istore 4, 2) := by decide +kernel
theorem dX8_cancel_88 : decode cX8_cancel 88 = .ok (.aload_n 0, 1) := by decide +kernel
theorem dX8_cancel_89 : decode cX8_cancel 89 = .ok (.iload_n 1, 1) := by decide +kernel
theorem dX8_cancel_90 : decode cX8_cancel 90 = .ok (.bipush 8, 2) := by decide +kernel
theorem dX8_cancel_92 : decode cX8_cancel 92 = .ok (.iconst 0, 1) := by decide +kernel
theorem dX8_cancel_93 : decode cX8_cancel 93 = .ok (.invokevirtual 174, 3) := by decide +kernel
theorem dX8_cancel_96 : decode cX8_cancel 96 = .ok (.aload_n 0, 1) := by decide +kernel
theorem dX8_cancel_97 : decode cX8_cancel 97 = .ok (.iload_n 1, 1) := by decide +kernel
theorem dX8_cancel_98 : decode cX8_cancel 98 = .ok (.bipush 9, 2) := by decide +kernel
theorem dX8_cancel_100 : decode cX8_cancel 100 = .ok (.iload 4, 2) := by decide +kernel
theorem dX8_cancel_102 : decode cX8_cancel 102 = .ok (.invokevirtual 174, 3) := by decide +kernel
theorem dX8_cancel_105 : decode cX8_cancel 105 = .ok (.iload 4, 2) := by decide +kernel
theorem dX8_cancel_107 : decode cX8_cancel 107 = .ok (.ireturn, 1) := by decide +kernel
theorem dX8_advance_0 : decode cX8_advance 0 = .ok (.aload_n 0, 1) := by decide +kernel
theorem dX8_advance_1 : decode cX8_advance 1 = .ok (.iload_n 1, 1) := by decide +kernel
theorem dX8_advance_2 : decode cX8_advance 2 = .ok (.iconst 0, 1) := by decide +kernel
theorem dX8_advance_3 : decode cX8_advance 3 = .ok (.bipush 60, 2) := by decide +kernel
theorem dX8_advance_5 : decode cX8_advance 5 = .ok (.aload_n 0, 1) := by decide +kernel
theorem dX8_advance_6 : decode cX8_advance 6 = .ok (.getfield 9, 3) := by decide +kernel
theorem dX8_advance_9 : decode cX8_advance 9 = .ok (.iconst 3, 1) := by decide +kernel
theorem dX8_advance_10 : decode cX8_advance 10 = .ok (.iaload, 1) := by decide +kernel
theorem dX8_advance_11 : decode cX8_advance 11 = .ok (.isub, 1) := by decide +kernel
theorem dX8_advance_12 : decode cX8_advance 12 = .ok (.invokestatic 52, 3) := by decide +kernel
theorem dX8_advance_15 : decode cX8_advance 15 = .ok (.ifCond .eq 7, 3) := by decide +kernel
theorem dX8_advance_18 : decode cX8_advance 18 = .ok (.iconst 0, 1) := by decide +kernel
theorem dX8_advance_19 : decode cX8_advance 19 = .ok (.goto 4, 3) := by decide +kernel
theorem dX8_advance_22 : decode cX8_advance 22 = .ok (.iconst 1, 1) := by decide +kernel
theorem dX8_advance_23 : decode cX8_advance 23 = .ok (.putfield 42, 3) := by decide +kernel
theorem dX8_advance_26 : decode cX8_advance 26 = .ok (.aload_n 0, 1) := by decide +kernel
theorem dX8_advance_27 : decode cX8_advance 27 = .ok (.getfield 42, 3) := by decide +kernel
theorem dX8_advance_30 : decode cX8_advance 30 = .ok (.ifCond .eq 5, 3) := by decide +kernel
theorem dX8_advance_33 : decode cX8_advance 33 = .ok (.iconst 0, 1) := by decide +kernel
theorem dX8_advance_34 : decode cX8_advance 34 = .ok (.ireturn, 1) := by decide +kernel
theorem dX8_advance_35 : decode cX8_advance 35 = .ok (.aload_n 0, 1) := by decide +kernel
theorem dX8_advance_36 : decode cX8_advance 36 = .ok (.invokevirtual 56, 3) := by decide +kernel
theorem dX8_advance_39 : decode cX8_advance 39 = .ok (.iconst 0, 1) := by decide +kernel
theorem dX8_advance_40 : decode cX8_advance 40 = .ok (.istore_n 2, 1) := by decide +kernel
theorem dX8_advance_41 : decode cX8_advance 41 = .ok (.iconst 0, 1) := by decide +kernel
theorem dX8_advance_42 : decode cX8_advance 42 = .ok (.istore_n 3, 1) := by decide +kernel
theorem dX8_advance_43 : decode cX8_advance 43 = .ok (.iload_n 3, 1) := by decide +kernel
theorem dX8_advance_44 : decode cX8_advance 44 = .ok (.aload_n 0, 1) := by decide +kernel
theorem dX8_advance_45 : decode cX8_advance 45 = .ok (.getfield 9, 3) := by decide +kernel
theorem dX8_advance_48 : decode cX8_advance 48 = .ok (.iconst 1, 1) := by decide +kernel
theorem dX8_advance_49 : decode cX8_advance 49 = .ok (.iaload, 1) := by decide +kernel
theorem dX8_advance_50 : decode cX8_advance 50 = .ok (.if_icmp .ge 56, 3) := by decide +kernel
theorem dX8_advance_53 : decode cX8_advance 53 = .ok (.iload_n 2, 1) := by decide +kernel
theorem dX8_advance_54 : decode cX8_advance 54 = .ok (.aload_n 0, 1) := by decide +kernel
theorem dX8_advance_55 : decode cX8_advance 55 = .ok (.iload_n 3, 1) := by decide +kernel
theorem dX8_advance_56 : decode cX8_advance 56 = .ok (.bipush 8, 2) := by decide +kernel
theorem dX8_advance_58 : decode cX8_advance 58 = .ok (.invokevirtual 97, 3) := by decide +kernel
theorem dX8_advance_61 : decode cX8_advance 61 = .ok (.iconst 1, 1) := by decide +kernel
theorem dX8_advance_62 : decode cX8_advance 62 = .ok (.if_icmp .ne 35, 3) := by decide +kernel
theorem dX8_advance_65 : decode cX8_advance 65 = .ok (.aload_n 0, 1) := by decide +kernel
theorem dX8_advance_66 : decode cX8_advance 66 = .ok (.iload_n 3, 1) := by decide +kernel
theorem dX8_advance_67 : decode cX8_advance 67 = .ok (.iconst 4, 1) := by decide +kernel
theorem dX8_advance_68 : decode cX8_advance 68 = .ok (.invokevirtual 97, 3) := by decide +kernel
theorem dX8_advance_71 : decode cX8_advance 71 = .ok (.aload_n 0, 1) := by decide +kernel
theorem dX8_advance_72 : decode cX8_advance 72 = .ok (.getfield 9, 3) := by decide +kernel
theorem dX8_advance_75 : decode cX8_advance 75 = .ok (.iconst 3, 1) := by decide +kernel
theorem dX8_advance_76 : decode cX8_advance 76 = .ok (.iaload, 1) := by decide +kernel
theorem dX8_advance_77 : decode cX8_advance 77 = .ok (.aload_n 0, 1) := by decide +kernel
theorem dX8_advance_78 : decode cX8_advance 78 = .ok (.getfield 9, 3) := by decide +kernel
theorem dX8_advance_81 : decode cX8_advance 81 = .ok (.iconst 3, 1) := by decide +kernel
theorem dX8_advance_82 : decode cX8_advance 82 = .ok (.iaload, 1) := by decide +kernel
theorem dX8_advance_83 : decode cX8_advance 83 = .ok (.iload_n 1, 1) := by decide +kernel
theorem dX8_advance_84 : decode cX8_advance 84 = .ok (.iadd, 1) := by decide +kernel
theorem dX8_advance_85 : decode cX8_advance 85 = .ok (.iconst 1, 1) := by decide +kernel
theorem dX8_advance_86 : decode cX8_advance 86 = .ok (.isub, 1) := by decide +kernel
theorem dX8_advance_87 : decode cX8_advance 87 = .ok (.invokestatic 52, 3) := by decide +kernel
theorem dX8_advance_90 : decode cX8_advance 90 = .ok (.ifCond .eq 7, 3) := by decide +kernel
theorem dX8_advance_93 : decode cX8_advance 93 = .ok (.iconst 1, 1) := by decide +kernel
theorem dX8_advance_94 : decode cX8_advance 94 = .ok (.goto 4, 3) := by decide +kernel
theorem dX8_advance_97 : decode cX8_advance 97 = .ok (.iconst 0, 1) := by decide +kernel
theorem dX8_advance_98 : decode cX8_advance 98 = .ok (.iadd, 1) := by decide +kernel
theorem dX8_advance_99 : decode cX8_advance 99 = .ok (.istore_n 2, 1) := by decide +kernel
theorem dX8_advance_100 : decode cX8_advance 100 = .ok (.iinc 3 1, 3) := by decide +kernel
theorem dX8_advance_103 : decode cX8_advance 103 = .ok (.goto (-60), 3) := by decide +kernel
theorem dX8_advance_106 : decode cX8_advance 106 = .ok (.aload_n 0, 1) := by decide +kernel
theorem dX8_advance_107 : decode cX8_advance 107 = .ok (.getfield 9, 3) := by decide +kernel
theorem dX8_advance_110 : decode cX8_advance 110 = .ok (.iconst 3, 1) := by decide +kernel
theorem dX8_advance_111 : decode cX8_advance 111 = .ok (.dup2, 1) := by decide +kernel
theorem dX8_advance_112 : decode cX8_advance 112 = .ok (.iaload, 1) := by decide +kernel
theorem dX8_advance_113 : decode cX8_advance 113 = .ok (.iload_n 1, 1) := by decide +kernel
theorem dX8_advance_114 : decode cX8_advance 114 = .ok (.iadd, 1) := by decide +kernel
theorem dX8_advance_115 : decode cX8_advance 115 = .ok (.iastore, 1) := by decide +kernel
theorem dX8_advance_116 : decode cX8_advance 116 = .ok (.iload_n 2, 1) := by decide +kernel
theorem dX8_advance_117 : decode cX8_advance 117 = .ok (.ireturn, 1) := by decide +kernel
theorem dX8_tonight_0 : decode cX8_tonight 0 = .ok (.aload_n 0, 1) := by decide +kernel
theorem dX8_tonight_1 : decode cX8_tonight 1 = .ok (.iconst 0, 1) := by decide +kernel
theorem dX8_tonight_2 : decode cX8_tonight 2 = .ok (.putfield 42, 3) := by decide +kernel
theorem dX8_tonight_5 : decode cX8_tonight 5 = .ok (.aload_n 0, 1) := by decide +kernel
theorem dX8_tonight_6 : decode cX8_tonight 6 = .ok (.getfield 9, 3) := by decide +kernel
theorem dX8_tonight_9 : decode cX8_tonight 9 = .ok (.iconst 3, 1) := by decide +kernel
theorem dX8_tonight_10 : decode cX8_tonight 10 = .ok (.iaload, 1) := by decide +kernel
theorem dX8_tonight_11 : decode cX8_tonight 11 = .ok (.ireturn, 1) := by decide +kernel
theorem dX8_obstacle_0 : decode cX8_obstacle 0 = .ok (.aload_n 0, 1) := by decide +kernel
theorem dX8_obstacle_1 : decode cX8_obstacle 1 = .ok (.aload_n 0, 1) := by decide +kernel
theorem dX8_obstacle_2 : decode cX8_obstacle 2 = .ok (.iload_n 1, 1) := by decide +kernel
theorem dX8_obstacle_3 : decode cX8_obstacle 3 = .ok (.invokevirtual 94, 3) := by decide +kernel
theorem dX8_obstacle_6 : decode cX8_obstacle 6 = .ok (.ifCond .eq 15, 3) := by decide +kernel
theorem dX8_obstacle_9 : decode cX8_obstacle 9 = .ok (.aload_n 0, 1) := by decide +kernel
theorem dX8_obstacle_10 : decode cX8_obstacle 10 = .ok (.iload_n 2, 1) := by decide +kernel
theorem dX8_obstacle_11 : decode cX8_obstacle 11 = .ok (.invokevirtual 59, 3) := by decide +kernel
theorem dX8_obstacle_14 : decode cX8_obstacle 14 = .ok (.ifCond .eq 7, 3) := by decide +kernel
theorem dX8_obstacle_17 : decode cX8_obstacle 17 = .ok (.iconst 0, 1) := by decide +kernel
theorem dX8_obstacle_18 : decode cX8_obstacle 18 = .ok (.goto 4, 3) := by decide +kernel
theorem dX8_obstacle_21 : decode cX8_obstacle 21 = .ok (.iconst 1, 1) := by decide +kernel
theorem dX8_obstacle_22 : decode cX8_obstacle 22 = .ok (.putfield 42, 3) := by decide +kernel
theorem dX8_obstacle_25 : decode cX8_obstacle 25 = .ok (.aload_n 0, 1) := by decide +kernel
theorem dX8_obstacle_26 : decode cX8_obstacle 26 = .ok (.getfield 42, 3) := by decide +kernel
theorem dX8_obstacle_29 : decode cX8_obstacle 29 = .ok (.ifCond .eq 5, 3) := by decide +kernel
theorem dX8_obstacle_32 : decode cX8_obstacle 32 = .ok (.iconst 0, 1) := by decide +kernel
theorem dX8_obstacle_33 : decode cX8_obstacle 33 = .ok (.ireturn, 1) := by decide +kernel
theorem dX8_obstacle_34 : decode cX8_obstacle 34 = .ok (.aload_n 0, 1) := by decide +kernel
theorem dX8_obstacle_35 : decode cX8_obstacle 35 = .ok (.iload_n 1, 1) := by decide +kernel
theorem dX8_obstacle_36 : decode cX8_obstacle 36 = .ok (.invokevirtual 207, 3) := by decide +kernel
theorem dX8_obstacle_39 : decode cX8_obstacle 39 = .ok (.aload_n 0, 1) := by decide +kernel
theorem dX8_obstacle_40 : decode cX8_obstacle 40 = .ok (.aload_n 0, 1) := by decide +kernel
theorem dX8_obstacle_41 : decode cX8_obstacle 41 = .ok (.iload_n 1, 1) := by decide +kernel
theorem dX8_obstacle_42 : decode cX8_obstacle 42 = .ok (.iconst 0, 1) := by decide +kernel
theorem dX8_obstacle_43 : decode cX8_obstacle 43 = .ok (.invokevirtual 97, 3) := by decide +kernel
theorem dX8_obstacle_46 : decode cX8_obstacle 46 = .ok (.aload_n 0, 1) := by decide +kernel
theorem dX8_obstacle_47 : decode cX8_obstacle 47 = .ok (.iload_n 1, 1) := by decide +kernel
theorem dX8_obstacle_48 : decode cX8_obstacle 48 = .ok (.iconst 1, 1) := by decide +kernel
theorem dX8_obstacle_49 : decode cX8_obstacle 49 = .ok (.invokevirtual 97, 3) := by decide +kernel
theorem dX8_obstacle_52 : decode cX8_obstacle 52 = .ok (.aload_n 0, 1) := by decide +kernel
theorem dX8_obstacle_53 : decode cX8_obstacle 53 = .ok (.iload_n 1, 1) := by decide +kernel
theorem dX8_obstacle_54 : decode cX8_obstacle 54 = .ok (.iconst 2, 1) := by decide +kernel
theorem dX8_obstacle_55 : decode cX8_obstacle 55 = .ok (.invokevirtual 97, 3) := by decide +kernel
theorem dX8_obstacle_58 : decode cX8_obstacle 58 = .ok (.iload_n 2, 1) := by decide +kernel
theorem dX8_obstacle_59 : decode cX8_obstacle 59 = .ok (.invokevirtual 167, 3) := by decide +kernel
theorem dX8_obstacle_62 : decode cX8_obstacle 62 = .ok (.ireturn, 1) := by decide +kernel
theorem dX8_occupant_0 : decode cX8_occupant 0 = .ok (.aload_n 0, 1) := by decide +kernel
theorem dX8_occupant_1 : decode cX8_occupant 1 = .ok (.aload_n 0, 1) := by decide +kernel
theorem dX8_occupant_2 : decode cX8_occupant 2 = .ok (.iload_n 1, 1) := by decide +kernel
theorem dX8_occupant_3 : decode cX8_occupant 3 = .ok (.invokevirtual 59, 3) := by decide +kernel
theorem dX8_occupant_6 : decode cX8_occupant 6 = .ok (.ifCond .eq 14, 3) := by decide +kernel
theorem dX8_occupant_9 : decode cX8_occupant 9 = .ok (.iload_n 2, 1) := by decide +kernel
theorem dX8_occupant_10 : decode cX8_occupant 10 = .ok (.invokestatic 88, 3) := by decide +kernel
theorem dX8_occupant_13 : decode cX8_occupant 13 = .ok (.ifCond .eq 7, 3) := by decide +kernel
theorem dX8_occupant_16 : decode cX8_occupant 16 = .ok (.iconst 0, 1) := by decide +kernel
theorem dX8_occupant_17 : decode cX8_occupant 17 = .ok (.goto 4, 3) := by decide +kernel
theorem dX8_occupant_20 : decode cX8_occupant 20 = .ok (.iconst 1, 1) := by decide +kernel
theorem dX8_occupant_21 : decode cX8_occupant 21 = .ok (.putfield 42, 3) := by decide +kernel
theorem dX8_occupant_24 : decode cX8_occupant 24 = .ok (.aload_n 0, 1) := by decide +kernel
theorem dX8_occupant_25 : decode cX8_occupant 25 = .ok (.getfield 42, 3) := by decide +kernel
theorem dX8_occupant_28 : decode cX8_occupant 28 = .ok (.ifCond .eq 5, 3) := by decide +kernel
theorem dX8_occupant_31 : decode cX8_occupant 31 = .ok (.iconst 0, 1) := by decide +kernel
theorem dX8_occupant_32 : decode cX8_occupant 32 = .ok (.ireturn, 1) := by decide +kernel
theorem dX8_occupant_33 : decode cX8_occupant 33 = .ok (.aload_n 0, 1) := by decide +kernel
theorem dX8_occupant_34 : decode cX8_occupant 34 = .ok (.iconst (-1), 1) := by decide +kernel
theorem dX8_occupant_35 : decode cX8_occupant 35 = .ok (.invokevirtual 67, 3) := by decide +kernel
theorem dX8_occupant_38 : decode cX8_occupant 38 = .ok (.iconst 0, 1) := by decide +kernel
theorem dX8_occupant_39 : decode cX8_occupant 39 = .ok (.istore_n 3, 1) := by decide +kernel
theorem dX8_occupant_40 : decode cX8_occupant 40 = .ok (.iload_n 3, 1) := by decide +kernel
theorem dX8_occupant_41 : decode cX8_occupant 41 = .ok (.bipush 12, 2) := by decide +kernel
theorem dX8_occupant_43 : decode cX8_occupant 43 = .ok (.if_icmp .ge 49, 3) := by decide +kernel
theorem dX8_occupant_46 : decode cX8_occupant 46 = .ok (.aload_n 0, 1) := by decide +kernel
theorem dX8_occupant_47 : decode cX8_occupant 47 = .ok (.getfield 13, 3) := by decide +kernel
theorem dX8_occupant_50 : decode cX8_occupant 50 = .ok (.iload_n 3, 1) := by decide +kernel
theorem dX8_occupant_51 : decode cX8_occupant 51 = .ok (.iaload, 1) := by decide +kernel
theorem dX8_occupant_52 : decode cX8_occupant 52 = .ok (.iload_n 1, 1) := by decide +kernel
theorem dX8_occupant_53 : decode cX8_occupant 53 = .ok (.if_icmp .ne 33, 3) := by decide +kernel
theorem dX8_occupant_56 : decode cX8_occupant 56 = .ok (.iload_n 2, 1) := by decide +kernel
theorem dX8_occupant_57 : decode cX8_occupant 57 = .ok (.aload_n 0, 1) := by decide +kernel
theorem dX8_occupant_58 : decode cX8_occupant 58 = .ok (.getfield 16, 3) := by decide +kernel
theorem dX8_occupant_61 : decode cX8_occupant 61 = .ok (.iload_n 3, 1) := by decide +kernel
theorem dX8_occupant_62 : decode cX8_occupant 62 = .ok (.iaload, 1) := by decide +kernel
theorem dX8_occupant_63 : decode cX8_occupant 63 = .ok (.aload_n 0, 1) := by decide +kernel
theorem dX8_occupant_64 : decode cX8_occupant 64 = .ok (.getfield 16, 3) := by decide +kernel
theorem dX8_occupant_67 : decode cX8_occupant 67 = .ok (.iload_n 3, 1) := by decide +kernel
theorem dX8_occupant_68 : decode cX8_occupant 68 = .ok (.iaload, 1) := by decide +kernel
theorem dX8_occupant_69 : decode cX8_occupant 69 = .ok (.aload_n 0, 1) := by decide +kernel
theorem dX8_occupant_70 : decode cX8_occupant 70 = .ok (.getfield 19, 3) := by decide +kernel
theorem dX8_occupant_73 : decode cX8_occupant 73 = .ok (.iload_n 3, 1) := by decide +kernel
theorem dX8_occupant_74 : decode cX8_occupant 74 = .ok (.iaload, 1) := by decide +kernel
theorem dX8_occupant_75 : decode cX8_occupant 75 = .ok (.iadd, 1) := by decide +kernel
theorem dX8_occupant_76 : decode cX8_occupant 76 = .ok (.iconst 1, 1) := by decide +kernel
theorem dX8_occupant_77 : decode cX8_occupant 77 = .ok (.isub, 1) := by decide +kernel
theorem dX8_occupant_78 : decode cX8_occupant 78 = .ok (.invokestatic 52, 3) := by decide +kernel
theorem dX8_occupant_81 : decode cX8_occupant 81 = .ok (.ifCond .eq 5, 3) := by decide +kernel
theorem dX8_occupant_84 : decode cX8_occupant 84 = .ok (.iload_n 3, 1) := by decide +kernel
theorem dX8_occupant_85 : decode cX8_occupant 85 = .ok (.ireturn, 1) := by decide +kernel
theorem dX8_occupant_86 : decode cX8_occupant 86 = .ok (.iinc 3 1, 3) := by decide +kernel
theorem dX8_occupant_89 : decode cX8_occupant 89 = .ok (.goto (-49), 3) := by decide +kernel
theorem dX8_occupant_92 : decode cX8_occupant 92 = .ok (.iconst (-1), 1) := by decide +kernel
theorem dX8_occupant_93 : decode cX8_occupant 93 = .ok (.ireturn, 1) := by decide +kernel
theorem dX8_busyNight_0 : decode cX8_busyNight 0 = .ok (.aload_n 0, 1) := by decide +kernel
theorem dX8_busyNight_1 : decode cX8_busyNight 1 = .ok (.aload_n 0, 1) := by decide +kernel
theorem dX8_busyNight_2 : decode cX8_busyNight 2 = .ok (.iload_n 1, 1) := by decide +kernel
theorem dX8_busyNight_3 : decode cX8_busyNight 3 = .ok (.invokevirtual 59, 3) := by decide +kernel
theorem dX8_busyNight_6 : decode cX8_busyNight 6 = .ok (.ifCond .eq 7, 3) := by decide +kernel
theorem dX8_busyNight_9 : decode cX8_busyNight 9 = .ok (.iconst 0, 1) := by decide +kernel
theorem dX8_busyNight_10 : decode cX8_busyNight 10 = .ok (.goto 4, 3) := by decide +kernel
theorem dX8_busyNight_13 : decode cX8_busyNight 13 = .ok (.iconst 1, 1) := by decide +kernel
theorem dX8_busyNight_14 : decode cX8_busyNight 14 = .ok (.putfield 42, 3) := by decide +kernel
theorem dX8_busyNight_17 : decode cX8_busyNight 17 = .ok (.aload_n 0, 1) := by decide +kernel
theorem dX8_busyNight_18 : decode cX8_busyNight 18 = .ok (.getfield 42, 3) := by decide +kernel
theorem dX8_busyNight_21 : decode cX8_busyNight 21 = .ok (.ifCond .eq 5, 3) := by decide +kernel
theorem dX8_busyNight_24 : decode cX8_busyNight 24 = .ok (.iconst 0, 1) := by decide +kernel
theorem dX8_busyNight_25 : decode cX8_busyNight 25 = .ok (.ireturn, 1) := by decide +kernel
theorem dX8_busyNight_26 : decode cX8_busyNight 26 = .ok (.aload_n 0, 1) := by decide +kernel
theorem dX8_busyNight_27 : decode cX8_busyNight 27 = .ok (.iconst (-1), 1) := by decide +kernel
theorem dX8_busyNight_28 : decode cX8_busyNight 28 = .ok (.invokevirtual 67, 3) := by decide +kernel
theorem dX8_busyNight_31 : decode cX8_busyNight 31 = .ok (.aload_n 0, 1) := by decide +kernel
theorem dX8_busyNight_32 : decode cX8_busyNight 32 = .ok (.iload_n 1, 1) := by decide +kernel
theorem dX8_busyNight_33 : decode cX8_busyNight 33 = .ok (.invokevirtual 71, 3) := by decide +kernel
theorem dX8_busyNight_36 : decode cX8_busyNight 36 = .ok (.lstore_n 3, 1) := by decide +kernel
theorem dX8_busyNight_37 : decode cX8_busyNight 37 = .ok (.iload_n 2, 1) := by decide +kernel
theorem dX8_busyNight_38 : decode cX8_busyNight 38 = .ok (.istore 5, 2) := by decide +kernel
theorem dX8_busyNight_40 : decode cX8_busyNight 40 = .ok (.iconst 0, 1) := by decide +kernel
theorem dX8_busyNight_41 : decode cX8_busyNight 41 = .ok (.istore 6, 2) := by decide +kernel
theorem dX8_busyNight_43 : decode cX8_busyNight 43 = .ok (.iload 6, 2) := by decide +kernel
theorem dX8_busyNight_45 : decode cX8_busyNight 45 = .ok (.bipush 60, 2) := by decide +kernel
theorem dX8_busyNight_47 : decode cX8_busyNight 47 = .ok (.if_icmp .ge 34, 3) := by decide +kernel
theorem dX8_busyNight_50 : decode cX8_busyNight 50 = .ok (.lload_n 3, 1) := by decide +kernel
theorem dX8_busyNight_51 : decode cX8_busyNight 51 = .ok (.iload 6, 2) := by decide +kernel
theorem dX8_busyNight_53 : decode cX8_busyNight 53 = .ok (.lshr, 1) := by decide +kernel
theorem dX8_busyNight_54 : decode cX8_busyNight 54 = .ok (.lconst 1, 1) := by decide +kernel
theorem dX8_busyNight_55 : decode cX8_busyNight 55 = .ok (.land, 1) := by decide +kernel
theorem dX8_busyNight_56 : decode cX8_busyNight 56 = .ok (.lconst 0, 1) := by decide +kernel
theorem dX8_busyNight_57 : decode cX8_busyNight 57 = .ok (.lcmp, 1) := by decide +kernel
theorem dX8_busyNight_58 : decode cX8_busyNight 58 = .ok (.ifCond .ne 6, 3) := by decide +kernel
theorem dX8_busyNight_61 : decode cX8_busyNight 61 = .ok (.goto 14, 3) := by decide +kernel
theorem dX8_busyNight_64 : decode cX8_busyNight 64 = .ok (.iload 5, 2) := by decide +kernel
theorem dX8_busyNight_66 : decode cX8_busyNight 66 = .ok (.ifCond .ne 6, 3) := by decide +kernel
theorem dX8_busyNight_69 : decode cX8_busyNight 69 = .ok (.iload 6, 2) := by decide +kernel
theorem dX8_busyNight_71 : decode cX8_busyNight 71 = .ok (.ireturn, 1) := by decide +kernel
theorem dX8_busyNight_72 : decode cX8_busyNight 72 = .ok (.iinc 5 (-1), 3) := by decide +kernel
theorem dX8_busyNight_75 : decode cX8_busyNight 75 = .ok (.iinc 6 1, 3) := by decide +kernel
theorem dX8_busyNight_78 : decode cX8_busyNight 78 = .ok (.goto (-35), 3) := by decide +kernel
theorem dX8_busyNight_81 : decode cX8_busyNight 81 = .ok (.aload_n 0, 1) := by decide +kernel
theorem dX8_busyNight_82 : decode cX8_busyNight 82 = .ok (.iconst 2, 1) := by decide +kernel
theorem dX8_busyNight_83 : decode cX8_busyNight 83 = .ok (.putfield 42, 3) := by decide +kernel
theorem dX8_busyNight_86 : decode cX8_busyNight 86 = .ok (.iconst 0, 1) := by decide +kernel
theorem dX8_busyNight_87 : decode cX8_busyNight 87 = .ok (.ireturn, 1) := by decide +kernel
theorem dX8_firstFree_0 : decode cX8_firstFree 0 = .ok (.aload_n 0, 1) := by decide +kernel
theorem dX8_firstFree_1 : decode cX8_firstFree 1 = .ok (.aload_n 0, 1) := by decide +kernel
theorem dX8_firstFree_2 : decode cX8_firstFree 2 = .ok (.iload_n 1, 1) := by decide +kernel
theorem dX8_firstFree_3 : decode cX8_firstFree 3 = .ok (.invokevirtual 59, 3) := by decide +kernel
theorem dX8_firstFree_6 : decode cX8_firstFree 6 = .ok (.ifCond .ne 7, 3) := by decide +kernel
theorem dX8_firstFree_9 : decode cX8_firstFree 9 = .ok (.iconst 1, 1) := by decide +kernel
theorem dX8_firstFree_10 : decode cX8_firstFree 10 = .ok (.goto 25, 3) := by decide +kernel
theorem dX8_firstFree_13 : decode cX8_firstFree 13 = .ok (.iload_n 2, 1) := by decide +kernel
theorem dX8_firstFree_14 : decode cX8_firstFree 14 = .ok (.invokestatic 88, 3) := by decide +kernel
theorem dX8_firstFree_17 : decode cX8_firstFree 17 = .ok (.ifCond .eq 17, 3) := by decide +kernel
theorem dX8_firstFree_20 : decode cX8_firstFree 20 = .ok (.iload_n 3, 1) := by decide +kernel
theorem dX8_firstFree_21 : decode cX8_firstFree 21 = .ok (.iconst 1, 1) := by decide +kernel
theorem dX8_firstFree_22 : decode cX8_firstFree 22 = .ok (.bipush 14, 2) := by decide +kernel
theorem dX8_firstFree_24 : decode cX8_firstFree 24 = .ok (.invokestatic 52, 3) := by decide +kernel
theorem dX8_firstFree_27 : decode cX8_firstFree 27 = .ok (.ifCond .eq 7, 3) := by decide +kernel
theorem dX8_firstFree_30 : decode cX8_firstFree 30 = .ok (.iconst 0, 1) := by decide +kernel
theorem dX8_firstFree_31 : decode cX8_firstFree 31 = .ok (.goto 4, 3) := by decide +kernel
theorem dX8_firstFree_34 : decode cX8_firstFree 34 = .ok (.iconst 2, 1) := by decide +kernel
theorem dX8_firstFree_35 : decode cX8_firstFree 35 = .ok (.putfield 42, 3) := by decide +kernel
theorem dX8_firstFree_38 : decode cX8_firstFree 38 = .ok (.aload_n 0, 1) := by decide +kernel
theorem dX8_firstFree_39 : decode cX8_firstFree 39 = .ok (.getfield 42, 3) := by decide +kernel
theorem dX8_firstFree_42 : decode cX8_firstFree 42 = .ok (.ifCond .eq 5, 3) := by decide +kernel
theorem dX8_firstFree_45 : decode cX8_firstFree 45 = .ok (.iconst 0, 1) := by decide +kernel
theorem dX8_firstFree_46 : decode cX8_firstFree 46 = .ok (.ireturn, 1) := by decide +kernel
theorem dX8_firstFree_47 : decode cX8_firstFree 47 = .ok (.aload_n 0, 1) := by decide +kernel
theorem dX8_firstFree_48 : decode cX8_firstFree 48 = .ok (.iconst (-1), 1) := by decide +kernel
theorem dX8_firstFree_49 : decode cX8_firstFree 49 = .ok (.invokevirtual 67, 3) := by decide +kernel
theorem dX8_firstFree_52 : decode cX8_firstFree 52 = .ok (.aload_n 0, 1) := by decide +kernel
theorem dX8_firstFree_53 : decode cX8_firstFree 53 = .ok (.iload_n 1, 1) := by decide +kernel
theorem dX8_firstFree_54 : decode cX8_firstFree 54 = .ok (.invokevirtual 71, 3) := by decide +kernel
theorem dX8_firstFree_57 : decode cX8_firstFree 57 = .ok (.lstore 4, 2) := by decide +kernel
theorem dX8_firstFree_59 : decode cX8_firstFree 59 = .ok (.iload_n 2, 1) := by decide +kernel
theorem dX8_firstFree_60 : decode cX8_firstFree 60 = .ok (.istore 6, 2) := by decide +kernel
theorem dX8_firstFree_62 : decode cX8_firstFree 62 = .ok (.iload 6, 2) := by decide +kernel
theorem dX8_firstFree_64 : decode cX8_firstFree 64 = .ok (.iload_n 3, 1) := by decide +kernel
theorem dX8_firstFree_65 : decode cX8_firstFree 65 = .ok (.iadd, 1) := by decide +kernel
theorem dX8_firstFree_66 : decode cX8_firstFree 66 = .ok (.bipush 60, 2) := by decide +kernel
theorem dX8_firstFree_68 : decode cX8_firstFree 68 = .ok (.if_icmp .gt 26, 3) := by decide +kernel
theorem dX8_firstFree_71 : decode cX8_firstFree 71 = .ok (.lload 4, 2) := by decide +kernel
theorem dX8_firstFree_73 : decode cX8_firstFree 73 = .ok (.iload 6, 2) := by decide +kernel
theorem dX8_firstFree_75 : decode cX8_firstFree 75 = .ok (.iload_n 3, 1) := by decide +kernel
theorem dX8_firstFree_76 : decode cX8_firstFree 76 = .ok (.invokestatic 103, 3) := by decide +kernel
theorem dX8_firstFree_79 : decode cX8_firstFree 79 = .ok (.land, 1) := by decide +kernel
theorem dX8_firstFree_80 : decode cX8_firstFree 80 = .ok (.lconst 0, 1) := by decide +kernel
theorem dX8_firstFree_81 : decode cX8_firstFree 81 = .ok (.lcmp, 1) := by decide +kernel
theorem dX8_firstFree_82 : decode cX8_firstFree 82 = .ok (.ifCond .ne 6, 3) := by decide +kernel
theorem dX8_firstFree_85 : decode cX8_firstFree 85 = .ok (.iload 6, 2) := by decide +kernel
theorem dX8_firstFree_87 : decode cX8_firstFree 87 = .ok (.ireturn, 1) := by decide +kernel
theorem dX8_firstFree_88 : decode cX8_firstFree 88 = .ok (.iinc 6 1, 3) := by decide +kernel
theorem dX8_firstFree_91 : decode cX8_firstFree 91 = .ok (.goto (-29), 3) := by decide +kernel
theorem dX8_firstFree_94 : decode cX8_firstFree 94 = .ok (.aload_n 0, 1) := by decide +kernel
theorem dX8_firstFree_95 : decode cX8_firstFree 95 = .ok (.iconst 3, 1) := by decide +kernel
theorem dX8_firstFree_96 : decode cX8_firstFree 96 = .ok (.putfield 42, 3) := by decide +kernel
theorem dX8_firstFree_99 : decode cX8_firstFree 99 = .ok (.iconst 0, 1) := by decide +kernel
theorem dX8_firstFree_100 : decode cX8_firstFree 100 = .ok (.ireturn, 1) := by decide +kernel
theorem dX8_power_0 : decode cX8_power 0 = .ok (.aload_n 0, 1) := by decide +kernel
theorem dX8_power_1 : decode cX8_power 1 = .ok (.iload_n 1, 1) := by decide +kernel
theorem dX8_power_2 : decode cX8_power 2 = .ok (.invokestatic 82, 3) := by decide +kernel
theorem dX8_power_5 : decode cX8_power 5 = .ok (.ifCond .eq 14, 3) := by decide +kernel
theorem dX8_power_8 : decode cX8_power 8 = .ok (.iload_n 2, 1) := by decide +kernel
theorem dX8_power_9 : decode cX8_power 9 = .ok (.invokestatic 88, 3) := by decide +kernel
theorem dX8_power_12 : decode cX8_power 12 = .ok (.ifCond .eq 7, 3) := by decide +kernel
theorem dX8_power_15 : decode cX8_power 15 = .ok (.iconst 0, 1) := by decide +kernel
theorem dX8_power_16 : decode cX8_power 16 = .ok (.goto 4, 3) := by decide +kernel
theorem dX8_power_19 : decode cX8_power 19 = .ok (.iconst 1, 1) := by decide +kernel
theorem dX8_power_20 : decode cX8_power 20 = .ok (.putfield 42, 3) := by decide +kernel
theorem dX8_power_23 : decode cX8_power 23 = .ok (.aload_n 0, 1) := by decide +kernel
theorem dX8_power_24 : decode cX8_power 24 = .ok (.getfield 42, 3) := by decide +kernel
theorem dX8_power_27 : decode cX8_power 27 = .ok (.ifCond .eq 5, 3) := by decide +kernel
theorem dX8_power_30 : decode cX8_power 30 = .ok (.iconst 0, 1) := by decide +kernel
theorem dX8_power_31 : decode cX8_power 31 = .ok (.ireturn, 1) := by decide +kernel
theorem dX8_power_32 : decode cX8_power 32 = .ok (.aload_n 0, 1) := by decide +kernel
theorem dX8_power_33 : decode cX8_power 33 = .ok (.iconst (-1), 1) := by decide +kernel
theorem dX8_power_34 : decode cX8_power 34 = .ok (.invokevirtual 67, 3) := by decide +kernel
theorem dX8_power_37 : decode cX8_power 37 = .ok (.aload_n 0, 1) := by decide +kernel
theorem dX8_power_38 : decode cX8_power 38 = .ok (.iload_n 1, 1) := by decide +kernel
theorem dX8_power_39 : decode cX8_power 39 = .ok (.iload_n 2, 1) := by decide +kernel
theorem dX8_power_40 : decode cX8_power 40 = .ok (.invokevirtual 116, 3) := by decide +kernel
theorem dX8_power_43 : decode cX8_power 43 = .ok (.ireturn, 1) := by decide +kernel
theorem dX8_peak_0 : decode cX8_peak 0 = .ok (.aload_n 0, 1) := by decide +kernel
theorem dX8_peak_1 : decode cX8_peak 1 = .ok (.iload_n 1, 1) := by decide +kernel
theorem dX8_peak_2 : decode cX8_peak 2 = .ok (.invokestatic 82, 3) := by decide +kernel
theorem dX8_peak_5 : decode cX8_peak 5 = .ok (.ifCond .eq 7, 3) := by decide +kernel
theorem dX8_peak_8 : decode cX8_peak 8 = .ok (.iconst 0, 1) := by decide +kernel
theorem dX8_peak_9 : decode cX8_peak 9 = .ok (.goto 4, 3) := by decide +kernel
theorem dX8_peak_12 : decode cX8_peak 12 = .ok (.iconst 1, 1) := by decide +kernel
theorem dX8_peak_13 : decode cX8_peak 13 = .ok (.putfield 42, 3) := by decide +kernel
theorem dX8_peak_16 : decode cX8_peak 16 = .ok (.aload_n 0, 1) := by decide +kernel
theorem dX8_peak_17 : decode cX8_peak 17 = .ok (.getfield 42, 3) := by decide +kernel
theorem dX8_peak_20 : decode cX8_peak 20 = .ok (.ifCond .eq 5, 3) := by decide +kernel
theorem dX8_peak_23 : decode cX8_peak 23 = .ok (.iconst 0, 1) := by decide +kernel
theorem dX8_peak_24 : decode cX8_peak 24 = .ok (.ireturn, 1) := by decide +kernel
theorem dX8_peak_25 : decode cX8_peak 25 = .ok (.aload_n 0, 1) := by decide +kernel
theorem dX8_peak_26 : decode cX8_peak 26 = .ok (.iconst (-1), 1) := by decide +kernel
theorem dX8_peak_27 : decode cX8_peak 27 = .ok (.invokevirtual 67, 3) := by decide +kernel
theorem dX8_peak_30 : decode cX8_peak 30 = .ok (.iconst 0, 1) := by decide +kernel
theorem dX8_peak_31 : decode cX8_peak 31 = .ok (.istore_n 2, 1) := by decide +kernel
theorem dX8_peak_32 : decode cX8_peak 32 = .ok (.iconst 0, 1) := by decide +kernel
theorem dX8_peak_33 : decode cX8_peak 33 = .ok (.istore_n 3, 1) := by decide +kernel
theorem dX8_peak_34 : decode cX8_peak 34 = .ok (.iconst 0, 1) := by decide +kernel
theorem dX8_peak_35 : decode cX8_peak 35 = .ok (.istore 4, 2) := by decide +kernel
theorem dX8_peak_37 : decode cX8_peak 37 = .ok (.iload 4, 2) := by decide +kernel
theorem dX8_peak_39 : decode cX8_peak 39 = .ok (.bipush 60, 2) := by decide +kernel
theorem dX8_peak_41 : decode cX8_peak 41 = .ok (.if_icmp .ge 44, 3) := by decide +kernel
theorem dX8_peak_44 : decode cX8_peak 44 = .ok (.aload_n 0, 1) := by decide +kernel
theorem dX8_peak_45 : decode cX8_peak 45 = .ok (.iload_n 1, 1) := by decide +kernel
theorem dX8_peak_46 : decode cX8_peak 46 = .ok (.iload 4, 2) := by decide +kernel
theorem dX8_peak_48 : decode cX8_peak 48 = .ok (.invokevirtual 116, 3) := by decide +kernel
theorem dX8_peak_51 : decode cX8_peak 51 = .ok (.istore 5, 2) := by decide +kernel
theorem dX8_peak_53 : decode cX8_peak 53 = .ok (.iload 5, 2) := by decide +kernel
theorem dX8_peak_55 : decode cX8_peak 55 = .ok (.iload_n 2, 1) := by decide +kernel
theorem dX8_peak_56 : decode cX8_peak 56 = .ok (.if_icmp .le 8, 3) := by decide +kernel
theorem dX8_peak_59 : decode cX8_peak 59 = .ok (.iload 4, 2) := by decide +kernel
theorem dX8_peak_61 : decode cX8_peak 61 = .ok (.goto 4, 3) := by decide +kernel
theorem dX8_peak_64 : decode cX8_peak 64 = .ok (.iload_n 3, 1) := by decide +kernel
theorem dX8_peak_65 : decode cX8_peak 65 = .ok (.istore_n 3, 1) := by decide +kernel
theorem dX8_peak_66 : decode cX8_peak 66 = .ok (.iload 5, 2) := by decide +kernel
theorem dX8_peak_68 : decode cX8_peak 68 = .ok (.iload_n 2, 1) := by decide +kernel
theorem dX8_peak_69 : decode cX8_peak 69 = .ok (.if_icmp .le 8, 3) := by decide +kernel
theorem dX8_peak_72 : decode cX8_peak 72 = .ok (.iload 5, 2) := by decide +kernel
theorem dX8_peak_74 : decode cX8_peak 74 = .ok (.goto 4, 3) := by decide +kernel
theorem dX8_peak_77 : decode cX8_peak 77 = .ok (.iload_n 2, 1) := by decide +kernel
theorem dX8_peak_78 : decode cX8_peak 78 = .ok (.istore_n 2, 1) := by decide +kernel
theorem dX8_peak_79 : decode cX8_peak 79 = .ok (.iinc 4 1, 3) := by decide +kernel
theorem dX8_peak_82 : decode cX8_peak 82 = .ok (.goto (-45), 3) := by decide +kernel
theorem dX8_peak_85 : decode cX8_peak 85 = .ok (.aload_n 0, 1) := by decide +kernel
theorem dX8_peak_86 : decode cX8_peak 86 = .ok (.iload_n 2, 1) := by decide +kernel
theorem dX8_peak_87 : decode cX8_peak 87 = .ok (.ifCond .ne 7, 3) := by decide +kernel
theorem dX8_peak_90 : decode cX8_peak 90 = .ok (.iconst 2, 1) := by decide +kernel
theorem dX8_peak_91 : decode cX8_peak 91 = .ok (.goto 4, 3) := by decide +kernel
theorem dX8_peak_94 : decode cX8_peak 94 = .ok (.iconst 0, 1) := by decide +kernel
theorem dX8_peak_95 : decode cX8_peak 95 = .ok (.putfield 42, 3) := by decide +kernel
theorem dX8_peak_98 : decode cX8_peak 98 = .ok (.aload_n 0, 1) := by decide +kernel
theorem dX8_peak_99 : decode cX8_peak 99 = .ok (.getfield 42, 3) := by decide +kernel
theorem dX8_peak_102 : decode cX8_peak 102 = .ok (.ifCond .ne 7, 3) := by decide +kernel
theorem dX8_peak_105 : decode cX8_peak 105 = .ok (.iload_n 3, 1) := by decide +kernel
theorem dX8_peak_106 : decode cX8_peak 106 = .ok (.goto 4, 3) := by decide +kernel
theorem dX8_peak_109 : decode cX8_peak 109 = .ok (.iconst 0, 1) := by decide +kernel
theorem dX8_peak_110 : decode cX8_peak 110 = .ok (.ireturn, 1) := by decide +kernel
theorem dX8_gap_0 : decode cX8_gap 0 = .ok (.aload_n 0, 1) := by decide +kernel
theorem dX8_gap_1 : decode cX8_gap 1 = .ok (.aload_n 0, 1) := by decide +kernel
theorem dX8_gap_2 : decode cX8_gap 2 = .ok (.iload_n 1, 1) := by decide +kernel
theorem dX8_gap_3 : decode cX8_gap 3 = .ok (.invokevirtual 59, 3) := by decide +kernel
theorem dX8_gap_6 : decode cX8_gap 6 = .ok (.ifCond .eq 7, 3) := by decide +kernel
theorem dX8_gap_9 : decode cX8_gap 9 = .ok (.iconst 0, 1) := by decide +kernel
theorem dX8_gap_10 : decode cX8_gap 10 = .ok (.goto 4, 3) := by decide +kernel
theorem dX8_gap_13 : decode cX8_gap 13 = .ok (.iconst 1, 1) := by decide +kernel
theorem dX8_gap_14 : decode cX8_gap 14 = .ok (.putfield 42, 3) := by decide +kernel
theorem dX8_gap_17 : decode cX8_gap 17 = .ok (.aload_n 0, 1) := by decide +kernel
theorem dX8_gap_18 : decode cX8_gap 18 = .ok (.getfield 42, 3) := by decide +kernel
theorem dX8_gap_21 : decode cX8_gap 21 = .ok (.ifCond .eq 5, 3) := by decide +kernel
theorem dX8_gap_24 : decode cX8_gap 24 = .ok (.iconst 0, 1) := by decide +kernel
theorem dX8_gap_25 : decode cX8_gap 25 = .ok (.ireturn, 1) := by decide +kernel
theorem dX8_gap_26 : decode cX8_gap 26 = .ok (.aload_n 0, 1) := by decide +kernel
theorem dX8_gap_27 : decode cX8_gap 27 = .ok (.iconst (-1), 1) := by decide +kernel
theorem dX8_gap_28 : decode cX8_gap 28 = .ok (.invokevirtual 67, 3) := by decide +kernel
theorem dX8_gap_31 : decode cX8_gap 31 = .ok (.aload_n 0, 1) := by decide +kernel
theorem dX8_gap_32 : decode cX8_gap 32 = .ok (.iload_n 2, 1) := by decide +kernel
theorem dX8_gap_33 : decode cX8_gap 33 = .ok (.iconst 0, 1) := by decide +kernel
theorem dX8_gap_34 : decode cX8_gap 34 = .ok (.aload_n 0, 1) := by decide +kernel
theorem dX8_gap_35 : decode cX8_gap 35 = .ok (.aload_n 0, 1) := by decide +kernel
theorem dX8_gap_36 : decode cX8_gap 36 = .ok (.iload_n 1, 1) := by decide +kernel
theorem dX8_gap_37 : decode cX8_gap 37 = .ok (.invokevirtual 71, 3) := by decide +kernel
theorem dX8_gap_40 : decode cX8_gap 40 = .ok (.iload_n 2, 1) := by decide +kernel
theorem dX8_gap_41 : decode cX8_gap 41 = .ok (.invokevirtual 112, 3) := by decide +kernel
theorem dX8_gap_44 : decode cX8_gap 44 = .ok (.iconst 1, 1) := by decide +kernel
theorem dX8_gap_45 : decode cX8_gap 45 = .ok (.isub, 1) := by decide +kernel
theorem dX8_gap_46 : decode cX8_gap 46 = .ok (.invokestatic 52, 3) := by decide +kernel
theorem dX8_gap_49 : decode cX8_gap 49 = .ok (.ifCond .eq 7, 3) := by decide +kernel
theorem dX8_gap_52 : decode cX8_gap 52 = .ok (.iconst 0, 1) := by decide +kernel
theorem dX8_gap_53 : decode cX8_gap 53 = .ok (.goto 4, 3) := by decide +kernel
theorem dX8_gap_56 : decode cX8_gap 56 = .ok (.iconst 2, 1) := by decide +kernel
theorem dX8_gap_57 : decode cX8_gap 57 = .ok (.putfield 42, 3) := by decide +kernel
theorem dX8_gap_60 : decode cX8_gap 60 = .ok (.aload_n 0, 1) := by decide +kernel
theorem dX8_gap_61 : decode cX8_gap 61 = .ok (.getfield 42, 3) := by decide +kernel
theorem dX8_gap_64 : decode cX8_gap 64 = .ok (.ifCond .eq 7, 3) := by decide +kernel
theorem dX8_gap_67 : decode cX8_gap 67 = .ok (.iconst 0, 1) := by decide +kernel
theorem dX8_gap_68 : decode cX8_gap 68 = .ok (.goto 18, 3) := by decide +kernel
theorem dX8_gap_71 : decode cX8_gap 71 = .ok (.iload_n 3, 1) := by decide +kernel
theorem dX8_gap_72 : decode cX8_gap 72 = .ok (.ifCond .eq 10, 3) := by decide +kernel
theorem dX8_gap_75 : decode cX8_gap 75 = .ok (.aload_n 0, 1) := by decide +kernel
theorem dX8_gap_76 : decode cX8_gap 76 = .ok (.getfield 109, 3) := by decide +kernel
theorem dX8_gap_79 : decode cX8_gap 79 = .ok (.goto 7, 3) := by decide +kernel
theorem dX8_gap_82 : decode cX8_gap 82 = .ok (.aload_n 0, 1) := by decide +kernel
theorem dX8_gap_83 : decode cX8_gap 83 = .ok (.getfield 106, 3) := by decide +kernel
theorem dX8_gap_86 : decode cX8_gap 86 = .ok (.ireturn, 1) := by decide +kernel
theorem dX8_sum_0 : decode cX8_sum 0 = .ok (.iconst 0, 1) := by decide +kernel
theorem dX8_sum_1 : decode cX8_sum 1 = .ok (.istore_n 3, 1) := by decide +kernel
theorem dX8_sum_2 : decode cX8_sum 2 = .ok (.iconst 0, 1) := by decide +kernel
theorem dX8_sum_3 : decode cX8_sum 3 = .ok (.istore 4, 2) := by decide +kernel
theorem dX8_sum_5 : decode cX8_sum 5 = .ok (.iload 4, 2) := by decide +kernel
theorem dX8_sum_7 : decode cX8_sum 7 = .ok (.aload_n 0, 1) := by decide +kernel
theorem dX8_sum_8 : decode cX8_sum 8 = .ok (.getfield 9, 3) := by decide +kernel
theorem dX8_sum_11 : decode cX8_sum 11 = .ok (.iconst 1, 1) := by decide +kernel
theorem dX8_sum_12 : decode cX8_sum 12 = .ok (.iaload, 1) := by decide +kernel
theorem dX8_sum_13 : decode cX8_sum 13 = .ok (.if_icmp .ge 43, 3) := by decide +kernel
theorem dX8_sum_16 : decode cX8_sum 16 = .ok (.iload_n 3, 1) := by decide +kernel
theorem dX8_sum_17 : decode cX8_sum 17 = .ok (.aload_n 0, 1) := by decide +kernel
theorem dX8_sum_18 : decode cX8_sum 18 = .ok (.iload 4, 2) := by decide +kernel
theorem dX8_sum_20 : decode cX8_sum 20 = .ok (.bipush 8, 2) := by decide +kernel
theorem dX8_sum_22 : decode cX8_sum 22 = .ok (.invokevirtual 97, 3) := by decide +kernel
theorem dX8_sum_25 : decode cX8_sum 25 = .ok (.iload_n 2, 1) := by decide +kernel
theorem dX8_sum_26 : decode cX8_sum 26 = .ok (.if_icmp .eq 7, 3) := by decide +kernel
theorem dX8_sum_29 : decode cX8_sum 29 = .ok (.iconst 0, 1) := by decide +kernel
theorem dX8_sum_30 : decode cX8_sum 30 = .ok (.goto 18, 3) := by decide +kernel
theorem dX8_sum_33 : decode cX8_sum 33 = .ok (.iload_n 1, 1) := by decide +kernel
theorem dX8_sum_34 : decode cX8_sum 34 = .ok (.ifCond .ge 7, 3) := by decide +kernel
theorem dX8_sum_37 : decode cX8_sum 37 = .ok (.iconst 1, 1) := by decide +kernel
theorem dX8_sum_38 : decode cX8_sum 38 = .ok (.goto 10, 3) := by decide +kernel
theorem dX8_sum_41 : decode cX8_sum 41 = .ok (.aload_n 0, 1) := by decide +kernel
theorem dX8_sum_42 : decode cX8_sum 42 = .ok (.iload 4, 2) := by decide +kernel
theorem dX8_sum_44 : decode cX8_sum 44 = .ok (.iload_n 1, 1) := by decide +kernel
theorem dX8_sum_45 : decode cX8_sum 45 = .ok (.invokevirtual 97, 3) := by decide +kernel
theorem dX8_sum_48 : decode cX8_sum 48 = .ok (.iadd, 1) := by decide +kernel
theorem dX8_sum_49 : decode cX8_sum 49 = .ok (.istore_n 3, 1) := by decide +kernel
theorem dX8_sum_50 : decode cX8_sum 50 = .ok (.iinc 4 1, 3) := by decide +kernel
theorem dX8_sum_53 : decode cX8_sum 53 = .ok (.goto (-48), 3) := by decide +kernel
theorem dX8_sum_56 : decode cX8_sum 56 = .ok (.iload_n 3, 1) := by decide +kernel
theorem dX8_sum_57 : decode cX8_sum 57 = .ok (.ireturn, 1) := by decide +kernel
theorem dX8_busyNights_0 : decode cX8_busyNights 0 = .ok (.aload_n 0, 1) := by decide +kernel
theorem dX8_busyNights_1 : decode cX8_busyNights 1 = .ok (.iconst (-1), 1) := by decide +kernel
theorem dX8_busyNights_2 : decode cX8_busyNights 2 = .ok (.invokevirtual 67, 3) := by decide +kernel
theorem dX8_busyNights_5 : decode cX8_busyNights 5 = .ok (.iconst 0, 1) := by decide +kernel
theorem dX8_busyNights_6 : decode cX8_busyNights 6 = .ok (.istore_n 1, 1) := by decide +kernel
theorem dX8_busyNights_7 : decode cX8_busyNights 7 = .ok (.iconst 0, 1) := by decide +kernel
theorem dX8_busyNights_8 : decode cX8_busyNights 8 = .ok (.istore_n 2, 1) := by decide +kernel
theorem dX8_busyNights_9 : decode cX8_busyNights 9 = .ok (.iload_n 2, 1) := by decide +kernel
theorem dX8_busyNights_10 : decode cX8_busyNights 10 = .ok (.aload_n 0, 1) := by decide +kernel
theorem dX8_busyNights_11 : decode cX8_busyNights 11 = .ok (.getfield 9, 3) := by decide +kernel
theorem dX8_busyNights_14 : decode cX8_busyNights 14 = .ok (.iconst 0, 1) := by decide +kernel
theorem dX8_busyNights_15 : decode cX8_busyNights 15 = .ok (.iaload, 1) := by decide +kernel
theorem dX8_busyNights_16 : decode cX8_busyNights 16 = .ok (.if_icmp .ge 20, 3) := by decide +kernel
theorem dX8_busyNights_19 : decode cX8_busyNights 19 = .ok (.iload_n 1, 1) := by decide +kernel
theorem dX8_busyNights_20 : decode cX8_busyNights 20 = .ok (.aload_n 0, 1) := by decide +kernel
theorem dX8_busyNights_21 : decode cX8_busyNights 21 = .ok (.iload_n 2, 1) := by decide +kernel
theorem dX8_busyNights_22 : decode cX8_busyNights 22 = .ok (.invokevirtual 71, 3) := by decide +kernel
theorem dX8_busyNights_25 : decode cX8_busyNights 25 = .ok (.invokestatic 75, 3) := by decide +kernel
theorem dX8_busyNights_28 : decode cX8_busyNights 28 = .ok (.iadd, 1) := by decide +kernel
theorem dX8_busyNights_29 : decode cX8_busyNights 29 = .ok (.istore_n 1, 1) := by decide +kernel
theorem dX8_busyNights_30 : decode cX8_busyNights 30 = .ok (.iinc 2 1, 3) := by decide +kernel
theorem dX8_busyNights_33 : decode cX8_busyNights 33 = .ok (.goto (-24), 3) := by decide +kernel
theorem dX8_busyNights_36 : decode cX8_busyNights 36 = .ok (.iload_n 1, 1) := by decide +kernel
theorem dX8_busyNights_37 : decode cX8_busyNights 37 = .ok (.ireturn, 1) := by decide +kernel
theorem dX8_account_0 : decode cX8_account 0 = .ok (.aload_n 0, 1) := by decide +kernel
theorem dX8_account_1 : decode cX8_account 1 = .ok (.iload_n 1, 1) := by decide +kernel
theorem dX8_account_2 : decode cX8_account 2 = .ok (.iconst 0, 1) := by decide +kernel
theorem dX8_account_3 : decode cX8_account 3 = .ok (.bipush 7, 2) := by decide +kernel
theorem dX8_account_5 : decode cX8_account 5 = .ok (.invokestatic 52, 3) := by decide +kernel
theorem dX8_account_8 : decode cX8_account 8 = .ok (.ifCond .eq 7, 3) := by decide +kernel
theorem dX8_account_11 : decode cX8_account 11 = .ok (.iconst 0, 1) := by decide +kernel
theorem dX8_account_12 : decode cX8_account 12 = .ok (.goto 4, 3) := by decide +kernel
theorem dX8_account_15 : decode cX8_account 15 = .ok (.iconst 1, 1) := by decide +kernel
theorem dX8_account_16 : decode cX8_account 16 = .ok (.putfield 42, 3) := by decide +kernel
theorem dX8_account_19 : decode cX8_account 19 = .ok (.aload_n 0, 1) := by decide +kernel
theorem dX8_account_20 : decode cX8_account 20 = .ok (.getfield 42, 3) := by decide +kernel
theorem dX8_account_23 : decode cX8_account 23 = .ok (.ifCond .eq 5, 3) := by decide +kernel
theorem dX8_account_26 : decode cX8_account 26 = .ok (.iconst 0, 1) := by decide +kernel
theorem dX8_account_27 : decode cX8_account 27 = .ok (.ireturn, 1) := by decide +kernel
theorem dX8_account_28 : decode cX8_account 28 = .ok (.aload_n 0, 1) := by decide +kernel
theorem dX8_account_29 : decode cX8_account 29 = .ok (.iconst (-1), 1) := by decide +kernel
theorem dX8_account_30 : decode cX8_account 30 = .ok (.invokevirtual 67, 3) := by decide +kernel
theorem dX8_account_33 : decode cX8_account 33 = .ok (.iload_n 1, 1) := by decide +kernel
theorem dX8_account_34 : decode cX8_account 34 = .ok (.tableswitch 89 0 6 #[42, 49, 56, 63, 71, 79, 84], 42) := by decide +kernel
theorem dX8_account_76 : decode cX8_account 76 = .ok (.aload_n 0, 1) := by decide +kernel
theorem dX8_account_77 : decode cX8_account 77 = .ok (.getfield 9, 3) := by decide +kernel
theorem dX8_account_80 : decode cX8_account 80 = .ok (.iconst 0, 1) := by decide +kernel
theorem dX8_account_81 : decode cX8_account 81 = .ok (.iaload, 1) := by decide +kernel
theorem dX8_account_82 : decode cX8_account 82 = .ok (.ireturn, 1) := by decide +kernel
theorem dX8_account_83 : decode cX8_account 83 = .ok (.aload_n 0, 1) := by decide +kernel
theorem dX8_account_84 : decode cX8_account 84 = .ok (.iconst (-1), 1) := by decide +kernel
theorem dX8_account_85 : decode cX8_account 85 = .ok (.iconst 1, 1) := by decide +kernel
theorem dX8_account_86 : decode cX8_account 86 = .ok (.invokevirtual 210, 3) := by decide +kernel
theorem dX8_account_89 : decode cX8_account 89 = .ok (.ireturn, 1) := by decide +kernel
theorem dX8_account_90 : decode cX8_account 90 = .ok (.aload_n 0, 1) := by decide +kernel
theorem dX8_account_91 : decode cX8_account 91 = .ok (.iconst (-1), 1) := by decide +kernel
theorem dX8_account_92 : decode cX8_account 92 = .ok (.iconst 0, 1) := by decide +kernel
theorem dX8_account_93 : decode cX8_account 93 = .ok (.invokevirtual 210, 3) := by decide +kernel
theorem dX8_account_96 : decode cX8_account 96 = .ok (.ireturn, 1) := by decide +kernel
theorem dX8_account_97 : decode cX8_account 97 = .ok (.aload_n 0, 1) := by decide +kernel
theorem dX8_account_98 : decode cX8_account 98 = .ok (.bipush 7, 2) := by decide +kernel
theorem dX8_account_100 : decode cX8_account 100 = .ok (.iconst 1, 1) := by decide +kernel
theorem dX8_account_101 : decode cX8_account 101 = .ok (.invokevirtual 210, 3) := by decide +kernel
theorem dX8_account_104 : decode cX8_account 104 = .ok (.ireturn, 1) := by decide +kernel
theorem dX8_account_105 : decode cX8_account 105 = .ok (.aload_n 0, 1) := by decide +kernel
theorem dX8_account_106 : decode cX8_account 106 = .ok (.bipush 9, 2) := by decide +kernel
theorem dX8_account_108 : decode cX8_account 108 = .ok (.iconst 0, 1) := by decide +kernel
theorem dX8_account_109 : decode cX8_account 109 = .ok (.invokevirtual 210, 3) := by decide +kernel
theorem dX8_account_112 : decode cX8_account 112 = .ok (.ireturn, 1) := by decide +kernel
theorem dX8_account_113 : decode cX8_account 113 = .ok (.aload_n 0, 1) := by decide +kernel
theorem dX8_account_114 : decode cX8_account 114 = .ok (.invokevirtual 123, 3) := by decide +kernel
theorem dX8_account_117 : decode cX8_account 117 = .ok (.ireturn, 1) := by decide +kernel
theorem dX8_account_118 : decode cX8_account 118 = .ok (.aload_n 0, 1) := by decide +kernel
theorem dX8_account_119 : decode cX8_account 119 = .ok (.invokevirtual 213, 3) := by decide +kernel
theorem dX8_account_122 : decode cX8_account 122 = .ok (.ireturn, 1) := by decide +kernel
theorem dX8_account_123 : decode cX8_account 123 = .ok (.aload_n 0, 1) := by decide +kernel
theorem dX8_account_124 : decode cX8_account 124 = .ok (.getfield 9, 3) := by decide +kernel
theorem dX8_account_127 : decode cX8_account 127 = .ok (.iconst 2, 1) := by decide +kernel
theorem dX8_account_128 : decode cX8_account 128 = .ok (.iaload, 1) := by decide +kernel
theorem dX8_account_129 : decode cX8_account 129 = .ok (.ireturn, 1) := by decide +kernel
theorem dX8_share_0 : decode cX8_share 0 = .ok (.aload_n 0, 1) := by decide +kernel
theorem dX8_share_1 : decode cX8_share 1 = .ok (.aload_n 0, 1) := by decide +kernel
theorem dX8_share_2 : decode cX8_share 2 = .ok (.getfield 9, 3) := by decide +kernel
theorem dX8_share_5 : decode cX8_share 5 = .ok (.iconst 0, 1) := by decide +kernel
theorem dX8_share_6 : decode cX8_share 6 = .ok (.iaload, 1) := by decide +kernel
theorem dX8_share_7 : decode cX8_share 7 = .ok (.ifCond .ne 7, 3) := by decide +kernel
theorem dX8_share_10 : decode cX8_share 10 = .ok (.iconst 1, 1) := by decide +kernel
theorem dX8_share_11 : decode cX8_share 11 = .ok (.goto 4, 3) := by decide +kernel
theorem dX8_share_14 : decode cX8_share 14 = .ok (.iconst 0, 1) := by decide +kernel
theorem dX8_share_15 : decode cX8_share 15 = .ok (.putfield 42, 3) := by decide +kernel
theorem dX8_share_18 : decode cX8_share 18 = .ok (.aload_n 0, 1) := by decide +kernel
theorem dX8_share_19 : decode cX8_share 19 = .ok (.getfield 42, 3) := by decide +kernel
theorem dX8_share_22 : decode cX8_share 22 = .ok (.ifCond .ne 22, 3) := by decide +kernel
theorem dX8_share_25 : decode cX8_share 25 = .ok (.aload_n 0, 1) := by decide +kernel
theorem dX8_share_26 : decode cX8_share 26 = .ok (.invokevirtual 213, 3) := by decide +kernel
theorem dX8_share_29 : decode cX8_share 29 = .ok (.i2d, 1) := by decide +kernel
theorem dX8_share_30 : decode cX8_share 30 = .ok (.bipush 60, 2) := by decide +kernel
theorem dX8_share_32 : decode cX8_share 32 = .ok (.aload_n 0, 1) := by decide +kernel
theorem dX8_share_33 : decode cX8_share 33 = .ok (.getfield 9, 3) := by decide +kernel
theorem dX8_share_36 : decode cX8_share 36 = .ok (.iconst 0, 1) := by decide +kernel
theorem dX8_share_37 : decode cX8_share 37 = .ok (.iaload, 1) := by decide +kernel
theorem dX8_share_38 : decode cX8_share 38 = .ok (.imul, 1) := by decide +kernel
theorem dX8_share_39 : decode cX8_share 39 = .ok (.i2d, 1) := by decide +kernel
theorem dX8_share_40 : decode cX8_share 40 = .ok (.ddiv, 1) := by decide +kernel
theorem dX8_share_41 : decode cX8_share 41 = .ok (.goto 4, 3) := by decide +kernel
theorem dX8_share_44 : decode cX8_share 44 = .ok (.dconst 0, 1) := by decide +kernel
theorem dX8_share_45 : decode cX8_share 45 = .ok (.dreturn, 1) := by decide +kernel
theorem dX8_undo_0 : decode cX8_undo 0 = .ok (.aload_n 0, 1) := by decide +kernel
theorem dX8_undo_1 : decode cX8_undo 1 = .ok (.aload_n 0, 1) := by decide +kernel
theorem dX8_undo_2 : decode cX8_undo 2 = .ok (.getfield 45, 3) := by decide +kernel
theorem dX8_undo_5 : decode cX8_undo 5 = .ok (.ifCond .ne 7, 3) := by decide +kernel
theorem dX8_undo_8 : decode cX8_undo 8 = .ok (.iconst 1, 1) := by decide +kernel
theorem dX8_undo_9 : decode cX8_undo 9 = .ok (.goto 4, 3) := by decide +kernel
theorem dX8_undo_12 : decode cX8_undo 12 = .ok (.iconst 0, 1) := by decide +kernel
theorem dX8_undo_13 : decode cX8_undo 13 = .ok (.putfield 42, 3) := by decide +kernel
theorem dX8_undo_16 : decode cX8_undo 16 = .ok (.aload_n 0, 1) := by decide +kernel
theorem dX8_undo_17 : decode cX8_undo 17 = .ok (.getfield 42, 3) := by decide +kernel
theorem dX8_undo_20 : decode cX8_undo 20 = .ok (.ifCond .eq 5, 3) := by decide +kernel
theorem dX8_undo_23 : decode cX8_undo 23 = .ok (.iconst 0, 1) := by decide +kernel
theorem dX8_undo_24 : decode cX8_undo 24 = .ok (.ireturn, 1) := by decide +kernel
theorem dX8_undo_25 : decode cX8_undo 25 = .ok (.aload_n 0, 1) := by decide +kernel
theorem dX8_undo_26 : decode cX8_undo 26 = .ok (.aload_n 0, 1) := by decide +kernel
theorem dX8_undo_27 : decode cX8_undo 27 = .ok (.getfield 45, 3) := by decide +kernel
theorem dX8_undo_30 : decode cX8_undo 30 = .ok (.iconst 0, 1) := by decide +kernel
theorem dX8_undo_31 : decode cX8_undo 31 = .ok (.invokevirtual 48, 3) := by decide +kernel
theorem dX8_undo_34 : decode cX8_undo 34 = .ok (.aload_n 0, 1) := by decide +kernel
theorem dX8_undo_35 : decode cX8_undo 35 = .ok (.dup, 1) := by decide +kernel
theorem dX8_undo_36 : decode cX8_undo 36 = .ok (.getfield 45, 3) := by decide +kernel
theorem dX8_undo_39 : decode cX8_undo 39 = .ok (.iconst 1, 1) := by decide +kernel
theorem dX8_undo_40 : decode cX8_undo 40 = .ok (.isub, 1) := by decide +kernel
theorem dX8_undo_41 : decode cX8_undo 41 = .ok (.putfield 45, 3) := by decide +kernel
theorem dX8_undo_44 : decode cX8_undo 44 = .ok (.aload_n 0, 1) := by decide +kernel
theorem dX8_undo_45 : decode cX8_undo 45 = .ok (.getfield 45, 3) := by decide +kernel
theorem dX8_undo_48 : decode cX8_undo 48 = .ok (.ireturn, 1) := by decide +kernel
theorem dX8_save_0 : decode cX8_save 0 = .ok (.aload_n 0, 1) := by decide +kernel
theorem dX8_save_1 : decode cX8_save 1 = .ok (.iconst 0, 1) := by decide +kernel
theorem dX8_save_2 : decode cX8_save 2 = .ok (.putfield 42, 3) := by decide +kernel
theorem dX8_save_5 : decode cX8_save 5 = .ok (.aload_n 0, 1) := by decide +kernel
theorem dX8_save_6 : decode cX8_save 6 = .ok (.iconst 1, 1) := by decide +kernel
theorem dX8_save_7 : decode cX8_save 7 = .ok (.putfield 216, 3) := by decide +kernel
theorem dX8_save_10 : decode cX8_save 10 = .ok (.aload_n 0, 1) := by decide +kernel
theorem dX8_save_11 : decode cX8_save 11 = .ok (.iconst 0, 1) := by decide +kernel
theorem dX8_save_12 : decode cX8_save 12 = .ok (.bipush 9, 2) := by decide +kernel
theorem dX8_save_14 : decode cX8_save 14 = .ok (.invokevirtual 48, 3) := by decide +kernel
theorem dX8_save_17 : decode cX8_save 17 = .ok (.return_, 1) := by decide +kernel
theorem dX8_restore_0 : decode cX8_restore 0 = .ok (.aload_n 0, 1) := by decide +kernel
theorem dX8_restore_1 : decode cX8_restore 1 = .ok (.aload_n 0, 1) := by decide +kernel
theorem dX8_restore_2 : decode cX8_restore 2 = .ok (.getfield 216, 3) := by decide +kernel
theorem dX8_restore_5 : decode cX8_restore 5 = .ok (.ifCond .eq 7, 3) := by decide +kernel
theorem dX8_restore_8 : decode cX8_restore 8 = .ok (.iconst 0, 1) := by decide +kernel
theorem dX8_restore_9 : decode cX8_restore 9 = .ok (.goto 4, 3) := by decide +kernel
theorem dX8_restore_12 : decode cX8_restore 12 = .ok (.iconst 1, 1) := by decide +kernel
theorem dX8_restore_13 : decode cX8_restore 13 = .ok (.putfield 42, 3) := by decide +kernel
theorem dX8_restore_16 : decode cX8_restore 16 = .ok (.aload_n 0, 1) := by decide +kernel
theorem dX8_restore_17 : decode cX8_restore 17 = .ok (.getfield 42, 3) := by decide +kernel
theorem dX8_restore_20 : decode cX8_restore 20 = .ok (.ifCond .eq 4, 3) := by decide +kernel
theorem dX8_restore_23 : decode cX8_restore 23 = .ok (.return_, 1) := by decide +kernel
theorem dX8_restore_24 : decode cX8_restore 24 = .ok (.aload_n 0, 1) := by decide +kernel
theorem dX8_restore_25 : decode cX8_restore 25 = .ok (.bipush 9, 2) := by decide +kernel
theorem dX8_restore_27 : decode cX8_restore 27 = .ok (.iconst 0, 1) := by decide +kernel
theorem dX8_restore_28 : decode cX8_restore 28 = .ok (.invokevirtual 48, 3) := by decide +kernel
theorem dX8_restore_31 : decode cX8_restore 31 = .ok (.aload_n 0, 1) := by decide +kernel
theorem dX8_restore_32 : decode cX8_restore 32 = .ok (.iconst 0, 1) := by decide +kernel
theorem dX8_restore_33 : decode cX8_restore 33 = .ok (.putfield 45, 3) := by decide +kernel
theorem dX8_restore_36 : decode cX8_restore 36 = .ok (.return_, 1) := by decide +kernel
theorem dJx00060_init_a7421_0 : decode cJx00060_init_a7421 0 = .ok (.aload_n 0, 1) := by decide +kernel
theorem dJx00060_init_a7421_1 : decode cJx00060_init_a7421 1 = .ok (.aload_n 1, 1) := by decide +kernel
theorem dJx00060_init_a7421_2 : decode cJx00060_init_a7421 2 = .ok (.invokespecial 7, 3) := by decide +kernel
theorem dJx00060_init_a7421_5 : decode cJx00060_init_a7421 5 = .ok (.return_, 1) := by decide +kernel
theorem dJ13_bitCount_95d88_0 : decode cJ13_bitCount_95d88 0 = .ok (.lload_n 0, 1) := by decide +kernel
theorem dJ13_bitCount_95d88_1 : decode cJ13_bitCount_95d88 1 = .ok (.lload_n 0, 1) := by decide +kernel
theorem dJ13_bitCount_95d88_2 : decode cJ13_bitCount_95d88 2 = .ok (.iconst 1, 1) := by decide +kernel
theorem dJ13_bitCount_95d88_3 : decode cJ13_bitCount_95d88 3 = .ok (.lushr, 1) := by decide +kernel
theorem dJ13_bitCount_95d88_4 : decode cJ13_bitCount_95d88 4 = .ok (.ldc2_w 314, 3) := by decide +kernel
theorem dJ13_bitCount_95d88_7 : decode cJ13_bitCount_95d88 7 = .ok (.land, 1) := by decide +kernel
theorem dJ13_bitCount_95d88_8 : decode cJ13_bitCount_95d88 8 = .ok (.lsub, 1) := by decide +kernel
theorem dJ13_bitCount_95d88_9 : decode cJ13_bitCount_95d88 9 = .ok (.lstore_n 0, 1) := by decide +kernel
theorem dJ13_bitCount_95d88_10 : decode cJ13_bitCount_95d88 10 = .ok (.lload_n 0, 1) := by decide +kernel
theorem dJ13_bitCount_95d88_11 : decode cJ13_bitCount_95d88 11 = .ok (.ldc2_w 316, 3) := by decide +kernel
theorem dJ13_bitCount_95d88_14 : decode cJ13_bitCount_95d88 14 = .ok (.land, 1) := by decide +kernel
theorem dJ13_bitCount_95d88_15 : decode cJ13_bitCount_95d88 15 = .ok (.lload_n 0, 1) := by decide +kernel
theorem dJ13_bitCount_95d88_16 : decode cJ13_bitCount_95d88 16 = .ok (.iconst 2, 1) := by decide +kernel
theorem dJ13_bitCount_95d88_17 : decode cJ13_bitCount_95d88 17 = .ok (.lushr, 1) := by decide +kernel
theorem dJ13_bitCount_95d88_18 : decode cJ13_bitCount_95d88 18 = .ok (.ldc2_w 316, 3) := by decide +kernel
theorem dJ13_bitCount_95d88_21 : decode cJ13_bitCount_95d88 21 = .ok (.land, 1) := by decide +kernel
theorem dJ13_bitCount_95d88_22 : decode cJ13_bitCount_95d88 22 = .ok (.ladd, 1) := by decide +kernel
theorem dJ13_bitCount_95d88_23 : decode cJ13_bitCount_95d88 23 = .ok (.lstore_n 0, 1) := by decide +kernel
theorem dJ13_bitCount_95d88_24 : decode cJ13_bitCount_95d88 24 = .ok (.lload_n 0, 1) := by decide +kernel
theorem dJ13_bitCount_95d88_25 : decode cJ13_bitCount_95d88 25 = .ok (.lload_n 0, 1) := by decide +kernel
theorem dJ13_bitCount_95d88_26 : decode cJ13_bitCount_95d88 26 = .ok (.iconst 4, 1) := by decide +kernel
theorem dJ13_bitCount_95d88_27 : decode cJ13_bitCount_95d88 27 = .ok (.lushr, 1) := by decide +kernel
theorem dJ13_bitCount_95d88_28 : decode cJ13_bitCount_95d88 28 = .ok (.ladd, 1) := by decide +kernel
theorem dJ13_bitCount_95d88_29 : decode cJ13_bitCount_95d88 29 = .ok (.ldc2_w 318, 3) := by decide +kernel
theorem dJ13_bitCount_95d88_32 : decode cJ13_bitCount_95d88 32 = .ok (.land, 1) := by decide +kernel
theorem dJ13_bitCount_95d88_33 : decode cJ13_bitCount_95d88 33 = .ok (.lstore_n 0, 1) := by decide +kernel
theorem dJ13_bitCount_95d88_34 : decode cJ13_bitCount_95d88 34 = .ok (.lload_n 0, 1) := by decide +kernel
theorem dJ13_bitCount_95d88_35 : decode cJ13_bitCount_95d88 35 = .ok (.lload_n 0, 1) := by decide +kernel
theorem dJ13_bitCount_95d88_36 : decode cJ13_bitCount_95d88 36 = .ok (.bipush 8, 2) := by decide +kernel
theorem dJ13_bitCount_95d88_38 : decode cJ13_bitCount_95d88 38 = .ok (.lushr, 1) := by decide +kernel
theorem dJ13_bitCount_95d88_39 : decode cJ13_bitCount_95d88 39 = .ok (.ladd, 1) := by decide +kernel
theorem dJ13_bitCount_95d88_40 : decode cJ13_bitCount_95d88 40 = .ok (.lstore_n 0, 1) := by decide +kernel
theorem dJ13_bitCount_95d88_41 : decode cJ13_bitCount_95d88 41 = .ok (.lload_n 0, 1) := by decide +kernel
theorem dJ13_bitCount_95d88_42 : decode cJ13_bitCount_95d88 42 = .ok (.lload_n 0, 1) := by decide +kernel
theorem dJ13_bitCount_95d88_43 : decode cJ13_bitCount_95d88 43 = .ok (.bipush 16, 2) := by decide +kernel
theorem dJ13_bitCount_95d88_45 : decode cJ13_bitCount_95d88 45 = .ok (.lushr, 1) := by decide +kernel
theorem dJ13_bitCount_95d88_46 : decode cJ13_bitCount_95d88 46 = .ok (.ladd, 1) := by decide +kernel
theorem dJ13_bitCount_95d88_47 : decode cJ13_bitCount_95d88 47 = .ok (.lstore_n 0, 1) := by decide +kernel
theorem dJ13_bitCount_95d88_48 : decode cJ13_bitCount_95d88 48 = .ok (.lload_n 0, 1) := by decide +kernel
theorem dJ13_bitCount_95d88_49 : decode cJ13_bitCount_95d88 49 = .ok (.lload_n 0, 1) := by decide +kernel
theorem dJ13_bitCount_95d88_50 : decode cJ13_bitCount_95d88 50 = .ok (.bipush 32, 2) := by decide +kernel
theorem dJ13_bitCount_95d88_52 : decode cJ13_bitCount_95d88 52 = .ok (.lushr, 1) := by decide +kernel
theorem dJ13_bitCount_95d88_53 : decode cJ13_bitCount_95d88 53 = .ok (.ladd, 1) := by decide +kernel
theorem dJ13_bitCount_95d88_54 : decode cJ13_bitCount_95d88 54 = .ok (.lstore_n 0, 1) := by decide +kernel
theorem dJ13_bitCount_95d88_55 : decode cJ13_bitCount_95d88 55 = .ok (.lload_n 0, 1) := by decide +kernel
theorem dJ13_bitCount_95d88_56 : decode cJ13_bitCount_95d88 56 = .ok (.l2i, 1) := by decide +kernel
theorem dJ13_bitCount_95d88_57 : decode cJ13_bitCount_95d88 57 = .ok (.bipush 127, 2) := by decide +kernel
theorem dJ13_bitCount_95d88_59 : decode cJ13_bitCount_95d88 59 = .ok (.iand, 1) := by decide +kernel
theorem dJ13_bitCount_95d88_60 : decode cJ13_bitCount_95d88 60 = .ok (.ireturn, 1) := by decide +kernel
theorem dJ9_max_7cf53_0 : decode cJ9_max_7cf53 0 = .ok (.iload_n 0, 1) := by decide +kernel
theorem dJ9_max_7cf53_1 : decode cJ9_max_7cf53 1 = .ok (.iload_n 1, 1) := by decide +kernel
theorem dJ9_max_7cf53_2 : decode cJ9_max_7cf53 2 = .ok (.if_icmp .lt 7, 3) := by decide +kernel
theorem dJ9_max_7cf53_5 : decode cJ9_max_7cf53 5 = .ok (.iload_n 0, 1) := by decide +kernel
theorem dJ9_max_7cf53_6 : decode cJ9_max_7cf53 6 = .ok (.goto 4, 3) := by decide +kernel
theorem dJ9_max_7cf53_9 : decode cJ9_max_7cf53 9 = .ok (.iload_n 1, 1) := by decide +kernel
theorem dJ9_max_7cf53_10 : decode cJ9_max_7cf53 10 = .ok (.ireturn, 1) := by decide +kernel
theorem dJ9_min_7cf53_0 : decode cJ9_min_7cf53 0 = .ok (.iload_n 0, 1) := by decide +kernel
theorem dJ9_min_7cf53_1 : decode cJ9_min_7cf53 1 = .ok (.iload_n 1, 1) := by decide +kernel
theorem dJ9_min_7cf53_2 : decode cJ9_min_7cf53 2 = .ok (.if_icmp .gt 7, 3) := by decide +kernel
theorem dJ9_min_7cf53_5 : decode cJ9_min_7cf53 5 = .ok (.iload_n 0, 1) := by decide +kernel
theorem dJ9_min_7cf53_6 : decode cJ9_min_7cf53 6 = .ok (.goto 4, 3) := by decide +kernel
theorem dJ9_min_7cf53_9 : decode cJ9_min_7cf53 9 = .ok (.iload_n 1, 1) := by decide +kernel
theorem dJ9_min_7cf53_10 : decode cJ9_min_7cf53 10 = .ok (.ireturn, 1) := by decide +kernel
theorem dL_addPitch_0 : decode cL_addPitch 0 = .ok (.aload 5, 2) := by decide +kernel
theorem dL_addPitch_2 : decode cL_addPitch 2 = .ok (.iconst 0, 1) := by decide +kernel
theorem dL_addPitch_3 : decode cL_addPitch 3 = .ok (.aload_n 0, 1) := by decide +kernel
theorem dL_addPitch_4 : decode cL_addPitch 4 = .ok (.iload_n 1, 1) := by decide +kernel
theorem dL_addPitch_5 : decode cL_addPitch 5 = .ok (.iload_n 2, 1) := by decide +kernel
theorem dL_addPitch_6 : decode cL_addPitch 6 = .ok (.iload_n 3, 1) := by decide +kernel
theorem dL_addPitch_7 : decode cL_addPitch 7 = .ok (.iload 4, 2) := by decide +kernel
theorem dL_addPitch_9 : decode cL_addPitch 9 = .ok (.invokevirtual 7, 3) := by decide +kernel
theorem dL_addPitch_12 : decode cL_addPitch 12 = .ok (.i2l, 1) := by decide +kernel
theorem dL_addPitch_13 : decode cL_addPitch 13 = .ok (.lastore, 1) := by decide +kernel
theorem dL_addPitch_14 : decode cL_addPitch 14 = .ok (.goto 11, 3) := by decide +kernel
theorem dL_addPitch_17 : decode cL_addPitch 17 = .ok (.astore 6, 2) := by decide +kernel
theorem dL_addPitch_19 : decode cL_addPitch 19 = .ok (.iconst 1, 1) := by decide +kernel
theorem dL_addPitch_20 : decode cL_addPitch 20 = .ok (.ireturn, 1) := by decide +kernel
theorem dL_addPitch_21 : decode cL_addPitch 21 = .ok (.astore 6, 2) := by decide +kernel
theorem dL_addPitch_23 : decode cL_addPitch 23 = .ok (.iconst 2, 1) := by decide +kernel
theorem dL_addPitch_24 : decode cL_addPitch 24 = .ok (.ireturn, 1) := by decide +kernel
theorem dL_addPitch_25 : decode cL_addPitch 25 = .ok (.iconst 0, 1) := by decide +kernel
theorem dL_addPitch_26 : decode cL_addPitch 26 = .ok (.ireturn, 1) := by decide +kernel
theorem dL_pitch_0 : decode cL_pitch 0 = .ok (.aload_n 3, 1) := by decide +kernel
theorem dL_pitch_1 : decode cL_pitch 1 = .ok (.iconst 0, 1) := by decide +kernel
theorem dL_pitch_2 : decode cL_pitch 2 = .ok (.aload_n 0, 1) := by decide +kernel
theorem dL_pitch_3 : decode cL_pitch 3 = .ok (.iload_n 1, 1) := by decide +kernel
theorem dL_pitch_4 : decode cL_pitch 4 = .ok (.iload_n 2, 1) := by decide +kernel
theorem dL_pitch_5 : decode cL_pitch 5 = .ok (.invokevirtual 17, 3) := by decide +kernel
theorem dL_pitch_8 : decode cL_pitch 8 = .ok (.i2l, 1) := by decide +kernel
theorem dL_pitch_9 : decode cL_pitch 9 = .ok (.lastore, 1) := by decide +kernel
theorem dL_pitch_10 : decode cL_pitch 10 = .ok (.goto 11, 3) := by decide +kernel
theorem dL_pitch_13 : decode cL_pitch 13 = .ok (.astore 4, 2) := by decide +kernel
theorem dL_pitch_15 : decode cL_pitch 15 = .ok (.iconst 1, 1) := by decide +kernel
theorem dL_pitch_16 : decode cL_pitch 16 = .ok (.ireturn, 1) := by decide +kernel
theorem dL_pitch_17 : decode cL_pitch 17 = .ok (.astore 4, 2) := by decide +kernel
theorem dL_pitch_19 : decode cL_pitch 19 = .ok (.iconst 2, 1) := by decide +kernel
theorem dL_pitch_20 : decode cL_pitch 20 = .ok (.ireturn, 1) := by decide +kernel
theorem dL_pitch_21 : decode cL_pitch 21 = .ok (.iconst 0, 1) := by decide +kernel
theorem dL_pitch_22 : decode cL_pitch 22 = .ok (.ireturn, 1) := by decide +kernel
theorem dL_setLimit_0 : decode cL_setLimit 0 = .ok (.aload_n 3, 1) := by decide +kernel
theorem dL_setLimit_1 : decode cL_setLimit 1 = .ok (.iconst 0, 1) := by decide +kernel
theorem dL_setLimit_2 : decode cL_setLimit 2 = .ok (.aload_n 0, 1) := by decide +kernel
theorem dL_setLimit_3 : decode cL_setLimit 3 = .ok (.iload_n 1, 1) := by decide +kernel
theorem dL_setLimit_4 : decode cL_setLimit 4 = .ok (.iload_n 2, 1) := by decide +kernel
theorem dL_setLimit_5 : decode cL_setLimit 5 = .ok (.invokevirtual 23, 3) := by decide +kernel
theorem dL_setLimit_8 : decode cL_setLimit 8 = .ok (.i2l, 1) := by decide +kernel
theorem dL_setLimit_9 : decode cL_setLimit 9 = .ok (.lastore, 1) := by decide +kernel
theorem dL_setLimit_10 : decode cL_setLimit 10 = .ok (.goto 11, 3) := by decide +kernel
theorem dL_setLimit_13 : decode cL_setLimit 13 = .ok (.astore 4, 2) := by decide +kernel
theorem dL_setLimit_15 : decode cL_setLimit 15 = .ok (.iconst 1, 1) := by decide +kernel
theorem dL_setLimit_16 : decode cL_setLimit 16 = .ok (.ireturn, 1) := by decide +kernel
theorem dL_setLimit_17 : decode cL_setLimit 17 = .ok (.astore 4, 2) := by decide +kernel
theorem dL_setLimit_19 : decode cL_setLimit 19 = .ok (.iconst 2, 1) := by decide +kernel
theorem dL_setLimit_20 : decode cL_setLimit 20 = .ok (.ireturn, 1) := by decide +kernel
theorem dL_setLimit_21 : decode cL_setLimit 21 = .ok (.iconst 0, 1) := by decide +kernel
theorem dL_setLimit_22 : decode cL_setLimit 22 = .ok (.ireturn, 1) := by decide +kernel
theorem dL_setRate_0 : decode cL_setRate 0 = .ok (.aload_n 3, 1) := by decide +kernel
theorem dL_setRate_1 : decode cL_setRate 1 = .ok (.iconst 0, 1) := by decide +kernel
theorem dL_setRate_2 : decode cL_setRate 2 = .ok (.aload_n 0, 1) := by decide +kernel
theorem dL_setRate_3 : decode cL_setRate 3 = .ok (.iload_n 1, 1) := by decide +kernel
theorem dL_setRate_4 : decode cL_setRate 4 = .ok (.iload_n 2, 1) := by decide +kernel
theorem dL_setRate_5 : decode cL_setRate 5 = .ok (.invokevirtual 26, 3) := by decide +kernel
theorem dL_setRate_8 : decode cL_setRate 8 = .ok (.i2l, 1) := by decide +kernel
theorem dL_setRate_9 : decode cL_setRate 9 = .ok (.lastore, 1) := by decide +kernel
theorem dL_setRate_10 : decode cL_setRate 10 = .ok (.goto 11, 3) := by decide +kernel
theorem dL_setRate_13 : decode cL_setRate 13 = .ok (.astore 4, 2) := by decide +kernel
theorem dL_setRate_15 : decode cL_setRate 15 = .ok (.iconst 1, 1) := by decide +kernel
theorem dL_setRate_16 : decode cL_setRate 16 = .ok (.ireturn, 1) := by decide +kernel
theorem dL_setRate_17 : decode cL_setRate 17 = .ok (.astore 4, 2) := by decide +kernel
theorem dL_setRate_19 : decode cL_setRate 19 = .ok (.iconst 2, 1) := by decide +kernel
theorem dL_setRate_20 : decode cL_setRate 20 = .ok (.ireturn, 1) := by decide +kernel
theorem dL_setRate_21 : decode cL_setRate 21 = .ok (.iconst 0, 1) := by decide +kernel
theorem dL_setRate_22 : decode cL_setRate 22 = .ok (.ireturn, 1) := by decide +kernel
theorem dL_setGap_0 : decode cL_setGap 0 = .ok (.aload_n 2, 1) := by decide +kernel
theorem dL_setGap_1 : decode cL_setGap 1 = .ok (.iconst 0, 1) := by decide +kernel
theorem dL_setGap_2 : decode cL_setGap 2 = .ok (.aload_n 0, 1) := by decide +kernel
theorem dL_setGap_3 : decode cL_setGap 3 = .ok (.iload_n 1, 1) := by decide +kernel
theorem dL_setGap_4 : decode cL_setGap 4 = .ok (.invokevirtual 29, 3) := by decide +kernel
theorem dL_setGap_7 : decode cL_setGap 7 = .ok (.i2l, 1) := by decide +kernel
theorem dL_setGap_8 : decode cL_setGap 8 = .ok (.lastore, 1) := by decide +kernel
theorem dL_setGap_9 : decode cL_setGap 9 = .ok (.goto 6, 3) := by decide +kernel
theorem dL_setGap_12 : decode cL_setGap 12 = .ok (.astore_n 3, 1) := by decide +kernel
theorem dL_setGap_13 : decode cL_setGap 13 = .ok (.iconst 1, 1) := by decide +kernel
theorem dL_setGap_14 : decode cL_setGap 14 = .ok (.ireturn, 1) := by decide +kernel
theorem dL_setGap_15 : decode cL_setGap 15 = .ok (.iconst 0, 1) := by decide +kernel
theorem dL_setGap_16 : decode cL_setGap 16 = .ok (.ireturn, 1) := by decide +kernel
theorem dL_addSeason_0 : decode cL_addSeason 0 = .ok (.aload 4, 2) := by decide +kernel
theorem dL_addSeason_2 : decode cL_addSeason 2 = .ok (.iconst 0, 1) := by decide +kernel
theorem dL_addSeason_3 : decode cL_addSeason 3 = .ok (.aload_n 0, 1) := by decide +kernel
theorem dL_addSeason_4 : decode cL_addSeason 4 = .ok (.iload_n 1, 1) := by decide +kernel
theorem dL_addSeason_5 : decode cL_addSeason 5 = .ok (.iload_n 2, 1) := by decide +kernel
theorem dL_addSeason_6 : decode cL_addSeason 6 = .ok (.iload_n 3, 1) := by decide +kernel
theorem dL_addSeason_7 : decode cL_addSeason 7 = .ok (.invokevirtual 33, 3) := by decide +kernel
theorem dL_addSeason_10 : decode cL_addSeason 10 = .ok (.i2l, 1) := by decide +kernel
theorem dL_addSeason_11 : decode cL_addSeason 11 = .ok (.lastore, 1) := by decide +kernel
theorem dL_addSeason_12 : decode cL_addSeason 12 = .ok (.goto 11, 3) := by decide +kernel
theorem dL_addSeason_15 : decode cL_addSeason 15 = .ok (.astore 5, 2) := by decide +kernel
theorem dL_addSeason_17 : decode cL_addSeason 17 = .ok (.iconst 1, 1) := by decide +kernel
theorem dL_addSeason_18 : decode cL_addSeason 18 = .ok (.ireturn, 1) := by decide +kernel
theorem dL_addSeason_19 : decode cL_addSeason 19 = .ok (.astore 5, 2) := by decide +kernel
theorem dL_addSeason_21 : decode cL_addSeason 21 = .ok (.iconst 2, 1) := by decide +kernel
theorem dL_addSeason_22 : decode cL_addSeason 22 = .ok (.ireturn, 1) := by decide +kernel
theorem dL_addSeason_23 : decode cL_addSeason 23 = .ok (.iconst 0, 1) := by decide +kernel
theorem dL_addSeason_24 : decode cL_addSeason 24 = .ok (.ireturn, 1) := by decide +kernel
theorem dL_dropSeason_0 : decode cL_dropSeason 0 = .ok (.aload_n 2, 1) := by decide +kernel
theorem dL_dropSeason_1 : decode cL_dropSeason 1 = .ok (.iconst 0, 1) := by decide +kernel
theorem dL_dropSeason_2 : decode cL_dropSeason 2 = .ok (.aload_n 0, 1) := by decide +kernel
theorem dL_dropSeason_3 : decode cL_dropSeason 3 = .ok (.iload_n 1, 1) := by decide +kernel
theorem dL_dropSeason_4 : decode cL_dropSeason 4 = .ok (.invokevirtual 37, 3) := by decide +kernel
theorem dL_dropSeason_7 : decode cL_dropSeason 7 = .ok (.i2l, 1) := by decide +kernel
theorem dL_dropSeason_8 : decode cL_dropSeason 8 = .ok (.lastore, 1) := by decide +kernel
theorem dL_dropSeason_9 : decode cL_dropSeason 9 = .ok (.goto 6, 3) := by decide +kernel
theorem dL_dropSeason_12 : decode cL_dropSeason 12 = .ok (.astore_n 3, 1) := by decide +kernel
theorem dL_dropSeason_13 : decode cL_dropSeason 13 = .ok (.iconst 1, 1) := by decide +kernel
theorem dL_dropSeason_14 : decode cL_dropSeason 14 = .ok (.ireturn, 1) := by decide +kernel
theorem dL_dropSeason_15 : decode cL_dropSeason 15 = .ok (.iconst 0, 1) := by decide +kernel
theorem dL_dropSeason_16 : decode cL_dropSeason 16 = .ok (.ireturn, 1) := by decide +kernel
theorem dL_season_0 : decode cL_season 0 = .ok (.aload_n 3, 1) := by decide +kernel
theorem dL_season_1 : decode cL_season 1 = .ok (.iconst 0, 1) := by decide +kernel
theorem dL_season_2 : decode cL_season 2 = .ok (.aload_n 0, 1) := by decide +kernel
theorem dL_season_3 : decode cL_season 3 = .ok (.iload_n 1, 1) := by decide +kernel
theorem dL_season_4 : decode cL_season 4 = .ok (.iload_n 2, 1) := by decide +kernel
theorem dL_season_5 : decode cL_season 5 = .ok (.invokevirtual 40, 3) := by decide +kernel
theorem dL_season_8 : decode cL_season 8 = .ok (.i2l, 1) := by decide +kernel
theorem dL_season_9 : decode cL_season 9 = .ok (.lastore, 1) := by decide +kernel
theorem dL_season_10 : decode cL_season 10 = .ok (.goto 11, 3) := by decide +kernel
theorem dL_season_13 : decode cL_season 13 = .ok (.astore 4, 2) := by decide +kernel
theorem dL_season_15 : decode cL_season 15 = .ok (.iconst 1, 1) := by decide +kernel
theorem dL_season_16 : decode cL_season 16 = .ok (.ireturn, 1) := by decide +kernel
theorem dL_season_17 : decode cL_season 17 = .ok (.astore 4, 2) := by decide +kernel
theorem dL_season_19 : decode cL_season 19 = .ok (.iconst 2, 1) := by decide +kernel
theorem dL_season_20 : decode cL_season 20 = .ok (.ireturn, 1) := by decide +kernel
theorem dL_season_21 : decode cL_season 21 = .ok (.iconst 0, 1) := by decide +kernel
theorem dL_season_22 : decode cL_season 22 = .ok (.ireturn, 1) := by decide +kernel
theorem dL_leastStay_0 : decode cL_leastStay 0 = .ok (.aload_n 3, 1) := by decide +kernel
theorem dL_leastStay_1 : decode cL_leastStay 1 = .ok (.iconst 0, 1) := by decide +kernel
theorem dL_leastStay_2 : decode cL_leastStay 2 = .ok (.aload_n 0, 1) := by decide +kernel
theorem dL_leastStay_3 : decode cL_leastStay 3 = .ok (.iload_n 1, 1) := by decide +kernel
theorem dL_leastStay_4 : decode cL_leastStay 4 = .ok (.iload_n 2, 1) := by decide +kernel
theorem dL_leastStay_5 : decode cL_leastStay 5 = .ok (.invokevirtual 43, 3) := by decide +kernel
theorem dL_leastStay_8 : decode cL_leastStay 8 = .ok (.i2l, 1) := by decide +kernel
theorem dL_leastStay_9 : decode cL_leastStay 9 = .ok (.lastore, 1) := by decide +kernel
theorem dL_leastStay_10 : decode cL_leastStay 10 = .ok (.goto 7, 3) := by decide +kernel
theorem dL_leastStay_13 : decode cL_leastStay 13 = .ok (.astore 4, 2) := by decide +kernel
theorem dL_leastStay_15 : decode cL_leastStay 15 = .ok (.iconst 1, 1) := by decide +kernel
theorem dL_leastStay_16 : decode cL_leastStay 16 = .ok (.ireturn, 1) := by decide +kernel
theorem dL_leastStay_17 : decode cL_leastStay 17 = .ok (.iconst 0, 1) := by decide +kernel
theorem dL_leastStay_18 : decode cL_leastStay 18 = .ok (.ireturn, 1) := by decide +kernel
theorem dL_book_0 : decode cL_book 0 = .ok (.aload 7, 2) := by decide +kernel
theorem dL_book_2 : decode cL_book 2 = .ok (.iconst 0, 1) := by decide +kernel
theorem dL_book_3 : decode cL_book 3 = .ok (.aload_n 0, 1) := by decide +kernel
theorem dL_book_4 : decode cL_book 4 = .ok (.iload_n 1, 1) := by decide +kernel
theorem dL_book_5 : decode cL_book 5 = .ok (.iload_n 2, 1) := by decide +kernel
theorem dL_book_6 : decode cL_book 6 = .ok (.iload_n 3, 1) := by decide +kernel
theorem dL_book_7 : decode cL_book 7 = .ok (.iload 4, 2) := by decide +kernel
theorem dL_book_9 : decode cL_book 9 = .ok (.iload 5, 2) := by decide +kernel
theorem dL_book_11 : decode cL_book 11 = .ok (.iload 6, 2) := by decide +kernel
theorem dL_book_13 : decode cL_book 13 = .ok (.invokevirtual 46, 3) := by decide +kernel
theorem dL_book_16 : decode cL_book 16 = .ok (.i2l, 1) := by decide +kernel
theorem dL_book_17 : decode cL_book 17 = .ok (.lastore, 1) := by decide +kernel
theorem dL_book_18 : decode cL_book 18 = .ok (.goto 15, 3) := by decide +kernel
theorem dL_book_21 : decode cL_book 21 = .ok (.astore 8, 2) := by decide +kernel
theorem dL_book_23 : decode cL_book 23 = .ok (.iconst 1, 1) := by decide +kernel
theorem dL_book_24 : decode cL_book 24 = .ok (.ireturn, 1) := by decide +kernel
theorem dL_book_25 : decode cL_book 25 = .ok (.astore 8, 2) := by decide +kernel
theorem dL_book_27 : decode cL_book 27 = .ok (.iconst 2, 1) := by decide +kernel
theorem dL_book_28 : decode cL_book 28 = .ok (.ireturn, 1) := by decide +kernel
theorem dL_book_29 : decode cL_book 29 = .ok (.astore 8, 2) := by decide +kernel
theorem dL_book_31 : decode cL_book 31 = .ok (.iconst 3, 1) := by decide +kernel
theorem dL_book_32 : decode cL_book 32 = .ok (.ireturn, 1) := by decide +kernel
theorem dL_book_33 : decode cL_book 33 = .ok (.iconst 0, 1) := by decide +kernel
theorem dL_book_34 : decode cL_book 34 = .ok (.ireturn, 1) := by decide +kernel
theorem dL_append_0 : decode cL_append 0 = .ok (.aload_n 0, 1) := by decide +kernel
theorem dL_append_1 : decode cL_append 1 = .ok (.iload_n 1, 1) := by decide +kernel
theorem dL_append_2 : decode cL_append 2 = .ok (.invokevirtual 52, 3) := by decide +kernel
theorem dL_append_5 : decode cL_append 5 = .ok (.goto 6, 3) := by decide +kernel
theorem dL_append_8 : decode cL_append 8 = .ok (.astore_n 2, 1) := by decide +kernel
theorem dL_append_9 : decode cL_append 9 = .ok (.iconst 1, 1) := by decide +kernel
theorem dL_append_10 : decode cL_append 10 = .ok (.ireturn, 1) := by decide +kernel
theorem dL_append_11 : decode cL_append 11 = .ok (.iconst 0, 1) := by decide +kernel
theorem dL_append_12 : decode cL_append 12 = .ok (.ireturn, 1) := by decide +kernel
theorem dL_readBooking_0 : decode cL_readBooking 0 = .ok (.aload_n 1, 1) := by decide +kernel
theorem dL_readBooking_1 : decode cL_readBooking 1 = .ok (.iconst 0, 1) := by decide +kernel
theorem dL_readBooking_2 : decode cL_readBooking 2 = .ok (.aload_n 0, 1) := by decide +kernel
theorem dL_readBooking_3 : decode cL_readBooking 3 = .ok (.invokevirtual 56, 3) := by decide +kernel
theorem dL_readBooking_6 : decode cL_readBooking 6 = .ok (.i2l, 1) := by decide +kernel
theorem dL_readBooking_7 : decode cL_readBooking 7 = .ok (.lastore, 1) := by decide +kernel
theorem dL_readBooking_8 : decode cL_readBooking 8 = .ok (.goto 12, 3) := by decide +kernel
theorem dL_readBooking_11 : decode cL_readBooking 11 = .ok (.astore_n 2, 1) := by decide +kernel
theorem dL_readBooking_12 : decode cL_readBooking 12 = .ok (.iconst 1, 1) := by decide +kernel
theorem dL_readBooking_13 : decode cL_readBooking 13 = .ok (.ireturn, 1) := by decide +kernel
theorem dL_readBooking_14 : decode cL_readBooking 14 = .ok (.astore_n 2, 1) := by decide +kernel
theorem dL_readBooking_15 : decode cL_readBooking 15 = .ok (.iconst 2, 1) := by decide +kernel
theorem dL_readBooking_16 : decode cL_readBooking 16 = .ok (.ireturn, 1) := by decide +kernel
theorem dL_readBooking_17 : decode cL_readBooking 17 = .ok (.astore_n 2, 1) := by decide +kernel
theorem dL_readBooking_18 : decode cL_readBooking 18 = .ok (.iconst 3, 1) := by decide +kernel
theorem dL_readBooking_19 : decode cL_readBooking 19 = .ok (.ireturn, 1) := by decide +kernel
theorem dL_readBooking_20 : decode cL_readBooking 20 = .ok (.iconst 0, 1) := by decide +kernel
theorem dL_readBooking_21 : decode cL_readBooking 21 = .ok (.ireturn, 1) := by decide +kernel
theorem dL_refusal_0 : decode cL_refusal 0 = .ok (.aload_n 1, 1) := by decide +kernel
theorem dL_refusal_1 : decode cL_refusal 1 = .ok (.iconst 0, 1) := by decide +kernel
theorem dL_refusal_2 : decode cL_refusal 2 = .ok (.aload_n 0, 1) := by decide +kernel
theorem dL_refusal_3 : decode cL_refusal 3 = .ok (.invokevirtual 60, 3) := by decide +kernel
theorem dL_refusal_6 : decode cL_refusal 6 = .ok (.i2l, 1) := by decide +kernel
theorem dL_refusal_7 : decode cL_refusal 7 = .ok (.lastore, 1) := by decide +kernel
theorem dL_refusal_8 : decode cL_refusal 8 = .ok (.goto 6, 3) := by decide +kernel
theorem dL_refusal_11 : decode cL_refusal 11 = .ok (.astore_n 2, 1) := by decide +kernel
theorem dL_refusal_12 : decode cL_refusal 12 = .ok (.iconst 1, 1) := by decide +kernel
theorem dL_refusal_13 : decode cL_refusal 13 = .ok (.ireturn, 1) := by decide +kernel
theorem dL_refusal_14 : decode cL_refusal 14 = .ok (.iconst 0, 1) := by decide +kernel
theorem dL_refusal_15 : decode cL_refusal 15 = .ok (.ireturn, 1) := by decide +kernel
theorem dL_party_0 : decode cL_party 0 = .ok (.aload_n 3, 1) := by decide +kernel
theorem dL_party_1 : decode cL_party 1 = .ok (.iconst 0, 1) := by decide +kernel
theorem dL_party_2 : decode cL_party 2 = .ok (.aload_n 0, 1) := by decide +kernel
theorem dL_party_3 : decode cL_party 3 = .ok (.iload_n 1, 1) := by decide +kernel
theorem dL_party_4 : decode cL_party 4 = .ok (.iload_n 2, 1) := by decide +kernel
theorem dL_party_5 : decode cL_party 5 = .ok (.invokevirtual 65, 3) := by decide +kernel
theorem dL_party_8 : decode cL_party 8 = .ok (.i2l, 1) := by decide +kernel
theorem dL_party_9 : decode cL_party 9 = .ok (.lastore, 1) := by decide +kernel
theorem dL_party_10 : decode cL_party 10 = .ok (.goto 11, 3) := by decide +kernel
theorem dL_party_13 : decode cL_party 13 = .ok (.astore 4, 2) := by decide +kernel
theorem dL_party_15 : decode cL_party 15 = .ok (.iconst 1, 1) := by decide +kernel
theorem dL_party_16 : decode cL_party 16 = .ok (.ireturn, 1) := by decide +kernel
theorem dL_party_17 : decode cL_party 17 = .ok (.astore 4, 2) := by decide +kernel
theorem dL_party_19 : decode cL_party 19 = .ok (.iconst 2, 1) := by decide +kernel
theorem dL_party_20 : decode cL_party 20 = .ok (.ireturn, 1) := by decide +kernel
theorem dL_party_21 : decode cL_party 21 = .ok (.iconst 0, 1) := by decide +kernel
theorem dL_party_22 : decode cL_party 22 = .ok (.ireturn, 1) := by decide +kernel
theorem dL_moveOf_0 : decode cL_moveOf 0 = .ok (.aload_n 3, 1) := by decide +kernel
theorem dL_moveOf_1 : decode cL_moveOf 1 = .ok (.iconst 0, 1) := by decide +kernel
theorem dL_moveOf_2 : decode cL_moveOf 2 = .ok (.aload_n 0, 1) := by decide +kernel
theorem dL_moveOf_3 : decode cL_moveOf 3 = .ok (.iload_n 1, 1) := by decide +kernel
theorem dL_moveOf_4 : decode cL_moveOf 4 = .ok (.iload_n 2, 1) := by decide +kernel
theorem dL_moveOf_5 : decode cL_moveOf 5 = .ok (.invokevirtual 68, 3) := by decide +kernel
theorem dL_moveOf_8 : decode cL_moveOf 8 = .ok (.i2l, 1) := by decide +kernel
theorem dL_moveOf_9 : decode cL_moveOf 9 = .ok (.lastore, 1) := by decide +kernel
theorem dL_moveOf_10 : decode cL_moveOf 10 = .ok (.goto 11, 3) := by decide +kernel
theorem dL_moveOf_13 : decode cL_moveOf 13 = .ok (.astore 4, 2) := by decide +kernel
theorem dL_moveOf_15 : decode cL_moveOf 15 = .ok (.iconst 1, 1) := by decide +kernel
theorem dL_moveOf_16 : decode cL_moveOf 16 = .ok (.ireturn, 1) := by decide +kernel
theorem dL_moveOf_17 : decode cL_moveOf 17 = .ok (.astore 4, 2) := by decide +kernel
theorem dL_moveOf_19 : decode cL_moveOf 19 = .ok (.iconst 2, 1) := by decide +kernel
theorem dL_moveOf_20 : decode cL_moveOf 20 = .ok (.ireturn, 1) := by decide +kernel
theorem dL_moveOf_21 : decode cL_moveOf 21 = .ok (.iconst 0, 1) := by decide +kernel
theorem dL_moveOf_22 : decode cL_moveOf 22 = .ok (.ireturn, 1) := by decide +kernel
theorem dL_move_0 : decode cL_move 0 = .ok (.aload_n 3, 1) := by decide +kernel
theorem dL_move_1 : decode cL_move 1 = .ok (.iconst 0, 1) := by decide +kernel
theorem dL_move_2 : decode cL_move 2 = .ok (.aload_n 0, 1) := by decide +kernel
theorem dL_move_3 : decode cL_move 3 = .ok (.iload_n 1, 1) := by decide +kernel
theorem dL_move_4 : decode cL_move 4 = .ok (.iload_n 2, 1) := by decide +kernel
theorem dL_move_5 : decode cL_move 5 = .ok (.invokevirtual 71, 3) := by decide +kernel
theorem dL_move_8 : decode cL_move 8 = .ok (.i2l, 1) := by decide +kernel
theorem dL_move_9 : decode cL_move 9 = .ok (.lastore, 1) := by decide +kernel
theorem dL_move_10 : decode cL_move 10 = .ok (.goto 15, 3) := by decide +kernel
theorem dL_move_13 : decode cL_move 13 = .ok (.astore 4, 2) := by decide +kernel
theorem dL_move_15 : decode cL_move 15 = .ok (.iconst 1, 1) := by decide +kernel
theorem dL_move_16 : decode cL_move 16 = .ok (.ireturn, 1) := by decide +kernel
theorem dL_move_17 : decode cL_move 17 = .ok (.astore 4, 2) := by decide +kernel
theorem dL_move_19 : decode cL_move 19 = .ok (.iconst 2, 1) := by decide +kernel
theorem dL_move_20 : decode cL_move 20 = .ok (.ireturn, 1) := by decide +kernel
theorem dL_move_21 : decode cL_move 21 = .ok (.astore 4, 2) := by decide +kernel
theorem dL_move_23 : decode cL_move 23 = .ok (.iconst 3, 1) := by decide +kernel
theorem dL_move_24 : decode cL_move 24 = .ok (.ireturn, 1) := by decide +kernel
theorem dL_move_25 : decode cL_move 25 = .ok (.iconst 0, 1) := by decide +kernel
theorem dL_move_26 : decode cL_move 26 = .ok (.ireturn, 1) := by decide +kernel
theorem dL_cancel_0 : decode cL_cancel 0 = .ok (.aload_n 2, 1) := by decide +kernel
theorem dL_cancel_1 : decode cL_cancel 1 = .ok (.iconst 0, 1) := by decide +kernel
theorem dL_cancel_2 : decode cL_cancel 2 = .ok (.aload_n 0, 1) := by decide +kernel
theorem dL_cancel_3 : decode cL_cancel 3 = .ok (.iload_n 1, 1) := by decide +kernel
theorem dL_cancel_4 : decode cL_cancel 4 = .ok (.invokevirtual 74, 3) := by decide +kernel
theorem dL_cancel_7 : decode cL_cancel 7 = .ok (.i2l, 1) := by decide +kernel
theorem dL_cancel_8 : decode cL_cancel 8 = .ok (.lastore, 1) := by decide +kernel
theorem dL_cancel_9 : decode cL_cancel 9 = .ok (.goto 9, 3) := by decide +kernel
theorem dL_cancel_12 : decode cL_cancel 12 = .ok (.astore_n 3, 1) := by decide +kernel
theorem dL_cancel_13 : decode cL_cancel 13 = .ok (.iconst 1, 1) := by decide +kernel
theorem dL_cancel_14 : decode cL_cancel 14 = .ok (.ireturn, 1) := by decide +kernel
theorem dL_cancel_15 : decode cL_cancel 15 = .ok (.astore_n 3, 1) := by decide +kernel
theorem dL_cancel_16 : decode cL_cancel 16 = .ok (.iconst 2, 1) := by decide +kernel
theorem dL_cancel_17 : decode cL_cancel 17 = .ok (.ireturn, 1) := by decide +kernel
theorem dL_cancel_18 : decode cL_cancel 18 = .ok (.iconst 0, 1) := by decide +kernel
theorem dL_cancel_19 : decode cL_cancel 19 = .ok (.ireturn, 1) := by decide +kernel
theorem dL_advance_0 : decode cL_advance 0 = .ok (.aload_n 2, 1) := by decide +kernel
theorem dL_advance_1 : decode cL_advance 1 = .ok (.iconst 0, 1) := by decide +kernel
theorem dL_advance_2 : decode cL_advance 2 = .ok (.aload_n 0, 1) := by decide +kernel
theorem dL_advance_3 : decode cL_advance 3 = .ok (.iload_n 1, 1) := by decide +kernel
theorem dL_advance_4 : decode cL_advance 4 = .ok (.invokevirtual 77, 3) := by decide +kernel
theorem dL_advance_7 : decode cL_advance 7 = .ok (.i2l, 1) := by decide +kernel
theorem dL_advance_8 : decode cL_advance 8 = .ok (.lastore, 1) := by decide +kernel
theorem dL_advance_9 : decode cL_advance 9 = .ok (.goto 6, 3) := by decide +kernel
theorem dL_advance_12 : decode cL_advance 12 = .ok (.astore_n 3, 1) := by decide +kernel
theorem dL_advance_13 : decode cL_advance 13 = .ok (.iconst 1, 1) := by decide +kernel
theorem dL_advance_14 : decode cL_advance 14 = .ok (.ireturn, 1) := by decide +kernel
theorem dL_advance_15 : decode cL_advance 15 = .ok (.iconst 0, 1) := by decide +kernel
theorem dL_advance_16 : decode cL_advance 16 = .ok (.ireturn, 1) := by decide +kernel
theorem dL_obstacle_0 : decode cL_obstacle 0 = .ok (.aload_n 3, 1) := by decide +kernel
theorem dL_obstacle_1 : decode cL_obstacle 1 = .ok (.iconst 0, 1) := by decide +kernel
theorem dL_obstacle_2 : decode cL_obstacle 2 = .ok (.aload_n 0, 1) := by decide +kernel
theorem dL_obstacle_3 : decode cL_obstacle 3 = .ok (.iload_n 1, 1) := by decide +kernel
theorem dL_obstacle_4 : decode cL_obstacle 4 = .ok (.iload_n 2, 1) := by decide +kernel
theorem dL_obstacle_5 : decode cL_obstacle 5 = .ok (.invokevirtual 80, 3) := by decide +kernel
theorem dL_obstacle_8 : decode cL_obstacle 8 = .ok (.i2l, 1) := by decide +kernel
theorem dL_obstacle_9 : decode cL_obstacle 9 = .ok (.lastore, 1) := by decide +kernel
theorem dL_obstacle_10 : decode cL_obstacle 10 = .ok (.goto 7, 3) := by decide +kernel
theorem dL_obstacle_13 : decode cL_obstacle 13 = .ok (.astore 4, 2) := by decide +kernel
theorem dL_obstacle_15 : decode cL_obstacle 15 = .ok (.iconst 1, 1) := by decide +kernel
theorem dL_obstacle_16 : decode cL_obstacle 16 = .ok (.ireturn, 1) := by decide +kernel
theorem dL_obstacle_17 : decode cL_obstacle 17 = .ok (.iconst 0, 1) := by decide +kernel
theorem dL_obstacle_18 : decode cL_obstacle 18 = .ok (.ireturn, 1) := by decide +kernel
theorem dL_occupant_0 : decode cL_occupant 0 = .ok (.aload_n 3, 1) := by decide +kernel
theorem dL_occupant_1 : decode cL_occupant 1 = .ok (.iconst 0, 1) := by decide +kernel
theorem dL_occupant_2 : decode cL_occupant 2 = .ok (.aload_n 0, 1) := by decide +kernel
theorem dL_occupant_3 : decode cL_occupant 3 = .ok (.iload_n 1, 1) := by decide +kernel
theorem dL_occupant_4 : decode cL_occupant 4 = .ok (.iload_n 2, 1) := by decide +kernel
theorem dL_occupant_5 : decode cL_occupant 5 = .ok (.invokevirtual 83, 3) := by decide +kernel
theorem dL_occupant_8 : decode cL_occupant 8 = .ok (.i2l, 1) := by decide +kernel
theorem dL_occupant_9 : decode cL_occupant 9 = .ok (.lastore, 1) := by decide +kernel
theorem dL_occupant_10 : decode cL_occupant 10 = .ok (.goto 7, 3) := by decide +kernel
theorem dL_occupant_13 : decode cL_occupant 13 = .ok (.astore 4, 2) := by decide +kernel
theorem dL_occupant_15 : decode cL_occupant 15 = .ok (.iconst 1, 1) := by decide +kernel
theorem dL_occupant_16 : decode cL_occupant 16 = .ok (.ireturn, 1) := by decide +kernel
theorem dL_occupant_17 : decode cL_occupant 17 = .ok (.iconst 0, 1) := by decide +kernel
theorem dL_occupant_18 : decode cL_occupant 18 = .ok (.ireturn, 1) := by decide +kernel
theorem dL_busyNight_0 : decode cL_busyNight 0 = .ok (.aload_n 3, 1) := by decide +kernel
theorem dL_busyNight_1 : decode cL_busyNight 1 = .ok (.iconst 0, 1) := by decide +kernel
theorem dL_busyNight_2 : decode cL_busyNight 2 = .ok (.aload_n 0, 1) := by decide +kernel
theorem dL_busyNight_3 : decode cL_busyNight 3 = .ok (.iload_n 1, 1) := by decide +kernel
theorem dL_busyNight_4 : decode cL_busyNight 4 = .ok (.iload_n 2, 1) := by decide +kernel
theorem dL_busyNight_5 : decode cL_busyNight 5 = .ok (.invokevirtual 86, 3) := by decide +kernel
theorem dL_busyNight_8 : decode cL_busyNight 8 = .ok (.i2l, 1) := by decide +kernel
theorem dL_busyNight_9 : decode cL_busyNight 9 = .ok (.lastore, 1) := by decide +kernel
theorem dL_busyNight_10 : decode cL_busyNight 10 = .ok (.goto 11, 3) := by decide +kernel
theorem dL_busyNight_13 : decode cL_busyNight 13 = .ok (.astore 4, 2) := by decide +kernel
theorem dL_busyNight_15 : decode cL_busyNight 15 = .ok (.iconst 1, 1) := by decide +kernel
theorem dL_busyNight_16 : decode cL_busyNight 16 = .ok (.ireturn, 1) := by decide +kernel
theorem dL_busyNight_17 : decode cL_busyNight 17 = .ok (.astore 4, 2) := by decide +kernel
theorem dL_busyNight_19 : decode cL_busyNight 19 = .ok (.iconst 2, 1) := by decide +kernel
theorem dL_busyNight_20 : decode cL_busyNight 20 = .ok (.ireturn, 1) := by decide +kernel
theorem dL_busyNight_21 : decode cL_busyNight 21 = .ok (.iconst 0, 1) := by decide +kernel
theorem dL_busyNight_22 : decode cL_busyNight 22 = .ok (.ireturn, 1) := by decide +kernel
theorem dL_firstFree_0 : decode cL_firstFree 0 = .ok (.aload 4, 2) := by decide +kernel
theorem dL_firstFree_2 : decode cL_firstFree 2 = .ok (.iconst 0, 1) := by decide +kernel
theorem dL_firstFree_3 : decode cL_firstFree 3 = .ok (.aload_n 0, 1) := by decide +kernel
theorem dL_firstFree_4 : decode cL_firstFree 4 = .ok (.iload_n 1, 1) := by decide +kernel
theorem dL_firstFree_5 : decode cL_firstFree 5 = .ok (.iload_n 2, 1) := by decide +kernel
theorem dL_firstFree_6 : decode cL_firstFree 6 = .ok (.iload_n 3, 1) := by decide +kernel
theorem dL_firstFree_7 : decode cL_firstFree 7 = .ok (.invokevirtual 89, 3) := by decide +kernel
theorem dL_firstFree_10 : decode cL_firstFree 10 = .ok (.i2l, 1) := by decide +kernel
theorem dL_firstFree_11 : decode cL_firstFree 11 = .ok (.lastore, 1) := by decide +kernel
theorem dL_firstFree_12 : decode cL_firstFree 12 = .ok (.goto 15, 3) := by decide +kernel
theorem dL_firstFree_15 : decode cL_firstFree 15 = .ok (.astore 5, 2) := by decide +kernel
theorem dL_firstFree_17 : decode cL_firstFree 17 = .ok (.iconst 1, 1) := by decide +kernel
theorem dL_firstFree_18 : decode cL_firstFree 18 = .ok (.ireturn, 1) := by decide +kernel
theorem dL_firstFree_19 : decode cL_firstFree 19 = .ok (.astore 5, 2) := by decide +kernel
theorem dL_firstFree_21 : decode cL_firstFree 21 = .ok (.iconst 2, 1) := by decide +kernel
theorem dL_firstFree_22 : decode cL_firstFree 22 = .ok (.ireturn, 1) := by decide +kernel
theorem dL_firstFree_23 : decode cL_firstFree 23 = .ok (.astore 5, 2) := by decide +kernel
theorem dL_firstFree_25 : decode cL_firstFree 25 = .ok (.iconst 3, 1) := by decide +kernel
theorem dL_firstFree_26 : decode cL_firstFree 26 = .ok (.ireturn, 1) := by decide +kernel
theorem dL_firstFree_27 : decode cL_firstFree 27 = .ok (.iconst 0, 1) := by decide +kernel
theorem dL_firstFree_28 : decode cL_firstFree 28 = .ok (.ireturn, 1) := by decide +kernel
theorem dL_power_0 : decode cL_power 0 = .ok (.aload_n 3, 1) := by decide +kernel
theorem dL_power_1 : decode cL_power 1 = .ok (.iconst 0, 1) := by decide +kernel
theorem dL_power_2 : decode cL_power 2 = .ok (.aload_n 0, 1) := by decide +kernel
theorem dL_power_3 : decode cL_power 3 = .ok (.iload_n 1, 1) := by decide +kernel
theorem dL_power_4 : decode cL_power 4 = .ok (.iload_n 2, 1) := by decide +kernel
theorem dL_power_5 : decode cL_power 5 = .ok (.invokevirtual 92, 3) := by decide +kernel
theorem dL_power_8 : decode cL_power 8 = .ok (.i2l, 1) := by decide +kernel
theorem dL_power_9 : decode cL_power 9 = .ok (.lastore, 1) := by decide +kernel
theorem dL_power_10 : decode cL_power 10 = .ok (.goto 7, 3) := by decide +kernel
theorem dL_power_13 : decode cL_power 13 = .ok (.astore 4, 2) := by decide +kernel
theorem dL_power_15 : decode cL_power 15 = .ok (.iconst 1, 1) := by decide +kernel
theorem dL_power_16 : decode cL_power 16 = .ok (.ireturn, 1) := by decide +kernel
theorem dL_power_17 : decode cL_power 17 = .ok (.iconst 0, 1) := by decide +kernel
theorem dL_power_18 : decode cL_power 18 = .ok (.ireturn, 1) := by decide +kernel
theorem dL_peak_0 : decode cL_peak 0 = .ok (.aload_n 2, 1) := by decide +kernel
theorem dL_peak_1 : decode cL_peak 1 = .ok (.iconst 0, 1) := by decide +kernel
theorem dL_peak_2 : decode cL_peak 2 = .ok (.aload_n 0, 1) := by decide +kernel
theorem dL_peak_3 : decode cL_peak 3 = .ok (.iload_n 1, 1) := by decide +kernel
theorem dL_peak_4 : decode cL_peak 4 = .ok (.invokevirtual 95, 3) := by decide +kernel
theorem dL_peak_7 : decode cL_peak 7 = .ok (.i2l, 1) := by decide +kernel
theorem dL_peak_8 : decode cL_peak 8 = .ok (.lastore, 1) := by decide +kernel
theorem dL_peak_9 : decode cL_peak 9 = .ok (.goto 9, 3) := by decide +kernel
theorem dL_peak_12 : decode cL_peak 12 = .ok (.astore_n 3, 1) := by decide +kernel
theorem dL_peak_13 : decode cL_peak 13 = .ok (.iconst 1, 1) := by decide +kernel
theorem dL_peak_14 : decode cL_peak 14 = .ok (.ireturn, 1) := by decide +kernel
theorem dL_peak_15 : decode cL_peak 15 = .ok (.astore_n 3, 1) := by decide +kernel
theorem dL_peak_16 : decode cL_peak 16 = .ok (.iconst 2, 1) := by decide +kernel
theorem dL_peak_17 : decode cL_peak 17 = .ok (.ireturn, 1) := by decide +kernel
theorem dL_peak_18 : decode cL_peak 18 = .ok (.iconst 0, 1) := by decide +kernel
theorem dL_peak_19 : decode cL_peak 19 = .ok (.ireturn, 1) := by decide +kernel
theorem dL_gap_0 : decode cL_gap 0 = .ok (.aload 4, 2) := by decide +kernel
theorem dL_gap_2 : decode cL_gap 2 = .ok (.iconst 0, 1) := by decide +kernel
theorem dL_gap_3 : decode cL_gap 3 = .ok (.aload_n 0, 1) := by decide +kernel
theorem dL_gap_4 : decode cL_gap 4 = .ok (.iload_n 1, 1) := by decide +kernel
theorem dL_gap_5 : decode cL_gap 5 = .ok (.iload_n 2, 1) := by decide +kernel
theorem dL_gap_6 : decode cL_gap 6 = .ok (.iload_n 3, 1) := by decide +kernel
theorem dL_gap_7 : decode cL_gap 7 = .ok (.invokevirtual 98, 3) := by decide +kernel
theorem dL_gap_10 : decode cL_gap 10 = .ok (.i2l, 1) := by decide +kernel
theorem dL_gap_11 : decode cL_gap 11 = .ok (.lastore, 1) := by decide +kernel
theorem dL_gap_12 : decode cL_gap 12 = .ok (.goto 11, 3) := by decide +kernel
theorem dL_gap_15 : decode cL_gap 15 = .ok (.astore 5, 2) := by decide +kernel
theorem dL_gap_17 : decode cL_gap 17 = .ok (.iconst 1, 1) := by decide +kernel
theorem dL_gap_18 : decode cL_gap 18 = .ok (.ireturn, 1) := by decide +kernel
theorem dL_gap_19 : decode cL_gap 19 = .ok (.astore 5, 2) := by decide +kernel
theorem dL_gap_21 : decode cL_gap 21 = .ok (.iconst 2, 1) := by decide +kernel
theorem dL_gap_22 : decode cL_gap 22 = .ok (.ireturn, 1) := by decide +kernel
theorem dL_gap_23 : decode cL_gap 23 = .ok (.iconst 0, 1) := by decide +kernel
theorem dL_gap_24 : decode cL_gap 24 = .ok (.ireturn, 1) := by decide +kernel
theorem dL_account_0 : decode cL_account 0 = .ok (.aload_n 2, 1) := by decide +kernel
theorem dL_account_1 : decode cL_account 1 = .ok (.iconst 0, 1) := by decide +kernel
theorem dL_account_2 : decode cL_account 2 = .ok (.aload_n 0, 1) := by decide +kernel
theorem dL_account_3 : decode cL_account 3 = .ok (.iload_n 1, 1) := by decide +kernel
theorem dL_account_4 : decode cL_account 4 = .ok (.invokevirtual 102, 3) := by decide +kernel
theorem dL_account_7 : decode cL_account 7 = .ok (.i2l, 1) := by decide +kernel
theorem dL_account_8 : decode cL_account 8 = .ok (.lastore, 1) := by decide +kernel
theorem dL_account_9 : decode cL_account 9 = .ok (.goto 6, 3) := by decide +kernel
theorem dL_account_12 : decode cL_account 12 = .ok (.astore_n 3, 1) := by decide +kernel
theorem dL_account_13 : decode cL_account 13 = .ok (.iconst 1, 1) := by decide +kernel
theorem dL_account_14 : decode cL_account 14 = .ok (.ireturn, 1) := by decide +kernel
theorem dL_account_15 : decode cL_account 15 = .ok (.iconst 0, 1) := by decide +kernel
theorem dL_account_16 : decode cL_account 16 = .ok (.ireturn, 1) := by decide +kernel
theorem dL_share_0 : decode cL_share 0 = .ok (.aload_n 1, 1) := by decide +kernel
theorem dL_share_1 : decode cL_share 1 = .ok (.iconst 0, 1) := by decide +kernel
theorem dL_share_2 : decode cL_share 2 = .ok (.aload_n 0, 1) := by decide +kernel
theorem dL_share_3 : decode cL_share 3 = .ok (.invokevirtual 105, 3) := by decide +kernel
theorem dL_share_6 : decode cL_share 6 = .ok (.dastore, 1) := by decide +kernel
theorem dL_share_7 : decode cL_share 7 = .ok (.goto 6, 3) := by decide +kernel
theorem dL_share_10 : decode cL_share 10 = .ok (.astore_n 2, 1) := by decide +kernel
theorem dL_share_11 : decode cL_share 11 = .ok (.iconst 1, 1) := by decide +kernel
theorem dL_share_12 : decode cL_share 12 = .ok (.ireturn, 1) := by decide +kernel
theorem dL_share_13 : decode cL_share 13 = .ok (.iconst 0, 1) := by decide +kernel
theorem dL_share_14 : decode cL_share 14 = .ok (.ireturn, 1) := by decide +kernel
theorem dL_undo_0 : decode cL_undo 0 = .ok (.aload_n 1, 1) := by decide +kernel
theorem dL_undo_1 : decode cL_undo 1 = .ok (.iconst 0, 1) := by decide +kernel
theorem dL_undo_2 : decode cL_undo 2 = .ok (.aload_n 0, 1) := by decide +kernel
theorem dL_undo_3 : decode cL_undo 3 = .ok (.invokevirtual 111, 3) := by decide +kernel
theorem dL_undo_6 : decode cL_undo 6 = .ok (.i2l, 1) := by decide +kernel
theorem dL_undo_7 : decode cL_undo 7 = .ok (.lastore, 1) := by decide +kernel
theorem dL_undo_8 : decode cL_undo 8 = .ok (.goto 6, 3) := by decide +kernel
theorem dL_undo_11 : decode cL_undo 11 = .ok (.astore_n 2, 1) := by decide +kernel
theorem dL_undo_12 : decode cL_undo 12 = .ok (.iconst 1, 1) := by decide +kernel
theorem dL_undo_13 : decode cL_undo 13 = .ok (.ireturn, 1) := by decide +kernel
theorem dL_undo_14 : decode cL_undo 14 = .ok (.iconst 0, 1) := by decide +kernel
theorem dL_undo_15 : decode cL_undo 15 = .ok (.ireturn, 1) := by decide +kernel
theorem dL_restore_0 : decode cL_restore 0 = .ok (.aload_n 0, 1) := by decide +kernel
theorem dL_restore_1 : decode cL_restore 1 = .ok (.invokevirtual 114, 3) := by decide +kernel
theorem dL_restore_4 : decode cL_restore 4 = .ok (.goto 6, 3) := by decide +kernel
theorem dL_restore_7 : decode cL_restore 7 = .ok (.astore_n 1, 1) := by decide +kernel
theorem dL_restore_8 : decode cL_restore 8 = .ok (.iconst 1, 1) := by decide +kernel
theorem dL_restore_9 : decode cL_restore 9 = .ok (.ireturn, 1) := by decide +kernel
theorem dL_restore_10 : decode cL_restore 10 = .ok (.iconst 0, 1) := by decide +kernel
theorem dL_restore_11 : decode cL_restore 11 = .ok (.ireturn, 1) := by decide +kernel
theorem dL_law_0 : decode cL_law 0 = .ok (.new 8, 3) := by decide +kernel
theorem dL_law_3 : decode cL_law 3 = .ok (.dup, 1) := by decide +kernel
theorem dL_law_4 : decode cL_law 4 = .ok (.invokespecial 117, 3) := by decide +kernel
theorem dL_law_7 : decode cL_law 7 = .ok (.astore_n 1, 1) := by decide +kernel
theorem dL_law_8 : decode cL_law 8 = .ok (.new 118, 3) := by decide +kernel
theorem dL_law_11 : decode cL_law 11 = .ok (.dup, 1) := by decide +kernel
theorem dL_law_12 : decode cL_law 12 = .ok (.invokespecial 120, 3) := by decide +kernel
theorem dL_law_15 : decode cL_law 15 = .ok (.astore_n 2, 1) := by decide +kernel
theorem dL_law_16 : decode cL_law 16 = .ok (.iconst 1, 1) := by decide +kernel
theorem dL_law_17 : decode cL_law 17 = .ok (.newarray .long, 2) := by decide +kernel
theorem dL_law_19 : decode cL_law 19 = .ok (.astore_n 3, 1) := by decide +kernel
theorem dL_law_20 : decode cL_law 20 = .ok (.iconst 1, 1) := by decide +kernel
theorem dL_law_21 : decode cL_law 21 = .ok (.newarray .double, 2) := by decide +kernel
theorem dL_law_23 : decode cL_law 23 = .ok (.astore 4, 2) := by decide +kernel
theorem dL_law_25 : decode cL_law 25 = .ok (.iconst 0, 1) := by decide +kernel
theorem dL_law_26 : decode cL_law 26 = .ok (.istore 5, 2) := by decide +kernel
theorem dL_law_28 : decode cL_law 28 = .ok (.iload 5, 2) := by decide +kernel
theorem dL_law_30 : decode cL_law 30 = .ok (.aload_n 0, 1) := by decide +kernel
theorem dL_law_31 : decode cL_law 31 = .ok (.arraylength, 1) := by decide +kernel
theorem dL_law_32 : decode cL_law 32 = .ok (.bipush 7, 2) := by decide +kernel
theorem dL_law_34 : decode cL_law 34 = .ok (.isub, 1) := by decide +kernel
theorem dL_law_35 : decode cL_law 35 = .ok (.if_icmp .gt 2090, 3) := by decide +kernel
theorem dL_law_38 : decode cL_law 38 = .ok (.aload_n 0, 1) := by decide +kernel
theorem dL_law_39 : decode cL_law 39 = .ok (.iload 5, 2) := by decide +kernel
theorem dL_law_41 : decode cL_law 41 = .ok (.iaload, 1) := by decide +kernel
theorem dL_law_42 : decode cL_law 42 = .ok (.bipush 63, 2) := by decide +kernel
theorem dL_law_44 : decode cL_law 44 = .ok (.iand, 1) := by decide +kernel
theorem dL_law_45 : decode cL_law 45 = .ok (.tableswitch 2074 0 32 #[147, 239, 307, 375, 443, 499, 579, 635, 703, 771, 889, 927, 971, 984, 1028, 1096, 1109, 1177, 1245, 1301, 1357, 1370, 1438, 1506, 1574, 1654, 1722, 1778, 1874, 1930, 1995, 2039, 2050], 147) := by decide +kernel
theorem dL_law_192 : decode cL_law 192 = .ok (.aload_n 1, 1) := by decide +kernel
theorem dL_law_193 : decode cL_law 193 = .ok (.aload_n 0, 1) := by decide +kernel
theorem dL_law_194 : decode cL_law 194 = .ok (.iload 5, 2) := by decide +kernel
theorem dL_law_196 : decode cL_law 196 = .ok (.iconst 1, 1) := by decide +kernel
theorem dL_law_197 : decode cL_law 197 = .ok (.iadd, 1) := by decide +kernel
theorem dL_law_198 : decode cL_law 198 = .ok (.iaload, 1) := by decide +kernel
theorem dL_law_199 : decode cL_law 199 = .ok (.aload_n 0, 1) := by decide +kernel
theorem dL_law_200 : decode cL_law 200 = .ok (.iload 5, 2) := by decide +kernel
theorem dL_law_202 : decode cL_law 202 = .ok (.iconst 2, 1) := by decide +kernel
theorem dL_law_203 : decode cL_law 203 = .ok (.iadd, 1) := by decide +kernel
theorem dL_law_204 : decode cL_law 204 = .ok (.iaload, 1) := by decide +kernel
theorem dL_law_205 : decode cL_law 205 = .ok (.aload_n 0, 1) := by decide +kernel
theorem dL_law_206 : decode cL_law 206 = .ok (.iload 5, 2) := by decide +kernel
theorem dL_law_208 : decode cL_law 208 = .ok (.iconst 3, 1) := by decide +kernel
theorem dL_law_209 : decode cL_law 209 = .ok (.iadd, 1) := by decide +kernel
theorem dL_law_210 : decode cL_law 210 = .ok (.iaload, 1) := by decide +kernel
theorem dL_law_211 : decode cL_law 211 = .ok (.aload_n 0, 1) := by decide +kernel
theorem dL_law_212 : decode cL_law 212 = .ok (.iload 5, 2) := by decide +kernel
theorem dL_law_214 : decode cL_law 214 = .ok (.iconst 4, 1) := by decide +kernel
theorem dL_law_215 : decode cL_law 215 = .ok (.iadd, 1) := by decide +kernel
theorem dL_law_216 : decode cL_law 216 = .ok (.iaload, 1) := by decide +kernel
theorem dL_law_217 : decode cL_law 217 = .ok (.aload_n 3, 1) := by decide +kernel
theorem dL_law_218 : decode cL_law 218 = .ok (.invokestatic 121, 3) := by decide +kernel
theorem dL_law_221 : decode cL_law 221 = .ok (.istore 6, 2) := by decide +kernel
theorem dL_law_223 : decode cL_law 223 = .ok (.aload_n 2, 1) := by decide +kernel
theorem dL_law_224 : decode cL_law 224 = .ok (.aload_n 0, 1) := by decide +kernel
theorem dL_law_225 : decode cL_law 225 = .ok (.iload 5, 2) := by decide +kernel
theorem dL_law_227 : decode cL_law 227 = .ok (.iconst 1, 1) := by decide +kernel
theorem dL_law_228 : decode cL_law 228 = .ok (.iadd, 1) := by decide +kernel
theorem dL_law_229 : decode cL_law 229 = .ok (.iaload, 1) := by decide +kernel
theorem dL_law_230 : decode cL_law 230 = .ok (.aload_n 0, 1) := by decide +kernel
theorem dL_law_231 : decode cL_law 231 = .ok (.iload 5, 2) := by decide +kernel
theorem dL_law_233 : decode cL_law 233 = .ok (.iconst 2, 1) := by decide +kernel
theorem dL_law_234 : decode cL_law 234 = .ok (.iadd, 1) := by decide +kernel
theorem dL_law_235 : decode cL_law 235 = .ok (.iaload, 1) := by decide +kernel
theorem dL_law_236 : decode cL_law 236 = .ok (.aload_n 0, 1) := by decide +kernel
theorem dL_law_237 : decode cL_law 237 = .ok (.iload 5, 2) := by decide +kernel
theorem dL_law_239 : decode cL_law 239 = .ok (.iconst 3, 1) := by decide +kernel
theorem dL_law_240 : decode cL_law 240 = .ok (.iadd, 1) := by decide +kernel
theorem dL_law_241 : decode cL_law 241 = .ok (.iaload, 1) := by decide +kernel
theorem dL_law_242 : decode cL_law 242 = .ok (.aload_n 0, 1) := by decide +kernel
theorem dL_law_243 : decode cL_law 243 = .ok (.iload 5, 2) := by decide +kernel
theorem dL_law_245 : decode cL_law 245 = .ok (.iconst 4, 1) := by decide +kernel
theorem dL_law_246 : decode cL_law 246 = .ok (.iadd, 1) := by decide +kernel
theorem dL_law_247 : decode cL_law 247 = .ok (.iaload, 1) := by decide +kernel
theorem dL_law_248 : decode cL_law 248 = .ok (.invokevirtual 126, 3) := by decide +kernel
theorem dL_law_251 : decode cL_law 251 = .ok (.istore 7, 2) := by decide +kernel
theorem dL_law_253 : decode cL_law 253 = .ok (.aload_n 2, 1) := by decide +kernel
theorem dL_law_254 : decode cL_law 254 = .ok (.invokevirtual 127, 3) := by decide +kernel
theorem dL_law_257 : decode cL_law 257 = .ok (.iload 6, 2) := by decide +kernel
theorem dL_law_259 : decode cL_law 259 = .ok (.if_icmp .eq 5, 3) := by decide +kernel
theorem dL_law_262 : decode cL_law 262 = .ok (.iconst 0, 1) := by decide +kernel
theorem dL_law_263 : decode cL_law 263 = .ok (.ireturn, 1) := by decide +kernel
theorem dL_law_264 : decode cL_law 264 = .ok (.iload 6, 2) := by decide +kernel
theorem dL_law_266 : decode cL_law 266 = .ok (.ifCond .ne 15, 3) := by decide +kernel
theorem dL_law_269 : decode cL_law 269 = .ok (.aload_n 3, 1) := by decide +kernel
theorem dL_law_270 : decode cL_law 270 = .ok (.iconst 0, 1) := by decide +kernel
theorem dL_law_271 : decode cL_law 271 = .ok (.laload, 1) := by decide +kernel
theorem dL_law_272 : decode cL_law 272 = .ok (.iload 7, 2) := by decide +kernel
theorem dL_law_274 : decode cL_law 274 = .ok (.i2l, 1) := by decide +kernel
theorem dL_law_275 : decode cL_law 275 = .ok (.lcmp, 1) := by decide +kernel
theorem dL_law_276 : decode cL_law 276 = .ok (.ifCond .eq 5, 3) := by decide +kernel
theorem dL_law_279 : decode cL_law 279 = .ok (.iconst 0, 1) := by decide +kernel
theorem dL_law_280 : decode cL_law 280 = .ok (.ireturn, 1) := by decide +kernel
theorem dL_law_281 : decode cL_law 281 = .ok (.goto 1838, 3) := by decide +kernel
theorem dL_law_284 : decode cL_law 284 = .ok (.aload_n 1, 1) := by decide +kernel
theorem dL_law_285 : decode cL_law 285 = .ok (.aload_n 0, 1) := by decide +kernel
theorem dL_law_286 : decode cL_law 286 = .ok (.iload 5, 2) := by decide +kernel
theorem dL_law_288 : decode cL_law 288 = .ok (.iconst 1, 1) := by decide +kernel
theorem dL_law_289 : decode cL_law 289 = .ok (.iadd, 1) := by decide +kernel
theorem dL_law_290 : decode cL_law 290 = .ok (.iaload, 1) := by decide +kernel
theorem dL_law_291 : decode cL_law 291 = .ok (.aload_n 0, 1) := by decide +kernel
theorem dL_law_292 : decode cL_law 292 = .ok (.iload 5, 2) := by decide +kernel
theorem dL_law_294 : decode cL_law 294 = .ok (.iconst 2, 1) := by decide +kernel
theorem dL_law_295 : decode cL_law 295 = .ok (.iadd, 1) := by decide +kernel
theorem dL_law_296 : decode cL_law 296 = .ok (.iaload, 1) := by decide +kernel
theorem dL_law_297 : decode cL_law 297 = .ok (.aload_n 3, 1) := by decide +kernel
theorem dL_law_298 : decode cL_law 298 = .ok (.invokestatic 130, 3) := by decide +kernel
theorem dL_law_301 : decode cL_law 301 = .ok (.istore 6, 2) := by decide +kernel
theorem dL_law_303 : decode cL_law 303 = .ok (.aload_n 2, 1) := by decide +kernel
theorem dL_law_304 : decode cL_law 304 = .ok (.aload_n 0, 1) := by decide +kernel
theorem dL_law_305 : decode cL_law 305 = .ok (.iload 5, 2) := by decide +kernel
theorem dL_law_307 : decode cL_law 307 = .ok (.iconst 1, 1) := by decide +kernel
theorem dL_law_308 : decode cL_law 308 = .ok (.iadd, 1) := by decide +kernel
theorem dL_law_309 : decode cL_law 309 = .ok (.iaload, 1) := by decide +kernel
theorem dL_law_310 : decode cL_law 310 = .ok (.aload_n 0, 1) := by decide +kernel
theorem dL_law_311 : decode cL_law 311 = .ok (.iload 5, 2) := by decide +kernel
theorem dL_law_313 : decode cL_law 313 = .ok (.iconst 2, 1) := by decide +kernel
theorem dL_law_314 : decode cL_law 314 = .ok (.iadd, 1) := by decide +kernel
theorem dL_law_315 : decode cL_law 315 = .ok (.iaload, 1) := by decide +kernel
theorem dL_law_316 : decode cL_law 316 = .ok (.invokevirtual 133, 3) := by decide +kernel
theorem dL_law_319 : decode cL_law 319 = .ok (.istore 7, 2) := by decide +kernel
theorem dL_law_321 : decode cL_law 321 = .ok (.aload_n 2, 1) := by decide +kernel
theorem dL_law_322 : decode cL_law 322 = .ok (.invokevirtual 127, 3) := by decide +kernel
theorem dL_law_325 : decode cL_law 325 = .ok (.iload 6, 2) := by decide +kernel
theorem dL_law_327 : decode cL_law 327 = .ok (.if_icmp .eq 5, 3) := by decide +kernel
theorem dL_law_330 : decode cL_law 330 = .ok (.iconst 0, 1) := by decide +kernel
theorem dL_law_331 : decode cL_law 331 = .ok (.ireturn, 1) := by decide +kernel
theorem dL_law_332 : decode cL_law 332 = .ok (.iload 6, 2) := by decide +kernel
theorem dL_law_334 : decode cL_law 334 = .ok (.ifCond .ne 15, 3) := by decide +kernel
theorem dL_law_337 : decode cL_law 337 = .ok (.aload_n 3, 1) := by decide +kernel
theorem dL_law_338 : decode cL_law 338 = .ok (.iconst 0, 1) := by decide +kernel
theorem dL_law_339 : decode cL_law 339 = .ok (.laload, 1) := by decide +kernel
theorem dL_law_340 : decode cL_law 340 = .ok (.iload 7, 2) := by decide +kernel
theorem dL_law_342 : decode cL_law 342 = .ok (.i2l, 1) := by decide +kernel
theorem dL_law_343 : decode cL_law 343 = .ok (.lcmp, 1) := by decide +kernel
theorem dL_law_344 : decode cL_law 344 = .ok (.ifCond .eq 5, 3) := by decide +kernel
theorem dL_law_347 : decode cL_law 347 = .ok (.iconst 0, 1) := by decide +kernel
theorem dL_law_348 : decode cL_law 348 = .ok (.ireturn, 1) := by decide +kernel
theorem dL_law_349 : decode cL_law 349 = .ok (.goto 1770, 3) := by decide +kernel
theorem dL_law_352 : decode cL_law 352 = .ok (.aload_n 1, 1) := by decide +kernel
theorem dL_law_353 : decode cL_law 353 = .ok (.aload_n 0, 1) := by decide +kernel
theorem dL_law_354 : decode cL_law 354 = .ok (.iload 5, 2) := by decide +kernel
theorem dL_law_356 : decode cL_law 356 = .ok (.iconst 1, 1) := by decide +kernel
theorem dL_law_357 : decode cL_law 357 = .ok (.iadd, 1) := by decide +kernel
theorem dL_law_358 : decode cL_law 358 = .ok (.iaload, 1) := by decide +kernel
theorem dL_law_359 : decode cL_law 359 = .ok (.aload_n 0, 1) := by decide +kernel
theorem dL_law_360 : decode cL_law 360 = .ok (.iload 5, 2) := by decide +kernel
theorem dL_law_362 : decode cL_law 362 = .ok (.iconst 2, 1) := by decide +kernel
theorem dL_law_363 : decode cL_law 363 = .ok (.iadd, 1) := by decide +kernel
theorem dL_law_364 : decode cL_law 364 = .ok (.iaload, 1) := by decide +kernel
theorem dL_law_365 : decode cL_law 365 = .ok (.aload_n 3, 1) := by decide +kernel
theorem dL_law_366 : decode cL_law 366 = .ok (.invokestatic 134, 3) := by decide +kernel
theorem dL_law_369 : decode cL_law 369 = .ok (.istore 6, 2) := by decide +kernel
theorem dL_law_371 : decode cL_law 371 = .ok (.aload_n 2, 1) := by decide +kernel
theorem dL_law_372 : decode cL_law 372 = .ok (.aload_n 0, 1) := by decide +kernel
theorem dL_law_373 : decode cL_law 373 = .ok (.iload 5, 2) := by decide +kernel
theorem dL_law_375 : decode cL_law 375 = .ok (.iconst 1, 1) := by decide +kernel
theorem dL_law_376 : decode cL_law 376 = .ok (.iadd, 1) := by decide +kernel
theorem dL_law_377 : decode cL_law 377 = .ok (.iaload, 1) := by decide +kernel
theorem dL_law_378 : decode cL_law 378 = .ok (.aload_n 0, 1) := by decide +kernel
theorem dL_law_379 : decode cL_law 379 = .ok (.iload 5, 2) := by decide +kernel
theorem dL_law_381 : decode cL_law 381 = .ok (.iconst 2, 1) := by decide +kernel
theorem dL_law_382 : decode cL_law 382 = .ok (.iadd, 1) := by decide +kernel
theorem dL_law_383 : decode cL_law 383 = .ok (.iaload, 1) := by decide +kernel
theorem dL_law_384 : decode cL_law 384 = .ok (.invokevirtual 136, 3) := by decide +kernel
theorem dL_law_387 : decode cL_law 387 = .ok (.istore 7, 2) := by decide +kernel
theorem dL_law_389 : decode cL_law 389 = .ok (.aload_n 2, 1) := by decide +kernel
theorem dL_law_390 : decode cL_law 390 = .ok (.invokevirtual 127, 3) := by decide +kernel
theorem dL_law_393 : decode cL_law 393 = .ok (.iload 6, 2) := by decide +kernel
theorem dL_law_395 : decode cL_law 395 = .ok (.if_icmp .eq 5, 3) := by decide +kernel
theorem dL_law_398 : decode cL_law 398 = .ok (.iconst 0, 1) := by decide +kernel
theorem dL_law_399 : decode cL_law 399 = .ok (.ireturn, 1) := by decide +kernel
theorem dL_law_400 : decode cL_law 400 = .ok (.iload 6, 2) := by decide +kernel
theorem dL_law_402 : decode cL_law 402 = .ok (.ifCond .ne 15, 3) := by decide +kernel
theorem dL_law_405 : decode cL_law 405 = .ok (.aload_n 3, 1) := by decide +kernel
theorem dL_law_406 : decode cL_law 406 = .ok (.iconst 0, 1) := by decide +kernel
theorem dL_law_407 : decode cL_law 407 = .ok (.laload, 1) := by decide +kernel
theorem dL_law_408 : decode cL_law 408 = .ok (.iload 7, 2) := by decide +kernel
theorem dL_law_410 : decode cL_law 410 = .ok (.i2l, 1) := by decide +kernel
theorem dL_law_411 : decode cL_law 411 = .ok (.lcmp, 1) := by decide +kernel
theorem dL_law_412 : decode cL_law 412 = .ok (.ifCond .eq 5, 3) := by decide +kernel
theorem dL_law_415 : decode cL_law 415 = .ok (.iconst 0, 1) := by decide +kernel
theorem dL_law_416 : decode cL_law 416 = .ok (.ireturn, 1) := by decide +kernel
theorem dL_law_417 : decode cL_law 417 = .ok (.goto 1702, 3) := by decide +kernel
theorem dL_law_420 : decode cL_law 420 = .ok (.aload_n 1, 1) := by decide +kernel
theorem dL_law_421 : decode cL_law 421 = .ok (.aload_n 0, 1) := by decide +kernel
theorem dL_law_422 : decode cL_law 422 = .ok (.iload 5, 2) := by decide +kernel
theorem dL_law_424 : decode cL_law 424 = .ok (.iconst 1, 1) := by decide +kernel
theorem dL_law_425 : decode cL_law 425 = .ok (.iadd, 1) := by decide +kernel
theorem dL_law_426 : decode cL_law 426 = .ok (.iaload, 1) := by decide +kernel
theorem dL_law_427 : decode cL_law 427 = .ok (.aload_n 0, 1) := by decide +kernel
theorem dL_law_428 : decode cL_law 428 = .ok (.iload 5, 2) := by decide +kernel
theorem dL_law_430 : decode cL_law 430 = .ok (.iconst 2, 1) := by decide +kernel
theorem dL_law_431 : decode cL_law 431 = .ok (.iadd, 1) := by decide +kernel
theorem dL_law_432 : decode cL_law 432 = .ok (.iaload, 1) := by decide +kernel
theorem dL_law_433 : decode cL_law 433 = .ok (.aload_n 3, 1) := by decide +kernel
theorem dL_law_434 : decode cL_law 434 = .ok (.invokestatic 137, 3) := by decide +kernel
theorem dL_law_437 : decode cL_law 437 = .ok (.istore 6, 2) := by decide +kernel
theorem dL_law_439 : decode cL_law 439 = .ok (.aload_n 2, 1) := by decide +kernel
theorem dL_law_440 : decode cL_law 440 = .ok (.aload_n 0, 1) := by decide +kernel
theorem dL_law_441 : decode cL_law 441 = .ok (.iload 5, 2) := by decide +kernel
theorem dL_law_443 : decode cL_law 443 = .ok (.iconst 1, 1) := by decide +kernel
theorem dL_law_444 : decode cL_law 444 = .ok (.iadd, 1) := by decide +kernel
theorem dL_law_445 : decode cL_law 445 = .ok (.iaload, 1) := by decide +kernel
theorem dL_law_446 : decode cL_law 446 = .ok (.aload_n 0, 1) := by decide +kernel
theorem dL_law_447 : decode cL_law 447 = .ok (.iload 5, 2) := by decide +kernel
theorem dL_law_449 : decode cL_law 449 = .ok (.iconst 2, 1) := by decide +kernel
theorem dL_law_450 : decode cL_law 450 = .ok (.iadd, 1) := by decide +kernel
theorem dL_law_451 : decode cL_law 451 = .ok (.iaload, 1) := by decide +kernel
theorem dL_law_452 : decode cL_law 452 = .ok (.invokevirtual 139, 3) := by decide +kernel
theorem dL_law_455 : decode cL_law 455 = .ok (.istore 7, 2) := by decide +kernel
theorem dL_law_457 : decode cL_law 457 = .ok (.aload_n 2, 1) := by decide +kernel
theorem dL_law_458 : decode cL_law 458 = .ok (.invokevirtual 127, 3) := by decide +kernel
theorem dL_law_461 : decode cL_law 461 = .ok (.iload 6, 2) := by decide +kernel
theorem dL_law_463 : decode cL_law 463 = .ok (.if_icmp .eq 5, 3) := by decide +kernel
theorem dL_law_466 : decode cL_law 466 = .ok (.iconst 0, 1) := by decide +kernel
theorem dL_law_467 : decode cL_law 467 = .ok (.ireturn, 1) := by decide +kernel
theorem dL_law_468 : decode cL_law 468 = .ok (.iload 6, 2) := by decide +kernel
theorem dL_law_470 : decode cL_law 470 = .ok (.ifCond .ne 15, 3) := by decide +kernel
theorem dL_law_473 : decode cL_law 473 = .ok (.aload_n 3, 1) := by decide +kernel
theorem dL_law_474 : decode cL_law 474 = .ok (.iconst 0, 1) := by decide +kernel
theorem dL_law_475 : decode cL_law 475 = .ok (.laload, 1) := by decide +kernel
theorem dL_law_476 : decode cL_law 476 = .ok (.iload 7, 2) := by decide +kernel
theorem dL_law_478 : decode cL_law 478 = .ok (.i2l, 1) := by decide +kernel
theorem dL_law_479 : decode cL_law 479 = .ok (.lcmp, 1) := by decide +kernel
theorem dL_law_480 : decode cL_law 480 = .ok (.ifCond .eq 5, 3) := by decide +kernel
theorem dL_law_483 : decode cL_law 483 = .ok (.iconst 0, 1) := by decide +kernel
theorem dL_law_484 : decode cL_law 484 = .ok (.ireturn, 1) := by decide +kernel
theorem dL_law_485 : decode cL_law 485 = .ok (.goto 1634, 3) := by decide +kernel
theorem dL_law_488 : decode cL_law 488 = .ok (.aload_n 1, 1) := by decide +kernel
theorem dL_law_489 : decode cL_law 489 = .ok (.aload_n 0, 1) := by decide +kernel
theorem dL_law_490 : decode cL_law 490 = .ok (.iload 5, 2) := by decide +kernel
theorem dL_law_492 : decode cL_law 492 = .ok (.iconst 1, 1) := by decide +kernel
theorem dL_law_493 : decode cL_law 493 = .ok (.iadd, 1) := by decide +kernel
theorem dL_law_494 : decode cL_law 494 = .ok (.iaload, 1) := by decide +kernel
theorem dL_law_495 : decode cL_law 495 = .ok (.aload_n 3, 1) := by decide +kernel
theorem dL_law_496 : decode cL_law 496 = .ok (.invokestatic 140, 3) := by decide +kernel
theorem dL_law_499 : decode cL_law 499 = .ok (.istore 6, 2) := by decide +kernel
theorem dL_law_501 : decode cL_law 501 = .ok (.aload_n 2, 1) := by decide +kernel
theorem dL_law_502 : decode cL_law 502 = .ok (.aload_n 0, 1) := by decide +kernel
theorem dL_law_503 : decode cL_law 503 = .ok (.iload 5, 2) := by decide +kernel
theorem dL_law_505 : decode cL_law 505 = .ok (.iconst 1, 1) := by decide +kernel
theorem dL_law_506 : decode cL_law 506 = .ok (.iadd, 1) := by decide +kernel
theorem dL_law_507 : decode cL_law 507 = .ok (.iaload, 1) := by decide +kernel
theorem dL_law_508 : decode cL_law 508 = .ok (.invokevirtual 143, 3) := by decide +kernel
theorem dL_law_511 : decode cL_law 511 = .ok (.istore 7, 2) := by decide +kernel
theorem dL_law_513 : decode cL_law 513 = .ok (.aload_n 2, 1) := by decide +kernel
theorem dL_law_514 : decode cL_law 514 = .ok (.invokevirtual 127, 3) := by decide +kernel
theorem dL_law_517 : decode cL_law 517 = .ok (.iload 6, 2) := by decide +kernel
theorem dL_law_519 : decode cL_law 519 = .ok (.if_icmp .eq 5, 3) := by decide +kernel
theorem dL_law_522 : decode cL_law 522 = .ok (.iconst 0, 1) := by decide +kernel
theorem dL_law_523 : decode cL_law 523 = .ok (.ireturn, 1) := by decide +kernel
theorem dL_law_524 : decode cL_law 524 = .ok (.iload 6, 2) := by decide +kernel
theorem dL_law_526 : decode cL_law 526 = .ok (.ifCond .ne 15, 3) := by decide +kernel
theorem dL_law_529 : decode cL_law 529 = .ok (.aload_n 3, 1) := by decide +kernel
theorem dL_law_530 : decode cL_law 530 = .ok (.iconst 0, 1) := by decide +kernel
theorem dL_law_531 : decode cL_law 531 = .ok (.laload, 1) := by decide +kernel
theorem dL_law_532 : decode cL_law 532 = .ok (.iload 7, 2) := by decide +kernel
theorem dL_law_534 : decode cL_law 534 = .ok (.i2l, 1) := by decide +kernel
theorem dL_law_535 : decode cL_law 535 = .ok (.lcmp, 1) := by decide +kernel
theorem dL_law_536 : decode cL_law 536 = .ok (.ifCond .eq 5, 3) := by decide +kernel
theorem dL_law_539 : decode cL_law 539 = .ok (.iconst 0, 1) := by decide +kernel
theorem dL_law_540 : decode cL_law 540 = .ok (.ireturn, 1) := by decide +kernel
theorem dL_law_541 : decode cL_law 541 = .ok (.goto 1578, 3) := by decide +kernel
theorem dL_law_544 : decode cL_law 544 = .ok (.aload_n 1, 1) := by decide +kernel
theorem dL_law_545 : decode cL_law 545 = .ok (.aload_n 0, 1) := by decide +kernel
theorem dL_law_546 : decode cL_law 546 = .ok (.iload 5, 2) := by decide +kernel
theorem dL_law_548 : decode cL_law 548 = .ok (.iconst 1, 1) := by decide +kernel
theorem dL_law_549 : decode cL_law 549 = .ok (.iadd, 1) := by decide +kernel
theorem dL_law_550 : decode cL_law 550 = .ok (.iaload, 1) := by decide +kernel
theorem dL_law_551 : decode cL_law 551 = .ok (.aload_n 0, 1) := by decide +kernel
theorem dL_law_552 : decode cL_law 552 = .ok (.iload 5, 2) := by decide +kernel
theorem dL_law_554 : decode cL_law 554 = .ok (.iconst 2, 1) := by decide +kernel
theorem dL_law_555 : decode cL_law 555 = .ok (.iadd, 1) := by decide +kernel
theorem dL_law_556 : decode cL_law 556 = .ok (.iaload, 1) := by decide +kernel
theorem dL_law_557 : decode cL_law 557 = .ok (.aload_n 0, 1) := by decide +kernel
theorem dL_law_558 : decode cL_law 558 = .ok (.iload 5, 2) := by decide +kernel
theorem dL_law_560 : decode cL_law 560 = .ok (.iconst 3, 1) := by decide +kernel
theorem dL_law_561 : decode cL_law 561 = .ok (.iadd, 1) := by decide +kernel
theorem dL_law_562 : decode cL_law 562 = .ok (.iaload, 1) := by decide +kernel
theorem dL_law_563 : decode cL_law 563 = .ok (.aload_n 3, 1) := by decide +kernel
theorem dL_law_564 : decode cL_law 564 = .ok (.invokestatic 144, 3) := by decide +kernel
theorem dL_law_567 : decode cL_law 567 = .ok (.istore 6, 2) := by decide +kernel
theorem dL_law_569 : decode cL_law 569 = .ok (.aload_n 2, 1) := by decide +kernel
theorem dL_law_570 : decode cL_law 570 = .ok (.aload_n 0, 1) := by decide +kernel
theorem dL_law_571 : decode cL_law 571 = .ok (.iload 5, 2) := by decide +kernel
theorem dL_law_573 : decode cL_law 573 = .ok (.iconst 1, 1) := by decide +kernel
theorem dL_law_574 : decode cL_law 574 = .ok (.iadd, 1) := by decide +kernel
theorem dL_law_575 : decode cL_law 575 = .ok (.iaload, 1) := by decide +kernel
theorem dL_law_576 : decode cL_law 576 = .ok (.aload_n 0, 1) := by decide +kernel
theorem dL_law_577 : decode cL_law 577 = .ok (.iload 5, 2) := by decide +kernel
theorem dL_law_579 : decode cL_law 579 = .ok (.iconst 2, 1) := by decide +kernel
theorem dL_law_580 : decode cL_law 580 = .ok (.iadd, 1) := by decide +kernel
theorem dL_law_581 : decode cL_law 581 = .ok (.iaload, 1) := by decide +kernel
theorem dL_law_582 : decode cL_law 582 = .ok (.aload_n 0, 1) := by decide +kernel
theorem dL_law_583 : decode cL_law 583 = .ok (.iload 5, 2) := by decide +kernel
theorem dL_law_585 : decode cL_law 585 = .ok (.iconst 3, 1) := by decide +kernel
theorem dL_law_586 : decode cL_law 586 = .ok (.iadd, 1) := by decide +kernel
theorem dL_law_587 : decode cL_law 587 = .ok (.iaload, 1) := by decide +kernel
theorem dL_law_588 : decode cL_law 588 = .ok (.invokevirtual 147, 3) := by decide +kernel
theorem dL_law_591 : decode cL_law 591 = .ok (.istore 7, 2) := by decide +kernel
theorem dL_law_593 : decode cL_law 593 = .ok (.aload_n 2, 1) := by decide +kernel
theorem dL_law_594 : decode cL_law 594 = .ok (.invokevirtual 127, 3) := by decide +kernel
theorem dL_law_597 : decode cL_law 597 = .ok (.iload 6, 2) := by decide +kernel
theorem dL_law_599 : decode cL_law 599 = .ok (.if_icmp .eq 5, 3) := by decide +kernel
theorem dL_law_602 : decode cL_law 602 = .ok (.iconst 0, 1) := by decide +kernel
theorem dL_law_603 : decode cL_law 603 = .ok (.ireturn, 1) := by decide +kernel
theorem dL_law_604 : decode cL_law 604 = .ok (.iload 6, 2) := by decide +kernel
theorem dL_law_606 : decode cL_law 606 = .ok (.ifCond .ne 15, 3) := by decide +kernel
theorem dL_law_609 : decode cL_law 609 = .ok (.aload_n 3, 1) := by decide +kernel
theorem dL_law_610 : decode cL_law 610 = .ok (.iconst 0, 1) := by decide +kernel
theorem dL_law_611 : decode cL_law 611 = .ok (.laload, 1) := by decide +kernel
theorem dL_law_612 : decode cL_law 612 = .ok (.iload 7, 2) := by decide +kernel
theorem dL_law_614 : decode cL_law 614 = .ok (.i2l, 1) := by decide +kernel
theorem dL_law_615 : decode cL_law 615 = .ok (.lcmp, 1) := by decide +kernel
theorem dL_law_616 : decode cL_law 616 = .ok (.ifCond .eq 5, 3) := by decide +kernel
theorem dL_law_619 : decode cL_law 619 = .ok (.iconst 0, 1) := by decide +kernel
theorem dL_law_620 : decode cL_law 620 = .ok (.ireturn, 1) := by decide +kernel
theorem dL_law_621 : decode cL_law 621 = .ok (.goto 1498, 3) := by decide +kernel
theorem dL_law_624 : decode cL_law 624 = .ok (.aload_n 1, 1) := by decide +kernel
theorem dL_law_625 : decode cL_law 625 = .ok (.aload_n 0, 1) := by decide +kernel
theorem dL_law_626 : decode cL_law 626 = .ok (.iload 5, 2) := by decide +kernel
theorem dL_law_628 : decode cL_law 628 = .ok (.iconst 1, 1) := by decide +kernel
theorem dL_law_629 : decode cL_law 629 = .ok (.iadd, 1) := by decide +kernel
theorem dL_law_630 : decode cL_law 630 = .ok (.iaload, 1) := by decide +kernel
theorem dL_law_631 : decode cL_law 631 = .ok (.aload_n 3, 1) := by decide +kernel
theorem dL_law_632 : decode cL_law 632 = .ok (.invokestatic 148, 3) := by decide +kernel
theorem dL_law_635 : decode cL_law 635 = .ok (.istore 6, 2) := by decide +kernel
theorem dL_law_637 : decode cL_law 637 = .ok (.aload_n 2, 1) := by decide +kernel
theorem dL_law_638 : decode cL_law 638 = .ok (.aload_n 0, 1) := by decide +kernel
theorem dL_law_639 : decode cL_law 639 = .ok (.iload 5, 2) := by decide +kernel
theorem dL_law_641 : decode cL_law 641 = .ok (.iconst 1, 1) := by decide +kernel
theorem dL_law_642 : decode cL_law 642 = .ok (.iadd, 1) := by decide +kernel
theorem dL_law_643 : decode cL_law 643 = .ok (.iaload, 1) := by decide +kernel
theorem dL_law_644 : decode cL_law 644 = .ok (.invokevirtual 150, 3) := by decide +kernel
theorem dL_law_647 : decode cL_law 647 = .ok (.istore 7, 2) := by decide +kernel
theorem dL_law_649 : decode cL_law 649 = .ok (.aload_n 2, 1) := by decide +kernel
theorem dL_law_650 : decode cL_law 650 = .ok (.invokevirtual 127, 3) := by decide +kernel
theorem dL_law_653 : decode cL_law 653 = .ok (.iload 6, 2) := by decide +kernel
theorem dL_law_655 : decode cL_law 655 = .ok (.if_icmp .eq 5, 3) := by decide +kernel
theorem dL_law_658 : decode cL_law 658 = .ok (.iconst 0, 1) := by decide +kernel
theorem dL_law_659 : decode cL_law 659 = .ok (.ireturn, 1) := by decide +kernel
theorem dL_law_660 : decode cL_law 660 = .ok (.iload 6, 2) := by decide +kernel
theorem dL_law_662 : decode cL_law 662 = .ok (.ifCond .ne 15, 3) := by decide +kernel
theorem dL_law_665 : decode cL_law 665 = .ok (.aload_n 3, 1) := by decide +kernel
theorem dL_law_666 : decode cL_law 666 = .ok (.iconst 0, 1) := by decide +kernel
theorem dL_law_667 : decode cL_law 667 = .ok (.laload, 1) := by decide +kernel
theorem dL_law_668 : decode cL_law 668 = .ok (.iload 7, 2) := by decide +kernel
theorem dL_law_670 : decode cL_law 670 = .ok (.i2l, 1) := by decide +kernel
theorem dL_law_671 : decode cL_law 671 = .ok (.lcmp, 1) := by decide +kernel
theorem dL_law_672 : decode cL_law 672 = .ok (.ifCond .eq 5, 3) := by decide +kernel
theorem dL_law_675 : decode cL_law 675 = .ok (.iconst 0, 1) := by decide +kernel
theorem dL_law_676 : decode cL_law 676 = .ok (.ireturn, 1) := by decide +kernel
theorem dL_law_677 : decode cL_law 677 = .ok (.goto 1442, 3) := by decide +kernel
theorem dL_law_680 : decode cL_law 680 = .ok (.aload_n 1, 1) := by decide +kernel
theorem dL_law_681 : decode cL_law 681 = .ok (.aload_n 0, 1) := by decide +kernel
theorem dL_law_682 : decode cL_law 682 = .ok (.iload 5, 2) := by decide +kernel
theorem dL_law_684 : decode cL_law 684 = .ok (.iconst 1, 1) := by decide +kernel
theorem dL_law_685 : decode cL_law 685 = .ok (.iadd, 1) := by decide +kernel
theorem dL_law_686 : decode cL_law 686 = .ok (.iaload, 1) := by decide +kernel
theorem dL_law_687 : decode cL_law 687 = .ok (.aload_n 0, 1) := by decide +kernel
theorem dL_law_688 : decode cL_law 688 = .ok (.iload 5, 2) := by decide +kernel
theorem dL_law_690 : decode cL_law 690 = .ok (.iconst 2, 1) := by decide +kernel
theorem dL_law_691 : decode cL_law 691 = .ok (.iadd, 1) := by decide +kernel
theorem dL_law_692 : decode cL_law 692 = .ok (.iaload, 1) := by decide +kernel
theorem dL_law_693 : decode cL_law 693 = .ok (.aload_n 3, 1) := by decide +kernel
theorem dL_law_694 : decode cL_law 694 = .ok (.invokestatic 151, 3) := by decide +kernel
theorem dL_law_697 : decode cL_law 697 = .ok (.istore 6, 2) := by decide +kernel
theorem dL_law_699 : decode cL_law 699 = .ok (.aload_n 2, 1) := by decide +kernel
theorem dL_law_700 : decode cL_law 700 = .ok (.aload_n 0, 1) := by decide +kernel
theorem dL_law_701 : decode cL_law 701 = .ok (.iload 5, 2) := by decide +kernel
theorem dL_law_703 : decode cL_law 703 = .ok (.iconst 1, 1) := by decide +kernel
theorem dL_law_704 : decode cL_law 704 = .ok (.iadd, 1) := by decide +kernel
theorem dL_law_705 : decode cL_law 705 = .ok (.iaload, 1) := by decide +kernel
theorem dL_law_706 : decode cL_law 706 = .ok (.aload_n 0, 1) := by decide +kernel
theorem dL_law_707 : decode cL_law 707 = .ok (.iload 5, 2) := by decide +kernel
theorem dL_law_709 : decode cL_law 709 = .ok (.iconst 2, 1) := by decide +kernel
theorem dL_law_710 : decode cL_law 710 = .ok (.iadd, 1) := by decide +kernel
theorem dL_law_711 : decode cL_law 711 = .ok (.iaload, 1) := by decide +kernel
theorem dL_law_712 : decode cL_law 712 = .ok (.invokevirtual 153, 3) := by decide +kernel
theorem dL_law_715 : decode cL_law 715 = .ok (.istore 7, 2) := by decide +kernel
theorem dL_law_717 : decode cL_law 717 = .ok (.aload_n 2, 1) := by decide +kernel
theorem dL_law_718 : decode cL_law 718 = .ok (.invokevirtual 127, 3) := by decide +kernel
theorem dL_law_721 : decode cL_law 721 = .ok (.iload 6, 2) := by decide +kernel
theorem dL_law_723 : decode cL_law 723 = .ok (.if_icmp .eq 5, 3) := by decide +kernel
theorem dL_law_726 : decode cL_law 726 = .ok (.iconst 0, 1) := by decide +kernel
theorem dL_law_727 : decode cL_law 727 = .ok (.ireturn, 1) := by decide +kernel
theorem dL_law_728 : decode cL_law 728 = .ok (.iload 6, 2) := by decide +kernel
theorem dL_law_730 : decode cL_law 730 = .ok (.ifCond .ne 15, 3) := by decide +kernel
theorem dL_law_733 : decode cL_law 733 = .ok (.aload_n 3, 1) := by decide +kernel
theorem dL_law_734 : decode cL_law 734 = .ok (.iconst 0, 1) := by decide +kernel
theorem dL_law_735 : decode cL_law 735 = .ok (.laload, 1) := by decide +kernel
theorem dL_law_736 : decode cL_law 736 = .ok (.iload 7, 2) := by decide +kernel
theorem dL_law_738 : decode cL_law 738 = .ok (.i2l, 1) := by decide +kernel
theorem dL_law_739 : decode cL_law 739 = .ok (.lcmp, 1) := by decide +kernel
theorem dL_law_740 : decode cL_law 740 = .ok (.ifCond .eq 5, 3) := by decide +kernel
theorem dL_law_743 : decode cL_law 743 = .ok (.iconst 0, 1) := by decide +kernel
theorem dL_law_744 : decode cL_law 744 = .ok (.ireturn, 1) := by decide +kernel
theorem dL_law_745 : decode cL_law 745 = .ok (.goto 1374, 3) := by decide +kernel
theorem dL_law_748 : decode cL_law 748 = .ok (.aload_n 1, 1) := by decide +kernel
theorem dL_law_749 : decode cL_law 749 = .ok (.aload_n 0, 1) := by decide +kernel
theorem dL_law_750 : decode cL_law 750 = .ok (.iload 5, 2) := by decide +kernel
theorem dL_law_752 : decode cL_law 752 = .ok (.iconst 1, 1) := by decide +kernel
theorem dL_law_753 : decode cL_law 753 = .ok (.iadd, 1) := by decide +kernel
theorem dL_law_754 : decode cL_law 754 = .ok (.iaload, 1) := by decide +kernel
theorem dL_law_755 : decode cL_law 755 = .ok (.aload_n 0, 1) := by decide +kernel
theorem dL_law_756 : decode cL_law 756 = .ok (.iload 5, 2) := by decide +kernel
theorem dL_law_758 : decode cL_law 758 = .ok (.iconst 2, 1) := by decide +kernel
theorem dL_law_759 : decode cL_law 759 = .ok (.iadd, 1) := by decide +kernel
theorem dL_law_760 : decode cL_law 760 = .ok (.iaload, 1) := by decide +kernel
theorem dL_law_761 : decode cL_law 761 = .ok (.aload_n 3, 1) := by decide +kernel
theorem dL_law_762 : decode cL_law 762 = .ok (.invokestatic 154, 3) := by decide +kernel
theorem dL_law_765 : decode cL_law 765 = .ok (.istore 6, 2) := by decide +kernel
theorem dL_law_767 : decode cL_law 767 = .ok (.aload_n 2, 1) := by decide +kernel
theorem dL_law_768 : decode cL_law 768 = .ok (.aload_n 0, 1) := by decide +kernel
theorem dL_law_769 : decode cL_law 769 = .ok (.iload 5, 2) := by decide +kernel
theorem dL_law_771 : decode cL_law 771 = .ok (.iconst 1, 1) := by decide +kernel
theorem dL_law_772 : decode cL_law 772 = .ok (.iadd, 1) := by decide +kernel
theorem dL_law_773 : decode cL_law 773 = .ok (.iaload, 1) := by decide +kernel
theorem dL_law_774 : decode cL_law 774 = .ok (.aload_n 0, 1) := by decide +kernel
theorem dL_law_775 : decode cL_law 775 = .ok (.iload 5, 2) := by decide +kernel
theorem dL_law_777 : decode cL_law 777 = .ok (.iconst 2, 1) := by decide +kernel
theorem dL_law_778 : decode cL_law 778 = .ok (.iadd, 1) := by decide +kernel
theorem dL_law_779 : decode cL_law 779 = .ok (.iaload, 1) := by decide +kernel
theorem dL_law_780 : decode cL_law 780 = .ok (.invokevirtual 156, 3) := by decide +kernel
theorem dL_law_783 : decode cL_law 783 = .ok (.istore 7, 2) := by decide +kernel
theorem dL_law_785 : decode cL_law 785 = .ok (.aload_n 2, 1) := by decide +kernel
theorem dL_law_786 : decode cL_law 786 = .ok (.invokevirtual 127, 3) := by decide +kernel
theorem dL_law_789 : decode cL_law 789 = .ok (.iload 6, 2) := by decide +kernel
theorem dL_law_791 : decode cL_law 791 = .ok (.if_icmp .eq 5, 3) := by decide +kernel
theorem dL_law_794 : decode cL_law 794 = .ok (.iconst 0, 1) := by decide +kernel
theorem dL_law_795 : decode cL_law 795 = .ok (.ireturn, 1) := by decide +kernel
theorem dL_law_796 : decode cL_law 796 = .ok (.iload 6, 2) := by decide +kernel
theorem dL_law_798 : decode cL_law 798 = .ok (.ifCond .ne 15, 3) := by decide +kernel
theorem dL_law_801 : decode cL_law 801 = .ok (.aload_n 3, 1) := by decide +kernel
theorem dL_law_802 : decode cL_law 802 = .ok (.iconst 0, 1) := by decide +kernel
theorem dL_law_803 : decode cL_law 803 = .ok (.laload, 1) := by decide +kernel
theorem dL_law_804 : decode cL_law 804 = .ok (.iload 7, 2) := by decide +kernel
theorem dL_law_806 : decode cL_law 806 = .ok (.i2l, 1) := by decide +kernel
theorem dL_law_807 : decode cL_law 807 = .ok (.lcmp, 1) := by decide +kernel
theorem dL_law_808 : decode cL_law 808 = .ok (.ifCond .eq 5, 3) := by decide +kernel
theorem dL_law_811 : decode cL_law 811 = .ok (.iconst 0, 1) := by decide +kernel
theorem dL_law_812 : decode cL_law 812 = .ok (.ireturn, 1) := by decide +kernel
theorem dL_law_813 : decode cL_law 813 = .ok (.goto 1306, 3) := by decide +kernel
theorem dL_law_816 : decode cL_law 816 = .ok (.aload_n 1, 1) := by decide +kernel
theorem dL_law_817 : decode cL_law 817 = .ok (.aload_n 0, 1) := by decide +kernel
theorem dL_law_818 : decode cL_law 818 = .ok (.iload 5, 2) := by decide +kernel
theorem dL_law_820 : decode cL_law 820 = .ok (.iconst 1, 1) := by decide +kernel
theorem dL_law_821 : decode cL_law 821 = .ok (.iadd, 1) := by decide +kernel
theorem dL_law_822 : decode cL_law 822 = .ok (.iaload, 1) := by decide +kernel
theorem dL_law_823 : decode cL_law 823 = .ok (.aload_n 0, 1) := by decide +kernel
theorem dL_law_824 : decode cL_law 824 = .ok (.iload 5, 2) := by decide +kernel
theorem dL_law_826 : decode cL_law 826 = .ok (.iconst 2, 1) := by decide +kernel
theorem dL_law_827 : decode cL_law 827 = .ok (.iadd, 1) := by decide +kernel
theorem dL_law_828 : decode cL_law 828 = .ok (.iaload, 1) := by decide +kernel
theorem dL_law_829 : decode cL_law 829 = .ok (.aload_n 0, 1) := by decide +kernel
theorem dL_law_830 : decode cL_law 830 = .ok (.iload 5, 2) := by decide +kernel
theorem dL_law_832 : decode cL_law 832 = .ok (.iconst 3, 1) := by decide +kernel
theorem dL_law_833 : decode cL_law 833 = .ok (.iadd, 1) := by decide +kernel
theorem dL_law_834 : decode cL_law 834 = .ok (.iaload, 1) := by decide +kernel
theorem dL_law_835 : decode cL_law 835 = .ok (.aload_n 0, 1) := by decide +kernel
theorem dL_law_836 : decode cL_law 836 = .ok (.iload 5, 2) := by decide +kernel
theorem dL_law_838 : decode cL_law 838 = .ok (.iconst 4, 1) := by decide +kernel
theorem dL_law_839 : decode cL_law 839 = .ok (.iadd, 1) := by decide +kernel
theorem dL_law_840 : decode cL_law 840 = .ok (.iaload, 1) := by decide +kernel
theorem dL_law_841 : decode cL_law 841 = .ok (.aload_n 0, 1) := by decide +kernel
theorem dL_law_842 : decode cL_law 842 = .ok (.iload 5, 2) := by decide +kernel
theorem dL_law_844 : decode cL_law 844 = .ok (.iconst 5, 1) := by decide +kernel
theorem dL_law_845 : decode cL_law 845 = .ok (.iadd, 1) := by decide +kernel
theorem dL_law_846 : decode cL_law 846 = .ok (.iaload, 1) := by decide +kernel
theorem dL_law_847 : decode cL_law 847 = .ok (.aload_n 0, 1) := by decide +kernel
theorem dL_law_848 : decode cL_law 848 = .ok (.iload 5, 2) := by decide +kernel
theorem dL_law_850 : decode cL_law 850 = .ok (.bipush 6, 2) := by decide +kernel
theorem dL_law_852 : decode cL_law 852 = .ok (.iadd, 1) := by decide +kernel
theorem dL_law_853 : decode cL_law 853 = .ok (.iaload, 1) := by decide +kernel
theorem dL_law_854 : decode cL_law 854 = .ok (.aload_n 3, 1) := by decide +kernel
theorem dL_law_855 : decode cL_law 855 = .ok (.invokestatic 157, 3) := by decide +kernel
theorem dL_law_858 : decode cL_law 858 = .ok (.istore 6, 2) := by decide +kernel
theorem dL_law_860 : decode cL_law 860 = .ok (.aload_n 2, 1) := by decide +kernel
theorem dL_law_861 : decode cL_law 861 = .ok (.aload_n 0, 1) := by decide +kernel
theorem dL_law_862 : decode cL_law 862 = .ok (.iload 5, 2) := by decide +kernel
theorem dL_law_864 : decode cL_law 864 = .ok (.iconst 1, 1) := by decide +kernel
theorem dL_law_865 : decode cL_law 865 = .ok (.iadd, 1) := by decide +kernel
theorem dL_law_866 : decode cL_law 866 = .ok (.iaload, 1) := by decide +kernel
theorem dL_law_867 : decode cL_law 867 = .ok (.aload_n 0, 1) := by decide +kernel
theorem dL_law_868 : decode cL_law 868 = .ok (.iload 5, 2) := by decide +kernel
theorem dL_law_870 : decode cL_law 870 = .ok (.iconst 2, 1) := by decide +kernel
theorem dL_law_871 : decode cL_law 871 = .ok (.iadd, 1) := by decide +kernel
theorem dL_law_872 : decode cL_law 872 = .ok (.iaload, 1) := by decide +kernel
theorem dL_law_873 : decode cL_law 873 = .ok (.aload_n 0, 1) := by decide +kernel
theorem dL_law_874 : decode cL_law 874 = .ok (.iload 5, 2) := by decide +kernel
theorem dL_law_876 : decode cL_law 876 = .ok (.iconst 3, 1) := by decide +kernel
theorem dL_law_877 : decode cL_law 877 = .ok (.iadd, 1) := by decide +kernel
theorem dL_law_878 : decode cL_law 878 = .ok (.iaload, 1) := by decide +kernel
theorem dL_law_879 : decode cL_law 879 = .ok (.aload_n 0, 1) := by decide +kernel
theorem dL_law_880 : decode cL_law 880 = .ok (.iload 5, 2) := by decide +kernel
theorem dL_law_882 : decode cL_law 882 = .ok (.iconst 4, 1) := by decide +kernel
theorem dL_law_883 : decode cL_law 883 = .ok (.iadd, 1) := by decide +kernel
theorem dL_law_884 : decode cL_law 884 = .ok (.iaload, 1) := by decide +kernel
theorem dL_law_885 : decode cL_law 885 = .ok (.aload_n 0, 1) := by decide +kernel
theorem dL_law_886 : decode cL_law 886 = .ok (.iload 5, 2) := by decide +kernel
theorem dL_law_888 : decode cL_law 888 = .ok (.iconst 5, 1) := by decide +kernel
theorem dL_law_889 : decode cL_law 889 = .ok (.iadd, 1) := by decide +kernel
theorem dL_law_890 : decode cL_law 890 = .ok (.iaload, 1) := by decide +kernel
theorem dL_law_891 : decode cL_law 891 = .ok (.aload_n 0, 1) := by decide +kernel
theorem dL_law_892 : decode cL_law 892 = .ok (.iload 5, 2) := by decide +kernel
theorem dL_law_894 : decode cL_law 894 = .ok (.bipush 6, 2) := by decide +kernel
theorem dL_law_896 : decode cL_law 896 = .ok (.iadd, 1) := by decide +kernel
theorem dL_law_897 : decode cL_law 897 = .ok (.iaload, 1) := by decide +kernel
theorem dL_law_898 : decode cL_law 898 = .ok (.invokevirtual 160, 3) := by decide +kernel
theorem dL_law_901 : decode cL_law 901 = .ok (.istore 7, 2) := by decide +kernel
theorem dL_law_903 : decode cL_law 903 = .ok (.aload_n 2, 1) := by decide +kernel
theorem dL_law_904 : decode cL_law 904 = .ok (.invokevirtual 127, 3) := by decide +kernel
theorem dL_law_907 : decode cL_law 907 = .ok (.iload 6, 2) := by decide +kernel
theorem dL_law_909 : decode cL_law 909 = .ok (.if_icmp .eq 5, 3) := by decide +kernel
theorem dL_law_912 : decode cL_law 912 = .ok (.iconst 0, 1) := by decide +kernel
theorem dL_law_913 : decode cL_law 913 = .ok (.ireturn, 1) := by decide +kernel
theorem dL_law_914 : decode cL_law 914 = .ok (.iload 6, 2) := by decide +kernel
theorem dL_law_916 : decode cL_law 916 = .ok (.ifCond .ne 15, 3) := by decide +kernel
theorem dL_law_919 : decode cL_law 919 = .ok (.aload_n 3, 1) := by decide +kernel
theorem dL_law_920 : decode cL_law 920 = .ok (.iconst 0, 1) := by decide +kernel
theorem dL_law_921 : decode cL_law 921 = .ok (.laload, 1) := by decide +kernel
theorem dL_law_922 : decode cL_law 922 = .ok (.iload 7, 2) := by decide +kernel
theorem dL_law_924 : decode cL_law 924 = .ok (.i2l, 1) := by decide +kernel
theorem dL_law_925 : decode cL_law 925 = .ok (.lcmp, 1) := by decide +kernel
theorem dL_law_926 : decode cL_law 926 = .ok (.ifCond .eq 5, 3) := by decide +kernel
theorem dL_law_929 : decode cL_law 929 = .ok (.iconst 0, 1) := by decide +kernel
theorem dL_law_930 : decode cL_law 930 = .ok (.ireturn, 1) := by decide +kernel
theorem dL_law_931 : decode cL_law 931 = .ok (.goto 1188, 3) := by decide +kernel
theorem dL_law_934 : decode cL_law 934 = .ok (.aload_n 1, 1) := by decide +kernel
theorem dL_law_935 : decode cL_law 935 = .ok (.aload_n 0, 1) := by decide +kernel
theorem dL_law_936 : decode cL_law 936 = .ok (.iload 5, 2) := by decide +kernel
theorem dL_law_938 : decode cL_law 938 = .ok (.iconst 1, 1) := by decide +kernel
theorem dL_law_939 : decode cL_law 939 = .ok (.iadd, 1) := by decide +kernel
theorem dL_law_940 : decode cL_law 940 = .ok (.iaload, 1) := by decide +kernel
theorem dL_law_941 : decode cL_law 941 = .ok (.i2c, 1) := by decide +kernel
theorem dL_law_942 : decode cL_law 942 = .ok (.invokestatic 161, 3) := by decide +kernel
theorem dL_law_945 : decode cL_law 945 = .ok (.istore 6, 2) := by decide +kernel
theorem dL_law_947 : decode cL_law 947 = .ok (.aload_n 2, 1) := by decide +kernel
theorem dL_law_948 : decode cL_law 948 = .ok (.aload_n 0, 1) := by decide +kernel
theorem dL_law_949 : decode cL_law 949 = .ok (.iload 5, 2) := by decide +kernel
theorem dL_law_951 : decode cL_law 951 = .ok (.iconst 1, 1) := by decide +kernel
theorem dL_law_952 : decode cL_law 952 = .ok (.iadd, 1) := by decide +kernel
theorem dL_law_953 : decode cL_law 953 = .ok (.iaload, 1) := by decide +kernel
theorem dL_law_954 : decode cL_law 954 = .ok (.i2c, 1) := by decide +kernel
theorem dL_law_955 : decode cL_law 955 = .ok (.invokevirtual 164, 3) := by decide +kernel
theorem dL_law_958 : decode cL_law 958 = .ok (.aload_n 2, 1) := by decide +kernel
theorem dL_law_959 : decode cL_law 959 = .ok (.invokevirtual 127, 3) := by decide +kernel
theorem dL_law_962 : decode cL_law 962 = .ok (.iload 6, 2) := by decide +kernel
theorem dL_law_964 : decode cL_law 964 = .ok (.if_icmp .eq 5, 3) := by decide +kernel
theorem dL_law_967 : decode cL_law 967 = .ok (.iconst 0, 1) := by decide +kernel
theorem dL_law_968 : decode cL_law 968 = .ok (.ireturn, 1) := by decide +kernel
theorem dL_law_969 : decode cL_law 969 = .ok (.goto 1150, 3) := by decide +kernel
theorem dL_law_972 : decode cL_law 972 = .ok (.aload_n 1, 1) := by decide +kernel
theorem dL_law_973 : decode cL_law 973 = .ok (.aload_n 3, 1) := by decide +kernel
theorem dL_law_974 : decode cL_law 974 = .ok (.invokestatic 165, 3) := by decide +kernel
theorem dL_law_977 : decode cL_law 977 = .ok (.istore 6, 2) := by decide +kernel
theorem dL_law_979 : decode cL_law 979 = .ok (.aload_n 2, 1) := by decide +kernel
theorem dL_law_980 : decode cL_law 980 = .ok (.invokevirtual 168, 3) := by decide +kernel
theorem dL_law_983 : decode cL_law 983 = .ok (.istore 7, 2) := by decide +kernel
theorem dL_law_985 : decode cL_law 985 = .ok (.aload_n 2, 1) := by decide +kernel
theorem dL_law_986 : decode cL_law 986 = .ok (.invokevirtual 127, 3) := by decide +kernel
theorem dL_law_989 : decode cL_law 989 = .ok (.iload 6, 2) := by decide +kernel
theorem dL_law_991 : decode cL_law 991 = .ok (.if_icmp .eq 5, 3) := by decide +kernel
theorem dL_law_994 : decode cL_law 994 = .ok (.iconst 0, 1) := by decide +kernel
theorem dL_law_995 : decode cL_law 995 = .ok (.ireturn, 1) := by decide +kernel
theorem dL_law_996 : decode cL_law 996 = .ok (.iload 6, 2) := by decide +kernel
theorem dL_law_998 : decode cL_law 998 = .ok (.ifCond .ne 15, 3) := by decide +kernel
theorem dL_law_1001 : decode cL_law 1001 = .ok (.aload_n 3, 1) := by decide +kernel
theorem dL_law_1002 : decode cL_law 1002 = .ok (.iconst 0, 1) := by decide +kernel
theorem dL_law_1003 : decode cL_law 1003 = .ok (.laload, 1) := by decide +kernel
theorem dL_law_1004 : decode cL_law 1004 = .ok (.iload 7, 2) := by decide +kernel
theorem dL_law_1006 : decode cL_law 1006 = .ok (.i2l, 1) := by decide +kernel
theorem dL_law_1007 : decode cL_law 1007 = .ok (.lcmp, 1) := by decide +kernel
theorem dL_law_1008 : decode cL_law 1008 = .ok (.ifCond .eq 5, 3) := by decide +kernel
theorem dL_law_1011 : decode cL_law 1011 = .ok (.iconst 0, 1) := by decide +kernel
theorem dL_law_1012 : decode cL_law 1012 = .ok (.ireturn, 1) := by decide +kernel
theorem dL_law_1013 : decode cL_law 1013 = .ok (.goto 1106, 3) := by decide +kernel
theorem dL_law_1016 : decode cL_law 1016 = .ok (.aload_n 1, 1) := by decide +kernel
theorem dL_law_1017 : decode cL_law 1017 = .ok (.invokevirtual 169, 3) := by decide +kernel
theorem dL_law_1020 : decode cL_law 1020 = .ok (.aload_n 2, 1) := by decide +kernel
theorem dL_law_1021 : decode cL_law 1021 = .ok (.invokevirtual 172, 3) := by decide +kernel
theorem dL_law_1024 : decode cL_law 1024 = .ok (.if_icmp .eq 1095, 3) := by decide +kernel
theorem dL_law_1027 : decode cL_law 1027 = .ok (.iconst 0, 1) := by decide +kernel
theorem dL_law_1028 : decode cL_law 1028 = .ok (.ireturn, 1) := by decide +kernel
theorem dL_law_1029 : decode cL_law 1029 = .ok (.aload_n 1, 1) := by decide +kernel
theorem dL_law_1030 : decode cL_law 1030 = .ok (.aload_n 3, 1) := by decide +kernel
theorem dL_law_1031 : decode cL_law 1031 = .ok (.invokestatic 173, 3) := by decide +kernel
theorem dL_law_1034 : decode cL_law 1034 = .ok (.istore 6, 2) := by decide +kernel
theorem dL_law_1036 : decode cL_law 1036 = .ok (.aload_n 2, 1) := by decide +kernel
theorem dL_law_1037 : decode cL_law 1037 = .ok (.invokevirtual 175, 3) := by decide +kernel
theorem dL_law_1040 : decode cL_law 1040 = .ok (.istore 7, 2) := by decide +kernel
theorem dL_law_1042 : decode cL_law 1042 = .ok (.aload_n 2, 1) := by decide +kernel
theorem dL_law_1043 : decode cL_law 1043 = .ok (.invokevirtual 127, 3) := by decide +kernel
theorem dL_law_1046 : decode cL_law 1046 = .ok (.iload 6, 2) := by decide +kernel
theorem dL_law_1048 : decode cL_law 1048 = .ok (.if_icmp .eq 5, 3) := by decide +kernel
theorem dL_law_1051 : decode cL_law 1051 = .ok (.iconst 0, 1) := by decide +kernel
theorem dL_law_1052 : decode cL_law 1052 = .ok (.ireturn, 1) := by decide +kernel
theorem dL_law_1053 : decode cL_law 1053 = .ok (.iload 6, 2) := by decide +kernel
theorem dL_law_1055 : decode cL_law 1055 = .ok (.ifCond .ne 15, 3) := by decide +kernel
theorem dL_law_1058 : decode cL_law 1058 = .ok (.aload_n 3, 1) := by decide +kernel
theorem dL_law_1059 : decode cL_law 1059 = .ok (.iconst 0, 1) := by decide +kernel
theorem dL_law_1060 : decode cL_law 1060 = .ok (.laload, 1) := by decide +kernel
theorem dL_law_1061 : decode cL_law 1061 = .ok (.iload 7, 2) := by decide +kernel
theorem dL_law_1063 : decode cL_law 1063 = .ok (.i2l, 1) := by decide +kernel
theorem dL_law_1064 : decode cL_law 1064 = .ok (.lcmp, 1) := by decide +kernel
theorem dL_law_1065 : decode cL_law 1065 = .ok (.ifCond .eq 5, 3) := by decide +kernel
theorem dL_law_1068 : decode cL_law 1068 = .ok (.iconst 0, 1) := by decide +kernel
theorem dL_law_1069 : decode cL_law 1069 = .ok (.ireturn, 1) := by decide +kernel
theorem dL_law_1070 : decode cL_law 1070 = .ok (.goto 1049, 3) := by decide +kernel
theorem dL_law_1073 : decode cL_law 1073 = .ok (.aload_n 1, 1) := by decide +kernel
theorem dL_law_1074 : decode cL_law 1074 = .ok (.aload_n 0, 1) := by decide +kernel
theorem dL_law_1075 : decode cL_law 1075 = .ok (.iload 5, 2) := by decide +kernel
theorem dL_law_1077 : decode cL_law 1077 = .ok (.iconst 1, 1) := by decide +kernel
theorem dL_law_1078 : decode cL_law 1078 = .ok (.iadd, 1) := by decide +kernel
theorem dL_law_1079 : decode cL_law 1079 = .ok (.iaload, 1) := by decide +kernel
theorem dL_law_1080 : decode cL_law 1080 = .ok (.aload_n 0, 1) := by decide +kernel
theorem dL_law_1081 : decode cL_law 1081 = .ok (.iload 5, 2) := by decide +kernel
theorem dL_law_1083 : decode cL_law 1083 = .ok (.iconst 2, 1) := by decide +kernel
theorem dL_law_1084 : decode cL_law 1084 = .ok (.iadd, 1) := by decide +kernel
theorem dL_law_1085 : decode cL_law 1085 = .ok (.iaload, 1) := by decide +kernel
theorem dL_law_1086 : decode cL_law 1086 = .ok (.aload_n 3, 1) := by decide +kernel
theorem dL_law_1087 : decode cL_law 1087 = .ok (.invokestatic 176, 3) := by decide +kernel
theorem dL_law_1090 : decode cL_law 1090 = .ok (.istore 6, 2) := by decide +kernel
theorem dL_law_1092 : decode cL_law 1092 = .ok (.aload_n 2, 1) := by decide +kernel
theorem dL_law_1093 : decode cL_law 1093 = .ok (.aload_n 0, 1) := by decide +kernel
theorem dL_law_1094 : decode cL_law 1094 = .ok (.iload 5, 2) := by decide +kernel
theorem dL_law_1096 : decode cL_law 1096 = .ok (.iconst 1, 1) := by decide +kernel
theorem dL_law_1097 : decode cL_law 1097 = .ok (.iadd, 1) := by decide +kernel
theorem dL_law_1098 : decode cL_law 1098 = .ok (.iaload, 1) := by decide +kernel
theorem dL_law_1099 : decode cL_law 1099 = .ok (.aload_n 0, 1) := by decide +kernel
theorem dL_law_1100 : decode cL_law 1100 = .ok (.iload 5, 2) := by decide +kernel
theorem dL_law_1102 : decode cL_law 1102 = .ok (.iconst 2, 1) := by decide +kernel
theorem dL_law_1103 : decode cL_law 1103 = .ok (.iadd, 1) := by decide +kernel
theorem dL_law_1104 : decode cL_law 1104 = .ok (.iaload, 1) := by decide +kernel
theorem dL_law_1105 : decode cL_law 1105 = .ok (.invokevirtual 178, 3) := by decide +kernel
theorem dL_law_1108 : decode cL_law 1108 = .ok (.istore 7, 2) := by decide +kernel
theorem dL_law_1110 : decode cL_law 1110 = .ok (.aload_n 2, 1) := by decide +kernel
theorem dL_law_1111 : decode cL_law 1111 = .ok (.invokevirtual 127, 3) := by decide +kernel
theorem dL_law_1114 : decode cL_law 1114 = .ok (.iload 6, 2) := by decide +kernel
theorem dL_law_1116 : decode cL_law 1116 = .ok (.if_icmp .eq 5, 3) := by decide +kernel
theorem dL_law_1119 : decode cL_law 1119 = .ok (.iconst 0, 1) := by decide +kernel
theorem dL_law_1120 : decode cL_law 1120 = .ok (.ireturn, 1) := by decide +kernel
theorem dL_law_1121 : decode cL_law 1121 = .ok (.iload 6, 2) := by decide +kernel
theorem dL_law_1123 : decode cL_law 1123 = .ok (.ifCond .ne 15, 3) := by decide +kernel
theorem dL_law_1126 : decode cL_law 1126 = .ok (.aload_n 3, 1) := by decide +kernel
theorem dL_law_1127 : decode cL_law 1127 = .ok (.iconst 0, 1) := by decide +kernel
theorem dL_law_1128 : decode cL_law 1128 = .ok (.laload, 1) := by decide +kernel
theorem dL_law_1129 : decode cL_law 1129 = .ok (.iload 7, 2) := by decide +kernel
theorem dL_law_1131 : decode cL_law 1131 = .ok (.i2l, 1) := by decide +kernel
theorem dL_law_1132 : decode cL_law 1132 = .ok (.lcmp, 1) := by decide +kernel
theorem dL_law_1133 : decode cL_law 1133 = .ok (.ifCond .eq 5, 3) := by decide +kernel
theorem dL_law_1136 : decode cL_law 1136 = .ok (.iconst 0, 1) := by decide +kernel
theorem dL_law_1137 : decode cL_law 1137 = .ok (.ireturn, 1) := by decide +kernel
theorem dL_law_1138 : decode cL_law 1138 = .ok (.goto 981, 3) := by decide +kernel
theorem dL_law_1141 : decode cL_law 1141 = .ok (.aload_n 1, 1) := by decide +kernel
theorem dL_law_1142 : decode cL_law 1142 = .ok (.invokevirtual 179, 3) := by decide +kernel
theorem dL_law_1145 : decode cL_law 1145 = .ok (.aload_n 2, 1) := by decide +kernel
theorem dL_law_1146 : decode cL_law 1146 = .ok (.invokevirtual 182, 3) := by decide +kernel
theorem dL_law_1149 : decode cL_law 1149 = .ok (.if_icmp .eq 970, 3) := by decide +kernel
theorem dL_law_1152 : decode cL_law 1152 = .ok (.iconst 0, 1) := by decide +kernel
theorem dL_law_1153 : decode cL_law 1153 = .ok (.ireturn, 1) := by decide +kernel
theorem dL_law_1154 : decode cL_law 1154 = .ok (.aload_n 1, 1) := by decide +kernel
theorem dL_law_1155 : decode cL_law 1155 = .ok (.aload_n 0, 1) := by decide +kernel
theorem dL_law_1156 : decode cL_law 1156 = .ok (.iload 5, 2) := by decide +kernel
theorem dL_law_1158 : decode cL_law 1158 = .ok (.iconst 1, 1) := by decide +kernel
theorem dL_law_1159 : decode cL_law 1159 = .ok (.iadd, 1) := by decide +kernel
theorem dL_law_1160 : decode cL_law 1160 = .ok (.iaload, 1) := by decide +kernel
theorem dL_law_1161 : decode cL_law 1161 = .ok (.aload_n 0, 1) := by decide +kernel
theorem dL_law_1162 : decode cL_law 1162 = .ok (.iload 5, 2) := by decide +kernel
theorem dL_law_1164 : decode cL_law 1164 = .ok (.iconst 2, 1) := by decide +kernel
theorem dL_law_1165 : decode cL_law 1165 = .ok (.iadd, 1) := by decide +kernel
theorem dL_law_1166 : decode cL_law 1166 = .ok (.iaload, 1) := by decide +kernel
theorem dL_law_1167 : decode cL_law 1167 = .ok (.aload_n 3, 1) := by decide +kernel
theorem dL_law_1168 : decode cL_law 1168 = .ok (.invokestatic 183, 3) := by decide +kernel
theorem dL_law_1171 : decode cL_law 1171 = .ok (.istore 6, 2) := by decide +kernel
theorem dL_law_1173 : decode cL_law 1173 = .ok (.aload_n 2, 1) := by decide +kernel
theorem dL_law_1174 : decode cL_law 1174 = .ok (.aload_n 0, 1) := by decide +kernel
theorem dL_law_1175 : decode cL_law 1175 = .ok (.iload 5, 2) := by decide +kernel
theorem dL_law_1177 : decode cL_law 1177 = .ok (.iconst 1, 1) := by decide +kernel
theorem dL_law_1178 : decode cL_law 1178 = .ok (.iadd, 1) := by decide +kernel
theorem dL_law_1179 : decode cL_law 1179 = .ok (.iaload, 1) := by decide +kernel
theorem dL_law_1180 : decode cL_law 1180 = .ok (.aload_n 0, 1) := by decide +kernel
theorem dL_law_1181 : decode cL_law 1181 = .ok (.iload 5, 2) := by decide +kernel
theorem dL_law_1183 : decode cL_law 1183 = .ok (.iconst 2, 1) := by decide +kernel
theorem dL_law_1184 : decode cL_law 1184 = .ok (.iadd, 1) := by decide +kernel
theorem dL_law_1185 : decode cL_law 1185 = .ok (.iaload, 1) := by decide +kernel
theorem dL_law_1186 : decode cL_law 1186 = .ok (.invokevirtual 185, 3) := by decide +kernel
theorem dL_law_1189 : decode cL_law 1189 = .ok (.istore 7, 2) := by decide +kernel
theorem dL_law_1191 : decode cL_law 1191 = .ok (.aload_n 2, 1) := by decide +kernel
theorem dL_law_1192 : decode cL_law 1192 = .ok (.invokevirtual 127, 3) := by decide +kernel
theorem dL_law_1195 : decode cL_law 1195 = .ok (.iload 6, 2) := by decide +kernel
theorem dL_law_1197 : decode cL_law 1197 = .ok (.if_icmp .eq 5, 3) := by decide +kernel
theorem dL_law_1200 : decode cL_law 1200 = .ok (.iconst 0, 1) := by decide +kernel
theorem dL_law_1201 : decode cL_law 1201 = .ok (.ireturn, 1) := by decide +kernel
theorem dL_law_1202 : decode cL_law 1202 = .ok (.iload 6, 2) := by decide +kernel
theorem dL_law_1204 : decode cL_law 1204 = .ok (.ifCond .ne 15, 3) := by decide +kernel
theorem dL_law_1207 : decode cL_law 1207 = .ok (.aload_n 3, 1) := by decide +kernel
theorem dL_law_1208 : decode cL_law 1208 = .ok (.iconst 0, 1) := by decide +kernel
theorem dL_law_1209 : decode cL_law 1209 = .ok (.laload, 1) := by decide +kernel
theorem dL_law_1210 : decode cL_law 1210 = .ok (.iload 7, 2) := by decide +kernel
theorem dL_law_1212 : decode cL_law 1212 = .ok (.i2l, 1) := by decide +kernel
theorem dL_law_1213 : decode cL_law 1213 = .ok (.lcmp, 1) := by decide +kernel
theorem dL_law_1214 : decode cL_law 1214 = .ok (.ifCond .eq 5, 3) := by decide +kernel
theorem dL_law_1217 : decode cL_law 1217 = .ok (.iconst 0, 1) := by decide +kernel
theorem dL_law_1218 : decode cL_law 1218 = .ok (.ireturn, 1) := by decide +kernel
theorem dL_law_1219 : decode cL_law 1219 = .ok (.goto 900, 3) := by decide +kernel
theorem dL_law_1222 : decode cL_law 1222 = .ok (.aload_n 1, 1) := by decide +kernel
theorem dL_law_1223 : decode cL_law 1223 = .ok (.aload_n 0, 1) := by decide +kernel
theorem dL_law_1224 : decode cL_law 1224 = .ok (.iload 5, 2) := by decide +kernel
theorem dL_law_1226 : decode cL_law 1226 = .ok (.iconst 1, 1) := by decide +kernel
theorem dL_law_1227 : decode cL_law 1227 = .ok (.iadd, 1) := by decide +kernel
theorem dL_law_1228 : decode cL_law 1228 = .ok (.iaload, 1) := by decide +kernel
theorem dL_law_1229 : decode cL_law 1229 = .ok (.aload_n 0, 1) := by decide +kernel
theorem dL_law_1230 : decode cL_law 1230 = .ok (.iload 5, 2) := by decide +kernel
theorem dL_law_1232 : decode cL_law 1232 = .ok (.iconst 2, 1) := by decide +kernel
theorem dL_law_1233 : decode cL_law 1233 = .ok (.iadd, 1) := by decide +kernel
theorem dL_law_1234 : decode cL_law 1234 = .ok (.iaload, 1) := by decide +kernel
theorem dL_law_1235 : decode cL_law 1235 = .ok (.aload_n 3, 1) := by decide +kernel
theorem dL_law_1236 : decode cL_law 1236 = .ok (.invokestatic 186, 3) := by decide +kernel
theorem dL_law_1239 : decode cL_law 1239 = .ok (.istore 6, 2) := by decide +kernel
theorem dL_law_1241 : decode cL_law 1241 = .ok (.aload_n 2, 1) := by decide +kernel
theorem dL_law_1242 : decode cL_law 1242 = .ok (.aload_n 0, 1) := by decide +kernel
theorem dL_law_1243 : decode cL_law 1243 = .ok (.iload 5, 2) := by decide +kernel
theorem dL_law_1245 : decode cL_law 1245 = .ok (.iconst 1, 1) := by decide +kernel
theorem dL_law_1246 : decode cL_law 1246 = .ok (.iadd, 1) := by decide +kernel
theorem dL_law_1247 : decode cL_law 1247 = .ok (.iaload, 1) := by decide +kernel
theorem dL_law_1248 : decode cL_law 1248 = .ok (.aload_n 0, 1) := by decide +kernel
theorem dL_law_1249 : decode cL_law 1249 = .ok (.iload 5, 2) := by decide +kernel
theorem dL_law_1251 : decode cL_law 1251 = .ok (.iconst 2, 1) := by decide +kernel
theorem dL_law_1252 : decode cL_law 1252 = .ok (.iadd, 1) := by decide +kernel
theorem dL_law_1253 : decode cL_law 1253 = .ok (.iaload, 1) := by decide +kernel
theorem dL_law_1254 : decode cL_law 1254 = .ok (.invokevirtual 188, 3) := by decide +kernel
theorem dL_law_1257 : decode cL_law 1257 = .ok (.istore 7, 2) := by decide +kernel
theorem dL_law_1259 : decode cL_law 1259 = .ok (.aload_n 2, 1) := by decide +kernel
theorem dL_law_1260 : decode cL_law 1260 = .ok (.invokevirtual 127, 3) := by decide +kernel
theorem dL_law_1263 : decode cL_law 1263 = .ok (.iload 6, 2) := by decide +kernel
theorem dL_law_1265 : decode cL_law 1265 = .ok (.if_icmp .eq 5, 3) := by decide +kernel
theorem dL_law_1268 : decode cL_law 1268 = .ok (.iconst 0, 1) := by decide +kernel
theorem dL_law_1269 : decode cL_law 1269 = .ok (.ireturn, 1) := by decide +kernel
theorem dL_law_1270 : decode cL_law 1270 = .ok (.iload 6, 2) := by decide +kernel
theorem dL_law_1272 : decode cL_law 1272 = .ok (.ifCond .ne 15, 3) := by decide +kernel
theorem dL_law_1275 : decode cL_law 1275 = .ok (.aload_n 3, 1) := by decide +kernel
theorem dL_law_1276 : decode cL_law 1276 = .ok (.iconst 0, 1) := by decide +kernel
theorem dL_law_1277 : decode cL_law 1277 = .ok (.laload, 1) := by decide +kernel
theorem dL_law_1278 : decode cL_law 1278 = .ok (.iload 7, 2) := by decide +kernel
theorem dL_law_1280 : decode cL_law 1280 = .ok (.i2l, 1) := by decide +kernel
theorem dL_law_1281 : decode cL_law 1281 = .ok (.lcmp, 1) := by decide +kernel
theorem dL_law_1282 : decode cL_law 1282 = .ok (.ifCond .eq 5, 3) := by decide +kernel
theorem dL_law_1285 : decode cL_law 1285 = .ok (.iconst 0, 1) := by decide +kernel
theorem dL_law_1286 : decode cL_law 1286 = .ok (.ireturn, 1) := by decide +kernel
theorem dL_law_1287 : decode cL_law 1287 = .ok (.goto 832, 3) := by decide +kernel
theorem dL_law_1290 : decode cL_law 1290 = .ok (.aload_n 1, 1) := by decide +kernel
theorem dL_law_1291 : decode cL_law 1291 = .ok (.aload_n 0, 1) := by decide +kernel
theorem dL_law_1292 : decode cL_law 1292 = .ok (.iload 5, 2) := by decide +kernel
theorem dL_law_1294 : decode cL_law 1294 = .ok (.iconst 1, 1) := by decide +kernel
theorem dL_law_1295 : decode cL_law 1295 = .ok (.iadd, 1) := by decide +kernel
theorem dL_law_1296 : decode cL_law 1296 = .ok (.iaload, 1) := by decide +kernel
theorem dL_law_1297 : decode cL_law 1297 = .ok (.aload_n 3, 1) := by decide +kernel
theorem dL_law_1298 : decode cL_law 1298 = .ok (.invokestatic 189, 3) := by decide +kernel
theorem dL_law_1301 : decode cL_law 1301 = .ok (.istore 6, 2) := by decide +kernel
theorem dL_law_1303 : decode cL_law 1303 = .ok (.aload_n 2, 1) := by decide +kernel
theorem dL_law_1304 : decode cL_law 1304 = .ok (.aload_n 0, 1) := by decide +kernel
theorem dL_law_1305 : decode cL_law 1305 = .ok (.iload 5, 2) := by decide +kernel
theorem dL_law_1307 : decode cL_law 1307 = .ok (.iconst 1, 1) := by decide +kernel
theorem dL_law_1308 : decode cL_law 1308 = .ok (.iadd, 1) := by decide +kernel
theorem dL_law_1309 : decode cL_law 1309 = .ok (.iaload, 1) := by decide +kernel
theorem dL_law_1310 : decode cL_law 1310 = .ok (.invokevirtual 191, 3) := by decide +kernel
theorem dL_law_1313 : decode cL_law 1313 = .ok (.istore 7, 2) := by decide +kernel
theorem dL_law_1315 : decode cL_law 1315 = .ok (.aload_n 2, 1) := by decide +kernel
theorem dL_law_1316 : decode cL_law 1316 = .ok (.invokevirtual 127, 3) := by decide +kernel
theorem dL_law_1319 : decode cL_law 1319 = .ok (.iload 6, 2) := by decide +kernel
theorem dL_law_1321 : decode cL_law 1321 = .ok (.if_icmp .eq 5, 3) := by decide +kernel
theorem dL_law_1324 : decode cL_law 1324 = .ok (.iconst 0, 1) := by decide +kernel
theorem dL_law_1325 : decode cL_law 1325 = .ok (.ireturn, 1) := by decide +kernel
theorem dL_law_1326 : decode cL_law 1326 = .ok (.iload 6, 2) := by decide +kernel
theorem dL_law_1328 : decode cL_law 1328 = .ok (.ifCond .ne 15, 3) := by decide +kernel
theorem dL_law_1331 : decode cL_law 1331 = .ok (.aload_n 3, 1) := by decide +kernel
theorem dL_law_1332 : decode cL_law 1332 = .ok (.iconst 0, 1) := by decide +kernel
theorem dL_law_1333 : decode cL_law 1333 = .ok (.laload, 1) := by decide +kernel
theorem dL_law_1334 : decode cL_law 1334 = .ok (.iload 7, 2) := by decide +kernel
theorem dL_law_1336 : decode cL_law 1336 = .ok (.i2l, 1) := by decide +kernel
theorem dL_law_1337 : decode cL_law 1337 = .ok (.lcmp, 1) := by decide +kernel
theorem dL_law_1338 : decode cL_law 1338 = .ok (.ifCond .eq 5, 3) := by decide +kernel
theorem dL_law_1341 : decode cL_law 1341 = .ok (.iconst 0, 1) := by decide +kernel
theorem dL_law_1342 : decode cL_law 1342 = .ok (.ireturn, 1) := by decide +kernel
theorem dL_law_1343 : decode cL_law 1343 = .ok (.goto 776, 3) := by decide +kernel
theorem dL_law_1346 : decode cL_law 1346 = .ok (.aload_n 1, 1) := by decide +kernel
theorem dL_law_1347 : decode cL_law 1347 = .ok (.aload_n 0, 1) := by decide +kernel
theorem dL_law_1348 : decode cL_law 1348 = .ok (.iload 5, 2) := by decide +kernel
theorem dL_law_1350 : decode cL_law 1350 = .ok (.iconst 1, 1) := by decide +kernel
theorem dL_law_1351 : decode cL_law 1351 = .ok (.iadd, 1) := by decide +kernel
theorem dL_law_1352 : decode cL_law 1352 = .ok (.iaload, 1) := by decide +kernel
theorem dL_law_1353 : decode cL_law 1353 = .ok (.aload_n 3, 1) := by decide +kernel
theorem dL_law_1354 : decode cL_law 1354 = .ok (.invokestatic 192, 3) := by decide +kernel
theorem dL_law_1357 : decode cL_law 1357 = .ok (.istore 6, 2) := by decide +kernel
theorem dL_law_1359 : decode cL_law 1359 = .ok (.aload_n 2, 1) := by decide +kernel
theorem dL_law_1360 : decode cL_law 1360 = .ok (.aload_n 0, 1) := by decide +kernel
theorem dL_law_1361 : decode cL_law 1361 = .ok (.iload 5, 2) := by decide +kernel
theorem dL_law_1363 : decode cL_law 1363 = .ok (.iconst 1, 1) := by decide +kernel
theorem dL_law_1364 : decode cL_law 1364 = .ok (.iadd, 1) := by decide +kernel
theorem dL_law_1365 : decode cL_law 1365 = .ok (.iaload, 1) := by decide +kernel
theorem dL_law_1366 : decode cL_law 1366 = .ok (.invokevirtual 194, 3) := by decide +kernel
theorem dL_law_1369 : decode cL_law 1369 = .ok (.istore 7, 2) := by decide +kernel
theorem dL_law_1371 : decode cL_law 1371 = .ok (.aload_n 2, 1) := by decide +kernel
theorem dL_law_1372 : decode cL_law 1372 = .ok (.invokevirtual 127, 3) := by decide +kernel
theorem dL_law_1375 : decode cL_law 1375 = .ok (.iload 6, 2) := by decide +kernel
theorem dL_law_1377 : decode cL_law 1377 = .ok (.if_icmp .eq 5, 3) := by decide +kernel
theorem dL_law_1380 : decode cL_law 1380 = .ok (.iconst 0, 1) := by decide +kernel
theorem dL_law_1381 : decode cL_law 1381 = .ok (.ireturn, 1) := by decide +kernel
theorem dL_law_1382 : decode cL_law 1382 = .ok (.iload 6, 2) := by decide +kernel
theorem dL_law_1384 : decode cL_law 1384 = .ok (.ifCond .ne 15, 3) := by decide +kernel
theorem dL_law_1387 : decode cL_law 1387 = .ok (.aload_n 3, 1) := by decide +kernel
theorem dL_law_1388 : decode cL_law 1388 = .ok (.iconst 0, 1) := by decide +kernel
theorem dL_law_1389 : decode cL_law 1389 = .ok (.laload, 1) := by decide +kernel
theorem dL_law_1390 : decode cL_law 1390 = .ok (.iload 7, 2) := by decide +kernel
theorem dL_law_1392 : decode cL_law 1392 = .ok (.i2l, 1) := by decide +kernel
theorem dL_law_1393 : decode cL_law 1393 = .ok (.lcmp, 1) := by decide +kernel
theorem dL_law_1394 : decode cL_law 1394 = .ok (.ifCond .eq 5, 3) := by decide +kernel
theorem dL_law_1397 : decode cL_law 1397 = .ok (.iconst 0, 1) := by decide +kernel
theorem dL_law_1398 : decode cL_law 1398 = .ok (.ireturn, 1) := by decide +kernel
theorem dL_law_1399 : decode cL_law 1399 = .ok (.goto 720, 3) := by decide +kernel
theorem dL_law_1402 : decode cL_law 1402 = .ok (.aload_n 1, 1) := by decide +kernel
theorem dL_law_1403 : decode cL_law 1403 = .ok (.invokevirtual 195, 3) := by decide +kernel
theorem dL_law_1406 : decode cL_law 1406 = .ok (.aload_n 2, 1) := by decide +kernel
theorem dL_law_1407 : decode cL_law 1407 = .ok (.invokevirtual 198, 3) := by decide +kernel
theorem dL_law_1410 : decode cL_law 1410 = .ok (.if_icmp .eq 709, 3) := by decide +kernel
theorem dL_law_1413 : decode cL_law 1413 = .ok (.iconst 0, 1) := by decide +kernel
theorem dL_law_1414 : decode cL_law 1414 = .ok (.ireturn, 1) := by decide +kernel
theorem dL_law_1415 : decode cL_law 1415 = .ok (.aload_n 1, 1) := by decide +kernel
theorem dL_law_1416 : decode cL_law 1416 = .ok (.aload_n 0, 1) := by decide +kernel
theorem dL_law_1417 : decode cL_law 1417 = .ok (.iload 5, 2) := by decide +kernel
theorem dL_law_1419 : decode cL_law 1419 = .ok (.iconst 1, 1) := by decide +kernel
theorem dL_law_1420 : decode cL_law 1420 = .ok (.iadd, 1) := by decide +kernel
theorem dL_law_1421 : decode cL_law 1421 = .ok (.iaload, 1) := by decide +kernel
theorem dL_law_1422 : decode cL_law 1422 = .ok (.aload_n 0, 1) := by decide +kernel
theorem dL_law_1423 : decode cL_law 1423 = .ok (.iload 5, 2) := by decide +kernel
theorem dL_law_1425 : decode cL_law 1425 = .ok (.iconst 2, 1) := by decide +kernel
theorem dL_law_1426 : decode cL_law 1426 = .ok (.iadd, 1) := by decide +kernel
theorem dL_law_1427 : decode cL_law 1427 = .ok (.iaload, 1) := by decide +kernel
theorem dL_law_1428 : decode cL_law 1428 = .ok (.aload_n 3, 1) := by decide +kernel
theorem dL_law_1429 : decode cL_law 1429 = .ok (.invokestatic 199, 3) := by decide +kernel
theorem dL_law_1432 : decode cL_law 1432 = .ok (.istore 6, 2) := by decide +kernel
theorem dL_law_1434 : decode cL_law 1434 = .ok (.aload_n 2, 1) := by decide +kernel
theorem dL_law_1435 : decode cL_law 1435 = .ok (.aload_n 0, 1) := by decide +kernel
theorem dL_law_1436 : decode cL_law 1436 = .ok (.iload 5, 2) := by decide +kernel
theorem dL_law_1438 : decode cL_law 1438 = .ok (.iconst 1, 1) := by decide +kernel
theorem dL_law_1439 : decode cL_law 1439 = .ok (.iadd, 1) := by decide +kernel
theorem dL_law_1440 : decode cL_law 1440 = .ok (.iaload, 1) := by decide +kernel
theorem dL_law_1441 : decode cL_law 1441 = .ok (.aload_n 0, 1) := by decide +kernel
theorem dL_law_1442 : decode cL_law 1442 = .ok (.iload 5, 2) := by decide +kernel
theorem dL_law_1444 : decode cL_law 1444 = .ok (.iconst 2, 1) := by decide +kernel
theorem dL_law_1445 : decode cL_law 1445 = .ok (.iadd, 1) := by decide +kernel
theorem dL_law_1446 : decode cL_law 1446 = .ok (.iaload, 1) := by decide +kernel
theorem dL_law_1447 : decode cL_law 1447 = .ok (.invokevirtual 201, 3) := by decide +kernel
theorem dL_law_1450 : decode cL_law 1450 = .ok (.istore 7, 2) := by decide +kernel
theorem dL_law_1452 : decode cL_law 1452 = .ok (.aload_n 2, 1) := by decide +kernel
theorem dL_law_1453 : decode cL_law 1453 = .ok (.invokevirtual 127, 3) := by decide +kernel
theorem dL_law_1456 : decode cL_law 1456 = .ok (.iload 6, 2) := by decide +kernel
theorem dL_law_1458 : decode cL_law 1458 = .ok (.if_icmp .eq 5, 3) := by decide +kernel
theorem dL_law_1461 : decode cL_law 1461 = .ok (.iconst 0, 1) := by decide +kernel
theorem dL_law_1462 : decode cL_law 1462 = .ok (.ireturn, 1) := by decide +kernel
theorem dL_law_1463 : decode cL_law 1463 = .ok (.iload 6, 2) := by decide +kernel
theorem dL_law_1465 : decode cL_law 1465 = .ok (.ifCond .ne 15, 3) := by decide +kernel
theorem dL_law_1468 : decode cL_law 1468 = .ok (.aload_n 3, 1) := by decide +kernel
theorem dL_law_1469 : decode cL_law 1469 = .ok (.iconst 0, 1) := by decide +kernel
theorem dL_law_1470 : decode cL_law 1470 = .ok (.laload, 1) := by decide +kernel
theorem dL_law_1471 : decode cL_law 1471 = .ok (.iload 7, 2) := by decide +kernel
theorem dL_law_1473 : decode cL_law 1473 = .ok (.i2l, 1) := by decide +kernel
theorem dL_law_1474 : decode cL_law 1474 = .ok (.lcmp, 1) := by decide +kernel
theorem dL_law_1475 : decode cL_law 1475 = .ok (.ifCond .eq 5, 3) := by decide +kernel
theorem dL_law_1478 : decode cL_law 1478 = .ok (.iconst 0, 1) := by decide +kernel
theorem dL_law_1479 : decode cL_law 1479 = .ok (.ireturn, 1) := by decide +kernel
theorem dL_law_1480 : decode cL_law 1480 = .ok (.goto 639, 3) := by decide +kernel
theorem dL_law_1483 : decode cL_law 1483 = .ok (.aload_n 1, 1) := by decide +kernel
theorem dL_law_1484 : decode cL_law 1484 = .ok (.aload_n 0, 1) := by decide +kernel
theorem dL_law_1485 : decode cL_law 1485 = .ok (.iload 5, 2) := by decide +kernel
theorem dL_law_1487 : decode cL_law 1487 = .ok (.iconst 1, 1) := by decide +kernel
theorem dL_law_1488 : decode cL_law 1488 = .ok (.iadd, 1) := by decide +kernel
theorem dL_law_1489 : decode cL_law 1489 = .ok (.iaload, 1) := by decide +kernel
theorem dL_law_1490 : decode cL_law 1490 = .ok (.aload_n 0, 1) := by decide +kernel
theorem dL_law_1491 : decode cL_law 1491 = .ok (.iload 5, 2) := by decide +kernel
theorem dL_law_1493 : decode cL_law 1493 = .ok (.iconst 2, 1) := by decide +kernel
theorem dL_law_1494 : decode cL_law 1494 = .ok (.iadd, 1) := by decide +kernel
theorem dL_law_1495 : decode cL_law 1495 = .ok (.iaload, 1) := by decide +kernel
theorem dL_law_1496 : decode cL_law 1496 = .ok (.aload_n 3, 1) := by decide +kernel
theorem dL_law_1497 : decode cL_law 1497 = .ok (.invokestatic 202, 3) := by decide +kernel
theorem dL_law_1500 : decode cL_law 1500 = .ok (.istore 6, 2) := by decide +kernel
theorem dL_law_1502 : decode cL_law 1502 = .ok (.aload_n 2, 1) := by decide +kernel
theorem dL_law_1503 : decode cL_law 1503 = .ok (.aload_n 0, 1) := by decide +kernel
theorem dL_law_1504 : decode cL_law 1504 = .ok (.iload 5, 2) := by decide +kernel
theorem dL_law_1506 : decode cL_law 1506 = .ok (.iconst 1, 1) := by decide +kernel
theorem dL_law_1507 : decode cL_law 1507 = .ok (.iadd, 1) := by decide +kernel
theorem dL_law_1508 : decode cL_law 1508 = .ok (.iaload, 1) := by decide +kernel
theorem dL_law_1509 : decode cL_law 1509 = .ok (.aload_n 0, 1) := by decide +kernel
theorem dL_law_1510 : decode cL_law 1510 = .ok (.iload 5, 2) := by decide +kernel
theorem dL_law_1512 : decode cL_law 1512 = .ok (.iconst 2, 1) := by decide +kernel
theorem dL_law_1513 : decode cL_law 1513 = .ok (.iadd, 1) := by decide +kernel
theorem dL_law_1514 : decode cL_law 1514 = .ok (.iaload, 1) := by decide +kernel
theorem dL_law_1515 : decode cL_law 1515 = .ok (.invokevirtual 204, 3) := by decide +kernel
theorem dL_law_1518 : decode cL_law 1518 = .ok (.istore 7, 2) := by decide +kernel
theorem dL_law_1520 : decode cL_law 1520 = .ok (.aload_n 2, 1) := by decide +kernel
theorem dL_law_1521 : decode cL_law 1521 = .ok (.invokevirtual 127, 3) := by decide +kernel
theorem dL_law_1524 : decode cL_law 1524 = .ok (.iload 6, 2) := by decide +kernel
theorem dL_law_1526 : decode cL_law 1526 = .ok (.if_icmp .eq 5, 3) := by decide +kernel
theorem dL_law_1529 : decode cL_law 1529 = .ok (.iconst 0, 1) := by decide +kernel
theorem dL_law_1530 : decode cL_law 1530 = .ok (.ireturn, 1) := by decide +kernel
theorem dL_law_1531 : decode cL_law 1531 = .ok (.iload 6, 2) := by decide +kernel
theorem dL_law_1533 : decode cL_law 1533 = .ok (.ifCond .ne 15, 3) := by decide +kernel
theorem dL_law_1536 : decode cL_law 1536 = .ok (.aload_n 3, 1) := by decide +kernel
theorem dL_law_1537 : decode cL_law 1537 = .ok (.iconst 0, 1) := by decide +kernel
theorem dL_law_1538 : decode cL_law 1538 = .ok (.laload, 1) := by decide +kernel
theorem dL_law_1539 : decode cL_law 1539 = .ok (.iload 7, 2) := by decide +kernel
theorem dL_law_1541 : decode cL_law 1541 = .ok (.i2l, 1) := by decide +kernel
theorem dL_law_1542 : decode cL_law 1542 = .ok (.lcmp, 1) := by decide +kernel
theorem dL_law_1543 : decode cL_law 1543 = .ok (.ifCond .eq 5, 3) := by decide +kernel
theorem dL_law_1546 : decode cL_law 1546 = .ok (.iconst 0, 1) := by decide +kernel
theorem dL_law_1547 : decode cL_law 1547 = .ok (.ireturn, 1) := by decide +kernel
theorem dL_law_1548 : decode cL_law 1548 = .ok (.goto 571, 3) := by decide +kernel
theorem dL_law_1551 : decode cL_law 1551 = .ok (.aload_n 1, 1) := by decide +kernel
theorem dL_law_1552 : decode cL_law 1552 = .ok (.aload_n 0, 1) := by decide +kernel
theorem dL_law_1553 : decode cL_law 1553 = .ok (.iload 5, 2) := by decide +kernel
theorem dL_law_1555 : decode cL_law 1555 = .ok (.iconst 1, 1) := by decide +kernel
theorem dL_law_1556 : decode cL_law 1556 = .ok (.iadd, 1) := by decide +kernel
theorem dL_law_1557 : decode cL_law 1557 = .ok (.iaload, 1) := by decide +kernel
theorem dL_law_1558 : decode cL_law 1558 = .ok (.aload_n 0, 1) := by decide +kernel
theorem dL_law_1559 : decode cL_law 1559 = .ok (.iload 5, 2) := by decide +kernel
theorem dL_law_1561 : decode cL_law 1561 = .ok (.iconst 2, 1) := by decide +kernel
theorem dL_law_1562 : decode cL_law 1562 = .ok (.iadd, 1) := by decide +kernel
theorem dL_law_1563 : decode cL_law 1563 = .ok (.iaload, 1) := by decide +kernel
theorem dL_law_1564 : decode cL_law 1564 = .ok (.aload_n 3, 1) := by decide +kernel
theorem dL_law_1565 : decode cL_law 1565 = .ok (.invokestatic 205, 3) := by decide +kernel
theorem dL_law_1568 : decode cL_law 1568 = .ok (.istore 6, 2) := by decide +kernel
theorem dL_law_1570 : decode cL_law 1570 = .ok (.aload_n 2, 1) := by decide +kernel
theorem dL_law_1571 : decode cL_law 1571 = .ok (.aload_n 0, 1) := by decide +kernel
theorem dL_law_1572 : decode cL_law 1572 = .ok (.iload 5, 2) := by decide +kernel
theorem dL_law_1574 : decode cL_law 1574 = .ok (.iconst 1, 1) := by decide +kernel
theorem dL_law_1575 : decode cL_law 1575 = .ok (.iadd, 1) := by decide +kernel
theorem dL_law_1576 : decode cL_law 1576 = .ok (.iaload, 1) := by decide +kernel
theorem dL_law_1577 : decode cL_law 1577 = .ok (.aload_n 0, 1) := by decide +kernel
theorem dL_law_1578 : decode cL_law 1578 = .ok (.iload 5, 2) := by decide +kernel
theorem dL_law_1580 : decode cL_law 1580 = .ok (.iconst 2, 1) := by decide +kernel
theorem dL_law_1581 : decode cL_law 1581 = .ok (.iadd, 1) := by decide +kernel
theorem dL_law_1582 : decode cL_law 1582 = .ok (.iaload, 1) := by decide +kernel
theorem dL_law_1583 : decode cL_law 1583 = .ok (.invokevirtual 207, 3) := by decide +kernel
theorem dL_law_1586 : decode cL_law 1586 = .ok (.istore 7, 2) := by decide +kernel
theorem dL_law_1588 : decode cL_law 1588 = .ok (.aload_n 2, 1) := by decide +kernel
theorem dL_law_1589 : decode cL_law 1589 = .ok (.invokevirtual 127, 3) := by decide +kernel
theorem dL_law_1592 : decode cL_law 1592 = .ok (.iload 6, 2) := by decide +kernel
theorem dL_law_1594 : decode cL_law 1594 = .ok (.if_icmp .eq 5, 3) := by decide +kernel
theorem dL_law_1597 : decode cL_law 1597 = .ok (.iconst 0, 1) := by decide +kernel
theorem dL_law_1598 : decode cL_law 1598 = .ok (.ireturn, 1) := by decide +kernel
theorem dL_law_1599 : decode cL_law 1599 = .ok (.iload 6, 2) := by decide +kernel
theorem dL_law_1601 : decode cL_law 1601 = .ok (.ifCond .ne 15, 3) := by decide +kernel
theorem dL_law_1604 : decode cL_law 1604 = .ok (.aload_n 3, 1) := by decide +kernel
theorem dL_law_1605 : decode cL_law 1605 = .ok (.iconst 0, 1) := by decide +kernel
theorem dL_law_1606 : decode cL_law 1606 = .ok (.laload, 1) := by decide +kernel
theorem dL_law_1607 : decode cL_law 1607 = .ok (.iload 7, 2) := by decide +kernel
theorem dL_law_1609 : decode cL_law 1609 = .ok (.i2l, 1) := by decide +kernel
theorem dL_law_1610 : decode cL_law 1610 = .ok (.lcmp, 1) := by decide +kernel
theorem dL_law_1611 : decode cL_law 1611 = .ok (.ifCond .eq 5, 3) := by decide +kernel
theorem dL_law_1614 : decode cL_law 1614 = .ok (.iconst 0, 1) := by decide +kernel
theorem dL_law_1615 : decode cL_law 1615 = .ok (.ireturn, 1) := by decide +kernel
theorem dL_law_1616 : decode cL_law 1616 = .ok (.goto 503, 3) := by decide +kernel
theorem dL_law_1619 : decode cL_law 1619 = .ok (.aload_n 1, 1) := by decide +kernel
theorem dL_law_1620 : decode cL_law 1620 = .ok (.aload_n 0, 1) := by decide +kernel
theorem dL_law_1621 : decode cL_law 1621 = .ok (.iload 5, 2) := by decide +kernel
theorem dL_law_1623 : decode cL_law 1623 = .ok (.iconst 1, 1) := by decide +kernel
theorem dL_law_1624 : decode cL_law 1624 = .ok (.iadd, 1) := by decide +kernel
theorem dL_law_1625 : decode cL_law 1625 = .ok (.iaload, 1) := by decide +kernel
theorem dL_law_1626 : decode cL_law 1626 = .ok (.aload_n 0, 1) := by decide +kernel
theorem dL_law_1627 : decode cL_law 1627 = .ok (.iload 5, 2) := by decide +kernel
theorem dL_law_1629 : decode cL_law 1629 = .ok (.iconst 2, 1) := by decide +kernel
theorem dL_law_1630 : decode cL_law 1630 = .ok (.iadd, 1) := by decide +kernel
theorem dL_law_1631 : decode cL_law 1631 = .ok (.iaload, 1) := by decide +kernel
theorem dL_law_1632 : decode cL_law 1632 = .ok (.aload_n 0, 1) := by decide +kernel
theorem dL_law_1633 : decode cL_law 1633 = .ok (.iload 5, 2) := by decide +kernel
theorem dL_law_1635 : decode cL_law 1635 = .ok (.iconst 3, 1) := by decide +kernel
theorem dL_law_1636 : decode cL_law 1636 = .ok (.iadd, 1) := by decide +kernel
theorem dL_law_1637 : decode cL_law 1637 = .ok (.iaload, 1) := by decide +kernel
theorem dL_law_1638 : decode cL_law 1638 = .ok (.aload_n 3, 1) := by decide +kernel
theorem dL_law_1639 : decode cL_law 1639 = .ok (.invokestatic 208, 3) := by decide +kernel
theorem dL_law_1642 : decode cL_law 1642 = .ok (.istore 6, 2) := by decide +kernel
theorem dL_law_1644 : decode cL_law 1644 = .ok (.aload_n 2, 1) := by decide +kernel
theorem dL_law_1645 : decode cL_law 1645 = .ok (.aload_n 0, 1) := by decide +kernel
theorem dL_law_1646 : decode cL_law 1646 = .ok (.iload 5, 2) := by decide +kernel
theorem dL_law_1648 : decode cL_law 1648 = .ok (.iconst 1, 1) := by decide +kernel
theorem dL_law_1649 : decode cL_law 1649 = .ok (.iadd, 1) := by decide +kernel
theorem dL_law_1650 : decode cL_law 1650 = .ok (.iaload, 1) := by decide +kernel
theorem dL_law_1651 : decode cL_law 1651 = .ok (.aload_n 0, 1) := by decide +kernel
theorem dL_law_1652 : decode cL_law 1652 = .ok (.iload 5, 2) := by decide +kernel
theorem dL_law_1654 : decode cL_law 1654 = .ok (.iconst 2, 1) := by decide +kernel
theorem dL_law_1655 : decode cL_law 1655 = .ok (.iadd, 1) := by decide +kernel
theorem dL_law_1656 : decode cL_law 1656 = .ok (.iaload, 1) := by decide +kernel
theorem dL_law_1657 : decode cL_law 1657 = .ok (.aload_n 0, 1) := by decide +kernel
theorem dL_law_1658 : decode cL_law 1658 = .ok (.iload 5, 2) := by decide +kernel
theorem dL_law_1660 : decode cL_law 1660 = .ok (.iconst 3, 1) := by decide +kernel
theorem dL_law_1661 : decode cL_law 1661 = .ok (.iadd, 1) := by decide +kernel
theorem dL_law_1662 : decode cL_law 1662 = .ok (.iaload, 1) := by decide +kernel
theorem dL_law_1663 : decode cL_law 1663 = .ok (.invokevirtual 210, 3) := by decide +kernel
theorem dL_law_1666 : decode cL_law 1666 = .ok (.istore 7, 2) := by decide +kernel
theorem dL_law_1668 : decode cL_law 1668 = .ok (.aload_n 2, 1) := by decide +kernel
theorem dL_law_1669 : decode cL_law 1669 = .ok (.invokevirtual 127, 3) := by decide +kernel
theorem dL_law_1672 : decode cL_law 1672 = .ok (.iload 6, 2) := by decide +kernel
theorem dL_law_1674 : decode cL_law 1674 = .ok (.if_icmp .eq 5, 3) := by decide +kernel
theorem dL_law_1677 : decode cL_law 1677 = .ok (.iconst 0, 1) := by decide +kernel
theorem dL_law_1678 : decode cL_law 1678 = .ok (.ireturn, 1) := by decide +kernel
theorem dL_law_1679 : decode cL_law 1679 = .ok (.iload 6, 2) := by decide +kernel
theorem dL_law_1681 : decode cL_law 1681 = .ok (.ifCond .ne 15, 3) := by decide +kernel
theorem dL_law_1684 : decode cL_law 1684 = .ok (.aload_n 3, 1) := by decide +kernel
theorem dL_law_1685 : decode cL_law 1685 = .ok (.iconst 0, 1) := by decide +kernel
theorem dL_law_1686 : decode cL_law 1686 = .ok (.laload, 1) := by decide +kernel
theorem dL_law_1687 : decode cL_law 1687 = .ok (.iload 7, 2) := by decide +kernel
theorem dL_law_1689 : decode cL_law 1689 = .ok (.i2l, 1) := by decide +kernel
theorem dL_law_1690 : decode cL_law 1690 = .ok (.lcmp, 1) := by decide +kernel
theorem dL_law_1691 : decode cL_law 1691 = .ok (.ifCond .eq 5, 3) := by decide +kernel
theorem dL_law_1694 : decode cL_law 1694 = .ok (.iconst 0, 1) := by decide +kernel
theorem dL_law_1695 : decode cL_law 1695 = .ok (.ireturn, 1) := by decide +kernel
theorem dL_law_1696 : decode cL_law 1696 = .ok (.goto 423, 3) := by decide +kernel
theorem dL_law_1699 : decode cL_law 1699 = .ok (.aload_n 1, 1) := by decide +kernel
theorem dL_law_1700 : decode cL_law 1700 = .ok (.aload_n 0, 1) := by decide +kernel
theorem dL_law_1701 : decode cL_law 1701 = .ok (.iload 5, 2) := by decide +kernel
theorem dL_law_1703 : decode cL_law 1703 = .ok (.iconst 1, 1) := by decide +kernel
theorem dL_law_1704 : decode cL_law 1704 = .ok (.iadd, 1) := by decide +kernel
theorem dL_law_1705 : decode cL_law 1705 = .ok (.iaload, 1) := by decide +kernel
theorem dL_law_1706 : decode cL_law 1706 = .ok (.aload_n 0, 1) := by decide +kernel
theorem dL_law_1707 : decode cL_law 1707 = .ok (.iload 5, 2) := by decide +kernel
theorem dL_law_1709 : decode cL_law 1709 = .ok (.iconst 2, 1) := by decide +kernel
theorem dL_law_1710 : decode cL_law 1710 = .ok (.iadd, 1) := by decide +kernel
theorem dL_law_1711 : decode cL_law 1711 = .ok (.iaload, 1) := by decide +kernel
theorem dL_law_1712 : decode cL_law 1712 = .ok (.aload_n 3, 1) := by decide +kernel
theorem dL_law_1713 : decode cL_law 1713 = .ok (.invokestatic 211, 3) := by decide +kernel
theorem dL_law_1716 : decode cL_law 1716 = .ok (.istore 6, 2) := by decide +kernel
theorem dL_law_1718 : decode cL_law 1718 = .ok (.aload_n 2, 1) := by decide +kernel
theorem dL_law_1719 : decode cL_law 1719 = .ok (.aload_n 0, 1) := by decide +kernel
theorem dL_law_1720 : decode cL_law 1720 = .ok (.iload 5, 2) := by decide +kernel
theorem dL_law_1722 : decode cL_law 1722 = .ok (.iconst 1, 1) := by decide +kernel
theorem dL_law_1723 : decode cL_law 1723 = .ok (.iadd, 1) := by decide +kernel
theorem dL_law_1724 : decode cL_law 1724 = .ok (.iaload, 1) := by decide +kernel
theorem dL_law_1725 : decode cL_law 1725 = .ok (.aload_n 0, 1) := by decide +kernel
theorem dL_law_1726 : decode cL_law 1726 = .ok (.iload 5, 2) := by decide +kernel
theorem dL_law_1728 : decode cL_law 1728 = .ok (.iconst 2, 1) := by decide +kernel
theorem dL_law_1729 : decode cL_law 1729 = .ok (.iadd, 1) := by decide +kernel
theorem dL_law_1730 : decode cL_law 1730 = .ok (.iaload, 1) := by decide +kernel
theorem dL_law_1731 : decode cL_law 1731 = .ok (.invokevirtual 213, 3) := by decide +kernel
theorem dL_law_1734 : decode cL_law 1734 = .ok (.istore 7, 2) := by decide +kernel
theorem dL_law_1736 : decode cL_law 1736 = .ok (.aload_n 2, 1) := by decide +kernel
theorem dL_law_1737 : decode cL_law 1737 = .ok (.invokevirtual 127, 3) := by decide +kernel
theorem dL_law_1740 : decode cL_law 1740 = .ok (.iload 6, 2) := by decide +kernel
theorem dL_law_1742 : decode cL_law 1742 = .ok (.if_icmp .eq 5, 3) := by decide +kernel
theorem dL_law_1745 : decode cL_law 1745 = .ok (.iconst 0, 1) := by decide +kernel
theorem dL_law_1746 : decode cL_law 1746 = .ok (.ireturn, 1) := by decide +kernel
theorem dL_law_1747 : decode cL_law 1747 = .ok (.iload 6, 2) := by decide +kernel
theorem dL_law_1749 : decode cL_law 1749 = .ok (.ifCond .ne 15, 3) := by decide +kernel
theorem dL_law_1752 : decode cL_law 1752 = .ok (.aload_n 3, 1) := by decide +kernel
theorem dL_law_1753 : decode cL_law 1753 = .ok (.iconst 0, 1) := by decide +kernel
theorem dL_law_1754 : decode cL_law 1754 = .ok (.laload, 1) := by decide +kernel
theorem dL_law_1755 : decode cL_law 1755 = .ok (.iload 7, 2) := by decide +kernel
theorem dL_law_1757 : decode cL_law 1757 = .ok (.i2l, 1) := by decide +kernel
theorem dL_law_1758 : decode cL_law 1758 = .ok (.lcmp, 1) := by decide +kernel
theorem dL_law_1759 : decode cL_law 1759 = .ok (.ifCond .eq 5, 3) := by decide +kernel
theorem dL_law_1762 : decode cL_law 1762 = .ok (.iconst 0, 1) := by decide +kernel
theorem dL_law_1763 : decode cL_law 1763 = .ok (.ireturn, 1) := by decide +kernel
theorem dL_law_1764 : decode cL_law 1764 = .ok (.goto 355, 3) := by decide +kernel
theorem dL_law_1767 : decode cL_law 1767 = .ok (.aload_n 1, 1) := by decide +kernel
theorem dL_law_1768 : decode cL_law 1768 = .ok (.aload_n 0, 1) := by decide +kernel
theorem dL_law_1769 : decode cL_law 1769 = .ok (.iload 5, 2) := by decide +kernel
theorem dL_law_1771 : decode cL_law 1771 = .ok (.iconst 1, 1) := by decide +kernel
theorem dL_law_1772 : decode cL_law 1772 = .ok (.iadd, 1) := by decide +kernel
theorem dL_law_1773 : decode cL_law 1773 = .ok (.iaload, 1) := by decide +kernel
theorem dL_law_1774 : decode cL_law 1774 = .ok (.aload_n 3, 1) := by decide +kernel
theorem dL_law_1775 : decode cL_law 1775 = .ok (.invokestatic 214, 3) := by decide +kernel
theorem dL_law_1778 : decode cL_law 1778 = .ok (.istore 6, 2) := by decide +kernel
theorem dL_law_1780 : decode cL_law 1780 = .ok (.aload_n 2, 1) := by decide +kernel
theorem dL_law_1781 : decode cL_law 1781 = .ok (.aload_n 0, 1) := by decide +kernel
theorem dL_law_1782 : decode cL_law 1782 = .ok (.iload 5, 2) := by decide +kernel
theorem dL_law_1784 : decode cL_law 1784 = .ok (.iconst 1, 1) := by decide +kernel
theorem dL_law_1785 : decode cL_law 1785 = .ok (.iadd, 1) := by decide +kernel
theorem dL_law_1786 : decode cL_law 1786 = .ok (.iaload, 1) := by decide +kernel
theorem dL_law_1787 : decode cL_law 1787 = .ok (.invokevirtual 216, 3) := by decide +kernel
theorem dL_law_1790 : decode cL_law 1790 = .ok (.istore 7, 2) := by decide +kernel
theorem dL_law_1792 : decode cL_law 1792 = .ok (.aload_n 2, 1) := by decide +kernel
theorem dL_law_1793 : decode cL_law 1793 = .ok (.invokevirtual 127, 3) := by decide +kernel
theorem dL_law_1796 : decode cL_law 1796 = .ok (.iload 6, 2) := by decide +kernel
theorem dL_law_1798 : decode cL_law 1798 = .ok (.if_icmp .eq 5, 3) := by decide +kernel
theorem dL_law_1801 : decode cL_law 1801 = .ok (.iconst 0, 1) := by decide +kernel
theorem dL_law_1802 : decode cL_law 1802 = .ok (.ireturn, 1) := by decide +kernel
theorem dL_law_1803 : decode cL_law 1803 = .ok (.iload 6, 2) := by decide +kernel
theorem dL_law_1805 : decode cL_law 1805 = .ok (.ifCond .ne 15, 3) := by decide +kernel
theorem dL_law_1808 : decode cL_law 1808 = .ok (.aload_n 3, 1) := by decide +kernel
theorem dL_law_1809 : decode cL_law 1809 = .ok (.iconst 0, 1) := by decide +kernel
theorem dL_law_1810 : decode cL_law 1810 = .ok (.laload, 1) := by decide +kernel
theorem dL_law_1811 : decode cL_law 1811 = .ok (.iload 7, 2) := by decide +kernel
theorem dL_law_1813 : decode cL_law 1813 = .ok (.i2l, 1) := by decide +kernel
theorem dL_law_1814 : decode cL_law 1814 = .ok (.lcmp, 1) := by decide +kernel
theorem dL_law_1815 : decode cL_law 1815 = .ok (.ifCond .eq 5, 3) := by decide +kernel
theorem dL_law_1818 : decode cL_law 1818 = .ok (.iconst 0, 1) := by decide +kernel
theorem dL_law_1819 : decode cL_law 1819 = .ok (.ireturn, 1) := by decide +kernel
theorem dL_law_1820 : decode cL_law 1820 = .ok (.goto 299, 3) := by decide +kernel
theorem dL_law_1823 : decode cL_law 1823 = .ok (.aload_n 1, 1) := by decide +kernel
theorem dL_law_1824 : decode cL_law 1824 = .ok (.aload_n 0, 1) := by decide +kernel
theorem dL_law_1825 : decode cL_law 1825 = .ok (.iload 5, 2) := by decide +kernel
theorem dL_law_1827 : decode cL_law 1827 = .ok (.iconst 1, 1) := by decide +kernel
theorem dL_law_1828 : decode cL_law 1828 = .ok (.iadd, 1) := by decide +kernel
theorem dL_law_1829 : decode cL_law 1829 = .ok (.iaload, 1) := by decide +kernel
theorem dL_law_1830 : decode cL_law 1830 = .ok (.aload_n 0, 1) := by decide +kernel
theorem dL_law_1831 : decode cL_law 1831 = .ok (.iload 5, 2) := by decide +kernel
theorem dL_law_1833 : decode cL_law 1833 = .ok (.iconst 2, 1) := by decide +kernel
theorem dL_law_1834 : decode cL_law 1834 = .ok (.iadd, 1) := by decide +kernel
theorem dL_law_1835 : decode cL_law 1835 = .ok (.iaload, 1) := by decide +kernel
theorem dL_law_1836 : decode cL_law 1836 = .ok (.aload_n 0, 1) := by decide +kernel
theorem dL_law_1837 : decode cL_law 1837 = .ok (.iload 5, 2) := by decide +kernel
theorem dL_law_1839 : decode cL_law 1839 = .ok (.iconst 3, 1) := by decide +kernel
theorem dL_law_1840 : decode cL_law 1840 = .ok (.iadd, 1) := by decide +kernel
theorem dL_law_1841 : decode cL_law 1841 = .ok (.iaload, 1) := by decide +kernel
theorem dL_law_1842 : decode cL_law 1842 = .ok (.ifCond .eq 7, 3) := by decide +kernel
theorem dL_law_1845 : decode cL_law 1845 = .ok (.iconst 1, 1) := by decide +kernel
theorem dL_law_1846 : decode cL_law 1846 = .ok (.goto 4, 3) := by decide +kernel
theorem dL_law_1849 : decode cL_law 1849 = .ok (.iconst 0, 1) := by decide +kernel
theorem dL_law_1850 : decode cL_law 1850 = .ok (.aload_n 3, 1) := by decide +kernel
theorem dL_law_1851 : decode cL_law 1851 = .ok (.invokestatic 217, 3) := by decide +kernel
theorem dL_law_1854 : decode cL_law 1854 = .ok (.istore 6, 2) := by decide +kernel
theorem dL_law_1856 : decode cL_law 1856 = .ok (.aload_n 2, 1) := by decide +kernel
theorem dL_law_1857 : decode cL_law 1857 = .ok (.aload_n 0, 1) := by decide +kernel
theorem dL_law_1858 : decode cL_law 1858 = .ok (.iload 5, 2) := by decide +kernel
theorem dL_law_1860 : decode cL_law 1860 = .ok (.iconst 1, 1) := by decide +kernel
theorem dL_law_1861 : decode cL_law 1861 = .ok (.iadd, 1) := by decide +kernel
theorem dL_law_1862 : decode cL_law 1862 = .ok (.iaload, 1) := by decide +kernel
theorem dL_law_1863 : decode cL_law 1863 = .ok (.aload_n 0, 1) := by decide +kernel
theorem dL_law_1864 : decode cL_law 1864 = .ok (.iload 5, 2) := by decide +kernel
theorem dL_law_1866 : decode cL_law 1866 = .ok (.iconst 2, 1) := by decide +kernel
theorem dL_law_1867 : decode cL_law 1867 = .ok (.iadd, 1) := by decide +kernel
theorem dL_law_1868 : decode cL_law 1868 = .ok (.iaload, 1) := by decide +kernel
theorem dL_law_1869 : decode cL_law 1869 = .ok (.aload_n 0, 1) := by decide +kernel
theorem dL_law_1870 : decode cL_law 1870 = .ok (.iload 5, 2) := by decide +kernel
theorem dL_law_1872 : decode cL_law 1872 = .ok (.iconst 3, 1) := by decide +kernel
theorem dL_law_1873 : decode cL_law 1873 = .ok (.iadd, 1) := by decide +kernel
theorem dL_law_1874 : decode cL_law 1874 = .ok (.iaload, 1) := by decide +kernel
theorem dL_law_1875 : decode cL_law 1875 = .ok (.ifCond .eq 7, 3) := by decide +kernel
theorem dL_law_1878 : decode cL_law 1878 = .ok (.iconst 1, 1) := by decide +kernel
theorem dL_law_1879 : decode cL_law 1879 = .ok (.goto 4, 3) := by decide +kernel
theorem dL_law_1882 : decode cL_law 1882 = .ok (.iconst 0, 1) := by decide +kernel
theorem dL_law_1883 : decode cL_law 1883 = .ok (.invokevirtual 220, 3) := by decide +kernel
theorem dL_law_1886 : decode cL_law 1886 = .ok (.istore 7, 2) := by decide +kernel
theorem dL_law_1888 : decode cL_law 1888 = .ok (.aload_n 2, 1) := by decide +kernel
theorem dL_law_1889 : decode cL_law 1889 = .ok (.invokevirtual 127, 3) := by decide +kernel
theorem dL_law_1892 : decode cL_law 1892 = .ok (.iload 6, 2) := by decide +kernel
theorem dL_law_1894 : decode cL_law 1894 = .ok (.if_icmp .eq 5, 3) := by decide +kernel
theorem dL_law_1897 : decode cL_law 1897 = .ok (.iconst 0, 1) := by decide +kernel
theorem dL_law_1898 : decode cL_law 1898 = .ok (.ireturn, 1) := by decide +kernel
theorem dL_law_1899 : decode cL_law 1899 = .ok (.iload 6, 2) := by decide +kernel
theorem dL_law_1901 : decode cL_law 1901 = .ok (.ifCond .ne 15, 3) := by decide +kernel
theorem dL_law_1904 : decode cL_law 1904 = .ok (.aload_n 3, 1) := by decide +kernel
theorem dL_law_1905 : decode cL_law 1905 = .ok (.iconst 0, 1) := by decide +kernel
theorem dL_law_1906 : decode cL_law 1906 = .ok (.laload, 1) := by decide +kernel
theorem dL_law_1907 : decode cL_law 1907 = .ok (.iload 7, 2) := by decide +kernel
theorem dL_law_1909 : decode cL_law 1909 = .ok (.i2l, 1) := by decide +kernel
theorem dL_law_1910 : decode cL_law 1910 = .ok (.lcmp, 1) := by decide +kernel
theorem dL_law_1911 : decode cL_law 1911 = .ok (.ifCond .eq 5, 3) := by decide +kernel
theorem dL_law_1914 : decode cL_law 1914 = .ok (.iconst 0, 1) := by decide +kernel
theorem dL_law_1915 : decode cL_law 1915 = .ok (.ireturn, 1) := by decide +kernel
theorem dL_law_1916 : decode cL_law 1916 = .ok (.goto 203, 3) := by decide +kernel
theorem dL_law_1919 : decode cL_law 1919 = .ok (.aload_n 1, 1) := by decide +kernel
theorem dL_law_1920 : decode cL_law 1920 = .ok (.aload_n 0, 1) := by decide +kernel
theorem dL_law_1921 : decode cL_law 1921 = .ok (.iload 5, 2) := by decide +kernel
theorem dL_law_1923 : decode cL_law 1923 = .ok (.iconst 1, 1) := by decide +kernel
theorem dL_law_1924 : decode cL_law 1924 = .ok (.iadd, 1) := by decide +kernel
theorem dL_law_1925 : decode cL_law 1925 = .ok (.iaload, 1) := by decide +kernel
theorem dL_law_1926 : decode cL_law 1926 = .ok (.aload_n 3, 1) := by decide +kernel
theorem dL_law_1927 : decode cL_law 1927 = .ok (.invokestatic 221, 3) := by decide +kernel
theorem dL_law_1930 : decode cL_law 1930 = .ok (.istore 6, 2) := by decide +kernel
theorem dL_law_1932 : decode cL_law 1932 = .ok (.aload_n 2, 1) := by decide +kernel
theorem dL_law_1933 : decode cL_law 1933 = .ok (.aload_n 0, 1) := by decide +kernel
theorem dL_law_1934 : decode cL_law 1934 = .ok (.iload 5, 2) := by decide +kernel
theorem dL_law_1936 : decode cL_law 1936 = .ok (.iconst 1, 1) := by decide +kernel
theorem dL_law_1937 : decode cL_law 1937 = .ok (.iadd, 1) := by decide +kernel
theorem dL_law_1938 : decode cL_law 1938 = .ok (.iaload, 1) := by decide +kernel
theorem dL_law_1939 : decode cL_law 1939 = .ok (.invokevirtual 223, 3) := by decide +kernel
theorem dL_law_1942 : decode cL_law 1942 = .ok (.istore 7, 2) := by decide +kernel
theorem dL_law_1944 : decode cL_law 1944 = .ok (.aload_n 2, 1) := by decide +kernel
theorem dL_law_1945 : decode cL_law 1945 = .ok (.invokevirtual 127, 3) := by decide +kernel
theorem dL_law_1948 : decode cL_law 1948 = .ok (.iload 6, 2) := by decide +kernel
theorem dL_law_1950 : decode cL_law 1950 = .ok (.if_icmp .eq 5, 3) := by decide +kernel
theorem dL_law_1953 : decode cL_law 1953 = .ok (.iconst 0, 1) := by decide +kernel
theorem dL_law_1954 : decode cL_law 1954 = .ok (.ireturn, 1) := by decide +kernel
theorem dL_law_1955 : decode cL_law 1955 = .ok (.iload 6, 2) := by decide +kernel
theorem dL_law_1957 : decode cL_law 1957 = .ok (.ifCond .ne 15, 3) := by decide +kernel
theorem dL_law_1960 : decode cL_law 1960 = .ok (.aload_n 3, 1) := by decide +kernel
theorem dL_law_1961 : decode cL_law 1961 = .ok (.iconst 0, 1) := by decide +kernel
theorem dL_law_1962 : decode cL_law 1962 = .ok (.laload, 1) := by decide +kernel
theorem dL_law_1963 : decode cL_law 1963 = .ok (.iload 7, 2) := by decide +kernel
theorem dL_law_1965 : decode cL_law 1965 = .ok (.i2l, 1) := by decide +kernel
theorem dL_law_1966 : decode cL_law 1966 = .ok (.lcmp, 1) := by decide +kernel
theorem dL_law_1967 : decode cL_law 1967 = .ok (.ifCond .eq 5, 3) := by decide +kernel
theorem dL_law_1970 : decode cL_law 1970 = .ok (.iconst 0, 1) := by decide +kernel
theorem dL_law_1971 : decode cL_law 1971 = .ok (.ireturn, 1) := by decide +kernel
theorem dL_law_1972 : decode cL_law 1972 = .ok (.goto 147, 3) := by decide +kernel
theorem dL_law_1975 : decode cL_law 1975 = .ok (.aload_n 1, 1) := by decide +kernel
theorem dL_law_1976 : decode cL_law 1976 = .ok (.aload 4, 2) := by decide +kernel
theorem dL_law_1978 : decode cL_law 1978 = .ok (.invokestatic 224, 3) := by decide +kernel
theorem dL_law_1981 : decode cL_law 1981 = .ok (.istore 6, 2) := by decide +kernel
theorem dL_law_1983 : decode cL_law 1983 = .ok (.aload_n 2, 1) := by decide +kernel
theorem dL_law_1984 : decode cL_law 1984 = .ok (.invokevirtual 227, 3) := by decide +kernel
theorem dL_law_1987 : decode cL_law 1987 = .ok (.dstore 7, 2) := by decide +kernel
theorem dL_law_1989 : decode cL_law 1989 = .ok (.aload_n 2, 1) := by decide +kernel
theorem dL_law_1990 : decode cL_law 1990 = .ok (.invokevirtual 127, 3) := by decide +kernel
theorem dL_law_1993 : decode cL_law 1993 = .ok (.iload 6, 2) := by decide +kernel
theorem dL_law_1995 : decode cL_law 1995 = .ok (.if_icmp .eq 5, 3) := by decide +kernel
theorem dL_law_1998 : decode cL_law 1998 = .ok (.iconst 0, 1) := by decide +kernel
theorem dL_law_1999 : decode cL_law 1999 = .ok (.ireturn, 1) := by decide +kernel
theorem dL_law_2000 : decode cL_law 2000 = .ok (.iload 6, 2) := by decide +kernel
theorem dL_law_2002 : decode cL_law 2002 = .ok (.ifCond .ne 35, 3) := by decide +kernel
theorem dL_law_2005 : decode cL_law 2005 = .ok (.aload 4, 2) := by decide +kernel
theorem dL_law_2007 : decode cL_law 2007 = .ok (.iconst 0, 1) := by decide +kernel
theorem dL_law_2008 : decode cL_law 2008 = .ok (.daload, 1) := by decide +kernel
theorem dL_law_2009 : decode cL_law 2009 = .ok (.dload 7, 2) := by decide +kernel
theorem dL_law_2011 : decode cL_law 2011 = .ok (.dcmp .l, 1) := by decide +kernel
theorem dL_law_2012 : decode cL_law 2012 = .ok (.ifCond .eq 25, 3) := by decide +kernel
theorem dL_law_2015 : decode cL_law 2015 = .ok (.aload 4, 2) := by decide +kernel
theorem dL_law_2017 : decode cL_law 2017 = .ok (.iconst 0, 1) := by decide +kernel
theorem dL_law_2018 : decode cL_law 2018 = .ok (.daload, 1) := by decide +kernel
theorem dL_law_2019 : decode cL_law 2019 = .ok (.aload 4, 2) := by decide +kernel
theorem dL_law_2021 : decode cL_law 2021 = .ok (.iconst 0, 1) := by decide +kernel
theorem dL_law_2022 : decode cL_law 2022 = .ok (.daload, 1) := by decide +kernel
theorem dL_law_2023 : decode cL_law 2023 = .ok (.dcmp .l, 1) := by decide +kernel
theorem dL_law_2024 : decode cL_law 2024 = .ok (.ifCond .eq 11, 3) := by decide +kernel
theorem dL_law_2027 : decode cL_law 2027 = .ok (.dload 7, 2) := by decide +kernel
theorem dL_law_2029 : decode cL_law 2029 = .ok (.dload 7, 2) := by decide +kernel
theorem dL_law_2031 : decode cL_law 2031 = .ok (.dcmp .l, 1) := by decide +kernel
theorem dL_law_2032 : decode cL_law 2032 = .ok (.ifCond .ne 5, 3) := by decide +kernel
theorem dL_law_2035 : decode cL_law 2035 = .ok (.iconst 0, 1) := by decide +kernel
theorem dL_law_2036 : decode cL_law 2036 = .ok (.ireturn, 1) := by decide +kernel
theorem dL_law_2037 : decode cL_law 2037 = .ok (.goto 82, 3) := by decide +kernel
theorem dL_law_2040 : decode cL_law 2040 = .ok (.aload_n 1, 1) := by decide +kernel
theorem dL_law_2041 : decode cL_law 2041 = .ok (.aload_n 3, 1) := by decide +kernel
theorem dL_law_2042 : decode cL_law 2042 = .ok (.invokestatic 228, 3) := by decide +kernel
theorem dL_law_2045 : decode cL_law 2045 = .ok (.istore 6, 2) := by decide +kernel
theorem dL_law_2047 : decode cL_law 2047 = .ok (.aload_n 2, 1) := by decide +kernel
theorem dL_law_2048 : decode cL_law 2048 = .ok (.invokevirtual 230, 3) := by decide +kernel
theorem dL_law_2051 : decode cL_law 2051 = .ok (.istore 7, 2) := by decide +kernel
theorem dL_law_2053 : decode cL_law 2053 = .ok (.aload_n 2, 1) := by decide +kernel
theorem dL_law_2054 : decode cL_law 2054 = .ok (.invokevirtual 127, 3) := by decide +kernel
theorem dL_law_2057 : decode cL_law 2057 = .ok (.iload 6, 2) := by decide +kernel
theorem dL_law_2059 : decode cL_law 2059 = .ok (.if_icmp .eq 5, 3) := by decide +kernel
theorem dL_law_2062 : decode cL_law 2062 = .ok (.iconst 0, 1) := by decide +kernel
theorem dL_law_2063 : decode cL_law 2063 = .ok (.ireturn, 1) := by decide +kernel
theorem dL_law_2064 : decode cL_law 2064 = .ok (.iload 6, 2) := by decide +kernel
theorem dL_law_2066 : decode cL_law 2066 = .ok (.ifCond .ne 15, 3) := by decide +kernel
theorem dL_law_2069 : decode cL_law 2069 = .ok (.aload_n 3, 1) := by decide +kernel
theorem dL_law_2070 : decode cL_law 2070 = .ok (.iconst 0, 1) := by decide +kernel
theorem dL_law_2071 : decode cL_law 2071 = .ok (.laload, 1) := by decide +kernel
theorem dL_law_2072 : decode cL_law 2072 = .ok (.iload 7, 2) := by decide +kernel
theorem dL_law_2074 : decode cL_law 2074 = .ok (.i2l, 1) := by decide +kernel
theorem dL_law_2075 : decode cL_law 2075 = .ok (.lcmp, 1) := by decide +kernel
theorem dL_law_2076 : decode cL_law 2076 = .ok (.ifCond .eq 5, 3) := by decide +kernel
theorem dL_law_2079 : decode cL_law 2079 = .ok (.iconst 0, 1) := by decide +kernel
theorem dL_law_2080 : decode cL_law 2080 = .ok (.ireturn, 1) := by decide +kernel
theorem dL_law_2081 : decode cL_law 2081 = .ok (.goto 38, 3) := by decide +kernel
theorem dL_law_2084 : decode cL_law 2084 = .ok (.aload_n 1, 1) := by decide +kernel
theorem dL_law_2085 : decode cL_law 2085 = .ok (.invokevirtual 231, 3) := by decide +kernel
theorem dL_law_2088 : decode cL_law 2088 = .ok (.aload_n 2, 1) := by decide +kernel
theorem dL_law_2089 : decode cL_law 2089 = .ok (.invokevirtual 234, 3) := by decide +kernel
theorem dL_law_2092 : decode cL_law 2092 = .ok (.goto 27, 3) := by decide +kernel
theorem dL_law_2095 : decode cL_law 2095 = .ok (.aload_n 1, 1) := by decide +kernel
theorem dL_law_2096 : decode cL_law 2096 = .ok (.invokestatic 235, 3) := by decide +kernel
theorem dL_law_2099 : decode cL_law 2099 = .ok (.istore 6, 2) := by decide +kernel
theorem dL_law_2101 : decode cL_law 2101 = .ok (.aload_n 2, 1) := by decide +kernel
theorem dL_law_2102 : decode cL_law 2102 = .ok (.invokevirtual 238, 3) := by decide +kernel
theorem dL_law_2105 : decode cL_law 2105 = .ok (.aload_n 2, 1) := by decide +kernel
theorem dL_law_2106 : decode cL_law 2106 = .ok (.invokevirtual 127, 3) := by decide +kernel
theorem dL_law_2109 : decode cL_law 2109 = .ok (.iload 6, 2) := by decide +kernel
theorem dL_law_2111 : decode cL_law 2111 = .ok (.if_icmp .eq 5, 3) := by decide +kernel
theorem dL_law_2114 : decode cL_law 2114 = .ok (.iconst 0, 1) := by decide +kernel
theorem dL_law_2115 : decode cL_law 2115 = .ok (.ireturn, 1) := by decide +kernel
theorem dL_law_2116 : decode cL_law 2116 = .ok (.goto 3, 3) := by decide +kernel
theorem dL_law_2119 : decode cL_law 2119 = .ok (.iinc 5 7, 3) := by decide +kernel
theorem dL_law_2122 : decode cL_law 2122 = .ok (.goto (-2094), 3) := by decide +kernel
theorem dL_law_2125 : decode cL_law 2125 = .ok (.iconst 1, 1) := by decide +kernel
theorem dL_law_2126 : decode cL_law 2126 = .ok (.ireturn, 1) := by decide +kernel
