theorem dX0_init_0 : decode cX0_init 0 = .ok (.aload_n 0, 1) := by decide +kernel
theorem dX0_init_1 : decode cX0_init 1 = .ok (.invokespecial 3, 3) := by decide +kernel
theorem dX0_init_4 : decode cX0_init 4 = .ok (.aload_n 0, 1) := by decide +kernel
theorem dX0_init_5 : decode cX0_init 5 = .ok (.bipush 30, 2) := by decide +kernel
theorem dX0_init_7 : decode cX0_init 7 = .ok (.newarray .char, 2) := by decide +kernel
theorem dX0_init_9 : decode cX0_init 9 = .ok (.putfield 9, 3) := by decide +kernel
theorem dX0_init_12 : decode cX0_init 12 = .ok (.aload_n 0, 1) := by decide +kernel
theorem dX0_init_13 : decode cX0_init 13 = .ok (.iconst (-1), 1) := by decide +kernel
theorem dX0_init_14 : decode cX0_init 14 = .ok (.putfield 15, 3) := by decide +kernel
theorem dX0_init_17 : decode cX0_init 17 = .ok (.aload_n 0, 1) := by decide +kernel
theorem dX0_init_18 : decode cX0_init 18 = .ok (.iconst 5, 1) := by decide +kernel
theorem dX0_init_19 : decode cX0_init 19 = .ok (.newarray .int, 2) := by decide +kernel
theorem dX0_init_21 : decode cX0_init 21 = .ok (.putfield 19, 3) := by decide +kernel
theorem dX0_init_24 : decode cX0_init 24 = .ok (.return_, 1) := by decide +kernel
theorem dX0_add_0 : decode cX0_add 0 = .ok (.aload_n 0, 1) := by decide +kernel
theorem dX0_add_1 : decode cX0_add 1 = .ok (.getfield 23, 3) := by decide +kernel
theorem dX0_add_4 : decode cX0_add 4 = .ok (.aload_n 0, 1) := by decide +kernel
theorem dX0_add_5 : decode cX0_add 5 = .ok (.getfield 9, 3) := by decide +kernel
theorem dX0_add_8 : decode cX0_add 8 = .ok (.arraylength, 1) := by decide +kernel
theorem dX0_add_9 : decode cX0_add 9 = .ok (.if_icmp .lt 5, 3) := by decide +kernel
theorem dX0_add_12 : decode cX0_add 12 = .ok (.iconst 0, 1) := by decide +kernel
theorem dX0_add_13 : decode cX0_add 13 = .ok (.ireturn, 1) := by decide +kernel
theorem dX0_add_14 : decode cX0_add 14 = .ok (.aload_n 0, 1) := by decide +kernel
theorem dX0_add_15 : decode cX0_add 15 = .ok (.getfield 9, 3) := by decide +kernel
theorem dX0_add_18 : decode cX0_add 18 = .ok (.aload_n 0, 1) := by decide +kernel
theorem dX0_add_19 : decode cX0_add 19 = .ok (.getfield 23, 3) := by decide +kernel
theorem dX0_add_22 : decode cX0_add 22 = .ok (.iload_n 1, 1) := by decide +kernel
theorem dX0_add_23 : decode cX0_add 23 = .ok (.castore, 1) := by decide +kernel
theorem dX0_add_24 : decode cX0_add 24 = .ok (.aload_n 0, 1) := by decide +kernel
theorem dX0_add_25 : decode cX0_add 25 = .ok (.dup, 1) := by decide +kernel
theorem dX0_add_26 : decode cX0_add 26 = .ok (.getfield 23, 3) := by decide +kernel
theorem dX0_add_29 : decode cX0_add 29 = .ok (.iconst 1, 1) := by decide +kernel
theorem dX0_add_30 : decode cX0_add 30 = .ok (.iadd, 1) := by decide +kernel
theorem dX0_add_31 : decode cX0_add 31 = .ok (.putfield 23, 3) := by decide +kernel
theorem dX0_add_34 : decode cX0_add 34 = .ok (.iconst 1, 1) := by decide +kernel
theorem dX0_add_35 : decode cX0_add 35 = .ok (.ireturn, 1) := by decide +kernel
theorem dX0_parse_0 : decode cX0_parse 0 = .ok (.aload_n 0, 1) := by decide +kernel
theorem dX0_parse_1 : decode cX0_parse 1 = .ok (.iconst 0, 1) := by decide +kernel
theorem dX0_parse_2 : decode cX0_parse 2 = .ok (.putfield 26, 3) := by decide +kernel
theorem dX0_parse_5 : decode cX0_parse 5 = .ok (.aload_n 0, 1) := by decide +kernel
theorem dX0_parse_6 : decode cX0_parse 6 = .ok (.invokevirtual 29, 3) := by decide +kernel
theorem dX0_parse_9 : decode cX0_parse 9 = .ok (.istore_n 1, 1) := by decide +kernel
theorem dX0_parse_10 : decode cX0_parse 10 = .ok (.aload_n 0, 1) := by decide +kernel
theorem dX0_parse_11 : decode cX0_parse 11 = .ok (.iload_n 1, 1) := by decide +kernel
theorem dX0_parse_12 : decode cX0_parse 12 = .ok (.ifCond .eq 7, 3) := by decide +kernel
theorem dX0_parse_15 : decode cX0_parse 15 = .ok (.iconst (-1), 1) := by decide +kernel
theorem dX0_parse_16 : decode cX0_parse 16 = .ok (.goto 7, 3) := by decide +kernel
theorem dX0_parse_19 : decode cX0_parse 19 = .ok (.aload_n 0, 1) := by decide +kernel
theorem dX0_parse_20 : decode cX0_parse 20 = .ok (.getfield 26, 3) := by decide +kernel
theorem dX0_parse_23 : decode cX0_parse 23 = .ok (.putfield 15, 3) := by decide +kernel
theorem dX0_parse_26 : decode cX0_parse 26 = .ok (.aload_n 0, 1) := by decide +kernel
theorem dX0_parse_27 : decode cX0_parse 27 = .ok (.iconst 0, 1) := by decide +kernel
theorem dX0_parse_28 : decode cX0_parse 28 = .ok (.putfield 23, 3) := by decide +kernel
theorem dX0_parse_31 : decode cX0_parse 31 = .ok (.iload_n 1, 1) := by decide +kernel
theorem dX0_parse_32 : decode cX0_parse 32 = .ok (.ireturn, 1) := by decide +kernel
theorem dX0_readAll_0 : decode cX0_readAll 0 = .ok (.aload_n 0, 1) := by decide +kernel
theorem dX0_readAll_1 : decode cX0_readAll 1 = .ok (.invokevirtual 33, 3) := by decide +kernel
theorem dX0_readAll_4 : decode cX0_readAll 4 = .ok (.ifCond .eq 84, 3) := by decide +kernel
theorem dX0_readAll_7 : decode cX0_readAll 7 = .ok (.aload_n 0, 1) := by decide +kernel
theorem dX0_readAll_8 : decode cX0_readAll 8 = .ok (.iconst 0, 1) := by decide +kernel
theorem dX0_readAll_9 : decode cX0_readAll 9 = .ok (.invokevirtual 36, 3) := by decide +kernel
theorem dX0_readAll_12 : decode cX0_readAll 12 = .ok (.ifCond .eq 76, 3) := by decide +kernel
theorem dX0_readAll_15 : decode cX0_readAll 15 = .ok (.aload_n 0, 1) := by decide +kernel
theorem dX0_readAll_16 : decode cX0_readAll 16 = .ok (.bipush 120, 2) := by decide +kernel
theorem dX0_readAll_18 : decode cX0_readAll 18 = .ok (.invokevirtual 40, 3) := by decide +kernel
theorem dX0_readAll_21 : decode cX0_readAll 21 = .ok (.ifCond .eq 67, 3) := by decide +kernel
theorem dX0_readAll_24 : decode cX0_readAll 24 = .ok (.aload_n 0, 1) := by decide +kernel
theorem dX0_readAll_25 : decode cX0_readAll 25 = .ok (.iconst 1, 1) := by decide +kernel
theorem dX0_readAll_26 : decode cX0_readAll 26 = .ok (.invokevirtual 36, 3) := by decide +kernel
theorem dX0_readAll_29 : decode cX0_readAll 29 = .ok (.ifCond .eq 59, 3) := by decide +kernel
theorem dX0_readAll_32 : decode cX0_readAll 32 = .ok (.aload_n 0, 1) := by decide +kernel
theorem dX0_readAll_33 : decode cX0_readAll 33 = .ok (.bipush 64, 2) := by decide +kernel
theorem dX0_readAll_35 : decode cX0_readAll 35 = .ok (.invokevirtual 40, 3) := by decide +kernel
theorem dX0_readAll_38 : decode cX0_readAll 38 = .ok (.ifCond .eq 50, 3) := by decide +kernel
theorem dX0_readAll_41 : decode cX0_readAll 41 = .ok (.aload_n 0, 1) := by decide +kernel
theorem dX0_readAll_42 : decode cX0_readAll 42 = .ok (.iconst 2, 1) := by decide +kernel
theorem dX0_readAll_43 : decode cX0_readAll 43 = .ok (.invokevirtual 36, 3) := by decide +kernel
theorem dX0_readAll_46 : decode cX0_readAll 46 = .ok (.ifCond .eq 42, 3) := by decide +kernel
theorem dX0_readAll_49 : decode cX0_readAll 49 = .ok (.aload_n 0, 1) := by decide +kernel
theorem dX0_readAll_50 : decode cX0_readAll 50 = .ok (.bipush 43, 2) := by decide +kernel
theorem dX0_readAll_52 : decode cX0_readAll 52 = .ok (.invokevirtual 40, 3) := by decide +kernel
theorem dX0_readAll_55 : decode cX0_readAll 55 = .ok (.ifCond .eq 33, 3) := by decide +kernel
theorem dX0_readAll_58 : decode cX0_readAll 58 = .ok (.aload_n 0, 1) := by decide +kernel
theorem dX0_readAll_59 : decode cX0_readAll 59 = .ok (.iconst 3, 1) := by decide +kernel
theorem dX0_readAll_60 : decode cX0_readAll 60 = .ok (.invokevirtual 36, 3) := by decide +kernel
theorem dX0_readAll_63 : decode cX0_readAll 63 = .ok (.ifCond .eq 25, 3) := by decide +kernel
theorem dX0_readAll_66 : decode cX0_readAll 66 = .ok (.aload_n 0, 1) := by decide +kernel
theorem dX0_readAll_67 : decode cX0_readAll 67 = .ok (.invokevirtual 44, 3) := by decide +kernel
theorem dX0_readAll_70 : decode cX0_readAll 70 = .ok (.ifCond .eq 18, 3) := by decide +kernel
theorem dX0_readAll_73 : decode cX0_readAll 73 = .ok (.aload_n 0, 1) := by decide +kernel
theorem dX0_readAll_74 : decode cX0_readAll 74 = .ok (.getfield 26, 3) := by decide +kernel
theorem dX0_readAll_77 : decode cX0_readAll 77 = .ok (.aload_n 0, 1) := by decide +kernel
theorem dX0_readAll_78 : decode cX0_readAll 78 = .ok (.getfield 23, 3) := by decide +kernel
theorem dX0_readAll_81 : decode cX0_readAll 81 = .ok (.if_icmp .ne 7, 3) := by decide +kernel
theorem dX0_readAll_84 : decode cX0_readAll 84 = .ok (.iconst 1, 1) := by decide +kernel
theorem dX0_readAll_85 : decode cX0_readAll 85 = .ok (.goto 4, 3) := by decide +kernel
theorem dX0_readAll_88 : decode cX0_readAll 88 = .ok (.iconst 0, 1) := by decide +kernel
theorem dX0_readAll_89 : decode cX0_readAll 89 = .ok (.ireturn, 1) := by decide +kernel
theorem dX0_readKind_0 : decode cX0_readKind 0 = .ok (.aload_n 0, 1) := by decide +kernel
theorem dX0_readKind_1 : decode cX0_readKind 1 = .ok (.iconst 0, 1) := by decide +kernel
theorem dX0_readKind_2 : decode cX0_readKind 2 = .ok (.putfield 47, 3) := by decide +kernel
theorem dX0_readKind_5 : decode cX0_readKind 5 = .ok (.aload_n 0, 1) := by decide +kernel
theorem dX0_readKind_6 : decode cX0_readKind 6 = .ok (.bipush 116, 2) := by decide +kernel
theorem dX0_readKind_8 : decode cX0_readKind 8 = .ok (.invokevirtual 40, 3) := by decide +kernel
theorem dX0_readKind_11 : decode cX0_readKind 11 = .ok (.ifCond .eq 5, 3) := by decide +kernel
theorem dX0_readKind_14 : decode cX0_readKind 14 = .ok (.iconst 1, 1) := by decide +kernel
theorem dX0_readKind_15 : decode cX0_readKind 15 = .ok (.ireturn, 1) := by decide +kernel
theorem dX0_readKind_16 : decode cX0_readKind 16 = .ok (.aload_n 0, 1) := by decide +kernel
theorem dX0_readKind_17 : decode cX0_readKind 17 = .ok (.iconst 1, 1) := by decide +kernel
theorem dX0_readKind_18 : decode cX0_readKind 18 = .ok (.putfield 47, 3) := by decide +kernel
theorem dX0_readKind_21 : decode cX0_readKind 21 = .ok (.aload_n 0, 1) := by decide +kernel
theorem dX0_readKind_22 : decode cX0_readKind 22 = .ok (.bipush 99, 2) := by decide +kernel
theorem dX0_readKind_24 : decode cX0_readKind 24 = .ok (.invokevirtual 40, 3) := by decide +kernel
theorem dX0_readKind_27 : decode cX0_readKind 27 = .ok (.ifCond .eq 5, 3) := by decide +kernel
theorem dX0_readKind_30 : decode cX0_readKind 30 = .ok (.iconst 1, 1) := by decide +kernel
theorem dX0_readKind_31 : decode cX0_readKind 31 = .ok (.ireturn, 1) := by decide +kernel
theorem dX0_readKind_32 : decode cX0_readKind 32 = .ok (.aload_n 0, 1) := by decide +kernel
theorem dX0_readKind_33 : decode cX0_readKind 33 = .ok (.iconst 2, 1) := by decide +kernel
theorem dX0_readKind_34 : decode cX0_readKind 34 = .ok (.putfield 47, 3) := by decide +kernel
theorem dX0_readKind_37 : decode cX0_readKind 37 = .ok (.aload_n 0, 1) := by decide +kernel
theorem dX0_readKind_38 : decode cX0_readKind 38 = .ok (.bipush 109, 2) := by decide +kernel
theorem dX0_readKind_40 : decode cX0_readKind 40 = .ok (.invokevirtual 40, 3) := by decide +kernel
theorem dX0_readKind_43 : decode cX0_readKind 43 = .ok (.ireturn, 1) := by decide +kernel
theorem dX0_readPower_0 : decode cX0_readPower 0 = .ok (.aload_n 0, 1) := by decide +kernel
theorem dX0_readPower_1 : decode cX0_readPower 1 = .ok (.getfield 19, 3) := by decide +kernel
theorem dX0_readPower_4 : decode cX0_readPower 4 = .ok (.iconst 4, 1) := by decide +kernel
theorem dX0_readPower_5 : decode cX0_readPower 5 = .ok (.iconst 0, 1) := by decide +kernel
theorem dX0_readPower_6 : decode cX0_readPower 6 = .ok (.iastore, 1) := by decide +kernel
theorem dX0_readPower_7 : decode cX0_readPower 7 = .ok (.aload_n 0, 1) := by decide +kernel
theorem dX0_readPower_8 : decode cX0_readPower 8 = .ok (.getfield 26, 3) := by decide +kernel
theorem dX0_readPower_11 : decode cX0_readPower 11 = .ok (.aload_n 0, 1) := by decide +kernel
theorem dX0_readPower_12 : decode cX0_readPower 12 = .ok (.getfield 23, 3) := by decide +kernel
theorem dX0_readPower_15 : decode cX0_readPower 15 = .ok (.if_icmp .eq 20, 3) := by decide +kernel
theorem dX0_readPower_18 : decode cX0_readPower 18 = .ok (.aload_n 0, 1) := by decide +kernel
theorem dX0_readPower_19 : decode cX0_readPower 19 = .ok (.bipush 112, 2) := by decide +kernel
theorem dX0_readPower_21 : decode cX0_readPower 21 = .ok (.invokevirtual 40, 3) := by decide +kernel
theorem dX0_readPower_24 : decode cX0_readPower 24 = .ok (.ifCond .eq 15, 3) := by decide +kernel
theorem dX0_readPower_27 : decode cX0_readPower 27 = .ok (.aload_n 0, 1) := by decide +kernel
theorem dX0_readPower_28 : decode cX0_readPower 28 = .ok (.iconst 4, 1) := by decide +kernel
theorem dX0_readPower_29 : decode cX0_readPower 29 = .ok (.invokevirtual 36, 3) := by decide +kernel
theorem dX0_readPower_32 : decode cX0_readPower 32 = .ok (.ifCond .eq 7, 3) := by decide +kernel
theorem dX0_readPower_35 : decode cX0_readPower 35 = .ok (.iconst 1, 1) := by decide +kernel
theorem dX0_readPower_36 : decode cX0_readPower 36 = .ok (.goto 4, 3) := by decide +kernel
theorem dX0_readPower_39 : decode cX0_readPower 39 = .ok (.iconst 0, 1) := by decide +kernel
theorem dX0_readPower_40 : decode cX0_readPower 40 = .ok (.ireturn, 1) := by decide +kernel
theorem dX0_readSign_0 : decode cX0_readSign 0 = .ok (.aload_n 0, 1) := by decide +kernel
theorem dX0_readSign_1 : decode cX0_readSign 1 = .ok (.getfield 26, 3) := by decide +kernel
theorem dX0_readSign_4 : decode cX0_readSign 4 = .ok (.aload_n 0, 1) := by decide +kernel
theorem dX0_readSign_5 : decode cX0_readSign 5 = .ok (.getfield 23, 3) := by decide +kernel
theorem dX0_readSign_8 : decode cX0_readSign 8 = .ok (.if_icmp .ge 28, 3) := by decide +kernel
theorem dX0_readSign_11 : decode cX0_readSign 11 = .ok (.aload_n 0, 1) := by decide +kernel
theorem dX0_readSign_12 : decode cX0_readSign 12 = .ok (.getfield 26, 3) := by decide +kernel
theorem dX0_readSign_15 : decode cX0_readSign 15 = .ok (.aload_n 0, 1) := by decide +kernel
theorem dX0_readSign_16 : decode cX0_readSign 16 = .ok (.getfield 9, 3) := by decide +kernel
theorem dX0_readSign_19 : decode cX0_readSign 19 = .ok (.arraylength, 1) := by decide +kernel
theorem dX0_readSign_20 : decode cX0_readSign 20 = .ok (.if_icmp .ge 16, 3) := by decide +kernel
theorem dX0_readSign_23 : decode cX0_readSign 23 = .ok (.aload_n 0, 1) := by decide +kernel
theorem dX0_readSign_24 : decode cX0_readSign 24 = .ok (.getfield 9, 3) := by decide +kernel
theorem dX0_readSign_27 : decode cX0_readSign 27 = .ok (.aload_n 0, 1) := by decide +kernel
theorem dX0_readSign_28 : decode cX0_readSign 28 = .ok (.getfield 26, 3) := by decide +kernel
theorem dX0_readSign_31 : decode cX0_readSign 31 = .ok (.caload, 1) := by decide +kernel
theorem dX0_readSign_32 : decode cX0_readSign 32 = .ok (.iload_n 1, 1) := by decide +kernel
theorem dX0_readSign_33 : decode cX0_readSign 33 = .ok (.if_icmp .eq 5, 3) := by decide +kernel
theorem dX0_readSign_36 : decode cX0_readSign 36 = .ok (.iconst 0, 1) := by decide +kernel
theorem dX0_readSign_37 : decode cX0_readSign 37 = .ok (.ireturn, 1) := by decide +kernel
theorem dX0_readSign_38 : decode cX0_readSign 38 = .ok (.aload_n 0, 1) := by decide +kernel
theorem dX0_readSign_39 : decode cX0_readSign 39 = .ok (.dup, 1) := by decide +kernel
theorem dX0_readSign_40 : decode cX0_readSign 40 = .ok (.getfield 26, 3) := by decide +kernel
theorem dX0_readSign_43 : decode cX0_readSign 43 = .ok (.iconst 1, 1) := by decide +kernel
theorem dX0_readSign_44 : decode cX0_readSign 44 = .ok (.iadd, 1) := by decide +kernel
theorem dX0_readSign_45 : decode cX0_readSign 45 = .ok (.putfield 26, 3) := by decide +kernel
theorem dX0_readSign_48 : decode cX0_readSign 48 = .ok (.iconst 1, 1) := by decide +kernel
theorem dX0_readSign_49 : decode cX0_readSign 49 = .ok (.ireturn, 1) := by decide +kernel
theorem dX0_readNumber_0 : decode cX0_readNumber 0 = .ok (.aload_n 0, 1) := by decide +kernel
theorem dX0_readNumber_1 : decode cX0_readNumber 1 = .ok (.invokevirtual 50, 3) := by decide +kernel
theorem dX0_readNumber_4 : decode cX0_readNumber 4 = .ok (.istore_n 2, 1) := by decide +kernel
theorem dX0_readNumber_5 : decode cX0_readNumber 5 = .ok (.iload_n 2, 1) := by decide +kernel
theorem dX0_readNumber_6 : decode cX0_readNumber 6 = .ok (.ifCond .ge 5, 3) := by decide +kernel
theorem dX0_readNumber_9 : decode cX0_readNumber 9 = .ok (.iconst 0, 1) := by decide +kernel
theorem dX0_readNumber_10 : decode cX0_readNumber 10 = .ok (.ireturn, 1) := by decide +kernel
theorem dX0_readNumber_11 : decode cX0_readNumber 11 = .ok (.iload_n 2, 1) := by decide +kernel
theorem dX0_readNumber_12 : decode cX0_readNumber 12 = .ok (.ifCond .le 10, 3) := by decide +kernel
theorem dX0_readNumber_15 : decode cX0_readNumber 15 = .ok (.aload_n 0, 1) := by decide +kernel
theorem dX0_readNumber_16 : decode cX0_readNumber 16 = .ok (.invokevirtual 50, 3) := by decide +kernel
theorem dX0_readNumber_19 : decode cX0_readNumber 19 = .ok (.goto 4, 3) := by decide +kernel
theorem dX0_readNumber_22 : decode cX0_readNumber 22 = .ok (.iconst (-1), 1) := by decide +kernel
theorem dX0_readNumber_23 : decode cX0_readNumber 23 = .ok (.istore_n 3, 1) := by decide +kernel
theorem dX0_readNumber_24 : decode cX0_readNumber 24 = .ok (.aload_n 0, 1) := by decide +kernel
theorem dX0_readNumber_25 : decode cX0_readNumber 25 = .ok (.getfield 19, 3) := by decide +kernel
theorem dX0_readNumber_28 : decode cX0_readNumber 28 = .ok (.iload_n 1, 1) := by decide +kernel
theorem dX0_readNumber_29 : decode cX0_readNumber 29 = .ok (.iload_n 3, 1) := by decide +kernel
theorem dX0_readNumber_30 : decode cX0_readNumber 30 = .ok (.ifCond .ge 7, 3) := by decide +kernel
theorem dX0_readNumber_33 : decode cX0_readNumber 33 = .ok (.iload_n 2, 1) := by decide +kernel
theorem dX0_readNumber_34 : decode cX0_readNumber 34 = .ok (.goto 9, 3) := by decide +kernel
theorem dX0_readNumber_37 : decode cX0_readNumber 37 = .ok (.bipush 10, 2) := by decide +kernel
theorem dX0_readNumber_39 : decode cX0_readNumber 39 = .ok (.iload_n 2, 1) := by decide +kernel
theorem dX0_readNumber_40 : decode cX0_readNumber 40 = .ok (.imul, 1) := by decide +kernel
theorem dX0_readNumber_41 : decode cX0_readNumber 41 = .ok (.iload_n 3, 1) := by decide +kernel
theorem dX0_readNumber_42 : decode cX0_readNumber 42 = .ok (.iadd, 1) := by decide +kernel
theorem dX0_readNumber_43 : decode cX0_readNumber 43 = .ok (.iastore, 1) := by decide +kernel
theorem dX0_readNumber_44 : decode cX0_readNumber 44 = .ok (.iconst 1, 1) := by decide +kernel
theorem dX0_readNumber_45 : decode cX0_readNumber 45 = .ok (.ireturn, 1) := by decide +kernel
theorem dX0_readDigit_0 : decode cX0_readDigit 0 = .ok (.aload_n 0, 1) := by decide +kernel
theorem dX0_readDigit_1 : decode cX0_readDigit 1 = .ok (.getfield 26, 3) := by decide +kernel
theorem dX0_readDigit_4 : decode cX0_readDigit 4 = .ok (.aload_n 0, 1) := by decide +kernel
theorem dX0_readDigit_5 : decode cX0_readDigit 5 = .ok (.getfield 23, 3) := by decide +kernel
theorem dX0_readDigit_8 : decode cX0_readDigit 8 = .ok (.if_icmp .ge 43, 3) := by decide +kernel
theorem dX0_readDigit_11 : decode cX0_readDigit 11 = .ok (.aload_n 0, 1) := by decide +kernel
theorem dX0_readDigit_12 : decode cX0_readDigit 12 = .ok (.getfield 26, 3) := by decide +kernel
theorem dX0_readDigit_15 : decode cX0_readDigit 15 = .ok (.aload_n 0, 1) := by decide +kernel
theorem dX0_readDigit_16 : decode cX0_readDigit 16 = .ok (.getfield 9, 3) := by decide +kernel
theorem dX0_readDigit_19 : decode cX0_readDigit 19 = .ok (.arraylength, 1) := by decide +kernel
theorem dX0_readDigit_20 : decode cX0_readDigit 20 = .ok (.if_icmp .ge 31, 3) := by decide +kernel
theorem dX0_readDigit_23 : decode cX0_readDigit 23 = .ok (.aload_n 0, 1) := by decide +kernel
theorem dX0_readDigit_24 : decode cX0_readDigit 24 = .ok (.getfield 9, 3) := by decide +kernel
theorem dX0_readDigit_27 : decode cX0_readDigit 27 = .ok (.aload_n 0, 1) := by decide +kernel
theorem dX0_readDigit_28 : decode cX0_readDigit 28 = .ok (.getfield 26, 3) := by decide +kernel
theorem dX0_readDigit_31 : decode cX0_readDigit 31 = .ok (.caload, 1) := by decide +kernel
theorem dX0_readDigit_32 : decode cX0_readDigit 32 = .ok (.bipush 48, 2) := by decide +kernel
theorem dX0_readDigit_34 : decode cX0_readDigit 34 = .ok (.if_icmp .lt 17, 3) := by decide +kernel
theorem dX0_readDigit_37 : decode cX0_readDigit 37 = .ok (.aload_n 0, 1) := by decide +kernel
theorem dX0_readDigit_38 : decode cX0_readDigit 38 = .ok (.getfield 9, 3) := by decide +kernel
theorem dX0_readDigit_41 : decode cX0_readDigit 41 = .ok (.aload_n 0, 1) := by decide +kernel
theorem dX0_readDigit_42 : decode cX0_readDigit 42 = .ok (.getfield 26, 3) := by decide +kernel
theorem dX0_readDigit_45 : decode cX0_readDigit 45 = .ok (.caload, 1) := by decide +kernel
theorem dX0_readDigit_46 : decode cX0_readDigit 46 = .ok (.bipush 57, 2) := by decide +kernel
theorem dX0_readDigit_48 : decode cX0_readDigit 48 = .ok (.if_icmp .le 5, 3) := by decide +kernel
theorem dX0_readDigit_51 : decode cX0_readDigit 51 = .ok (.iconst (-1), 1) := by decide +kernel
theorem dX0_readDigit_52 : decode cX0_readDigit 52 = .ok (.ireturn, 1) := by decide +kernel
theorem dX0_readDigit_53 : decode cX0_readDigit 53 = .ok (.aload_n 0, 1) := by decide +kernel
theorem dX0_readDigit_54 : decode cX0_readDigit 54 = .ok (.dup, 1) := by decide +kernel
theorem dX0_readDigit_55 : decode cX0_readDigit 55 = .ok (.getfield 26, 3) := by decide +kernel
theorem dX0_readDigit_58 : decode cX0_readDigit 58 = .ok (.iconst 1, 1) := by decide +kernel
theorem dX0_readDigit_59 : decode cX0_readDigit 59 = .ok (.iadd, 1) := by decide +kernel
theorem dX0_readDigit_60 : decode cX0_readDigit 60 = .ok (.putfield 26, 3) := by decide +kernel
theorem dX0_readDigit_63 : decode cX0_readDigit 63 = .ok (.aload_n 0, 1) := by decide +kernel
theorem dX0_readDigit_64 : decode cX0_readDigit 64 = .ok (.getfield 9, 3) := by decide +kernel
theorem dX0_readDigit_67 : decode cX0_readDigit 67 = .ok (.aload_n 0, 1) := by decide +kernel
theorem dX0_readDigit_68 : decode cX0_readDigit 68 = .ok (.getfield 26, 3) := by decide +kernel
theorem dX0_readDigit_71 : decode cX0_readDigit 71 = .ok (.iconst 1, 1) := by decide +kernel
theorem dX0_readDigit_72 : decode cX0_readDigit 72 = .ok (.isub, 1) := by decide +kernel
theorem dX0_readDigit_73 : decode cX0_readDigit 73 = .ok (.caload, 1) := by decide +kernel
theorem dX0_readDigit_74 : decode cX0_readDigit 74 = .ok (.bipush 48, 2) := by decide +kernel
theorem dX0_readDigit_76 : decode cX0_readDigit 76 = .ok (.isub, 1) := by decide +kernel
theorem dX0_readDigit_77 : decode cX0_readDigit 77 = .ok (.ireturn, 1) := by decide +kernel
theorem dX1_init_0 : decode cX1_init 0 = .ok (.aload_n 0, 1) := by decide +kernel
theorem dX1_init_1 : decode cX1_init 1 = .ok (.invokespecial 3, 3) := by decide +kernel
theorem dX1_init_4 : decode cX1_init 4 = .ok (.aload_n 0, 1) := by decide +kernel
theorem dX1_init_5 : decode cX1_init 5 = .ok (.bipush 6, 2) := by decide +kernel
theorem dX1_init_7 : decode cX1_init 7 = .ok (.anewarray 9, 3) := by decide +kernel
theorem dX1_init_10 : decode cX1_init 10 = .ok (.putfield 11, 3) := by decide +kernel
theorem dX1_init_13 : decode cX1_init 13 = .ok (.iconst 0, 1) := by decide +kernel
theorem dX1_init_14 : decode cX1_init 14 = .ok (.istore_n 1, 1) := by decide +kernel
theorem dX1_init_15 : decode cX1_init 15 = .ok (.iload_n 1, 1) := by decide +kernel
theorem dX1_init_16 : decode cX1_init 16 = .ok (.aload_n 0, 1) := by decide +kernel
theorem dX1_init_17 : decode cX1_init 17 = .ok (.getfield 11, 3) := by decide +kernel
theorem dX1_init_20 : decode cX1_init 20 = .ok (.arraylength, 1) := by decide +kernel
theorem dX1_init_21 : decode cX1_init 21 = .ok (.if_icmp .ge 22, 3) := by decide +kernel
theorem dX1_init_24 : decode cX1_init 24 = .ok (.aload_n 0, 1) := by decide +kernel
theorem dX1_init_25 : decode cX1_init 25 = .ok (.getfield 11, 3) := by decide +kernel
theorem dX1_init_28 : decode cX1_init 28 = .ok (.iload_n 1, 1) := by decide +kernel
theorem dX1_init_29 : decode cX1_init 29 = .ok (.new 9, 3) := by decide +kernel
theorem dX1_init_32 : decode cX1_init 32 = .ok (.dup, 1) := by decide +kernel
theorem dX1_init_33 : decode cX1_init 33 = .ok (.invokespecial 17, 3) := by decide +kernel
theorem dX1_init_36 : decode cX1_init 36 = .ok (.aastore, 1) := by decide +kernel
theorem dX1_init_37 : decode cX1_init 37 = .ok (.iinc 1 1, 3) := by decide +kernel
theorem dX1_init_40 : decode cX1_init 40 = .ok (.goto (-25), 3) := by decide +kernel
theorem dX1_init_43 : decode cX1_init 43 = .ok (.aload_n 0, 1) := by decide +kernel
theorem dX1_init_44 : decode cX1_init 44 = .ok (.bipush 12, 2) := by decide +kernel
theorem dX1_init_46 : decode cX1_init 46 = .ok (.anewarray 18, 3) := by decide +kernel
theorem dX1_init_49 : decode cX1_init 49 = .ok (.putfield 20, 3) := by decide +kernel
theorem dX1_init_52 : decode cX1_init 52 = .ok (.iconst 0, 1) := by decide +kernel
theorem dX1_init_53 : decode cX1_init 53 = .ok (.istore_n 1, 1) := by decide +kernel
theorem dX1_init_54 : decode cX1_init 54 = .ok (.iload_n 1, 1) := by decide +kernel
theorem dX1_init_55 : decode cX1_init 55 = .ok (.aload_n 0, 1) := by decide +kernel
theorem dX1_init_56 : decode cX1_init 56 = .ok (.getfield 20, 3) := by decide +kernel
theorem dX1_init_59 : decode cX1_init 59 = .ok (.arraylength, 1) := by decide +kernel
theorem dX1_init_60 : decode cX1_init 60 = .ok (.if_icmp .ge 22, 3) := by decide +kernel
theorem dX1_init_63 : decode cX1_init 63 = .ok (.aload_n 0, 1) := by decide +kernel
theorem dX1_init_64 : decode cX1_init 64 = .ok (.getfield 20, 3) := by decide +kernel
theorem dX1_init_67 : decode cX1_init 67 = .ok (.iload_n 1, 1) := by decide +kernel
theorem dX1_init_68 : decode cX1_init 68 = .ok (.new 18, 3) := by decide +kernel
theorem dX1_init_71 : decode cX1_init 71 = .ok (.dup, 1) := by decide +kernel
theorem dX1_init_72 : decode cX1_init 72 = .ok (.invokespecial 24, 3) := by decide +kernel
theorem dX1_init_75 : decode cX1_init 75 = .ok (.aastore, 1) := by decide +kernel
theorem dX1_init_76 : decode cX1_init 76 = .ok (.iinc 1 1, 3) := by decide +kernel
theorem dX1_init_79 : decode cX1_init 79 = .ok (.goto (-25), 3) := by decide +kernel
theorem dX1_init_82 : decode cX1_init 82 = .ok (.aload_n 0, 1) := by decide +kernel
theorem dX1_init_83 : decode cX1_init 83 = .ok (.iconst 4, 1) := by decide +kernel
theorem dX1_init_84 : decode cX1_init 84 = .ok (.anewarray 25, 3) := by decide +kernel
theorem dX1_init_87 : decode cX1_init 87 = .ok (.putfield 27, 3) := by decide +kernel
theorem dX1_init_90 : decode cX1_init 90 = .ok (.iconst 0, 1) := by decide +kernel
theorem dX1_init_91 : decode cX1_init 91 = .ok (.istore_n 1, 1) := by decide +kernel
theorem dX1_init_92 : decode cX1_init 92 = .ok (.iload_n 1, 1) := by decide +kernel
theorem dX1_init_93 : decode cX1_init 93 = .ok (.aload_n 0, 1) := by decide +kernel
theorem dX1_init_94 : decode cX1_init 94 = .ok (.getfield 27, 3) := by decide +kernel
theorem dX1_init_97 : decode cX1_init 97 = .ok (.arraylength, 1) := by decide +kernel
theorem dX1_init_98 : decode cX1_init 98 = .ok (.if_icmp .ge 22, 3) := by decide +kernel
theorem dX1_init_101 : decode cX1_init 101 = .ok (.aload_n 0, 1) := by decide +kernel
theorem dX1_init_102 : decode cX1_init 102 = .ok (.getfield 27, 3) := by decide +kernel
theorem dX1_init_105 : decode cX1_init 105 = .ok (.iload_n 1, 1) := by decide +kernel
theorem dX1_init_106 : decode cX1_init 106 = .ok (.new 25, 3) := by decide +kernel
theorem dX1_init_109 : decode cX1_init 109 = .ok (.dup, 1) := by decide +kernel
theorem dX1_init_110 : decode cX1_init 110 = .ok (.invokespecial 31, 3) := by decide +kernel
theorem dX1_init_113 : decode cX1_init 113 = .ok (.aastore, 1) := by decide +kernel
theorem dX1_init_114 : decode cX1_init 114 = .ok (.iinc 1 1, 3) := by decide +kernel
theorem dX1_init_117 : decode cX1_init 117 = .ok (.goto (-25), 3) := by decide +kernel
theorem dX1_init_120 : decode cX1_init 120 = .ok (.aload_n 0, 1) := by decide +kernel
theorem dX1_init_121 : decode cX1_init 121 = .ok (.iconst 3, 1) := by decide +kernel
theorem dX1_init_122 : decode cX1_init 122 = .ok (.newarray .int, 2) := by decide +kernel
theorem dX1_init_124 : decode cX1_init 124 = .ok (.putfield 32, 3) := by decide +kernel
theorem dX1_init_127 : decode cX1_init 127 = .ok (.iconst 0, 1) := by decide +kernel
theorem dX1_init_128 : decode cX1_init 128 = .ok (.istore_n 1, 1) := by decide +kernel
theorem dX1_init_129 : decode cX1_init 129 = .ok (.iload_n 1, 1) := by decide +kernel
theorem dX1_init_130 : decode cX1_init 130 = .ok (.aload_n 0, 1) := by decide +kernel
theorem dX1_init_131 : decode cX1_init 131 = .ok (.getfield 32, 3) := by decide +kernel
theorem dX1_init_134 : decode cX1_init 134 = .ok (.arraylength, 1) := by decide +kernel
theorem dX1_init_135 : decode cX1_init 135 = .ok (.if_icmp .ge 17, 3) := by decide +kernel
theorem dX1_init_138 : decode cX1_init 138 = .ok (.aload_n 0, 1) := by decide +kernel
theorem dX1_init_139 : decode cX1_init 139 = .ok (.getfield 32, 3) := by decide +kernel
theorem dX1_init_142 : decode cX1_init 142 = .ok (.iload_n 1, 1) := by decide +kernel
theorem dX1_init_143 : decode cX1_init 143 = .ok (.bipush 16, 2) := by decide +kernel
theorem dX1_init_145 : decode cX1_init 145 = .ok (.iastore, 1) := by decide +kernel
theorem dX1_init_146 : decode cX1_init 146 = .ok (.iinc 1 1, 3) := by decide +kernel
theorem dX1_init_149 : decode cX1_init 149 = .ok (.goto (-20), 3) := by decide +kernel
theorem dX1_init_152 : decode cX1_init 152 = .ok (.aload_n 0, 1) := by decide +kernel
theorem dX1_init_153 : decode cX1_init 153 = .ok (.iconst 1, 1) := by decide +kernel
theorem dX1_init_154 : decode cX1_init 154 = .ok (.putfield 36, 3) := by decide +kernel
theorem dX1_init_157 : decode cX1_init 157 = .ok (.return_, 1) := by decide +kernel
theorem dX1_copyFrom_0 : decode cX1_copyFrom 0 = .ok (.aload_n 0, 1) := by decide +kernel
theorem dX1_copyFrom_1 : decode cX1_copyFrom 1 = .ok (.aload_n 1, 1) := by decide +kernel
theorem dX1_copyFrom_2 : decode cX1_copyFrom 2 = .ok (.getfield 40, 3) := by decide +kernel
theorem dX1_copyFrom_5 : decode cX1_copyFrom 5 = .ok (.putfield 40, 3) := by decide +kernel
theorem dX1_copyFrom_8 : decode cX1_copyFrom 8 = .ok (.iconst 0, 1) := by decide +kernel
theorem dX1_copyFrom_9 : decode cX1_copyFrom 9 = .ok (.istore_n 2, 1) := by decide +kernel
theorem dX1_copyFrom_10 : decode cX1_copyFrom 10 = .ok (.iload_n 2, 1) := by decide +kernel
theorem dX1_copyFrom_11 : decode cX1_copyFrom 11 = .ok (.aload_n 0, 1) := by decide +kernel
theorem dX1_copyFrom_12 : decode cX1_copyFrom 12 = .ok (.getfield 40, 3) := by decide +kernel
theorem dX1_copyFrom_15 : decode cX1_copyFrom 15 = .ok (.if_icmp .ge 24, 3) := by decide +kernel
theorem dX1_copyFrom_18 : decode cX1_copyFrom 18 = .ok (.aload_n 0, 1) := by decide +kernel
theorem dX1_copyFrom_19 : decode cX1_copyFrom 19 = .ok (.getfield 11, 3) := by decide +kernel
theorem dX1_copyFrom_22 : decode cX1_copyFrom 22 = .ok (.iload_n 2, 1) := by decide +kernel
theorem dX1_copyFrom_23 : decode cX1_copyFrom 23 = .ok (.aaload, 1) := by decide +kernel
theorem dX1_copyFrom_24 : decode cX1_copyFrom 24 = .ok (.aload_n 1, 1) := by decide +kernel
theorem dX1_copyFrom_25 : decode cX1_copyFrom 25 = .ok (.getfield 11, 3) := by decide +kernel
theorem dX1_copyFrom_28 : decode cX1_copyFrom 28 = .ok (.iload_n 2, 1) := by decide +kernel
theorem dX1_copyFrom_29 : decode cX1_copyFrom 29 = .ok (.aaload, 1) := by decide +kernel
theorem dX1_copyFrom_30 : decode cX1_copyFrom 30 = .ok (.invokevirtual 43, 3) := by decide +kernel
theorem dX1_copyFrom_33 : decode cX1_copyFrom 33 = .ok (.iinc 2 1, 3) := by decide +kernel
theorem dX1_copyFrom_36 : decode cX1_copyFrom 36 = .ok (.goto (-26), 3) := by decide +kernel
theorem dX1_copyFrom_39 : decode cX1_copyFrom 39 = .ok (.aload_n 0, 1) := by decide +kernel
theorem dX1_copyFrom_40 : decode cX1_copyFrom 40 = .ok (.aload_n 1, 1) := by decide +kernel
theorem dX1_copyFrom_41 : decode cX1_copyFrom 41 = .ok (.getfield 47, 3) := by decide +kernel
theorem dX1_copyFrom_44 : decode cX1_copyFrom 44 = .ok (.putfield 47, 3) := by decide +kernel
theorem dX1_copyFrom_47 : decode cX1_copyFrom 47 = .ok (.iconst 0, 1) := by decide +kernel
theorem dX1_copyFrom_48 : decode cX1_copyFrom 48 = .ok (.istore_n 2, 1) := by decide +kernel
theorem dX1_copyFrom_49 : decode cX1_copyFrom 49 = .ok (.iload_n 2, 1) := by decide +kernel
theorem dX1_copyFrom_50 : decode cX1_copyFrom 50 = .ok (.aload_n 0, 1) := by decide +kernel
theorem dX1_copyFrom_51 : decode cX1_copyFrom 51 = .ok (.getfield 47, 3) := by decide +kernel
theorem dX1_copyFrom_54 : decode cX1_copyFrom 54 = .ok (.if_icmp .ge 24, 3) := by decide +kernel
theorem dX1_copyFrom_57 : decode cX1_copyFrom 57 = .ok (.aload_n 0, 1) := by decide +kernel
theorem dX1_copyFrom_58 : decode cX1_copyFrom 58 = .ok (.getfield 20, 3) := by decide +kernel
theorem dX1_copyFrom_61 : decode cX1_copyFrom 61 = .ok (.iload_n 2, 1) := by decide +kernel
theorem dX1_copyFrom_62 : decode cX1_copyFrom 62 = .ok (.aaload, 1) := by decide +kernel
theorem dX1_copyFrom_63 : decode cX1_copyFrom 63 = .ok (.aload_n 1, 1) := by decide +kernel
theorem dX1_copyFrom_64 : decode cX1_copyFrom 64 = .ok (.getfield 20, 3) := by decide +kernel
theorem dX1_copyFrom_67 : decode cX1_copyFrom 67 = .ok (.iload_n 2, 1) := by decide +kernel
theorem dX1_copyFrom_68 : decode cX1_copyFrom 68 = .ok (.aaload, 1) := by decide +kernel
theorem dX1_copyFrom_69 : decode cX1_copyFrom 69 = .ok (.invokevirtual 50, 3) := by decide +kernel
theorem dX1_copyFrom_72 : decode cX1_copyFrom 72 = .ok (.iinc 2 1, 3) := by decide +kernel
theorem dX1_copyFrom_75 : decode cX1_copyFrom 75 = .ok (.goto (-26), 3) := by decide +kernel
theorem dX1_copyFrom_78 : decode cX1_copyFrom 78 = .ok (.aload_n 0, 1) := by decide +kernel
theorem dX1_copyFrom_79 : decode cX1_copyFrom 79 = .ok (.aload_n 1, 1) := by decide +kernel
theorem dX1_copyFrom_80 : decode cX1_copyFrom 80 = .ok (.getfield 53, 3) := by decide +kernel
theorem dX1_copyFrom_83 : decode cX1_copyFrom 83 = .ok (.putfield 53, 3) := by decide +kernel
theorem dX1_copyFrom_86 : decode cX1_copyFrom 86 = .ok (.iconst 0, 1) := by decide +kernel
theorem dX1_copyFrom_87 : decode cX1_copyFrom 87 = .ok (.istore_n 2, 1) := by decide +kernel
theorem dX1_copyFrom_88 : decode cX1_copyFrom 88 = .ok (.iload_n 2, 1) := by decide +kernel
theorem dX1_copyFrom_89 : decode cX1_copyFrom 89 = .ok (.aload_n 0, 1) := by decide +kernel
theorem dX1_copyFrom_90 : decode cX1_copyFrom 90 = .ok (.getfield 53, 3) := by decide +kernel
theorem dX1_copyFrom_93 : decode cX1_copyFrom 93 = .ok (.if_icmp .ge 24, 3) := by decide +kernel
theorem dX1_copyFrom_96 : decode cX1_copyFrom 96 = .ok (.aload_n 0, 1) := by decide +kernel
theorem dX1_copyFrom_97 : decode cX1_copyFrom 97 = .ok (.getfield 27, 3) := by decide +kernel
theorem dX1_copyFrom_100 : decode cX1_copyFrom 100 = .ok (.iload_n 2, 1) := by decide +kernel
theorem dX1_copyFrom_101 : decode cX1_copyFrom 101 = .ok (.aaload, 1) := by decide +kernel
theorem dX1_copyFrom_102 : decode cX1_copyFrom 102 = .ok (.aload_n 1, 1) := by decide +kernel
theorem dX1_copyFrom_103 : decode cX1_copyFrom 103 = .ok (.getfield 27, 3) := by decide +kernel
theorem dX1_copyFrom_106 : decode cX1_copyFrom 106 = .ok (.iload_n 2, 1) := by decide +kernel
theorem dX1_copyFrom_107 : decode cX1_copyFrom 107 = .ok (.aaload, 1) := by decide +kernel
theorem dX1_copyFrom_108 : decode cX1_copyFrom 108 = .ok (.invokevirtual 56, 3) := by decide +kernel
theorem dX1_copyFrom_111 : decode cX1_copyFrom 111 = .ok (.iinc 2 1, 3) := by decide +kernel
theorem dX1_copyFrom_114 : decode cX1_copyFrom 114 = .ok (.goto (-26), 3) := by decide +kernel
theorem dX1_copyFrom_117 : decode cX1_copyFrom 117 = .ok (.iconst 0, 1) := by decide +kernel
theorem dX1_copyFrom_118 : decode cX1_copyFrom 118 = .ok (.istore_n 2, 1) := by decide +kernel
theorem dX1_copyFrom_119 : decode cX1_copyFrom 119 = .ok (.iload_n 2, 1) := by decide +kernel
theorem dX1_copyFrom_120 : decode cX1_copyFrom 120 = .ok (.iconst 3, 1) := by decide +kernel
theorem dX1_copyFrom_121 : decode cX1_copyFrom 121 = .ok (.if_icmp .ge 21, 3) := by decide +kernel
theorem dX1_copyFrom_124 : decode cX1_copyFrom 124 = .ok (.aload_n 0, 1) := by decide +kernel
theorem dX1_copyFrom_125 : decode cX1_copyFrom 125 = .ok (.getfield 32, 3) := by decide +kernel
theorem dX1_copyFrom_128 : decode cX1_copyFrom 128 = .ok (.iload_n 2, 1) := by decide +kernel
theorem dX1_copyFrom_129 : decode cX1_copyFrom 129 = .ok (.aload_n 1, 1) := by decide +kernel
theorem dX1_copyFrom_130 : decode cX1_copyFrom 130 = .ok (.getfield 32, 3) := by decide +kernel
theorem dX1_copyFrom_133 : decode cX1_copyFrom 133 = .ok (.iload_n 2, 1) := by decide +kernel
theorem dX1_copyFrom_134 : decode cX1_copyFrom 134 = .ok (.iaload, 1) := by decide +kernel
theorem dX1_copyFrom_135 : decode cX1_copyFrom 135 = .ok (.iastore, 1) := by decide +kernel
theorem dX1_copyFrom_136 : decode cX1_copyFrom 136 = .ok (.iinc 2 1, 3) := by decide +kernel
theorem dX1_copyFrom_139 : decode cX1_copyFrom 139 = .ok (.goto (-20), 3) := by decide +kernel
theorem dX1_copyFrom_142 : decode cX1_copyFrom 142 = .ok (.aload_n 0, 1) := by decide +kernel
theorem dX1_copyFrom_143 : decode cX1_copyFrom 143 = .ok (.aload_n 1, 1) := by decide +kernel
theorem dX1_copyFrom_144 : decode cX1_copyFrom 144 = .ok (.getfield 36, 3) := by decide +kernel
theorem dX1_copyFrom_147 : decode cX1_copyFrom 147 = .ok (.putfield 36, 3) := by decide +kernel
theorem dX1_copyFrom_150 : decode cX1_copyFrom 150 = .ok (.aload_n 0, 1) := by decide +kernel
theorem dX1_copyFrom_151 : decode cX1_copyFrom 151 = .ok (.aload_n 1, 1) := by decide +kernel
theorem dX1_copyFrom_152 : decode cX1_copyFrom 152 = .ok (.getfield 59, 3) := by decide +kernel
theorem dX1_copyFrom_155 : decode cX1_copyFrom 155 = .ok (.putfield 59, 3) := by decide +kernel
theorem dX1_copyFrom_158 : decode cX1_copyFrom 158 = .ok (.return_, 1) := by decide +kernel
theorem dX1_hasPitch_0 : decode cX1_hasPitch 0 = .ok (.iload_n 1, 1) := by decide +kernel
theorem dX1_hasPitch_1 : decode cX1_hasPitch 1 = .ok (.ifCond .lt 15, 3) := by decide +kernel
theorem dX1_hasPitch_4 : decode cX1_hasPitch 4 = .ok (.iload_n 1, 1) := by decide +kernel
theorem dX1_hasPitch_5 : decode cX1_hasPitch 5 = .ok (.aload_n 0, 1) := by decide +kernel
theorem dX1_hasPitch_6 : decode cX1_hasPitch 6 = .ok (.getfield 40, 3) := by decide +kernel
theorem dX1_hasPitch_9 : decode cX1_hasPitch 9 = .ok (.if_icmp .ge 7, 3) := by decide +kernel
theorem dX1_hasPitch_12 : decode cX1_hasPitch 12 = .ok (.iconst 1, 1) := by decide +kernel
theorem dX1_hasPitch_13 : decode cX1_hasPitch 13 = .ok (.goto 4, 3) := by decide +kernel
theorem dX1_hasPitch_16 : decode cX1_hasPitch 16 = .ok (.iconst 0, 1) := by decide +kernel
theorem dX1_hasPitch_17 : decode cX1_hasPitch 17 = .ok (.ireturn, 1) := by decide +kernel
theorem dX1_circuitOf_0 : decode cX1_circuitOf 0 = .ok (.iload_n 1, 1) := by decide +kernel
theorem dX1_circuitOf_1 : decode cX1_circuitOf 1 = .ok (.ifCond .lt 23, 3) := by decide +kernel
theorem dX1_circuitOf_4 : decode cX1_circuitOf 4 = .ok (.iload_n 1, 1) := by decide +kernel
theorem dX1_circuitOf_5 : decode cX1_circuitOf 5 = .ok (.aload_n 0, 1) := by decide +kernel
theorem dX1_circuitOf_6 : decode cX1_circuitOf 6 = .ok (.getfield 40, 3) := by decide +kernel
theorem dX1_circuitOf_9 : decode cX1_circuitOf 9 = .ok (.if_icmp .ge 15, 3) := by decide +kernel
theorem dX1_circuitOf_12 : decode cX1_circuitOf 12 = .ok (.aload_n 0, 1) := by decide +kernel
theorem dX1_circuitOf_13 : decode cX1_circuitOf 13 = .ok (.getfield 11, 3) := by decide +kernel
theorem dX1_circuitOf_16 : decode cX1_circuitOf 16 = .ok (.iload_n 1, 1) := by decide +kernel
theorem dX1_circuitOf_17 : decode cX1_circuitOf 17 = .ok (.aaload, 1) := by decide +kernel
theorem dX1_circuitOf_18 : decode cX1_circuitOf 18 = .ok (.getfield 62, 3) := by decide +kernel
theorem dX1_circuitOf_21 : decode cX1_circuitOf 21 = .ok (.goto 4, 3) := by decide +kernel
theorem dX1_circuitOf_24 : decode cX1_circuitOf 24 = .ok (.iconst (-1), 1) := by decide +kernel
theorem dX1_circuitOf_25 : decode cX1_circuitOf 25 = .ok (.ireturn, 1) := by decide +kernel
theorem dX1_rateOf_0 : decode cX1_rateOf 0 = .ok (.aload_n 0, 1) := by decide +kernel
theorem dX1_rateOf_1 : decode cX1_rateOf 1 = .ok (.iload_n 1, 1) := by decide +kernel
theorem dX1_rateOf_2 : decode cX1_rateOf 2 = .ok (.invokevirtual 65, 3) := by decide +kernel
theorem dX1_rateOf_5 : decode cX1_rateOf 5 = .ok (.ifCond .eq 15, 3) := by decide +kernel
theorem dX1_rateOf_8 : decode cX1_rateOf 8 = .ok (.aload_n 0, 1) := by decide +kernel
theorem dX1_rateOf_9 : decode cX1_rateOf 9 = .ok (.getfield 11, 3) := by decide +kernel
theorem dX1_rateOf_12 : decode cX1_rateOf 12 = .ok (.iload_n 1, 1) := by decide +kernel
theorem dX1_rateOf_13 : decode cX1_rateOf 13 = .ok (.aaload, 1) := by decide +kernel
theorem dX1_rateOf_14 : decode cX1_rateOf 14 = .ok (.getfield 69, 3) := by decide +kernel
theorem dX1_rateOf_17 : decode cX1_rateOf 17 = .ok (.goto 4, 3) := by decide +kernel
theorem dX1_rateOf_20 : decode cX1_rateOf 20 = .ok (.iconst 0, 1) := by decide +kernel
theorem dX1_rateOf_21 : decode cX1_rateOf 21 = .ok (.ireturn, 1) := by decide +kernel
theorem dX1_areaOf_0 : decode cX1_areaOf 0 = .ok (.aload_n 0, 1) := by decide +kernel
theorem dX1_areaOf_1 : decode cX1_areaOf 1 = .ok (.iload_n 1, 1) := by decide +kernel
theorem dX1_areaOf_2 : decode cX1_areaOf 2 = .ok (.invokevirtual 65, 3) := by decide +kernel
theorem dX1_areaOf_5 : decode cX1_areaOf 5 = .ok (.ifCond .eq 25, 3) := by decide +kernel
theorem dX1_areaOf_8 : decode cX1_areaOf 8 = .ok (.aload_n 0, 1) := by decide +kernel
theorem dX1_areaOf_9 : decode cX1_areaOf 9 = .ok (.getfield 11, 3) := by decide +kernel
theorem dX1_areaOf_12 : decode cX1_areaOf 12 = .ok (.iload_n 1, 1) := by decide +kernel
theorem dX1_areaOf_13 : decode cX1_areaOf 13 = .ok (.aaload, 1) := by decide +kernel
theorem dX1_areaOf_14 : decode cX1_areaOf 14 = .ok (.getfield 72, 3) := by decide +kernel
theorem dX1_areaOf_17 : decode cX1_areaOf 17 = .ok (.aload_n 0, 1) := by decide +kernel
theorem dX1_areaOf_18 : decode cX1_areaOf 18 = .ok (.getfield 11, 3) := by decide +kernel
theorem dX1_areaOf_21 : decode cX1_areaOf 21 = .ok (.iload_n 1, 1) := by decide +kernel
theorem dX1_areaOf_22 : decode cX1_areaOf 22 = .ok (.aaload, 1) := by decide +kernel
theorem dX1_areaOf_23 : decode cX1_areaOf 23 = .ok (.getfield 75, 3) := by decide +kernel
theorem dX1_areaOf_26 : decode cX1_areaOf 26 = .ok (.imul, 1) := by decide +kernel
theorem dX1_areaOf_27 : decode cX1_areaOf 27 = .ok (.goto 4, 3) := by decide +kernel
theorem dX1_areaOf_30 : decode cX1_areaOf 30 = .ok (.iconst 0, 1) := by decide +kernel
theorem dX1_areaOf_31 : decode cX1_areaOf 31 = .ok (.ireturn, 1) := by decide +kernel
theorem dX1_hasFit_0 : decode cX1_hasFit 0 = .ok (.aload_n 0, 1) := by decide +kernel
theorem dX1_hasFit_1 : decode cX1_hasFit 1 = .ok (.iload_n 2, 1) := by decide +kernel
theorem dX1_hasFit_2 : decode cX1_hasFit 2 = .ok (.invokevirtual 65, 3) := by decide +kernel
theorem dX1_hasFit_5 : decode cX1_hasFit 5 = .ok (.ifCond .eq 20, 3) := by decide +kernel
theorem dX1_hasFit_8 : decode cX1_hasFit 8 = .ok (.aload_n 0, 1) := by decide +kernel
theorem dX1_hasFit_9 : decode cX1_hasFit 9 = .ok (.getfield 11, 3) := by decide +kernel
theorem dX1_hasFit_12 : decode cX1_hasFit 12 = .ok (.iload_n 2, 1) := by decide +kernel
theorem dX1_hasFit_13 : decode cX1_hasFit 13 = .ok (.aaload, 1) := by decide +kernel
theorem dX1_hasFit_14 : decode cX1_hasFit 14 = .ok (.aload_n 1, 1) := by decide +kernel
theorem dX1_hasFit_15 : decode cX1_hasFit 15 = .ok (.invokevirtual 78, 3) := by decide +kernel
theorem dX1_hasFit_18 : decode cX1_hasFit 18 = .ok (.ifCond .eq 7, 3) := by decide +kernel
theorem dX1_hasFit_21 : decode cX1_hasFit 21 = .ok (.iconst 1, 1) := by decide +kernel
theorem dX1_hasFit_22 : decode cX1_hasFit 22 = .ok (.goto 4, 3) := by decide +kernel
theorem dX1_hasFit_25 : decode cX1_hasFit 25 = .ok (.iconst 0, 1) := by decide +kernel
theorem dX1_hasFit_26 : decode cX1_hasFit 26 = .ok (.ireturn, 1) := by decide +kernel
theorem dX1_isStillToCome_0 : decode cX1_isStillToCome 0 = .ok (.aload_n 1, 1) := by decide +kernel
theorem dX1_isStillToCome_1 : decode cX1_isStillToCome 1 = .ok (.getfield 82, 3) := by decide +kernel
theorem dX1_isStillToCome_4 : decode cX1_isStillToCome 4 = .ok (.ifCond .eq 18, 3) := by decide +kernel
theorem dX1_isStillToCome_7 : decode cX1_isStillToCome 7 = .ok (.aload_n 1, 1) := by decide +kernel
theorem dX1_isStillToCome_8 : decode cX1_isStillToCome 8 = .ok (.getfield 86, 3) := by decide +kernel
theorem dX1_isStillToCome_11 : decode cX1_isStillToCome 11 = .ok (.aload_n 0, 1) := by decide +kernel
theorem dX1_isStillToCome_12 : decode cX1_isStillToCome 12 = .ok (.getfield 59, 3) := by decide +kernel
theorem dX1_isStillToCome_15 : decode cX1_isStillToCome 15 = .ok (.if_icmp .lt 7, 3) := by decide +kernel
theorem dX1_isStillToCome_18 : decode cX1_isStillToCome 18 = .ok (.iconst 1, 1) := by decide +kernel
theorem dX1_isStillToCome_19 : decode cX1_isStillToCome 19 = .ok (.goto 4, 3) := by decide +kernel
theorem dX1_isStillToCome_22 : decode cX1_isStillToCome 22 = .ok (.iconst 0, 1) := by decide +kernel
theorem dX1_isStillToCome_23 : decode cX1_isStillToCome 23 = .ok (.ireturn, 1) := by decide +kernel
theorem dX1_makePitch_0 : decode cX1_makePitch 0 = .ok (.aload_n 0, 1) := by decide +kernel
theorem dX1_makePitch_1 : decode cX1_makePitch 1 = .ok (.getfield 11, 3) := by decide +kernel
theorem dX1_makePitch_4 : decode cX1_makePitch 4 = .ok (.aload_n 0, 1) := by decide +kernel
theorem dX1_makePitch_5 : decode cX1_makePitch 5 = .ok (.getfield 40, 3) := by decide +kernel
theorem dX1_makePitch_8 : decode cX1_makePitch 8 = .ok (.aaload, 1) := by decide +kernel
theorem dX1_makePitch_9 : decode cX1_makePitch 9 = .ok (.astore 5, 2) := by decide +kernel
theorem dX1_makePitch_11 : decode cX1_makePitch 11 = .ok (.aload 5, 2) := by decide +kernel
theorem dX1_makePitch_13 : decode cX1_makePitch 13 = .ok (.iload_n 1, 1) := by decide +kernel
theorem dX1_makePitch_14 : decode cX1_makePitch 14 = .ok (.putfield 89, 3) := by decide +kernel
theorem dX1_makePitch_17 : decode cX1_makePitch 17 = .ok (.aload 5, 2) := by decide +kernel
theorem dX1_makePitch_19 : decode cX1_makePitch 19 = .ok (.iload_n 2, 1) := by decide +kernel
theorem dX1_makePitch_20 : decode cX1_makePitch 20 = .ok (.putfield 72, 3) := by decide +kernel
theorem dX1_makePitch_23 : decode cX1_makePitch 23 = .ok (.aload 5, 2) := by decide +kernel
theorem dX1_makePitch_25 : decode cX1_makePitch 25 = .ok (.iload_n 3, 1) := by decide +kernel
theorem dX1_makePitch_26 : decode cX1_makePitch 26 = .ok (.putfield 75, 3) := by decide +kernel
theorem dX1_makePitch_29 : decode cX1_makePitch 29 = .ok (.aload 5, 2) := by decide +kernel
theorem dX1_makePitch_31 : decode cX1_makePitch 31 = .ok (.iload 4, 2) := by decide +kernel
theorem dX1_makePitch_33 : decode cX1_makePitch 33 = .ok (.putfield 62, 3) := by decide +kernel
theorem dX1_makePitch_36 : decode cX1_makePitch 36 = .ok (.aload 5, 2) := by decide +kernel
theorem dX1_makePitch_38 : decode cX1_makePitch 38 = .ok (.bipush 10, 2) := by decide +kernel
theorem dX1_makePitch_40 : decode cX1_makePitch 40 = .ok (.putfield 69, 3) := by decide +kernel
theorem dX1_makePitch_43 : decode cX1_makePitch 43 = .ok (.aload_n 0, 1) := by decide +kernel
theorem dX1_makePitch_44 : decode cX1_makePitch 44 = .ok (.dup, 1) := by decide +kernel
theorem dX1_makePitch_45 : decode cX1_makePitch 45 = .ok (.getfield 40, 3) := by decide +kernel
theorem dX1_makePitch_48 : decode cX1_makePitch 48 = .ok (.iconst 1, 1) := by decide +kernel
theorem dX1_makePitch_49 : decode cX1_makePitch 49 = .ok (.iadd, 1) := by decide +kernel
theorem dX1_makePitch_50 : decode cX1_makePitch 50 = .ok (.putfield 40, 3) := by decide +kernel
theorem dX1_makePitch_53 : decode cX1_makePitch 53 = .ok (.aload_n 0, 1) := by decide +kernel
theorem dX1_makePitch_54 : decode cX1_makePitch 54 = .ok (.getfield 40, 3) := by decide +kernel
theorem dX1_makePitch_57 : decode cX1_makePitch 57 = .ok (.iconst 1, 1) := by decide +kernel
theorem dX1_makePitch_58 : decode cX1_makePitch 58 = .ok (.isub, 1) := by decide +kernel
theorem dX1_makePitch_59 : decode cX1_makePitch 59 = .ok (.ireturn, 1) := by decide +kernel
theorem dX1_makeSeason_0 : decode cX1_makeSeason 0 = .ok (.aload_n 0, 1) := by decide +kernel
theorem dX1_makeSeason_1 : decode cX1_makeSeason 1 = .ok (.getfield 27, 3) := by decide +kernel
theorem dX1_makeSeason_4 : decode cX1_makeSeason 4 = .ok (.aload_n 0, 1) := by decide +kernel
theorem dX1_makeSeason_5 : decode cX1_makeSeason 5 = .ok (.getfield 53, 3) := by decide +kernel
theorem dX1_makeSeason_8 : decode cX1_makeSeason 8 = .ok (.aaload, 1) := by decide +kernel
theorem dX1_makeSeason_9 : decode cX1_makeSeason 9 = .ok (.astore 4, 2) := by decide +kernel
theorem dX1_makeSeason_11 : decode cX1_makeSeason 11 = .ok (.aload 4, 2) := by decide +kernel
theorem dX1_makeSeason_13 : decode cX1_makeSeason 13 = .ok (.iload_n 1, 1) := by decide +kernel
theorem dX1_makeSeason_14 : decode cX1_makeSeason 14 = .ok (.putfield 92, 3) := by decide +kernel
theorem dX1_makeSeason_17 : decode cX1_makeSeason 17 = .ok (.aload 4, 2) := by decide +kernel
theorem dX1_makeSeason_19 : decode cX1_makeSeason 19 = .ok (.iload_n 2, 1) := by decide +kernel
theorem dX1_makeSeason_20 : decode cX1_makeSeason 20 = .ok (.putfield 93, 3) := by decide +kernel
theorem dX1_makeSeason_23 : decode cX1_makeSeason 23 = .ok (.aload 4, 2) := by decide +kernel
theorem dX1_makeSeason_25 : decode cX1_makeSeason 25 = .ok (.iload_n 3, 1) := by decide +kernel
theorem dX1_makeSeason_26 : decode cX1_makeSeason 26 = .ok (.putfield 96, 3) := by decide +kernel
theorem dX1_makeSeason_29 : decode cX1_makeSeason 29 = .ok (.aload_n 0, 1) := by decide +kernel
theorem dX1_makeSeason_30 : decode cX1_makeSeason 30 = .ok (.dup, 1) := by decide +kernel
theorem dX1_makeSeason_31 : decode cX1_makeSeason 31 = .ok (.getfield 53, 3) := by decide +kernel
theorem dX1_makeSeason_34 : decode cX1_makeSeason 34 = .ok (.iconst 1, 1) := by decide +kernel
theorem dX1_makeSeason_35 : decode cX1_makeSeason 35 = .ok (.iadd, 1) := by decide +kernel
theorem dX1_makeSeason_36 : decode cX1_makeSeason 36 = .ok (.putfield 53, 3) := by decide +kernel
theorem dX1_makeSeason_39 : decode cX1_makeSeason 39 = .ok (.aload_n 0, 1) := by decide +kernel
theorem dX1_makeSeason_40 : decode cX1_makeSeason 40 = .ok (.getfield 53, 3) := by decide +kernel
theorem dX1_makeSeason_43 : decode cX1_makeSeason 43 = .ok (.iconst 1, 1) := by decide +kernel
theorem dX1_makeSeason_44 : decode cX1_makeSeason 44 = .ok (.isub, 1) := by decide +kernel
theorem dX1_makeSeason_45 : decode cX1_makeSeason 45 = .ok (.ireturn, 1) := by decide +kernel
theorem dX1_removeSeason_0 : decode cX1_removeSeason 0 = .ok (.iload_n 1, 1) := by decide +kernel
theorem dX1_removeSeason_1 : decode cX1_removeSeason 1 = .ok (.istore_n 2, 1) := by decide +kernel
theorem dX1_removeSeason_2 : decode cX1_removeSeason 2 = .ok (.iload_n 2, 1) := by decide +kernel
theorem dX1_removeSeason_3 : decode cX1_removeSeason 3 = .ok (.iconst 1, 1) := by decide +kernel
theorem dX1_removeSeason_4 : decode cX1_removeSeason 4 = .ok (.iadd, 1) := by decide +kernel
theorem dX1_removeSeason_5 : decode cX1_removeSeason 5 = .ok (.aload_n 0, 1) := by decide +kernel
theorem dX1_removeSeason_6 : decode cX1_removeSeason 6 = .ok (.getfield 53, 3) := by decide +kernel
theorem dX1_removeSeason_9 : decode cX1_removeSeason 9 = .ok (.if_icmp .ge 26, 3) := by decide +kernel
theorem dX1_removeSeason_12 : decode cX1_removeSeason 12 = .ok (.aload_n 0, 1) := by decide +kernel
theorem dX1_removeSeason_13 : decode cX1_removeSeason 13 = .ok (.getfield 27, 3) := by decide +kernel
theorem dX1_removeSeason_16 : decode cX1_removeSeason 16 = .ok (.iload_n 2, 1) := by decide +kernel
theorem dX1_removeSeason_17 : decode cX1_removeSeason 17 = .ok (.aaload, 1) := by decide +kernel
theorem dX1_removeSeason_18 : decode cX1_removeSeason 18 = .ok (.aload_n 0, 1) := by decide +kernel
theorem dX1_removeSeason_19 : decode cX1_removeSeason 19 = .ok (.getfield 27, 3) := by decide +kernel
theorem dX1_removeSeason_22 : decode cX1_removeSeason 22 = .ok (.iload_n 2, 1) := by decide +kernel
theorem dX1_removeSeason_23 : decode cX1_removeSeason 23 = .ok (.iconst 1, 1) := by decide +kernel
theorem dX1_removeSeason_24 : decode cX1_removeSeason 24 = .ok (.iadd, 1) := by decide +kernel
theorem dX1_removeSeason_25 : decode cX1_removeSeason 25 = .ok (.aaload, 1) := by decide +kernel
theorem dX1_removeSeason_26 : decode cX1_removeSeason 26 = .ok (.invokevirtual 56, 3) := by decide +kernel
theorem dX1_removeSeason_29 : decode cX1_removeSeason 29 = .ok (.iinc 2 1, 3) := by decide +kernel
theorem dX1_removeSeason_32 : decode cX1_removeSeason 32 = .ok (.goto (-30), 3) := by decide +kernel
theorem dX1_removeSeason_35 : decode cX1_removeSeason 35 = .ok (.aload_n 0, 1) := by decide +kernel
theorem dX1_removeSeason_36 : decode cX1_removeSeason 36 = .ok (.dup, 1) := by decide +kernel
theorem dX1_removeSeason_37 : decode cX1_removeSeason 37 = .ok (.getfield 53, 3) := by decide +kernel
theorem dX1_removeSeason_40 : decode cX1_removeSeason 40 = .ok (.iconst 1, 1) := by decide +kernel
theorem dX1_removeSeason_41 : decode cX1_removeSeason 41 = .ok (.isub, 1) := by decide +kernel
theorem dX1_removeSeason_42 : decode cX1_removeSeason 42 = .ok (.putfield 53, 3) := by decide +kernel
theorem dX1_removeSeason_45 : decode cX1_removeSeason 45 = .ok (.return_, 1) := by decide +kernel
theorem dX1_makeParty_0 : decode cX1_makeParty 0 = .ok (.aload_n 0, 1) := by decide +kernel
theorem dX1_makeParty_1 : decode cX1_makeParty 1 = .ok (.getfield 20, 3) := by decide +kernel
theorem dX1_makeParty_4 : decode cX1_makeParty 4 = .ok (.aload_n 0, 1) := by decide +kernel
theorem dX1_makeParty_5 : decode cX1_makeParty 5 = .ok (.getfield 47, 3) := by decide +kernel
theorem dX1_makeParty_8 : decode cX1_makeParty 8 = .ok (.aaload, 1) := by decide +kernel
theorem dX1_makeParty_9 : decode cX1_makeParty 9 = .ok (.astore_n 3, 1) := by decide +kernel
theorem dX1_makeParty_10 : decode cX1_makeParty 10 = .ok (.aload_n 3, 1) := by decide +kernel
theorem dX1_makeParty_11 : decode cX1_makeParty 11 = .ok (.aload_n 1, 1) := by decide +kernel
theorem dX1_makeParty_12 : decode cX1_makeParty 12 = .ok (.invokevirtual 50, 3) := by decide +kernel
theorem dX1_makeParty_15 : decode cX1_makeParty 15 = .ok (.aload_n 3, 1) := by decide +kernel
theorem dX1_makeParty_16 : decode cX1_makeParty 16 = .ok (.iload_n 2, 1) := by decide +kernel
theorem dX1_makeParty_17 : decode cX1_makeParty 17 = .ok (.putfield 99, 3) := by decide +kernel
theorem dX1_makeParty_20 : decode cX1_makeParty 20 = .ok (.aload_n 3, 1) := by decide +kernel
theorem dX1_makeParty_21 : decode cX1_makeParty 21 = .ok (.aload_n 0, 1) := by decide +kernel
theorem dX1_makeParty_22 : decode cX1_makeParty 22 = .ok (.iload_n 2, 1) := by decide +kernel
theorem dX1_makeParty_23 : decode cX1_makeParty 23 = .ok (.invokevirtual 102, 3) := by decide +kernel
theorem dX1_makeParty_26 : decode cX1_makeParty 26 = .ok (.aload_n 1, 1) := by decide +kernel
theorem dX1_makeParty_27 : decode cX1_makeParty 27 = .ok (.getfield 106, 3) := by decide +kernel
theorem dX1_makeParty_30 : decode cX1_makeParty 30 = .ok (.iadd, 1) := by decide +kernel
theorem dX1_makeParty_31 : decode cX1_makeParty 31 = .ok (.aload_n 1, 1) := by decide +kernel
theorem dX1_makeParty_32 : decode cX1_makeParty 32 = .ok (.getfield 109, 3) := by decide +kernel
theorem dX1_makeParty_35 : decode cX1_makeParty 35 = .ok (.imul, 1) := by decide +kernel
theorem dX1_makeParty_36 : decode cX1_makeParty 36 = .ok (.putfield 112, 3) := by decide +kernel
theorem dX1_makeParty_39 : decode cX1_makeParty 39 = .ok (.aload_n 3, 1) := by decide +kernel
theorem dX1_makeParty_40 : decode cX1_makeParty 40 = .ok (.iconst 1, 1) := by decide +kernel
theorem dX1_makeParty_41 : decode cX1_makeParty 41 = .ok (.putfield 82, 3) := by decide +kernel
theorem dX1_makeParty_44 : decode cX1_makeParty 44 = .ok (.aload_n 0, 1) := by decide +kernel
theorem dX1_makeParty_45 : decode cX1_makeParty 45 = .ok (.dup, 1) := by decide +kernel
theorem dX1_makeParty_46 : decode cX1_makeParty 46 = .ok (.getfield 47, 3) := by decide +kernel
theorem dX1_makeParty_49 : decode cX1_makeParty 49 = .ok (.iconst 1, 1) := by decide +kernel
theorem dX1_makeParty_50 : decode cX1_makeParty 50 = .ok (.iadd, 1) := by decide +kernel
theorem dX1_makeParty_51 : decode cX1_makeParty 51 = .ok (.putfield 47, 3) := by decide +kernel
theorem dX1_makeParty_54 : decode cX1_makeParty 54 = .ok (.aload_n 0, 1) := by decide +kernel
theorem dX1_makeParty_55 : decode cX1_makeParty 55 = .ok (.getfield 47, 3) := by decide +kernel
theorem dX1_makeParty_58 : decode cX1_makeParty 58 = .ok (.iconst 1, 1) := by decide +kernel
theorem dX1_makeParty_59 : decode cX1_makeParty 59 = .ok (.isub, 1) := by decide +kernel
theorem dX1_makeParty_60 : decode cX1_makeParty 60 = .ok (.ireturn, 1) := by decide +kernel
theorem dX1_busyNights_0 : decode cX1_busyNights 0 = .ok (.lconst 0, 1) := by decide +kernel
theorem dX1_busyNights_1 : decode cX1_busyNights 1 = .ok (.lstore_n 3, 1) := by decide +kernel
theorem dX1_busyNights_2 : decode cX1_busyNights 2 = .ok (.iconst 0, 1) := by decide +kernel
theorem dX1_busyNights_3 : decode cX1_busyNights 3 = .ok (.istore 5, 2) := by decide +kernel
theorem dX1_busyNights_5 : decode cX1_busyNights 5 = .ok (.iload 5, 2) := by decide +kernel
theorem dX1_busyNights_7 : decode cX1_busyNights 7 = .ok (.aload_n 0, 1) := by decide +kernel
theorem dX1_busyNights_8 : decode cX1_busyNights 8 = .ok (.getfield 47, 3) := by decide +kernel
theorem dX1_busyNights_11 : decode cX1_busyNights 11 = .ok (.if_icmp .ge 42, 3) := by decide +kernel
theorem dX1_busyNights_14 : decode cX1_busyNights 14 = .ok (.iload 5, 2) := by decide +kernel
theorem dX1_busyNights_16 : decode cX1_busyNights 16 = .ok (.iload_n 2, 1) := by decide +kernel
theorem dX1_busyNights_17 : decode cX1_busyNights 17 = .ok (.if_icmp .eq 30, 3) := by decide +kernel
theorem dX1_busyNights_20 : decode cX1_busyNights 20 = .ok (.aload_n 0, 1) := by decide +kernel
theorem dX1_busyNights_21 : decode cX1_busyNights 21 = .ok (.getfield 20, 3) := by decide +kernel
theorem dX1_busyNights_24 : decode cX1_busyNights 24 = .ok (.iload 5, 2) := by decide +kernel
theorem dX1_busyNights_26 : decode cX1_busyNights 26 = .ok (.aaload, 1) := by decide +kernel
theorem dX1_busyNights_27 : decode cX1_busyNights 27 = .ok (.iload_n 1, 1) := by decide +kernel
theorem dX1_busyNights_28 : decode cX1_busyNights 28 = .ok (.invokevirtual 115, 3) := by decide +kernel
theorem dX1_busyNights_31 : decode cX1_busyNights 31 = .ok (.ifCond .eq 16, 3) := by decide +kernel
theorem dX1_busyNights_34 : decode cX1_busyNights 34 = .ok (.lload_n 3, 1) := by decide +kernel
theorem dX1_busyNights_35 : decode cX1_busyNights 35 = .ok (.aload_n 0, 1) := by decide +kernel
theorem dX1_busyNights_36 : decode cX1_busyNights 36 = .ok (.getfield 20, 3) := by decide +kernel
theorem dX1_busyNights_39 : decode cX1_busyNights 39 = .ok (.iload 5, 2) := by decide +kernel
theorem dX1_busyNights_41 : decode cX1_busyNights 41 = .ok (.aaload, 1) := by decide +kernel
theorem dX1_busyNights_42 : decode cX1_busyNights 42 = .ok (.getfield 118, 3) := by decide +kernel
theorem dX1_busyNights_45 : decode cX1_busyNights 45 = .ok (.lor, 1) := by decide +kernel
theorem dX1_busyNights_46 : decode cX1_busyNights 46 = .ok (.lstore_n 3, 1) := by decide +kernel
theorem dX1_busyNights_47 : decode cX1_busyNights 47 = .ok (.iinc 5 1, 3) := by decide +kernel
theorem dX1_busyNights_50 : decode cX1_busyNights 50 = .ok (.goto (-45), 3) := by decide +kernel
theorem dX1_busyNights_53 : decode cX1_busyNights 53 = .ok (.lload_n 3, 1) := by decide +kernel
theorem dX1_busyNights_54 : decode cX1_busyNights 54 = .ok (.lreturn, 1) := by decide +kernel
theorem dX1_partyAt_0 : decode cX1_partyAt 0 = .ok (.iconst 0, 1) := by decide +kernel
theorem dX1_partyAt_1 : decode cX1_partyAt 1 = .ok (.istore_n 3, 1) := by decide +kernel
theorem dX1_partyAt_2 : decode cX1_partyAt 2 = .ok (.iload_n 3, 1) := by decide +kernel
theorem dX1_partyAt_3 : decode cX1_partyAt 3 = .ok (.aload_n 0, 1) := by decide +kernel
theorem dX1_partyAt_4 : decode cX1_partyAt 4 = .ok (.getfield 47, 3) := by decide +kernel
theorem dX1_partyAt_7 : decode cX1_partyAt 7 = .ok (.if_icmp .ge 40, 3) := by decide +kernel
theorem dX1_partyAt_10 : decode cX1_partyAt 10 = .ok (.aload_n 0, 1) := by decide +kernel
theorem dX1_partyAt_11 : decode cX1_partyAt 11 = .ok (.getfield 20, 3) := by decide +kernel
theorem dX1_partyAt_14 : decode cX1_partyAt 14 = .ok (.iload_n 3, 1) := by decide +kernel
theorem dX1_partyAt_15 : decode cX1_partyAt 15 = .ok (.aaload, 1) := by decide +kernel
theorem dX1_partyAt_16 : decode cX1_partyAt 16 = .ok (.iload_n 1, 1) := by decide +kernel
theorem dX1_partyAt_17 : decode cX1_partyAt 17 = .ok (.invokevirtual 115, 3) := by decide +kernel
theorem dX1_partyAt_20 : decode cX1_partyAt 20 = .ok (.ifCond .eq 21, 3) := by decide +kernel
theorem dX1_partyAt_23 : decode cX1_partyAt 23 = .ok (.aload_n 0, 1) := by decide +kernel
theorem dX1_partyAt_24 : decode cX1_partyAt 24 = .ok (.getfield 20, 3) := by decide +kernel
theorem dX1_partyAt_27 : decode cX1_partyAt 27 = .ok (.iload_n 3, 1) := by decide +kernel
theorem dX1_partyAt_28 : decode cX1_partyAt 28 = .ok (.aaload, 1) := by decide +kernel
theorem dX1_partyAt_29 : decode cX1_partyAt 29 = .ok (.getfield 118, 3) := by decide +kernel
theorem dX1_partyAt_32 : decode cX1_partyAt 32 = .ok (.iload_n 2, 1) := by decide +kernel
theorem dX1_partyAt_33 : decode cX1_partyAt 33 = .ok (.invokestatic 121, 3) := by decide +kernel
theorem dX1_partyAt_36 : decode cX1_partyAt 36 = .ok (.ifCond .eq 5, 3) := by decide +kernel
theorem dX1_partyAt_39 : decode cX1_partyAt 39 = .ok (.iload_n 3, 1) := by decide +kernel
theorem dX1_partyAt_40 : decode cX1_partyAt 40 = .ok (.ireturn, 1) := by decide +kernel
theorem dX1_partyAt_41 : decode cX1_partyAt 41 = .ok (.iinc 3 1, 3) := by decide +kernel
theorem dX1_partyAt_44 : decode cX1_partyAt 44 = .ok (.goto (-42), 3) := by decide +kernel
theorem dX1_partyAt_47 : decode cX1_partyAt 47 = .ok (.iconst (-1), 1) := by decide +kernel
theorem dX1_partyAt_48 : decode cX1_partyAt 48 = .ok (.ireturn, 1) := by decide +kernel
theorem dX1_powerUsed_0 : decode cX1_powerUsed 0 = .ok (.iconst 0, 1) := by decide +kernel
theorem dX1_powerUsed_1 : decode cX1_powerUsed 1 = .ok (.istore 4, 2) := by decide +kernel
theorem dX1_powerUsed_3 : decode cX1_powerUsed 3 = .ok (.iconst 0, 1) := by decide +kernel
theorem dX1_powerUsed_4 : decode cX1_powerUsed 4 = .ok (.istore 5, 2) := by decide +kernel
theorem dX1_powerUsed_6 : decode cX1_powerUsed 6 = .ok (.iload 5, 2) := by decide +kernel
theorem dX1_powerUsed_8 : decode cX1_powerUsed 8 = .ok (.aload_n 0, 1) := by decide +kernel
theorem dX1_powerUsed_9 : decode cX1_powerUsed 9 = .ok (.getfield 47, 3) := by decide +kernel
theorem dX1_powerUsed_12 : decode cX1_powerUsed 12 = .ok (.if_icmp .ge 67, 3) := by decide +kernel
theorem dX1_powerUsed_15 : decode cX1_powerUsed 15 = .ok (.aload_n 0, 1) := by decide +kernel
theorem dX1_powerUsed_16 : decode cX1_powerUsed 16 = .ok (.getfield 20, 3) := by decide +kernel
theorem dX1_powerUsed_19 : decode cX1_powerUsed 19 = .ok (.iload 5, 2) := by decide +kernel
theorem dX1_powerUsed_21 : decode cX1_powerUsed 21 = .ok (.aaload, 1) := by decide +kernel
theorem dX1_powerUsed_22 : decode cX1_powerUsed 22 = .ok (.astore 6, 2) := by decide +kernel
theorem dX1_powerUsed_24 : decode cX1_powerUsed 24 = .ok (.iload 5, 2) := by decide +kernel
theorem dX1_powerUsed_26 : decode cX1_powerUsed 26 = .ok (.iload_n 3, 1) := by decide +kernel
theorem dX1_powerUsed_27 : decode cX1_powerUsed 27 = .ok (.if_icmp .eq 46, 3) := by decide +kernel
theorem dX1_powerUsed_30 : decode cX1_powerUsed 30 = .ok (.aload 6, 2) := by decide +kernel
theorem dX1_powerUsed_32 : decode cX1_powerUsed 32 = .ok (.getfield 82, 3) := by decide +kernel
theorem dX1_powerUsed_35 : decode cX1_powerUsed 35 = .ok (.ifCond .eq 38, 3) := by decide +kernel
theorem dX1_powerUsed_38 : decode cX1_powerUsed 38 = .ok (.aload 6, 2) := by decide +kernel
theorem dX1_powerUsed_40 : decode cX1_powerUsed 40 = .ok (.getfield 118, 3) := by decide +kernel
theorem dX1_powerUsed_43 : decode cX1_powerUsed 43 = .ok (.iload_n 2, 1) := by decide +kernel
theorem dX1_powerUsed_44 : decode cX1_powerUsed 44 = .ok (.invokestatic 121, 3) := by decide +kernel
theorem dX1_powerUsed_47 : decode cX1_powerUsed 47 = .ok (.ifCond .eq 26, 3) := by decide +kernel
theorem dX1_powerUsed_50 : decode cX1_powerUsed 50 = .ok (.aload_n 0, 1) := by decide +kernel
theorem dX1_powerUsed_51 : decode cX1_powerUsed 51 = .ok (.aload 6, 2) := by decide +kernel
theorem dX1_powerUsed_53 : decode cX1_powerUsed 53 = .ok (.getfield 99, 3) := by decide +kernel
theorem dX1_powerUsed_56 : decode cX1_powerUsed 56 = .ok (.invokevirtual 125, 3) := by decide +kernel
theorem dX1_powerUsed_59 : decode cX1_powerUsed 59 = .ok (.iload_n 1, 1) := by decide +kernel
theorem dX1_powerUsed_60 : decode cX1_powerUsed 60 = .ok (.if_icmp .ne 13, 3) := by decide +kernel
theorem dX1_powerUsed_63 : decode cX1_powerUsed 63 = .ok (.iload 4, 2) := by decide +kernel
theorem dX1_powerUsed_65 : decode cX1_powerUsed 65 = .ok (.aload 6, 2) := by decide +kernel
theorem dX1_powerUsed_67 : decode cX1_powerUsed 67 = .ok (.getfield 106, 3) := by decide +kernel
theorem dX1_powerUsed_70 : decode cX1_powerUsed 70 = .ok (.iadd, 1) := by decide +kernel
theorem dX1_powerUsed_71 : decode cX1_powerUsed 71 = .ok (.istore 4, 2) := by decide +kernel
theorem dX1_powerUsed_73 : decode cX1_powerUsed 73 = .ok (.iinc 5 1, 3) := by decide +kernel
theorem dX1_powerUsed_76 : decode cX1_powerUsed 76 = .ok (.goto (-70), 3) := by decide +kernel
theorem dX1_powerUsed_79 : decode cX1_powerUsed 79 = .ok (.iload 4, 2) := by decide +kernel
theorem dX1_powerUsed_81 : decode cX1_powerUsed 81 = .ok (.ireturn, 1) := by decide +kernel
theorem dX1_stayAsked_0 : decode cX1_stayAsked 0 = .ok (.iconst 1, 1) := by decide +kernel
theorem dX1_stayAsked_1 : decode cX1_stayAsked 1 = .ok (.istore_n 3, 1) := by decide +kernel
theorem dX1_stayAsked_2 : decode cX1_stayAsked 2 = .ok (.iconst 0, 1) := by decide +kernel
theorem dX1_stayAsked_3 : decode cX1_stayAsked 3 = .ok (.istore 4, 2) := by decide +kernel
theorem dX1_stayAsked_5 : decode cX1_stayAsked 5 = .ok (.iload 4, 2) := by decide +kernel
theorem dX1_stayAsked_7 : decode cX1_stayAsked 7 = .ok (.aload_n 0, 1) := by decide +kernel
theorem dX1_stayAsked_8 : decode cX1_stayAsked 8 = .ok (.getfield 53, 3) := by decide +kernel
theorem dX1_stayAsked_11 : decode cX1_stayAsked 11 = .ok (.if_icmp .ge 65, 3) := by decide +kernel
theorem dX1_stayAsked_14 : decode cX1_stayAsked 14 = .ok (.aload_n 0, 1) := by decide +kernel
theorem dX1_stayAsked_15 : decode cX1_stayAsked 15 = .ok (.getfield 27, 3) := by decide +kernel
theorem dX1_stayAsked_18 : decode cX1_stayAsked 18 = .ok (.iload 4, 2) := by decide +kernel
theorem dX1_stayAsked_20 : decode cX1_stayAsked 20 = .ok (.aaload, 1) := by decide +kernel
theorem dX1_stayAsked_21 : decode cX1_stayAsked 21 = .ok (.astore 5, 2) := by decide +kernel
theorem dX1_stayAsked_23 : decode cX1_stayAsked 23 = .ok (.iload_n 1, 1) := by decide +kernel
theorem dX1_stayAsked_24 : decode cX1_stayAsked 24 = .ok (.aload 5, 2) := by decide +kernel
theorem dX1_stayAsked_26 : decode cX1_stayAsked 26 = .ok (.getfield 93, 3) := by decide +kernel
theorem dX1_stayAsked_29 : decode cX1_stayAsked 29 = .ok (.if_icmp .gt 18, 3) := by decide +kernel
theorem dX1_stayAsked_32 : decode cX1_stayAsked 32 = .ok (.iload_n 1, 1) := by decide +kernel
theorem dX1_stayAsked_33 : decode cX1_stayAsked 33 = .ok (.iload_n 2, 1) := by decide +kernel
theorem dX1_stayAsked_34 : decode cX1_stayAsked 34 = .ok (.iadd, 1) := by decide +kernel
theorem dX1_stayAsked_35 : decode cX1_stayAsked 35 = .ok (.aload 5, 2) := by decide +kernel
theorem dX1_stayAsked_37 : decode cX1_stayAsked 37 = .ok (.getfield 92, 3) := by decide +kernel
theorem dX1_stayAsked_40 : decode cX1_stayAsked 40 = .ok (.if_icmp .le 7, 3) := by decide +kernel
theorem dX1_stayAsked_43 : decode cX1_stayAsked 43 = .ok (.iconst 1, 1) := by decide +kernel
theorem dX1_stayAsked_44 : decode cX1_stayAsked 44 = .ok (.goto 4, 3) := by decide +kernel
theorem dX1_stayAsked_47 : decode cX1_stayAsked 47 = .ok (.iconst 0, 1) := by decide +kernel
theorem dX1_stayAsked_48 : decode cX1_stayAsked 48 = .ok (.istore 6, 2) := by decide +kernel
theorem dX1_stayAsked_50 : decode cX1_stayAsked 50 = .ok (.iload 6, 2) := by decide +kernel
theorem dX1_stayAsked_52 : decode cX1_stayAsked 52 = .ok (.ifCond .eq 18, 3) := by decide +kernel
theorem dX1_stayAsked_55 : decode cX1_stayAsked 55 = .ok (.aload 5, 2) := by decide +kernel
theorem dX1_stayAsked_57 : decode cX1_stayAsked 57 = .ok (.getfield 96, 3) := by decide +kernel
theorem dX1_stayAsked_60 : decode cX1_stayAsked 60 = .ok (.iload_n 3, 1) := by decide +kernel
theorem dX1_stayAsked_61 : decode cX1_stayAsked 61 = .ok (.if_icmp .le 9, 3) := by decide +kernel
theorem dX1_stayAsked_64 : decode cX1_stayAsked 64 = .ok (.aload 5, 2) := by decide +kernel
theorem dX1_stayAsked_66 : decode cX1_stayAsked 66 = .ok (.getfield 96, 3) := by decide +kernel
theorem dX1_stayAsked_69 : decode cX1_stayAsked 69 = .ok (.istore_n 3, 1) := by decide +kernel
theorem dX1_stayAsked_70 : decode cX1_stayAsked 70 = .ok (.iinc 4 1, 3) := by decide +kernel
theorem dX1_stayAsked_73 : decode cX1_stayAsked 73 = .ok (.goto (-68), 3) := by decide +kernel
theorem dX1_stayAsked_76 : decode cX1_stayAsked 76 = .ok (.iload_n 3, 1) := by decide +kernel
theorem dX1_stayAsked_77 : decode cX1_stayAsked 77 = .ok (.ireturn, 1) := by decide +kernel
theorem dX1_isTooShort_0 : decode cX1_isTooShort 0 = .ok (.lload_n 2, 1) := by decide +kernel
theorem dX1_isTooShort_1 : decode cX1_isTooShort 1 = .ok (.aload_n 1, 1) := by decide +kernel
theorem dX1_isTooShort_2 : decode cX1_isTooShort 2 = .ok (.getfield 86, 3) := by decide +kernel
theorem dX1_isTooShort_5 : decode cX1_isTooShort 5 = .ok (.iconst 1, 1) := by decide +kernel
theorem dX1_isTooShort_6 : decode cX1_isTooShort 6 = .ok (.isub, 1) := by decide +kernel
theorem dX1_isTooShort_7 : decode cX1_isTooShort 7 = .ok (.invokestatic 121, 3) := by decide +kernel
theorem dX1_isTooShort_10 : decode cX1_isTooShort 10 = .ok (.ifCond .eq 23, 3) := by decide +kernel
theorem dX1_isTooShort_13 : decode cX1_isTooShort 13 = .ok (.lload_n 2, 1) := by decide +kernel
theorem dX1_isTooShort_14 : decode cX1_isTooShort 14 = .ok (.aload_n 1, 1) := by decide +kernel
theorem dX1_isTooShort_15 : decode cX1_isTooShort 15 = .ok (.getfield 86, 3) := by decide +kernel
theorem dX1_isTooShort_18 : decode cX1_isTooShort 18 = .ok (.aload_n 1, 1) := by decide +kernel
theorem dX1_isTooShort_19 : decode cX1_isTooShort 19 = .ok (.getfield 109, 3) := by decide +kernel
theorem dX1_isTooShort_22 : decode cX1_isTooShort 22 = .ok (.iadd, 1) := by decide +kernel
theorem dX1_isTooShort_23 : decode cX1_isTooShort 23 = .ok (.invokestatic 121, 3) := by decide +kernel
theorem dX1_isTooShort_26 : decode cX1_isTooShort 26 = .ok (.ifCond .eq 7, 3) := by decide +kernel
theorem dX1_isTooShort_29 : decode cX1_isTooShort 29 = .ok (.iconst 1, 1) := by decide +kernel
theorem dX1_isTooShort_30 : decode cX1_isTooShort 30 = .ok (.goto 4, 3) := by decide +kernel
theorem dX1_isTooShort_33 : decode cX1_isTooShort 33 = .ok (.iconst 0, 1) := by decide +kernel
theorem dX1_isTooShort_34 : decode cX1_isTooShort 34 = .ok (.istore 4, 2) := by decide +kernel
theorem dX1_isTooShort_36 : decode cX1_isTooShort 36 = .ok (.iload 4, 2) := by decide +kernel
theorem dX1_isTooShort_38 : decode cX1_isTooShort 38 = .ok (.ifCond .ne 26, 3) := by decide +kernel
theorem dX1_isTooShort_41 : decode cX1_isTooShort 41 = .ok (.aload_n 1, 1) := by decide +kernel
theorem dX1_isTooShort_42 : decode cX1_isTooShort 42 = .ok (.getfield 109, 3) := by decide +kernel
theorem dX1_isTooShort_45 : decode cX1_isTooShort 45 = .ok (.aload_n 0, 1) := by decide +kernel
theorem dX1_isTooShort_46 : decode cX1_isTooShort 46 = .ok (.aload_n 1, 1) := by decide +kernel
theorem dX1_isTooShort_47 : decode cX1_isTooShort 47 = .ok (.getfield 86, 3) := by decide +kernel
theorem dX1_isTooShort_50 : decode cX1_isTooShort 50 = .ok (.aload_n 1, 1) := by decide +kernel
theorem dX1_isTooShort_51 : decode cX1_isTooShort 51 = .ok (.getfield 109, 3) := by decide +kernel
theorem dX1_isTooShort_54 : decode cX1_isTooShort 54 = .ok (.invokevirtual 128, 3) := by decide +kernel
theorem dX1_isTooShort_57 : decode cX1_isTooShort 57 = .ok (.if_icmp .ge 7, 3) := by decide +kernel
theorem dX1_isTooShort_60 : decode cX1_isTooShort 60 = .ok (.iconst 1, 1) := by decide +kernel
theorem dX1_isTooShort_61 : decode cX1_isTooShort 61 = .ok (.goto 4, 3) := by decide +kernel
theorem dX1_isTooShort_64 : decode cX1_isTooShort 64 = .ok (.iconst 0, 1) := by decide +kernel
theorem dX1_isTooShort_65 : decode cX1_isTooShort 65 = .ok (.ireturn, 1) := by decide +kernel
theorem dX1_gapEdges_0 : decode cX1_gapEdges 0 = .ok (.lconst 0, 1) := by decide +kernel
theorem dX1_gapEdges_1 : decode cX1_gapEdges 1 = .ok (.lstore_n 3, 1) := by decide +kernel
theorem dX1_gapEdges_2 : decode cX1_gapEdges 2 = .ok (.lload_n 1, 1) := by decide +kernel
theorem dX1_gapEdges_3 : decode cX1_gapEdges 3 = .ok (.lstore 5, 2) := by decide +kernel
theorem dX1_gapEdges_5 : decode cX1_gapEdges 5 = .ok (.iconst 1, 1) := by decide +kernel
theorem dX1_gapEdges_6 : decode cX1_gapEdges 6 = .ok (.istore 7, 2) := by decide +kernel
theorem dX1_gapEdges_8 : decode cX1_gapEdges 8 = .ok (.iload 7, 2) := by decide +kernel
theorem dX1_gapEdges_10 : decode cX1_gapEdges 10 = .ok (.aload_n 0, 1) := by decide +kernel
theorem dX1_gapEdges_11 : decode cX1_gapEdges 11 = .ok (.getfield 36, 3) := by decide +kernel
theorem dX1_gapEdges_14 : decode cX1_gapEdges 14 = .ok (.if_icmp .gt 34, 3) := by decide +kernel
theorem dX1_gapEdges_17 : decode cX1_gapEdges 17 = .ok (.lload 5, 2) := by decide +kernel
theorem dX1_gapEdges_19 : decode cX1_gapEdges 19 = .ok (.lload_n 1, 1) := by decide +kernel
theorem dX1_gapEdges_20 : decode cX1_gapEdges 20 = .ok (.iload 7, 2) := by decide +kernel
theorem dX1_gapEdges_22 : decode cX1_gapEdges 22 = .ok (.lushr, 1) := by decide +kernel
theorem dX1_gapEdges_23 : decode cX1_gapEdges 23 = .ok (.ldc2_w 132, 3) := by decide +kernel
theorem dX1_gapEdges_26 : decode cX1_gapEdges 26 = .ok (.lxor, 1) := by decide +kernel
theorem dX1_gapEdges_27 : decode cX1_gapEdges 27 = .ok (.land, 1) := by decide +kernel
theorem dX1_gapEdges_28 : decode cX1_gapEdges 28 = .ok (.lstore 5, 2) := by decide +kernel
theorem dX1_gapEdges_30 : decode cX1_gapEdges 30 = .ok (.lload_n 3, 1) := by decide +kernel
theorem dX1_gapEdges_31 : decode cX1_gapEdges 31 = .ok (.lload 5, 2) := by decide +kernel
theorem dX1_gapEdges_33 : decode cX1_gapEdges 33 = .ok (.lload_n 1, 1) := by decide +kernel
theorem dX1_gapEdges_34 : decode cX1_gapEdges 34 = .ok (.iload 7, 2) := by decide +kernel
theorem dX1_gapEdges_36 : decode cX1_gapEdges 36 = .ok (.iconst 1, 1) := by decide +kernel
theorem dX1_gapEdges_37 : decode cX1_gapEdges 37 = .ok (.iadd, 1) := by decide +kernel
theorem dX1_gapEdges_38 : decode cX1_gapEdges 38 = .ok (.lushr, 1) := by decide +kernel
theorem dX1_gapEdges_39 : decode cX1_gapEdges 39 = .ok (.land, 1) := by decide +kernel
theorem dX1_gapEdges_40 : decode cX1_gapEdges 40 = .ok (.lor, 1) := by decide +kernel
theorem dX1_gapEdges_41 : decode cX1_gapEdges 41 = .ok (.lstore_n 3, 1) := by decide +kernel
theorem dX1_gapEdges_42 : decode cX1_gapEdges 42 = .ok (.iinc 7 1, 3) := by decide +kernel
theorem dX1_gapEdges_45 : decode cX1_gapEdges 45 = .ok (.goto (-37), 3) := by decide +kernel
theorem dX1_gapEdges_48 : decode cX1_gapEdges 48 = .ok (.lload_n 3, 1) := by decide +kernel
theorem dX1_gapEdges_49 : decode cX1_gapEdges 49 = .ok (.lreturn, 1) := by decide +kernel
theorem dX1_countGaps_0 : decode cX1_countGaps 0 = .ok (.aload_n 0, 1) := by decide +kernel
theorem dX1_countGaps_1 : decode cX1_countGaps 1 = .ok (.lload_n 1, 1) := by decide +kernel
theorem dX1_countGaps_2 : decode cX1_countGaps 2 = .ok (.invokevirtual 134, 3) := by decide +kernel
theorem dX1_countGaps_5 : decode cX1_countGaps 5 = .ok (.invokestatic 138, 3) := by decide +kernel
theorem dX1_countGaps_8 : decode cX1_countGaps 8 = .ok (.ireturn, 1) := by decide +kernel
theorem dX1_obstacleOf_0 : decode cX1_obstacleOf 0 = .ok (.aload_n 0, 1) := by decide +kernel
theorem dX1_obstacleOf_1 : decode cX1_obstacleOf 1 = .ok (.aload_n 1, 1) := by decide +kernel
theorem dX1_obstacleOf_2 : decode cX1_obstacleOf 2 = .ok (.iload_n 3, 1) := by decide +kernel
theorem dX1_obstacleOf_3 : decode cX1_obstacleOf 3 = .ok (.invokevirtual 144, 3) := by decide +kernel
theorem dX1_obstacleOf_6 : decode cX1_obstacleOf 6 = .ok (.ifCond .ne 5, 3) := by decide +kernel
theorem dX1_obstacleOf_9 : decode cX1_obstacleOf 9 = .ok (.iconst 1, 1) := by decide +kernel
theorem dX1_obstacleOf_10 : decode cX1_obstacleOf 10 = .ok (.ireturn, 1) := by decide +kernel
theorem dX1_obstacleOf_11 : decode cX1_obstacleOf 11 = .ok (.aload_n 0, 1) := by decide +kernel
theorem dX1_obstacleOf_12 : decode cX1_obstacleOf 12 = .ok (.iload_n 3, 1) := by decide +kernel
theorem dX1_obstacleOf_13 : decode cX1_obstacleOf 13 = .ok (.iload_n 2, 1) := by decide +kernel
theorem dX1_obstacleOf_14 : decode cX1_obstacleOf 14 = .ok (.invokevirtual 148, 3) := by decide +kernel
theorem dX1_obstacleOf_17 : decode cX1_obstacleOf 17 = .ok (.lstore 4, 2) := by decide +kernel
theorem dX1_obstacleOf_19 : decode cX1_obstacleOf 19 = .ok (.lload 4, 2) := by decide +kernel
theorem dX1_obstacleOf_21 : decode cX1_obstacleOf 21 = .ok (.aload_n 1, 1) := by decide +kernel
theorem dX1_obstacleOf_22 : decode cX1_obstacleOf 22 = .ok (.getfield 118, 3) := by decide +kernel
theorem dX1_obstacleOf_25 : decode cX1_obstacleOf 25 = .ok (.land, 1) := by decide +kernel
theorem dX1_obstacleOf_26 : decode cX1_obstacleOf 26 = .ok (.lconst 0, 1) := by decide +kernel
theorem dX1_obstacleOf_27 : decode cX1_obstacleOf 27 = .ok (.lcmp, 1) := by decide +kernel
theorem dX1_obstacleOf_28 : decode cX1_obstacleOf 28 = .ok (.ifCond .eq 5, 3) := by decide +kernel
theorem dX1_obstacleOf_31 : decode cX1_obstacleOf 31 = .ok (.iconst 2, 1) := by decide +kernel
theorem dX1_obstacleOf_32 : decode cX1_obstacleOf 32 = .ok (.ireturn, 1) := by decide +kernel
theorem dX1_obstacleOf_33 : decode cX1_obstacleOf 33 = .ok (.aload_n 0, 1) := by decide +kernel
theorem dX1_obstacleOf_34 : decode cX1_obstacleOf 34 = .ok (.aload_n 1, 1) := by decide +kernel
theorem dX1_obstacleOf_35 : decode cX1_obstacleOf 35 = .ok (.iload_n 2, 1) := by decide +kernel
theorem dX1_obstacleOf_36 : decode cX1_obstacleOf 36 = .ok (.aload_n 0, 1) := by decide +kernel
theorem dX1_obstacleOf_37 : decode cX1_obstacleOf 37 = .ok (.iload_n 3, 1) := by decide +kernel
theorem dX1_obstacleOf_38 : decode cX1_obstacleOf 38 = .ok (.invokevirtual 125, 3) := by decide +kernel
theorem dX1_obstacleOf_41 : decode cX1_obstacleOf 41 = .ok (.invokevirtual 152, 3) := by decide +kernel
theorem dX1_obstacleOf_44 : decode cX1_obstacleOf 44 = .ok (.ifCond .eq 5, 3) := by decide +kernel
theorem dX1_obstacleOf_47 : decode cX1_obstacleOf 47 = .ok (.iconst 3, 1) := by decide +kernel
theorem dX1_obstacleOf_48 : decode cX1_obstacleOf 48 = .ok (.ireturn, 1) := by decide +kernel
theorem dX1_obstacleOf_49 : decode cX1_obstacleOf 49 = .ok (.aload_n 0, 1) := by decide +kernel
theorem dX1_obstacleOf_50 : decode cX1_obstacleOf 50 = .ok (.aload_n 1, 1) := by decide +kernel
theorem dX1_obstacleOf_51 : decode cX1_obstacleOf 51 = .ok (.lload 4, 2) := by decide +kernel
theorem dX1_obstacleOf_53 : decode cX1_obstacleOf 53 = .ok (.invokevirtual 156, 3) := by decide +kernel
theorem dX1_obstacleOf_56 : decode cX1_obstacleOf 56 = .ok (.ifCond .eq 5, 3) := by decide +kernel
theorem dX1_obstacleOf_59 : decode cX1_obstacleOf 59 = .ok (.iconst 4, 1) := by decide +kernel
theorem dX1_obstacleOf_60 : decode cX1_obstacleOf 60 = .ok (.ireturn, 1) := by decide +kernel
theorem dX1_obstacleOf_61 : decode cX1_obstacleOf 61 = .ok (.aload_n 0, 1) := by decide +kernel
theorem dX1_obstacleOf_62 : decode cX1_obstacleOf 62 = .ok (.lload 4, 2) := by decide +kernel
theorem dX1_obstacleOf_64 : decode cX1_obstacleOf 64 = .ok (.aload_n 1, 1) := by decide +kernel
theorem dX1_obstacleOf_65 : decode cX1_obstacleOf 65 = .ok (.getfield 118, 3) := by decide +kernel
theorem dX1_obstacleOf_68 : decode cX1_obstacleOf 68 = .ok (.lor, 1) := by decide +kernel
theorem dX1_obstacleOf_69 : decode cX1_obstacleOf 69 = .ok (.invokevirtual 160, 3) := by decide +kernel
theorem dX1_obstacleOf_72 : decode cX1_obstacleOf 72 = .ok (.aload_n 0, 1) := by decide +kernel
theorem dX1_obstacleOf_73 : decode cX1_obstacleOf 73 = .ok (.lload 4, 2) := by decide +kernel
theorem dX1_obstacleOf_75 : decode cX1_obstacleOf 75 = .ok (.invokevirtual 160, 3) := by decide +kernel
theorem dX1_obstacleOf_78 : decode cX1_obstacleOf 78 = .ok (.if_icmp .le 7, 3) := by decide +kernel
theorem dX1_obstacleOf_81 : decode cX1_obstacleOf 81 = .ok (.iconst 5, 1) := by decide +kernel
theorem dX1_obstacleOf_82 : decode cX1_obstacleOf 82 = .ok (.goto 4, 3) := by decide +kernel
theorem dX1_obstacleOf_85 : decode cX1_obstacleOf 85 = .ok (.iconst 0, 1) := by decide +kernel
theorem dX1_obstacleOf_86 : decode cX1_obstacleOf 86 = .ok (.ireturn, 1) := by decide +kernel
theorem dX1_isPowerShort_0 : decode cX1_isPowerShort 0 = .ok (.iload_n 3, 1) := by decide +kernel
theorem dX1_isPowerShort_1 : decode cX1_isPowerShort 1 = .ok (.invokestatic 163, 3) := by decide +kernel
theorem dX1_isPowerShort_4 : decode cX1_isPowerShort 4 = .ok (.ifCond .ne 5, 3) := by decide +kernel
theorem dX1_isPowerShort_7 : decode cX1_isPowerShort 7 = .ok (.iconst 0, 1) := by decide +kernel
theorem dX1_isPowerShort_8 : decode cX1_isPowerShort 8 = .ok (.ireturn, 1) := by decide +kernel
theorem dX1_isPowerShort_9 : decode cX1_isPowerShort 9 = .ok (.aload_n 1, 1) := by decide +kernel
theorem dX1_isPowerShort_10 : decode cX1_isPowerShort 10 = .ok (.getfield 86, 3) := by decide +kernel
theorem dX1_isPowerShort_13 : decode cX1_isPowerShort 13 = .ok (.istore 4, 2) := by decide +kernel
theorem dX1_isPowerShort_15 : decode cX1_isPowerShort 15 = .ok (.iload 4, 2) := by decide +kernel
theorem dX1_isPowerShort_17 : decode cX1_isPowerShort 17 = .ok (.aload_n 1, 1) := by decide +kernel
theorem dX1_isPowerShort_18 : decode cX1_isPowerShort 18 = .ok (.getfield 86, 3) := by decide +kernel
theorem dX1_isPowerShort_21 : decode cX1_isPowerShort 21 = .ok (.aload_n 1, 1) := by decide +kernel
theorem dX1_isPowerShort_22 : decode cX1_isPowerShort 22 = .ok (.getfield 109, 3) := by decide +kernel
theorem dX1_isPowerShort_25 : decode cX1_isPowerShort 25 = .ok (.iadd, 1) := by decide +kernel
theorem dX1_isPowerShort_26 : decode cX1_isPowerShort 26 = .ok (.if_icmp .ge 33, 3) := by decide +kernel
theorem dX1_isPowerShort_29 : decode cX1_isPowerShort 29 = .ok (.aload_n 0, 1) := by decide +kernel
theorem dX1_isPowerShort_30 : decode cX1_isPowerShort 30 = .ok (.iload_n 3, 1) := by decide +kernel
theorem dX1_isPowerShort_31 : decode cX1_isPowerShort 31 = .ok (.iload 4, 2) := by decide +kernel
theorem dX1_isPowerShort_33 : decode cX1_isPowerShort 33 = .ok (.iload_n 2, 1) := by decide +kernel
theorem dX1_isPowerShort_34 : decode cX1_isPowerShort 34 = .ok (.invokevirtual 166, 3) := by decide +kernel
theorem dX1_isPowerShort_37 : decode cX1_isPowerShort 37 = .ok (.aload_n 1, 1) := by decide +kernel
theorem dX1_isPowerShort_38 : decode cX1_isPowerShort 38 = .ok (.getfield 106, 3) := by decide +kernel
theorem dX1_isPowerShort_41 : decode cX1_isPowerShort 41 = .ok (.iadd, 1) := by decide +kernel
theorem dX1_isPowerShort_42 : decode cX1_isPowerShort 42 = .ok (.aload_n 0, 1) := by decide +kernel
theorem dX1_isPowerShort_43 : decode cX1_isPowerShort 43 = .ok (.getfield 32, 3) := by decide +kernel
theorem dX1_isPowerShort_46 : decode cX1_isPowerShort 46 = .ok (.iload_n 3, 1) := by decide +kernel
theorem dX1_isPowerShort_47 : decode cX1_isPowerShort 47 = .ok (.iaload, 1) := by decide +kernel
theorem dX1_isPowerShort_48 : decode cX1_isPowerShort 48 = .ok (.if_icmp .le 5, 3) := by decide +kernel
theorem dX1_isPowerShort_51 : decode cX1_isPowerShort 51 = .ok (.iconst 1, 1) := by decide +kernel
theorem dX1_isPowerShort_52 : decode cX1_isPowerShort 52 = .ok (.ireturn, 1) := by decide +kernel
theorem dX1_isPowerShort_53 : decode cX1_isPowerShort 53 = .ok (.iinc 4 1, 3) := by decide +kernel
theorem dX1_isPowerShort_56 : decode cX1_isPowerShort 56 = .ok (.goto (-41), 3) := by decide +kernel
theorem dX1_isPowerShort_59 : decode cX1_isPowerShort 59 = .ok (.iconst 0, 1) := by decide +kernel
theorem dX1_isPowerShort_60 : decode cX1_isPowerShort 60 = .ok (.ireturn, 1) := by decide +kernel
theorem dX1_greatestObstacle_0 : decode cX1_greatestObstacle 0 = .ok (.iconst 1, 1) := by decide +kernel
theorem dX1_greatestObstacle_1 : decode cX1_greatestObstacle 1 = .ok (.istore_n 2, 1) := by decide +kernel
theorem dX1_greatestObstacle_2 : decode cX1_greatestObstacle 2 = .ok (.iconst 0, 1) := by decide +kernel
theorem dX1_greatestObstacle_3 : decode cX1_greatestObstacle 3 = .ok (.istore_n 3, 1) := by decide +kernel
theorem dX1_greatestObstacle_4 : decode cX1_greatestObstacle 4 = .ok (.iload_n 3, 1) := by decide +kernel
theorem dX1_greatestObstacle_5 : decode cX1_greatestObstacle 5 = .ok (.aload_n 0, 1) := by decide +kernel
theorem dX1_greatestObstacle_6 : decode cX1_greatestObstacle 6 = .ok (.getfield 40, 3) := by decide +kernel
theorem dX1_greatestObstacle_9 : decode cX1_greatestObstacle 9 = .ok (.if_icmp .ge 21, 3) := by decide +kernel
theorem dX1_greatestObstacle_12 : decode cX1_greatestObstacle 12 = .ok (.iload_n 2, 1) := by decide +kernel
theorem dX1_greatestObstacle_13 : decode cX1_greatestObstacle 13 = .ok (.aload_n 0, 1) := by decide +kernel
theorem dX1_greatestObstacle_14 : decode cX1_greatestObstacle 14 = .ok (.aload_n 1, 1) := by decide +kernel
theorem dX1_greatestObstacle_15 : decode cX1_greatestObstacle 15 = .ok (.iconst (-1), 1) := by decide +kernel
theorem dX1_greatestObstacle_16 : decode cX1_greatestObstacle 16 = .ok (.iload_n 3, 1) := by decide +kernel
theorem dX1_greatestObstacle_17 : decode cX1_greatestObstacle 17 = .ok (.invokevirtual 170, 3) := by decide +kernel
theorem dX1_greatestObstacle_20 : decode cX1_greatestObstacle 20 = .ok (.invokestatic 174, 3) := by decide +kernel
theorem dX1_greatestObstacle_23 : decode cX1_greatestObstacle 23 = .ok (.istore_n 2, 1) := by decide +kernel
theorem dX1_greatestObstacle_24 : decode cX1_greatestObstacle 24 = .ok (.iinc 3 1, 3) := by decide +kernel
theorem dX1_greatestObstacle_27 : decode cX1_greatestObstacle 27 = .ok (.goto (-23), 3) := by decide +kernel
theorem dX1_greatestObstacle_30 : decode cX1_greatestObstacle 30 = .ok (.iload_n 2, 1) := by decide +kernel
theorem dX1_greatestObstacle_31 : decode cX1_greatestObstacle 31 = .ok (.ireturn, 1) := by decide +kernel
theorem dX1_countArrivals_0 : decode cX1_countArrivals 0 = .ok (.iconst 0, 1) := by decide +kernel
theorem dX1_countArrivals_1 : decode cX1_countArrivals 1 = .ok (.istore_n 3, 1) := by decide +kernel
theorem dX1_countArrivals_2 : decode cX1_countArrivals 2 = .ok (.iconst 0, 1) := by decide +kernel
theorem dX1_countArrivals_3 : decode cX1_countArrivals 3 = .ok (.istore 4, 2) := by decide +kernel
theorem dX1_countArrivals_5 : decode cX1_countArrivals 5 = .ok (.iload 4, 2) := by decide +kernel
theorem dX1_countArrivals_7 : decode cX1_countArrivals 7 = .ok (.aload_n 0, 1) := by decide +kernel
theorem dX1_countArrivals_8 : decode cX1_countArrivals 8 = .ok (.getfield 47, 3) := by decide +kernel
theorem dX1_countArrivals_11 : decode cX1_countArrivals 11 = .ok (.if_icmp .ge 53, 3) := by decide +kernel
theorem dX1_countArrivals_14 : decode cX1_countArrivals 14 = .ok (.aload_n 0, 1) := by decide +kernel
theorem dX1_countArrivals_15 : decode cX1_countArrivals 15 = .ok (.getfield 20, 3) := by decide +kernel
theorem dX1_countArrivals_18 : decode cX1_countArrivals 18 = .ok (.iload 4, 2) := by decide +kernel
theorem dX1_countArrivals_20 : decode cX1_countArrivals 20 = .ok (.aaload, 1) := by decide +kernel
theorem dX1_countArrivals_21 : decode cX1_countArrivals 21 = .ok (.getfield 82, 3) := by decide +kernel
theorem dX1_countArrivals_24 : decode cX1_countArrivals 24 = .ok (.ifCond .eq 34, 3) := by decide +kernel
theorem dX1_countArrivals_27 : decode cX1_countArrivals 27 = .ok (.aload_n 0, 1) := by decide +kernel
theorem dX1_countArrivals_28 : decode cX1_countArrivals 28 = .ok (.getfield 20, 3) := by decide +kernel
theorem dX1_countArrivals_31 : decode cX1_countArrivals 31 = .ok (.iload 4, 2) := by decide +kernel
theorem dX1_countArrivals_33 : decode cX1_countArrivals 33 = .ok (.aaload, 1) := by decide +kernel
theorem dX1_countArrivals_34 : decode cX1_countArrivals 34 = .ok (.getfield 86, 3) := by decide +kernel
theorem dX1_countArrivals_37 : decode cX1_countArrivals 37 = .ok (.iload_n 1, 1) := by decide +kernel
theorem dX1_countArrivals_38 : decode cX1_countArrivals 38 = .ok (.if_icmp .lt 20, 3) := by decide +kernel
theorem dX1_countArrivals_41 : decode cX1_countArrivals 41 = .ok (.aload_n 0, 1) := by decide +kernel
theorem dX1_countArrivals_42 : decode cX1_countArrivals 42 = .ok (.getfield 20, 3) := by decide +kernel
theorem dX1_countArrivals_45 : decode cX1_countArrivals 45 = .ok (.iload 4, 2) := by decide +kernel
theorem dX1_countArrivals_47 : decode cX1_countArrivals 47 = .ok (.aaload, 1) := by decide +kernel
theorem dX1_countArrivals_48 : decode cX1_countArrivals 48 = .ok (.getfield 86, 3) := by decide +kernel
theorem dX1_countArrivals_51 : decode cX1_countArrivals 51 = .ok (.iload_n 2, 1) := by decide +kernel
theorem dX1_countArrivals_52 : decode cX1_countArrivals 52 = .ok (.if_icmp .ge 6, 3) := by decide +kernel
theorem dX1_countArrivals_55 : decode cX1_countArrivals 55 = .ok (.iinc 3 1, 3) := by decide +kernel
theorem dX1_countArrivals_58 : decode cX1_countArrivals 58 = .ok (.iinc 4 1, 3) := by decide +kernel
theorem dX1_countArrivals_61 : decode cX1_countArrivals 61 = .ok (.goto (-56), 3) := by decide +kernel
theorem dX1_countArrivals_64 : decode cX1_countArrivals 64 = .ok (.iload_n 3, 1) := by decide +kernel
theorem dX1_countArrivals_65 : decode cX1_countArrivals 65 = .ok (.ireturn, 1) := by decide +kernel
theorem dX1_countBooked_0 : decode cX1_countBooked 0 = .ok (.iconst 0, 1) := by decide +kernel
theorem dX1_countBooked_1 : decode cX1_countBooked 1 = .ok (.istore_n 1, 1) := by decide +kernel
theorem dX1_countBooked_2 : decode cX1_countBooked 2 = .ok (.iconst 0, 1) := by decide +kernel
theorem dX1_countBooked_3 : decode cX1_countBooked 3 = .ok (.istore_n 2, 1) := by decide +kernel
theorem dX1_countBooked_4 : decode cX1_countBooked 4 = .ok (.iload_n 2, 1) := by decide +kernel
theorem dX1_countBooked_5 : decode cX1_countBooked 5 = .ok (.aload_n 0, 1) := by decide +kernel
theorem dX1_countBooked_6 : decode cX1_countBooked 6 = .ok (.getfield 47, 3) := by decide +kernel
theorem dX1_countBooked_9 : decode cX1_countBooked 9 = .ok (.if_icmp .ge 24, 3) := by decide +kernel
theorem dX1_countBooked_12 : decode cX1_countBooked 12 = .ok (.aload_n 0, 1) := by decide +kernel
theorem dX1_countBooked_13 : decode cX1_countBooked 13 = .ok (.getfield 20, 3) := by decide +kernel
theorem dX1_countBooked_16 : decode cX1_countBooked 16 = .ok (.iload_n 2, 1) := by decide +kernel
theorem dX1_countBooked_17 : decode cX1_countBooked 17 = .ok (.aaload, 1) := by decide +kernel
theorem dX1_countBooked_18 : decode cX1_countBooked 18 = .ok (.getfield 82, 3) := by decide +kernel
theorem dX1_countBooked_21 : decode cX1_countBooked 21 = .ok (.ifCond .eq 6, 3) := by decide +kernel
theorem dX1_countBooked_24 : decode cX1_countBooked 24 = .ok (.iinc 1 1, 3) := by decide +kernel
theorem dX1_countBooked_27 : decode cX1_countBooked 27 = .ok (.iinc 2 1, 3) := by decide +kernel
theorem dX1_countBooked_30 : decode cX1_countBooked 30 = .ok (.goto (-26), 3) := by decide +kernel
theorem dX1_countBooked_33 : decode cX1_countBooked 33 = .ok (.iload_n 1, 1) := by decide +kernel
theorem dX1_countBooked_34 : decode cX1_countBooked 34 = .ok (.ireturn, 1) := by decide +kernel
theorem dX1_sumPrices_0 : decode cX1_sumPrices 0 = .ok (.iconst 0, 1) := by decide +kernel
theorem dX1_sumPrices_1 : decode cX1_sumPrices 1 = .ok (.istore_n 1, 1) := by decide +kernel
theorem dX1_sumPrices_2 : decode cX1_sumPrices 2 = .ok (.iconst 0, 1) := by decide +kernel
theorem dX1_sumPrices_3 : decode cX1_sumPrices 3 = .ok (.istore_n 2, 1) := by decide +kernel
theorem dX1_sumPrices_4 : decode cX1_sumPrices 4 = .ok (.iload_n 2, 1) := by decide +kernel
theorem dX1_sumPrices_5 : decode cX1_sumPrices 5 = .ok (.aload_n 0, 1) := by decide +kernel
theorem dX1_sumPrices_6 : decode cX1_sumPrices 6 = .ok (.getfield 47, 3) := by decide +kernel
theorem dX1_sumPrices_9 : decode cX1_sumPrices 9 = .ok (.if_icmp .ge 33, 3) := by decide +kernel
theorem dX1_sumPrices_12 : decode cX1_sumPrices 12 = .ok (.aload_n 0, 1) := by decide +kernel
theorem dX1_sumPrices_13 : decode cX1_sumPrices 13 = .ok (.getfield 20, 3) := by decide +kernel
theorem dX1_sumPrices_16 : decode cX1_sumPrices 16 = .ok (.iload_n 2, 1) := by decide +kernel
theorem dX1_sumPrices_17 : decode cX1_sumPrices 17 = .ok (.aaload, 1) := by decide +kernel
theorem dX1_sumPrices_18 : decode cX1_sumPrices 18 = .ok (.getfield 82, 3) := by decide +kernel
theorem dX1_sumPrices_21 : decode cX1_sumPrices 21 = .ok (.ifCond .eq 15, 3) := by decide +kernel
theorem dX1_sumPrices_24 : decode cX1_sumPrices 24 = .ok (.iload_n 1, 1) := by decide +kernel
theorem dX1_sumPrices_25 : decode cX1_sumPrices 25 = .ok (.aload_n 0, 1) := by decide +kernel
theorem dX1_sumPrices_26 : decode cX1_sumPrices 26 = .ok (.getfield 20, 3) := by decide +kernel
theorem dX1_sumPrices_29 : decode cX1_sumPrices 29 = .ok (.iload_n 2, 1) := by decide +kernel
theorem dX1_sumPrices_30 : decode cX1_sumPrices 30 = .ok (.aaload, 1) := by decide +kernel
theorem dX1_sumPrices_31 : decode cX1_sumPrices 31 = .ok (.getfield 112, 3) := by decide +kernel
theorem dX1_sumPrices_34 : decode cX1_sumPrices 34 = .ok (.iadd, 1) := by decide +kernel
theorem dX1_sumPrices_35 : decode cX1_sumPrices 35 = .ok (.istore_n 1, 1) := by decide +kernel
theorem dX1_sumPrices_36 : decode cX1_sumPrices 36 = .ok (.iinc 2 1, 3) := by decide +kernel
theorem dX1_sumPrices_39 : decode cX1_sumPrices 39 = .ok (.goto (-35), 3) := by decide +kernel
theorem dX1_sumPrices_42 : decode cX1_sumPrices 42 = .ok (.iload_n 1, 1) := by decide +kernel
theorem dX1_sumPrices_43 : decode cX1_sumPrices 43 = .ok (.ireturn, 1) := by decide +kernel
theorem dX1_sumFees_0 : decode cX1_sumFees 0 = .ok (.iconst 0, 1) := by decide +kernel
theorem dX1_sumFees_1 : decode cX1_sumFees 1 = .ok (.istore_n 1, 1) := by decide +kernel
theorem dX1_sumFees_2 : decode cX1_sumFees 2 = .ok (.iconst 0, 1) := by decide +kernel
theorem dX1_sumFees_3 : decode cX1_sumFees 3 = .ok (.istore_n 2, 1) := by decide +kernel
theorem dX1_sumFees_4 : decode cX1_sumFees 4 = .ok (.iload_n 2, 1) := by decide +kernel
theorem dX1_sumFees_5 : decode cX1_sumFees 5 = .ok (.aload_n 0, 1) := by decide +kernel
theorem dX1_sumFees_6 : decode cX1_sumFees 6 = .ok (.getfield 47, 3) := by decide +kernel
theorem dX1_sumFees_9 : decode cX1_sumFees 9 = .ok (.if_icmp .ge 21, 3) := by decide +kernel
theorem dX1_sumFees_12 : decode cX1_sumFees 12 = .ok (.iload_n 1, 1) := by decide +kernel
theorem dX1_sumFees_13 : decode cX1_sumFees 13 = .ok (.aload_n 0, 1) := by decide +kernel
theorem dX1_sumFees_14 : decode cX1_sumFees 14 = .ok (.getfield 20, 3) := by decide +kernel
theorem dX1_sumFees_17 : decode cX1_sumFees 17 = .ok (.iload_n 2, 1) := by decide +kernel
theorem dX1_sumFees_18 : decode cX1_sumFees 18 = .ok (.aaload, 1) := by decide +kernel
theorem dX1_sumFees_19 : decode cX1_sumFees 19 = .ok (.getfield 179, 3) := by decide +kernel
theorem dX1_sumFees_22 : decode cX1_sumFees 22 = .ok (.iadd, 1) := by decide +kernel
theorem dX1_sumFees_23 : decode cX1_sumFees 23 = .ok (.istore_n 1, 1) := by decide +kernel
theorem dX1_sumFees_24 : decode cX1_sumFees 24 = .ok (.iinc 2 1, 3) := by decide +kernel
theorem dX1_sumFees_27 : decode cX1_sumFees 27 = .ok (.goto (-23), 3) := by decide +kernel
theorem dX1_sumFees_30 : decode cX1_sumFees 30 = .ok (.iload_n 1, 1) := by decide +kernel
theorem dX1_sumFees_31 : decode cX1_sumFees 31 = .ok (.ireturn, 1) := by decide +kernel
theorem dX1_countAllGaps_0 : decode cX1_countAllGaps 0 = .ok (.iconst 0, 1) := by decide +kernel
theorem dX1_countAllGaps_1 : decode cX1_countAllGaps 1 = .ok (.istore_n 1, 1) := by decide +kernel
theorem dX1_countAllGaps_2 : decode cX1_countAllGaps 2 = .ok (.iconst 0, 1) := by decide +kernel
theorem dX1_countAllGaps_3 : decode cX1_countAllGaps 3 = .ok (.istore_n 2, 1) := by decide +kernel
theorem dX1_countAllGaps_4 : decode cX1_countAllGaps 4 = .ok (.iload_n 2, 1) := by decide +kernel
theorem dX1_countAllGaps_5 : decode cX1_countAllGaps 5 = .ok (.aload_n 0, 1) := by decide +kernel
theorem dX1_countAllGaps_6 : decode cX1_countAllGaps 6 = .ok (.getfield 40, 3) := by decide +kernel
theorem dX1_countAllGaps_9 : decode cX1_countAllGaps 9 = .ok (.if_icmp .ge 22, 3) := by decide +kernel
theorem dX1_countAllGaps_12 : decode cX1_countAllGaps 12 = .ok (.iload_n 1, 1) := by decide +kernel
theorem dX1_countAllGaps_13 : decode cX1_countAllGaps 13 = .ok (.aload_n 0, 1) := by decide +kernel
theorem dX1_countAllGaps_14 : decode cX1_countAllGaps 14 = .ok (.aload_n 0, 1) := by decide +kernel
theorem dX1_countAllGaps_15 : decode cX1_countAllGaps 15 = .ok (.iload_n 2, 1) := by decide +kernel
theorem dX1_countAllGaps_16 : decode cX1_countAllGaps 16 = .ok (.iconst (-1), 1) := by decide +kernel
theorem dX1_countAllGaps_17 : decode cX1_countAllGaps 17 = .ok (.invokevirtual 148, 3) := by decide +kernel
theorem dX1_countAllGaps_20 : decode cX1_countAllGaps 20 = .ok (.invokevirtual 160, 3) := by decide +kernel
theorem dX1_countAllGaps_23 : decode cX1_countAllGaps 23 = .ok (.iadd, 1) := by decide +kernel
theorem dX1_countAllGaps_24 : decode cX1_countAllGaps 24 = .ok (.istore_n 1, 1) := by decide +kernel
theorem dX1_countAllGaps_25 : decode cX1_countAllGaps 25 = .ok (.iinc 2 1, 3) := by decide +kernel
theorem dX1_countAllGaps_28 : decode cX1_countAllGaps 28 = .ok (.goto (-24), 3) := by decide +kernel
theorem dX1_countAllGaps_31 : decode cX1_countAllGaps 31 = .ok (.iload_n 1, 1) := by decide +kernel
theorem dX1_countAllGaps_32 : decode cX1_countAllGaps 32 = .ok (.ireturn, 1) := by decide +kernel
theorem dX1_countAllBusyNights_0 : decode cX1_countAllBusyNights 0 = .ok (.iconst 0, 1) := by decide +kernel
theorem dX1_countAllBusyNights_1 : decode cX1_countAllBusyNights 1 = .ok (.istore_n 1, 1) := by decide +kernel
theorem dX1_countAllBusyNights_2 : decode cX1_countAllBusyNights 2 = .ok (.iconst 0, 1) := by decide +kernel
theorem dX1_countAllBusyNights_3 : decode cX1_countAllBusyNights 3 = .ok (.istore_n 2, 1) := by decide +kernel
theorem dX1_countAllBusyNights_4 : decode cX1_countAllBusyNights 4 = .ok (.iload_n 2, 1) := by decide +kernel
theorem dX1_countAllBusyNights_5 : decode cX1_countAllBusyNights 5 = .ok (.aload_n 0, 1) := by decide +kernel
theorem dX1_countAllBusyNights_6 : decode cX1_countAllBusyNights 6 = .ok (.getfield 40, 3) := by decide +kernel
theorem dX1_countAllBusyNights_9 : decode cX1_countAllBusyNights 9 = .ok (.if_icmp .ge 21, 3) := by decide +kernel
theorem dX1_countAllBusyNights_12 : decode cX1_countAllBusyNights 12 = .ok (.iload_n 1, 1) := by decide +kernel
theorem dX1_countAllBusyNights_13 : decode cX1_countAllBusyNights 13 = .ok (.aload_n 0, 1) := by decide +kernel
theorem dX1_countAllBusyNights_14 : decode cX1_countAllBusyNights 14 = .ok (.iload_n 2, 1) := by decide +kernel
theorem dX1_countAllBusyNights_15 : decode cX1_countAllBusyNights 15 = .ok (.iconst (-1), 1) := by decide +kernel
theorem dX1_countAllBusyNights_16 : decode cX1_countAllBusyNights 16 = .ok (.invokevirtual 148, 3) := by decide +kernel
theorem dX1_countAllBusyNights_19 : decode cX1_countAllBusyNights 19 = .ok (.invokestatic 138, 3) := by decide +kernel
theorem dX1_countAllBusyNights_22 : decode cX1_countAllBusyNights 22 = .ok (.iadd, 1) := by decide +kernel
theorem dX1_countAllBusyNights_23 : decode cX1_countAllBusyNights 23 = .ok (.istore_n 1, 1) := by decide +kernel
theorem dX1_countAllBusyNights_24 : decode cX1_countAllBusyNights 24 = .ok (.iinc 2 1, 3) := by decide +kernel
theorem dX1_countAllBusyNights_27 : decode cX1_countAllBusyNights 27 = .ok (.goto (-23), 3) := by decide +kernel
theorem dX1_countAllBusyNights_30 : decode cX1_countAllBusyNights 30 = .ok (.iload_n 1, 1) := by decide +kernel
theorem dX1_countAllBusyNights_31 : decode cX1_countAllBusyNights 31 = .ok (.ireturn, 1) := by decide +kernel
theorem dX2_init_0 : decode cX2_init 0 = .ok (.aload_n 0, 1) := by decide +kernel
theorem dX2_init_1 : decode cX2_init 1 = .ok (.invokespecial 3, 3) := by decide +kernel
theorem dX2_init_4 : decode cX2_init 4 = .ok (.aload_n 0, 1) := by decide +kernel
theorem dX2_init_5 : decode cX2_init 5 = .ok (.bipush 8, 2) := by decide +kernel
theorem dX2_init_7 : decode cX2_init 7 = .ok (.anewarray 9, 3) := by decide +kernel
theorem dX2_init_10 : decode cX2_init 10 = .ok (.putfield 11, 3) := by decide +kernel
theorem dX2_init_13 : decode cX2_init 13 = .ok (.iconst 0, 1) := by decide +kernel
theorem dX2_init_14 : decode cX2_init 14 = .ok (.istore_n 1, 1) := by decide +kernel
theorem dX2_init_15 : decode cX2_init 15 = .ok (.iload_n 1, 1) := by decide +kernel
theorem dX2_init_16 : decode cX2_init 16 = .ok (.aload_n 0, 1) := by decide +kernel
theorem dX2_init_17 : decode cX2_init 17 = .ok (.getfield 11, 3) := by decide +kernel
theorem dX2_init_20 : decode cX2_init 20 = .ok (.arraylength, 1) := by decide +kernel
theorem dX2_init_21 : decode cX2_init 21 = .ok (.if_icmp .ge 22, 3) := by decide +kernel
theorem dX2_init_24 : decode cX2_init 24 = .ok (.aload_n 0, 1) := by decide +kernel
theorem dX2_init_25 : decode cX2_init 25 = .ok (.getfield 11, 3) := by decide +kernel
theorem dX2_init_28 : decode cX2_init 28 = .ok (.iload_n 1, 1) := by decide +kernel
theorem dX2_init_29 : decode cX2_init 29 = .ok (.new 9, 3) := by decide +kernel
theorem dX2_init_32 : decode cX2_init 32 = .ok (.dup, 1) := by decide +kernel
theorem dX2_init_33 : decode cX2_init 33 = .ok (.invokespecial 17, 3) := by decide +kernel
theorem dX2_init_36 : decode cX2_init 36 = .ok (.aastore, 1) := by decide +kernel
theorem dX2_init_37 : decode cX2_init 37 = .ok (.iinc 1 1, 3) := by decide +kernel
theorem dX2_init_40 : decode cX2_init 40 = .ok (.goto (-25), 3) := by decide +kernel
theorem dX2_init_43 : decode cX2_init 43 = .ok (.return_, 1) := by decide +kernel
theorem dX2_keep_0 : decode cX2_keep 0 = .ok (.aload_n 0, 1) := by decide +kernel
theorem dX2_keep_1 : decode cX2_keep 1 = .ok (.getfield 11, 3) := by decide +kernel
theorem dX2_keep_4 : decode cX2_keep 4 = .ok (.aload_n 0, 1) := by decide +kernel
theorem dX2_keep_5 : decode cX2_keep 5 = .ok (.getfield 18, 3) := by decide +kernel
theorem dX2_keep_8 : decode cX2_keep 8 = .ok (.aaload, 1) := by decide +kernel
theorem dX2_keep_9 : decode cX2_keep 9 = .ok (.aload_n 1, 1) := by decide +kernel
theorem dX2_keep_10 : decode cX2_keep 10 = .ok (.invokevirtual 22, 3) := by decide +kernel
theorem dX2_keep_13 : decode cX2_keep 13 = .ok (.aload_n 0, 1) := by decide +kernel
theorem dX2_keep_14 : decode cX2_keep 14 = .ok (.aload_n 0, 1) := by decide +kernel
theorem dX2_keep_15 : decode cX2_keep 15 = .ok (.getfield 18, 3) := by decide +kernel
theorem dX2_keep_18 : decode cX2_keep 18 = .ok (.iconst 1, 1) := by decide +kernel
theorem dX2_keep_19 : decode cX2_keep 19 = .ok (.iadd, 1) := by decide +kernel
theorem dX2_keep_20 : decode cX2_keep 20 = .ok (.bipush 8, 2) := by decide +kernel
theorem dX2_keep_22 : decode cX2_keep 22 = .ok (.if_icmp .ge 12, 3) := by decide +kernel
theorem dX2_keep_25 : decode cX2_keep 25 = .ok (.aload_n 0, 1) := by decide +kernel
theorem dX2_keep_26 : decode cX2_keep 26 = .ok (.getfield 18, 3) := by decide +kernel
theorem dX2_keep_29 : decode cX2_keep 29 = .ok (.iconst 1, 1) := by decide +kernel
theorem dX2_keep_30 : decode cX2_keep 30 = .ok (.iadd, 1) := by decide +kernel
theorem dX2_keep_31 : decode cX2_keep 31 = .ok (.goto 4, 3) := by decide +kernel
theorem dX2_keep_34 : decode cX2_keep 34 = .ok (.iconst 0, 1) := by decide +kernel
theorem dX2_keep_35 : decode cX2_keep 35 = .ok (.putfield 18, 3) := by decide +kernel
theorem dX2_keep_38 : decode cX2_keep 38 = .ok (.aload_n 0, 1) := by decide +kernel
theorem dX2_keep_39 : decode cX2_keep 39 = .ok (.aload_n 0, 1) := by decide +kernel
theorem dX2_keep_40 : decode cX2_keep 40 = .ok (.getfield 26, 3) := by decide +kernel
theorem dX2_keep_43 : decode cX2_keep 43 = .ok (.iconst 1, 1) := by decide +kernel
theorem dX2_keep_44 : decode cX2_keep 44 = .ok (.iadd, 1) := by decide +kernel
theorem dX2_keep_45 : decode cX2_keep 45 = .ok (.bipush 8, 2) := by decide +kernel
theorem dX2_keep_47 : decode cX2_keep 47 = .ok (.invokestatic 29, 3) := by decide +kernel
theorem dX2_keep_50 : decode cX2_keep 50 = .ok (.putfield 26, 3) := by decide +kernel
theorem dX2_keep_53 : decode cX2_keep 53 = .ok (.return_, 1) := by decide +kernel
theorem dX2_takeBack_0 : decode cX2_takeBack 0 = .ok (.aload_n 0, 1) := by decide +kernel
theorem dX2_takeBack_1 : decode cX2_takeBack 1 = .ok (.aload_n 0, 1) := by decide +kernel
theorem dX2_takeBack_2 : decode cX2_takeBack 2 = .ok (.getfield 18, 3) := by decide +kernel
theorem dX2_takeBack_5 : decode cX2_takeBack 5 = .ok (.ifCond .le 12, 3) := by decide +kernel
theorem dX2_takeBack_8 : decode cX2_takeBack 8 = .ok (.aload_n 0, 1) := by decide +kernel
theorem dX2_takeBack_9 : decode cX2_takeBack 9 = .ok (.getfield 18, 3) := by decide +kernel
theorem dX2_takeBack_12 : decode cX2_takeBack 12 = .ok (.iconst 1, 1) := by decide +kernel
theorem dX2_takeBack_13 : decode cX2_takeBack 13 = .ok (.isub, 1) := by decide +kernel
theorem dX2_takeBack_14 : decode cX2_takeBack 14 = .ok (.goto 5, 3) := by decide +kernel
theorem dX2_takeBack_17 : decode cX2_takeBack 17 = .ok (.bipush 7, 2) := by decide +kernel
theorem dX2_takeBack_19 : decode cX2_takeBack 19 = .ok (.putfield 18, 3) := by decide +kernel
theorem dX2_takeBack_22 : decode cX2_takeBack 22 = .ok (.aload_n 1, 1) := by decide +kernel
theorem dX2_takeBack_23 : decode cX2_takeBack 23 = .ok (.aload_n 0, 1) := by decide +kernel
theorem dX2_takeBack_24 : decode cX2_takeBack 24 = .ok (.getfield 11, 3) := by decide +kernel
theorem dX2_takeBack_27 : decode cX2_takeBack 27 = .ok (.aload_n 0, 1) := by decide +kernel
theorem dX2_takeBack_28 : decode cX2_takeBack 28 = .ok (.getfield 18, 3) := by decide +kernel
theorem dX2_takeBack_31 : decode cX2_takeBack 31 = .ok (.aaload, 1) := by decide +kernel
theorem dX2_takeBack_32 : decode cX2_takeBack 32 = .ok (.invokevirtual 22, 3) := by decide +kernel
theorem dX2_takeBack_35 : decode cX2_takeBack 35 = .ok (.aload_n 0, 1) := by decide +kernel
theorem dX2_takeBack_36 : decode cX2_takeBack 36 = .ok (.dup, 1) := by decide +kernel
theorem dX2_takeBack_37 : decode cX2_takeBack 37 = .ok (.getfield 26, 3) := by decide +kernel
theorem dX2_takeBack_40 : decode cX2_takeBack 40 = .ok (.iconst 1, 1) := by decide +kernel
theorem dX2_takeBack_41 : decode cX2_takeBack 41 = .ok (.isub, 1) := by decide +kernel
theorem dX2_takeBack_42 : decode cX2_takeBack 42 = .ok (.putfield 26, 3) := by decide +kernel
theorem dX2_takeBack_45 : decode cX2_takeBack 45 = .ok (.return_, 1) := by decide +kernel
theorem dX3_init_0 : decode cX3_init 0 = .ok (.aload_n 0, 1) := by decide +kernel
theorem dX3_init_1 : decode cX3_init 1 = .ok (.invokespecial 3, 3) := by decide +kernel
theorem dX3_init_4 : decode cX3_init 4 = .ok (.return_, 1) := by decide +kernel
theorem dX3_describe_0 : decode cX3_describe 0 = .ok (.aload_n 0, 1) := by decide +kernel
theorem dX3_describe_1 : decode cX3_describe 1 = .ok (.iload_n 1, 1) := by decide +kernel
theorem dX3_describe_2 : decode cX3_describe 2 = .ok (.putfield 9, 3) := by decide +kernel
theorem dX3_describe_5 : decode cX3_describe 5 = .ok (.aload_n 0, 1) := by decide +kernel
theorem dX3_describe_6 : decode cX3_describe 6 = .ok (.iload_n 2, 1) := by decide +kernel
theorem dX3_describe_7 : decode cX3_describe 7 = .ok (.putfield 15, 3) := by decide +kernel
theorem dX3_describe_10 : decode cX3_describe 10 = .ok (.aload_n 0, 1) := by decide +kernel
theorem dX3_describe_11 : decode cX3_describe 11 = .ok (.iload_n 3, 1) := by decide +kernel
theorem dX3_describe_12 : decode cX3_describe 12 = .ok (.putfield 18, 3) := by decide +kernel
theorem dX3_describe_15 : decode cX3_describe 15 = .ok (.aload_n 0, 1) := by decide +kernel
theorem dX3_describe_16 : decode cX3_describe 16 = .ok (.iload 4, 2) := by decide +kernel
theorem dX3_describe_18 : decode cX3_describe 18 = .ok (.putfield 21, 3) := by decide +kernel
theorem dX3_describe_21 : decode cX3_describe 21 = .ok (.aload_n 0, 1) := by decide +kernel
theorem dX3_describe_22 : decode cX3_describe 22 = .ok (.iload 5, 2) := by decide +kernel
theorem dX3_describe_24 : decode cX3_describe 24 = .ok (.putfield 24, 3) := by decide +kernel
theorem dX3_describe_27 : decode cX3_describe 27 = .ok (.aload_n 0, 1) := by decide +kernel
theorem dX3_describe_28 : decode cX3_describe 28 = .ok (.iload 6, 2) := by decide +kernel
theorem dX3_describe_30 : decode cX3_describe 30 = .ok (.putfield 27, 3) := by decide +kernel
theorem dX3_describe_33 : decode cX3_describe 33 = .ok (.aload_n 0, 1) := by decide +kernel
theorem dX3_describe_34 : decode cX3_describe 34 = .ok (.iload 5, 2) := by decide +kernel
theorem dX3_describe_36 : decode cX3_describe 36 = .ok (.iload 6, 2) := by decide +kernel
theorem dX3_describe_38 : decode cX3_describe 38 = .ok (.invokestatic 30, 3) := by decide +kernel
theorem dX3_describe_41 : decode cX3_describe 41 = .ok (.putfield 34, 3) := by decide +kernel
theorem dX3_describe_44 : decode cX3_describe 44 = .ok (.aload_n 0, 1) := by decide +kernel
theorem dX3_describe_45 : decode cX3_describe 45 = .ok (.iconst (-1), 1) := by decide +kernel
theorem dX3_describe_46 : decode cX3_describe 46 = .ok (.putfield 38, 3) := by decide +kernel
theorem dX3_describe_49 : decode cX3_describe 49 = .ok (.aload_n 0, 1) := by decide +kernel
theorem dX3_describe_50 : decode cX3_describe 50 = .ok (.iconst 0, 1) := by decide +kernel
theorem dX3_describe_51 : decode cX3_describe 51 = .ok (.putfield 41, 3) := by decide +kernel
theorem dX3_describe_54 : decode cX3_describe 54 = .ok (.aload_n 0, 1) := by decide +kernel
theorem dX3_describe_55 : decode cX3_describe 55 = .ok (.iconst 0, 1) := by decide +kernel
theorem dX3_describe_56 : decode cX3_describe 56 = .ok (.putfield 44, 3) := by decide +kernel
theorem dX3_describe_59 : decode cX3_describe 59 = .ok (.aload_n 0, 1) := by decide +kernel
theorem dX3_describe_60 : decode cX3_describe 60 = .ok (.iconst 0, 1) := by decide +kernel
theorem dX3_describe_61 : decode cX3_describe 61 = .ok (.putfield 47, 3) := by decide +kernel
theorem dX3_describe_64 : decode cX3_describe 64 = .ok (.return_, 1) := by decide +kernel
theorem dX3_copyFrom_0 : decode cX3_copyFrom 0 = .ok (.aload_n 0, 1) := by decide +kernel
theorem dX3_copyFrom_1 : decode cX3_copyFrom 1 = .ok (.aload_n 1, 1) := by decide +kernel
theorem dX3_copyFrom_2 : decode cX3_copyFrom 2 = .ok (.getfield 9, 3) := by decide +kernel
theorem dX3_copyFrom_5 : decode cX3_copyFrom 5 = .ok (.putfield 9, 3) := by decide +kernel
theorem dX3_copyFrom_8 : decode cX3_copyFrom 8 = .ok (.aload_n 0, 1) := by decide +kernel
theorem dX3_copyFrom_9 : decode cX3_copyFrom 9 = .ok (.aload_n 1, 1) := by decide +kernel
theorem dX3_copyFrom_10 : decode cX3_copyFrom 10 = .ok (.getfield 15, 3) := by decide +kernel
theorem dX3_copyFrom_13 : decode cX3_copyFrom 13 = .ok (.putfield 15, 3) := by decide +kernel
theorem dX3_copyFrom_16 : decode cX3_copyFrom 16 = .ok (.aload_n 0, 1) := by decide +kernel
theorem dX3_copyFrom_17 : decode cX3_copyFrom 17 = .ok (.aload_n 1, 1) := by decide +kernel
theorem dX3_copyFrom_18 : decode cX3_copyFrom 18 = .ok (.getfield 18, 3) := by decide +kernel
theorem dX3_copyFrom_21 : decode cX3_copyFrom 21 = .ok (.putfield 18, 3) := by decide +kernel
theorem dX3_copyFrom_24 : decode cX3_copyFrom 24 = .ok (.aload_n 0, 1) := by decide +kernel
theorem dX3_copyFrom_25 : decode cX3_copyFrom 25 = .ok (.aload_n 1, 1) := by decide +kernel
theorem dX3_copyFrom_26 : decode cX3_copyFrom 26 = .ok (.getfield 21, 3) := by decide +kernel
theorem dX3_copyFrom_29 : decode cX3_copyFrom 29 = .ok (.putfield 21, 3) := by decide +kernel
theorem dX3_copyFrom_32 : decode cX3_copyFrom 32 = .ok (.aload_n 0, 1) := by decide +kernel
theorem dX3_copyFrom_33 : decode cX3_copyFrom 33 = .ok (.aload_n 1, 1) := by decide +kernel
theorem dX3_copyFrom_34 : decode cX3_copyFrom 34 = .ok (.getfield 24, 3) := by decide +kernel
theorem dX3_copyFrom_37 : decode cX3_copyFrom 37 = .ok (.putfield 24, 3) := by decide +kernel
theorem dX3_copyFrom_40 : decode cX3_copyFrom 40 = .ok (.aload_n 0, 1) := by decide +kernel
theorem dX3_copyFrom_41 : decode cX3_copyFrom 41 = .ok (.aload_n 1, 1) := by decide +kernel
theorem dX3_copyFrom_42 : decode cX3_copyFrom 42 = .ok (.getfield 27, 3) := by decide +kernel
theorem dX3_copyFrom_45 : decode cX3_copyFrom 45 = .ok (.putfield 27, 3) := by decide +kernel
theorem dX3_copyFrom_48 : decode cX3_copyFrom 48 = .ok (.aload_n 0, 1) := by decide +kernel
theorem dX3_copyFrom_49 : decode cX3_copyFrom 49 = .ok (.aload_n 1, 1) := by decide +kernel
theorem dX3_copyFrom_50 : decode cX3_copyFrom 50 = .ok (.getfield 34, 3) := by decide +kernel
theorem dX3_copyFrom_53 : decode cX3_copyFrom 53 = .ok (.putfield 34, 3) := by decide +kernel
theorem dX3_copyFrom_56 : decode cX3_copyFrom 56 = .ok (.aload_n 0, 1) := by decide +kernel
theorem dX3_copyFrom_57 : decode cX3_copyFrom 57 = .ok (.aload_n 1, 1) := by decide +kernel
theorem dX3_copyFrom_58 : decode cX3_copyFrom 58 = .ok (.getfield 38, 3) := by decide +kernel
theorem dX3_copyFrom_61 : decode cX3_copyFrom 61 = .ok (.putfield 38, 3) := by decide +kernel
theorem dX3_copyFrom_64 : decode cX3_copyFrom 64 = .ok (.aload_n 0, 1) := by decide +kernel
theorem dX3_copyFrom_65 : decode cX3_copyFrom 65 = .ok (.aload_n 1, 1) := by decide +kernel
theorem dX3_copyFrom_66 : decode cX3_copyFrom 66 = .ok (.getfield 41, 3) := by decide +kernel
theorem dX3_copyFrom_69 : decode cX3_copyFrom 69 = .ok (.putfield 41, 3) := by decide +kernel
theorem dX3_copyFrom_72 : decode cX3_copyFrom 72 = .ok (.aload_n 0, 1) := by decide +kernel
theorem dX3_copyFrom_73 : decode cX3_copyFrom 73 = .ok (.aload_n 1, 1) := by decide +kernel
theorem dX3_copyFrom_74 : decode cX3_copyFrom 74 = .ok (.getfield 44, 3) := by decide +kernel
theorem dX3_copyFrom_77 : decode cX3_copyFrom 77 = .ok (.putfield 44, 3) := by decide +kernel
theorem dX3_copyFrom_80 : decode cX3_copyFrom 80 = .ok (.aload_n 0, 1) := by decide +kernel
theorem dX3_copyFrom_81 : decode cX3_copyFrom 81 = .ok (.aload_n 1, 1) := by decide +kernel
theorem dX3_copyFrom_82 : decode cX3_copyFrom 82 = .ok (.getfield 47, 3) := by decide +kernel
theorem dX3_copyFrom_85 : decode cX3_copyFrom 85 = .ok (.putfield 47, 3) := by decide +kernel
theorem dX3_copyFrom_88 : decode cX3_copyFrom 88 = .ok (.return_, 1) := by decide +kernel
theorem dX3_isOn_0 : decode cX3_isOn 0 = .ok (.aload_n 0, 1) := by decide +kernel
theorem dX3_isOn_1 : decode cX3_isOn 1 = .ok (.getfield 47, 3) := by decide +kernel
theorem dX3_isOn_4 : decode cX3_isOn 4 = .ok (.ifCond .eq 15, 3) := by decide +kernel
theorem dX3_isOn_7 : decode cX3_isOn 7 = .ok (.aload_n 0, 1) := by decide +kernel
theorem dX3_isOn_8 : decode cX3_isOn 8 = .ok (.getfield 38, 3) := by decide +kernel
theorem dX3_isOn_11 : decode cX3_isOn 11 = .ok (.iload_n 1, 1) := by decide +kernel
theorem dX3_isOn_12 : decode cX3_isOn 12 = .ok (.if_icmp .ne 7, 3) := by decide +kernel
theorem dX3_isOn_15 : decode cX3_isOn 15 = .ok (.iconst 1, 1) := by decide +kernel
theorem dX3_isOn_16 : decode cX3_isOn 16 = .ok (.goto 4, 3) := by decide +kernel
theorem dX3_isOn_19 : decode cX3_isOn 19 = .ok (.iconst 0, 1) := by decide +kernel
theorem dX3_isOn_20 : decode cX3_isOn 20 = .ok (.ireturn, 1) := by decide +kernel
theorem dX3_feeAt_0 : decode cX3_feeAt 0 = .ok (.aload_n 0, 1) := by decide +kernel
theorem dX3_feeAt_1 : decode cX3_feeAt 1 = .ok (.getfield 24, 3) := by decide +kernel
theorem dX3_feeAt_4 : decode cX3_feeAt 4 = .ok (.iload_n 1, 1) := by decide +kernel
theorem dX3_feeAt_5 : decode cX3_feeAt 5 = .ok (.isub, 1) := by decide +kernel
theorem dX3_feeAt_6 : decode cX3_feeAt 6 = .ok (.istore_n 2, 1) := by decide +kernel
theorem dX3_feeAt_7 : decode cX3_feeAt 7 = .ok (.iload_n 2, 1) := by decide +kernel
theorem dX3_feeAt_8 : decode cX3_feeAt 8 = .ok (.bipush 7, 2) := by decide +kernel
theorem dX3_feeAt_10 : decode cX3_feeAt 10 = .ok (.if_icmp .lt 5, 3) := by decide +kernel
theorem dX3_feeAt_13 : decode cX3_feeAt 13 = .ok (.iconst 0, 1) := by decide +kernel
theorem dX3_feeAt_14 : decode cX3_feeAt 14 = .ok (.ireturn, 1) := by decide +kernel
theorem dX3_feeAt_15 : decode cX3_feeAt 15 = .ok (.iload_n 2, 1) := by decide +kernel
theorem dX3_feeAt_16 : decode cX3_feeAt 16 = .ok (.iconst 3, 1) := by decide +kernel
theorem dX3_feeAt_17 : decode cX3_feeAt 17 = .ok (.if_icmp .lt 12, 3) := by decide +kernel
theorem dX3_feeAt_20 : decode cX3_feeAt 20 = .ok (.aload_n 0, 1) := by decide +kernel
theorem dX3_feeAt_21 : decode cX3_feeAt 21 = .ok (.getfield 41, 3) := by decide +kernel
theorem dX3_feeAt_24 : decode cX3_feeAt 24 = .ok (.iconst 2, 1) := by decide +kernel
theorem dX3_feeAt_25 : decode cX3_feeAt 25 = .ok (.idiv, 1) := by decide +kernel
theorem dX3_feeAt_26 : decode cX3_feeAt 26 = .ok (.goto 7, 3) := by decide +kernel
theorem dX3_feeAt_29 : decode cX3_feeAt 29 = .ok (.aload_n 0, 1) := by decide +kernel
theorem dX3_feeAt_30 : decode cX3_feeAt 30 = .ok (.getfield 41, 3) := by decide +kernel
theorem dX3_feeAt_33 : decode cX3_feeAt 33 = .ok (.ireturn, 1) := by decide +kernel
theorem dX4_init_0 : decode cX4_init 0 = .ok (.aload_n 0, 1) := by decide +kernel
theorem dX4_init_1 : decode cX4_init 1 = .ok (.invokespecial 3, 3) := by decide +kernel
theorem dX4_init_4 : decode cX4_init 4 = .ok (.return_, 1) := by decide +kernel
theorem dX4_copyFrom_0 : decode cX4_copyFrom 0 = .ok (.aload_n 0, 1) := by decide +kernel
theorem dX4_copyFrom_1 : decode cX4_copyFrom 1 = .ok (.aload_n 1, 1) := by decide +kernel
theorem dX4_copyFrom_2 : decode cX4_copyFrom 2 = .ok (.getfield 9, 3) := by decide +kernel
theorem dX4_copyFrom_5 : decode cX4_copyFrom 5 = .ok (.putfield 9, 3) := by decide +kernel
theorem dX4_copyFrom_8 : decode cX4_copyFrom 8 = .ok (.aload_n 0, 1) := by decide +kernel
theorem dX4_copyFrom_9 : decode cX4_copyFrom 9 = .ok (.aload_n 1, 1) := by decide +kernel
theorem dX4_copyFrom_10 : decode cX4_copyFrom 10 = .ok (.getfield 15, 3) := by decide +kernel
theorem dX4_copyFrom_13 : decode cX4_copyFrom 13 = .ok (.putfield 15, 3) := by decide +kernel
theorem dX4_copyFrom_16 : decode cX4_copyFrom 16 = .ok (.aload_n 0, 1) := by decide +kernel
theorem dX4_copyFrom_17 : decode cX4_copyFrom 17 = .ok (.aload_n 1, 1) := by decide +kernel
theorem dX4_copyFrom_18 : decode cX4_copyFrom 18 = .ok (.getfield 18, 3) := by decide +kernel
theorem dX4_copyFrom_21 : decode cX4_copyFrom 21 = .ok (.putfield 18, 3) := by decide +kernel
theorem dX4_copyFrom_24 : decode cX4_copyFrom 24 = .ok (.aload_n 0, 1) := by decide +kernel
theorem dX4_copyFrom_25 : decode cX4_copyFrom 25 = .ok (.aload_n 1, 1) := by decide +kernel
theorem dX4_copyFrom_26 : decode cX4_copyFrom 26 = .ok (.getfield 21, 3) := by decide +kernel
theorem dX4_copyFrom_29 : decode cX4_copyFrom 29 = .ok (.putfield 21, 3) := by decide +kernel
theorem dX4_copyFrom_32 : decode cX4_copyFrom 32 = .ok (.aload_n 0, 1) := by decide +kernel
theorem dX4_copyFrom_33 : decode cX4_copyFrom 33 = .ok (.aload_n 1, 1) := by decide +kernel
theorem dX4_copyFrom_34 : decode cX4_copyFrom 34 = .ok (.getfield 24, 3) := by decide +kernel
theorem dX4_copyFrom_37 : decode cX4_copyFrom 37 = .ok (.putfield 24, 3) := by decide +kernel
theorem dX4_copyFrom_40 : decode cX4_copyFrom 40 = .ok (.return_, 1) := by decide +kernel
theorem dX4_takes_0 : decode cX4_takes 0 = .ok (.aload_n 1, 1) := by decide +kernel
theorem dX4_takes_1 : decode cX4_takes 1 = .ok (.getfield 27, 3) := by decide +kernel
theorem dX4_takes_4 : decode cX4_takes 4 = .ok (.aload_n 0, 1) := by decide +kernel
theorem dX4_takes_5 : decode cX4_takes 5 = .ok (.getfield 15, 3) := by decide +kernel
theorem dX4_takes_8 : decode cX4_takes 8 = .ok (.if_icmp .gt 18, 3) := by decide +kernel
theorem dX4_takes_11 : decode cX4_takes 11 = .ok (.aload_n 1, 1) := by decide +kernel
theorem dX4_takes_12 : decode cX4_takes 12 = .ok (.getfield 30, 3) := by decide +kernel
theorem dX4_takes_15 : decode cX4_takes 15 = .ok (.aload_n 0, 1) := by decide +kernel
theorem dX4_takes_16 : decode cX4_takes 16 = .ok (.getfield 18, 3) := by decide +kernel
theorem dX4_takes_19 : decode cX4_takes 19 = .ok (.if_icmp .gt 7, 3) := by decide +kernel
theorem dX4_takes_22 : decode cX4_takes 22 = .ok (.iconst 1, 1) := by decide +kernel
theorem dX4_takes_23 : decode cX4_takes 23 = .ok (.goto 4, 3) := by decide +kernel
theorem dX4_takes_26 : decode cX4_takes 26 = .ok (.iconst 0, 1) := by decide +kernel
theorem dX4_takes_27 : decode cX4_takes 27 = .ok (.istore_n 2, 1) := by decide +kernel
theorem dX4_takes_28 : decode cX4_takes 28 = .ok (.aload_n 1, 1) := by decide +kernel
theorem dX4_takes_29 : decode cX4_takes 29 = .ok (.getfield 30, 3) := by decide +kernel
theorem dX4_takes_32 : decode cX4_takes 32 = .ok (.aload_n 0, 1) := by decide +kernel
theorem dX4_takes_33 : decode cX4_takes 33 = .ok (.getfield 15, 3) := by decide +kernel
theorem dX4_takes_36 : decode cX4_takes 36 = .ok (.if_icmp .gt 18, 3) := by decide +kernel
theorem dX4_takes_39 : decode cX4_takes 39 = .ok (.aload_n 1, 1) := by decide +kernel
theorem dX4_takes_40 : decode cX4_takes 40 = .ok (.getfield 27, 3) := by decide +kernel
theorem dX4_takes_43 : decode cX4_takes 43 = .ok (.aload_n 0, 1) := by decide +kernel
theorem dX4_takes_44 : decode cX4_takes 44 = .ok (.getfield 18, 3) := by decide +kernel
theorem dX4_takes_47 : decode cX4_takes 47 = .ok (.if_icmp .gt 7, 3) := by decide +kernel
theorem dX4_takes_50 : decode cX4_takes 50 = .ok (.iconst 1, 1) := by decide +kernel
theorem dX4_takes_51 : decode cX4_takes 51 = .ok (.goto 4, 3) := by decide +kernel
theorem dX4_takes_54 : decode cX4_takes 54 = .ok (.iconst 0, 1) := by decide +kernel
theorem dX4_takes_55 : decode cX4_takes 55 = .ok (.istore_n 3, 1) := by decide +kernel
theorem dX4_takes_56 : decode cX4_takes 56 = .ok (.aload_n 1, 1) := by decide +kernel
theorem dX4_takes_57 : decode cX4_takes 57 = .ok (.getfield 31, 3) := by decide +kernel
theorem dX4_takes_60 : decode cX4_takes 60 = .ok (.aload_n 0, 1) := by decide +kernel
theorem dX4_takes_61 : decode cX4_takes 61 = .ok (.getfield 9, 3) := by decide +kernel
theorem dX4_takes_64 : decode cX4_takes 64 = .ok (.if_icmp .gt 30, 3) := by decide +kernel
theorem dX4_takes_67 : decode cX4_takes 67 = .ok (.iload_n 2, 1) := by decide +kernel
theorem dX4_takes_68 : decode cX4_takes 68 = .ok (.ifCond .ne 7, 3) := by decide +kernel
theorem dX4_takes_71 : decode cX4_takes 71 = .ok (.iload_n 3, 1) := by decide +kernel
theorem dX4_takes_72 : decode cX4_takes 72 = .ok (.ifCond .eq 22, 3) := by decide +kernel
theorem dX4_takes_75 : decode cX4_takes 75 = .ok (.aload_n 1, 1) := by decide +kernel
theorem dX4_takes_76 : decode cX4_takes 76 = .ok (.getfield 32, 3) := by decide +kernel
theorem dX4_takes_79 : decode cX4_takes 79 = .ok (.ifCond .eq 11, 3) := by decide +kernel
theorem dX4_takes_82 : decode cX4_takes 82 = .ok (.aload_n 0, 1) := by decide +kernel
theorem dX4_takes_83 : decode cX4_takes 83 = .ok (.getfield 21, 3) := by decide +kernel
theorem dX4_takes_86 : decode cX4_takes 86 = .ok (.iconst (-1), 1) := by decide +kernel
theorem dX4_takes_87 : decode cX4_takes 87 = .ok (.if_icmp .eq 7, 3) := by decide +kernel
theorem dX4_takes_90 : decode cX4_takes 90 = .ok (.iconst 1, 1) := by decide +kernel
theorem dX4_takes_91 : decode cX4_takes 91 = .ok (.goto 4, 3) := by decide +kernel
theorem dX4_takes_94 : decode cX4_takes 94 = .ok (.iconst 0, 1) := by decide +kernel
theorem dX4_takes_95 : decode cX4_takes 95 = .ok (.ireturn, 1) := by decide +kernel
theorem dX5_init_0 : decode cX5_init 0 = .ok (.aload_n 0, 1) := by decide +kernel
theorem dX5_init_1 : decode cX5_init 1 = .ok (.invokespecial 3, 3) := by decide +kernel
theorem dX5_init_4 : decode cX5_init 4 = .ok (.aload_n 0, 1) := by decide +kernel
theorem dX5_init_5 : decode cX5_init 5 = .ok (.new 9, 3) := by decide +kernel
theorem dX5_init_8 : decode cX5_init 8 = .ok (.dup, 1) := by decide +kernel
theorem dX5_init_9 : decode cX5_init 9 = .ok (.invokespecial 11, 3) := by decide +kernel
theorem dX5_init_12 : decode cX5_init 12 = .ok (.putfield 12, 3) := by decide +kernel
theorem dX5_init_15 : decode cX5_init 15 = .ok (.aload_n 0, 1) := by decide +kernel
theorem dX5_init_16 : decode cX5_init 16 = .ok (.new 18, 3) := by decide +kernel
theorem dX5_init_19 : decode cX5_init 19 = .ok (.dup, 1) := by decide +kernel
theorem dX5_init_20 : decode cX5_init 20 = .ok (.invokespecial 20, 3) := by decide +kernel
theorem dX5_init_23 : decode cX5_init 23 = .ok (.putfield 21, 3) := by decide +kernel
theorem dX5_init_26 : decode cX5_init 26 = .ok (.aload_n 0, 1) := by decide +kernel
theorem dX5_init_27 : decode cX5_init 27 = .ok (.iconst 3, 1) := by decide +kernel
theorem dX5_init_28 : decode cX5_init 28 = .ok (.anewarray 18, 3) := by decide +kernel
theorem dX5_init_31 : decode cX5_init 31 = .ok (.putfield 25, 3) := by decide +kernel
theorem dX5_init_34 : decode cX5_init 34 = .ok (.iconst 0, 1) := by decide +kernel
theorem dX5_init_35 : decode cX5_init 35 = .ok (.istore_n 1, 1) := by decide +kernel
theorem dX5_init_36 : decode cX5_init 36 = .ok (.iload_n 1, 1) := by decide +kernel
theorem dX5_init_37 : decode cX5_init 37 = .ok (.iconst 3, 1) := by decide +kernel
theorem dX5_init_38 : decode cX5_init 38 = .ok (.if_icmp .ge 19, 3) := by decide +kernel
theorem dX5_init_41 : decode cX5_init 41 = .ok (.aload_n 0, 1) := by decide +kernel
theorem dX5_init_42 : decode cX5_init 42 = .ok (.getfield 25, 3) := by decide +kernel
theorem dX5_init_45 : decode cX5_init 45 = .ok (.iload_n 1, 1) := by decide +kernel
theorem dX5_init_46 : decode cX5_init 46 = .ok (.aload_n 0, 1) := by decide +kernel
theorem dX5_init_47 : decode cX5_init 47 = .ok (.getfield 21, 3) := by decide +kernel
theorem dX5_init_50 : decode cX5_init 50 = .ok (.aastore, 1) := by decide +kernel
theorem dX5_init_51 : decode cX5_init 51 = .ok (.iinc 1 1, 3) := by decide +kernel
theorem dX5_init_54 : decode cX5_init 54 = .ok (.goto (-18), 3) := by decide +kernel
theorem dX5_init_57 : decode cX5_init 57 = .ok (.aload_n 0, 1) := by decide +kernel
theorem dX5_init_58 : decode cX5_init 58 = .ok (.iconst 3, 1) := by decide +kernel
theorem dX5_init_59 : decode cX5_init 59 = .ok (.newarray .int, 2) := by decide +kernel
theorem dX5_init_61 : decode cX5_init 61 = .ok (.putfield 29, 3) := by decide +kernel
theorem dX5_init_64 : decode cX5_init 64 = .ok (.aload_n 0, 1) := by decide +kernel
theorem dX5_init_65 : decode cX5_init 65 = .ok (.iconst 3, 1) := by decide +kernel
theorem dX5_init_66 : decode cX5_init 66 = .ok (.newarray .int, 2) := by decide +kernel
theorem dX5_init_68 : decode cX5_init 68 = .ok (.putfield 33, 3) := by decide +kernel
theorem dX5_init_71 : decode cX5_init 71 = .ok (.aload_n 0, 1) := by decide +kernel
theorem dX5_init_72 : decode cX5_init 72 = .ok (.iconst 3, 1) := by decide +kernel
theorem dX5_init_73 : decode cX5_init 73 = .ok (.newarray .int, 2) := by decide +kernel
theorem dX5_init_75 : decode cX5_init 75 = .ok (.putfield 36, 3) := by decide +kernel
theorem dX5_init_78 : decode cX5_init 78 = .ok (.aload_n 0, 1) := by decide +kernel
theorem dX5_init_79 : decode cX5_init 79 = .ok (.getfield 29, 3) := by decide +kernel
theorem dX5_init_82 : decode cX5_init 82 = .ok (.iconst 0, 1) := by decide +kernel
theorem dX5_init_83 : decode cX5_init 83 = .ok (.iconst (-1), 1) := by decide +kernel
theorem dX5_init_84 : decode cX5_init 84 = .ok (.iastore, 1) := by decide +kernel
theorem dX5_init_85 : decode cX5_init 85 = .ok (.aload_n 0, 1) := by decide +kernel
theorem dX5_init_86 : decode cX5_init 86 = .ok (.getfield 33, 3) := by decide +kernel
theorem dX5_init_89 : decode cX5_init 89 = .ok (.iconst 0, 1) := by decide +kernel
theorem dX5_init_90 : decode cX5_init 90 = .ok (.iconst (-1), 1) := by decide +kernel
theorem dX5_init_91 : decode cX5_init 91 = .ok (.iastore, 1) := by decide +kernel
theorem dX5_init_92 : decode cX5_init 92 = .ok (.aload_n 0, 1) := by decide +kernel
theorem dX5_init_93 : decode cX5_init 93 = .ok (.iconst 3, 1) := by decide +kernel
theorem dX5_init_94 : decode cX5_init 94 = .ok (.newarray .int, 2) := by decide +kernel
theorem dX5_init_96 : decode cX5_init 96 = .ok (.putfield 39, 3) := by decide +kernel
theorem dX5_init_99 : decode cX5_init 99 = .ok (.aload_n 0, 1) := by decide +kernel
theorem dX5_init_100 : decode cX5_init 100 = .ok (.iconst 3, 1) := by decide +kernel
theorem dX5_init_101 : decode cX5_init 101 = .ok (.newarray .int, 2) := by decide +kernel
theorem dX5_init_103 : decode cX5_init 103 = .ok (.putfield 42, 3) := by decide +kernel
theorem dX5_init_106 : decode cX5_init 106 = .ok (.aload_n 0, 1) := by decide +kernel
theorem dX5_init_107 : decode cX5_init 107 = .ok (.getfield 39, 3) := by decide +kernel
theorem dX5_init_110 : decode cX5_init 110 = .ok (.iconst 0, 1) := by decide +kernel
theorem dX5_init_111 : decode cX5_init 111 = .ok (.iconst (-1), 1) := by decide +kernel
theorem dX5_init_112 : decode cX5_init 112 = .ok (.iastore, 1) := by decide +kernel
theorem dX5_init_113 : decode cX5_init 113 = .ok (.aload_n 0, 1) := by decide +kernel
theorem dX5_init_114 : decode cX5_init 114 = .ok (.iconst 3, 1) := by decide +kernel
theorem dX5_init_115 : decode cX5_init 115 = .ok (.newarray .int, 2) := by decide +kernel
theorem dX5_init_117 : decode cX5_init 117 = .ok (.putfield 45, 3) := by decide +kernel
theorem dX5_init_120 : decode cX5_init 120 = .ok (.aload_n 0, 1) := by decide +kernel
theorem dX5_init_121 : decode cX5_init 121 = .ok (.bipush 6, 2) := by decide +kernel
theorem dX5_init_123 : decode cX5_init 123 = .ok (.newarray .long, 2) := by decide +kernel
theorem dX5_init_125 : decode cX5_init 125 = .ok (.putfield 48, 3) := by decide +kernel
theorem dX5_init_128 : decode cX5_init 128 = .ok (.aload_n 0, 1) := by decide +kernel
theorem dX5_init_129 : decode cX5_init 129 = .ok (.bipush 6, 2) := by decide +kernel
theorem dX5_init_131 : decode cX5_init 131 = .ok (.newarray .long, 2) := by decide +kernel
theorem dX5_init_133 : decode cX5_init 133 = .ok (.putfield 52, 3) := by decide +kernel
theorem dX5_init_136 : decode cX5_init 136 = .ok (.aload_n 0, 1) := by decide +kernel
theorem dX5_init_137 : decode cX5_init 137 = .ok (.sipush 180, 3) := by decide +kernel
theorem dX5_init_140 : decode cX5_init 140 = .ok (.newarray .int, 2) := by decide +kernel
theorem dX5_init_142 : decode cX5_init 142 = .ok (.putfield 55, 3) := by decide +kernel
theorem dX5_init_145 : decode cX5_init 145 = .ok (.aload_n 0, 1) := by decide +kernel
theorem dX5_init_146 : decode cX5_init 146 = .ok (.bipush 6, 2) := by decide +kernel
theorem dX5_init_148 : decode cX5_init 148 = .ok (.newarray .int, 2) := by decide +kernel
theorem dX5_init_150 : decode cX5_init 150 = .ok (.putfield 58, 3) := by decide +kernel
theorem dX5_init_153 : decode cX5_init 153 = .ok (.return_, 1) := by decide +kernel
theorem dX5_findBestPlan_0 : decode cX5_findBestPlan 0 = .ok (.aload_n 0, 1) := by decide +kernel
theorem dX5_findBestPlan_1 : decode cX5_findBestPlan 1 = .ok (.invokevirtual 61, 3) := by decide +kernel
theorem dX5_findBestPlan_4 : decode cX5_findBestPlan 4 = .ok (.aload_n 0, 1) := by decide +kernel
theorem dX5_findBestPlan_5 : decode cX5_findBestPlan 5 = .ok (.invokevirtual 64, 3) := by decide +kernel
theorem dX5_findBestPlan_8 : decode cX5_findBestPlan 8 = .ok (.iconst 0, 1) := by decide +kernel
theorem dX5_findBestPlan_9 : decode cX5_findBestPlan 9 = .ok (.istore_n 1, 1) := by decide +kernel
theorem dX5_findBestPlan_10 : decode cX5_findBestPlan 10 = .ok (.iload_n 1, 1) := by decide +kernel
theorem dX5_findBestPlan_11 : decode cX5_findBestPlan 11 = .ok (.iconst 2, 1) := by decide +kernel
theorem dX5_findBestPlan_12 : decode cX5_findBestPlan 12 = .ok (.if_icmp .gt 55, 3) := by decide +kernel
theorem dX5_findBestPlan_15 : decode cX5_findBestPlan 15 = .ok (.aload_n 0, 1) := by decide +kernel
theorem dX5_findBestPlan_16 : decode cX5_findBestPlan 16 = .ok (.iload_n 1, 1) := by decide +kernel
theorem dX5_findBestPlan_17 : decode cX5_findBestPlan 17 = .ok (.putfield 67, 3) := by decide +kernel
theorem dX5_findBestPlan_20 : decode cX5_findBestPlan 20 = .ok (.iconst 0, 1) := by decide +kernel
theorem dX5_findBestPlan_21 : decode cX5_findBestPlan 21 = .ok (.istore_n 2, 1) := by decide +kernel
theorem dX5_findBestPlan_22 : decode cX5_findBestPlan 22 = .ok (.iload_n 2, 1) := by decide +kernel
theorem dX5_findBestPlan_23 : decode cX5_findBestPlan 23 = .ok (.aload_n 0, 1) := by decide +kernel
theorem dX5_findBestPlan_24 : decode cX5_findBestPlan 24 = .ok (.getfield 12, 3) := by decide +kernel
theorem dX5_findBestPlan_27 : decode cX5_findBestPlan 27 = .ok (.getfield 71, 3) := by decide +kernel
theorem dX5_findBestPlan_30 : decode cX5_findBestPlan 30 = .ok (.if_icmp .ge 31, 3) := by decide +kernel
theorem dX5_findBestPlan_33 : decode cX5_findBestPlan 33 = .ok (.aload_n 0, 1) := by decide +kernel
theorem dX5_findBestPlan_34 : decode cX5_findBestPlan 34 = .ok (.aload_n 0, 1) := by decide +kernel
theorem dX5_findBestPlan_35 : decode cX5_findBestPlan 35 = .ok (.getfield 58, 3) := by decide +kernel
theorem dX5_findBestPlan_38 : decode cX5_findBestPlan 38 = .ok (.iload_n 2, 1) := by decide +kernel
theorem dX5_findBestPlan_39 : decode cX5_findBestPlan 39 = .ok (.iaload, 1) := by decide +kernel
theorem dX5_findBestPlan_40 : decode cX5_findBestPlan 40 = .ok (.invokevirtual 74, 3) := by decide +kernel
theorem dX5_findBestPlan_43 : decode cX5_findBestPlan 43 = .ok (.ifCond .eq 12, 3) := by decide +kernel
theorem dX5_findBestPlan_46 : decode cX5_findBestPlan 46 = .ok (.aload_n 0, 1) := by decide +kernel
theorem dX5_findBestPlan_47 : decode cX5_findBestPlan 47 = .ok (.invokevirtual 78, 3) := by decide +kernel
theorem dX5_findBestPlan_50 : decode cX5_findBestPlan 50 = .ok (.ifCond .eq 5, 3) := by decide +kernel
theorem dX5_findBestPlan_53 : decode cX5_findBestPlan 53 = .ok (.iconst 1, 1) := by decide +kernel
theorem dX5_findBestPlan_54 : decode cX5_findBestPlan 54 = .ok (.ireturn, 1) := by decide +kernel
theorem dX5_findBestPlan_55 : decode cX5_findBestPlan 55 = .ok (.iinc 2 1, 3) := by decide +kernel
theorem dX5_findBestPlan_58 : decode cX5_findBestPlan 58 = .ok (.goto (-36), 3) := by decide +kernel
theorem dX5_findBestPlan_61 : decode cX5_findBestPlan 61 = .ok (.iinc 1 1, 3) := by decide +kernel
theorem dX5_findBestPlan_64 : decode cX5_findBestPlan 64 = .ok (.goto (-54), 3) := by decide +kernel
theorem dX5_findBestPlan_67 : decode cX5_findBestPlan 67 = .ok (.iconst 0, 1) := by decide +kernel
theorem dX5_findBestPlan_68 : decode cX5_findBestPlan 68 = .ok (.ireturn, 1) := by decide +kernel
theorem dX5_writeMoves_0 : decode cX5_writeMoves 0 = .ok (.iconst 1, 1) := by decide +kernel
theorem dX5_writeMoves_1 : decode cX5_writeMoves 1 = .ok (.istore_n 2, 1) := by decide +kernel
theorem dX5_writeMoves_2 : decode cX5_writeMoves 2 = .ok (.iload_n 2, 1) := by decide +kernel
theorem dX5_writeMoves_3 : decode cX5_writeMoves 3 = .ok (.aload_n 0, 1) := by decide +kernel
theorem dX5_writeMoves_4 : decode cX5_writeMoves 4 = .ok (.getfield 67, 3) := by decide +kernel
theorem dX5_writeMoves_7 : decode cX5_writeMoves 7 = .ok (.if_icmp .gt 46, 3) := by decide +kernel
theorem dX5_writeMoves_10 : decode cX5_writeMoves 10 = .ok (.iload_n 2, 1) := by decide +kernel
theorem dX5_writeMoves_11 : decode cX5_writeMoves 11 = .ok (.iconst 1, 1) := by decide +kernel
theorem dX5_writeMoves_12 : decode cX5_writeMoves 12 = .ok (.isub, 1) := by decide +kernel
theorem dX5_writeMoves_13 : decode cX5_writeMoves 13 = .ok (.iconst 3, 1) := by decide +kernel
theorem dX5_writeMoves_14 : decode cX5_writeMoves 14 = .ok (.imul, 1) := by decide +kernel
theorem dX5_writeMoves_15 : decode cX5_writeMoves 15 = .ok (.istore_n 3, 1) := by decide +kernel
theorem dX5_writeMoves_16 : decode cX5_writeMoves 16 = .ok (.aload_n 1, 1) := by decide +kernel
theorem dX5_writeMoves_17 : decode cX5_writeMoves 17 = .ok (.iload_n 3, 1) := by decide +kernel
theorem dX5_writeMoves_18 : decode cX5_writeMoves 18 = .ok (.aload_n 0, 1) := by decide +kernel
theorem dX5_writeMoves_19 : decode cX5_writeMoves 19 = .ok (.getfield 29, 3) := by decide +kernel
theorem dX5_writeMoves_22 : decode cX5_writeMoves 22 = .ok (.iload_n 2, 1) := by decide +kernel
theorem dX5_writeMoves_23 : decode cX5_writeMoves 23 = .ok (.iaload, 1) := by decide +kernel
theorem dX5_writeMoves_24 : decode cX5_writeMoves 24 = .ok (.iastore, 1) := by decide +kernel
theorem dX5_writeMoves_25 : decode cX5_writeMoves 25 = .ok (.aload_n 1, 1) := by decide +kernel
theorem dX5_writeMoves_26 : decode cX5_writeMoves 26 = .ok (.iload_n 3, 1) := by decide +kernel
theorem dX5_writeMoves_27 : decode cX5_writeMoves 27 = .ok (.iconst 1, 1) := by decide +kernel
theorem dX5_writeMoves_28 : decode cX5_writeMoves 28 = .ok (.iadd, 1) := by decide +kernel
theorem dX5_writeMoves_29 : decode cX5_writeMoves 29 = .ok (.aload_n 0, 1) := by decide +kernel
theorem dX5_writeMoves_30 : decode cX5_writeMoves 30 = .ok (.getfield 33, 3) := by decide +kernel
theorem dX5_writeMoves_33 : decode cX5_writeMoves 33 = .ok (.iload_n 2, 1) := by decide +kernel
theorem dX5_writeMoves_34 : decode cX5_writeMoves 34 = .ok (.iaload, 1) := by decide +kernel
theorem dX5_writeMoves_35 : decode cX5_writeMoves 35 = .ok (.iastore, 1) := by decide +kernel
theorem dX5_writeMoves_36 : decode cX5_writeMoves 36 = .ok (.aload_n 1, 1) := by decide +kernel
theorem dX5_writeMoves_37 : decode cX5_writeMoves 37 = .ok (.iload_n 3, 1) := by decide +kernel
theorem dX5_writeMoves_38 : decode cX5_writeMoves 38 = .ok (.iconst 2, 1) := by decide +kernel
theorem dX5_writeMoves_39 : decode cX5_writeMoves 39 = .ok (.iadd, 1) := by decide +kernel
theorem dX5_writeMoves_40 : decode cX5_writeMoves 40 = .ok (.aload_n 0, 1) := by decide +kernel
theorem dX5_writeMoves_41 : decode cX5_writeMoves 41 = .ok (.getfield 36, 3) := by decide +kernel
theorem dX5_writeMoves_44 : decode cX5_writeMoves 44 = .ok (.iload_n 2, 1) := by decide +kernel
theorem dX5_writeMoves_45 : decode cX5_writeMoves 45 = .ok (.iaload, 1) := by decide +kernel
theorem dX5_writeMoves_46 : decode cX5_writeMoves 46 = .ok (.iastore, 1) := by decide +kernel
theorem dX5_writeMoves_47 : decode cX5_writeMoves 47 = .ok (.iinc 2 1, 3) := by decide +kernel
theorem dX5_writeMoves_50 : decode cX5_writeMoves 50 = .ok (.goto (-48), 3) := by decide +kernel
theorem dX5_writeMoves_53 : decode cX5_writeMoves 53 = .ok (.aload_n 0, 1) := by decide +kernel
theorem dX5_writeMoves_54 : decode cX5_writeMoves 54 = .ok (.getfield 67, 3) := by decide +kernel
theorem dX5_writeMoves_57 : decode cX5_writeMoves 57 = .ok (.ireturn, 1) := by decide +kernel
theorem dX5_carryOut_0 : decode cX5_carryOut 0 = .ok (.iconst 1, 1) := by decide +kernel
theorem dX5_carryOut_1 : decode cX5_carryOut 1 = .ok (.istore_n 1, 1) := by decide +kernel
theorem dX5_carryOut_2 : decode cX5_carryOut 2 = .ok (.iload_n 1, 1) := by decide +kernel
theorem dX5_carryOut_3 : decode cX5_carryOut 3 = .ok (.aload_n 0, 1) := by decide +kernel
theorem dX5_carryOut_4 : decode cX5_carryOut 4 = .ok (.getfield 67, 3) := by decide +kernel
theorem dX5_carryOut_7 : decode cX5_carryOut 7 = .ok (.if_icmp .gt 24, 3) := by decide +kernel
theorem dX5_carryOut_10 : decode cX5_carryOut 10 = .ok (.aload_n 0, 1) := by decide +kernel
theorem dX5_carryOut_11 : decode cX5_carryOut 11 = .ok (.getfield 25, 3) := by decide +kernel
theorem dX5_carryOut_14 : decode cX5_carryOut 14 = .ok (.iload_n 1, 1) := by decide +kernel
theorem dX5_carryOut_15 : decode cX5_carryOut 15 = .ok (.aaload, 1) := by decide +kernel
theorem dX5_carryOut_16 : decode cX5_carryOut 16 = .ok (.aload_n 0, 1) := by decide +kernel
theorem dX5_carryOut_17 : decode cX5_carryOut 17 = .ok (.getfield 36, 3) := by decide +kernel
theorem dX5_carryOut_20 : decode cX5_carryOut 20 = .ok (.iload_n 1, 1) := by decide +kernel
theorem dX5_carryOut_21 : decode cX5_carryOut 21 = .ok (.iaload, 1) := by decide +kernel
theorem dX5_carryOut_22 : decode cX5_carryOut 22 = .ok (.putfield 82, 3) := by decide +kernel
theorem dX5_carryOut_25 : decode cX5_carryOut 25 = .ok (.iinc 1 1, 3) := by decide +kernel
theorem dX5_carryOut_28 : decode cX5_carryOut 28 = .ok (.goto (-26), 3) := by decide +kernel
theorem dX5_carryOut_31 : decode cX5_carryOut 31 = .ok (.aload_n 0, 1) := by decide +kernel
theorem dX5_carryOut_32 : decode cX5_carryOut 32 = .ok (.getfield 12, 3) := by decide +kernel
theorem dX5_carryOut_35 : decode cX5_carryOut 35 = .ok (.aload_n 0, 1) := by decide +kernel
theorem dX5_carryOut_36 : decode cX5_carryOut 36 = .ok (.getfield 21, 3) := by decide +kernel
theorem dX5_carryOut_39 : decode cX5_carryOut 39 = .ok (.aload_n 0, 1) := by decide +kernel
theorem dX5_carryOut_40 : decode cX5_carryOut 40 = .ok (.getfield 36, 3) := by decide +kernel
theorem dX5_carryOut_43 : decode cX5_carryOut 43 = .ok (.iconst 0, 1) := by decide +kernel
theorem dX5_carryOut_44 : decode cX5_carryOut 44 = .ok (.iaload, 1) := by decide +kernel
theorem dX5_carryOut_45 : decode cX5_carryOut 45 = .ok (.invokevirtual 85, 3) := by decide +kernel
theorem dX5_carryOut_48 : decode cX5_carryOut 48 = .ok (.ireturn, 1) := by decide +kernel
theorem dX5_survey_0 : decode cX5_survey 0 = .ok (.iconst 0, 1) := by decide +kernel
theorem dX5_survey_1 : decode cX5_survey 1 = .ok (.istore_n 1, 1) := by decide +kernel
theorem dX5_survey_2 : decode cX5_survey 2 = .ok (.iload_n 1, 1) := by decide +kernel
theorem dX5_survey_3 : decode cX5_survey 3 = .ok (.aload_n 0, 1) := by decide +kernel
theorem dX5_survey_4 : decode cX5_survey 4 = .ok (.getfield 12, 3) := by decide +kernel
theorem dX5_survey_7 : decode cX5_survey 7 = .ok (.getfield 71, 3) := by decide +kernel
theorem dX5_survey_10 : decode cX5_survey 10 = .ok (.if_icmp .ge 24, 3) := by decide +kernel
theorem dX5_survey_13 : decode cX5_survey 13 = .ok (.aload_n 0, 1) := by decide +kernel
theorem dX5_survey_14 : decode cX5_survey 14 = .ok (.getfield 48, 3) := by decide +kernel
theorem dX5_survey_17 : decode cX5_survey 17 = .ok (.iload_n 1, 1) := by decide +kernel
theorem dX5_survey_18 : decode cX5_survey 18 = .ok (.aload_n 0, 1) := by decide +kernel
theorem dX5_survey_19 : decode cX5_survey 19 = .ok (.getfield 12, 3) := by decide +kernel
theorem dX5_survey_22 : decode cX5_survey 22 = .ok (.iload_n 1, 1) := by decide +kernel
theorem dX5_survey_23 : decode cX5_survey 23 = .ok (.iconst (-1), 1) := by decide +kernel
theorem dX5_survey_24 : decode cX5_survey 24 = .ok (.invokevirtual 89, 3) := by decide +kernel
theorem dX5_survey_27 : decode cX5_survey 27 = .ok (.lastore, 1) := by decide +kernel
theorem dX5_survey_28 : decode cX5_survey 28 = .ok (.iinc 1 1, 3) := by decide +kernel
theorem dX5_survey_31 : decode cX5_survey 31 = .ok (.goto (-29), 3) := by decide +kernel
theorem dX5_survey_34 : decode cX5_survey 34 = .ok (.iconst 0, 1) := by decide +kernel
theorem dX5_survey_35 : decode cX5_survey 35 = .ok (.istore_n 1, 1) := by decide +kernel
theorem dX5_survey_36 : decode cX5_survey 36 = .ok (.iload_n 1, 1) := by decide +kernel
theorem dX5_survey_37 : decode cX5_survey 37 = .ok (.aload_n 0, 1) := by decide +kernel
theorem dX5_survey_38 : decode cX5_survey 38 = .ok (.getfield 55, 3) := by decide +kernel
theorem dX5_survey_41 : decode cX5_survey 41 = .ok (.arraylength, 1) := by decide +kernel
theorem dX5_survey_42 : decode cX5_survey 42 = .ok (.if_icmp .ge 16, 3) := by decide +kernel
theorem dX5_survey_45 : decode cX5_survey 45 = .ok (.aload_n 0, 1) := by decide +kernel
theorem dX5_survey_46 : decode cX5_survey 46 = .ok (.getfield 55, 3) := by decide +kernel
theorem dX5_survey_49 : decode cX5_survey 49 = .ok (.iload_n 1, 1) := by decide +kernel
theorem dX5_survey_50 : decode cX5_survey 50 = .ok (.iconst 0, 1) := by decide +kernel
theorem dX5_survey_51 : decode cX5_survey 51 = .ok (.iastore, 1) := by decide +kernel
theorem dX5_survey_52 : decode cX5_survey 52 = .ok (.iinc 1 1, 3) := by decide +kernel
theorem dX5_survey_55 : decode cX5_survey 55 = .ok (.goto (-19), 3) := by decide +kernel
theorem dX5_survey_58 : decode cX5_survey 58 = .ok (.iconst 0, 1) := by decide +kernel
theorem dX5_survey_59 : decode cX5_survey 59 = .ok (.istore_n 1, 1) := by decide +kernel
theorem dX5_survey_60 : decode cX5_survey 60 = .ok (.iload_n 1, 1) := by decide +kernel
theorem dX5_survey_61 : decode cX5_survey 61 = .ok (.aload_n 0, 1) := by decide +kernel
theorem dX5_survey_62 : decode cX5_survey 62 = .ok (.getfield 12, 3) := by decide +kernel
theorem dX5_survey_65 : decode cX5_survey 65 = .ok (.getfield 93, 3) := by decide +kernel
theorem dX5_survey_68 : decode cX5_survey 68 = .ok (.if_icmp .ge 51, 3) := by decide +kernel
theorem dX5_survey_71 : decode cX5_survey 71 = .ok (.aload_n 0, 1) := by decide +kernel
theorem dX5_survey_72 : decode cX5_survey 72 = .ok (.getfield 12, 3) := by decide +kernel
theorem dX5_survey_75 : decode cX5_survey 75 = .ok (.getfield 96, 3) := by decide +kernel
theorem dX5_survey_78 : decode cX5_survey 78 = .ok (.iload_n 1, 1) := by decide +kernel
theorem dX5_survey_79 : decode cX5_survey 79 = .ok (.aaload, 1) := by decide +kernel
theorem dX5_survey_80 : decode cX5_survey 80 = .ok (.astore_n 2, 1) := by decide +kernel
theorem dX5_survey_81 : decode cX5_survey 81 = .ok (.aload_n 0, 1) := by decide +kernel
theorem dX5_survey_82 : decode cX5_survey 82 = .ok (.getfield 12, 3) := by decide +kernel
theorem dX5_survey_85 : decode cX5_survey 85 = .ok (.aload_n 2, 1) := by decide +kernel
theorem dX5_survey_86 : decode cX5_survey 86 = .ok (.getfield 82, 3) := by decide +kernel
theorem dX5_survey_89 : decode cX5_survey 89 = .ok (.invokevirtual 99, 3) := by decide +kernel
theorem dX5_survey_92 : decode cX5_survey 92 = .ok (.istore_n 3, 1) := by decide +kernel
theorem dX5_survey_93 : decode cX5_survey 93 = .ok (.aload_n 2, 1) := by decide +kernel
theorem dX5_survey_94 : decode cX5_survey 94 = .ok (.getfield 103, 3) := by decide +kernel
theorem dX5_survey_97 : decode cX5_survey 97 = .ok (.ifCond .eq 16, 3) := by decide +kernel
theorem dX5_survey_100 : decode cX5_survey 100 = .ok (.iload_n 3, 1) := by decide +kernel
theorem dX5_survey_101 : decode cX5_survey 101 = .ok (.invokestatic 107, 3) := by decide +kernel
theorem dX5_survey_104 : decode cX5_survey 104 = .ok (.ifCond .eq 9, 3) := by decide +kernel
theorem dX5_survey_107 : decode cX5_survey 107 = .ok (.aload_n 0, 1) := by decide +kernel
theorem dX5_survey_108 : decode cX5_survey 108 = .ok (.iload_n 3, 1) := by decide +kernel
theorem dX5_survey_109 : decode cX5_survey 109 = .ok (.aload_n 2, 1) := by decide +kernel
theorem dX5_survey_110 : decode cX5_survey 110 = .ok (.invokevirtual 110, 3) := by decide +kernel
theorem dX5_survey_113 : decode cX5_survey 113 = .ok (.iinc 1 1, 3) := by decide +kernel
theorem dX5_survey_116 : decode cX5_survey 116 = .ok (.goto (-56), 3) := by decide +kernel
theorem dX5_survey_119 : decode cX5_survey 119 = .ok (.return_, 1) := by decide +kernel
theorem dX5_addLoad_0 : decode cX5_addLoad 0 = .ok (.aload_n 2, 1) := by decide +kernel
theorem dX5_addLoad_1 : decode cX5_addLoad 1 = .ok (.getfield 114, 3) := by decide +kernel
theorem dX5_addLoad_4 : decode cX5_addLoad 4 = .ok (.istore_n 3, 1) := by decide +kernel
theorem dX5_addLoad_5 : decode cX5_addLoad 5 = .ok (.iload_n 3, 1) := by decide +kernel
theorem dX5_addLoad_6 : decode cX5_addLoad 6 = .ok (.aload_n 2, 1) := by decide +kernel
theorem dX5_addLoad_7 : decode cX5_addLoad 7 = .ok (.getfield 114, 3) := by decide +kernel
theorem dX5_addLoad_10 : decode cX5_addLoad 10 = .ok (.aload_n 2, 1) := by decide +kernel
theorem dX5_addLoad_11 : decode cX5_addLoad 11 = .ok (.getfield 117, 3) := by decide +kernel
theorem dX5_addLoad_14 : decode cX5_addLoad 14 = .ok (.iadd, 1) := by decide +kernel
theorem dX5_addLoad_15 : decode cX5_addLoad 15 = .ok (.if_icmp .ge 27, 3) := by decide +kernel
theorem dX5_addLoad_18 : decode cX5_addLoad 18 = .ok (.aload_n 0, 1) := by decide +kernel
theorem dX5_addLoad_19 : decode cX5_addLoad 19 = .ok (.getfield 55, 3) := by decide +kernel
theorem dX5_addLoad_22 : decode cX5_addLoad 22 = .ok (.iload_n 1, 1) := by decide +kernel
theorem dX5_addLoad_23 : decode cX5_addLoad 23 = .ok (.bipush 60, 2) := by decide +kernel
theorem dX5_addLoad_25 : decode cX5_addLoad 25 = .ok (.imul, 1) := by decide +kernel
theorem dX5_addLoad_26 : decode cX5_addLoad 26 = .ok (.iload_n 3, 1) := by decide +kernel
theorem dX5_addLoad_27 : decode cX5_addLoad 27 = .ok (.iadd, 1) := by decide +kernel
theorem dX5_addLoad_28 : decode cX5_addLoad 28 = .ok (.dup2, 1) := by decide +kernel
theorem dX5_addLoad_29 : decode cX5_addLoad 29 = .ok (.iaload, 1) := by decide +kernel
theorem dX5_addLoad_30 : decode cX5_addLoad 30 = .ok (.aload_n 2, 1) := by decide +kernel
theorem dX5_addLoad_31 : decode cX5_addLoad 31 = .ok (.getfield 120, 3) := by decide +kernel
theorem dX5_addLoad_34 : decode cX5_addLoad 34 = .ok (.iadd, 1) := by decide +kernel
theorem dX5_addLoad_35 : decode cX5_addLoad 35 = .ok (.iastore, 1) := by decide +kernel
theorem dX5_addLoad_36 : decode cX5_addLoad 36 = .ok (.iinc 3 1, 3) := by decide +kernel
theorem dX5_addLoad_39 : decode cX5_addLoad 39 = .ok (.goto (-34), 3) := by decide +kernel
theorem dX5_addLoad_42 : decode cX5_addLoad 42 = .ok (.return_, 1) := by decide +kernel
theorem dX5_sortPitches_0 : decode cX5_sortPitches 0 = .ok (.iconst 0, 1) := by decide +kernel
theorem dX5_sortPitches_1 : decode cX5_sortPitches 1 = .ok (.istore_n 1, 1) := by decide +kernel
theorem dX5_sortPitches_2 : decode cX5_sortPitches 2 = .ok (.iload_n 1, 1) := by decide +kernel
theorem dX5_sortPitches_3 : decode cX5_sortPitches 3 = .ok (.aload_n 0, 1) := by decide +kernel
theorem dX5_sortPitches_4 : decode cX5_sortPitches 4 = .ok (.getfield 12, 3) := by decide +kernel
theorem dX5_sortPitches_7 : decode cX5_sortPitches 7 = .ok (.getfield 71, 3) := by decide +kernel
theorem dX5_sortPitches_10 : decode cX5_sortPitches 10 = .ok (.if_icmp .ge 68, 3) := by decide +kernel
theorem dX5_sortPitches_13 : decode cX5_sortPitches 13 = .ok (.iload_n 1, 1) := by decide +kernel
theorem dX5_sortPitches_14 : decode cX5_sortPitches 14 = .ok (.istore_n 2, 1) := by decide +kernel
theorem dX5_sortPitches_15 : decode cX5_sortPitches 15 = .ok (.iload_n 2, 1) := by decide +kernel
theorem dX5_sortPitches_16 : decode cX5_sortPitches 16 = .ok (.ifCond .le 49, 3) := by decide +kernel
theorem dX5_sortPitches_19 : decode cX5_sortPitches 19 = .ok (.aload_n 0, 1) := by decide +kernel
theorem dX5_sortPitches_20 : decode cX5_sortPitches 20 = .ok (.getfield 12, 3) := by decide +kernel
theorem dX5_sortPitches_23 : decode cX5_sortPitches 23 = .ok (.aload_n 0, 1) := by decide +kernel
theorem dX5_sortPitches_24 : decode cX5_sortPitches 24 = .ok (.getfield 58, 3) := by decide +kernel
theorem dX5_sortPitches_27 : decode cX5_sortPitches 27 = .ok (.iload_n 2, 1) := by decide +kernel
theorem dX5_sortPitches_28 : decode cX5_sortPitches 28 = .ok (.iconst 1, 1) := by decide +kernel
theorem dX5_sortPitches_29 : decode cX5_sortPitches 29 = .ok (.isub, 1) := by decide +kernel
theorem dX5_sortPitches_30 : decode cX5_sortPitches 30 = .ok (.iaload, 1) := by decide +kernel
theorem dX5_sortPitches_31 : decode cX5_sortPitches 31 = .ok (.invokevirtual 123, 3) := by decide +kernel
theorem dX5_sortPitches_34 : decode cX5_sortPitches 34 = .ok (.aload_n 0, 1) := by decide +kernel
theorem dX5_sortPitches_35 : decode cX5_sortPitches 35 = .ok (.getfield 12, 3) := by decide +kernel
theorem dX5_sortPitches_38 : decode cX5_sortPitches 38 = .ok (.iload_n 1, 1) := by decide +kernel
theorem dX5_sortPitches_39 : decode cX5_sortPitches 39 = .ok (.invokevirtual 123, 3) := by decide +kernel
theorem dX5_sortPitches_42 : decode cX5_sortPitches 42 = .ok (.if_icmp .le 23, 3) := by decide +kernel
theorem dX5_sortPitches_45 : decode cX5_sortPitches 45 = .ok (.aload_n 0, 1) := by decide +kernel
theorem dX5_sortPitches_46 : decode cX5_sortPitches 46 = .ok (.getfield 58, 3) := by decide +kernel
theorem dX5_sortPitches_49 : decode cX5_sortPitches 49 = .ok (.iload_n 2, 1) := by decide +kernel
theorem dX5_sortPitches_50 : decode cX5_sortPitches 50 = .ok (.aload_n 0, 1) := by decide +kernel
theorem dX5_sortPitches_51 : decode cX5_sortPitches 51 = .ok (.getfield 58, 3) := by decide +kernel
theorem dX5_sortPitches_54 : decode cX5_sortPitches 54 = .ok (.iload_n 2, 1) := by decide +kernel
theorem dX5_sortPitches_55 : decode cX5_sortPitches 55 = .ok (.iconst 1, 1) := by decide +kernel
theorem dX5_sortPitches_56 : decode cX5_sortPitches 56 = .ok (.isub, 1) := by decide +kernel
theorem dX5_sortPitches_57 : decode cX5_sortPitches 57 = .ok (.iaload, 1) := by decide +kernel
theorem dX5_sortPitches_58 : decode cX5_sortPitches 58 = .ok (.iastore, 1) := by decide +kernel
theorem dX5_sortPitches_59 : decode cX5_sortPitches 59 = .ok (.iinc 2 (-1), 3) := by decide +kernel
theorem dX5_sortPitches_62 : decode cX5_sortPitches 62 = .ok (.goto (-47), 3) := by decide +kernel
theorem dX5_sortPitches_65 : decode cX5_sortPitches 65 = .ok (.aload_n 0, 1) := by decide +kernel
theorem dX5_sortPitches_66 : decode cX5_sortPitches 66 = .ok (.getfield 58, 3) := by decide +kernel
theorem dX5_sortPitches_69 : decode cX5_sortPitches 69 = .ok (.iload_n 2, 1) := by decide +kernel
theorem dX5_sortPitches_70 : decode cX5_sortPitches 70 = .ok (.iload_n 1, 1) := by decide +kernel
theorem dX5_sortPitches_71 : decode cX5_sortPitches 71 = .ok (.iastore, 1) := by decide +kernel
theorem dX5_sortPitches_72 : decode cX5_sortPitches 72 = .ok (.iinc 1 1, 3) := by decide +kernel
theorem dX5_sortPitches_75 : decode cX5_sortPitches 75 = .ok (.goto (-73), 3) := by decide +kernel
theorem dX5_sortPitches_78 : decode cX5_sortPitches 78 = .ok (.return_, 1) := by decide +kernel
theorem dX5_chooseGoal_0 : decode cX5_chooseGoal 0 = .ok (.aload_n 0, 1) := by decide +kernel
theorem dX5_chooseGoal_1 : decode cX5_chooseGoal 1 = .ok (.getfield 36, 3) := by decide +kernel
theorem dX5_chooseGoal_4 : decode cX5_chooseGoal 4 = .ok (.iconst 0, 1) := by decide +kernel
theorem dX5_chooseGoal_5 : decode cX5_chooseGoal 5 = .ok (.iload_n 1, 1) := by decide +kernel
theorem dX5_chooseGoal_6 : decode cX5_chooseGoal 6 = .ok (.iastore, 1) := by decide +kernel
theorem dX5_chooseGoal_7 : decode cX5_chooseGoal 7 = .ok (.aload_n 0, 1) := by decide +kernel
theorem dX5_chooseGoal_8 : decode cX5_chooseGoal 8 = .ok (.getfield 42, 3) := by decide +kernel
theorem dX5_chooseGoal_11 : decode cX5_chooseGoal 11 = .ok (.iconst 0, 1) := by decide +kernel
theorem dX5_chooseGoal_12 : decode cX5_chooseGoal 12 = .ok (.aload_n 0, 1) := by decide +kernel
theorem dX5_chooseGoal_13 : decode cX5_chooseGoal 13 = .ok (.getfield 12, 3) := by decide +kernel
theorem dX5_chooseGoal_16 : decode cX5_chooseGoal 16 = .ok (.iload_n 1, 1) := by decide +kernel
theorem dX5_chooseGoal_17 : decode cX5_chooseGoal 17 = .ok (.invokevirtual 99, 3) := by decide +kernel
theorem dX5_chooseGoal_20 : decode cX5_chooseGoal 20 = .ok (.iastore, 1) := by decide +kernel
theorem dX5_chooseGoal_21 : decode cX5_chooseGoal 21 = .ok (.aload_n 0, 1) := by decide +kernel
theorem dX5_chooseGoal_22 : decode cX5_chooseGoal 22 = .ok (.getfield 45, 3) := by decide +kernel
theorem dX5_chooseGoal_25 : decode cX5_chooseGoal 25 = .ok (.iconst 0, 1) := by decide +kernel
theorem dX5_chooseGoal_26 : decode cX5_chooseGoal 26 = .ok (.iconst 0, 1) := by decide +kernel
theorem dX5_chooseGoal_27 : decode cX5_chooseGoal 27 = .ok (.iastore, 1) := by decide +kernel
theorem dX5_chooseGoal_28 : decode cX5_chooseGoal 28 = .ok (.iconst 0, 1) := by decide +kernel
theorem dX5_chooseGoal_29 : decode cX5_chooseGoal 29 = .ok (.istore_n 2, 1) := by decide +kernel
theorem dX5_chooseGoal_30 : decode cX5_chooseGoal 30 = .ok (.iload_n 2, 1) := by decide +kernel
theorem dX5_chooseGoal_31 : decode cX5_chooseGoal 31 = .ok (.aload_n 0, 1) := by decide +kernel
theorem dX5_chooseGoal_32 : decode cX5_chooseGoal 32 = .ok (.getfield 12, 3) := by decide +kernel
theorem dX5_chooseGoal_35 : decode cX5_chooseGoal 35 = .ok (.getfield 93, 3) := by decide +kernel
theorem dX5_chooseGoal_38 : decode cX5_chooseGoal 38 = .ok (.if_icmp .ge 35, 3) := by decide +kernel
theorem dX5_chooseGoal_41 : decode cX5_chooseGoal 41 = .ok (.aload_n 0, 1) := by decide +kernel
theorem dX5_chooseGoal_42 : decode cX5_chooseGoal 42 = .ok (.aload_n 0, 1) := by decide +kernel
theorem dX5_chooseGoal_43 : decode cX5_chooseGoal 43 = .ok (.getfield 12, 3) := by decide +kernel
theorem dX5_chooseGoal_46 : decode cX5_chooseGoal 46 = .ok (.getfield 96, 3) := by decide +kernel
theorem dX5_chooseGoal_49 : decode cX5_chooseGoal 49 = .ok (.iload_n 2, 1) := by decide +kernel
theorem dX5_chooseGoal_50 : decode cX5_chooseGoal 50 = .ok (.aaload, 1) := by decide +kernel
theorem dX5_chooseGoal_51 : decode cX5_chooseGoal 51 = .ok (.invokevirtual 126, 3) := by decide +kernel
theorem dX5_chooseGoal_54 : decode cX5_chooseGoal 54 = .ok (.ifCond .eq 13, 3) := by decide +kernel
theorem dX5_chooseGoal_57 : decode cX5_chooseGoal 57 = .ok (.aload_n 0, 1) := by decide +kernel
theorem dX5_chooseGoal_58 : decode cX5_chooseGoal 58 = .ok (.getfield 45, 3) := by decide +kernel
theorem dX5_chooseGoal_61 : decode cX5_chooseGoal 61 = .ok (.iconst 0, 1) := by decide +kernel
theorem dX5_chooseGoal_62 : decode cX5_chooseGoal 62 = .ok (.dup2, 1) := by decide +kernel
theorem dX5_chooseGoal_63 : decode cX5_chooseGoal 63 = .ok (.iaload, 1) := by decide +kernel
theorem dX5_chooseGoal_64 : decode cX5_chooseGoal 64 = .ok (.iconst 1, 1) := by decide +kernel
theorem dX5_chooseGoal_65 : decode cX5_chooseGoal 65 = .ok (.iadd, 1) := by decide +kernel
theorem dX5_chooseGoal_66 : decode cX5_chooseGoal 66 = .ok (.iastore, 1) := by decide +kernel
theorem dX5_chooseGoal_67 : decode cX5_chooseGoal 67 = .ok (.iinc 2 1, 3) := by decide +kernel
theorem dX5_chooseGoal_70 : decode cX5_chooseGoal 70 = .ok (.goto (-40), 3) := by decide +kernel
theorem dX5_chooseGoal_73 : decode cX5_chooseGoal 73 = .ok (.aload_n 0, 1) := by decide +kernel
theorem dX5_chooseGoal_74 : decode cX5_chooseGoal 74 = .ok (.getfield 45, 3) := by decide +kernel
theorem dX5_chooseGoal_77 : decode cX5_chooseGoal 77 = .ok (.iconst 0, 1) := by decide +kernel
theorem dX5_chooseGoal_78 : decode cX5_chooseGoal 78 = .ok (.iaload, 1) := by decide +kernel
theorem dX5_chooseGoal_79 : decode cX5_chooseGoal 79 = .ok (.aload_n 0, 1) := by decide +kernel
theorem dX5_chooseGoal_80 : decode cX5_chooseGoal 80 = .ok (.getfield 67, 3) := by decide +kernel
theorem dX5_chooseGoal_83 : decode cX5_chooseGoal 83 = .ok (.if_icmp .gt 22, 3) := by decide +kernel
theorem dX5_chooseGoal_86 : decode cX5_chooseGoal 86 = .ok (.aload_n 0, 1) := by decide +kernel
theorem dX5_chooseGoal_87 : decode cX5_chooseGoal 87 = .ok (.getfield 12, 3) := by decide +kernel
theorem dX5_chooseGoal_90 : decode cX5_chooseGoal 90 = .ok (.aload_n 0, 1) := by decide +kernel
theorem dX5_chooseGoal_91 : decode cX5_chooseGoal 91 = .ok (.getfield 21, 3) := by decide +kernel
theorem dX5_chooseGoal_94 : decode cX5_chooseGoal 94 = .ok (.iload_n 1, 1) := by decide +kernel
theorem dX5_chooseGoal_95 : decode cX5_chooseGoal 95 = .ok (.invokevirtual 130, 3) := by decide +kernel
theorem dX5_chooseGoal_98 : decode cX5_chooseGoal 98 = .ok (.ifCond .eq 7, 3) := by decide +kernel
theorem dX5_chooseGoal_101 : decode cX5_chooseGoal 101 = .ok (.iconst 1, 1) := by decide +kernel
theorem dX5_chooseGoal_102 : decode cX5_chooseGoal 102 = .ok (.goto 4, 3) := by decide +kernel
theorem dX5_chooseGoal_105 : decode cX5_chooseGoal 105 = .ok (.iconst 0, 1) := by decide +kernel
theorem dX5_chooseGoal_106 : decode cX5_chooseGoal 106 = .ok (.ireturn, 1) := by decide +kernel
theorem dX5_isInTheWay_0 : decode cX5_isInTheWay 0 = .ok (.aload_n 1, 1) := by decide +kernel
theorem dX5_isInTheWay_1 : decode cX5_isInTheWay 1 = .ok (.aload_n 0, 1) := by decide +kernel
theorem dX5_isInTheWay_2 : decode cX5_isInTheWay 2 = .ok (.getfield 36, 3) := by decide +kernel
theorem dX5_isInTheWay_5 : decode cX5_isInTheWay 5 = .ok (.iconst 0, 1) := by decide +kernel
theorem dX5_isInTheWay_6 : decode cX5_isInTheWay 6 = .ok (.iaload, 1) := by decide +kernel
theorem dX5_isInTheWay_7 : decode cX5_isInTheWay 7 = .ok (.invokevirtual 134, 3) := by decide +kernel
theorem dX5_isInTheWay_10 : decode cX5_isInTheWay 10 = .ok (.ifCond .eq 24, 3) := by decide +kernel
theorem dX5_isInTheWay_13 : decode cX5_isInTheWay 13 = .ok (.aload_n 1, 1) := by decide +kernel
theorem dX5_isInTheWay_14 : decode cX5_isInTheWay 14 = .ok (.getfield 137, 3) := by decide +kernel
theorem dX5_isInTheWay_17 : decode cX5_isInTheWay 17 = .ok (.aload_n 0, 1) := by decide +kernel
theorem dX5_isInTheWay_18 : decode cX5_isInTheWay 18 = .ok (.getfield 21, 3) := by decide +kernel
theorem dX5_isInTheWay_21 : decode cX5_isInTheWay 21 = .ok (.getfield 137, 3) := by decide +kernel
theorem dX5_isInTheWay_24 : decode cX5_isInTheWay 24 = .ok (.land, 1) := by decide +kernel
theorem dX5_isInTheWay_25 : decode cX5_isInTheWay 25 = .ok (.lconst 0, 1) := by decide +kernel
theorem dX5_isInTheWay_26 : decode cX5_isInTheWay 26 = .ok (.lcmp, 1) := by decide +kernel
theorem dX5_isInTheWay_27 : decode cX5_isInTheWay 27 = .ok (.ifCond .eq 7, 3) := by decide +kernel
theorem dX5_isInTheWay_30 : decode cX5_isInTheWay 30 = .ok (.iconst 1, 1) := by decide +kernel
theorem dX5_isInTheWay_31 : decode cX5_isInTheWay 31 = .ok (.goto 4, 3) := by decide +kernel
theorem dX5_isInTheWay_34 : decode cX5_isInTheWay 34 = .ok (.iconst 0, 1) := by decide +kernel
theorem dX5_isInTheWay_35 : decode cX5_isInTheWay 35 = .ok (.ireturn, 1) := by decide +kernel
theorem dX5_findMoves_0 : decode cX5_findMoves 0 = .ok (.aload_n 0, 1) := by decide +kernel
theorem dX5_findMoves_1 : decode cX5_findMoves 1 = .ok (.getfield 67, 3) := by decide +kernel
theorem dX5_findMoves_4 : decode cX5_findMoves 4 = .ok (.ifCond .ne 8, 3) := by decide +kernel
theorem dX5_findMoves_7 : decode cX5_findMoves 7 = .ok (.aload_n 0, 1) := by decide +kernel
theorem dX5_findMoves_8 : decode cX5_findMoves 8 = .ok (.invokevirtual 141, 3) := by decide +kernel
theorem dX5_findMoves_11 : decode cX5_findMoves 11 = .ok (.ireturn, 1) := by decide +kernel
theorem dX5_findMoves_12 : decode cX5_findMoves 12 = .ok (.aload_n 0, 1) := by decide +kernel
theorem dX5_findMoves_13 : decode cX5_findMoves 13 = .ok (.getfield 12, 3) := by decide +kernel
theorem dX5_findMoves_16 : decode cX5_findMoves 16 = .ok (.getfield 93, 3) := by decide +kernel
theorem dX5_findMoves_19 : decode cX5_findMoves 19 = .ok (.bipush 6, 2) := by decide +kernel
theorem dX5_findMoves_21 : decode cX5_findMoves 21 = .ok (.imul, 1) := by decide +kernel
theorem dX5_findMoves_22 : decode cX5_findMoves 22 = .ok (.istore_n 1, 1) := by decide +kernel
theorem dX5_findMoves_23 : decode cX5_findMoves 23 = .ok (.iconst 0, 1) := by decide +kernel
theorem dX5_findMoves_24 : decode cX5_findMoves 24 = .ok (.istore_n 2, 1) := by decide +kernel
theorem dX5_findMoves_25 : decode cX5_findMoves 25 = .ok (.iload_n 2, 1) := by decide +kernel
theorem dX5_findMoves_26 : decode cX5_findMoves 26 = .ok (.iload_n 1, 1) := by decide +kernel
theorem dX5_findMoves_27 : decode cX5_findMoves 27 = .ok (.if_icmp .ge 107, 3) := by decide +kernel
theorem dX5_findMoves_30 : decode cX5_findMoves 30 = .ok (.aload_n 0, 1) := by decide +kernel
theorem dX5_findMoves_31 : decode cX5_findMoves 31 = .ok (.iconst 1, 1) := by decide +kernel
theorem dX5_findMoves_32 : decode cX5_findMoves 32 = .ok (.iload_n 2, 1) := by decide +kernel
theorem dX5_findMoves_33 : decode cX5_findMoves 33 = .ok (.bipush 6, 2) := by decide +kernel
theorem dX5_findMoves_35 : decode cX5_findMoves 35 = .ok (.idiv, 1) := by decide +kernel
theorem dX5_findMoves_36 : decode cX5_findMoves 36 = .ok (.iload_n 2, 1) := by decide +kernel
theorem dX5_findMoves_37 : decode cX5_findMoves 37 = .ok (.bipush 6, 2) := by decide +kernel
theorem dX5_findMoves_39 : decode cX5_findMoves 39 = .ok (.irem, 1) := by decide +kernel
theorem dX5_findMoves_40 : decode cX5_findMoves 40 = .ok (.invokevirtual 144, 3) := by decide +kernel
theorem dX5_findMoves_43 : decode cX5_findMoves 43 = .ok (.ifCond .ne 6, 3) := by decide +kernel
theorem dX5_findMoves_46 : decode cX5_findMoves 46 = .ok (.goto 82, 3) := by decide +kernel
theorem dX5_findMoves_49 : decode cX5_findMoves 49 = .ok (.aload_n 0, 1) := by decide +kernel
theorem dX5_findMoves_50 : decode cX5_findMoves 50 = .ok (.getfield 67, 3) := by decide +kernel
theorem dX5_findMoves_53 : decode cX5_findMoves 53 = .ok (.iconst 1, 1) := by decide +kernel
theorem dX5_findMoves_54 : decode cX5_findMoves 54 = .ok (.if_icmp .ne 12, 3) := by decide +kernel
theorem dX5_findMoves_57 : decode cX5_findMoves 57 = .ok (.aload_n 0, 1) := by decide +kernel
theorem dX5_findMoves_58 : decode cX5_findMoves 58 = .ok (.invokevirtual 141, 3) := by decide +kernel
theorem dX5_findMoves_61 : decode cX5_findMoves 61 = .ok (.ifCond .eq 5, 3) := by decide +kernel
theorem dX5_findMoves_64 : decode cX5_findMoves 64 = .ok (.iconst 1, 1) := by decide +kernel
theorem dX5_findMoves_65 : decode cX5_findMoves 65 = .ok (.ireturn, 1) := by decide +kernel
theorem dX5_findMoves_66 : decode cX5_findMoves 66 = .ok (.aload_n 0, 1) := by decide +kernel
theorem dX5_findMoves_67 : decode cX5_findMoves 67 = .ok (.getfield 29, 3) := by decide +kernel
theorem dX5_findMoves_70 : decode cX5_findMoves 70 = .ok (.iconst 1, 1) := by decide +kernel
theorem dX5_findMoves_71 : decode cX5_findMoves 71 = .ok (.iaload, 1) := by decide +kernel
theorem dX5_findMoves_72 : decode cX5_findMoves 72 = .ok (.iconst 1, 1) := by decide +kernel
theorem dX5_findMoves_73 : decode cX5_findMoves 73 = .ok (.iadd, 1) := by decide +kernel
theorem dX5_findMoves_74 : decode cX5_findMoves 74 = .ok (.bipush 6, 2) := by decide +kernel
theorem dX5_findMoves_76 : decode cX5_findMoves 76 = .ok (.imul, 1) := by decide +kernel
theorem dX5_findMoves_77 : decode cX5_findMoves 77 = .ok (.istore_n 3, 1) := by decide +kernel
theorem dX5_findMoves_78 : decode cX5_findMoves 78 = .ok (.iload_n 3, 1) := by decide +kernel
theorem dX5_findMoves_79 : decode cX5_findMoves 79 = .ok (.istore 4, 2) := by decide +kernel
theorem dX5_findMoves_81 : decode cX5_findMoves 81 = .ok (.aload_n 0, 1) := by decide +kernel
theorem dX5_findMoves_82 : decode cX5_findMoves 82 = .ok (.getfield 67, 3) := by decide +kernel
theorem dX5_findMoves_85 : decode cX5_findMoves 85 = .ok (.iconst 2, 1) := by decide +kernel
theorem dX5_findMoves_86 : decode cX5_findMoves 86 = .ok (.if_icmp .ne 42, 3) := by decide +kernel
theorem dX5_findMoves_89 : decode cX5_findMoves 89 = .ok (.iload 4, 2) := by decide +kernel
theorem dX5_findMoves_91 : decode cX5_findMoves 91 = .ok (.iload_n 1, 1) := by decide +kernel
theorem dX5_findMoves_92 : decode cX5_findMoves 92 = .ok (.if_icmp .ge 36, 3) := by decide +kernel
theorem dX5_findMoves_95 : decode cX5_findMoves 95 = .ok (.aload_n 0, 1) := by decide +kernel
theorem dX5_findMoves_96 : decode cX5_findMoves 96 = .ok (.iconst 2, 1) := by decide +kernel
theorem dX5_findMoves_97 : decode cX5_findMoves 97 = .ok (.iload 4, 2) := by decide +kernel
theorem dX5_findMoves_99 : decode cX5_findMoves 99 = .ok (.bipush 6, 2) := by decide +kernel
theorem dX5_findMoves_101 : decode cX5_findMoves 101 = .ok (.idiv, 1) := by decide +kernel
theorem dX5_findMoves_102 : decode cX5_findMoves 102 = .ok (.iload 4, 2) := by decide +kernel
theorem dX5_findMoves_104 : decode cX5_findMoves 104 = .ok (.bipush 6, 2) := by decide +kernel
theorem dX5_findMoves_106 : decode cX5_findMoves 106 = .ok (.irem, 1) := by decide +kernel
theorem dX5_findMoves_107 : decode cX5_findMoves 107 = .ok (.invokevirtual 144, 3) := by decide +kernel
theorem dX5_findMoves_110 : decode cX5_findMoves 110 = .ok (.ifCond .eq 12, 3) := by decide +kernel
theorem dX5_findMoves_113 : decode cX5_findMoves 113 = .ok (.aload_n 0, 1) := by decide +kernel
theorem dX5_findMoves_114 : decode cX5_findMoves 114 = .ok (.invokevirtual 141, 3) := by decide +kernel
theorem dX5_findMoves_117 : decode cX5_findMoves 117 = .ok (.ifCond .eq 5, 3) := by decide +kernel
theorem dX5_findMoves_120 : decode cX5_findMoves 120 = .ok (.iconst 1, 1) := by decide +kernel
theorem dX5_findMoves_121 : decode cX5_findMoves 121 = .ok (.ireturn, 1) := by decide +kernel
theorem dX5_findMoves_122 : decode cX5_findMoves 122 = .ok (.iinc 4 1, 3) := by decide +kernel
theorem dX5_findMoves_125 : decode cX5_findMoves 125 = .ok (.goto (-44), 3) := by decide +kernel
theorem dX5_findMoves_128 : decode cX5_findMoves 128 = .ok (.iinc 2 1, 3) := by decide +kernel
theorem dX5_findMoves_131 : decode cX5_findMoves 131 = .ok (.goto (-106), 3) := by decide +kernel
theorem dX5_findMoves_134 : decode cX5_findMoves 134 = .ok (.iconst 0, 1) := by decide +kernel
theorem dX5_findMoves_135 : decode cX5_findMoves 135 = .ok (.ireturn, 1) := by decide +kernel
theorem dX5_chooseMove_0 : decode cX5_chooseMove 0 = .ok (.aload_n 0, 1) := by decide +kernel
theorem dX5_chooseMove_1 : decode cX5_chooseMove 1 = .ok (.getfield 12, 3) := by decide +kernel
theorem dX5_chooseMove_4 : decode cX5_chooseMove 4 = .ok (.getfield 96, 3) := by decide +kernel
theorem dX5_chooseMove_7 : decode cX5_chooseMove 7 = .ok (.iload_n 2, 1) := by decide +kernel
theorem dX5_chooseMove_8 : decode cX5_chooseMove 8 = .ok (.aaload, 1) := by decide +kernel
theorem dX5_chooseMove_9 : decode cX5_chooseMove 9 = .ok (.astore 4, 2) := by decide +kernel
theorem dX5_chooseMove_11 : decode cX5_chooseMove 11 = .ok (.aload_n 0, 1) := by decide +kernel
theorem dX5_chooseMove_12 : decode cX5_chooseMove 12 = .ok (.getfield 12, 3) := by decide +kernel
theorem dX5_chooseMove_15 : decode cX5_chooseMove 15 = .ok (.aload 4, 2) := by decide +kernel
theorem dX5_chooseMove_17 : decode cX5_chooseMove 17 = .ok (.invokevirtual 148, 3) := by decide +kernel
theorem dX5_chooseMove_20 : decode cX5_chooseMove 20 = .ok (.ifCond .eq 27, 3) := by decide +kernel
theorem dX5_chooseMove_23 : decode cX5_chooseMove 23 = .ok (.aload_n 0, 1) := by decide +kernel
theorem dX5_chooseMove_24 : decode cX5_chooseMove 24 = .ok (.getfield 12, 3) := by decide +kernel
theorem dX5_chooseMove_27 : decode cX5_chooseMove 27 = .ok (.aload 4, 2) := by decide +kernel
theorem dX5_chooseMove_29 : decode cX5_chooseMove 29 = .ok (.getfield 82, 3) := by decide +kernel
theorem dX5_chooseMove_32 : decode cX5_chooseMove 32 = .ok (.invokevirtual 151, 3) := by decide +kernel
theorem dX5_chooseMove_35 : decode cX5_chooseMove 35 = .ok (.ifCond .eq 12, 3) := by decide +kernel
theorem dX5_chooseMove_38 : decode cX5_chooseMove 38 = .ok (.aload 4, 2) := by decide +kernel
theorem dX5_chooseMove_40 : decode cX5_chooseMove 40 = .ok (.getfield 82, 3) := by decide +kernel
theorem dX5_chooseMove_43 : decode cX5_chooseMove 43 = .ok (.iload_n 3, 1) := by decide +kernel
theorem dX5_chooseMove_44 : decode cX5_chooseMove 44 = .ok (.if_icmp .ne 5, 3) := by decide +kernel
theorem dX5_chooseMove_47 : decode cX5_chooseMove 47 = .ok (.iconst 0, 1) := by decide +kernel
theorem dX5_chooseMove_48 : decode cX5_chooseMove 48 = .ok (.ireturn, 1) := by decide +kernel
theorem dX5_chooseMove_49 : decode cX5_chooseMove 49 = .ok (.aload_n 0, 1) := by decide +kernel
theorem dX5_chooseMove_50 : decode cX5_chooseMove 50 = .ok (.getfield 45, 3) := by decide +kernel
theorem dX5_chooseMove_53 : decode cX5_chooseMove 53 = .ok (.iload_n 1, 1) := by decide +kernel
theorem dX5_chooseMove_54 : decode cX5_chooseMove 54 = .ok (.aload_n 0, 1) := by decide +kernel
theorem dX5_chooseMove_55 : decode cX5_chooseMove 55 = .ok (.getfield 45, 3) := by decide +kernel
theorem dX5_chooseMove_58 : decode cX5_chooseMove 58 = .ok (.iload_n 1, 1) := by decide +kernel
theorem dX5_chooseMove_59 : decode cX5_chooseMove 59 = .ok (.iconst 1, 1) := by decide +kernel
theorem dX5_chooseMove_60 : decode cX5_chooseMove 60 = .ok (.isub, 1) := by decide +kernel
theorem dX5_chooseMove_61 : decode cX5_chooseMove 61 = .ok (.iaload, 1) := by decide +kernel
theorem dX5_chooseMove_62 : decode cX5_chooseMove 62 = .ok (.aload_n 0, 1) := by decide +kernel
theorem dX5_chooseMove_63 : decode cX5_chooseMove 63 = .ok (.aload 4, 2) := by decide +kernel
theorem dX5_chooseMove_65 : decode cX5_chooseMove 65 = .ok (.invokevirtual 126, 3) := by decide +kernel
theorem dX5_chooseMove_68 : decode cX5_chooseMove 68 = .ok (.ifCond .eq 7, 3) := by decide +kernel
theorem dX5_chooseMove_71 : decode cX5_chooseMove 71 = .ok (.iconst 1, 1) := by decide +kernel
theorem dX5_chooseMove_72 : decode cX5_chooseMove 72 = .ok (.goto 4, 3) := by decide +kernel
theorem dX5_chooseMove_75 : decode cX5_chooseMove 75 = .ok (.iconst 0, 1) := by decide +kernel
theorem dX5_chooseMove_76 : decode cX5_chooseMove 76 = .ok (.isub, 1) := by decide +kernel
theorem dX5_chooseMove_77 : decode cX5_chooseMove 77 = .ok (.iastore, 1) := by decide +kernel
theorem dX5_chooseMove_78 : decode cX5_chooseMove 78 = .ok (.aload_n 0, 1) := by decide +kernel
theorem dX5_chooseMove_79 : decode cX5_chooseMove 79 = .ok (.getfield 45, 3) := by decide +kernel
theorem dX5_chooseMove_82 : decode cX5_chooseMove 82 = .ok (.iload_n 1, 1) := by decide +kernel
theorem dX5_chooseMove_83 : decode cX5_chooseMove 83 = .ok (.iaload, 1) := by decide +kernel
theorem dX5_chooseMove_84 : decode cX5_chooseMove 84 = .ok (.aload_n 0, 1) := by decide +kernel
theorem dX5_chooseMove_85 : decode cX5_chooseMove 85 = .ok (.getfield 67, 3) := by decide +kernel
theorem dX5_chooseMove_88 : decode cX5_chooseMove 88 = .ok (.iload_n 1, 1) := by decide +kernel
theorem dX5_chooseMove_89 : decode cX5_chooseMove 89 = .ok (.isub, 1) := by decide +kernel
theorem dX5_chooseMove_90 : decode cX5_chooseMove 90 = .ok (.if_icmp .gt 16, 3) := by decide +kernel
theorem dX5_chooseMove_93 : decode cX5_chooseMove 93 = .ok (.aload_n 0, 1) := by decide +kernel
theorem dX5_chooseMove_94 : decode cX5_chooseMove 94 = .ok (.getfield 12, 3) := by decide +kernel
theorem dX5_chooseMove_97 : decode cX5_chooseMove 97 = .ok (.aload 4, 2) := by decide +kernel
theorem dX5_chooseMove_99 : decode cX5_chooseMove 99 = .ok (.iload_n 3, 1) := by decide +kernel
theorem dX5_chooseMove_100 : decode cX5_chooseMove 100 = .ok (.invokevirtual 130, 3) := by decide +kernel
theorem dX5_chooseMove_103 : decode cX5_chooseMove 103 = .ok (.ifCond .ne 5, 3) := by decide +kernel
theorem dX5_chooseMove_106 : decode cX5_chooseMove 106 = .ok (.iconst 0, 1) := by decide +kernel
theorem dX5_chooseMove_107 : decode cX5_chooseMove 107 = .ok (.ireturn, 1) := by decide +kernel
theorem dX5_chooseMove_108 : decode cX5_chooseMove 108 = .ok (.aload_n 0, 1) := by decide +kernel
theorem dX5_chooseMove_109 : decode cX5_chooseMove 109 = .ok (.getfield 25, 3) := by decide +kernel
theorem dX5_chooseMove_112 : decode cX5_chooseMove 112 = .ok (.iload_n 1, 1) := by decide +kernel
theorem dX5_chooseMove_113 : decode cX5_chooseMove 113 = .ok (.aload 4, 2) := by decide +kernel
theorem dX5_chooseMove_115 : decode cX5_chooseMove 115 = .ok (.aastore, 1) := by decide +kernel
theorem dX5_chooseMove_116 : decode cX5_chooseMove 116 = .ok (.aload_n 0, 1) := by decide +kernel
theorem dX5_chooseMove_117 : decode cX5_chooseMove 117 = .ok (.getfield 29, 3) := by decide +kernel
theorem dX5_chooseMove_120 : decode cX5_chooseMove 120 = .ok (.iload_n 1, 1) := by decide +kernel
theorem dX5_chooseMove_121 : decode cX5_chooseMove 121 = .ok (.iload_n 2, 1) := by decide +kernel
theorem dX5_chooseMove_122 : decode cX5_chooseMove 122 = .ok (.iastore, 1) := by decide +kernel
theorem dX5_chooseMove_123 : decode cX5_chooseMove 123 = .ok (.aload_n 0, 1) := by decide +kernel
theorem dX5_chooseMove_124 : decode cX5_chooseMove 124 = .ok (.getfield 33, 3) := by decide +kernel
theorem dX5_chooseMove_127 : decode cX5_chooseMove 127 = .ok (.iload_n 1, 1) := by decide +kernel
theorem dX5_chooseMove_128 : decode cX5_chooseMove 128 = .ok (.aload 4, 2) := by decide +kernel
theorem dX5_chooseMove_130 : decode cX5_chooseMove 130 = .ok (.getfield 82, 3) := by decide +kernel
theorem dX5_chooseMove_133 : decode cX5_chooseMove 133 = .ok (.iastore, 1) := by decide +kernel
theorem dX5_chooseMove_134 : decode cX5_chooseMove 134 = .ok (.aload_n 0, 1) := by decide +kernel
theorem dX5_chooseMove_135 : decode cX5_chooseMove 135 = .ok (.getfield 36, 3) := by decide +kernel
theorem dX5_chooseMove_138 : decode cX5_chooseMove 138 = .ok (.iload_n 1, 1) := by decide +kernel
theorem dX5_chooseMove_139 : decode cX5_chooseMove 139 = .ok (.iload_n 3, 1) := by decide +kernel
theorem dX5_chooseMove_140 : decode cX5_chooseMove 140 = .ok (.iastore, 1) := by decide +kernel
theorem dX5_chooseMove_141 : decode cX5_chooseMove 141 = .ok (.aload_n 0, 1) := by decide +kernel
theorem dX5_chooseMove_142 : decode cX5_chooseMove 142 = .ok (.getfield 39, 3) := by decide +kernel
theorem dX5_chooseMove_145 : decode cX5_chooseMove 145 = .ok (.iload_n 1, 1) := by decide +kernel
theorem dX5_chooseMove_146 : decode cX5_chooseMove 146 = .ok (.aload_n 0, 1) := by decide +kernel
theorem dX5_chooseMove_147 : decode cX5_chooseMove 147 = .ok (.getfield 12, 3) := by decide +kernel
theorem dX5_chooseMove_150 : decode cX5_chooseMove 150 = .ok (.aload 4, 2) := by decide +kernel
theorem dX5_chooseMove_152 : decode cX5_chooseMove 152 = .ok (.getfield 82, 3) := by decide +kernel
theorem dX5_chooseMove_155 : decode cX5_chooseMove 155 = .ok (.invokevirtual 99, 3) := by decide +kernel
theorem dX5_chooseMove_158 : decode cX5_chooseMove 158 = .ok (.iastore, 1) := by decide +kernel
theorem dX5_chooseMove_159 : decode cX5_chooseMove 159 = .ok (.aload_n 0, 1) := by decide +kernel
theorem dX5_chooseMove_160 : decode cX5_chooseMove 160 = .ok (.getfield 42, 3) := by decide +kernel
theorem dX5_chooseMove_163 : decode cX5_chooseMove 163 = .ok (.iload_n 1, 1) := by decide +kernel
theorem dX5_chooseMove_164 : decode cX5_chooseMove 164 = .ok (.aload_n 0, 1) := by decide +kernel
theorem dX5_chooseMove_165 : decode cX5_chooseMove 165 = .ok (.getfield 12, 3) := by decide +kernel
theorem dX5_chooseMove_168 : decode cX5_chooseMove 168 = .ok (.iload_n 3, 1) := by decide +kernel
theorem dX5_chooseMove_169 : decode cX5_chooseMove 169 = .ok (.invokevirtual 99, 3) := by decide +kernel
theorem dX5_chooseMove_172 : decode cX5_chooseMove 172 = .ok (.iastore, 1) := by decide +kernel
theorem dX5_chooseMove_173 : decode cX5_chooseMove 173 = .ok (.iconst 1, 1) := by decide +kernel
theorem dX5_chooseMove_174 : decode cX5_chooseMove 174 = .ok (.ireturn, 1) := by decide +kernel
theorem dX5_isRight_0 : decode cX5_isRight 0 = .ok (.aload_n 0, 1) := by decide +kernel
theorem dX5_isRight_1 : decode cX5_isRight 1 = .ok (.invokevirtual 154, 3) := by decide +kernel
theorem dX5_isRight_4 : decode cX5_isRight 4 = .ok (.ifCond .eq 46, 3) := by decide +kernel
theorem dX5_isRight_7 : decode cX5_isRight 7 = .ok (.aload_n 0, 1) := by decide +kernel
theorem dX5_isRight_8 : decode cX5_isRight 8 = .ok (.getfield 12, 3) := by decide +kernel
theorem dX5_isRight_11 : decode cX5_isRight 11 = .ok (.aload_n 0, 1) := by decide +kernel
theorem dX5_isRight_12 : decode cX5_isRight 12 = .ok (.getfield 21, 3) := by decide +kernel
theorem dX5_isRight_15 : decode cX5_isRight 15 = .ok (.aload_n 0, 1) := by decide +kernel
theorem dX5_isRight_16 : decode cX5_isRight 16 = .ok (.getfield 52, 3) := by decide +kernel
theorem dX5_isRight_19 : decode cX5_isRight 19 = .ok (.aload_n 0, 1) := by decide +kernel
theorem dX5_isRight_20 : decode cX5_isRight 20 = .ok (.getfield 36, 3) := by decide +kernel
theorem dX5_isRight_23 : decode cX5_isRight 23 = .ok (.iconst 0, 1) := by decide +kernel
theorem dX5_isRight_24 : decode cX5_isRight 24 = .ok (.iaload, 1) := by decide +kernel
theorem dX5_isRight_25 : decode cX5_isRight 25 = .ok (.laload, 1) := by decide +kernel
theorem dX5_isRight_26 : decode cX5_isRight 26 = .ok (.invokevirtual 157, 3) := by decide +kernel
theorem dX5_isRight_29 : decode cX5_isRight 29 = .ok (.ifCond .ne 21, 3) := by decide +kernel
theorem dX5_isRight_32 : decode cX5_isRight 32 = .ok (.aload_n 0, 1) := by decide +kernel
theorem dX5_isRight_33 : decode cX5_isRight 33 = .ok (.invokevirtual 161, 3) := by decide +kernel
theorem dX5_isRight_36 : decode cX5_isRight 36 = .ok (.ifCond .eq 14, 3) := by decide +kernel
theorem dX5_isRight_39 : decode cX5_isRight 39 = .ok (.aload_n 0, 1) := by decide +kernel
theorem dX5_isRight_40 : decode cX5_isRight 40 = .ok (.invokevirtual 164, 3) := by decide +kernel
theorem dX5_isRight_43 : decode cX5_isRight 43 = .ok (.ifCond .ne 7, 3) := by decide +kernel
theorem dX5_isRight_46 : decode cX5_isRight 46 = .ok (.iconst 1, 1) := by decide +kernel
theorem dX5_isRight_47 : decode cX5_isRight 47 = .ok (.goto 4, 3) := by decide +kernel
theorem dX5_isRight_50 : decode cX5_isRight 50 = .ok (.iconst 0, 1) := by decide +kernel
theorem dX5_isRight_51 : decode cX5_isRight 51 = .ok (.ireturn, 1) := by decide +kernel
theorem dX5_seatAll_0 : decode cX5_seatAll 0 = .ok (.iconst 0, 1) := by decide +kernel
theorem dX5_seatAll_1 : decode cX5_seatAll 1 = .ok (.istore_n 1, 1) := by decide +kernel
theorem dX5_seatAll_2 : decode cX5_seatAll 2 = .ok (.iload_n 1, 1) := by decide +kernel
theorem dX5_seatAll_3 : decode cX5_seatAll 3 = .ok (.aload_n 0, 1) := by decide +kernel
theorem dX5_seatAll_4 : decode cX5_seatAll 4 = .ok (.getfield 12, 3) := by decide +kernel
theorem dX5_seatAll_7 : decode cX5_seatAll 7 = .ok (.getfield 71, 3) := by decide +kernel
theorem dX5_seatAll_10 : decode cX5_seatAll 10 = .ok (.if_icmp .ge 21, 3) := by decide +kernel
theorem dX5_seatAll_13 : decode cX5_seatAll 13 = .ok (.aload_n 0, 1) := by decide +kernel
theorem dX5_seatAll_14 : decode cX5_seatAll 14 = .ok (.getfield 52, 3) := by decide +kernel
theorem dX5_seatAll_17 : decode cX5_seatAll 17 = .ok (.iload_n 1, 1) := by decide +kernel
theorem dX5_seatAll_18 : decode cX5_seatAll 18 = .ok (.aload_n 0, 1) := by decide +kernel
theorem dX5_seatAll_19 : decode cX5_seatAll 19 = .ok (.getfield 48, 3) := by decide +kernel
theorem dX5_seatAll_22 : decode cX5_seatAll 22 = .ok (.iload_n 1, 1) := by decide +kernel
theorem dX5_seatAll_23 : decode cX5_seatAll 23 = .ok (.laload, 1) := by decide +kernel
theorem dX5_seatAll_24 : decode cX5_seatAll 24 = .ok (.lastore, 1) := by decide +kernel
theorem dX5_seatAll_25 : decode cX5_seatAll 25 = .ok (.iinc 1 1, 3) := by decide +kernel
theorem dX5_seatAll_28 : decode cX5_seatAll 28 = .ok (.goto (-26), 3) := by decide +kernel
theorem dX5_seatAll_31 : decode cX5_seatAll 31 = .ok (.iconst 1, 1) := by decide +kernel
theorem dX5_seatAll_32 : decode cX5_seatAll 32 = .ok (.istore_n 1, 1) := by decide +kernel
theorem dX5_seatAll_33 : decode cX5_seatAll 33 = .ok (.iload_n 1, 1) := by decide +kernel
theorem dX5_seatAll_34 : decode cX5_seatAll 34 = .ok (.aload_n 0, 1) := by decide +kernel
theorem dX5_seatAll_35 : decode cX5_seatAll 35 = .ok (.getfield 67, 3) := by decide +kernel
theorem dX5_seatAll_38 : decode cX5_seatAll 38 = .ok (.if_icmp .gt 36, 3) := by decide +kernel
theorem dX5_seatAll_41 : decode cX5_seatAll 41 = .ok (.aload_n 0, 1) := by decide +kernel
theorem dX5_seatAll_42 : decode cX5_seatAll 42 = .ok (.getfield 52, 3) := by decide +kernel
theorem dX5_seatAll_45 : decode cX5_seatAll 45 = .ok (.aload_n 0, 1) := by decide +kernel
theorem dX5_seatAll_46 : decode cX5_seatAll 46 = .ok (.getfield 33, 3) := by decide +kernel
theorem dX5_seatAll_49 : decode cX5_seatAll 49 = .ok (.iload_n 1, 1) := by decide +kernel
theorem dX5_seatAll_50 : decode cX5_seatAll 50 = .ok (.iaload, 1) := by decide +kernel
theorem dX5_seatAll_51 : decode cX5_seatAll 51 = .ok (.dup2, 1) := by decide +kernel
theorem dX5_seatAll_52 : decode cX5_seatAll 52 = .ok (.laload, 1) := by decide +kernel
theorem dX5_seatAll_53 : decode cX5_seatAll 53 = .ok (.aload_n 0, 1) := by decide +kernel
theorem dX5_seatAll_54 : decode cX5_seatAll 54 = .ok (.getfield 25, 3) := by decide +kernel
theorem dX5_seatAll_57 : decode cX5_seatAll 57 = .ok (.iload_n 1, 1) := by decide +kernel
theorem dX5_seatAll_58 : decode cX5_seatAll 58 = .ok (.aaload, 1) := by decide +kernel
theorem dX5_seatAll_59 : decode cX5_seatAll 59 = .ok (.getfield 137, 3) := by decide +kernel
theorem dX5_seatAll_62 : decode cX5_seatAll 62 = .ok (.ldc2_w 167, 3) := by decide +kernel
theorem dX5_seatAll_65 : decode cX5_seatAll 65 = .ok (.lxor, 1) := by decide +kernel
theorem dX5_seatAll_66 : decode cX5_seatAll 66 = .ok (.land, 1) := by decide +kernel
theorem dX5_seatAll_67 : decode cX5_seatAll 67 = .ok (.lastore, 1) := by decide +kernel
theorem dX5_seatAll_68 : decode cX5_seatAll 68 = .ok (.iinc 1 1, 3) := by decide +kernel
theorem dX5_seatAll_71 : decode cX5_seatAll 71 = .ok (.goto (-38), 3) := by decide +kernel
theorem dX5_seatAll_74 : decode cX5_seatAll 74 = .ok (.iconst 0, 1) := by decide +kernel
theorem dX5_seatAll_75 : decode cX5_seatAll 75 = .ok (.istore_n 1, 1) := by decide +kernel
theorem dX5_seatAll_76 : decode cX5_seatAll 76 = .ok (.iload_n 1, 1) := by decide +kernel
theorem dX5_seatAll_77 : decode cX5_seatAll 77 = .ok (.aload_n 0, 1) := by decide +kernel
theorem dX5_seatAll_78 : decode cX5_seatAll 78 = .ok (.getfield 67, 3) := by decide +kernel
theorem dX5_seatAll_81 : decode cX5_seatAll 81 = .ok (.if_icmp .gt 60, 3) := by decide +kernel
theorem dX5_seatAll_84 : decode cX5_seatAll 84 = .ok (.aload_n 0, 1) := by decide +kernel
theorem dX5_seatAll_85 : decode cX5_seatAll 85 = .ok (.getfield 52, 3) := by decide +kernel
theorem dX5_seatAll_88 : decode cX5_seatAll 88 = .ok (.aload_n 0, 1) := by decide +kernel
theorem dX5_seatAll_89 : decode cX5_seatAll 89 = .ok (.getfield 36, 3) := by decide +kernel
theorem dX5_seatAll_92 : decode cX5_seatAll 92 = .ok (.iload_n 1, 1) := by decide +kernel
theorem dX5_seatAll_93 : decode cX5_seatAll 93 = .ok (.iaload, 1) := by decide +kernel
theorem dX5_seatAll_94 : decode cX5_seatAll 94 = .ok (.laload, 1) := by decide +kernel
theorem dX5_seatAll_95 : decode cX5_seatAll 95 = .ok (.aload_n 0, 1) := by decide +kernel
theorem dX5_seatAll_96 : decode cX5_seatAll 96 = .ok (.getfield 25, 3) := by decide +kernel
theorem dX5_seatAll_99 : decode cX5_seatAll 99 = .ok (.iload_n 1, 1) := by decide +kernel
theorem dX5_seatAll_100 : decode cX5_seatAll 100 = .ok (.aaload, 1) := by decide +kernel
theorem dX5_seatAll_101 : decode cX5_seatAll 101 = .ok (.getfield 137, 3) := by decide +kernel
theorem dX5_seatAll_104 : decode cX5_seatAll 104 = .ok (.land, 1) := by decide +kernel
theorem dX5_seatAll_105 : decode cX5_seatAll 105 = .ok (.lconst 0, 1) := by decide +kernel
theorem dX5_seatAll_106 : decode cX5_seatAll 106 = .ok (.lcmp, 1) := by decide +kernel
theorem dX5_seatAll_107 : decode cX5_seatAll 107 = .ok (.ifCond .eq 5, 3) := by decide +kernel
theorem dX5_seatAll_110 : decode cX5_seatAll 110 = .ok (.iconst 0, 1) := by decide +kernel
theorem dX5_seatAll_111 : decode cX5_seatAll 111 = .ok (.ireturn, 1) := by decide +kernel
theorem dX5_seatAll_112 : decode cX5_seatAll 112 = .ok (.aload_n 0, 1) := by decide +kernel
theorem dX5_seatAll_113 : decode cX5_seatAll 113 = .ok (.getfield 52, 3) := by decide +kernel
theorem dX5_seatAll_116 : decode cX5_seatAll 116 = .ok (.aload_n 0, 1) := by decide +kernel
theorem dX5_seatAll_117 : decode cX5_seatAll 117 = .ok (.getfield 36, 3) := by decide +kernel
theorem dX5_seatAll_120 : decode cX5_seatAll 120 = .ok (.iload_n 1, 1) := by decide +kernel
theorem dX5_seatAll_121 : decode cX5_seatAll 121 = .ok (.iaload, 1) := by decide +kernel
theorem dX5_seatAll_122 : decode cX5_seatAll 122 = .ok (.dup2, 1) := by decide +kernel
theorem dX5_seatAll_123 : decode cX5_seatAll 123 = .ok (.laload, 1) := by decide +kernel
theorem dX5_seatAll_124 : decode cX5_seatAll 124 = .ok (.aload_n 0, 1) := by decide +kernel
theorem dX5_seatAll_125 : decode cX5_seatAll 125 = .ok (.getfield 25, 3) := by decide +kernel
theorem dX5_seatAll_128 : decode cX5_seatAll 128 = .ok (.iload_n 1, 1) := by decide +kernel
theorem dX5_seatAll_129 : decode cX5_seatAll 129 = .ok (.aaload, 1) := by decide +kernel
theorem dX5_seatAll_130 : decode cX5_seatAll 130 = .ok (.getfield 137, 3) := by decide +kernel
theorem dX5_seatAll_133 : decode cX5_seatAll 133 = .ok (.lor, 1) := by decide +kernel
theorem dX5_seatAll_134 : decode cX5_seatAll 134 = .ok (.lastore, 1) := by decide +kernel
theorem dX5_seatAll_135 : decode cX5_seatAll 135 = .ok (.iinc 1 1, 3) := by decide +kernel
theorem dX5_seatAll_138 : decode cX5_seatAll 138 = .ok (.goto (-62), 3) := by decide +kernel
theorem dX5_seatAll_141 : decode cX5_seatAll 141 = .ok (.iconst 1, 1) := by decide +kernel
theorem dX5_seatAll_142 : decode cX5_seatAll 142 = .ok (.ireturn, 1) := by decide +kernel
theorem dX5_hasPower_0 : decode cX5_hasPower 0 = .ok (.iconst 0, 1) := by decide +kernel
theorem dX5_hasPower_1 : decode cX5_hasPower 1 = .ok (.istore_n 1, 1) := by decide +kernel
theorem dX5_hasPower_2 : decode cX5_hasPower 2 = .ok (.iload_n 1, 1) := by decide +kernel
theorem dX5_hasPower_3 : decode cX5_hasPower 3 = .ok (.aload_n 0, 1) := by decide +kernel
theorem dX5_hasPower_4 : decode cX5_hasPower 4 = .ok (.getfield 67, 3) := by decide +kernel
theorem dX5_hasPower_7 : decode cX5_hasPower 7 = .ok (.if_icmp .gt 88, 3) := by decide +kernel
theorem dX5_hasPower_10 : decode cX5_hasPower 10 = .ok (.aload_n 0, 1) := by decide +kernel
theorem dX5_hasPower_11 : decode cX5_hasPower 11 = .ok (.getfield 42, 3) := by decide +kernel
theorem dX5_hasPower_14 : decode cX5_hasPower 14 = .ok (.iload_n 1, 1) := by decide +kernel
theorem dX5_hasPower_15 : decode cX5_hasPower 15 = .ok (.iaload, 1) := by decide +kernel
theorem dX5_hasPower_16 : decode cX5_hasPower 16 = .ok (.istore_n 2, 1) := by decide +kernel
theorem dX5_hasPower_17 : decode cX5_hasPower 17 = .ok (.aload_n 0, 1) := by decide +kernel
theorem dX5_hasPower_18 : decode cX5_hasPower 18 = .ok (.getfield 25, 3) := by decide +kernel
theorem dX5_hasPower_21 : decode cX5_hasPower 21 = .ok (.iload_n 1, 1) := by decide +kernel
theorem dX5_hasPower_22 : decode cX5_hasPower 22 = .ok (.aaload, 1) := by decide +kernel
theorem dX5_hasPower_23 : decode cX5_hasPower 23 = .ok (.astore_n 3, 1) := by decide +kernel
theorem dX5_hasPower_24 : decode cX5_hasPower 24 = .ok (.iload_n 2, 1) := by decide +kernel
theorem dX5_hasPower_25 : decode cX5_hasPower 25 = .ok (.invokestatic 107, 3) := by decide +kernel
theorem dX5_hasPower_28 : decode cX5_hasPower 28 = .ok (.ifCond .eq 15, 3) := by decide +kernel
theorem dX5_hasPower_31 : decode cX5_hasPower 31 = .ok (.aload_n 3, 1) := by decide +kernel
theorem dX5_hasPower_32 : decode cX5_hasPower 32 = .ok (.getfield 114, 3) := by decide +kernel
theorem dX5_hasPower_35 : decode cX5_hasPower 35 = .ok (.aload_n 3, 1) := by decide +kernel
theorem dX5_hasPower_36 : decode cX5_hasPower 36 = .ok (.getfield 117, 3) := by decide +kernel
theorem dX5_hasPower_39 : decode cX5_hasPower 39 = .ok (.iadd, 1) := by decide +kernel
theorem dX5_hasPower_40 : decode cX5_hasPower 40 = .ok (.goto 7, 3) := by decide +kernel
theorem dX5_hasPower_43 : decode cX5_hasPower 43 = .ok (.aload_n 3, 1) := by decide +kernel
theorem dX5_hasPower_44 : decode cX5_hasPower 44 = .ok (.getfield 114, 3) := by decide +kernel
theorem dX5_hasPower_47 : decode cX5_hasPower 47 = .ok (.istore 4, 2) := by decide +kernel
theorem dX5_hasPower_49 : decode cX5_hasPower 49 = .ok (.aload_n 3, 1) := by decide +kernel
theorem dX5_hasPower_50 : decode cX5_hasPower 50 = .ok (.getfield 114, 3) := by decide +kernel
theorem dX5_hasPower_53 : decode cX5_hasPower 53 = .ok (.istore 5, 2) := by decide +kernel
theorem dX5_hasPower_55 : decode cX5_hasPower 55 = .ok (.iload 5, 2) := by decide +kernel
theorem dX5_hasPower_57 : decode cX5_hasPower 57 = .ok (.iload 4, 2) := by decide +kernel
theorem dX5_hasPower_59 : decode cX5_hasPower 59 = .ok (.if_icmp .ge 30, 3) := by decide +kernel
theorem dX5_hasPower_62 : decode cX5_hasPower 62 = .ok (.aload_n 0, 1) := by decide +kernel
theorem dX5_hasPower_63 : decode cX5_hasPower 63 = .ok (.iload_n 2, 1) := by decide +kernel
theorem dX5_hasPower_64 : decode cX5_hasPower 64 = .ok (.iload 5, 2) := by decide +kernel
theorem dX5_hasPower_66 : decode cX5_hasPower 66 = .ok (.invokevirtual 169, 3) := by decide +kernel
theorem dX5_hasPower_69 : decode cX5_hasPower 69 = .ok (.aload_n 0, 1) := by decide +kernel
theorem dX5_hasPower_70 : decode cX5_hasPower 70 = .ok (.getfield 12, 3) := by decide +kernel
theorem dX5_hasPower_73 : decode cX5_hasPower 73 = .ok (.getfield 173, 3) := by decide +kernel
theorem dX5_hasPower_76 : decode cX5_hasPower 76 = .ok (.iload_n 2, 1) := by decide +kernel
theorem dX5_hasPower_77 : decode cX5_hasPower 77 = .ok (.iaload, 1) := by decide +kernel
theorem dX5_hasPower_78 : decode cX5_hasPower 78 = .ok (.if_icmp .le 5, 3) := by decide +kernel
theorem dX5_hasPower_81 : decode cX5_hasPower 81 = .ok (.iconst 0, 1) := by decide +kernel
theorem dX5_hasPower_82 : decode cX5_hasPower 82 = .ok (.ireturn, 1) := by decide +kernel
theorem dX5_hasPower_83 : decode cX5_hasPower 83 = .ok (.iinc 5 1, 3) := by decide +kernel
theorem dX5_hasPower_86 : decode cX5_hasPower 86 = .ok (.goto (-31), 3) := by decide +kernel
theorem dX5_hasPower_89 : decode cX5_hasPower 89 = .ok (.iinc 1 1, 3) := by decide +kernel
theorem dX5_hasPower_92 : decode cX5_hasPower 92 = .ok (.goto (-90), 3) := by decide +kernel
theorem dX5_hasPower_95 : decode cX5_hasPower 95 = .ok (.iconst 1, 1) := by decide +kernel
theorem dX5_hasPower_96 : decode cX5_hasPower 96 = .ok (.ireturn, 1) := by decide +kernel
theorem dX5_plannedLoad_0 : decode cX5_plannedLoad 0 = .ok (.aload_n 0, 1) := by decide +kernel
theorem dX5_plannedLoad_1 : decode cX5_plannedLoad 1 = .ok (.getfield 55, 3) := by decide +kernel
theorem dX5_plannedLoad_4 : decode cX5_plannedLoad 4 = .ok (.iload_n 1, 1) := by decide +kernel
theorem dX5_plannedLoad_5 : decode cX5_plannedLoad 5 = .ok (.bipush 60, 2) := by decide +kernel
theorem dX5_plannedLoad_7 : decode cX5_plannedLoad 7 = .ok (.imul, 1) := by decide +kernel
theorem dX5_plannedLoad_8 : decode cX5_plannedLoad 8 = .ok (.iload_n 2, 1) := by decide +kernel
theorem dX5_plannedLoad_9 : decode cX5_plannedLoad 9 = .ok (.iadd, 1) := by decide +kernel
theorem dX5_plannedLoad_10 : decode cX5_plannedLoad 10 = .ok (.iaload, 1) := by decide +kernel
theorem dX5_plannedLoad_11 : decode cX5_plannedLoad 11 = .ok (.istore_n 3, 1) := by decide +kernel
theorem dX5_plannedLoad_12 : decode cX5_plannedLoad 12 = .ok (.iconst 0, 1) := by decide +kernel
theorem dX5_plannedLoad_13 : decode cX5_plannedLoad 13 = .ok (.istore 4, 2) := by decide +kernel
theorem dX5_plannedLoad_15 : decode cX5_plannedLoad 15 = .ok (.iload 4, 2) := by decide +kernel
theorem dX5_plannedLoad_17 : decode cX5_plannedLoad 17 = .ok (.aload_n 0, 1) := by decide +kernel
theorem dX5_plannedLoad_18 : decode cX5_plannedLoad 18 = .ok (.getfield 67, 3) := by decide +kernel
theorem dX5_plannedLoad_21 : decode cX5_plannedLoad 21 = .ok (.if_icmp .gt 84, 3) := by decide +kernel
theorem dX5_plannedLoad_24 : decode cX5_plannedLoad 24 = .ok (.aload_n 0, 1) := by decide +kernel
theorem dX5_plannedLoad_25 : decode cX5_plannedLoad 25 = .ok (.getfield 25, 3) := by decide +kernel
theorem dX5_plannedLoad_28 : decode cX5_plannedLoad 28 = .ok (.iload 4, 2) := by decide +kernel
theorem dX5_plannedLoad_30 : decode cX5_plannedLoad 30 = .ok (.aaload, 1) := by decide +kernel
theorem dX5_plannedLoad_31 : decode cX5_plannedLoad 31 = .ok (.getfield 137, 3) := by decide +kernel
theorem dX5_plannedLoad_34 : decode cX5_plannedLoad 34 = .ok (.iload_n 2, 1) := by decide +kernel
theorem dX5_plannedLoad_35 : decode cX5_plannedLoad 35 = .ok (.lushr, 1) := by decide +kernel
theorem dX5_plannedLoad_36 : decode cX5_plannedLoad 36 = .ok (.lconst 1, 1) := by decide +kernel
theorem dX5_plannedLoad_37 : decode cX5_plannedLoad 37 = .ok (.land, 1) := by decide +kernel
theorem dX5_plannedLoad_38 : decode cX5_plannedLoad 38 = .ok (.lconst 0, 1) := by decide +kernel
theorem dX5_plannedLoad_39 : decode cX5_plannedLoad 39 = .ok (.lcmp, 1) := by decide +kernel
theorem dX5_plannedLoad_40 : decode cX5_plannedLoad 40 = .ok (.ifCond .eq 59, 3) := by decide +kernel
theorem dX5_plannedLoad_43 : decode cX5_plannedLoad 43 = .ok (.iload_n 3, 1) := by decide +kernel
theorem dX5_plannedLoad_44 : decode cX5_plannedLoad 44 = .ok (.aload_n 0, 1) := by decide +kernel
theorem dX5_plannedLoad_45 : decode cX5_plannedLoad 45 = .ok (.getfield 42, 3) := by decide +kernel
theorem dX5_plannedLoad_48 : decode cX5_plannedLoad 48 = .ok (.iload 4, 2) := by decide +kernel
theorem dX5_plannedLoad_50 : decode cX5_plannedLoad 50 = .ok (.iaload, 1) := by decide +kernel
theorem dX5_plannedLoad_51 : decode cX5_plannedLoad 51 = .ok (.iload_n 1, 1) := by decide +kernel
theorem dX5_plannedLoad_52 : decode cX5_plannedLoad 52 = .ok (.if_icmp .ne 16, 3) := by decide +kernel
theorem dX5_plannedLoad_55 : decode cX5_plannedLoad 55 = .ok (.aload_n 0, 1) := by decide +kernel
theorem dX5_plannedLoad_56 : decode cX5_plannedLoad 56 = .ok (.getfield 25, 3) := by decide +kernel
theorem dX5_plannedLoad_59 : decode cX5_plannedLoad 59 = .ok (.iload 4, 2) := by decide +kernel
theorem dX5_plannedLoad_61 : decode cX5_plannedLoad 61 = .ok (.aaload, 1) := by decide +kernel
theorem dX5_plannedLoad_62 : decode cX5_plannedLoad 62 = .ok (.getfield 120, 3) := by decide +kernel
theorem dX5_plannedLoad_65 : decode cX5_plannedLoad 65 = .ok (.goto 4, 3) := by decide +kernel
theorem dX5_plannedLoad_68 : decode cX5_plannedLoad 68 = .ok (.iconst 0, 1) := by decide +kernel
theorem dX5_plannedLoad_69 : decode cX5_plannedLoad 69 = .ok (.iadd, 1) := by decide +kernel
theorem dX5_plannedLoad_70 : decode cX5_plannedLoad 70 = .ok (.istore_n 3, 1) := by decide +kernel
theorem dX5_plannedLoad_71 : decode cX5_plannedLoad 71 = .ok (.iload_n 3, 1) := by decide +kernel
theorem dX5_plannedLoad_72 : decode cX5_plannedLoad 72 = .ok (.aload_n 0, 1) := by decide +kernel
theorem dX5_plannedLoad_73 : decode cX5_plannedLoad 73 = .ok (.getfield 39, 3) := by decide +kernel
theorem dX5_plannedLoad_76 : decode cX5_plannedLoad 76 = .ok (.iload 4, 2) := by decide +kernel
theorem dX5_plannedLoad_78 : decode cX5_plannedLoad 78 = .ok (.iaload, 1) := by decide +kernel
theorem dX5_plannedLoad_79 : decode cX5_plannedLoad 79 = .ok (.iload_n 1, 1) := by decide +kernel
theorem dX5_plannedLoad_80 : decode cX5_plannedLoad 80 = .ok (.if_icmp .ne 16, 3) := by decide +kernel
theorem dX5_plannedLoad_83 : decode cX5_plannedLoad 83 = .ok (.aload_n 0, 1) := by decide +kernel
theorem dX5_plannedLoad_84 : decode cX5_plannedLoad 84 = .ok (.getfield 25, 3) := by decide +kernel
theorem dX5_plannedLoad_87 : decode cX5_plannedLoad 87 = .ok (.iload 4, 2) := by decide +kernel
theorem dX5_plannedLoad_89 : decode cX5_plannedLoad 89 = .ok (.aaload, 1) := by decide +kernel
theorem dX5_plannedLoad_90 : decode cX5_plannedLoad 90 = .ok (.getfield 120, 3) := by decide +kernel
theorem dX5_plannedLoad_93 : decode cX5_plannedLoad 93 = .ok (.goto 4, 3) := by decide +kernel
theorem dX5_plannedLoad_96 : decode cX5_plannedLoad 96 = .ok (.iconst 0, 1) := by decide +kernel
theorem dX5_plannedLoad_97 : decode cX5_plannedLoad 97 = .ok (.isub, 1) := by decide +kernel
theorem dX5_plannedLoad_98 : decode cX5_plannedLoad 98 = .ok (.istore_n 3, 1) := by decide +kernel
theorem dX5_plannedLoad_99 : decode cX5_plannedLoad 99 = .ok (.iinc 4 1, 3) := by decide +kernel
theorem dX5_plannedLoad_102 : decode cX5_plannedLoad 102 = .ok (.goto (-87), 3) := by decide +kernel
theorem dX5_plannedLoad_105 : decode cX5_plannedLoad 105 = .ok (.iload_n 3, 1) := by decide +kernel
theorem dX5_plannedLoad_106 : decode cX5_plannedLoad 106 = .ok (.ireturn, 1) := by decide +kernel
theorem dX5_makesGaps_0 : decode cX5_makesGaps 0 = .ok (.iconst 0, 1) := by decide +kernel
theorem dX5_makesGaps_1 : decode cX5_makesGaps 1 = .ok (.istore_n 1, 1) := by decide +kernel
theorem dX5_makesGaps_2 : decode cX5_makesGaps 2 = .ok (.iconst 0, 1) := by decide +kernel
theorem dX5_makesGaps_3 : decode cX5_makesGaps 3 = .ok (.istore_n 2, 1) := by decide +kernel
theorem dX5_makesGaps_4 : decode cX5_makesGaps 4 = .ok (.iload_n 2, 1) := by decide +kernel
theorem dX5_makesGaps_5 : decode cX5_makesGaps 5 = .ok (.aload_n 0, 1) := by decide +kernel
theorem dX5_makesGaps_6 : decode cX5_makesGaps 6 = .ok (.getfield 12, 3) := by decide +kernel
theorem dX5_makesGaps_9 : decode cX5_makesGaps 9 = .ok (.getfield 71, 3) := by decide +kernel
theorem dX5_makesGaps_12 : decode cX5_makesGaps 12 = .ok (.if_icmp .ge 61, 3) := by decide +kernel
theorem dX5_makesGaps_15 : decode cX5_makesGaps 15 = .ok (.aload_n 0, 1) := by decide +kernel
theorem dX5_makesGaps_16 : decode cX5_makesGaps 16 = .ok (.getfield 52, 3) := by decide +kernel
theorem dX5_makesGaps_19 : decode cX5_makesGaps 19 = .ok (.iload_n 2, 1) := by decide +kernel
theorem dX5_makesGaps_20 : decode cX5_makesGaps 20 = .ok (.laload, 1) := by decide +kernel
theorem dX5_makesGaps_21 : decode cX5_makesGaps 21 = .ok (.aload_n 0, 1) := by decide +kernel
theorem dX5_makesGaps_22 : decode cX5_makesGaps 22 = .ok (.getfield 48, 3) := by decide +kernel
theorem dX5_makesGaps_25 : decode cX5_makesGaps 25 = .ok (.iload_n 2, 1) := by decide +kernel
theorem dX5_makesGaps_26 : decode cX5_makesGaps 26 = .ok (.laload, 1) := by decide +kernel
theorem dX5_makesGaps_27 : decode cX5_makesGaps 27 = .ok (.lcmp, 1) := by decide +kernel
theorem dX5_makesGaps_28 : decode cX5_makesGaps 28 = .ok (.ifCond .eq 39, 3) := by decide +kernel
theorem dX5_makesGaps_31 : decode cX5_makesGaps 31 = .ok (.iload_n 1, 1) := by decide +kernel
theorem dX5_makesGaps_32 : decode cX5_makesGaps 32 = .ok (.aload_n 0, 1) := by decide +kernel
theorem dX5_makesGaps_33 : decode cX5_makesGaps 33 = .ok (.getfield 12, 3) := by decide +kernel
theorem dX5_makesGaps_36 : decode cX5_makesGaps 36 = .ok (.aload_n 0, 1) := by decide +kernel
theorem dX5_makesGaps_37 : decode cX5_makesGaps 37 = .ok (.getfield 52, 3) := by decide +kernel
theorem dX5_makesGaps_40 : decode cX5_makesGaps 40 = .ok (.iload_n 2, 1) := by decide +kernel
theorem dX5_makesGaps_41 : decode cX5_makesGaps 41 = .ok (.laload, 1) := by decide +kernel
theorem dX5_makesGaps_42 : decode cX5_makesGaps 42 = .ok (.invokevirtual 176, 3) := by decide +kernel
theorem dX5_makesGaps_45 : decode cX5_makesGaps 45 = .ok (.invokestatic 180, 3) := by decide +kernel
theorem dX5_makesGaps_48 : decode cX5_makesGaps 48 = .ok (.aload_n 0, 1) := by decide +kernel
theorem dX5_makesGaps_49 : decode cX5_makesGaps 49 = .ok (.getfield 12, 3) := by decide +kernel
theorem dX5_makesGaps_52 : decode cX5_makesGaps 52 = .ok (.aload_n 0, 1) := by decide +kernel
theorem dX5_makesGaps_53 : decode cX5_makesGaps 53 = .ok (.getfield 48, 3) := by decide +kernel
theorem dX5_makesGaps_56 : decode cX5_makesGaps 56 = .ok (.iload_n 2, 1) := by decide +kernel
theorem dX5_makesGaps_57 : decode cX5_makesGaps 57 = .ok (.laload, 1) := by decide +kernel
theorem dX5_makesGaps_58 : decode cX5_makesGaps 58 = .ok (.invokevirtual 176, 3) := by decide +kernel
theorem dX5_makesGaps_61 : decode cX5_makesGaps 61 = .ok (.invokestatic 180, 3) := by decide +kernel
theorem dX5_makesGaps_64 : decode cX5_makesGaps 64 = .ok (.isub, 1) := by decide +kernel
theorem dX5_makesGaps_65 : decode cX5_makesGaps 65 = .ok (.iadd, 1) := by decide +kernel
theorem dX5_makesGaps_66 : decode cX5_makesGaps 66 = .ok (.istore_n 1, 1) := by decide +kernel
theorem dX5_makesGaps_67 : decode cX5_makesGaps 67 = .ok (.iinc 2 1, 3) := by decide +kernel
theorem dX5_makesGaps_70 : decode cX5_makesGaps 70 = .ok (.goto (-66), 3) := by decide +kernel
theorem dX5_makesGaps_73 : decode cX5_makesGaps 73 = .ok (.iload_n 1, 1) := by decide +kernel
theorem dX5_makesGaps_74 : decode cX5_makesGaps 74 = .ok (.ifCond .le 7, 3) := by decide +kernel
theorem dX5_makesGaps_77 : decode cX5_makesGaps 77 = .ok (.iconst 1, 1) := by decide +kernel
theorem dX5_makesGaps_78 : decode cX5_makesGaps 78 = .ok (.goto 4, 3) := by decide +kernel
theorem dX5_makesGaps_81 : decode cX5_makesGaps 81 = .ok (.iconst 0, 1) := by decide +kernel
theorem dX5_makesGaps_82 : decode cX5_makesGaps 82 = .ok (.ireturn, 1) := by decide +kernel
theorem dX6_init_0 : decode cX6_init 0 = .ok (.aload_n 0, 1) := by decide +kernel
theorem dX6_init_1 : decode cX6_init 1 = .ok (.invokespecial 1, 3) := by decide +kernel
theorem dX6_init_4 : decode cX6_init 4 = .ok (.return_, 1) := by decide +kernel
theorem dX6_copyFrom_0 : decode cX6_copyFrom 0 = .ok (.aload_n 0, 1) := by decide +kernel
theorem dX6_copyFrom_1 : decode cX6_copyFrom 1 = .ok (.aload_n 1, 1) := by decide +kernel
theorem dX6_copyFrom_2 : decode cX6_copyFrom 2 = .ok (.getfield 7, 3) := by decide +kernel
theorem dX6_copyFrom_5 : decode cX6_copyFrom 5 = .ok (.putfield 7, 3) := by decide +kernel
theorem dX6_copyFrom_8 : decode cX6_copyFrom 8 = .ok (.aload_n 0, 1) := by decide +kernel
theorem dX6_copyFrom_9 : decode cX6_copyFrom 9 = .ok (.aload_n 1, 1) := by decide +kernel
theorem dX6_copyFrom_10 : decode cX6_copyFrom 10 = .ok (.getfield 13, 3) := by decide +kernel
theorem dX6_copyFrom_13 : decode cX6_copyFrom 13 = .ok (.putfield 13, 3) := by decide +kernel
theorem dX6_copyFrom_16 : decode cX6_copyFrom 16 = .ok (.aload_n 0, 1) := by decide +kernel
theorem dX6_copyFrom_17 : decode cX6_copyFrom 17 = .ok (.aload_n 1, 1) := by decide +kernel
theorem dX6_copyFrom_18 : decode cX6_copyFrom 18 = .ok (.getfield 16, 3) := by decide +kernel
theorem dX6_copyFrom_21 : decode cX6_copyFrom 21 = .ok (.putfield 16, 3) := by decide +kernel
theorem dX6_copyFrom_24 : decode cX6_copyFrom 24 = .ok (.return_, 1) := by decide +kernel
theorem dX7_init_0 : decode cX7_init 0 = .ok (.aload_n 0, 1) := by decide +kernel
theorem dX7_init_1 : decode cX7_init 1 = .ok (.invokespecial 3, 3) := by decide +kernel
theorem dX7_init_4 : decode cX7_init 4 = .ok (.aload_n 0, 1) := by decide +kernel
theorem dX7_init_5 : decode cX7_init 5 = .ok (.new 9, 3) := by decide +kernel
theorem dX7_init_8 : decode cX7_init 8 = .ok (.dup, 1) := by decide +kernel
theorem dX7_init_9 : decode cX7_init 9 = .ok (.invokespecial 11, 3) := by decide +kernel
theorem dX7_init_12 : decode cX7_init 12 = .ok (.putfield 12, 3) := by decide +kernel
theorem dX7_init_15 : decode cX7_init 15 = .ok (.aload_n 0, 1) := by decide +kernel
theorem dX7_init_16 : decode cX7_init 16 = .ok (.aload_n 0, 1) := by decide +kernel
theorem dX7_init_17 : decode cX7_init 17 = .ok (.getfield 12, 3) := by decide +kernel
theorem dX7_init_20 : decode cX7_init 20 = .ok (.getfield 16, 3) := by decide +kernel
theorem dX7_init_23 : decode cX7_init 23 = .ok (.putfield 20, 3) := by decide +kernel
theorem dX7_init_26 : decode cX7_init 26 = .ok (.aload_n 0, 1) := by decide +kernel
theorem dX7_init_27 : decode cX7_init 27 = .ok (.new 21, 3) := by decide +kernel
theorem dX7_init_30 : decode cX7_init 30 = .ok (.dup, 1) := by decide +kernel
theorem dX7_init_31 : decode cX7_init 31 = .ok (.invokespecial 23, 3) := by decide +kernel
theorem dX7_init_34 : decode cX7_init 34 = .ok (.putfield 24, 3) := by decide +kernel
theorem dX7_init_37 : decode cX7_init 37 = .ok (.aload_n 0, 1) := by decide +kernel
theorem dX7_init_38 : decode cX7_init 38 = .ok (.iconst 0, 1) := by decide +kernel
theorem dX7_init_39 : decode cX7_init 39 = .ok (.putfield 27, 3) := by decide +kernel
theorem dX7_init_42 : decode cX7_init 42 = .ok (.aload_n 0, 1) := by decide +kernel
theorem dX7_init_43 : decode cX7_init 43 = .ok (.new 31, 3) := by decide +kernel
theorem dX7_init_46 : decode cX7_init 46 = .ok (.dup, 1) := by decide +kernel
theorem dX7_init_47 : decode cX7_init 47 = .ok (.invokespecial 33, 3) := by decide +kernel
theorem dX7_init_50 : decode cX7_init 50 = .ok (.putfield 34, 3) := by decide +kernel
theorem dX7_init_53 : decode cX7_init 53 = .ok (.aload_n 0, 1) := by decide +kernel
theorem dX7_init_54 : decode cX7_init 54 = .ok (.new 38, 3) := by decide +kernel
theorem dX7_init_57 : decode cX7_init 57 = .ok (.dup, 1) := by decide +kernel
theorem dX7_init_58 : decode cX7_init 58 = .ok (.invokespecial 40, 3) := by decide +kernel
theorem dX7_init_61 : decode cX7_init 61 = .ok (.putfield 41, 3) := by decide +kernel
theorem dX7_init_64 : decode cX7_init 64 = .ok (.aload_n 0, 1) := by decide +kernel
theorem dX7_init_65 : decode cX7_init 65 = .ok (.iconst 0, 1) := by decide +kernel
theorem dX7_init_66 : decode cX7_init 66 = .ok (.putfield 45, 3) := by decide +kernel
theorem dX7_init_69 : decode cX7_init 69 = .ok (.aload_n 0, 1) := by decide +kernel
theorem dX7_init_70 : decode cX7_init 70 = .ok (.iconst 0, 1) := by decide +kernel
theorem dX7_init_71 : decode cX7_init 71 = .ok (.putfield 49, 3) := by decide +kernel
theorem dX7_init_74 : decode cX7_init 74 = .ok (.aload_n 0, 1) := by decide +kernel
theorem dX7_init_75 : decode cX7_init 75 = .ok (.bipush 6, 2) := by decide +kernel
theorem dX7_init_77 : decode cX7_init 77 = .ok (.newarray .int, 2) := by decide +kernel
theorem dX7_init_79 : decode cX7_init 79 = .ok (.putfield 52, 3) := by decide +kernel
theorem dX7_init_82 : decode cX7_init 82 = .ok (.return_, 1) := by decide +kernel
theorem dX7_addPitch_0 : decode cX7_addPitch 0 = .ok (.iload_n 1, 1) := by decide +kernel
theorem dX7_addPitch_1 : decode cX7_addPitch 1 = .ok (.iconst 0, 1) := by decide +kernel
theorem dX7_addPitch_2 : decode cX7_addPitch 2 = .ok (.iconst 2, 1) := by decide +kernel
theorem dX7_addPitch_3 : decode cX7_addPitch 3 = .ok (.invokestatic 56, 3) := by decide +kernel
theorem dX7_addPitch_6 : decode cX7_addPitch 6 = .ok (.ifCond .eq 33, 3) := by decide +kernel
theorem dX7_addPitch_9 : decode cX7_addPitch 9 = .ok (.iload_n 2, 1) := by decide +kernel
theorem dX7_addPitch_10 : decode cX7_addPitch 10 = .ok (.iconst 2, 1) := by decide +kernel
theorem dX7_addPitch_11 : decode cX7_addPitch 11 = .ok (.bipush 12, 2) := by decide +kernel
theorem dX7_addPitch_13 : decode cX7_addPitch 13 = .ok (.invokestatic 56, 3) := by decide +kernel
theorem dX7_addPitch_16 : decode cX7_addPitch 16 = .ok (.ifCond .eq 23, 3) := by decide +kernel
theorem dX7_addPitch_19 : decode cX7_addPitch 19 = .ok (.iload_n 3, 1) := by decide +kernel
theorem dX7_addPitch_20 : decode cX7_addPitch 20 = .ok (.iconst 2, 1) := by decide +kernel
theorem dX7_addPitch_21 : decode cX7_addPitch 21 = .ok (.bipush 12, 2) := by decide +kernel
theorem dX7_addPitch_23 : decode cX7_addPitch 23 = .ok (.invokestatic 56, 3) := by decide +kernel
theorem dX7_addPitch_26 : decode cX7_addPitch 26 = .ok (.ifCond .eq 13, 3) := by decide +kernel
theorem dX7_addPitch_29 : decode cX7_addPitch 29 = .ok (.iload 4, 2) := by decide +kernel
theorem dX7_addPitch_31 : decode cX7_addPitch 31 = .ok (.iconst (-1), 1) := by decide +kernel
theorem dX7_addPitch_32 : decode cX7_addPitch 32 = .ok (.iconst 2, 1) := by decide +kernel
theorem dX7_addPitch_33 : decode cX7_addPitch 33 = .ok (.invokestatic 56, 3) := by decide +kernel
theorem dX7_addPitch_36 : decode cX7_addPitch 36 = .ok (.ifCond .ne 13, 3) := by decide +kernel
theorem dX7_addPitch_39 : decode cX7_addPitch 39 = .ok (.new 60, 3) := by decide +kernel
theorem dX7_addPitch_42 : decode cX7_addPitch 42 = .ok (.dup, 1) := by decide +kernel
theorem dX7_addPitch_43 : decode cX7_addPitch 43 = .ok (.ldc 62, 2) := by decide +kernel
theorem dX7_addPitch_45 : decode cX7_addPitch 45 = .ok (.invokespecial 64, 3) := by decide +kernel
theorem dX7_addPitch_48 : decode cX7_addPitch 48 = .ok (.athrow, 1) := by decide +kernel
theorem dX7_addPitch_49 : decode cX7_addPitch 49 = .ok (.aload_n 0, 1) := by decide +kernel
theorem dX7_addPitch_50 : decode cX7_addPitch 50 = .ok (.getfield 20, 3) := by decide +kernel
theorem dX7_addPitch_53 : decode cX7_addPitch 53 = .ok (.getfield 67, 3) := by decide +kernel
theorem dX7_addPitch_56 : decode cX7_addPitch 56 = .ok (.bipush 6, 2) := by decide +kernel
theorem dX7_addPitch_58 : decode cX7_addPitch 58 = .ok (.if_icmp .lt 13, 3) := by decide +kernel
theorem dX7_addPitch_61 : decode cX7_addPitch 61 = .ok (.new 70, 3) := by decide +kernel
theorem dX7_addPitch_64 : decode cX7_addPitch 64 = .ok (.dup, 1) := by decide +kernel
theorem dX7_addPitch_65 : decode cX7_addPitch 65 = .ok (.ldc 72, 2) := by decide +kernel
theorem dX7_addPitch_67 : decode cX7_addPitch 67 = .ok (.invokespecial 74, 3) := by decide +kernel
theorem dX7_addPitch_70 : decode cX7_addPitch 70 = .ok (.athrow, 1) := by decide +kernel
theorem dX7_addPitch_71 : decode cX7_addPitch 71 = .ok (.aload_n 0, 1) := by decide +kernel
theorem dX7_addPitch_72 : decode cX7_addPitch 72 = .ok (.getfield 34, 3) := by decide +kernel
theorem dX7_addPitch_75 : decode cX7_addPitch 75 = .ok (.aload_n 0, 1) := by decide +kernel
theorem dX7_addPitch_76 : decode cX7_addPitch 76 = .ok (.getfield 20, 3) := by decide +kernel
theorem dX7_addPitch_79 : decode cX7_addPitch 79 = .ok (.invokevirtual 75, 3) := by decide +kernel
theorem dX7_addPitch_82 : decode cX7_addPitch 82 = .ok (.aload_n 0, 1) := by decide +kernel
theorem dX7_addPitch_83 : decode cX7_addPitch 83 = .ok (.getfield 20, 3) := by decide +kernel
theorem dX7_addPitch_86 : decode cX7_addPitch 86 = .ok (.iload_n 1, 1) := by decide +kernel
theorem dX7_addPitch_87 : decode cX7_addPitch 87 = .ok (.iload_n 2, 1) := by decide +kernel
theorem dX7_addPitch_88 : decode cX7_addPitch 88 = .ok (.iload_n 3, 1) := by decide +kernel
theorem dX7_addPitch_89 : decode cX7_addPitch 89 = .ok (.iload 4, 2) := by decide +kernel
theorem dX7_addPitch_91 : decode cX7_addPitch 91 = .ok (.invokevirtual 79, 3) := by decide +kernel
theorem dX7_addPitch_94 : decode cX7_addPitch 94 = .ok (.ireturn, 1) := by decide +kernel
theorem dX7_pitch_0 : decode cX7_pitch 0 = .ok (.aload_n 0, 1) := by decide +kernel
theorem dX7_pitch_1 : decode cX7_pitch 1 = .ok (.iload_n 1, 1) := by decide +kernel
theorem dX7_pitch_2 : decode cX7_pitch 2 = .ok (.invokevirtual 83, 3) := by decide +kernel
theorem dX7_pitch_5 : decode cX7_pitch 5 = .ok (.aload_n 0, 1) := by decide +kernel
theorem dX7_pitch_6 : decode cX7_pitch 6 = .ok (.getfield 20, 3) := by decide +kernel
theorem dX7_pitch_9 : decode cX7_pitch 9 = .ok (.getfield 87, 3) := by decide +kernel
theorem dX7_pitch_12 : decode cX7_pitch 12 = .ok (.iload_n 1, 1) := by decide +kernel
theorem dX7_pitch_13 : decode cX7_pitch 13 = .ok (.aaload, 1) := by decide +kernel
theorem dX7_pitch_14 : decode cX7_pitch 14 = .ok (.astore_n 3, 1) := by decide +kernel
theorem dX7_pitch_15 : decode cX7_pitch 15 = .ok (.iload_n 2, 1) := by decide +kernel
theorem dX7_pitch_16 : decode cX7_pitch 16 = .ok (.tableswitch 99 0 6 #[44, 49, 54, 59, 64, 69, 82], 44) := by decide +kernel
theorem dX7_pitch_60 : decode cX7_pitch 60 = .ok (.aload_n 3, 1) := by decide +kernel
theorem dX7_pitch_61 : decode cX7_pitch 61 = .ok (.getfield 91, 3) := by decide +kernel
theorem dX7_pitch_64 : decode cX7_pitch 64 = .ok (.ireturn, 1) := by decide +kernel
theorem dX7_pitch_65 : decode cX7_pitch 65 = .ok (.aload_n 3, 1) := by decide +kernel
theorem dX7_pitch_66 : decode cX7_pitch 66 = .ok (.getfield 96, 3) := by decide +kernel
theorem dX7_pitch_69 : decode cX7_pitch 69 = .ok (.ireturn, 1) := by decide +kernel
theorem dX7_pitch_70 : decode cX7_pitch 70 = .ok (.aload_n 3, 1) := by decide +kernel
theorem dX7_pitch_71 : decode cX7_pitch 71 = .ok (.getfield 99, 3) := by decide +kernel
theorem dX7_pitch_74 : decode cX7_pitch 74 = .ok (.ireturn, 1) := by decide +kernel
theorem dX7_pitch_75 : decode cX7_pitch 75 = .ok (.aload_n 3, 1) := by decide +kernel
theorem dX7_pitch_76 : decode cX7_pitch 76 = .ok (.getfield 102, 3) := by decide +kernel
theorem dX7_pitch_79 : decode cX7_pitch 79 = .ok (.ireturn, 1) := by decide +kernel
theorem dX7_pitch_80 : decode cX7_pitch 80 = .ok (.aload_n 3, 1) := by decide +kernel
theorem dX7_pitch_81 : decode cX7_pitch 81 = .ok (.getfield 105, 3) := by decide +kernel
theorem dX7_pitch_84 : decode cX7_pitch 84 = .ok (.ireturn, 1) := by decide +kernel
theorem dX7_pitch_85 : decode cX7_pitch 85 = .ok (.aload_n 0, 1) := by decide +kernel
theorem dX7_pitch_86 : decode cX7_pitch 86 = .ok (.getfield 20, 3) := by decide +kernel
theorem dX7_pitch_89 : decode cX7_pitch 89 = .ok (.iload_n 1, 1) := by decide +kernel
theorem dX7_pitch_90 : decode cX7_pitch 90 = .ok (.iconst (-1), 1) := by decide +kernel
theorem dX7_pitch_91 : decode cX7_pitch 91 = .ok (.invokevirtual 108, 3) := by decide +kernel
theorem dX7_pitch_94 : decode cX7_pitch 94 = .ok (.invokestatic 112, 3) := by decide +kernel
theorem dX7_pitch_97 : decode cX7_pitch 97 = .ok (.ireturn, 1) := by decide +kernel
theorem dX7_pitch_98 : decode cX7_pitch 98 = .ok (.aload_n 0, 1) := by decide +kernel
theorem dX7_pitch_99 : decode cX7_pitch 99 = .ok (.getfield 20, 3) := by decide +kernel
theorem dX7_pitch_102 : decode cX7_pitch 102 = .ok (.aload_n 0, 1) := by decide +kernel
theorem dX7_pitch_103 : decode cX7_pitch 103 = .ok (.getfield 20, 3) := by decide +kernel
theorem dX7_pitch_106 : decode cX7_pitch 106 = .ok (.iload_n 1, 1) := by decide +kernel
theorem dX7_pitch_107 : decode cX7_pitch 107 = .ok (.iconst (-1), 1) := by decide +kernel
theorem dX7_pitch_108 : decode cX7_pitch 108 = .ok (.invokevirtual 108, 3) := by decide +kernel
theorem dX7_pitch_111 : decode cX7_pitch 111 = .ok (.invokevirtual 118, 3) := by decide +kernel
theorem dX7_pitch_114 : decode cX7_pitch 114 = .ok (.ireturn, 1) := by decide +kernel
theorem dX7_pitch_115 : decode cX7_pitch 115 = .ok (.new 60, 3) := by decide +kernel
theorem dX7_pitch_118 : decode cX7_pitch 118 = .ok (.dup, 1) := by decide +kernel
theorem dX7_pitch_119 : decode cX7_pitch 119 = .ok (.ldc 121, 2) := by decide +kernel
theorem dX7_pitch_121 : decode cX7_pitch 121 = .ok (.invokespecial 64, 3) := by decide +kernel
theorem dX7_pitch_124 : decode cX7_pitch 124 = .ok (.athrow, 1) := by decide +kernel
theorem dX7_setLimit_0 : decode cX7_setLimit 0 = .ok (.iload_n 1, 1) := by decide +kernel
theorem dX7_setLimit_1 : decode cX7_setLimit 1 = .ok (.invokestatic 123, 3) := by decide +kernel
theorem dX7_setLimit_4 : decode cX7_setLimit 4 = .ok (.iload_n 2, 1) := by decide +kernel
theorem dX7_setLimit_5 : decode cX7_setLimit 5 = .ok (.iconst 0, 1) := by decide +kernel
theorem dX7_setLimit_6 : decode cX7_setLimit 6 = .ok (.bipush 40, 2) := by decide +kernel
theorem dX7_setLimit_8 : decode cX7_setLimit 8 = .ok (.invokestatic 56, 3) := by decide +kernel
theorem dX7_setLimit_11 : decode cX7_setLimit 11 = .ok (.ifCond .ne 13, 3) := by decide +kernel
theorem dX7_setLimit_14 : decode cX7_setLimit 14 = .ok (.new 60, 3) := by decide +kernel
theorem dX7_setLimit_17 : decode cX7_setLimit 17 = .ok (.dup, 1) := by decide +kernel
theorem dX7_setLimit_18 : decode cX7_setLimit 18 = .ok (.ldc 126, 2) := by decide +kernel
theorem dX7_setLimit_20 : decode cX7_setLimit 20 = .ok (.invokespecial 64, 3) := by decide +kernel
theorem dX7_setLimit_23 : decode cX7_setLimit 23 = .ok (.athrow, 1) := by decide +kernel
theorem dX7_setLimit_24 : decode cX7_setLimit 24 = .ok (.aload_n 0, 1) := by decide +kernel
theorem dX7_setLimit_25 : decode cX7_setLimit 25 = .ok (.getfield 34, 3) := by decide +kernel
theorem dX7_setLimit_28 : decode cX7_setLimit 28 = .ok (.aload_n 0, 1) := by decide +kernel
theorem dX7_setLimit_29 : decode cX7_setLimit 29 = .ok (.getfield 20, 3) := by decide +kernel
theorem dX7_setLimit_32 : decode cX7_setLimit 32 = .ok (.invokevirtual 75, 3) := by decide +kernel
theorem dX7_setLimit_35 : decode cX7_setLimit 35 = .ok (.aload_n 0, 1) := by decide +kernel
theorem dX7_setLimit_36 : decode cX7_setLimit 36 = .ok (.getfield 20, 3) := by decide +kernel
theorem dX7_setLimit_39 : decode cX7_setLimit 39 = .ok (.getfield 128, 3) := by decide +kernel
theorem dX7_setLimit_42 : decode cX7_setLimit 42 = .ok (.iload_n 1, 1) := by decide +kernel
theorem dX7_setLimit_43 : decode cX7_setLimit 43 = .ok (.iaload, 1) := by decide +kernel
theorem dX7_setLimit_44 : decode cX7_setLimit 44 = .ok (.istore_n 3, 1) := by decide +kernel
theorem dX7_setLimit_45 : decode cX7_setLimit 45 = .ok (.aload_n 0, 1) := by decide +kernel
theorem dX7_setLimit_46 : decode cX7_setLimit 46 = .ok (.getfield 20, 3) := by decide +kernel
theorem dX7_setLimit_49 : decode cX7_setLimit 49 = .ok (.getfield 128, 3) := by decide +kernel
theorem dX7_setLimit_52 : decode cX7_setLimit 52 = .ok (.iload_n 1, 1) := by decide +kernel
theorem dX7_setLimit_53 : decode cX7_setLimit 53 = .ok (.iload_n 2, 1) := by decide +kernel
theorem dX7_setLimit_54 : decode cX7_setLimit 54 = .ok (.iastore, 1) := by decide +kernel
theorem dX7_setLimit_55 : decode cX7_setLimit 55 = .ok (.iload_n 3, 1) := by decide +kernel
theorem dX7_setLimit_56 : decode cX7_setLimit 56 = .ok (.ireturn, 1) := by decide +kernel
theorem dX7_setRate_0 : decode cX7_setRate 0 = .ok (.aload_n 0, 1) := by decide +kernel
theorem dX7_setRate_1 : decode cX7_setRate 1 = .ok (.iload_n 1, 1) := by decide +kernel
theorem dX7_setRate_2 : decode cX7_setRate 2 = .ok (.invokevirtual 83, 3) := by decide +kernel
theorem dX7_setRate_5 : decode cX7_setRate 5 = .ok (.iload_n 2, 1) := by decide +kernel
theorem dX7_setRate_6 : decode cX7_setRate 6 = .ok (.iconst 1, 1) := by decide +kernel
theorem dX7_setRate_7 : decode cX7_setRate 7 = .ok (.bipush 99, 2) := by decide +kernel
theorem dX7_setRate_9 : decode cX7_setRate 9 = .ok (.invokestatic 56, 3) := by decide +kernel
theorem dX7_setRate_12 : decode cX7_setRate 12 = .ok (.ifCond .ne 13, 3) := by decide +kernel
theorem dX7_setRate_15 : decode cX7_setRate 15 = .ok (.new 60, 3) := by decide +kernel
theorem dX7_setRate_18 : decode cX7_setRate 18 = .ok (.dup, 1) := by decide +kernel
theorem dX7_setRate_19 : decode cX7_setRate 19 = .ok (.ldc 131, 2) := by decide +kernel
theorem dX7_setRate_21 : decode cX7_setRate 21 = .ok (.invokespecial 64, 3) := by decide +kernel
theorem dX7_setRate_24 : decode cX7_setRate 24 = .ok (.athrow, 1) := by decide +kernel
theorem dX7_setRate_25 : decode cX7_setRate 25 = .ok (.aload_n 0, 1) := by decide +kernel
theorem dX7_setRate_26 : decode cX7_setRate 26 = .ok (.getfield 34, 3) := by decide +kernel
theorem dX7_setRate_29 : decode cX7_setRate 29 = .ok (.aload_n 0, 1) := by decide +kernel
theorem dX7_setRate_30 : decode cX7_setRate 30 = .ok (.getfield 20, 3) := by decide +kernel
theorem dX7_setRate_33 : decode cX7_setRate 33 = .ok (.invokevirtual 75, 3) := by decide +kernel
theorem dX7_setRate_36 : decode cX7_setRate 36 = .ok (.aload_n 0, 1) := by decide +kernel
theorem dX7_setRate_37 : decode cX7_setRate 37 = .ok (.getfield 20, 3) := by decide +kernel
theorem dX7_setRate_40 : decode cX7_setRate 40 = .ok (.getfield 87, 3) := by decide +kernel
theorem dX7_setRate_43 : decode cX7_setRate 43 = .ok (.iload_n 1, 1) := by decide +kernel
theorem dX7_setRate_44 : decode cX7_setRate 44 = .ok (.aaload, 1) := by decide +kernel
theorem dX7_setRate_45 : decode cX7_setRate 45 = .ok (.getfield 105, 3) := by decide +kernel
theorem dX7_setRate_48 : decode cX7_setRate 48 = .ok (.istore_n 3, 1) := by decide +kernel
theorem dX7_setRate_49 : decode cX7_setRate 49 = .ok (.aload_n 0, 1) := by decide +kernel
theorem dX7_setRate_50 : decode cX7_setRate 50 = .ok (.getfield 20, 3) := by decide +kernel
theorem dX7_setRate_53 : decode cX7_setRate 53 = .ok (.getfield 87, 3) := by decide +kernel
theorem dX7_setRate_56 : decode cX7_setRate 56 = .ok (.iload_n 1, 1) := by decide +kernel
theorem dX7_setRate_57 : decode cX7_setRate 57 = .ok (.aaload, 1) := by decide +kernel
theorem dX7_setRate_58 : decode cX7_setRate 58 = .ok (.iload_n 2, 1) := by decide +kernel
theorem dX7_setRate_59 : decode cX7_setRate 59 = .ok (.putfield 105, 3) := by decide +kernel
theorem dX7_setRate_62 : decode cX7_setRate 62 = .ok (.iload_n 3, 1) := by decide +kernel
theorem dX7_setRate_63 : decode cX7_setRate 63 = .ok (.ireturn, 1) := by decide +kernel
theorem dX7_setGap_0 : decode cX7_setGap 0 = .ok (.iload_n 1, 1) := by decide +kernel
theorem dX7_setGap_1 : decode cX7_setGap 1 = .ok (.iconst 0, 1) := by decide +kernel
theorem dX7_setGap_2 : decode cX7_setGap 2 = .ok (.iconst 5, 1) := by decide +kernel
theorem dX7_setGap_3 : decode cX7_setGap 3 = .ok (.invokestatic 56, 3) := by decide +kernel
theorem dX7_setGap_6 : decode cX7_setGap 6 = .ok (.ifCond .ne 13, 3) := by decide +kernel
theorem dX7_setGap_9 : decode cX7_setGap 9 = .ok (.new 60, 3) := by decide +kernel
theorem dX7_setGap_12 : decode cX7_setGap 12 = .ok (.dup, 1) := by decide +kernel
theorem dX7_setGap_13 : decode cX7_setGap 13 = .ok (.ldc 133, 2) := by decide +kernel
theorem dX7_setGap_15 : decode cX7_setGap 15 = .ok (.invokespecial 64, 3) := by decide +kernel
theorem dX7_setGap_18 : decode cX7_setGap 18 = .ok (.athrow, 1) := by decide +kernel
theorem dX7_setGap_19 : decode cX7_setGap 19 = .ok (.aload_n 0, 1) := by decide +kernel
theorem dX7_setGap_20 : decode cX7_setGap 20 = .ok (.getfield 34, 3) := by decide +kernel
theorem dX7_setGap_23 : decode cX7_setGap 23 = .ok (.aload_n 0, 1) := by decide +kernel
theorem dX7_setGap_24 : decode cX7_setGap 24 = .ok (.getfield 20, 3) := by decide +kernel
theorem dX7_setGap_27 : decode cX7_setGap 27 = .ok (.invokevirtual 75, 3) := by decide +kernel
theorem dX7_setGap_30 : decode cX7_setGap 30 = .ok (.aload_n 0, 1) := by decide +kernel
theorem dX7_setGap_31 : decode cX7_setGap 31 = .ok (.getfield 20, 3) := by decide +kernel
theorem dX7_setGap_34 : decode cX7_setGap 34 = .ok (.getfield 135, 3) := by decide +kernel
theorem dX7_setGap_37 : decode cX7_setGap 37 = .ok (.istore_n 2, 1) := by decide +kernel
theorem dX7_setGap_38 : decode cX7_setGap 38 = .ok (.aload_n 0, 1) := by decide +kernel
theorem dX7_setGap_39 : decode cX7_setGap 39 = .ok (.getfield 20, 3) := by decide +kernel
theorem dX7_setGap_42 : decode cX7_setGap 42 = .ok (.iload_n 1, 1) := by decide +kernel
theorem dX7_setGap_43 : decode cX7_setGap 43 = .ok (.putfield 135, 3) := by decide +kernel
theorem dX7_setGap_46 : decode cX7_setGap 46 = .ok (.iload_n 2, 1) := by decide +kernel
theorem dX7_setGap_47 : decode cX7_setGap 47 = .ok (.ireturn, 1) := by decide +kernel
theorem dX7_addSeason_0 : decode cX7_addSeason 0 = .ok (.iload_n 1, 1) := by decide +kernel
theorem dX7_addSeason_1 : decode cX7_addSeason 1 = .ok (.invokestatic 138, 3) := by decide +kernel
theorem dX7_addSeason_4 : decode cX7_addSeason 4 = .ok (.ifCond .eq 25, 3) := by decide +kernel
theorem dX7_addSeason_7 : decode cX7_addSeason 7 = .ok (.iload_n 2, 1) := by decide +kernel
theorem dX7_addSeason_8 : decode cX7_addSeason 8 = .ok (.invokestatic 138, 3) := by decide +kernel
theorem dX7_addSeason_11 : decode cX7_addSeason 11 = .ok (.ifCond .eq 18, 3) := by decide +kernel
theorem dX7_addSeason_14 : decode cX7_addSeason 14 = .ok (.iload_n 2, 1) := by decide +kernel
theorem dX7_addSeason_15 : decode cX7_addSeason 15 = .ok (.iload_n 1, 1) := by decide +kernel
theorem dX7_addSeason_16 : decode cX7_addSeason 16 = .ok (.if_icmp .lt 13, 3) := by decide +kernel
theorem dX7_addSeason_19 : decode cX7_addSeason 19 = .ok (.iload_n 3, 1) := by decide +kernel
theorem dX7_addSeason_20 : decode cX7_addSeason 20 = .ok (.iconst 1, 1) := by decide +kernel
theorem dX7_addSeason_21 : decode cX7_addSeason 21 = .ok (.bipush 14, 2) := by decide +kernel
theorem dX7_addSeason_23 : decode cX7_addSeason 23 = .ok (.invokestatic 56, 3) := by decide +kernel
theorem dX7_addSeason_26 : decode cX7_addSeason 26 = .ok (.ifCond .ne 13, 3) := by decide +kernel
theorem dX7_addSeason_29 : decode cX7_addSeason 29 = .ok (.new 60, 3) := by decide +kernel
theorem dX7_addSeason_32 : decode cX7_addSeason 32 = .ok (.dup, 1) := by decide +kernel
theorem dX7_addSeason_33 : decode cX7_addSeason 33 = .ok (.ldc 142, 2) := by decide +kernel
theorem dX7_addSeason_35 : decode cX7_addSeason 35 = .ok (.invokespecial 64, 3) := by decide +kernel
theorem dX7_addSeason_38 : decode cX7_addSeason 38 = .ok (.athrow, 1) := by decide +kernel
theorem dX7_addSeason_39 : decode cX7_addSeason 39 = .ok (.aload_n 0, 1) := by decide +kernel
theorem dX7_addSeason_40 : decode cX7_addSeason 40 = .ok (.getfield 20, 3) := by decide +kernel
theorem dX7_addSeason_43 : decode cX7_addSeason 43 = .ok (.getfield 144, 3) := by decide +kernel
theorem dX7_addSeason_46 : decode cX7_addSeason 46 = .ok (.iconst 4, 1) := by decide +kernel
theorem dX7_addSeason_47 : decode cX7_addSeason 47 = .ok (.if_icmp .lt 13, 3) := by decide +kernel
theorem dX7_addSeason_50 : decode cX7_addSeason 50 = .ok (.new 70, 3) := by decide +kernel
theorem dX7_addSeason_53 : decode cX7_addSeason 53 = .ok (.dup, 1) := by decide +kernel
theorem dX7_addSeason_54 : decode cX7_addSeason 54 = .ok (.ldc 147, 2) := by decide +kernel
theorem dX7_addSeason_56 : decode cX7_addSeason 56 = .ok (.invokespecial 74, 3) := by decide +kernel
theorem dX7_addSeason_59 : decode cX7_addSeason 59 = .ok (.athrow, 1) := by decide +kernel
theorem dX7_addSeason_60 : decode cX7_addSeason 60 = .ok (.aload_n 0, 1) := by decide +kernel
theorem dX7_addSeason_61 : decode cX7_addSeason 61 = .ok (.getfield 34, 3) := by decide +kernel
theorem dX7_addSeason_64 : decode cX7_addSeason 64 = .ok (.aload_n 0, 1) := by decide +kernel
theorem dX7_addSeason_65 : decode cX7_addSeason 65 = .ok (.getfield 20, 3) := by decide +kernel
theorem dX7_addSeason_68 : decode cX7_addSeason 68 = .ok (.invokevirtual 75, 3) := by decide +kernel
theorem dX7_addSeason_71 : decode cX7_addSeason 71 = .ok (.aload_n 0, 1) := by decide +kernel
theorem dX7_addSeason_72 : decode cX7_addSeason 72 = .ok (.getfield 20, 3) := by decide +kernel
theorem dX7_addSeason_75 : decode cX7_addSeason 75 = .ok (.iload_n 1, 1) := by decide +kernel
theorem dX7_addSeason_76 : decode cX7_addSeason 76 = .ok (.iload_n 2, 1) := by decide +kernel
theorem dX7_addSeason_77 : decode cX7_addSeason 77 = .ok (.iload_n 3, 1) := by decide +kernel
theorem dX7_addSeason_78 : decode cX7_addSeason 78 = .ok (.invokevirtual 149, 3) := by decide +kernel
theorem dX7_addSeason_81 : decode cX7_addSeason 81 = .ok (.ireturn, 1) := by decide +kernel
theorem dX7_dropSeason_0 : decode cX7_dropSeason 0 = .ok (.aload_n 0, 1) := by decide +kernel
theorem dX7_dropSeason_1 : decode cX7_dropSeason 1 = .ok (.iload_n 1, 1) := by decide +kernel
theorem dX7_dropSeason_2 : decode cX7_dropSeason 2 = .ok (.invokevirtual 153, 3) := by decide +kernel
theorem dX7_dropSeason_5 : decode cX7_dropSeason 5 = .ok (.aload_n 0, 1) := by decide +kernel
theorem dX7_dropSeason_6 : decode cX7_dropSeason 6 = .ok (.getfield 34, 3) := by decide +kernel
theorem dX7_dropSeason_9 : decode cX7_dropSeason 9 = .ok (.aload_n 0, 1) := by decide +kernel
theorem dX7_dropSeason_10 : decode cX7_dropSeason 10 = .ok (.getfield 20, 3) := by decide +kernel
theorem dX7_dropSeason_13 : decode cX7_dropSeason 13 = .ok (.invokevirtual 75, 3) := by decide +kernel
theorem dX7_dropSeason_16 : decode cX7_dropSeason 16 = .ok (.aload_n 0, 1) := by decide +kernel
theorem dX7_dropSeason_17 : decode cX7_dropSeason 17 = .ok (.getfield 20, 3) := by decide +kernel
theorem dX7_dropSeason_20 : decode cX7_dropSeason 20 = .ok (.iload_n 1, 1) := by decide +kernel
theorem dX7_dropSeason_21 : decode cX7_dropSeason 21 = .ok (.invokevirtual 156, 3) := by decide +kernel
theorem dX7_dropSeason_24 : decode cX7_dropSeason 24 = .ok (.aload_n 0, 1) := by decide +kernel
theorem dX7_dropSeason_25 : decode cX7_dropSeason 25 = .ok (.getfield 20, 3) := by decide +kernel
theorem dX7_dropSeason_28 : decode cX7_dropSeason 28 = .ok (.getfield 144, 3) := by decide +kernel
theorem dX7_dropSeason_31 : decode cX7_dropSeason 31 = .ok (.ireturn, 1) := by decide +kernel
theorem dX7_season_0 : decode cX7_season 0 = .ok (.aload_n 0, 1) := by decide +kernel
theorem dX7_season_1 : decode cX7_season 1 = .ok (.iload_n 1, 1) := by decide +kernel
theorem dX7_season_2 : decode cX7_season 2 = .ok (.invokevirtual 153, 3) := by decide +kernel
theorem dX7_season_5 : decode cX7_season 5 = .ok (.aload_n 0, 1) := by decide +kernel
theorem dX7_season_6 : decode cX7_season 6 = .ok (.getfield 20, 3) := by decide +kernel
theorem dX7_season_9 : decode cX7_season 9 = .ok (.getfield 159, 3) := by decide +kernel
theorem dX7_season_12 : decode cX7_season 12 = .ok (.iload_n 1, 1) := by decide +kernel
theorem dX7_season_13 : decode cX7_season 13 = .ok (.aaload, 1) := by decide +kernel
theorem dX7_season_14 : decode cX7_season 14 = .ok (.astore_n 3, 1) := by decide +kernel
theorem dX7_season_15 : decode cX7_season 15 = .ok (.iload_n 2, 1) := by decide +kernel
theorem dX7_season_16 : decode cX7_season 16 = .ok (.tableswitch 43 0 2 #[28, 33, 38], 28) := by decide +kernel
theorem dX7_season_44 : decode cX7_season 44 = .ok (.aload_n 3, 1) := by decide +kernel
theorem dX7_season_45 : decode cX7_season 45 = .ok (.getfield 163, 3) := by decide +kernel
theorem dX7_season_48 : decode cX7_season 48 = .ok (.ireturn, 1) := by decide +kernel
theorem dX7_season_49 : decode cX7_season 49 = .ok (.aload_n 3, 1) := by decide +kernel
theorem dX7_season_50 : decode cX7_season 50 = .ok (.getfield 168, 3) := by decide +kernel
theorem dX7_season_53 : decode cX7_season 53 = .ok (.ireturn, 1) := by decide +kernel
theorem dX7_season_54 : decode cX7_season 54 = .ok (.aload_n 3, 1) := by decide +kernel
theorem dX7_season_55 : decode cX7_season 55 = .ok (.getfield 171, 3) := by decide +kernel
theorem dX7_season_58 : decode cX7_season 58 = .ok (.ireturn, 1) := by decide +kernel
theorem dX7_season_59 : decode cX7_season 59 = .ok (.new 60, 3) := by decide +kernel
theorem dX7_season_62 : decode cX7_season 62 = .ok (.dup, 1) := by decide +kernel
theorem dX7_season_63 : decode cX7_season 63 = .ok (.ldc 174, 2) := by decide +kernel
theorem dX7_season_65 : decode cX7_season 65 = .ok (.invokespecial 64, 3) := by decide +kernel
theorem dX7_season_68 : decode cX7_season 68 = .ok (.athrow, 1) := by decide +kernel
theorem dX7_leastStay_0 : decode cX7_leastStay 0 = .ok (.iload_n 1, 1) := by decide +kernel
theorem dX7_leastStay_1 : decode cX7_leastStay 1 = .ok (.iload_n 2, 1) := by decide +kernel
theorem dX7_leastStay_2 : decode cX7_leastStay 2 = .ok (.invokestatic 176, 3) := by decide +kernel
theorem dX7_leastStay_5 : decode cX7_leastStay 5 = .ok (.ifCond .ne 13, 3) := by decide +kernel
theorem dX7_leastStay_8 : decode cX7_leastStay 8 = .ok (.new 60, 3) := by decide +kernel
theorem dX7_leastStay_11 : decode cX7_leastStay 11 = .ok (.dup, 1) := by decide +kernel
theorem dX7_leastStay_12 : decode cX7_leastStay 12 = .ok (.ldc 180, 2) := by decide +kernel
theorem dX7_leastStay_14 : decode cX7_leastStay 14 = .ok (.invokespecial 64, 3) := by decide +kernel
theorem dX7_leastStay_17 : decode cX7_leastStay 17 = .ok (.athrow, 1) := by decide +kernel
theorem dX7_leastStay_18 : decode cX7_leastStay 18 = .ok (.aload_n 0, 1) := by decide +kernel
theorem dX7_leastStay_19 : decode cX7_leastStay 19 = .ok (.getfield 20, 3) := by decide +kernel
theorem dX7_leastStay_22 : decode cX7_leastStay 22 = .ok (.iload_n 1, 1) := by decide +kernel
theorem dX7_leastStay_23 : decode cX7_leastStay 23 = .ok (.iload_n 2, 1) := by decide +kernel
theorem dX7_leastStay_24 : decode cX7_leastStay 24 = .ok (.invokevirtual 182, 3) := by decide +kernel
theorem dX7_leastStay_27 : decode cX7_leastStay 27 = .ok (.ireturn, 1) := by decide +kernel
theorem dX7_book_0 : decode cX7_book 0 = .ok (.iload_n 1, 1) := by decide +kernel
theorem dX7_book_1 : decode cX7_book 1 = .ok (.iconst 0, 1) := by decide +kernel
theorem dX7_book_2 : decode cX7_book 2 = .ok (.iconst 2, 1) := by decide +kernel
theorem dX7_book_3 : decode cX7_book 3 = .ok (.invokestatic 56, 3) := by decide +kernel
theorem dX7_book_6 : decode cX7_book 6 = .ok (.ifCond .eq 56, 3) := by decide +kernel
theorem dX7_book_9 : decode cX7_book 9 = .ok (.iload_n 2, 1) := by decide +kernel
theorem dX7_book_10 : decode cX7_book 10 = .ok (.iconst 1, 1) := by decide +kernel
theorem dX7_book_11 : decode cX7_book 11 = .ok (.bipush 12, 2) := by decide +kernel
theorem dX7_book_13 : decode cX7_book 13 = .ok (.invokestatic 56, 3) := by decide +kernel
theorem dX7_book_16 : decode cX7_book 16 = .ok (.ifCond .eq 46, 3) := by decide +kernel
theorem dX7_book_19 : decode cX7_book 19 = .ok (.iload_n 3, 1) := by decide +kernel
theorem dX7_book_20 : decode cX7_book 20 = .ok (.iconst 1, 1) := by decide +kernel
theorem dX7_book_21 : decode cX7_book 21 = .ok (.bipush 12, 2) := by decide +kernel
theorem dX7_book_23 : decode cX7_book 23 = .ok (.invokestatic 56, 3) := by decide +kernel
theorem dX7_book_26 : decode cX7_book 26 = .ok (.ifCond .eq 36, 3) := by decide +kernel
theorem dX7_book_29 : decode cX7_book 29 = .ok (.iload 4, 2) := by decide +kernel
theorem dX7_book_31 : decode cX7_book 31 = .ok (.iconst 0, 1) := by decide +kernel
theorem dX7_book_32 : decode cX7_book 32 = .ok (.bipush 16, 2) := by decide +kernel
theorem dX7_book_34 : decode cX7_book 34 = .ok (.invokestatic 56, 3) := by decide +kernel
theorem dX7_book_37 : decode cX7_book 37 = .ok (.ifCond .eq 25, 3) := by decide +kernel
theorem dX7_book_40 : decode cX7_book 40 = .ok (.iload 5, 2) := by decide +kernel
theorem dX7_book_42 : decode cX7_book 42 = .ok (.iload 6, 2) := by decide +kernel
theorem dX7_book_44 : decode cX7_book 44 = .ok (.invokestatic 176, 3) := by decide +kernel
theorem dX7_book_47 : decode cX7_book 47 = .ok (.ifCond .eq 15, 3) := by decide +kernel
theorem dX7_book_50 : decode cX7_book 50 = .ok (.iload 5, 2) := by decide +kernel
theorem dX7_book_52 : decode cX7_book 52 = .ok (.aload_n 0, 1) := by decide +kernel
theorem dX7_book_53 : decode cX7_book 53 = .ok (.getfield 20, 3) := by decide +kernel
theorem dX7_book_56 : decode cX7_book 56 = .ok (.getfield 186, 3) := by decide +kernel
theorem dX7_book_59 : decode cX7_book 59 = .ok (.if_icmp .ge 13, 3) := by decide +kernel
theorem dX7_book_62 : decode cX7_book 62 = .ok (.new 60, 3) := by decide +kernel
theorem dX7_book_65 : decode cX7_book 65 = .ok (.dup, 1) := by decide +kernel
theorem dX7_book_66 : decode cX7_book 66 = .ok (.ldc 189, 2) := by decide +kernel
theorem dX7_book_68 : decode cX7_book 68 = .ok (.invokespecial 64, 3) := by decide +kernel
theorem dX7_book_71 : decode cX7_book 71 = .ok (.athrow, 1) := by decide +kernel
theorem dX7_book_72 : decode cX7_book 72 = .ok (.aload_n 0, 1) := by decide +kernel
theorem dX7_book_73 : decode cX7_book 73 = .ok (.getfield 20, 3) := by decide +kernel
theorem dX7_book_76 : decode cX7_book 76 = .ok (.getfield 191, 3) := by decide +kernel
theorem dX7_book_79 : decode cX7_book 79 = .ok (.bipush 12, 2) := by decide +kernel
theorem dX7_book_81 : decode cX7_book 81 = .ok (.if_icmp .lt 13, 3) := by decide +kernel
theorem dX7_book_84 : decode cX7_book 84 = .ok (.new 70, 3) := by decide +kernel
theorem dX7_book_87 : decode cX7_book 87 = .ok (.dup, 1) := by decide +kernel
theorem dX7_book_88 : decode cX7_book 88 = .ok (.ldc 194, 2) := by decide +kernel
theorem dX7_book_90 : decode cX7_book 90 = .ok (.invokespecial 74, 3) := by decide +kernel
theorem dX7_book_93 : decode cX7_book 93 = .ok (.athrow, 1) := by decide +kernel
theorem dX7_book_94 : decode cX7_book 94 = .ok (.aload_n 0, 1) := by decide +kernel
theorem dX7_book_95 : decode cX7_book 95 = .ok (.getfield 12, 3) := by decide +kernel
theorem dX7_book_98 : decode cX7_book 98 = .ok (.getfield 196, 3) := by decide +kernel
theorem dX7_book_101 : decode cX7_book 101 = .ok (.iload_n 1, 1) := by decide +kernel
theorem dX7_book_102 : decode cX7_book 102 = .ok (.iload_n 2, 1) := by decide +kernel
theorem dX7_book_103 : decode cX7_book 103 = .ok (.iload_n 3, 1) := by decide +kernel
theorem dX7_book_104 : decode cX7_book 104 = .ok (.iload 4, 2) := by decide +kernel
theorem dX7_book_106 : decode cX7_book 106 = .ok (.iload 5, 2) := by decide +kernel
theorem dX7_book_108 : decode cX7_book 108 = .ok (.iload 6, 2) := by decide +kernel
theorem dX7_book_110 : decode cX7_book 110 = .ok (.invokevirtual 200, 3) := by decide +kernel
theorem dX7_book_113 : decode cX7_book 113 = .ok (.aload_n 0, 1) := by decide +kernel
theorem dX7_book_114 : decode cX7_book 114 = .ok (.getfield 12, 3) := by decide +kernel
theorem dX7_book_117 : decode cX7_book 117 = .ok (.invokevirtual 206, 3) := by decide +kernel
theorem dX7_book_120 : decode cX7_book 120 = .ok (.ifCond .ne 31, 3) := by decide +kernel
theorem dX7_book_123 : decode cX7_book 123 = .ok (.aload_n 0, 1) := by decide +kernel
theorem dX7_book_124 : decode cX7_book 124 = .ok (.aload_n 0, 1) := by decide +kernel
theorem dX7_book_125 : decode cX7_book 125 = .ok (.getfield 20, 3) := by decide +kernel
theorem dX7_book_128 : decode cX7_book 128 = .ok (.aload_n 0, 1) := by decide +kernel
theorem dX7_book_129 : decode cX7_book 129 = .ok (.getfield 12, 3) := by decide +kernel
theorem dX7_book_132 : decode cX7_book 132 = .ok (.getfield 196, 3) := by decide +kernel
theorem dX7_book_135 : decode cX7_book 135 = .ok (.invokevirtual 210, 3) := by decide +kernel
theorem dX7_book_138 : decode cX7_book 138 = .ok (.putfield 45, 3) := by decide +kernel
theorem dX7_book_141 : decode cX7_book 141 = .ok (.new 214, 3) := by decide +kernel
theorem dX7_book_144 : decode cX7_book 144 = .ok (.dup, 1) := by decide +kernel
theorem dX7_book_145 : decode cX7_book 145 = .ok (.ldc 216, 2) := by decide +kernel
theorem dX7_book_147 : decode cX7_book 147 = .ok (.invokespecial 218, 3) := by decide +kernel
theorem dX7_book_150 : decode cX7_book 150 = .ok (.athrow, 1) := by decide +kernel
theorem dX7_book_151 : decode cX7_book 151 = .ok (.aload_n 0, 1) := by decide +kernel
theorem dX7_book_152 : decode cX7_book 152 = .ok (.getfield 34, 3) := by decide +kernel
theorem dX7_book_155 : decode cX7_book 155 = .ok (.aload_n 0, 1) := by decide +kernel
theorem dX7_book_156 : decode cX7_book 156 = .ok (.getfield 20, 3) := by decide +kernel
theorem dX7_book_159 : decode cX7_book 159 = .ok (.invokevirtual 75, 3) := by decide +kernel
theorem dX7_book_162 : decode cX7_book 162 = .ok (.aload_n 0, 1) := by decide +kernel
theorem dX7_book_163 : decode cX7_book 163 = .ok (.aload_n 0, 1) := by decide +kernel
theorem dX7_book_164 : decode cX7_book 164 = .ok (.getfield 12, 3) := by decide +kernel
theorem dX7_book_167 : decode cX7_book 167 = .ok (.aload_n 0, 1) := by decide +kernel
theorem dX7_book_168 : decode cX7_book 168 = .ok (.getfield 52, 3) := by decide +kernel
theorem dX7_book_171 : decode cX7_book 171 = .ok (.invokevirtual 219, 3) := by decide +kernel
theorem dX7_book_174 : decode cX7_book 174 = .ok (.putfield 49, 3) := by decide +kernel
theorem dX7_book_177 : decode cX7_book 177 = .ok (.aload_n 0, 1) := by decide +kernel
theorem dX7_book_178 : decode cX7_book 178 = .ok (.getfield 12, 3) := by decide +kernel
theorem dX7_book_181 : decode cX7_book 181 = .ok (.invokevirtual 223, 3) := by decide +kernel
theorem dX7_book_184 : decode cX7_book 184 = .ok (.ireturn, 1) := by decide +kernel
theorem dX7_append_0 : decode cX7_append 0 = .ok (.aload_n 0, 1) := by decide +kernel
theorem dX7_append_1 : decode cX7_append 1 = .ok (.getfield 41, 3) := by decide +kernel
theorem dX7_append_4 : decode cX7_append 4 = .ok (.iload_n 1, 1) := by decide +kernel
theorem dX7_append_5 : decode cX7_append 5 = .ok (.invokevirtual 227, 3) := by decide +kernel
theorem dX7_append_8 : decode cX7_append 8 = .ok (.ifCond .ne 13, 3) := by decide +kernel
theorem dX7_append_11 : decode cX7_append 11 = .ok (.new 70, 3) := by decide +kernel
theorem dX7_append_14 : decode cX7_append 14 = .ok (.dup, 1) := by decide +kernel
theorem dX7_append_15 : decode cX7_append 15 = .ok (.ldc 231, 2) := by decide +kernel
theorem dX7_append_17 : decode cX7_append 17 = .ok (.invokespecial 74, 3) := by decide +kernel
theorem dX7_append_20 : decode cX7_append 20 = .ok (.athrow, 1) := by decide +kernel
theorem dX7_append_21 : decode cX7_append 21 = .ok (.return_, 1) := by decide +kernel
theorem dX7_readBooking_0 : decode cX7_readBooking 0 = .ok (.aload_n 0, 1) := by decide +kernel
theorem dX7_readBooking_1 : decode cX7_readBooking 1 = .ok (.getfield 41, 3) := by decide +kernel
theorem dX7_readBooking_4 : decode cX7_readBooking 4 = .ok (.invokevirtual 233, 3) := by decide +kernel
theorem dX7_readBooking_7 : decode cX7_readBooking 7 = .ok (.ifCond .ne 13, 3) := by decide +kernel
theorem dX7_readBooking_10 : decode cX7_readBooking 10 = .ok (.new 60, 3) := by decide +kernel
theorem dX7_readBooking_13 : decode cX7_readBooking 13 = .ok (.dup, 1) := by decide +kernel
theorem dX7_readBooking_14 : decode cX7_readBooking 14 = .ok (.ldc 236, 2) := by decide +kernel
theorem dX7_readBooking_16 : decode cX7_readBooking 16 = .ok (.invokespecial 64, 3) := by decide +kernel
theorem dX7_readBooking_19 : decode cX7_readBooking 19 = .ok (.athrow, 1) := by decide +kernel
theorem dX7_readBooking_20 : decode cX7_readBooking 20 = .ok (.aload_n 0, 1) := by decide +kernel
theorem dX7_readBooking_21 : decode cX7_readBooking 21 = .ok (.getfield 41, 3) := by decide +kernel
theorem dX7_readBooking_24 : decode cX7_readBooking 24 = .ok (.getfield 238, 3) := by decide +kernel
theorem dX7_readBooking_27 : decode cX7_readBooking 27 = .ok (.astore_n 1, 1) := by decide +kernel
theorem dX7_readBooking_28 : decode cX7_readBooking 28 = .ok (.aload_n 0, 1) := by decide +kernel
theorem dX7_readBooking_29 : decode cX7_readBooking 29 = .ok (.aload_n 0, 1) := by decide +kernel
theorem dX7_readBooking_30 : decode cX7_readBooking 30 = .ok (.getfield 41, 3) := by decide +kernel
theorem dX7_readBooking_33 : decode cX7_readBooking 33 = .ok (.getfield 241, 3) := by decide +kernel
theorem dX7_readBooking_36 : decode cX7_readBooking 36 = .ok (.aload_n 1, 1) := by decide +kernel
theorem dX7_readBooking_37 : decode cX7_readBooking 37 = .ok (.iconst 0, 1) := by decide +kernel
theorem dX7_readBooking_38 : decode cX7_readBooking 38 = .ok (.iaload, 1) := by decide +kernel
theorem dX7_readBooking_39 : decode cX7_readBooking 39 = .ok (.aload_n 1, 1) := by decide +kernel
theorem dX7_readBooking_40 : decode cX7_readBooking 40 = .ok (.iconst 1, 1) := by decide +kernel
theorem dX7_readBooking_41 : decode cX7_readBooking 41 = .ok (.iaload, 1) := by decide +kernel
theorem dX7_readBooking_42 : decode cX7_readBooking 42 = .ok (.aload_n 1, 1) := by decide +kernel
theorem dX7_readBooking_43 : decode cX7_readBooking 43 = .ok (.iconst 4, 1) := by decide +kernel
theorem dX7_readBooking_44 : decode cX7_readBooking 44 = .ok (.iaload, 1) := by decide +kernel
theorem dX7_readBooking_45 : decode cX7_readBooking 45 = .ok (.aload_n 1, 1) := by decide +kernel
theorem dX7_readBooking_46 : decode cX7_readBooking 46 = .ok (.iconst 2, 1) := by decide +kernel
theorem dX7_readBooking_47 : decode cX7_readBooking 47 = .ok (.iaload, 1) := by decide +kernel
theorem dX7_readBooking_48 : decode cX7_readBooking 48 = .ok (.aload_n 1, 1) := by decide +kernel
theorem dX7_readBooking_49 : decode cX7_readBooking 49 = .ok (.iconst 3, 1) := by decide +kernel
theorem dX7_readBooking_50 : decode cX7_readBooking 50 = .ok (.iaload, 1) := by decide +kernel
theorem dX7_readBooking_51 : decode cX7_readBooking 51 = .ok (.invokevirtual 242, 3) := by decide +kernel
theorem dX7_readBooking_54 : decode cX7_readBooking 54 = .ok (.ireturn, 1) := by decide +kernel
theorem dX7_faultPosition_0 : decode cX7_faultPosition 0 = .ok (.aload_n 0, 1) := by decide +kernel
theorem dX7_faultPosition_1 : decode cX7_faultPosition 1 = .ok (.getfield 41, 3) := by decide +kernel
theorem dX7_faultPosition_4 : decode cX7_faultPosition 4 = .ok (.getfield 246, 3) := by decide +kernel
theorem dX7_faultPosition_7 : decode cX7_faultPosition 7 = .ok (.ireturn, 1) := by decide +kernel
theorem dX7_refusal_0 : decode cX7_refusal 0 = .ok (.aload_n 0, 1) := by decide +kernel
theorem dX7_refusal_1 : decode cX7_refusal 1 = .ok (.getfield 45, 3) := by decide +kernel
theorem dX7_refusal_4 : decode cX7_refusal 4 = .ok (.ifCond .ne 13, 3) := by decide +kernel
theorem dX7_refusal_7 : decode cX7_refusal 7 = .ok (.new 249, 3) := by decide +kernel
theorem dX7_refusal_10 : decode cX7_refusal 10 = .ok (.dup, 1) := by decide +kernel
theorem dX7_refusal_11 : decode cX7_refusal 11 = .ok (.ldc 251, 2) := by decide +kernel
theorem dX7_refusal_13 : decode cX7_refusal 13 = .ok (.invokespecial 253, 3) := by decide +kernel
theorem dX7_refusal_16 : decode cX7_refusal 16 = .ok (.athrow, 1) := by decide +kernel
theorem dX7_refusal_17 : decode cX7_refusal 17 = .ok (.aload_n 0, 1) := by decide +kernel
theorem dX7_refusal_18 : decode cX7_refusal 18 = .ok (.getfield 45, 3) := by decide +kernel
theorem dX7_refusal_21 : decode cX7_refusal 21 = .ok (.ireturn, 1) := by decide +kernel
theorem dX7_party_0 : decode cX7_party 0 = .ok (.aload_n 0, 1) := by decide +kernel
theorem dX7_party_1 : decode cX7_party 1 = .ok (.iload_n 1, 1) := by decide +kernel
theorem dX7_party_2 : decode cX7_party 2 = .ok (.invokevirtual 254, 3) := by decide +kernel
theorem dX7_party_5 : decode cX7_party 5 = .ok (.aload_n 0, 1) := by decide +kernel
theorem dX7_party_6 : decode cX7_party 6 = .ok (.getfield 20, 3) := by decide +kernel
theorem dX7_party_9 : decode cX7_party 9 = .ok (.getfield 257, 3) := by decide +kernel
theorem dX7_party_12 : decode cX7_party 12 = .ok (.iload_n 1, 1) := by decide +kernel
theorem dX7_party_13 : decode cX7_party 13 = .ok (.aaload, 1) := by decide +kernel
theorem dX7_party_14 : decode cX7_party 14 = .ok (.astore_n 3, 1) := by decide +kernel
theorem dX7_party_15 : decode cX7_party 15 = .ok (.iload_n 2, 1) := by decide +kernel
theorem dX7_party_16 : decode cX7_party 16 = .ok (.tableswitch 114 0 9 #[56, 61, 66, 71, 76, 81, 86, 91, 96, 109], 56) := by decide +kernel
theorem dX7_party_72 : decode cX7_party 72 = .ok (.aload_n 3, 1) := by decide +kernel
theorem dX7_party_73 : decode cX7_party 73 = .ok (.getfield 261, 3) := by decide +kernel
theorem dX7_party_76 : decode cX7_party 76 = .ok (.ireturn, 1) := by decide +kernel
theorem dX7_party_77 : decode cX7_party 77 = .ok (.aload_n 3, 1) := by decide +kernel
theorem dX7_party_78 : decode cX7_party 78 = .ok (.getfield 262, 3) := by decide +kernel
theorem dX7_party_81 : decode cX7_party 81 = .ok (.ireturn, 1) := by decide +kernel
theorem dX7_party_82 : decode cX7_party 82 = .ok (.aload_n 3, 1) := by decide +kernel
theorem dX7_party_83 : decode cX7_party 83 = .ok (.getfield 263, 3) := by decide +kernel
theorem dX7_party_86 : decode cX7_party 86 = .ok (.ireturn, 1) := by decide +kernel
theorem dX7_party_87 : decode cX7_party 87 = .ok (.aload_n 3, 1) := by decide +kernel
theorem dX7_party_88 : decode cX7_party 88 = .ok (.getfield 264, 3) := by decide +kernel
