theorem dX9_init_0 : decode cX9_init 0 = .ok (.aload_n 0, 1) := by decide +kernel
theorem dX9_init_1 : decode cX9_init 1 = .ok (.invokespecial 1, 3) := by decide +kernel
theorem dX9_init_4 : decode cX9_init 4 = .ok (.aload_n 0, 1) := by decide +kernel
theorem dX9_init_5 : decode cX9_init 5 = .ok (.sipush 200, 3) := by decide +kernel
theorem dX9_init_8 : decode cX9_init 8 = .ok (.newarray .int, 2) := by decide +kernel
theorem dX9_init_10 : decode cX9_init 10 = .ok (.putfield 7, 3) := by decide +kernel
theorem dX9_init_13 : decode cX9_init 13 = .ok (.aload_n 0, 1) := by decide +kernel
theorem dX9_init_14 : decode cX9_init 14 = .ok (.bipush 49, 2) := by decide +kernel
theorem dX9_init_16 : decode cX9_init 16 = .ok (.newarray .int, 2) := by decide +kernel
theorem dX9_init_18 : decode cX9_init 18 = .ok (.putfield 13, 3) := by decide +kernel
theorem dX9_init_21 : decode cX9_init 21 = .ok (.aload_n 0, 1) := by decide +kernel
theorem dX9_init_22 : decode cX9_init 22 = .ok (.bipush 49, 2) := by decide +kernel
theorem dX9_init_24 : decode cX9_init 24 = .ok (.newarray .int, 2) := by decide +kernel
theorem dX9_init_26 : decode cX9_init 26 = .ok (.putfield 16, 3) := by decide +kernel
theorem dX9_init_29 : decode cX9_init 29 = .ok (.aload_n 0, 1) := by decide +kernel
theorem dX9_init_30 : decode cX9_init 30 = .ok (.sipush 716, 3) := by decide +kernel
theorem dX9_init_33 : decode cX9_init 33 = .ok (.newarray .int, 2) := by decide +kernel
theorem dX9_init_35 : decode cX9_init 35 = .ok (.putfield 19, 3) := by decide +kernel
theorem dX9_init_38 : decode cX9_init 38 = .ok (.aload_n 0, 1) := by decide +kernel
theorem dX9_init_39 : decode cX9_init 39 = .ok (.sipush 1432, 3) := by decide +kernel
theorem dX9_init_42 : decode cX9_init 42 = .ok (.newarray .int, 2) := by decide +kernel
theorem dX9_init_44 : decode cX9_init 44 = .ok (.putfield 22, 3) := by decide +kernel
theorem dX9_init_47 : decode cX9_init 47 = .ok (.aload_n 0, 1) := by decide +kernel
theorem dX9_init_48 : decode cX9_init 48 = .ok (.iconst 2, 1) := by decide +kernel
theorem dX9_init_49 : decode cX9_init 49 = .ok (.newarray .boolean, 2) := by decide +kernel
theorem dX9_init_51 : decode cX9_init 51 = .ok (.putfield 25, 3) := by decide +kernel
theorem dX9_init_54 : decode cX9_init 54 = .ok (.aload_n 0, 1) := by decide +kernel
theorem dX9_init_55 : decode cX9_init 55 = .ok (.bipush 49, 2) := by decide +kernel
theorem dX9_init_57 : decode cX9_init 57 = .ok (.newarray .int, 2) := by decide +kernel
theorem dX9_init_59 : decode cX9_init 59 = .ok (.putfield 29, 3) := by decide +kernel
theorem dX9_init_62 : decode cX9_init 62 = .ok (.aload_n 0, 1) := by decide +kernel
theorem dX9_init_63 : decode cX9_init 63 = .ok (.bipush 8, 2) := by decide +kernel
theorem dX9_init_65 : decode cX9_init 65 = .ok (.newarray .int, 2) := by decide +kernel
theorem dX9_init_67 : decode cX9_init 67 = .ok (.putfield 32, 3) := by decide +kernel
theorem dX9_init_70 : decode cX9_init 70 = .ok (.aload_n 0, 1) := by decide +kernel
theorem dX9_init_71 : decode cX9_init 71 = .ok (.bipush 7, 2) := by decide +kernel
theorem dX9_init_73 : decode cX9_init 73 = .ok (.newarray .int, 2) := by decide +kernel
theorem dX9_init_75 : decode cX9_init 75 = .ok (.putfield 35, 3) := by decide +kernel
theorem dX9_init_78 : decode cX9_init 78 = .ok (.aload_n 0, 1) := by decide +kernel
theorem dX9_init_79 : decode cX9_init 79 = .ok (.sipush 1000, 3) := by decide +kernel
theorem dX9_init_82 : decode cX9_init 82 = .ok (.newarray .int, 2) := by decide +kernel
theorem dX9_init_84 : decode cX9_init 84 = .ok (.putfield 38, 3) := by decide +kernel
theorem dX9_init_87 : decode cX9_init 87 = .ok (.aload_n 0, 1) := by decide +kernel
theorem dX9_init_88 : decode cX9_init 88 = .ok (.sipush 800, 3) := by decide +kernel
theorem dX9_init_91 : decode cX9_init 91 = .ok (.newarray .int, 2) := by decide +kernel
theorem dX9_init_93 : decode cX9_init 93 = .ok (.putfield 41, 3) := by decide +kernel
theorem dX9_init_96 : decode cX9_init 96 = .ok (.aload_n 0, 1) := by decide +kernel
theorem dX9_init_97 : decode cX9_init 97 = .ok (.sipush 800, 3) := by decide +kernel
theorem dX9_init_100 : decode cX9_init 100 = .ok (.newarray .int, 2) := by decide +kernel
theorem dX9_init_102 : decode cX9_init 102 = .ok (.putfield 44, 3) := by decide +kernel
theorem dX9_init_105 : decode cX9_init 105 = .ok (.aload_n 0, 1) := by decide +kernel
theorem dX9_init_106 : decode cX9_init 106 = .ok (.invokevirtual 47, 3) := by decide +kernel
theorem dX9_init_109 : decode cX9_init 109 = .ok (.pop, 1) := by decide +kernel
theorem dX9_init_110 : decode cX9_init 110 = .ok (.aload_n 0, 1) := by decide +kernel
theorem dX9_init_111 : decode cX9_init 111 = .ok (.invokevirtual 51, 3) := by decide +kernel
theorem dX9_init_114 : decode cX9_init 114 = .ok (.return_, 1) := by decide +kernel
theorem dX9_in_0 : decode cX9_in 0 = .ok (.iload_n 0, 1) := by decide +kernel
theorem dX9_in_1 : decode cX9_in 1 = .ok (.iload_n 1, 1) := by decide +kernel
theorem dX9_in_2 : decode cX9_in 2 = .ok (.if_icmp .lt 12, 3) := by decide +kernel
theorem dX9_in_5 : decode cX9_in 5 = .ok (.iload_n 0, 1) := by decide +kernel
theorem dX9_in_6 : decode cX9_in 6 = .ok (.iload_n 2, 1) := by decide +kernel
theorem dX9_in_7 : decode cX9_in 7 = .ok (.if_icmp .gt 7, 3) := by decide +kernel
theorem dX9_in_10 : decode cX9_in 10 = .ok (.iconst 1, 1) := by decide +kernel
theorem dX9_in_11 : decode cX9_in 11 = .ok (.goto 4, 3) := by decide +kernel
theorem dX9_in_14 : decode cX9_in 14 = .ok (.iconst 0, 1) := by decide +kernel
theorem dX9_in_15 : decode cX9_in 15 = .ok (.ireturn, 1) := by decide +kernel
theorem dX9_isStair_0 : decode cX9_isStair 0 = .ok (.iload_n 1, 1) := by decide +kernel
theorem dX9_isStair_1 : decode cX9_isStair 1 = .ok (.iconst 0, 1) := by decide +kernel
theorem dX9_isStair_2 : decode cX9_isStair 2 = .ok (.aload_n 0, 1) := by decide +kernel
theorem dX9_isStair_3 : decode cX9_isStair 3 = .ok (.getfield 13, 3) := by decide +kernel
theorem dX9_isStair_6 : decode cX9_isStair 6 = .ok (.iconst 0, 1) := by decide +kernel
theorem dX9_isStair_7 : decode cX9_isStair 7 = .ok (.iaload, 1) := by decide +kernel
theorem dX9_isStair_8 : decode cX9_isStair 8 = .ok (.iconst 1, 1) := by decide +kernel
theorem dX9_isStair_9 : decode cX9_isStair 9 = .ok (.isub, 1) := by decide +kernel
theorem dX9_isStair_10 : decode cX9_isStair 10 = .ok (.invokestatic 54, 3) := by decide +kernel
theorem dX9_isStair_13 : decode cX9_isStair 13 = .ok (.ireturn, 1) := by decide +kernel
theorem dX9_isPerson_0 : decode cX9_isPerson 0 = .ok (.iload_n 1, 1) := by decide +kernel
theorem dX9_isPerson_1 : decode cX9_isPerson 1 = .ok (.iconst 0, 1) := by decide +kernel
theorem dX9_isPerson_2 : decode cX9_isPerson 2 = .ok (.aload_n 0, 1) := by decide +kernel
theorem dX9_isPerson_3 : decode cX9_isPerson 3 = .ok (.getfield 13, 3) := by decide +kernel
theorem dX9_isPerson_6 : decode cX9_isPerson 6 = .ok (.iconst 1, 1) := by decide +kernel
theorem dX9_isPerson_7 : decode cX9_isPerson 7 = .ok (.iaload, 1) := by decide +kernel
theorem dX9_isPerson_8 : decode cX9_isPerson 8 = .ok (.iconst 1, 1) := by decide +kernel
theorem dX9_isPerson_9 : decode cX9_isPerson 9 = .ok (.isub, 1) := by decide +kernel
theorem dX9_isPerson_10 : decode cX9_isPerson 10 = .ok (.invokestatic 54, 3) := by decide +kernel
theorem dX9_isPerson_13 : decode cX9_isPerson 13 = .ok (.ireturn, 1) := by decide +kernel
theorem dX9_isFloor_0 : decode cX9_isFloor 0 = .ok (.iload_n 0, 1) := by decide +kernel
theorem dX9_isFloor_1 : decode cX9_isFloor 1 = .ok (.iconst 0, 1) := by decide +kernel
theorem dX9_isFloor_2 : decode cX9_isFloor 2 = .ok (.bipush 6, 2) := by decide +kernel
theorem dX9_isFloor_4 : decode cX9_isFloor 4 = .ok (.invokestatic 54, 3) := by decide +kernel
theorem dX9_isFloor_7 : decode cX9_isFloor 7 = .ok (.ireturn, 1) := by decide +kernel
theorem dX9_type_0 : decode cX9_type 0 = .ok (.iload_n 1, 1) := by decide +kernel
theorem dX9_type_1 : decode cX9_type 1 = .ok (.iconst 0, 1) := by decide +kernel
theorem dX9_type_2 : decode cX9_type 2 = .ok (.sipush 255, 3) := by decide +kernel
theorem dX9_type_5 : decode cX9_type 5 = .ok (.invokestatic 54, 3) := by decide +kernel
theorem dX9_type_8 : decode cX9_type 8 = .ok (.ifCond .ne 5, 3) := by decide +kernel
theorem dX9_type_11 : decode cX9_type 11 = .ok (.iconst (-1), 1) := by decide +kernel
theorem dX9_type_12 : decode cX9_type 12 = .ok (.ireturn, 1) := by decide +kernel
theorem dX9_type_13 : decode cX9_type 13 = .ok (.aload_n 0, 1) := by decide +kernel
theorem dX9_type_14 : decode cX9_type 14 = .ok (.getfield 58, 3) := by decide +kernel
theorem dX9_type_17 : decode cX9_type 17 = .ok (.sipush 200, 3) := by decide +kernel
theorem dX9_type_20 : decode cX9_type 20 = .ok (.if_icmp .ne 6, 3) := by decide +kernel
theorem dX9_type_23 : decode cX9_type 23 = .ok (.bipush (-3), 2) := by decide +kernel
theorem dX9_type_25 : decode cX9_type 25 = .ok (.ireturn, 1) := by decide +kernel
theorem dX9_type_26 : decode cX9_type 26 = .ok (.aload_n 0, 1) := by decide +kernel
theorem dX9_type_27 : decode cX9_type 27 = .ok (.getfield 7, 3) := by decide +kernel
theorem dX9_type_30 : decode cX9_type 30 = .ok (.aload_n 0, 1) := by decide +kernel
theorem dX9_type_31 : decode cX9_type 31 = .ok (.getfield 58, 3) := by decide +kernel
theorem dX9_type_34 : decode cX9_type 34 = .ok (.iload_n 1, 1) := by decide +kernel
theorem dX9_type_35 : decode cX9_type 35 = .ok (.iastore, 1) := by decide +kernel
theorem dX9_type_36 : decode cX9_type 36 = .ok (.aload_n 0, 1) := by decide +kernel
theorem dX9_type_37 : decode cX9_type 37 = .ok (.dup, 1) := by decide +kernel
theorem dX9_type_38 : decode cX9_type 38 = .ok (.getfield 58, 3) := by decide +kernel
theorem dX9_type_41 : decode cX9_type 41 = .ok (.iconst 1, 1) := by decide +kernel
theorem dX9_type_42 : decode cX9_type 42 = .ok (.iadd, 1) := by decide +kernel
theorem dX9_type_43 : decode cX9_type 43 = .ok (.putfield 58, 3) := by decide +kernel
theorem dX9_type_46 : decode cX9_type 46 = .ok (.aload_n 0, 1) := by decide +kernel
theorem dX9_type_47 : decode cX9_type 47 = .ok (.getfield 58, 3) := by decide +kernel
theorem dX9_type_50 : decode cX9_type 50 = .ok (.ireturn, 1) := by decide +kernel
theorem dX9_clear_0 : decode cX9_clear 0 = .ok (.aload_n 0, 1) := by decide +kernel
theorem dX9_clear_1 : decode cX9_clear 1 = .ok (.getfield 58, 3) := by decide +kernel
theorem dX9_clear_4 : decode cX9_clear 4 = .ok (.istore_n 1, 1) := by decide +kernel
theorem dX9_clear_5 : decode cX9_clear 5 = .ok (.aload_n 0, 1) := by decide +kernel
theorem dX9_clear_6 : decode cX9_clear 6 = .ok (.iconst 0, 1) := by decide +kernel
theorem dX9_clear_7 : decode cX9_clear 7 = .ok (.putfield 58, 3) := by decide +kernel
theorem dX9_clear_10 : decode cX9_clear 10 = .ok (.iload_n 1, 1) := by decide +kernel
theorem dX9_clear_11 : decode cX9_clear 11 = .ok (.ireturn, 1) := by decide +kernel
theorem dX9_byteAt_0 : decode cX9_byteAt 0 = .ok (.iload_n 1, 1) := by decide +kernel
theorem dX9_byteAt_1 : decode cX9_byteAt 1 = .ok (.aload_n 0, 1) := by decide +kernel
theorem dX9_byteAt_2 : decode cX9_byteAt 2 = .ok (.getfield 58, 3) := by decide +kernel
theorem dX9_byteAt_5 : decode cX9_byteAt 5 = .ok (.if_icmp .ge 12, 3) := by decide +kernel
theorem dX9_byteAt_8 : decode cX9_byteAt 8 = .ok (.aload_n 0, 1) := by decide +kernel
theorem dX9_byteAt_9 : decode cX9_byteAt 9 = .ok (.getfield 7, 3) := by decide +kernel
theorem dX9_byteAt_12 : decode cX9_byteAt 12 = .ok (.iload_n 1, 1) := by decide +kernel
theorem dX9_byteAt_13 : decode cX9_byteAt 13 = .ok (.iaload, 1) := by decide +kernel
theorem dX9_byteAt_14 : decode cX9_byteAt 14 = .ok (.goto 4, 3) := by decide +kernel
theorem dX9_byteAt_17 : decode cX9_byteAt 17 = .ok (.iconst (-1), 1) := by decide +kernel
theorem dX9_byteAt_18 : decode cX9_byteAt 18 = .ok (.ireturn, 1) := by decide +kernel
theorem dX9_isLetter_0 : decode cX9_isLetter 0 = .ok (.iload_n 0, 1) := by decide +kernel
theorem dX9_isLetter_1 : decode cX9_isLetter 1 = .ok (.bipush 97, 2) := by decide +kernel
theorem dX9_isLetter_3 : decode cX9_isLetter 3 = .ok (.bipush 122, 2) := by decide +kernel
theorem dX9_isLetter_5 : decode cX9_isLetter 5 = .ok (.invokestatic 54, 3) := by decide +kernel
theorem dX9_isLetter_8 : decode cX9_isLetter 8 = .ok (.ireturn, 1) := by decide +kernel
theorem dX9_isDigit_0 : decode cX9_isDigit 0 = .ok (.iload_n 0, 1) := by decide +kernel
theorem dX9_isDigit_1 : decode cX9_isDigit 1 = .ok (.bipush 48, 2) := by decide +kernel
theorem dX9_isDigit_3 : decode cX9_isDigit 3 = .ok (.bipush 57, 2) := by decide +kernel
theorem dX9_isDigit_5 : decode cX9_isDigit 5 = .ok (.invokestatic 54, 3) := by decide +kernel
theorem dX9_isDigit_8 : decode cX9_isDigit 8 = .ok (.ireturn, 1) := by decide +kernel
theorem dX9_token_0 : decode cX9_token 0 = .ok (.aload_n 0, 1) := by decide +kernel
theorem dX9_token_1 : decode cX9_token 1 = .ok (.aload_n 0, 1) := by decide +kernel
theorem dX9_token_2 : decode cX9_token 2 = .ok (.getfield 62, 3) := by decide +kernel
theorem dX9_token_5 : decode cX9_token 5 = .ok (.invokevirtual 65, 3) := by decide +kernel
theorem dX9_token_8 : decode cX9_token 8 = .ok (.bipush 32, 2) := by decide +kernel
theorem dX9_token_10 : decode cX9_token 10 = .ok (.if_icmp .ne 16, 3) := by decide +kernel
theorem dX9_token_13 : decode cX9_token 13 = .ok (.aload_n 0, 1) := by decide +kernel
theorem dX9_token_14 : decode cX9_token 14 = .ok (.dup, 1) := by decide +kernel
theorem dX9_token_15 : decode cX9_token 15 = .ok (.getfield 62, 3) := by decide +kernel
theorem dX9_token_18 : decode cX9_token 18 = .ok (.iconst 1, 1) := by decide +kernel
theorem dX9_token_19 : decode cX9_token 19 = .ok (.iadd, 1) := by decide +kernel
theorem dX9_token_20 : decode cX9_token 20 = .ok (.putfield 62, 3) := by decide +kernel
theorem dX9_token_23 : decode cX9_token 23 = .ok (.goto (-23), 3) := by decide +kernel
theorem dX9_token_26 : decode cX9_token 26 = .ok (.aload_n 0, 1) := by decide +kernel
theorem dX9_token_27 : decode cX9_token 27 = .ok (.aload_n 0, 1) := by decide +kernel
theorem dX9_token_28 : decode cX9_token 28 = .ok (.getfield 62, 3) := by decide +kernel
theorem dX9_token_31 : decode cX9_token 31 = .ok (.putfield 69, 3) := by decide +kernel
theorem dX9_token_34 : decode cX9_token 34 = .ok (.aload_n 0, 1) := by decide +kernel
theorem dX9_token_35 : decode cX9_token 35 = .ok (.aload_n 0, 1) := by decide +kernel
theorem dX9_token_36 : decode cX9_token 36 = .ok (.getfield 62, 3) := by decide +kernel
theorem dX9_token_39 : decode cX9_token 39 = .ok (.invokevirtual 65, 3) := by decide +kernel
theorem dX9_token_42 : decode cX9_token 42 = .ok (.istore_n 1, 1) := by decide +kernel
theorem dX9_token_43 : decode cX9_token 43 = .ok (.aload_n 0, 1) := by decide +kernel
theorem dX9_token_44 : decode cX9_token 44 = .ok (.iload_n 1, 1) := by decide +kernel
theorem dX9_token_45 : decode cX9_token 45 = .ok (.ifCond .ge 7, 3) := by decide +kernel
theorem dX9_token_48 : decode cX9_token 48 = .ok (.iconst 0, 1) := by decide +kernel
theorem dX9_token_49 : decode cX9_token 49 = .ok (.goto 36, 3) := by decide +kernel
theorem dX9_token_52 : decode cX9_token 52 = .ok (.iload_n 1, 1) := by decide +kernel
theorem dX9_token_53 : decode cX9_token 53 = .ok (.invokestatic 72, 3) := by decide +kernel
theorem dX9_token_56 : decode cX9_token 56 = .ok (.ifCond .eq 7, 3) := by decide +kernel
theorem dX9_token_59 : decode cX9_token 59 = .ok (.iconst 1, 1) := by decide +kernel
theorem dX9_token_60 : decode cX9_token 60 = .ok (.goto 25, 3) := by decide +kernel
theorem dX9_token_63 : decode cX9_token 63 = .ok (.iload_n 1, 1) := by decide +kernel
theorem dX9_token_64 : decode cX9_token 64 = .ok (.invokestatic 76, 3) := by decide +kernel
theorem dX9_token_67 : decode cX9_token 67 = .ok (.ifCond .eq 7, 3) := by decide +kernel
theorem dX9_token_70 : decode cX9_token 70 = .ok (.iconst 2, 1) := by decide +kernel
theorem dX9_token_71 : decode cX9_token 71 = .ok (.goto 14, 3) := by decide +kernel
theorem dX9_token_74 : decode cX9_token 74 = .ok (.iload_n 1, 1) := by decide +kernel
theorem dX9_token_75 : decode cX9_token 75 = .ok (.bipush 59, 2) := by decide +kernel
theorem dX9_token_77 : decode cX9_token 77 = .ok (.if_icmp .ne 7, 3) := by decide +kernel
theorem dX9_token_80 : decode cX9_token 80 = .ok (.iconst 3, 1) := by decide +kernel
theorem dX9_token_81 : decode cX9_token 81 = .ok (.goto 4, 3) := by decide +kernel
theorem dX9_token_84 : decode cX9_token 84 = .ok (.iconst 4, 1) := by decide +kernel
theorem dX9_token_85 : decode cX9_token 85 = .ok (.putfield 79, 3) := by decide +kernel
theorem dX9_token_88 : decode cX9_token 88 = .ok (.aload_n 0, 1) := by decide +kernel
theorem dX9_token_89 : decode cX9_token 89 = .ok (.iload_n 1, 1) := by decide +kernel
theorem dX9_token_90 : decode cX9_token 90 = .ok (.putfield 82, 3) := by decide +kernel
theorem dX9_token_93 : decode cX9_token 93 = .ok (.aload_n 0, 1) := by decide +kernel
theorem dX9_token_94 : decode cX9_token 94 = .ok (.getfield 79, 3) := by decide +kernel
theorem dX9_token_97 : decode cX9_token 97 = .ok (.ifCond .eq 13, 3) := by decide +kernel
theorem dX9_token_100 : decode cX9_token 100 = .ok (.aload_n 0, 1) := by decide +kernel
theorem dX9_token_101 : decode cX9_token 101 = .ok (.dup, 1) := by decide +kernel
theorem dX9_token_102 : decode cX9_token 102 = .ok (.getfield 62, 3) := by decide +kernel
theorem dX9_token_105 : decode cX9_token 105 = .ok (.iconst 1, 1) := by decide +kernel
theorem dX9_token_106 : decode cX9_token 106 = .ok (.iadd, 1) := by decide +kernel
theorem dX9_token_107 : decode cX9_token 107 = .ok (.putfield 62, 3) := by decide +kernel
theorem dX9_token_110 : decode cX9_token 110 = .ok (.aload_n 0, 1) := by decide +kernel
theorem dX9_token_111 : decode cX9_token 111 = .ok (.getfield 79, 3) := by decide +kernel
theorem dX9_token_114 : decode cX9_token 114 = .ok (.iconst 1, 1) := by decide +kernel
theorem dX9_token_115 : decode cX9_token 115 = .ok (.if_icmp .ne 35, 3) := by decide +kernel
theorem dX9_token_118 : decode cX9_token 118 = .ok (.aload_n 0, 1) := by decide +kernel
theorem dX9_token_119 : decode cX9_token 119 = .ok (.aload_n 0, 1) := by decide +kernel
theorem dX9_token_120 : decode cX9_token 120 = .ok (.getfield 62, 3) := by decide +kernel
theorem dX9_token_123 : decode cX9_token 123 = .ok (.invokevirtual 65, 3) := by decide +kernel
theorem dX9_token_126 : decode cX9_token 126 = .ok (.invokestatic 72, 3) := by decide +kernel
theorem dX9_token_129 : decode cX9_token 129 = .ok (.ifCond .eq 21, 3) := by decide +kernel
theorem dX9_token_132 : decode cX9_token 132 = .ok (.aload_n 0, 1) := by decide +kernel
theorem dX9_token_133 : decode cX9_token 133 = .ok (.iconst 0, 1) := by decide +kernel
theorem dX9_token_134 : decode cX9_token 134 = .ok (.putfield 82, 3) := by decide +kernel
theorem dX9_token_137 : decode cX9_token 137 = .ok (.aload_n 0, 1) := by decide +kernel
theorem dX9_token_138 : decode cX9_token 138 = .ok (.dup, 1) := by decide +kernel
theorem dX9_token_139 : decode cX9_token 139 = .ok (.getfield 62, 3) := by decide +kernel
theorem dX9_token_142 : decode cX9_token 142 = .ok (.iconst 1, 1) := by decide +kernel
theorem dX9_token_143 : decode cX9_token 143 = .ok (.iadd, 1) := by decide +kernel
theorem dX9_token_144 : decode cX9_token 144 = .ok (.putfield 62, 3) := by decide +kernel
theorem dX9_token_147 : decode cX9_token 147 = .ok (.goto (-37), 3) := by decide +kernel
theorem dX9_token_150 : decode cX9_token 150 = .ok (.aload_n 0, 1) := by decide +kernel
theorem dX9_token_151 : decode cX9_token 151 = .ok (.getfield 79, 3) := by decide +kernel
theorem dX9_token_154 : decode cX9_token 154 = .ok (.iconst 2, 1) := by decide +kernel
theorem dX9_token_155 : decode cX9_token 155 = .ok (.if_icmp .ne 83, 3) := by decide +kernel
theorem dX9_token_158 : decode cX9_token 158 = .ok (.aload_n 0, 1) := by decide +kernel
theorem dX9_token_159 : decode cX9_token 159 = .ok (.iload_n 1, 1) := by decide +kernel
theorem dX9_token_160 : decode cX9_token 160 = .ok (.bipush 48, 2) := by decide +kernel
theorem dX9_token_162 : decode cX9_token 162 = .ok (.isub, 1) := by decide +kernel
theorem dX9_token_163 : decode cX9_token 163 = .ok (.putfield 82, 3) := by decide +kernel
theorem dX9_token_166 : decode cX9_token 166 = .ok (.aload_n 0, 1) := by decide +kernel
theorem dX9_token_167 : decode cX9_token 167 = .ok (.aload_n 0, 1) := by decide +kernel
theorem dX9_token_168 : decode cX9_token 168 = .ok (.getfield 62, 3) := by decide +kernel
theorem dX9_token_171 : decode cX9_token 171 = .ok (.invokevirtual 65, 3) := by decide +kernel
theorem dX9_token_174 : decode cX9_token 174 = .ok (.invokestatic 76, 3) := by decide +kernel
theorem dX9_token_177 : decode cX9_token 177 = .ok (.ifCond .eq 61, 3) := by decide +kernel
theorem dX9_token_180 : decode cX9_token 180 = .ok (.aload_n 0, 1) := by decide +kernel
theorem dX9_token_181 : decode cX9_token 181 = .ok (.iload_n 1, 1) := by decide +kernel
theorem dX9_token_182 : decode cX9_token 182 = .ok (.bipush 48, 2) := by decide +kernel
theorem dX9_token_184 : decode cX9_token 184 = .ok (.if_icmp .eq 12, 3) := by decide +kernel
theorem dX9_token_187 : decode cX9_token 187 = .ok (.aload_n 0, 1) := by decide +kernel
theorem dX9_token_188 : decode cX9_token 188 = .ok (.getfield 82, 3) := by decide +kernel
theorem dX9_token_191 : decode cX9_token 191 = .ok (.bipush 99, 2) := by decide +kernel
theorem dX9_token_193 : decode cX9_token 193 = .ok (.if_icmp .le 9, 3) := by decide +kernel
theorem dX9_token_196 : decode cX9_token 196 = .ok (.sipush 1000, 3) := by decide +kernel
theorem dX9_token_199 : decode cX9_token 199 = .ok (.goto 23, 3) := by decide +kernel
theorem dX9_token_202 : decode cX9_token 202 = .ok (.bipush 10, 2) := by decide +kernel
theorem dX9_token_204 : decode cX9_token 204 = .ok (.aload_n 0, 1) := by decide +kernel
theorem dX9_token_205 : decode cX9_token 205 = .ok (.getfield 82, 3) := by decide +kernel
theorem dX9_token_208 : decode cX9_token 208 = .ok (.imul, 1) := by decide +kernel
theorem dX9_token_209 : decode cX9_token 209 = .ok (.aload_n 0, 1) := by decide +kernel
theorem dX9_token_210 : decode cX9_token 210 = .ok (.getfield 7, 3) := by decide +kernel
theorem dX9_token_213 : decode cX9_token 213 = .ok (.aload_n 0, 1) := by decide +kernel
theorem dX9_token_214 : decode cX9_token 214 = .ok (.getfield 62, 3) := by decide +kernel
theorem dX9_token_217 : decode cX9_token 217 = .ok (.iaload, 1) := by decide +kernel
theorem dX9_token_218 : decode cX9_token 218 = .ok (.iadd, 1) := by decide +kernel
theorem dX9_token_219 : decode cX9_token 219 = .ok (.bipush 48, 2) := by decide +kernel
theorem dX9_token_221 : decode cX9_token 221 = .ok (.isub, 1) := by decide +kernel
theorem dX9_token_222 : decode cX9_token 222 = .ok (.putfield 82, 3) := by decide +kernel
theorem dX9_token_225 : decode cX9_token 225 = .ok (.aload_n 0, 1) := by decide +kernel
theorem dX9_token_226 : decode cX9_token 226 = .ok (.dup, 1) := by decide +kernel
theorem dX9_token_227 : decode cX9_token 227 = .ok (.getfield 62, 3) := by decide +kernel
theorem dX9_token_230 : decode cX9_token 230 = .ok (.iconst 1, 1) := by decide +kernel
theorem dX9_token_231 : decode cX9_token 231 = .ok (.iadd, 1) := by decide +kernel
theorem dX9_token_232 : decode cX9_token 232 = .ok (.putfield 62, 3) := by decide +kernel
theorem dX9_token_235 : decode cX9_token 235 = .ok (.goto (-69), 3) := by decide +kernel
theorem dX9_token_238 : decode cX9_token 238 = .ok (.return_, 1) := by decide +kernel
theorem dX9_number_0 : decode cX9_number 0 = .ok (.aload_n 0, 1) := by decide +kernel
theorem dX9_number_1 : decode cX9_number 1 = .ok (.invokevirtual 85, 3) := by decide +kernel
theorem dX9_number_4 : decode cX9_number 4 = .ok (.aload_n 0, 1) := by decide +kernel
theorem dX9_number_5 : decode cX9_number 5 = .ok (.getfield 16, 3) := by decide +kernel
theorem dX9_number_8 : decode cX9_number 8 = .ok (.iload_n 1, 1) := by decide +kernel
theorem dX9_number_9 : decode cX9_number 9 = .ok (.aload_n 0, 1) := by decide +kernel
theorem dX9_number_10 : decode cX9_number 10 = .ok (.getfield 82, 3) := by decide +kernel
theorem dX9_number_13 : decode cX9_number 13 = .ok (.iastore, 1) := by decide +kernel
theorem dX9_number_14 : decode cX9_number 14 = .ok (.aload_n 0, 1) := by decide +kernel
theorem dX9_number_15 : decode cX9_number 15 = .ok (.getfield 79, 3) := by decide +kernel
theorem dX9_number_18 : decode cX9_number 18 = .ok (.iconst 2, 1) := by decide +kernel
theorem dX9_number_19 : decode cX9_number 19 = .ok (.if_icmp .ne 19, 3) := by decide +kernel
theorem dX9_number_22 : decode cX9_number 22 = .ok (.aload_n 0, 1) := by decide +kernel
theorem dX9_number_23 : decode cX9_number 23 = .ok (.getfield 82, 3) := by decide +kernel
theorem dX9_number_26 : decode cX9_number 26 = .ok (.iload_n 2, 1) := by decide +kernel
theorem dX9_number_27 : decode cX9_number 27 = .ok (.iload_n 3, 1) := by decide +kernel
theorem dX9_number_28 : decode cX9_number 28 = .ok (.invokestatic 54, 3) := by decide +kernel
theorem dX9_number_31 : decode cX9_number 31 = .ok (.ifCond .eq 7, 3) := by decide +kernel
theorem dX9_number_34 : decode cX9_number 34 = .ok (.iconst 1, 1) := by decide +kernel
theorem dX9_number_35 : decode cX9_number 35 = .ok (.goto 4, 3) := by decide +kernel
theorem dX9_number_38 : decode cX9_number 38 = .ok (.iconst 0, 1) := by decide +kernel
theorem dX9_number_39 : decode cX9_number 39 = .ok (.ireturn, 1) := by decide +kernel
theorem dX9_readsStair_0 : decode cX9_readsStair 0 = .ok (.aload_n 0, 1) := by decide +kernel
theorem dX9_readsStair_1 : decode cX9_readsStair 1 = .ok (.getfield 16, 3) := by decide +kernel
theorem dX9_readsStair_4 : decode cX9_readsStair 4 = .ok (.iconst 0, 1) := by decide +kernel
theorem dX9_readsStair_5 : decode cX9_readsStair 5 = .ok (.iaload, 1) := by decide +kernel
theorem dX9_readsStair_6 : decode cX9_readsStair 6 = .ok (.istore_n 1, 1) := by decide +kernel
theorem dX9_readsStair_7 : decode cX9_readsStair 7 = .ok (.iload_n 1, 1) := by decide +kernel
theorem dX9_readsStair_8 : decode cX9_readsStair 8 = .ok (.bipush 7, 2) := by decide +kernel
theorem dX9_readsStair_10 : decode cX9_readsStair 10 = .ok (.if_icmp .eq 80, 3) := by decide +kernel
theorem dX9_readsStair_13 : decode cX9_readsStair 13 = .ok (.aload_n 0, 1) := by decide +kernel
theorem dX9_readsStair_14 : decode cX9_readsStair 14 = .ok (.bipush 6, 2) := by decide +kernel
theorem dX9_readsStair_16 : decode cX9_readsStair 16 = .ok (.iload_n 1, 1) := by decide +kernel
theorem dX9_readsStair_17 : decode cX9_readsStair 17 = .ok (.iadd, 1) := by decide +kernel
theorem dX9_readsStair_18 : decode cX9_readsStair 18 = .ok (.iconst 0, 1) := by decide +kernel
theorem dX9_readsStair_19 : decode cX9_readsStair 19 = .ok (.bipush 6, 2) := by decide +kernel
theorem dX9_readsStair_21 : decode cX9_readsStair 21 = .ok (.invokevirtual 88, 3) := by decide +kernel
theorem dX9_readsStair_24 : decode cX9_readsStair 24 = .ok (.ifCond .eq 66, 3) := by decide +kernel
theorem dX9_readsStair_27 : decode cX9_readsStair 27 = .ok (.aload_n 0, 1) := by decide +kernel
theorem dX9_readsStair_28 : decode cX9_readsStair 28 = .ok (.bipush 13, 2) := by decide +kernel
theorem dX9_readsStair_30 : decode cX9_readsStair 30 = .ok (.iload_n 1, 1) := by decide +kernel
theorem dX9_readsStair_31 : decode cX9_readsStair 31 = .ok (.iadd, 1) := by decide +kernel
theorem dX9_readsStair_32 : decode cX9_readsStair 32 = .ok (.iconst 0, 1) := by decide +kernel
theorem dX9_readsStair_33 : decode cX9_readsStair 33 = .ok (.bipush 6, 2) := by decide +kernel
theorem dX9_readsStair_35 : decode cX9_readsStair 35 = .ok (.invokevirtual 88, 3) := by decide +kernel
theorem dX9_readsStair_38 : decode cX9_readsStair 38 = .ok (.ifCond .eq 52, 3) := by decide +kernel
theorem dX9_readsStair_41 : decode cX9_readsStair 41 = .ok (.aload_n 0, 1) := by decide +kernel
theorem dX9_readsStair_42 : decode cX9_readsStair 42 = .ok (.getfield 16, 3) := by decide +kernel
theorem dX9_readsStair_45 : decode cX9_readsStair 45 = .ok (.bipush 13, 2) := by decide +kernel
theorem dX9_readsStair_47 : decode cX9_readsStair 47 = .ok (.iload_n 1, 1) := by decide +kernel
theorem dX9_readsStair_48 : decode cX9_readsStair 48 = .ok (.iadd, 1) := by decide +kernel
theorem dX9_readsStair_49 : decode cX9_readsStair 49 = .ok (.iaload, 1) := by decide +kernel
theorem dX9_readsStair_50 : decode cX9_readsStair 50 = .ok (.aload_n 0, 1) := by decide +kernel
theorem dX9_readsStair_51 : decode cX9_readsStair 51 = .ok (.getfield 16, 3) := by decide +kernel
theorem dX9_readsStair_54 : decode cX9_readsStair 54 = .ok (.bipush 6, 2) := by decide +kernel
theorem dX9_readsStair_56 : decode cX9_readsStair 56 = .ok (.iload_n 1, 1) := by decide +kernel
theorem dX9_readsStair_57 : decode cX9_readsStair 57 = .ok (.iadd, 1) := by decide +kernel
theorem dX9_readsStair_58 : decode cX9_readsStair 58 = .ok (.iaload, 1) := by decide +kernel
theorem dX9_readsStair_59 : decode cX9_readsStair 59 = .ok (.if_icmp .eq 31, 3) := by decide +kernel
theorem dX9_readsStair_62 : decode cX9_readsStair 62 = .ok (.aload_n 0, 1) := by decide +kernel
theorem dX9_readsStair_63 : decode cX9_readsStair 63 = .ok (.bipush 20, 2) := by decide +kernel
theorem dX9_readsStair_65 : decode cX9_readsStair 65 = .ok (.iload_n 1, 1) := by decide +kernel
theorem dX9_readsStair_66 : decode cX9_readsStair 66 = .ok (.iadd, 1) := by decide +kernel
theorem dX9_readsStair_67 : decode cX9_readsStair 67 = .ok (.iconst 1, 1) := by decide +kernel
theorem dX9_readsStair_68 : decode cX9_readsStair 68 = .ok (.bipush 99, 2) := by decide +kernel
theorem dX9_readsStair_70 : decode cX9_readsStair 70 = .ok (.invokevirtual 88, 3) := by decide +kernel
theorem dX9_readsStair_73 : decode cX9_readsStair 73 = .ok (.ifCond .eq 17, 3) := by decide +kernel
theorem dX9_readsStair_76 : decode cX9_readsStair 76 = .ok (.aload_n 0, 1) := by decide +kernel
theorem dX9_readsStair_77 : decode cX9_readsStair 77 = .ok (.bipush 27, 2) := by decide +kernel
theorem dX9_readsStair_79 : decode cX9_readsStair 79 = .ok (.iload_n 1, 1) := by decide +kernel
theorem dX9_readsStair_80 : decode cX9_readsStair 80 = .ok (.iadd, 1) := by decide +kernel
theorem dX9_readsStair_81 : decode cX9_readsStair 81 = .ok (.iconst 0, 1) := by decide +kernel
theorem dX9_readsStair_82 : decode cX9_readsStair 82 = .ok (.bipush 40, 2) := by decide +kernel
theorem dX9_readsStair_84 : decode cX9_readsStair 84 = .ok (.invokevirtual 88, 3) := by decide +kernel
theorem dX9_readsStair_87 : decode cX9_readsStair 87 = .ok (.ifCond .ne 5, 3) := by decide +kernel
theorem dX9_readsStair_90 : decode cX9_readsStair 90 = .ok (.iconst 0, 1) := by decide +kernel
theorem dX9_readsStair_91 : decode cX9_readsStair 91 = .ok (.ireturn, 1) := by decide +kernel
theorem dX9_readsStair_92 : decode cX9_readsStair 92 = .ok (.aload_n 0, 1) := by decide +kernel
theorem dX9_readsStair_93 : decode cX9_readsStair 93 = .ok (.getfield 16, 3) := by decide +kernel
theorem dX9_readsStair_96 : decode cX9_readsStair 96 = .ok (.iconst 0, 1) := by decide +kernel
theorem dX9_readsStair_97 : decode cX9_readsStair 97 = .ok (.dup2, 1) := by decide +kernel
theorem dX9_readsStair_98 : decode cX9_readsStair 98 = .ok (.iaload, 1) := by decide +kernel
theorem dX9_readsStair_99 : decode cX9_readsStair 99 = .ok (.iconst 1, 1) := by decide +kernel
theorem dX9_readsStair_100 : decode cX9_readsStair 100 = .ok (.iadd, 1) := by decide +kernel
theorem dX9_readsStair_101 : decode cX9_readsStair 101 = .ok (.iastore, 1) := by decide +kernel
theorem dX9_readsStair_102 : decode cX9_readsStair 102 = .ok (.iconst 1, 1) := by decide +kernel
theorem dX9_readsStair_103 : decode cX9_readsStair 103 = .ok (.ireturn, 1) := by decide +kernel
theorem dX9_readsPerson_0 : decode cX9_readsPerson 0 = .ok (.aload_n 0, 1) := by decide +kernel
theorem dX9_readsPerson_1 : decode cX9_readsPerson 1 = .ok (.getfield 16, 3) := by decide +kernel
theorem dX9_readsPerson_4 : decode cX9_readsPerson 4 = .ok (.iconst 1, 1) := by decide +kernel
theorem dX9_readsPerson_5 : decode cX9_readsPerson 5 = .ok (.iaload, 1) := by decide +kernel
theorem dX9_readsPerson_6 : decode cX9_readsPerson 6 = .ok (.istore_n 1, 1) := by decide +kernel
theorem dX9_readsPerson_7 : decode cX9_readsPerson 7 = .ok (.iload_n 1, 1) := by decide +kernel
theorem dX9_readsPerson_8 : decode cX9_readsPerson 8 = .ok (.iconst 5, 1) := by decide +kernel
theorem dX9_readsPerson_9 : decode cX9_readsPerson 9 = .ok (.if_icmp .eq 44, 3) := by decide +kernel
theorem dX9_readsPerson_12 : decode cX9_readsPerson 12 = .ok (.aload_n 0, 1) := by decide +kernel
theorem dX9_readsPerson_13 : decode cX9_readsPerson 13 = .ok (.bipush 34, 2) := by decide +kernel
theorem dX9_readsPerson_15 : decode cX9_readsPerson 15 = .ok (.iload_n 1, 1) := by decide +kernel
theorem dX9_readsPerson_16 : decode cX9_readsPerson 16 = .ok (.iadd, 1) := by decide +kernel
theorem dX9_readsPerson_17 : decode cX9_readsPerson 17 = .ok (.iconst 0, 1) := by decide +kernel
theorem dX9_readsPerson_18 : decode cX9_readsPerson 18 = .ok (.iconst 1, 1) := by decide +kernel
theorem dX9_readsPerson_19 : decode cX9_readsPerson 19 = .ok (.invokevirtual 88, 3) := by decide +kernel
theorem dX9_readsPerson_22 : decode cX9_readsPerson 22 = .ok (.ifCond .eq 31, 3) := by decide +kernel
theorem dX9_readsPerson_25 : decode cX9_readsPerson 25 = .ok (.aload_n 0, 1) := by decide +kernel
theorem dX9_readsPerson_26 : decode cX9_readsPerson 26 = .ok (.bipush 39, 2) := by decide +kernel
theorem dX9_readsPerson_28 : decode cX9_readsPerson 28 = .ok (.iload_n 1, 1) := by decide +kernel
theorem dX9_readsPerson_29 : decode cX9_readsPerson 29 = .ok (.iadd, 1) := by decide +kernel
theorem dX9_readsPerson_30 : decode cX9_readsPerson 30 = .ok (.iconst 0, 1) := by decide +kernel
theorem dX9_readsPerson_31 : decode cX9_readsPerson 31 = .ok (.bipush 10, 2) := by decide +kernel
theorem dX9_readsPerson_33 : decode cX9_readsPerson 33 = .ok (.invokevirtual 88, 3) := by decide +kernel
theorem dX9_readsPerson_36 : decode cX9_readsPerson 36 = .ok (.ifCond .eq 17, 3) := by decide +kernel
theorem dX9_readsPerson_39 : decode cX9_readsPerson 39 = .ok (.aload_n 0, 1) := by decide +kernel
theorem dX9_readsPerson_40 : decode cX9_readsPerson 40 = .ok (.bipush 44, 2) := by decide +kernel
theorem dX9_readsPerson_42 : decode cX9_readsPerson 42 = .ok (.iload_n 1, 1) := by decide +kernel
theorem dX9_readsPerson_43 : decode cX9_readsPerson 43 = .ok (.iadd, 1) := by decide +kernel
theorem dX9_readsPerson_44 : decode cX9_readsPerson 44 = .ok (.iconst 0, 1) := by decide +kernel
theorem dX9_readsPerson_45 : decode cX9_readsPerson 45 = .ok (.bipush 9, 2) := by decide +kernel
theorem dX9_readsPerson_47 : decode cX9_readsPerson 47 = .ok (.invokevirtual 88, 3) := by decide +kernel
theorem dX9_readsPerson_50 : decode cX9_readsPerson 50 = .ok (.ifCond .ne 5, 3) := by decide +kernel
theorem dX9_readsPerson_53 : decode cX9_readsPerson 53 = .ok (.iconst 0, 1) := by decide +kernel
theorem dX9_readsPerson_54 : decode cX9_readsPerson 54 = .ok (.ireturn, 1) := by decide +kernel
theorem dX9_readsPerson_55 : decode cX9_readsPerson 55 = .ok (.aload_n 0, 1) := by decide +kernel
theorem dX9_readsPerson_56 : decode cX9_readsPerson 56 = .ok (.getfield 16, 3) := by decide +kernel
theorem dX9_readsPerson_59 : decode cX9_readsPerson 59 = .ok (.iconst 1, 1) := by decide +kernel
theorem dX9_readsPerson_60 : decode cX9_readsPerson 60 = .ok (.dup2, 1) := by decide +kernel
theorem dX9_readsPerson_61 : decode cX9_readsPerson 61 = .ok (.iaload, 1) := by decide +kernel
theorem dX9_readsPerson_62 : decode cX9_readsPerson 62 = .ok (.iconst 1, 1) := by decide +kernel
theorem dX9_readsPerson_63 : decode cX9_readsPerson 63 = .ok (.iadd, 1) := by decide +kernel
theorem dX9_readsPerson_64 : decode cX9_readsPerson 64 = .ok (.iastore, 1) := by decide +kernel
theorem dX9_readsPerson_65 : decode cX9_readsPerson 65 = .ok (.iconst 1, 1) := by decide +kernel
theorem dX9_readsPerson_66 : decode cX9_readsPerson 66 = .ok (.ireturn, 1) := by decide +kernel
theorem dX9_once_0 : decode cX9_once 0 = .ok (.aload_n 0, 1) := by decide +kernel
theorem dX9_once_1 : decode cX9_once 1 = .ok (.getfield 16, 3) := by decide +kernel
theorem dX9_once_4 : decode cX9_once 4 = .ok (.iconst 5, 1) := by decide +kernel
theorem dX9_once_5 : decode cX9_once 5 = .ok (.iaload, 1) := by decide +kernel
theorem dX9_once_6 : decode cX9_once 6 = .ok (.iload_n 1, 1) := by decide +kernel
theorem dX9_once_7 : decode cX9_once 7 = .ok (.iand, 1) := by decide +kernel
theorem dX9_once_8 : decode cX9_once 8 = .ok (.ifCond .eq 5, 3) := by decide +kernel
theorem dX9_once_11 : decode cX9_once 11 = .ok (.iconst 0, 1) := by decide +kernel
theorem dX9_once_12 : decode cX9_once 12 = .ok (.ireturn, 1) := by decide +kernel
theorem dX9_once_13 : decode cX9_once 13 = .ok (.aload_n 0, 1) := by decide +kernel
theorem dX9_once_14 : decode cX9_once 14 = .ok (.getfield 16, 3) := by decide +kernel
theorem dX9_once_17 : decode cX9_once 17 = .ok (.iconst 5, 1) := by decide +kernel
theorem dX9_once_18 : decode cX9_once 18 = .ok (.dup2, 1) := by decide +kernel
theorem dX9_once_19 : decode cX9_once 19 = .ok (.iaload, 1) := by decide +kernel
theorem dX9_once_20 : decode cX9_once 20 = .ok (.iload_n 1, 1) := by decide +kernel
theorem dX9_once_21 : decode cX9_once 21 = .ok (.ior, 1) := by decide +kernel
theorem dX9_once_22 : decode cX9_once 22 = .ok (.iastore, 1) := by decide +kernel
theorem dX9_once_23 : decode cX9_once 23 = .ok (.aload_n 0, 1) := by decide +kernel
theorem dX9_once_24 : decode cX9_once 24 = .ok (.iload_n 2, 1) := by decide +kernel
theorem dX9_once_25 : decode cX9_once 25 = .ok (.iconst 0, 1) := by decide +kernel
theorem dX9_once_26 : decode cX9_once 26 = .ok (.bipush 9, 2) := by decide +kernel
theorem dX9_once_28 : decode cX9_once 28 = .ok (.invokevirtual 88, 3) := by decide +kernel
theorem dX9_once_31 : decode cX9_once 31 = .ok (.ireturn, 1) := by decide +kernel
theorem dX9_readsItem_0 : decode cX9_readsItem 0 = .ok (.aload_n 0, 1) := by decide +kernel
theorem dX9_readsItem_1 : decode cX9_readsItem 1 = .ok (.getfield 79, 3) := by decide +kernel
theorem dX9_readsItem_4 : decode cX9_readsItem 4 = .ok (.iconst 1, 1) := by decide +kernel
theorem dX9_readsItem_5 : decode cX9_readsItem 5 = .ok (.if_icmp .ne 10, 3) := by decide +kernel
theorem dX9_readsItem_8 : decode cX9_readsItem 8 = .ok (.aload_n 0, 1) := by decide +kernel
theorem dX9_readsItem_9 : decode cX9_readsItem 9 = .ok (.getfield 82, 3) := by decide +kernel
theorem dX9_readsItem_12 : decode cX9_readsItem 12 = .ok (.goto 4, 3) := by decide +kernel
theorem dX9_readsItem_15 : decode cX9_readsItem 15 = .ok (.iconst 0, 1) := by decide +kernel
theorem dX9_readsItem_16 : decode cX9_readsItem 16 = .ok (.istore_n 1, 1) := by decide +kernel
theorem dX9_readsItem_17 : decode cX9_readsItem 17 = .ok (.iload_n 1, 1) := by decide +kernel
theorem dX9_readsItem_18 : decode cX9_readsItem 18 = .ok (.lookupswitch 66 #[(100, 52), (112, 47), (115, 42), (116, 59)], 42) := by decide +kernel
theorem dX9_readsItem_60 : decode cX9_readsItem 60 = .ok (.aload_n 0, 1) := by decide +kernel
theorem dX9_readsItem_61 : decode cX9_readsItem 61 = .ok (.invokevirtual 91, 3) := by decide +kernel
theorem dX9_readsItem_64 : decode cX9_readsItem 64 = .ok (.ireturn, 1) := by decide +kernel
theorem dX9_readsItem_65 : decode cX9_readsItem 65 = .ok (.aload_n 0, 1) := by decide +kernel
theorem dX9_readsItem_66 : decode cX9_readsItem 66 = .ok (.invokevirtual 94, 3) := by decide +kernel
theorem dX9_readsItem_69 : decode cX9_readsItem 69 = .ok (.ireturn, 1) := by decide +kernel
theorem dX9_readsItem_70 : decode cX9_readsItem 70 = .ok (.aload_n 0, 1) := by decide +kernel
theorem dX9_readsItem_71 : decode cX9_readsItem 71 = .ok (.iconst 1, 1) := by decide +kernel
theorem dX9_readsItem_72 : decode cX9_readsItem 72 = .ok (.iconst 2, 1) := by decide +kernel
theorem dX9_readsItem_73 : decode cX9_readsItem 73 = .ok (.invokevirtual 97, 3) := by decide +kernel
theorem dX9_readsItem_76 : decode cX9_readsItem 76 = .ok (.ireturn, 1) := by decide +kernel
theorem dX9_readsItem_77 : decode cX9_readsItem 77 = .ok (.aload_n 0, 1) := by decide +kernel
theorem dX9_readsItem_78 : decode cX9_readsItem 78 = .ok (.iconst 2, 1) := by decide +kernel
theorem dX9_readsItem_79 : decode cX9_readsItem 79 = .ok (.iconst 3, 1) := by decide +kernel
theorem dX9_readsItem_80 : decode cX9_readsItem 80 = .ok (.invokevirtual 97, 3) := by decide +kernel
theorem dX9_readsItem_83 : decode cX9_readsItem 83 = .ok (.ireturn, 1) := by decide +kernel
theorem dX9_readsItem_84 : decode cX9_readsItem 84 = .ok (.iconst 0, 1) := by decide +kernel
theorem dX9_readsItem_85 : decode cX9_readsItem 85 = .ok (.ireturn, 1) := by decide +kernel
theorem dX9_reads_0 : decode cX9_reads 0 = .ok (.iconst 0, 1) := by decide +kernel
theorem dX9_reads_1 : decode cX9_reads 1 = .ok (.istore_n 1, 1) := by decide +kernel
theorem dX9_reads_2 : decode cX9_reads 2 = .ok (.iload_n 1, 1) := by decide +kernel
theorem dX9_reads_3 : decode cX9_reads 3 = .ok (.bipush 49, 2) := by decide +kernel
theorem dX9_reads_5 : decode cX9_reads 5 = .ok (.if_icmp .ge 16, 3) := by decide +kernel
theorem dX9_reads_8 : decode cX9_reads 8 = .ok (.aload_n 0, 1) := by decide +kernel
theorem dX9_reads_9 : decode cX9_reads 9 = .ok (.getfield 16, 3) := by decide +kernel
theorem dX9_reads_12 : decode cX9_reads 12 = .ok (.iload_n 1, 1) := by decide +kernel
theorem dX9_reads_13 : decode cX9_reads 13 = .ok (.iconst 0, 1) := by decide +kernel
theorem dX9_reads_14 : decode cX9_reads 14 = .ok (.iastore, 1) := by decide +kernel
theorem dX9_reads_15 : decode cX9_reads 15 = .ok (.iinc 1 1, 3) := by decide +kernel
theorem dX9_reads_18 : decode cX9_reads 18 = .ok (.goto (-16), 3) := by decide +kernel
theorem dX9_reads_21 : decode cX9_reads 21 = .ok (.aload_n 0, 1) := by decide +kernel
theorem dX9_reads_22 : decode cX9_reads 22 = .ok (.getfield 16, 3) := by decide +kernel
theorem dX9_reads_25 : decode cX9_reads 25 = .ok (.iconst 2, 1) := by decide +kernel
theorem dX9_reads_26 : decode cX9_reads 26 = .ok (.iconst 3, 1) := by decide +kernel
theorem dX9_reads_27 : decode cX9_reads 27 = .ok (.iastore, 1) := by decide +kernel
theorem dX9_reads_28 : decode cX9_reads 28 = .ok (.aload_n 0, 1) := by decide +kernel
theorem dX9_reads_29 : decode cX9_reads 29 = .ok (.getfield 16, 3) := by decide +kernel
theorem dX9_reads_32 : decode cX9_reads 32 = .ok (.iconst 3, 1) := by decide +kernel
theorem dX9_reads_33 : decode cX9_reads 33 = .ok (.iconst 3, 1) := by decide +kernel
theorem dX9_reads_34 : decode cX9_reads 34 = .ok (.iastore, 1) := by decide +kernel
theorem dX9_reads_35 : decode cX9_reads 35 = .ok (.aload_n 0, 1) := by decide +kernel
theorem dX9_reads_36 : decode cX9_reads 36 = .ok (.iconst 0, 1) := by decide +kernel
theorem dX9_reads_37 : decode cX9_reads 37 = .ok (.putfield 62, 3) := by decide +kernel
theorem dX9_reads_40 : decode cX9_reads 40 = .ok (.aload_n 0, 1) := by decide +kernel
theorem dX9_reads_41 : decode cX9_reads 41 = .ok (.invokevirtual 85, 3) := by decide +kernel
theorem dX9_reads_44 : decode cX9_reads 44 = .ok (.aload_n 0, 1) := by decide +kernel
theorem dX9_reads_45 : decode cX9_reads 45 = .ok (.getfield 79, 3) := by decide +kernel
theorem dX9_reads_48 : decode cX9_reads 48 = .ok (.ifCond .eq 43, 3) := by decide +kernel
theorem dX9_reads_51 : decode cX9_reads 51 = .ok (.aload_n 0, 1) := by decide +kernel
theorem dX9_reads_52 : decode cX9_reads 52 = .ok (.invokevirtual 101, 3) := by decide +kernel
theorem dX9_reads_55 : decode cX9_reads 55 = .ok (.ifCond .ne 5, 3) := by decide +kernel
theorem dX9_reads_58 : decode cX9_reads 58 = .ok (.iconst 0, 1) := by decide +kernel
theorem dX9_reads_59 : decode cX9_reads 59 = .ok (.ireturn, 1) := by decide +kernel
theorem dX9_reads_60 : decode cX9_reads 60 = .ok (.aload_n 0, 1) := by decide +kernel
theorem dX9_reads_61 : decode cX9_reads 61 = .ok (.invokevirtual 85, 3) := by decide +kernel
theorem dX9_reads_64 : decode cX9_reads 64 = .ok (.aload_n 0, 1) := by decide +kernel
theorem dX9_reads_65 : decode cX9_reads 65 = .ok (.getfield 79, 3) := by decide +kernel
theorem dX9_reads_68 : decode cX9_reads 68 = .ok (.iconst 3, 1) := by decide +kernel
theorem dX9_reads_69 : decode cX9_reads 69 = .ok (.if_icmp .eq 5, 3) := by decide +kernel
theorem dX9_reads_72 : decode cX9_reads 72 = .ok (.iconst 0, 1) := by decide +kernel
theorem dX9_reads_73 : decode cX9_reads 73 = .ok (.ireturn, 1) := by decide +kernel
theorem dX9_reads_74 : decode cX9_reads 74 = .ok (.aload_n 0, 1) := by decide +kernel
theorem dX9_reads_75 : decode cX9_reads 75 = .ok (.getfield 16, 3) := by decide +kernel
theorem dX9_reads_78 : decode cX9_reads 78 = .ok (.iconst 4, 1) := by decide +kernel
theorem dX9_reads_79 : decode cX9_reads 79 = .ok (.dup2, 1) := by decide +kernel
theorem dX9_reads_80 : decode cX9_reads 80 = .ok (.iaload, 1) := by decide +kernel
theorem dX9_reads_81 : decode cX9_reads 81 = .ok (.iconst 1, 1) := by decide +kernel
theorem dX9_reads_82 : decode cX9_reads 82 = .ok (.iadd, 1) := by decide +kernel
theorem dX9_reads_83 : decode cX9_reads 83 = .ok (.iastore, 1) := by decide +kernel
theorem dX9_reads_84 : decode cX9_reads 84 = .ok (.aload_n 0, 1) := by decide +kernel
theorem dX9_reads_85 : decode cX9_reads 85 = .ok (.invokevirtual 85, 3) := by decide +kernel
theorem dX9_reads_88 : decode cX9_reads 88 = .ok (.goto (-44), 3) := by decide +kernel
theorem dX9_reads_91 : decode cX9_reads 91 = .ok (.iconst 1, 1) := by decide +kernel
theorem dX9_reads_92 : decode cX9_reads 92 = .ok (.ireturn, 1) := by decide +kernel
theorem dX9_tells_0 : decode cX9_tells 0 = .ok (.iconst 0, 1) := by decide +kernel
theorem dX9_tells_1 : decode cX9_tells 1 = .ok (.istore_n 1, 1) := by decide +kernel
theorem dX9_tells_2 : decode cX9_tells 2 = .ok (.iload_n 1, 1) := by decide +kernel
theorem dX9_tells_3 : decode cX9_tells 3 = .ok (.bipush 49, 2) := by decide +kernel
theorem dX9_tells_5 : decode cX9_tells 5 = .ok (.if_icmp .ge 21, 3) := by decide +kernel
theorem dX9_tells_8 : decode cX9_tells 8 = .ok (.aload_n 0, 1) := by decide +kernel
theorem dX9_tells_9 : decode cX9_tells 9 = .ok (.getfield 13, 3) := by decide +kernel
theorem dX9_tells_12 : decode cX9_tells 12 = .ok (.iload_n 1, 1) := by decide +kernel
theorem dX9_tells_13 : decode cX9_tells 13 = .ok (.aload_n 0, 1) := by decide +kernel
theorem dX9_tells_14 : decode cX9_tells 14 = .ok (.getfield 16, 3) := by decide +kernel
theorem dX9_tells_17 : decode cX9_tells 17 = .ok (.iload_n 1, 1) := by decide +kernel
theorem dX9_tells_18 : decode cX9_tells 18 = .ok (.iaload, 1) := by decide +kernel
theorem dX9_tells_19 : decode cX9_tells 19 = .ok (.iastore, 1) := by decide +kernel
theorem dX9_tells_20 : decode cX9_tells 20 = .ok (.iinc 1 1, 3) := by decide +kernel
theorem dX9_tells_23 : decode cX9_tells 23 = .ok (.goto (-21), 3) := by decide +kernel
theorem dX9_tells_26 : decode cX9_tells 26 = .ok (.iconst 0, 1) := by decide +kernel
theorem dX9_tells_27 : decode cX9_tells 27 = .ok (.istore_n 1, 1) := by decide +kernel
theorem dX9_tells_28 : decode cX9_tells 28 = .ok (.iload_n 1, 1) := by decide +kernel
theorem dX9_tells_29 : decode cX9_tells 29 = .ok (.bipush 65, 2) := by decide +kernel
theorem dX9_tells_31 : decode cX9_tells 31 = .ok (.if_icmp .gt 38, 3) := by decide +kernel
theorem dX9_tells_34 : decode cX9_tells 34 = .ok (.aload_n 0, 1) := by decide +kernel
theorem dX9_tells_35 : decode cX9_tells 35 = .ok (.getfield 19, 3) := by decide +kernel
theorem dX9_tells_38 : decode cX9_tells 38 = .ok (.iload_n 1, 1) := by decide +kernel
theorem dX9_tells_39 : decode cX9_tells 39 = .ok (.iload_n 1, 1) := by decide +kernel
theorem dX9_tells_40 : decode cX9_tells 40 = .ok (.aload_n 0, 1) := by decide +kernel
theorem dX9_tells_41 : decode cX9_tells 41 = .ok (.getfield 13, 3) := by decide +kernel
theorem dX9_tells_44 : decode cX9_tells 44 = .ok (.iconst 0, 1) := by decide +kernel
theorem dX9_tells_45 : decode cX9_tells 45 = .ok (.iaload, 1) := by decide +kernel
theorem dX9_tells_46 : decode cX9_tells 46 = .ok (.if_icmp .ge 15, 3) := by decide +kernel
theorem dX9_tells_49 : decode cX9_tells 49 = .ok (.aload_n 0, 1) := by decide +kernel
theorem dX9_tells_50 : decode cX9_tells 50 = .ok (.getfield 13, 3) := by decide +kernel
theorem dX9_tells_53 : decode cX9_tells 53 = .ok (.bipush 27, 2) := by decide +kernel
theorem dX9_tells_55 : decode cX9_tells 55 = .ok (.iload_n 1, 1) := by decide +kernel
theorem dX9_tells_56 : decode cX9_tells 56 = .ok (.iadd, 1) := by decide +kernel
theorem dX9_tells_57 : decode cX9_tells 57 = .ok (.iaload, 1) := by decide +kernel
theorem dX9_tells_58 : decode cX9_tells 58 = .ok (.goto 4, 3) := by decide +kernel
theorem dX9_tells_61 : decode cX9_tells 61 = .ok (.iconst 0, 1) := by decide +kernel
theorem dX9_tells_62 : decode cX9_tells 62 = .ok (.iastore, 1) := by decide +kernel
theorem dX9_tells_63 : decode cX9_tells 63 = .ok (.iinc 1 1, 3) := by decide +kernel
theorem dX9_tells_66 : decode cX9_tells 66 = .ok (.goto (-38), 3) := by decide +kernel
theorem dX9_tells_69 : decode cX9_tells 69 = .ok (.aload_n 0, 1) := by decide +kernel
theorem dX9_tells_70 : decode cX9_tells 70 = .ok (.getfield 25, 3) := by decide +kernel
theorem dX9_tells_73 : decode cX9_tells 73 = .ok (.iconst 0, 1) := by decide +kernel
theorem dX9_tells_74 : decode cX9_tells 74 = .ok (.iconst 0, 1) := by decide +kernel
theorem dX9_tells_75 : decode cX9_tells 75 = .ok (.bastore, 1) := by decide +kernel
theorem dX9_tells_76 : decode cX9_tells 76 = .ok (.aload_n 0, 1) := by decide +kernel
theorem dX9_tells_77 : decode cX9_tells 77 = .ok (.getfield 25, 3) := by decide +kernel
theorem dX9_tells_80 : decode cX9_tells 80 = .ok (.iconst 1, 1) := by decide +kernel
theorem dX9_tells_81 : decode cX9_tells 81 = .ok (.iconst 0, 1) := by decide +kernel
theorem dX9_tells_82 : decode cX9_tells 82 = .ok (.bastore, 1) := by decide +kernel
theorem dX9_tells_83 : decode cX9_tells 83 = .ok (.return_, 1) := by decide +kernel
theorem dX9_house_0 : decode cX9_house 0 = .ok (.aload_n 0, 1) := by decide +kernel
theorem dX9_house_1 : decode cX9_house 1 = .ok (.invokevirtual 47, 3) := by decide +kernel
theorem dX9_house_4 : decode cX9_house 4 = .ok (.ifCond .ne 11, 3) := by decide +kernel
theorem dX9_house_7 : decode cX9_house 7 = .ok (.bipush (-10), 2) := by decide +kernel
theorem dX9_house_9 : decode cX9_house 9 = .ok (.aload_n 0, 1) := by decide +kernel
theorem dX9_house_10 : decode cX9_house 10 = .ok (.getfield 69, 3) := by decide +kernel
theorem dX9_house_13 : decode cX9_house 13 = .ok (.isub, 1) := by decide +kernel
theorem dX9_house_14 : decode cX9_house 14 = .ok (.ireturn, 1) := by decide +kernel
theorem dX9_house_15 : decode cX9_house 15 = .ok (.aload_n 0, 1) := by decide +kernel
theorem dX9_house_16 : decode cX9_house 16 = .ok (.invokevirtual 51, 3) := by decide +kernel
theorem dX9_house_19 : decode cX9_house 19 = .ok (.aload_n 0, 1) := by decide +kernel
theorem dX9_house_20 : decode cX9_house 20 = .ok (.iconst 0, 1) := by decide +kernel
theorem dX9_house_21 : decode cX9_house 21 = .ok (.putfield 58, 3) := by decide +kernel
theorem dX9_house_24 : decode cX9_house 24 = .ok (.aload_n 0, 1) := by decide +kernel
theorem dX9_house_25 : decode cX9_house 25 = .ok (.getfield 13, 3) := by decide +kernel
theorem dX9_house_28 : decode cX9_house 28 = .ok (.iconst 4, 1) := by decide +kernel
theorem dX9_house_29 : decode cX9_house 29 = .ok (.iaload, 1) := by decide +kernel
theorem dX9_house_30 : decode cX9_house 30 = .ok (.ireturn, 1) := by decide +kernel
theorem dX9_price_0 : decode cX9_price 0 = .ok (.bipush 9, 2) := by decide +kernel
theorem dX9_price_2 : decode cX9_price 2 = .ok (.aload_n 0, 1) := by decide +kernel
theorem dX9_price_3 : decode cX9_price 3 = .ok (.getfield 19, 3) := by decide +kernel
theorem dX9_price_6 : decode cX9_price 6 = .ok (.iload_n 1, 1) := by decide +kernel
theorem dX9_price_7 : decode cX9_price 7 = .ok (.iaload, 1) := by decide +kernel
theorem dX9_price_8 : decode cX9_price 8 = .ok (.imul, 1) := by decide +kernel
theorem dX9_price_9 : decode cX9_price 9 = .ok (.aload_n 0, 1) := by decide +kernel
theorem dX9_price_10 : decode cX9_price 10 = .ok (.getfield 13, 3) := by decide +kernel
theorem dX9_price_13 : decode cX9_price 13 = .ok (.bipush 20, 2) := by decide +kernel
theorem dX9_price_15 : decode cX9_price 15 = .ok (.iload_n 1, 1) := by decide +kernel
theorem dX9_price_16 : decode cX9_price 16 = .ok (.iadd, 1) := by decide +kernel
theorem dX9_price_17 : decode cX9_price 17 = .ok (.iaload, 1) := by decide +kernel
theorem dX9_price_18 : decode cX9_price 18 = .ok (.isub, 1) := by decide +kernel
theorem dX9_price_19 : decode cX9_price 19 = .ok (.istore_n 2, 1) := by decide +kernel
theorem dX9_price_20 : decode cX9_price 20 = .ok (.iload_n 2, 1) := by decide +kernel
theorem dX9_price_21 : decode cX9_price 21 = .ok (.ifCond .ge 7, 3) := by decide +kernel
theorem dX9_price_24 : decode cX9_price 24 = .ok (.iconst 0, 1) := by decide +kernel
theorem dX9_price_25 : decode cX9_price 25 = .ok (.goto 4, 3) := by decide +kernel
theorem dX9_price_28 : decode cX9_price 28 = .ok (.iload_n 2, 1) := by decide +kernel
theorem dX9_price_29 : decode cX9_price 29 = .ok (.ireturn, 1) := by decide +kernel
theorem dX9_stair_0 : decode cX9_stair 0 = .ok (.aload_n 0, 1) := by decide +kernel
theorem dX9_stair_1 : decode cX9_stair 1 = .ok (.iload_n 1, 1) := by decide +kernel
theorem dX9_stair_2 : decode cX9_stair 2 = .ok (.invokevirtual 104, 3) := by decide +kernel
theorem dX9_stair_5 : decode cX9_stair 5 = .ok (.ifCond .ne 5, 3) := by decide +kernel
theorem dX9_stair_8 : decode cX9_stair 8 = .ok (.iconst (-1), 1) := by decide +kernel
theorem dX9_stair_9 : decode cX9_stair 9 = .ok (.ireturn, 1) := by decide +kernel
theorem dX9_stair_10 : decode cX9_stair 10 = .ok (.iload_n 2, 1) := by decide +kernel
theorem dX9_stair_11 : decode cX9_stair 11 = .ok (.tableswitch 104 0 6 #[41, 51, 61, 71, 81, 88, 98], 41) := by decide +kernel
theorem dX9_stair_52 : decode cX9_stair 52 = .ok (.aload_n 0, 1) := by decide +kernel
theorem dX9_stair_53 : decode cX9_stair 53 = .ok (.getfield 13, 3) := by decide +kernel
theorem dX9_stair_56 : decode cX9_stair 56 = .ok (.bipush 6, 2) := by decide +kernel
theorem dX9_stair_58 : decode cX9_stair 58 = .ok (.iload_n 1, 1) := by decide +kernel
theorem dX9_stair_59 : decode cX9_stair 59 = .ok (.iadd, 1) := by decide +kernel
theorem dX9_stair_60 : decode cX9_stair 60 = .ok (.iaload, 1) := by decide +kernel
theorem dX9_stair_61 : decode cX9_stair 61 = .ok (.ireturn, 1) := by decide +kernel
theorem dX9_stair_62 : decode cX9_stair 62 = .ok (.aload_n 0, 1) := by decide +kernel
theorem dX9_stair_63 : decode cX9_stair 63 = .ok (.getfield 13, 3) := by decide +kernel
theorem dX9_stair_66 : decode cX9_stair 66 = .ok (.bipush 13, 2) := by decide +kernel
theorem dX9_stair_68 : decode cX9_stair 68 = .ok (.iload_n 1, 1) := by decide +kernel
theorem dX9_stair_69 : decode cX9_stair 69 = .ok (.iadd, 1) := by decide +kernel
theorem dX9_stair_70 : decode cX9_stair 70 = .ok (.iaload, 1) := by decide +kernel
theorem dX9_stair_71 : decode cX9_stair 71 = .ok (.ireturn, 1) := by decide +kernel
theorem dX9_stair_72 : decode cX9_stair 72 = .ok (.aload_n 0, 1) := by decide +kernel
theorem dX9_stair_73 : decode cX9_stair 73 = .ok (.getfield 13, 3) := by decide +kernel
theorem dX9_stair_76 : decode cX9_stair 76 = .ok (.bipush 20, 2) := by decide +kernel
theorem dX9_stair_78 : decode cX9_stair 78 = .ok (.iload_n 1, 1) := by decide +kernel
theorem dX9_stair_79 : decode cX9_stair 79 = .ok (.iadd, 1) := by decide +kernel
theorem dX9_stair_80 : decode cX9_stair 80 = .ok (.iaload, 1) := by decide +kernel
theorem dX9_stair_81 : decode cX9_stair 81 = .ok (.ireturn, 1) := by decide +kernel
theorem dX9_stair_82 : decode cX9_stair 82 = .ok (.aload_n 0, 1) := by decide +kernel
theorem dX9_stair_83 : decode cX9_stair 83 = .ok (.getfield 13, 3) := by decide +kernel
theorem dX9_stair_86 : decode cX9_stair 86 = .ok (.bipush 27, 2) := by decide +kernel
theorem dX9_stair_88 : decode cX9_stair 88 = .ok (.iload_n 1, 1) := by decide +kernel
theorem dX9_stair_89 : decode cX9_stair 89 = .ok (.iadd, 1) := by decide +kernel
theorem dX9_stair_90 : decode cX9_stair 90 = .ok (.iaload, 1) := by decide +kernel
theorem dX9_stair_91 : decode cX9_stair 91 = .ok (.ireturn, 1) := by decide +kernel
theorem dX9_stair_92 : decode cX9_stair 92 = .ok (.aload_n 0, 1) := by decide +kernel
theorem dX9_stair_93 : decode cX9_stair 93 = .ok (.getfield 19, 3) := by decide +kernel
theorem dX9_stair_96 : decode cX9_stair 96 = .ok (.iload_n 1, 1) := by decide +kernel
theorem dX9_stair_97 : decode cX9_stair 97 = .ok (.iaload, 1) := by decide +kernel
theorem dX9_stair_98 : decode cX9_stair 98 = .ok (.ireturn, 1) := by decide +kernel
theorem dX9_stair_99 : decode cX9_stair 99 = .ok (.aload_n 0, 1) := by decide +kernel
theorem dX9_stair_100 : decode cX9_stair 100 = .ok (.getfield 19, 3) := by decide +kernel
theorem dX9_stair_103 : decode cX9_stair 103 = .ok (.bipush 7, 2) := by decide +kernel
theorem dX9_stair_105 : decode cX9_stair 105 = .ok (.iload_n 1, 1) := by decide +kernel
theorem dX9_stair_106 : decode cX9_stair 106 = .ok (.iadd, 1) := by decide +kernel
theorem dX9_stair_107 : decode cX9_stair 107 = .ok (.iaload, 1) := by decide +kernel
theorem dX9_stair_108 : decode cX9_stair 108 = .ok (.ireturn, 1) := by decide +kernel
theorem dX9_stair_109 : decode cX9_stair 109 = .ok (.aload_n 0, 1) := by decide +kernel
theorem dX9_stair_110 : decode cX9_stair 110 = .ok (.iload_n 1, 1) := by decide +kernel
theorem dX9_stair_111 : decode cX9_stair 111 = .ok (.invokevirtual 107, 3) := by decide +kernel
theorem dX9_stair_114 : decode cX9_stair 114 = .ok (.ireturn, 1) := by decide +kernel
theorem dX9_stair_115 : decode cX9_stair 115 = .ok (.iconst (-1), 1) := by decide +kernel
theorem dX9_stair_116 : decode cX9_stair 116 = .ok (.ireturn, 1) := by decide +kernel
theorem dX9_person_0 : decode cX9_person 0 = .ok (.aload_n 0, 1) := by decide +kernel
theorem dX9_person_1 : decode cX9_person 1 = .ok (.iload_n 1, 1) := by decide +kernel
theorem dX9_person_2 : decode cX9_person 2 = .ok (.invokevirtual 110, 3) := by decide +kernel
theorem dX9_person_5 : decode cX9_person 5 = .ok (.ifCond .eq 12, 3) := by decide +kernel
theorem dX9_person_8 : decode cX9_person 8 = .ok (.iload_n 2, 1) := by decide +kernel
theorem dX9_person_9 : decode cX9_person 9 = .ok (.iconst 0, 1) := by decide +kernel
theorem dX9_person_10 : decode cX9_person 10 = .ok (.iconst 2, 1) := by decide +kernel
theorem dX9_person_11 : decode cX9_person 11 = .ok (.invokestatic 54, 3) := by decide +kernel
theorem dX9_person_14 : decode cX9_person 14 = .ok (.ifCond .ne 5, 3) := by decide +kernel
theorem dX9_person_17 : decode cX9_person 17 = .ok (.iconst (-1), 1) := by decide +kernel
theorem dX9_person_18 : decode cX9_person 18 = .ok (.ireturn, 1) := by decide +kernel
theorem dX9_person_19 : decode cX9_person 19 = .ok (.aload_n 0, 1) := by decide +kernel
theorem dX9_person_20 : decode cX9_person 20 = .ok (.getfield 13, 3) := by decide +kernel
theorem dX9_person_23 : decode cX9_person 23 = .ok (.bipush 34, 2) := by decide +kernel
theorem dX9_person_25 : decode cX9_person 25 = .ok (.iconst 5, 1) := by decide +kernel
theorem dX9_person_26 : decode cX9_person 26 = .ok (.iload_n 2, 1) := by decide +kernel
theorem dX9_person_27 : decode cX9_person 27 = .ok (.imul, 1) := by decide +kernel
theorem dX9_person_28 : decode cX9_person 28 = .ok (.iadd, 1) := by decide +kernel
theorem dX9_person_29 : decode cX9_person 29 = .ok (.iload_n 1, 1) := by decide +kernel
theorem dX9_person_30 : decode cX9_person 30 = .ok (.iadd, 1) := by decide +kernel
theorem dX9_person_31 : decode cX9_person 31 = .ok (.iaload, 1) := by decide +kernel
theorem dX9_person_32 : decode cX9_person 32 = .ok (.ireturn, 1) := by decide +kernel
theorem dX9_bond_0 : decode cX9_bond 0 = .ok (.aload_n 0, 1) := by decide +kernel
theorem dX9_bond_1 : decode cX9_bond 1 = .ok (.iload_n 1, 1) := by decide +kernel
theorem dX9_bond_2 : decode cX9_bond 2 = .ok (.invokevirtual 104, 3) := by decide +kernel
theorem dX9_bond_5 : decode cX9_bond 5 = .ok (.ifCond .eq 33, 3) := by decide +kernel
theorem dX9_bond_8 : decode cX9_bond 8 = .ok (.aload_n 0, 1) := by decide +kernel
theorem dX9_bond_9 : decode cX9_bond 9 = .ok (.iload_n 2, 1) := by decide +kernel
theorem dX9_bond_10 : decode cX9_bond 10 = .ok (.invokevirtual 104, 3) := by decide +kernel
theorem dX9_bond_13 : decode cX9_bond 13 = .ok (.ifCond .eq 25, 3) := by decide +kernel
theorem dX9_bond_16 : decode cX9_bond 16 = .ok (.iload_n 1, 1) := by decide +kernel
theorem dX9_bond_17 : decode cX9_bond 17 = .ok (.iload_n 2, 1) := by decide +kernel
theorem dX9_bond_18 : decode cX9_bond 18 = .ok (.if_icmp .eq 20, 3) := by decide +kernel
theorem dX9_bond_21 : decode cX9_bond 21 = .ok (.aload_n 0, 1) := by decide +kernel
theorem dX9_bond_22 : decode cX9_bond 22 = .ok (.getfield 19, 3) := by decide +kernel
theorem dX9_bond_25 : decode cX9_bond 25 = .ok (.bipush 14, 2) := by decide +kernel
theorem dX9_bond_27 : decode cX9_bond 27 = .ok (.bipush 7, 2) := by decide +kernel
theorem dX9_bond_29 : decode cX9_bond 29 = .ok (.iload_n 1, 1) := by decide +kernel
theorem dX9_bond_30 : decode cX9_bond 30 = .ok (.imul, 1) := by decide +kernel
theorem dX9_bond_31 : decode cX9_bond 31 = .ok (.iadd, 1) := by decide +kernel
theorem dX9_bond_32 : decode cX9_bond 32 = .ok (.iload_n 2, 1) := by decide +kernel
theorem dX9_bond_33 : decode cX9_bond 33 = .ok (.iadd, 1) := by decide +kernel
theorem dX9_bond_34 : decode cX9_bond 34 = .ok (.iaload, 1) := by decide +kernel
theorem dX9_bond_35 : decode cX9_bond 35 = .ok (.goto 4, 3) := by decide +kernel
theorem dX9_bond_38 : decode cX9_bond 38 = .ok (.iconst (-1), 1) := by decide +kernel
theorem dX9_bond_39 : decode cX9_bond 39 = .ok (.ireturn, 1) := by decide +kernel
theorem dX9_keeps_0 : decode cX9_keeps 0 = .ok (.aload_n 0, 1) := by decide +kernel
theorem dX9_keeps_1 : decode cX9_keeps 1 = .ok (.getfield 19, 3) := by decide +kernel
theorem dX9_keeps_4 : decode cX9_keeps 4 = .ok (.bipush 65, 2) := by decide +kernel
theorem dX9_keeps_6 : decode cX9_keeps 6 = .ok (.iaload, 1) := by decide +kernel
theorem dX9_keeps_7 : decode cX9_keeps 7 = .ok (.bipush 10, 2) := by decide +kernel
theorem dX9_keeps_9 : decode cX9_keeps 9 = .ok (.if_icmp .ne 45, 3) := by decide +kernel
theorem dX9_keeps_12 : decode cX9_keeps 12 = .ok (.bipush 66, 2) := by decide +kernel
theorem dX9_keeps_14 : decode cX9_keeps 14 = .ok (.istore_n 1, 1) := by decide +kernel
theorem dX9_keeps_15 : decode cX9_keeps 15 = .ok (.iload_n 1, 1) := by decide +kernel
theorem dX9_keeps_16 : decode cX9_keeps 16 = .ok (.sipush 651, 3) := by decide +kernel
theorem dX9_keeps_19 : decode cX9_keeps 19 = .ok (.if_icmp .ge 24, 3) := by decide +kernel
theorem dX9_keeps_22 : decode cX9_keeps 22 = .ok (.aload_n 0, 1) := by decide +kernel
theorem dX9_keeps_23 : decode cX9_keeps 23 = .ok (.getfield 19, 3) := by decide +kernel
theorem dX9_keeps_26 : decode cX9_keeps 26 = .ok (.iload_n 1, 1) := by decide +kernel
theorem dX9_keeps_27 : decode cX9_keeps 27 = .ok (.aload_n 0, 1) := by decide +kernel
theorem dX9_keeps_28 : decode cX9_keeps 28 = .ok (.getfield 19, 3) := by decide +kernel
theorem dX9_keeps_31 : decode cX9_keeps 31 = .ok (.iload_n 1, 1) := by decide +kernel
theorem dX9_keeps_32 : decode cX9_keeps 32 = .ok (.bipush 65, 2) := by decide +kernel
theorem dX9_keeps_34 : decode cX9_keeps 34 = .ok (.iadd, 1) := by decide +kernel
theorem dX9_keeps_35 : decode cX9_keeps 35 = .ok (.iaload, 1) := by decide +kernel
theorem dX9_keeps_36 : decode cX9_keeps 36 = .ok (.iastore, 1) := by decide +kernel
theorem dX9_keeps_37 : decode cX9_keeps 37 = .ok (.iinc 1 1, 3) := by decide +kernel
theorem dX9_keeps_40 : decode cX9_keeps 40 = .ok (.goto (-25), 3) := by decide +kernel
theorem dX9_keeps_43 : decode cX9_keeps 43 = .ok (.aload_n 0, 1) := by decide +kernel
theorem dX9_keeps_44 : decode cX9_keeps 44 = .ok (.getfield 19, 3) := by decide +kernel
theorem dX9_keeps_47 : decode cX9_keeps 47 = .ok (.bipush 65, 2) := by decide +kernel
theorem dX9_keeps_49 : decode cX9_keeps 49 = .ok (.dup2, 1) := by decide +kernel
theorem dX9_keeps_50 : decode cX9_keeps 50 = .ok (.iaload, 1) := by decide +kernel
theorem dX9_keeps_51 : decode cX9_keeps 51 = .ok (.iconst 1, 1) := by decide +kernel
theorem dX9_keeps_52 : decode cX9_keeps 52 = .ok (.isub, 1) := by decide +kernel
theorem dX9_keeps_53 : decode cX9_keeps 53 = .ok (.iastore, 1) := by decide +kernel
theorem dX9_keeps_54 : decode cX9_keeps 54 = .ok (.bipush 66, 2) := by decide +kernel
theorem dX9_keeps_56 : decode cX9_keeps 56 = .ok (.bipush 65, 2) := by decide +kernel
theorem dX9_keeps_58 : decode cX9_keeps 58 = .ok (.aload_n 0, 1) := by decide +kernel
theorem dX9_keeps_59 : decode cX9_keeps 59 = .ok (.getfield 19, 3) := by decide +kernel
theorem dX9_keeps_62 : decode cX9_keeps 62 = .ok (.bipush 65, 2) := by decide +kernel
theorem dX9_keeps_64 : decode cX9_keeps 64 = .ok (.iaload, 1) := by decide +kernel
theorem dX9_keeps_65 : decode cX9_keeps 65 = .ok (.imul, 1) := by decide +kernel
theorem dX9_keeps_66 : decode cX9_keeps 66 = .ok (.iadd, 1) := by decide +kernel
theorem dX9_keeps_67 : decode cX9_keeps 67 = .ok (.istore_n 1, 1) := by decide +kernel
theorem dX9_keeps_68 : decode cX9_keeps 68 = .ok (.iconst 0, 1) := by decide +kernel
theorem dX9_keeps_69 : decode cX9_keeps 69 = .ok (.istore_n 2, 1) := by decide +kernel
theorem dX9_keeps_70 : decode cX9_keeps 70 = .ok (.iload_n 2, 1) := by decide +kernel
theorem dX9_keeps_71 : decode cX9_keeps 71 = .ok (.bipush 65, 2) := by decide +kernel
theorem dX9_keeps_73 : decode cX9_keeps 73 = .ok (.if_icmp .ge 23, 3) := by decide +kernel
theorem dX9_keeps_76 : decode cX9_keeps 76 = .ok (.aload_n 0, 1) := by decide +kernel
theorem dX9_keeps_77 : decode cX9_keeps 77 = .ok (.getfield 19, 3) := by decide +kernel
theorem dX9_keeps_80 : decode cX9_keeps 80 = .ok (.iload_n 1, 1) := by decide +kernel
theorem dX9_keeps_81 : decode cX9_keeps 81 = .ok (.iload_n 2, 1) := by decide +kernel
theorem dX9_keeps_82 : decode cX9_keeps 82 = .ok (.iadd, 1) := by decide +kernel
theorem dX9_keeps_83 : decode cX9_keeps 83 = .ok (.aload_n 0, 1) := by decide +kernel
theorem dX9_keeps_84 : decode cX9_keeps 84 = .ok (.getfield 19, 3) := by decide +kernel
theorem dX9_keeps_87 : decode cX9_keeps 87 = .ok (.iload_n 2, 1) := by decide +kernel
theorem dX9_keeps_88 : decode cX9_keeps 88 = .ok (.iaload, 1) := by decide +kernel
theorem dX9_keeps_89 : decode cX9_keeps 89 = .ok (.iastore, 1) := by decide +kernel
theorem dX9_keeps_90 : decode cX9_keeps 90 = .ok (.iinc 2 1, 3) := by decide +kernel
theorem dX9_keeps_93 : decode cX9_keeps 93 = .ok (.goto (-23), 3) := by decide +kernel
theorem dX9_keeps_96 : decode cX9_keeps 96 = .ok (.aload_n 0, 1) := by decide +kernel
theorem dX9_keeps_97 : decode cX9_keeps 97 = .ok (.getfield 19, 3) := by decide +kernel
theorem dX9_keeps_100 : decode cX9_keeps 100 = .ok (.bipush 65, 2) := by decide +kernel
theorem dX9_keeps_102 : decode cX9_keeps 102 = .ok (.dup2, 1) := by decide +kernel
theorem dX9_keeps_103 : decode cX9_keeps 103 = .ok (.iaload, 1) := by decide +kernel
theorem dX9_keeps_104 : decode cX9_keeps 104 = .ok (.iconst 1, 1) := by decide +kernel
theorem dX9_keeps_105 : decode cX9_keeps 105 = .ok (.iadd, 1) := by decide +kernel
theorem dX9_keeps_106 : decode cX9_keeps 106 = .ok (.iastore, 1) := by decide +kernel
theorem dX9_keeps_107 : decode cX9_keeps 107 = .ok (.return_, 1) := by decide +kernel
theorem dX9_counts_0 : decode cX9_counts 0 = .ok (.aload_n 0, 1) := by decide +kernel
theorem dX9_counts_1 : decode cX9_counts 1 = .ok (.getfield 13, 3) := by decide +kernel
theorem dX9_counts_4 : decode cX9_counts 4 = .ok (.bipush 34, 2) := by decide +kernel
theorem dX9_counts_6 : decode cX9_counts 6 = .ok (.iload_n 1, 1) := by decide +kernel
theorem dX9_counts_7 : decode cX9_counts 7 = .ok (.iadd, 1) := by decide +kernel
theorem dX9_counts_8 : decode cX9_counts 8 = .ok (.iaload, 1) := by decide +kernel
theorem dX9_counts_9 : decode cX9_counts 9 = .ok (.iconst 1, 1) := by decide +kernel
theorem dX9_counts_10 : decode cX9_counts 10 = .ok (.if_icmp .ne 7, 3) := by decide +kernel
theorem dX9_counts_13 : decode cX9_counts 13 = .ok (.iconst 1, 1) := by decide +kernel
theorem dX9_counts_14 : decode cX9_counts 14 = .ok (.goto 4, 3) := by decide +kernel
theorem dX9_counts_17 : decode cX9_counts 17 = .ok (.iconst 2, 1) := by decide +kernel
theorem dX9_counts_18 : decode cX9_counts 18 = .ok (.ireturn, 1) := by decide +kernel
theorem dX9_pays_0 : decode cX9_pays 0 = .ok (.aload_n 0, 1) := by decide +kernel
theorem dX9_pays_1 : decode cX9_pays 1 = .ok (.getfield 19, 3) := by decide +kernel
theorem dX9_pays_4 : decode cX9_pays 4 = .ok (.iload_n 1, 1) := by decide +kernel
theorem dX9_pays_5 : decode cX9_pays 5 = .ok (.aload_n 0, 1) := by decide +kernel
theorem dX9_pays_6 : decode cX9_pays 6 = .ok (.getfield 19, 3) := by decide +kernel
theorem dX9_pays_9 : decode cX9_pays 9 = .ok (.iload_n 1, 1) := by decide +kernel
theorem dX9_pays_10 : decode cX9_pays 10 = .ok (.iaload, 1) := by decide +kernel
theorem dX9_pays_11 : decode cX9_pays 11 = .ok (.iload_n 2, 1) := by decide +kernel
theorem dX9_pays_12 : decode cX9_pays 12 = .ok (.if_icmp .le 14, 3) := by decide +kernel
theorem dX9_pays_15 : decode cX9_pays 15 = .ok (.aload_n 0, 1) := by decide +kernel
theorem dX9_pays_16 : decode cX9_pays 16 = .ok (.getfield 19, 3) := by decide +kernel
theorem dX9_pays_19 : decode cX9_pays 19 = .ok (.iload_n 1, 1) := by decide +kernel
theorem dX9_pays_20 : decode cX9_pays 20 = .ok (.iaload, 1) := by decide +kernel
theorem dX9_pays_21 : decode cX9_pays 21 = .ok (.iload_n 2, 1) := by decide +kernel
theorem dX9_pays_22 : decode cX9_pays 22 = .ok (.isub, 1) := by decide +kernel
theorem dX9_pays_23 : decode cX9_pays 23 = .ok (.goto 4, 3) := by decide +kernel
theorem dX9_pays_26 : decode cX9_pays 26 = .ok (.iconst 0, 1) := by decide +kernel
theorem dX9_pays_27 : decode cX9_pays 27 = .ok (.iastore, 1) := by decide +kernel
theorem dX9_pays_28 : decode cX9_pays 28 = .ok (.aload_n 0, 1) := by decide +kernel
theorem dX9_pays_29 : decode cX9_pays 29 = .ok (.getfield 19, 3) := by decide +kernel
theorem dX9_pays_32 : decode cX9_pays 32 = .ok (.bipush 63, 2) := by decide +kernel
theorem dX9_pays_34 : decode cX9_pays 34 = .ok (.aload_n 0, 1) := by decide +kernel
theorem dX9_pays_35 : decode cX9_pays 35 = .ok (.getfield 19, 3) := by decide +kernel
theorem dX9_pays_38 : decode cX9_pays 38 = .ok (.bipush 63, 2) := by decide +kernel
theorem dX9_pays_40 : decode cX9_pays 40 = .ok (.iaload, 1) := by decide +kernel
theorem dX9_pays_41 : decode cX9_pays 41 = .ok (.iload_n 3, 1) := by decide +kernel
theorem dX9_pays_42 : decode cX9_pays 42 = .ok (.iadd, 1) := by decide +kernel
theorem dX9_pays_43 : decode cX9_pays 43 = .ok (.ldc 113, 2) := by decide +kernel
theorem dX9_pays_45 : decode cX9_pays 45 = .ok (.if_icmp .le 8, 3) := by decide +kernel
theorem dX9_pays_48 : decode cX9_pays 48 = .ok (.ldc 113, 2) := by decide +kernel
theorem dX9_pays_50 : decode cX9_pays 50 = .ok (.goto 12, 3) := by decide +kernel
theorem dX9_pays_53 : decode cX9_pays 53 = .ok (.aload_n 0, 1) := by decide +kernel
theorem dX9_pays_54 : decode cX9_pays 54 = .ok (.getfield 19, 3) := by decide +kernel
theorem dX9_pays_57 : decode cX9_pays 57 = .ok (.bipush 63, 2) := by decide +kernel
