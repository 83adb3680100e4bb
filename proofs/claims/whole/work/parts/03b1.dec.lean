theorem dX6_accuse_92 : decode cX6_accuse 92 = .ok (.iload 8, 2) := by decide +kernel
theorem dX6_accuse_94 : decode cX6_accuse 94 = .ok (.iload 9, 2) := by decide +kernel
theorem dX6_accuse_96 : decode cX6_accuse 96 = .ok (.iload 10, 2) := by decide +kernel
theorem dX6_accuse_98 : decode cX6_accuse 98 = .ok (.invokestatic 25, 3) := by decide +kernel
theorem dX6_accuse_101 : decode cX6_accuse 101 = .ok (.iinc 7 1, 3) := by decide +kernel
theorem dX6_accuse_104 : decode cX6_accuse 104 = .ok (.goto (-72), 3) := by decide +kernel
theorem dX6_accuse_107 : decode cX6_accuse 107 = .ok (.return_, 1) := by decide +kernel
theorem dX6_note_0 : decode cX6_note 0 = .ok (.aload_n 0, 1) := by decide +kernel
theorem dX6_note_1 : decode cX6_note 1 = .ok (.dup, 1) := by decide +kernel
theorem dX6_note_2 : decode cX6_note 2 = .ok (.getfield 15, 3) := by decide +kernel
theorem dX6_note_5 : decode cX6_note 5 = .ok (.iconst 1, 1) := by decide +kernel
theorem dX6_note_6 : decode cX6_note 6 = .ok (.iadd, 1) := by decide +kernel
theorem dX6_note_7 : decode cX6_note 7 = .ok (.putfield 15, 3) := by decide +kernel
theorem dX6_note_10 : decode cX6_note 10 = .ok (.aload_n 0, 1) := by decide +kernel
theorem dX6_note_11 : decode cX6_note 11 = .ok (.dup, 1) := by decide +kernel
theorem dX6_note_12 : decode cX6_note 12 = .ok (.getfield 19, 3) := by decide +kernel
theorem dX6_note_15 : decode cX6_note 15 = .ok (.iload_n 1, 1) := by decide +kernel
theorem dX6_note_16 : decode cX6_note 16 = .ok (.iand, 1) := by decide +kernel
theorem dX6_note_17 : decode cX6_note 17 = .ok (.putfield 19, 3) := by decide +kernel
theorem dX6_note_20 : decode cX6_note 20 = .ok (.aload_n 0, 1) := by decide +kernel
theorem dX6_note_21 : decode cX6_note 21 = .ok (.dup, 1) := by decide +kernel
theorem dX6_note_22 : decode cX6_note 22 = .ok (.getfield 22, 3) := by decide +kernel
theorem dX6_note_25 : decode cX6_note 25 = .ok (.iload_n 1, 1) := by decide +kernel
theorem dX6_note_26 : decode cX6_note 26 = .ok (.ior, 1) := by decide +kernel
theorem dX6_note_27 : decode cX6_note 27 = .ok (.putfield 22, 3) := by decide +kernel
theorem dX6_note_30 : decode cX6_note 30 = .ok (.return_, 1) := by decide +kernel
theorem dX6_oddsOf_0 : decode cX6_oddsOf 0 = .ok (.aload_n 0, 1) := by decide +kernel
theorem dX6_oddsOf_1 : decode cX6_oddsOf 1 = .ok (.aload_n 1, 1) := by decide +kernel
theorem dX6_oddsOf_2 : decode cX6_oddsOf 2 = .ok (.invokevirtual 45, 3) := by decide +kernel
theorem dX6_oddsOf_5 : decode cX6_oddsOf 5 = .ok (.istore 4, 2) := by decide +kernel
theorem dX6_oddsOf_7 : decode cX6_oddsOf 7 = .ok (.iconst 0, 1) := by decide +kernel
theorem dX6_oddsOf_8 : decode cX6_oddsOf 8 = .ok (.istore 5, 2) := by decide +kernel
theorem dX6_oddsOf_10 : decode cX6_oddsOf 10 = .ok (.iload_n 2, 1) := by decide +kernel
theorem dX6_oddsOf_11 : decode cX6_oddsOf 11 = .ok (.istore 6, 2) := by decide +kernel
theorem dX6_oddsOf_13 : decode cX6_oddsOf 13 = .ok (.iload 6, 2) := by decide +kernel
theorem dX6_oddsOf_15 : decode cX6_oddsOf 15 = .ok (.bipush 10, 2) := by decide +kernel
theorem dX6_oddsOf_17 : decode cX6_oddsOf 17 = .ok (.if_icmp .gt 21, 3) := by decide +kernel
theorem dX6_oddsOf_20 : decode cX6_oddsOf 20 = .ok (.iload 5, 2) := by decide +kernel
theorem dX6_oddsOf_22 : decode cX6_oddsOf 22 = .ok (.aload_n 0, 1) := by decide +kernel
theorem dX6_oddsOf_23 : decode cX6_oddsOf 23 = .ok (.getfield 11, 3) := by decide +kernel
theorem dX6_oddsOf_26 : decode cX6_oddsOf 26 = .ok (.iload 6, 2) := by decide +kernel
theorem dX6_oddsOf_28 : decode cX6_oddsOf 28 = .ok (.iaload, 1) := by decide +kernel
theorem dX6_oddsOf_29 : decode cX6_oddsOf 29 = .ok (.iadd, 1) := by decide +kernel
theorem dX6_oddsOf_30 : decode cX6_oddsOf 30 = .ok (.istore 5, 2) := by decide +kernel
theorem dX6_oddsOf_32 : decode cX6_oddsOf 32 = .ok (.iinc 6 1, 3) := by decide +kernel
theorem dX6_oddsOf_35 : decode cX6_oddsOf 35 = .ok (.goto (-22), 3) := by decide +kernel
theorem dX6_oddsOf_38 : decode cX6_oddsOf 38 = .ok (.iload 4, 2) := by decide +kernel
theorem dX6_oddsOf_40 : decode cX6_oddsOf 40 = .ok (.iload 5, 2) := by decide +kernel
theorem dX6_oddsOf_42 : decode cX6_oddsOf 42 = .ok (.invokestatic 49, 3) := by decide +kernel
theorem dX6_oddsOf_45 : decode cX6_oddsOf 45 = .ok (.istore 6, 2) := by decide +kernel
theorem dX6_oddsOf_47 : decode cX6_oddsOf 47 = .ok (.iload 6, 2) := by decide +kernel
theorem dX6_oddsOf_49 : decode cX6_oddsOf 49 = .ok (.ifCond .gt 6, 3) := by decide +kernel
theorem dX6_oddsOf_52 : decode cX6_oddsOf 52 = .ok (.bipush (-9), 2) := by decide +kernel
theorem dX6_oddsOf_54 : decode cX6_oddsOf 54 = .ok (.ireturn, 1) := by decide +kernel
theorem dX6_oddsOf_55 : decode cX6_oddsOf 55 = .ok (.iload_n 3, 1) := by decide +kernel
theorem dX6_oddsOf_56 : decode cX6_oddsOf 56 = .ok (.ifCond .eq 8, 3) := by decide +kernel
theorem dX6_oddsOf_59 : decode cX6_oddsOf 59 = .ok (.iload 5, 2) := by decide +kernel
theorem dX6_oddsOf_61 : decode cX6_oddsOf 61 = .ok (.goto 5, 3) := by decide +kernel
theorem dX6_oddsOf_64 : decode cX6_oddsOf 64 = .ok (.iload 4, 2) := by decide +kernel
theorem dX6_oddsOf_66 : decode cX6_oddsOf 66 = .ok (.iload 6, 2) := by decide +kernel
theorem dX6_oddsOf_68 : decode cX6_oddsOf 68 = .ok (.idiv, 1) := by decide +kernel
theorem dX6_oddsOf_69 : decode cX6_oddsOf 69 = .ok (.ireturn, 1) := by decide +kernel
theorem dX6_spreadChances_0 : decode cX6_spreadChances 0 = .ok (.aload_n 0, 1) := by decide +kernel
theorem dX6_spreadChances_1 : decode cX6_spreadChances 1 = .ok (.getfield 11, 3) := by decide +kernel
theorem dX6_spreadChances_4 : decode cX6_spreadChances 4 = .ok (.iconst 0, 1) := by decide +kernel
theorem dX6_spreadChances_5 : decode cX6_spreadChances 5 = .ok (.invokestatic 53, 3) := by decide +kernel
theorem dX6_spreadChances_8 : decode cX6_spreadChances 8 = .ok (.aload_n 0, 1) := by decide +kernel
theorem dX6_spreadChances_9 : decode cX6_spreadChances 9 = .ok (.getfield 11, 3) := by decide +kernel
theorem dX6_spreadChances_12 : decode cX6_spreadChances 12 = .ok (.iconst 0, 1) := by decide +kernel
theorem dX6_spreadChances_13 : decode cX6_spreadChances 13 = .ok (.iconst 1, 1) := by decide +kernel
theorem dX6_spreadChances_14 : decode cX6_spreadChances 14 = .ok (.iastore, 1) := by decide +kernel
theorem dX6_spreadChances_15 : decode cX6_spreadChances 15 = .ok (.iconst 1, 1) := by decide +kernel
theorem dX6_spreadChances_16 : decode cX6_spreadChances 16 = .ok (.istore_n 2, 1) := by decide +kernel
theorem dX6_spreadChances_17 : decode cX6_spreadChances 17 = .ok (.iconst 0, 1) := by decide +kernel
theorem dX6_spreadChances_18 : decode cX6_spreadChances 18 = .ok (.istore_n 3, 1) := by decide +kernel
theorem dX6_spreadChances_19 : decode cX6_spreadChances 19 = .ok (.iload_n 3, 1) := by decide +kernel
theorem dX6_spreadChances_20 : decode cX6_spreadChances 20 = .ok (.aload_n 1, 1) := by decide +kernel
theorem dX6_spreadChances_21 : decode cX6_spreadChances 21 = .ok (.getfield 29, 3) := by decide +kernel
theorem dX6_spreadChances_24 : decode cX6_spreadChances 24 = .ok (.if_icmp .ge 93, 3) := by decide +kernel
theorem dX6_spreadChances_27 : decode cX6_spreadChances 27 = .ok (.aload_n 1, 1) := by decide +kernel
theorem dX6_spreadChances_28 : decode cX6_spreadChances 28 = .ok (.iload_n 3, 1) := by decide +kernel
theorem dX6_spreadChances_29 : decode cX6_spreadChances 29 = .ok (.invokevirtual 38, 3) := by decide +kernel
theorem dX6_spreadChances_32 : decode cX6_spreadChances 32 = .ok (.istore 4, 2) := by decide +kernel
theorem dX6_spreadChances_34 : decode cX6_spreadChances 34 = .ok (.bipush 10, 2) := by decide +kernel
theorem dX6_spreadChances_36 : decode cX6_spreadChances 36 = .ok (.istore 5, 2) := by decide +kernel
theorem dX6_spreadChances_38 : decode cX6_spreadChances 38 = .ok (.iload 5, 2) := by decide +kernel
theorem dX6_spreadChances_40 : decode cX6_spreadChances 40 = .ok (.ifCond .lt 66, 3) := by decide +kernel
theorem dX6_spreadChances_43 : decode cX6_spreadChances 43 = .ok (.iload 5, 2) := by decide +kernel
theorem dX6_spreadChances_45 : decode cX6_spreadChances 45 = .ok (.iload 4, 2) := by decide +kernel
theorem dX6_spreadChances_47 : decode cX6_spreadChances 47 = .ok (.if_icmp .lt 26, 3) := by decide +kernel
theorem dX6_spreadChances_50 : decode cX6_spreadChances 50 = .ok (.aload_n 0, 1) := by decide +kernel
theorem dX6_spreadChances_51 : decode cX6_spreadChances 51 = .ok (.getfield 11, 3) := by decide +kernel
theorem dX6_spreadChances_54 : decode cX6_spreadChances 54 = .ok (.iload 5, 2) := by decide +kernel
theorem dX6_spreadChances_56 : decode cX6_spreadChances 56 = .ok (.iload 4, 2) := by decide +kernel
theorem dX6_spreadChances_58 : decode cX6_spreadChances 58 = .ok (.isub, 1) := by decide +kernel
theorem dX6_spreadChances_59 : decode cX6_spreadChances 59 = .ok (.iaload, 1) := by decide +kernel
theorem dX6_spreadChances_60 : decode cX6_spreadChances 60 = .ok (.bipush 10, 2) := by decide +kernel
theorem dX6_spreadChances_62 : decode cX6_spreadChances 62 = .ok (.aload_n 1, 1) := by decide +kernel
theorem dX6_spreadChances_63 : decode cX6_spreadChances 63 = .ok (.getfield 59, 3) := by decide +kernel
theorem dX6_spreadChances_66 : decode cX6_spreadChances 66 = .ok (.iload_n 3, 1) := by decide +kernel
theorem dX6_spreadChances_67 : decode cX6_spreadChances 67 = .ok (.iaload, 1) := by decide +kernel
theorem dX6_spreadChances_68 : decode cX6_spreadChances 68 = .ok (.isub, 1) := by decide +kernel
theorem dX6_spreadChances_69 : decode cX6_spreadChances 69 = .ok (.imul, 1) := by decide +kernel
theorem dX6_spreadChances_70 : decode cX6_spreadChances 70 = .ok (.goto 4, 3) := by decide +kernel
theorem dX6_spreadChances_73 : decode cX6_spreadChances 73 = .ok (.iconst 0, 1) := by decide +kernel
theorem dX6_spreadChances_74 : decode cX6_spreadChances 74 = .ok (.istore 6, 2) := by decide +kernel
theorem dX6_spreadChances_76 : decode cX6_spreadChances 76 = .ok (.aload_n 0, 1) := by decide +kernel
theorem dX6_spreadChances_77 : decode cX6_spreadChances 77 = .ok (.getfield 11, 3) := by decide +kernel
theorem dX6_spreadChances_80 : decode cX6_spreadChances 80 = .ok (.iload 5, 2) := by decide +kernel
theorem dX6_spreadChances_82 : decode cX6_spreadChances 82 = .ok (.aload_n 0, 1) := by decide +kernel
theorem dX6_spreadChances_83 : decode cX6_spreadChances 83 = .ok (.getfield 11, 3) := by decide +kernel
theorem dX6_spreadChances_86 : decode cX6_spreadChances 86 = .ok (.iload 5, 2) := by decide +kernel
theorem dX6_spreadChances_88 : decode cX6_spreadChances 88 = .ok (.iaload, 1) := by decide +kernel
theorem dX6_spreadChances_89 : decode cX6_spreadChances 89 = .ok (.aload_n 1, 1) := by decide +kernel
theorem dX6_spreadChances_90 : decode cX6_spreadChances 90 = .ok (.getfield 59, 3) := by decide +kernel
theorem dX6_spreadChances_93 : decode cX6_spreadChances 93 = .ok (.iload_n 3, 1) := by decide +kernel
theorem dX6_spreadChances_94 : decode cX6_spreadChances 94 = .ok (.iaload, 1) := by decide +kernel
theorem dX6_spreadChances_95 : decode cX6_spreadChances 95 = .ok (.imul, 1) := by decide +kernel
theorem dX6_spreadChances_96 : decode cX6_spreadChances 96 = .ok (.iload 6, 2) := by decide +kernel
theorem dX6_spreadChances_98 : decode cX6_spreadChances 98 = .ok (.iadd, 1) := by decide +kernel
theorem dX6_spreadChances_99 : decode cX6_spreadChances 99 = .ok (.iastore, 1) := by decide +kernel
theorem dX6_spreadChances_100 : decode cX6_spreadChances 100 = .ok (.iinc 5 (-1), 3) := by decide +kernel
theorem dX6_spreadChances_103 : decode cX6_spreadChances 103 = .ok (.goto (-65), 3) := by decide +kernel
theorem dX6_spreadChances_106 : decode cX6_spreadChances 106 = .ok (.iload_n 2, 1) := by decide +kernel
theorem dX6_spreadChances_107 : decode cX6_spreadChances 107 = .ok (.bipush 10, 2) := by decide +kernel
theorem dX6_spreadChances_109 : decode cX6_spreadChances 109 = .ok (.imul, 1) := by decide +kernel
theorem dX6_spreadChances_110 : decode cX6_spreadChances 110 = .ok (.istore_n 2, 1) := by decide +kernel
theorem dX6_spreadChances_111 : decode cX6_spreadChances 111 = .ok (.iinc 3 1, 3) := by decide +kernel
theorem dX6_spreadChances_114 : decode cX6_spreadChances 114 = .ok (.goto (-95), 3) := by decide +kernel
theorem dX6_spreadChances_117 : decode cX6_spreadChances 117 = .ok (.iload_n 2, 1) := by decide +kernel
theorem dX6_spreadChances_118 : decode cX6_spreadChances 118 = .ok (.ireturn, 1) := by decide +kernel
theorem dX6_commonDivisor_0 : decode cX6_commonDivisor 0 = .ok (.iconst 0, 1) := by decide +kernel
theorem dX6_commonDivisor_1 : decode cX6_commonDivisor 1 = .ok (.istore_n 2, 1) := by decide +kernel
theorem dX6_commonDivisor_2 : decode cX6_commonDivisor 2 = .ok (.iload_n 2, 1) := by decide +kernel
theorem dX6_commonDivisor_3 : decode cX6_commonDivisor 3 = .ok (.bipush 64, 2) := by decide +kernel
theorem dX6_commonDivisor_5 : decode cX6_commonDivisor 5 = .ok (.if_icmp .ge 21, 3) := by decide +kernel
theorem dX6_commonDivisor_8 : decode cX6_commonDivisor 8 = .ok (.iload_n 1, 1) := by decide +kernel
theorem dX6_commonDivisor_9 : decode cX6_commonDivisor 9 = .ok (.ifCond .eq 17, 3) := by decide +kernel
theorem dX6_commonDivisor_12 : decode cX6_commonDivisor 12 = .ok (.iload_n 0, 1) := by decide +kernel
theorem dX6_commonDivisor_13 : decode cX6_commonDivisor 13 = .ok (.iload_n 1, 1) := by decide +kernel
theorem dX6_commonDivisor_14 : decode cX6_commonDivisor 14 = .ok (.irem, 1) := by decide +kernel
theorem dX6_commonDivisor_15 : decode cX6_commonDivisor 15 = .ok (.istore_n 3, 1) := by decide +kernel
theorem dX6_commonDivisor_16 : decode cX6_commonDivisor 16 = .ok (.iload_n 1, 1) := by decide +kernel
theorem dX6_commonDivisor_17 : decode cX6_commonDivisor 17 = .ok (.istore_n 0, 1) := by decide +kernel
theorem dX6_commonDivisor_18 : decode cX6_commonDivisor 18 = .ok (.iload_n 3, 1) := by decide +kernel
theorem dX6_commonDivisor_19 : decode cX6_commonDivisor 19 = .ok (.istore_n 1, 1) := by decide +kernel
theorem dX6_commonDivisor_20 : decode cX6_commonDivisor 20 = .ok (.iinc 2 1, 3) := by decide +kernel
theorem dX6_commonDivisor_23 : decode cX6_commonDivisor 23 = .ok (.goto (-21), 3) := by decide +kernel
theorem dX6_commonDivisor_26 : decode cX6_commonDivisor 26 = .ok (.iload_n 0, 1) := by decide +kernel
theorem dX6_commonDivisor_27 : decode cX6_commonDivisor 27 = .ok (.ireturn, 1) := by decide +kernel
theorem dX7_init_0 : decode cX7_init 0 = .ok (.aload_n 0, 1) := by decide +kernel
theorem dX7_init_1 : decode cX7_init 1 = .ok (.invokespecial 3, 3) := by decide +kernel
theorem dX7_init_4 : decode cX7_init 4 = .ok (.aload_n 0, 1) := by decide +kernel
theorem dX7_init_5 : decode cX7_init 5 = .ok (.bipush 7, 2) := by decide +kernel
theorem dX7_init_7 : decode cX7_init 7 = .ok (.newarray .int, 2) := by decide +kernel
theorem dX7_init_9 : decode cX7_init 9 = .ok (.putfield 9, 3) := by decide +kernel
theorem dX7_init_12 : decode cX7_init 12 = .ok (.return_, 1) := by decide +kernel
theorem dX7_measure_0 : decode cX7_measure 0 = .ok (.aload_n 0, 1) := by decide +kernel
theorem dX7_measure_1 : decode cX7_measure 1 = .ok (.getfield 9, 3) := by decide +kernel
theorem dX7_measure_4 : decode cX7_measure 4 = .ok (.ldc 15, 2) := by decide +kernel
theorem dX7_measure_6 : decode cX7_measure 6 = .ok (.invokestatic 16, 3) := by decide +kernel
theorem dX7_measure_9 : decode cX7_measure 9 = .ok (.aload_n 0, 1) := by decide +kernel
theorem dX7_measure_10 : decode cX7_measure 10 = .ok (.getfield 9, 3) := by decide +kernel
theorem dX7_measure_13 : decode cX7_measure 13 = .ok (.iload_n 3, 1) := by decide +kernel
theorem dX7_measure_14 : decode cX7_measure 14 = .ok (.iconst 0, 1) := by decide +kernel
theorem dX7_measure_15 : decode cX7_measure 15 = .ok (.iastore, 1) := by decide +kernel
theorem dX7_measure_16 : decode cX7_measure 16 = .ok (.iconst 1, 1) := by decide +kernel
theorem dX7_measure_17 : decode cX7_measure 17 = .ok (.istore 5, 2) := by decide +kernel
theorem dX7_measure_19 : decode cX7_measure 19 = .ok (.iload 5, 2) := by decide +kernel
theorem dX7_measure_21 : decode cX7_measure 21 = .ok (.bipush 7, 2) := by decide +kernel
theorem dX7_measure_23 : decode cX7_measure 23 = .ok (.if_icmp .ge 84, 3) := by decide +kernel
theorem dX7_measure_26 : decode cX7_measure 26 = .ok (.iconst 0, 1) := by decide +kernel
theorem dX7_measure_27 : decode cX7_measure 27 = .ok (.istore 6, 2) := by decide +kernel
theorem dX7_measure_29 : decode cX7_measure 29 = .ok (.iload 6, 2) := by decide +kernel
theorem dX7_measure_31 : decode cX7_measure 31 = .ok (.aload_n 1, 1) := by decide +kernel
theorem dX7_measure_32 : decode cX7_measure 32 = .ok (.getfield 22, 3) := by decide +kernel
theorem dX7_measure_35 : decode cX7_measure 35 = .ok (.if_icmp .ge 66, 3) := by decide +kernel
theorem dX7_measure_38 : decode cX7_measure 38 = .ok (.iload 6, 2) := by decide +kernel
theorem dX7_measure_40 : decode cX7_measure 40 = .ok (.iload 4, 2) := by decide +kernel
theorem dX7_measure_42 : decode cX7_measure 42 = .ok (.if_icmp .eq 53, 3) := by decide +kernel
theorem dX7_measure_45 : decode cX7_measure 45 = .ok (.aload_n 0, 1) := by decide +kernel
theorem dX7_measure_46 : decode cX7_measure 46 = .ok (.aload_n 1, 1) := by decide +kernel
theorem dX7_measure_47 : decode cX7_measure 47 = .ok (.getfield 28, 3) := by decide +kernel
theorem dX7_measure_50 : decode cX7_measure 50 = .ok (.iload 6, 2) := by decide +kernel
theorem dX7_measure_52 : decode cX7_measure 52 = .ok (.iaload, 1) := by decide +kernel
theorem dX7_measure_53 : decode cX7_measure 53 = .ok (.aload_n 1, 1) := by decide +kernel
theorem dX7_measure_54 : decode cX7_measure 54 = .ok (.getfield 31, 3) := by decide +kernel
theorem dX7_measure_57 : decode cX7_measure 57 = .ok (.iload 6, 2) := by decide +kernel
theorem dX7_measure_59 : decode cX7_measure 59 = .ok (.iaload, 1) := by decide +kernel
theorem dX7_measure_60 : decode cX7_measure 60 = .ok (.aload_n 1, 1) := by decide +kernel
theorem dX7_measure_61 : decode cX7_measure 61 = .ok (.aload_n 2, 1) := by decide +kernel
theorem dX7_measure_62 : decode cX7_measure 62 = .ok (.iload 6, 2) := by decide +kernel
theorem dX7_measure_64 : decode cX7_measure 64 = .ok (.invokestatic 34, 3) := by decide +kernel
theorem dX7_measure_67 : decode cX7_measure 67 = .ok (.invokevirtual 38, 3) := by decide +kernel
theorem dX7_measure_70 : decode cX7_measure 70 = .ok (.aload_n 0, 1) := by decide +kernel
theorem dX7_measure_71 : decode cX7_measure 71 = .ok (.aload_n 1, 1) := by decide +kernel
theorem dX7_measure_72 : decode cX7_measure 72 = .ok (.getfield 31, 3) := by decide +kernel
theorem dX7_measure_75 : decode cX7_measure 75 = .ok (.iload 6, 2) := by decide +kernel
theorem dX7_measure_77 : decode cX7_measure 77 = .ok (.iaload, 1) := by decide +kernel
theorem dX7_measure_78 : decode cX7_measure 78 = .ok (.aload_n 1, 1) := by decide +kernel
theorem dX7_measure_79 : decode cX7_measure 79 = .ok (.getfield 28, 3) := by decide +kernel
theorem dX7_measure_82 : decode cX7_measure 82 = .ok (.iload 6, 2) := by decide +kernel
theorem dX7_measure_84 : decode cX7_measure 84 = .ok (.iaload, 1) := by decide +kernel
theorem dX7_measure_85 : decode cX7_measure 85 = .ok (.aload_n 1, 1) := by decide +kernel
theorem dX7_measure_86 : decode cX7_measure 86 = .ok (.aload_n 2, 1) := by decide +kernel
theorem dX7_measure_87 : decode cX7_measure 87 = .ok (.iload 6, 2) := by decide +kernel
theorem dX7_measure_89 : decode cX7_measure 89 = .ok (.invokestatic 34, 3) := by decide +kernel
theorem dX7_measure_92 : decode cX7_measure 92 = .ok (.invokevirtual 38, 3) := by decide +kernel
theorem dX7_measure_95 : decode cX7_measure 95 = .ok (.iinc 6 1, 3) := by decide +kernel
theorem dX7_measure_98 : decode cX7_measure 98 = .ok (.goto (-69), 3) := by decide +kernel
theorem dX7_measure_101 : decode cX7_measure 101 = .ok (.iinc 5 1, 3) := by decide +kernel
theorem dX7_measure_104 : decode cX7_measure 104 = .ok (.goto (-85), 3) := by decide +kernel
theorem dX7_measure_107 : decode cX7_measure 107 = .ok (.return_, 1) := by decide +kernel
theorem dX7_goBy_0 : decode cX7_goBy 0 = .ok (.aload_n 0, 1) := by decide +kernel
theorem dX7_goBy_1 : decode cX7_goBy 1 = .ok (.getfield 9, 3) := by decide +kernel
theorem dX7_goBy_4 : decode cX7_goBy 4 = .ok (.iload_n 2, 1) := by decide +kernel
theorem dX7_goBy_5 : decode cX7_goBy 5 = .ok (.iaload, 1) := by decide +kernel
theorem dX7_goBy_6 : decode cX7_goBy 6 = .ok (.ldc 15, 2) := by decide +kernel
theorem dX7_goBy_8 : decode cX7_goBy 8 = .ok (.if_icmp .eq 34, 3) := by decide +kernel
theorem dX7_goBy_11 : decode cX7_goBy 11 = .ok (.aload_n 0, 1) := by decide +kernel
theorem dX7_goBy_12 : decode cX7_goBy 12 = .ok (.getfield 9, 3) := by decide +kernel
theorem dX7_goBy_15 : decode cX7_goBy 15 = .ok (.iload_n 2, 1) := by decide +kernel
theorem dX7_goBy_16 : decode cX7_goBy 16 = .ok (.iaload, 1) := by decide +kernel
theorem dX7_goBy_17 : decode cX7_goBy 17 = .ok (.iload_n 3, 1) := by decide +kernel
theorem dX7_goBy_18 : decode cX7_goBy 18 = .ok (.iadd, 1) := by decide +kernel
theorem dX7_goBy_19 : decode cX7_goBy 19 = .ok (.aload_n 0, 1) := by decide +kernel
theorem dX7_goBy_20 : decode cX7_goBy 20 = .ok (.getfield 9, 3) := by decide +kernel
theorem dX7_goBy_23 : decode cX7_goBy 23 = .ok (.iload_n 1, 1) := by decide +kernel
theorem dX7_goBy_24 : decode cX7_goBy 24 = .ok (.iaload, 1) := by decide +kernel
theorem dX7_goBy_25 : decode cX7_goBy 25 = .ok (.if_icmp .ge 17, 3) := by decide +kernel
theorem dX7_goBy_28 : decode cX7_goBy 28 = .ok (.aload_n 0, 1) := by decide +kernel
theorem dX7_goBy_29 : decode cX7_goBy 29 = .ok (.getfield 9, 3) := by decide +kernel
theorem dX7_goBy_32 : decode cX7_goBy 32 = .ok (.iload_n 1, 1) := by decide +kernel
theorem dX7_goBy_33 : decode cX7_goBy 33 = .ok (.aload_n 0, 1) := by decide +kernel
theorem dX7_goBy_34 : decode cX7_goBy 34 = .ok (.getfield 9, 3) := by decide +kernel
theorem dX7_goBy_37 : decode cX7_goBy 37 = .ok (.iload_n 2, 1) := by decide +kernel
theorem dX7_goBy_38 : decode cX7_goBy 38 = .ok (.iaload, 1) := by decide +kernel
theorem dX7_goBy_39 : decode cX7_goBy 39 = .ok (.iload_n 3, 1) := by decide +kernel
theorem dX7_goBy_40 : decode cX7_goBy 40 = .ok (.iadd, 1) := by decide +kernel
theorem dX7_goBy_41 : decode cX7_goBy 41 = .ok (.iastore, 1) := by decide +kernel
theorem dX7_goBy_42 : decode cX7_goBy 42 = .ok (.return_, 1) := by decide +kernel
theorem dX7_weight_0 : decode cX7_weight 0 = .ok (.aload_n 1, 1) := by decide +kernel
theorem dX7_weight_1 : decode cX7_weight 1 = .ok (.getfield 42, 3) := by decide +kernel
theorem dX7_weight_4 : decode cX7_weight 4 = .ok (.iload_n 2, 1) := by decide +kernel
theorem dX7_weight_5 : decode cX7_weight 5 = .ok (.iaload, 1) := by decide +kernel
theorem dX7_weight_6 : decode cX7_weight 6 = .ok (.sipush 1000, 3) := by decide +kernel
theorem dX7_weight_9 : decode cX7_weight 9 = .ok (.imul, 1) := by decide +kernel
theorem dX7_weight_10 : decode cX7_weight 10 = .ok (.aload_n 0, 1) := by decide +kernel
theorem dX7_weight_11 : decode cX7_weight 11 = .ok (.getfield 47, 3) := by decide +kernel
theorem dX7_weight_14 : decode cX7_weight 14 = .ok (.iload_n 2, 1) := by decide +kernel
theorem dX7_weight_15 : decode cX7_weight 15 = .ok (.iaload, 1) := by decide +kernel
theorem dX7_weight_16 : decode cX7_weight 16 = .ok (.iadd, 1) := by decide +kernel
theorem dX7_weight_17 : decode cX7_weight 17 = .ok (.ireturn, 1) := by decide +kernel
theorem dX7_dueFrom_0 : decode cX7_dueFrom 0 = .ok (.aload_n 0, 1) := by decide +kernel
theorem dX7_dueFrom_1 : decode cX7_dueFrom 1 = .ok (.getfield 9, 3) := by decide +kernel
theorem dX7_dueFrom_4 : decode cX7_dueFrom 4 = .ok (.iload_n 1, 1) := by decide +kernel
theorem dX7_dueFrom_5 : decode cX7_dueFrom 5 = .ok (.iaload, 1) := by decide +kernel
theorem dX7_dueFrom_6 : decode cX7_dueFrom 6 = .ok (.ldc 15, 2) := by decide +kernel
theorem dX7_dueFrom_8 : decode cX7_dueFrom 8 = .ok (.if_icmp .ne 8, 3) := by decide +kernel
theorem dX7_dueFrom_11 : decode cX7_dueFrom 11 = .ok (.bipush (-9), 2) := by decide +kernel
theorem dX7_dueFrom_13 : decode cX7_dueFrom 13 = .ok (.goto 13, 3) := by decide +kernel
theorem dX7_dueFrom_16 : decode cX7_dueFrom 16 = .ok (.aload_n 0, 1) := by decide +kernel
theorem dX7_dueFrom_17 : decode cX7_dueFrom 17 = .ok (.getfield 9, 3) := by decide +kernel
theorem dX7_dueFrom_20 : decode cX7_dueFrom 20 = .ok (.iload_n 1, 1) := by decide +kernel
theorem dX7_dueFrom_21 : decode cX7_dueFrom 21 = .ok (.iaload, 1) := by decide +kernel
theorem dX7_dueFrom_22 : decode cX7_dueFrom 22 = .ok (.sipush 1000, 3) := by decide +kernel
theorem dX7_dueFrom_25 : decode cX7_dueFrom 25 = .ok (.idiv, 1) := by decide +kernel
theorem dX7_dueFrom_26 : decode cX7_dueFrom 26 = .ok (.ireturn, 1) := by decide +kernel
theorem dX7_stepsFrom_0 : decode cX7_stepsFrom 0 = .ok (.aload_n 0, 1) := by decide +kernel
theorem dX7_stepsFrom_1 : decode cX7_stepsFrom 1 = .ok (.getfield 9, 3) := by decide +kernel
theorem dX7_stepsFrom_4 : decode cX7_stepsFrom 4 = .ok (.iload_n 1, 1) := by decide +kernel
theorem dX7_stepsFrom_5 : decode cX7_stepsFrom 5 = .ok (.iaload, 1) := by decide +kernel
theorem dX7_stepsFrom_6 : decode cX7_stepsFrom 6 = .ok (.ldc 15, 2) := by decide +kernel
theorem dX7_stepsFrom_8 : decode cX7_stepsFrom 8 = .ok (.if_icmp .ne 8, 3) := by decide +kernel
theorem dX7_stepsFrom_11 : decode cX7_stepsFrom 11 = .ok (.bipush (-9), 2) := by decide +kernel
theorem dX7_stepsFrom_13 : decode cX7_stepsFrom 13 = .ok (.goto 13, 3) := by decide +kernel
theorem dX7_stepsFrom_16 : decode cX7_stepsFrom 16 = .ok (.aload_n 0, 1) := by decide +kernel
theorem dX7_stepsFrom_17 : decode cX7_stepsFrom 17 = .ok (.getfield 9, 3) := by decide +kernel
theorem dX7_stepsFrom_20 : decode cX7_stepsFrom 20 = .ok (.iload_n 1, 1) := by decide +kernel
theorem dX7_stepsFrom_21 : decode cX7_stepsFrom 21 = .ok (.iaload, 1) := by decide +kernel
theorem dX7_stepsFrom_22 : decode cX7_stepsFrom 22 = .ok (.sipush 1000, 3) := by decide +kernel
theorem dX7_stepsFrom_25 : decode cX7_stepsFrom 25 = .ok (.irem, 1) := by decide +kernel
theorem dX7_stepsFrom_26 : decode cX7_stepsFrom 26 = .ok (.ireturn, 1) := by decide +kernel
theorem dX7_firstFrom_0 : decode cX7_firstFrom 0 = .ok (.aload_n 0, 1) := by decide +kernel
theorem dX7_firstFrom_1 : decode cX7_firstFrom 1 = .ok (.getfield 9, 3) := by decide +kernel
theorem dX7_firstFrom_4 : decode cX7_firstFrom 4 = .ok (.iload_n 3, 1) := by decide +kernel
theorem dX7_firstFrom_5 : decode cX7_firstFrom 5 = .ok (.iaload, 1) := by decide +kernel
theorem dX7_firstFrom_6 : decode cX7_firstFrom 6 = .ok (.ldc 15, 2) := by decide +kernel
theorem dX7_firstFrom_8 : decode cX7_firstFrom 8 = .ok (.if_icmp .eq 12, 3) := by decide +kernel
theorem dX7_firstFrom_11 : decode cX7_firstFrom 11 = .ok (.aload_n 0, 1) := by decide +kernel
theorem dX7_firstFrom_12 : decode cX7_firstFrom 12 = .ok (.getfield 9, 3) := by decide +kernel
theorem dX7_firstFrom_15 : decode cX7_firstFrom 15 = .ok (.iload_n 3, 1) := by decide +kernel
theorem dX7_firstFrom_16 : decode cX7_firstFrom 16 = .ok (.iaload, 1) := by decide +kernel
theorem dX7_firstFrom_17 : decode cX7_firstFrom 17 = .ok (.ifCond .ne 6, 3) := by decide +kernel
theorem dX7_firstFrom_20 : decode cX7_firstFrom 20 = .ok (.bipush (-9), 2) := by decide +kernel
theorem dX7_firstFrom_22 : decode cX7_firstFrom 22 = .ok (.ireturn, 1) := by decide +kernel
theorem dX7_firstFrom_23 : decode cX7_firstFrom 23 = .ok (.iconst 0, 1) := by decide +kernel
theorem dX7_firstFrom_24 : decode cX7_firstFrom 24 = .ok (.istore 4, 2) := by decide +kernel
theorem dX7_firstFrom_26 : decode cX7_firstFrom 26 = .ok (.iload 4, 2) := by decide +kernel
theorem dX7_firstFrom_28 : decode cX7_firstFrom 28 = .ok (.aload_n 1, 1) := by decide +kernel
theorem dX7_firstFrom_29 : decode cX7_firstFrom 29 = .ok (.getfield 22, 3) := by decide +kernel
theorem dX7_firstFrom_32 : decode cX7_firstFrom 32 = .ok (.if_icmp .ge 87, 3) := by decide +kernel
theorem dX7_firstFrom_35 : decode cX7_firstFrom 35 = .ok (.aload_n 0, 1) := by decide +kernel
theorem dX7_firstFrom_36 : decode cX7_firstFrom 36 = .ok (.getfield 9, 3) := by decide +kernel
theorem dX7_firstFrom_39 : decode cX7_firstFrom 39 = .ok (.iload_n 3, 1) := by decide +kernel
theorem dX7_firstFrom_40 : decode cX7_firstFrom 40 = .ok (.iaload, 1) := by decide +kernel
theorem dX7_firstFrom_41 : decode cX7_firstFrom 41 = .ok (.aload_n 1, 1) := by decide +kernel
theorem dX7_firstFrom_42 : decode cX7_firstFrom 42 = .ok (.aload_n 2, 1) := by decide +kernel
theorem dX7_firstFrom_43 : decode cX7_firstFrom 43 = .ok (.iload 4, 2) := by decide +kernel
theorem dX7_firstFrom_45 : decode cX7_firstFrom 45 = .ok (.invokestatic 34, 3) := by decide +kernel
theorem dX7_firstFrom_48 : decode cX7_firstFrom 48 = .ok (.isub, 1) := by decide +kernel
theorem dX7_firstFrom_49 : decode cX7_firstFrom 49 = .ok (.istore 5, 2) := by decide +kernel
theorem dX7_firstFrom_51 : decode cX7_firstFrom 51 = .ok (.aload_n 1, 1) := by decide +kernel
theorem dX7_firstFrom_52 : decode cX7_firstFrom 52 = .ok (.getfield 28, 3) := by decide +kernel
theorem dX7_firstFrom_55 : decode cX7_firstFrom 55 = .ok (.iload 4, 2) := by decide +kernel
theorem dX7_firstFrom_57 : decode cX7_firstFrom 57 = .ok (.iaload, 1) := by decide +kernel
theorem dX7_firstFrom_58 : decode cX7_firstFrom 58 = .ok (.iload_n 3, 1) := by decide +kernel
theorem dX7_firstFrom_59 : decode cX7_firstFrom 59 = .ok (.if_icmp .ne 23, 3) := by decide +kernel
theorem dX7_firstFrom_62 : decode cX7_firstFrom 62 = .ok (.aload_n 0, 1) := by decide +kernel
theorem dX7_firstFrom_63 : decode cX7_firstFrom 63 = .ok (.getfield 9, 3) := by decide +kernel
theorem dX7_firstFrom_66 : decode cX7_firstFrom 66 = .ok (.aload_n 1, 1) := by decide +kernel
theorem dX7_firstFrom_67 : decode cX7_firstFrom 67 = .ok (.getfield 31, 3) := by decide +kernel
theorem dX7_firstFrom_70 : decode cX7_firstFrom 70 = .ok (.iload 4, 2) := by decide +kernel
theorem dX7_firstFrom_72 : decode cX7_firstFrom 72 = .ok (.iaload, 1) := by decide +kernel
theorem dX7_firstFrom_73 : decode cX7_firstFrom 73 = .ok (.iaload, 1) := by decide +kernel
theorem dX7_firstFrom_74 : decode cX7_firstFrom 74 = .ok (.iload 5, 2) := by decide +kernel
theorem dX7_firstFrom_76 : decode cX7_firstFrom 76 = .ok (.if_icmp .ne 6, 3) := by decide +kernel
theorem dX7_firstFrom_79 : decode cX7_firstFrom 79 = .ok (.iload 4, 2) := by decide +kernel
theorem dX7_firstFrom_81 : decode cX7_firstFrom 81 = .ok (.ireturn, 1) := by decide +kernel
theorem dX7_firstFrom_82 : decode cX7_firstFrom 82 = .ok (.aload_n 1, 1) := by decide +kernel
theorem dX7_firstFrom_83 : decode cX7_firstFrom 83 = .ok (.getfield 31, 3) := by decide +kernel
theorem dX7_firstFrom_86 : decode cX7_firstFrom 86 = .ok (.iload 4, 2) := by decide +kernel
theorem dX7_firstFrom_88 : decode cX7_firstFrom 88 = .ok (.iaload, 1) := by decide +kernel
theorem dX7_firstFrom_89 : decode cX7_firstFrom 89 = .ok (.iload_n 3, 1) := by decide +kernel
theorem dX7_firstFrom_90 : decode cX7_firstFrom 90 = .ok (.if_icmp .ne 23, 3) := by decide +kernel
theorem dX7_firstFrom_93 : decode cX7_firstFrom 93 = .ok (.aload_n 0, 1) := by decide +kernel
theorem dX7_firstFrom_94 : decode cX7_firstFrom 94 = .ok (.getfield 9, 3) := by decide +kernel
theorem dX7_firstFrom_97 : decode cX7_firstFrom 97 = .ok (.aload_n 1, 1) := by decide +kernel
theorem dX7_firstFrom_98 : decode cX7_firstFrom 98 = .ok (.getfield 28, 3) := by decide +kernel
theorem dX7_firstFrom_101 : decode cX7_firstFrom 101 = .ok (.iload 4, 2) := by decide +kernel
theorem dX7_firstFrom_103 : decode cX7_firstFrom 103 = .ok (.iaload, 1) := by decide +kernel
theorem dX7_firstFrom_104 : decode cX7_firstFrom 104 = .ok (.iaload, 1) := by decide +kernel
theorem dX7_firstFrom_105 : decode cX7_firstFrom 105 = .ok (.iload 5, 2) := by decide +kernel
theorem dX7_firstFrom_107 : decode cX7_firstFrom 107 = .ok (.if_icmp .ne 6, 3) := by decide +kernel
theorem dX7_firstFrom_110 : decode cX7_firstFrom 110 = .ok (.iload 4, 2) := by decide +kernel
theorem dX7_firstFrom_112 : decode cX7_firstFrom 112 = .ok (.ireturn, 1) := by decide +kernel
theorem dX7_firstFrom_113 : decode cX7_firstFrom 113 = .ok (.iinc 4 1, 3) := by decide +kernel
theorem dX7_firstFrom_116 : decode cX7_firstFrom 116 = .ok (.goto (-90), 3) := by decide +kernel
theorem dX7_firstFrom_119 : decode cX7_firstFrom 119 = .ok (.bipush (-9), 2) := by decide +kernel
theorem dX7_firstFrom_121 : decode cX7_firstFrom 121 = .ok (.ireturn, 1) := by decide +kernel
theorem dX7_barsBetween_0 : decode cX7_barsBetween 0 = .ok (.aload_n 0, 1) := by decide +kernel
theorem dX7_barsBetween_1 : decode cX7_barsBetween 1 = .ok (.aload_n 1, 1) := by decide +kernel
theorem dX7_barsBetween_2 : decode cX7_barsBetween 2 = .ok (.aload_n 2, 1) := by decide +kernel
theorem dX7_barsBetween_3 : decode cX7_barsBetween 3 = .ok (.iload 4, 2) := by decide +kernel
theorem dX7_barsBetween_5 : decode cX7_barsBetween 5 = .ok (.bipush (-9), 2) := by decide +kernel
theorem dX7_barsBetween_7 : decode cX7_barsBetween 7 = .ok (.invokevirtual 50, 3) := by decide +kernel
theorem dX7_barsBetween_10 : decode cX7_barsBetween 10 = .ok (.aload_n 0, 1) := by decide +kernel
theorem dX7_barsBetween_11 : decode cX7_barsBetween 11 = .ok (.getfield 9, 3) := by decide +kernel
theorem dX7_barsBetween_14 : decode cX7_barsBetween 14 = .ok (.iload_n 3, 1) := by decide +kernel
theorem dX7_barsBetween_15 : decode cX7_barsBetween 15 = .ok (.iaload, 1) := by decide +kernel
theorem dX7_barsBetween_16 : decode cX7_barsBetween 16 = .ok (.ldc 15, 2) := by decide +kernel
theorem dX7_barsBetween_18 : decode cX7_barsBetween 18 = .ok (.if_icmp .ne 5, 3) := by decide +kernel
theorem dX7_barsBetween_21 : decode cX7_barsBetween 21 = .ok (.iconst 0, 1) := by decide +kernel
theorem dX7_barsBetween_22 : decode cX7_barsBetween 22 = .ok (.ireturn, 1) := by decide +kernel
theorem dX7_barsBetween_23 : decode cX7_barsBetween 23 = .ok (.iconst 0, 1) := by decide +kernel
theorem dX7_barsBetween_24 : decode cX7_barsBetween 24 = .ok (.istore 5, 2) := by decide +kernel
theorem dX7_barsBetween_26 : decode cX7_barsBetween 26 = .ok (.iconst 0, 1) := by decide +kernel
theorem dX7_barsBetween_27 : decode cX7_barsBetween 27 = .ok (.istore 6, 2) := by decide +kernel
theorem dX7_barsBetween_29 : decode cX7_barsBetween 29 = .ok (.iload 6, 2) := by decide +kernel
theorem dX7_barsBetween_31 : decode cX7_barsBetween 31 = .ok (.aload_n 1, 1) := by decide +kernel
theorem dX7_barsBetween_32 : decode cX7_barsBetween 32 = .ok (.getfield 22, 3) := by decide +kernel
theorem dX7_barsBetween_35 : decode cX7_barsBetween 35 = .ok (.if_icmp .ge 39, 3) := by decide +kernel
theorem dX7_barsBetween_38 : decode cX7_barsBetween 38 = .ok (.aload_n 0, 1) := by decide +kernel
theorem dX7_barsBetween_39 : decode cX7_barsBetween 39 = .ok (.aload_n 1, 1) := by decide +kernel
theorem dX7_barsBetween_40 : decode cX7_barsBetween 40 = .ok (.aload_n 2, 1) := by decide +kernel
theorem dX7_barsBetween_41 : decode cX7_barsBetween 41 = .ok (.iload 4, 2) := by decide +kernel
theorem dX7_barsBetween_43 : decode cX7_barsBetween 43 = .ok (.iload 6, 2) := by decide +kernel
theorem dX7_barsBetween_45 : decode cX7_barsBetween 45 = .ok (.invokevirtual 50, 3) := by decide +kernel
theorem dX7_barsBetween_48 : decode cX7_barsBetween 48 = .ok (.aload_n 0, 1) := by decide +kernel
theorem dX7_barsBetween_49 : decode cX7_barsBetween 49 = .ok (.getfield 9, 3) := by decide +kernel
theorem dX7_barsBetween_52 : decode cX7_barsBetween 52 = .ok (.iload_n 3, 1) := by decide +kernel
theorem dX7_barsBetween_53 : decode cX7_barsBetween 53 = .ok (.iaload, 1) := by decide +kernel
theorem dX7_barsBetween_54 : decode cX7_barsBetween 54 = .ok (.ldc 15, 2) := by decide +kernel
theorem dX7_barsBetween_56 : decode cX7_barsBetween 56 = .ok (.if_icmp .ne 12, 3) := by decide +kernel
theorem dX7_barsBetween_59 : decode cX7_barsBetween 59 = .ok (.iload 5, 2) := by decide +kernel
theorem dX7_barsBetween_61 : decode cX7_barsBetween 61 = .ok (.iconst 1, 1) := by decide +kernel
theorem dX7_barsBetween_62 : decode cX7_barsBetween 62 = .ok (.iload 6, 2) := by decide +kernel
theorem dX7_barsBetween_64 : decode cX7_barsBetween 64 = .ok (.ishl, 1) := by decide +kernel
theorem dX7_barsBetween_65 : decode cX7_barsBetween 65 = .ok (.ior, 1) := by decide +kernel
theorem dX7_barsBetween_66 : decode cX7_barsBetween 66 = .ok (.istore 5, 2) := by decide +kernel
theorem dX7_barsBetween_68 : decode cX7_barsBetween 68 = .ok (.iinc 6 1, 3) := by decide +kernel
theorem dX7_barsBetween_71 : decode cX7_barsBetween 71 = .ok (.goto (-42), 3) := by decide +kernel
theorem dX7_barsBetween_74 : decode cX7_barsBetween 74 = .ok (.iload 5, 2) := by decide +kernel
theorem dX7_barsBetween_76 : decode cX7_barsBetween 76 = .ok (.ireturn, 1) := by decide +kernel
