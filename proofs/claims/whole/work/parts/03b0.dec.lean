theorem dX4_init_0 : decode cX4_init 0 = .ok (.aload_n 0, 1) := by decide +kernel
theorem dX4_init_1 : decode cX4_init 1 = .ok (.invokespecial 3, 3) := by decide +kernel
theorem dX4_init_4 : decode cX4_init 4 = .ok (.aload_n 0, 1) := by decide +kernel
theorem dX4_init_5 : decode cX4_init 5 = .ok (.sipush 200, 3) := by decide +kernel
theorem dX4_init_8 : decode cX4_init 8 = .ok (.newarray .int, 2) := by decide +kernel
theorem dX4_init_10 : decode cX4_init 10 = .ok (.putfield 9, 3) := by decide +kernel
theorem dX4_init_13 : decode cX4_init 13 = .ok (.aload_n 0, 1) := by decide +kernel
theorem dX4_init_14 : decode cX4_init 14 = .ok (.iconst 0, 1) := by decide +kernel
theorem dX4_init_15 : decode cX4_init 15 = .ok (.putfield 15, 3) := by decide +kernel
theorem dX4_init_18 : decode cX4_init 18 = .ok (.aload_n 0, 1) := by decide +kernel
theorem dX4_init_19 : decode cX4_init 19 = .ok (.iconst 0, 1) := by decide +kernel
theorem dX4_init_20 : decode cX4_init 20 = .ok (.putfield 19, 3) := by decide +kernel
theorem dX4_init_23 : decode cX4_init 23 = .ok (.aload_n 0, 1) := by decide +kernel
theorem dX4_init_24 : decode cX4_init 24 = .ok (.iconst 0, 1) := by decide +kernel
theorem dX4_init_25 : decode cX4_init 25 = .ok (.putfield 22, 3) := by decide +kernel
theorem dX4_init_28 : decode cX4_init 28 = .ok (.aload_n 0, 1) := by decide +kernel
theorem dX4_init_29 : decode cX4_init 29 = .ok (.iconst 0, 1) := by decide +kernel
theorem dX4_init_30 : decode cX4_init 30 = .ok (.putfield 25, 3) := by decide +kernel
theorem dX4_init_33 : decode cX4_init 33 = .ok (.aload_n 0, 1) := by decide +kernel
theorem dX4_init_34 : decode cX4_init 34 = .ok (.iconst (-1), 1) := by decide +kernel
theorem dX4_init_35 : decode cX4_init 35 = .ok (.putfield 28, 3) := by decide +kernel
theorem dX4_init_38 : decode cX4_init 38 = .ok (.return_, 1) := by decide +kernel
theorem dX4_take_0 : decode cX4_take 0 = .ok (.aload_n 0, 1) := by decide +kernel
theorem dX4_take_1 : decode cX4_take 1 = .ok (.getfield 15, 3) := by decide +kernel
theorem dX4_take_4 : decode cX4_take 4 = .ok (.sipush 200, 3) := by decide +kernel
theorem dX4_take_7 : decode cX4_take 7 = .ok (.if_icmp .lt 5, 3) := by decide +kernel
theorem dX4_take_10 : decode cX4_take 10 = .ok (.iconst 0, 1) := by decide +kernel
theorem dX4_take_11 : decode cX4_take 11 = .ok (.ireturn, 1) := by decide +kernel
theorem dX4_take_12 : decode cX4_take 12 = .ok (.aload_n 0, 1) := by decide +kernel
theorem dX4_take_13 : decode cX4_take 13 = .ok (.getfield 9, 3) := by decide +kernel
theorem dX4_take_16 : decode cX4_take 16 = .ok (.aload_n 0, 1) := by decide +kernel
theorem dX4_take_17 : decode cX4_take 17 = .ok (.getfield 15, 3) := by decide +kernel
theorem dX4_take_20 : decode cX4_take 20 = .ok (.iload_n 1, 1) := by decide +kernel
theorem dX4_take_21 : decode cX4_take 21 = .ok (.iastore, 1) := by decide +kernel
theorem dX4_take_22 : decode cX4_take 22 = .ok (.aload_n 0, 1) := by decide +kernel
theorem dX4_take_23 : decode cX4_take 23 = .ok (.dup, 1) := by decide +kernel
theorem dX4_take_24 : decode cX4_take 24 = .ok (.getfield 15, 3) := by decide +kernel
theorem dX4_take_27 : decode cX4_take 27 = .ok (.iconst 1, 1) := by decide +kernel
theorem dX4_take_28 : decode cX4_take 28 = .ok (.iadd, 1) := by decide +kernel
theorem dX4_take_29 : decode cX4_take 29 = .ok (.putfield 15, 3) := by decide +kernel
theorem dX4_take_32 : decode cX4_take 32 = .ok (.iconst 1, 1) := by decide +kernel
theorem dX4_take_33 : decode cX4_take 33 = .ok (.ireturn, 1) := by decide +kernel
theorem dX4_empty_0 : decode cX4_empty 0 = .ok (.aload_n 0, 1) := by decide +kernel
theorem dX4_empty_1 : decode cX4_empty 1 = .ok (.iconst 0, 1) := by decide +kernel
theorem dX4_empty_2 : decode cX4_empty 2 = .ok (.putfield 15, 3) := by decide +kernel
theorem dX4_empty_5 : decode cX4_empty 5 = .ok (.return_, 1) := by decide +kernel
theorem dX4_readInto_0 : decode cX4_readInto 0 = .ok (.aload_n 1, 1) := by decide +kernel
theorem dX4_readInto_1 : decode cX4_readInto 1 = .ok (.invokevirtual 31, 3) := by decide +kernel
theorem dX4_readInto_4 : decode cX4_readInto 4 = .ok (.aload_n 0, 1) := by decide +kernel
theorem dX4_readInto_5 : decode cX4_readInto 5 = .ok (.iconst 0, 1) := by decide +kernel
theorem dX4_readInto_6 : decode cX4_readInto 6 = .ok (.putfield 19, 3) := by decide +kernel
theorem dX4_readInto_9 : decode cX4_readInto 9 = .ok (.iconst 0, 1) := by decide +kernel
theorem dX4_readInto_10 : decode cX4_readInto 10 = .ok (.istore_n 2, 1) := by decide +kernel
theorem dX4_readInto_11 : decode cX4_readInto 11 = .ok (.iconst 0, 1) := by decide +kernel
theorem dX4_readInto_12 : decode cX4_readInto 12 = .ok (.istore_n 3, 1) := by decide +kernel
theorem dX4_readInto_13 : decode cX4_readInto 13 = .ok (.iload_n 3, 1) := by decide +kernel
theorem dX4_readInto_14 : decode cX4_readInto 14 = .ok (.sipush 200, 3) := by decide +kernel
theorem dX4_readInto_17 : decode cX4_readInto 17 = .ok (.if_icmp .gt 41, 3) := by decide +kernel
theorem dX4_readInto_20 : decode cX4_readInto 20 = .ok (.aload_n 0, 1) := by decide +kernel
theorem dX4_readInto_21 : decode cX4_readInto 21 = .ok (.invokevirtual 36, 3) := by decide +kernel
theorem dX4_readInto_24 : decode cX4_readInto 24 = .ok (.aload_n 0, 1) := by decide +kernel
theorem dX4_readInto_25 : decode cX4_readInto 25 = .ok (.getfield 25, 3) := by decide +kernel
theorem dX4_readInto_28 : decode cX4_readInto 28 = .ok (.ifCond .ne 5, 3) := by decide +kernel
theorem dX4_readInto_31 : decode cX4_readInto 31 = .ok (.iload_n 2, 1) := by decide +kernel
theorem dX4_readInto_32 : decode cX4_readInto 32 = .ok (.ireturn, 1) := by decide +kernel
theorem dX4_readInto_33 : decode cX4_readInto 33 = .ok (.aload_n 0, 1) := by decide +kernel
theorem dX4_readInto_34 : decode cX4_readInto 34 = .ok (.aload_n 1, 1) := by decide +kernel
theorem dX4_readInto_35 : decode cX4_readInto 35 = .ok (.invokevirtual 39, 3) := by decide +kernel
theorem dX4_readInto_38 : decode cX4_readInto 38 = .ok (.ifCond .ne 11, 3) := by decide +kernel
theorem dX4_readInto_41 : decode cX4_readInto 41 = .ok (.bipush (-10), 2) := by decide +kernel
theorem dX4_readInto_43 : decode cX4_readInto 43 = .ok (.aload_n 0, 1) := by decide +kernel
theorem dX4_readInto_44 : decode cX4_readInto 44 = .ok (.getfield 22, 3) := by decide +kernel
theorem dX4_readInto_47 : decode cX4_readInto 47 = .ok (.isub, 1) := by decide +kernel
theorem dX4_readInto_48 : decode cX4_readInto 48 = .ok (.ireturn, 1) := by decide +kernel
theorem dX4_readInto_49 : decode cX4_readInto 49 = .ok (.iinc 2 1, 3) := by decide +kernel
theorem dX4_readInto_52 : decode cX4_readInto 52 = .ok (.iinc 3 1, 3) := by decide +kernel
theorem dX4_readInto_55 : decode cX4_readInto 55 = .ok (.goto (-42), 3) := by decide +kernel
theorem dX4_readInto_58 : decode cX4_readInto 58 = .ok (.iload_n 2, 1) := by decide +kernel
theorem dX4_readInto_59 : decode cX4_readInto 59 = .ok (.ireturn, 1) := by decide +kernel
theorem dX4_readItem_0 : decode cX4_readItem 0 = .ok (.aload_n 0, 1) := by decide +kernel
theorem dX4_readItem_1 : decode cX4_readItem 1 = .ok (.getfield 25, 3) := by decide +kernel
theorem dX4_readItem_4 : decode cX4_readItem 4 = .ok (.iconst 1, 1) := by decide +kernel
theorem dX4_readItem_5 : decode cX4_readItem 5 = .ok (.if_icmp .eq 5, 3) := by decide +kernel
theorem dX4_readItem_8 : decode cX4_readItem 8 = .ok (.iconst 0, 1) := by decide +kernel
theorem dX4_readItem_9 : decode cX4_readItem 9 = .ok (.ireturn, 1) := by decide +kernel
theorem dX4_readItem_10 : decode cX4_readItem 10 = .ok (.aload_n 0, 1) := by decide +kernel
theorem dX4_readItem_11 : decode cX4_readItem 11 = .ok (.getfield 28, 3) := by decide +kernel
theorem dX4_readItem_14 : decode cX4_readItem 14 = .ok (.lookupswitch 126 #[(100, 84), (112, 63), (115, 42), (116, 105)], 42) := by decide +kernel
theorem dX4_readItem_56 : decode cX4_readItem 56 = .ok (.aload_n 0, 1) := by decide +kernel
theorem dX4_readItem_57 : decode cX4_readItem 57 = .ok (.aload_n 1, 1) := by decide +kernel
theorem dX4_readItem_58 : decode cX4_readItem 58 = .ok (.invokevirtual 43, 3) := by decide +kernel
theorem dX4_readItem_61 : decode cX4_readItem 61 = .ok (.ifCond .eq 14, 3) := by decide +kernel
theorem dX4_readItem_64 : decode cX4_readItem 64 = .ok (.aload_n 0, 1) := by decide +kernel
theorem dX4_readItem_65 : decode cX4_readItem 65 = .ok (.invokevirtual 46, 3) := by decide +kernel
theorem dX4_readItem_68 : decode cX4_readItem 68 = .ok (.ifCond .eq 7, 3) := by decide +kernel
theorem dX4_readItem_71 : decode cX4_readItem 71 = .ok (.iconst 1, 1) := by decide +kernel
theorem dX4_readItem_72 : decode cX4_readItem 72 = .ok (.goto 4, 3) := by decide +kernel
theorem dX4_readItem_75 : decode cX4_readItem 75 = .ok (.iconst 0, 1) := by decide +kernel
theorem dX4_readItem_76 : decode cX4_readItem 76 = .ok (.ireturn, 1) := by decide +kernel
theorem dX4_readItem_77 : decode cX4_readItem 77 = .ok (.aload_n 0, 1) := by decide +kernel
theorem dX4_readItem_78 : decode cX4_readItem 78 = .ok (.aload_n 1, 1) := by decide +kernel
theorem dX4_readItem_79 : decode cX4_readItem 79 = .ok (.invokevirtual 50, 3) := by decide +kernel
theorem dX4_readItem_82 : decode cX4_readItem 82 = .ok (.ifCond .eq 14, 3) := by decide +kernel
theorem dX4_readItem_85 : decode cX4_readItem 85 = .ok (.aload_n 0, 1) := by decide +kernel
theorem dX4_readItem_86 : decode cX4_readItem 86 = .ok (.invokevirtual 46, 3) := by decide +kernel
theorem dX4_readItem_89 : decode cX4_readItem 89 = .ok (.ifCond .eq 7, 3) := by decide +kernel
theorem dX4_readItem_92 : decode cX4_readItem 92 = .ok (.iconst 1, 1) := by decide +kernel
theorem dX4_readItem_93 : decode cX4_readItem 93 = .ok (.goto 4, 3) := by decide +kernel
theorem dX4_readItem_96 : decode cX4_readItem 96 = .ok (.iconst 0, 1) := by decide +kernel
theorem dX4_readItem_97 : decode cX4_readItem 97 = .ok (.ireturn, 1) := by decide +kernel
theorem dX4_readItem_98 : decode cX4_readItem 98 = .ok (.aload_n 0, 1) := by decide +kernel
theorem dX4_readItem_99 : decode cX4_readItem 99 = .ok (.aload_n 1, 1) := by decide +kernel
theorem dX4_readItem_100 : decode cX4_readItem 100 = .ok (.invokevirtual 53, 3) := by decide +kernel
theorem dX4_readItem_103 : decode cX4_readItem 103 = .ok (.ifCond .eq 14, 3) := by decide +kernel
theorem dX4_readItem_106 : decode cX4_readItem 106 = .ok (.aload_n 0, 1) := by decide +kernel
theorem dX4_readItem_107 : decode cX4_readItem 107 = .ok (.invokevirtual 46, 3) := by decide +kernel
theorem dX4_readItem_110 : decode cX4_readItem 110 = .ok (.ifCond .eq 7, 3) := by decide +kernel
theorem dX4_readItem_113 : decode cX4_readItem 113 = .ok (.iconst 1, 1) := by decide +kernel
theorem dX4_readItem_114 : decode cX4_readItem 114 = .ok (.goto 4, 3) := by decide +kernel
theorem dX4_readItem_117 : decode cX4_readItem 117 = .ok (.iconst 0, 1) := by decide +kernel
theorem dX4_readItem_118 : decode cX4_readItem 118 = .ok (.ireturn, 1) := by decide +kernel
theorem dX4_readItem_119 : decode cX4_readItem 119 = .ok (.aload_n 0, 1) := by decide +kernel
theorem dX4_readItem_120 : decode cX4_readItem 120 = .ok (.aload_n 1, 1) := by decide +kernel
theorem dX4_readItem_121 : decode cX4_readItem 121 = .ok (.invokevirtual 56, 3) := by decide +kernel
theorem dX4_readItem_124 : decode cX4_readItem 124 = .ok (.ifCond .eq 14, 3) := by decide +kernel
theorem dX4_readItem_127 : decode cX4_readItem 127 = .ok (.aload_n 0, 1) := by decide +kernel
theorem dX4_readItem_128 : decode cX4_readItem 128 = .ok (.invokevirtual 46, 3) := by decide +kernel
theorem dX4_readItem_131 : decode cX4_readItem 131 = .ok (.ifCond .eq 7, 3) := by decide +kernel
theorem dX4_readItem_134 : decode cX4_readItem 134 = .ok (.iconst 1, 1) := by decide +kernel
theorem dX4_readItem_135 : decode cX4_readItem 135 = .ok (.goto 4, 3) := by decide +kernel
theorem dX4_readItem_138 : decode cX4_readItem 138 = .ok (.iconst 0, 1) := by decide +kernel
theorem dX4_readItem_139 : decode cX4_readItem 139 = .ok (.ireturn, 1) := by decide +kernel
theorem dX4_readItem_140 : decode cX4_readItem 140 = .ok (.iconst 0, 1) := by decide +kernel
theorem dX4_readItem_141 : decode cX4_readItem 141 = .ok (.ireturn, 1) := by decide +kernel
theorem dX4_readStair_0 : decode cX4_readStair 0 = .ok (.aload_n 1, 1) := by decide +kernel
theorem dX4_readStair_1 : decode cX4_readStair 1 = .ok (.getfield 59, 3) := by decide +kernel
theorem dX4_readStair_4 : decode cX4_readStair 4 = .ok (.istore_n 2, 1) := by decide +kernel
theorem dX4_readStair_5 : decode cX4_readStair 5 = .ok (.iload_n 2, 1) := by decide +kernel
theorem dX4_readStair_6 : decode cX4_readStair 6 = .ok (.bipush 7, 2) := by decide +kernel
theorem dX4_readStair_8 : decode cX4_readStair 8 = .ok (.if_icmp .ge 13, 3) := by decide +kernel
theorem dX4_readStair_11 : decode cX4_readStair 11 = .ok (.aload_n 0, 1) := by decide +kernel
theorem dX4_readStair_12 : decode cX4_readStair 12 = .ok (.iconst 0, 1) := by decide +kernel
theorem dX4_readStair_13 : decode cX4_readStair 13 = .ok (.bipush 6, 2) := by decide +kernel
theorem dX4_readStair_15 : decode cX4_readStair 15 = .ok (.invokevirtual 62, 3) := by decide +kernel
theorem dX4_readStair_18 : decode cX4_readStair 18 = .ok (.ifCond .ne 5, 3) := by decide +kernel
theorem dX4_readStair_21 : decode cX4_readStair 21 = .ok (.iconst 0, 1) := by decide +kernel
theorem dX4_readStair_22 : decode cX4_readStair 22 = .ok (.ireturn, 1) := by decide +kernel
theorem dX4_readStair_23 : decode cX4_readStair 23 = .ok (.aload_n 1, 1) := by decide +kernel
theorem dX4_readStair_24 : decode cX4_readStair 24 = .ok (.getfield 66, 3) := by decide +kernel
theorem dX4_readStair_27 : decode cX4_readStair 27 = .ok (.iload_n 2, 1) := by decide +kernel
theorem dX4_readStair_28 : decode cX4_readStair 28 = .ok (.aload_n 0, 1) := by decide +kernel
theorem dX4_readStair_29 : decode cX4_readStair 29 = .ok (.getfield 28, 3) := by decide +kernel
theorem dX4_readStair_32 : decode cX4_readStair 32 = .ok (.iastore, 1) := by decide +kernel
theorem dX4_readStair_33 : decode cX4_readStair 33 = .ok (.aload_n 0, 1) := by decide +kernel
theorem dX4_readStair_34 : decode cX4_readStair 34 = .ok (.iconst 0, 1) := by decide +kernel
theorem dX4_readStair_35 : decode cX4_readStair 35 = .ok (.bipush 6, 2) := by decide +kernel
theorem dX4_readStair_37 : decode cX4_readStair 37 = .ok (.invokevirtual 62, 3) := by decide +kernel
theorem dX4_readStair_40 : decode cX4_readStair 40 = .ok (.ifCond .eq 16, 3) := by decide +kernel
theorem dX4_readStair_43 : decode cX4_readStair 43 = .ok (.aload_n 0, 1) := by decide +kernel
theorem dX4_readStair_44 : decode cX4_readStair 44 = .ok (.getfield 28, 3) := by decide +kernel
theorem dX4_readStair_47 : decode cX4_readStair 47 = .ok (.aload_n 1, 1) := by decide +kernel
theorem dX4_readStair_48 : decode cX4_readStair 48 = .ok (.getfield 66, 3) := by decide +kernel
theorem dX4_readStair_51 : decode cX4_readStair 51 = .ok (.iload_n 2, 1) := by decide +kernel
theorem dX4_readStair_52 : decode cX4_readStair 52 = .ok (.iaload, 1) := by decide +kernel
theorem dX4_readStair_53 : decode cX4_readStair 53 = .ok (.if_icmp .ne 5, 3) := by decide +kernel
theorem dX4_readStair_56 : decode cX4_readStair 56 = .ok (.iconst 0, 1) := by decide +kernel
theorem dX4_readStair_57 : decode cX4_readStair 57 = .ok (.ireturn, 1) := by decide +kernel
theorem dX4_readStair_58 : decode cX4_readStair 58 = .ok (.aload_n 1, 1) := by decide +kernel
theorem dX4_readStair_59 : decode cX4_readStair 59 = .ok (.getfield 69, 3) := by decide +kernel
theorem dX4_readStair_62 : decode cX4_readStair 62 = .ok (.iload_n 2, 1) := by decide +kernel
theorem dX4_readStair_63 : decode cX4_readStair 63 = .ok (.aload_n 0, 1) := by decide +kernel
theorem dX4_readStair_64 : decode cX4_readStair 64 = .ok (.getfield 28, 3) := by decide +kernel
theorem dX4_readStair_67 : decode cX4_readStair 67 = .ok (.iastore, 1) := by decide +kernel
theorem dX4_readStair_68 : decode cX4_readStair 68 = .ok (.aload_n 0, 1) := by decide +kernel
theorem dX4_readStair_69 : decode cX4_readStair 69 = .ok (.iconst 1, 1) := by decide +kernel
theorem dX4_readStair_70 : decode cX4_readStair 70 = .ok (.bipush 99, 2) := by decide +kernel
theorem dX4_readStair_72 : decode cX4_readStair 72 = .ok (.invokevirtual 62, 3) := by decide +kernel
theorem dX4_readStair_75 : decode cX4_readStair 75 = .ok (.ifCond .ne 5, 3) := by decide +kernel
theorem dX4_readStair_78 : decode cX4_readStair 78 = .ok (.iconst 0, 1) := by decide +kernel
theorem dX4_readStair_79 : decode cX4_readStair 79 = .ok (.ireturn, 1) := by decide +kernel
theorem dX4_readStair_80 : decode cX4_readStair 80 = .ok (.aload_n 1, 1) := by decide +kernel
theorem dX4_readStair_81 : decode cX4_readStair 81 = .ok (.getfield 72, 3) := by decide +kernel
theorem dX4_readStair_84 : decode cX4_readStair 84 = .ok (.iload_n 2, 1) := by decide +kernel
theorem dX4_readStair_85 : decode cX4_readStair 85 = .ok (.aload_n 0, 1) := by decide +kernel
theorem dX4_readStair_86 : decode cX4_readStair 86 = .ok (.getfield 28, 3) := by decide +kernel
theorem dX4_readStair_89 : decode cX4_readStair 89 = .ok (.iastore, 1) := by decide +kernel
theorem dX4_readStair_90 : decode cX4_readStair 90 = .ok (.aload_n 0, 1) := by decide +kernel
theorem dX4_readStair_91 : decode cX4_readStair 91 = .ok (.iconst 0, 1) := by decide +kernel
theorem dX4_readStair_92 : decode cX4_readStair 92 = .ok (.bipush 40, 2) := by decide +kernel
theorem dX4_readStair_94 : decode cX4_readStair 94 = .ok (.invokevirtual 62, 3) := by decide +kernel
theorem dX4_readStair_97 : decode cX4_readStair 97 = .ok (.ifCond .ne 5, 3) := by decide +kernel
theorem dX4_readStair_100 : decode cX4_readStair 100 = .ok (.iconst 0, 1) := by decide +kernel
theorem dX4_readStair_101 : decode cX4_readStair 101 = .ok (.ireturn, 1) := by decide +kernel
theorem dX4_readStair_102 : decode cX4_readStair 102 = .ok (.aload_n 1, 1) := by decide +kernel
theorem dX4_readStair_103 : decode cX4_readStair 103 = .ok (.getfield 75, 3) := by decide +kernel
theorem dX4_readStair_106 : decode cX4_readStair 106 = .ok (.iload_n 2, 1) := by decide +kernel
theorem dX4_readStair_107 : decode cX4_readStair 107 = .ok (.aload_n 0, 1) := by decide +kernel
theorem dX4_readStair_108 : decode cX4_readStair 108 = .ok (.getfield 28, 3) := by decide +kernel
theorem dX4_readStair_111 : decode cX4_readStair 111 = .ok (.iastore, 1) := by decide +kernel
theorem dX4_readStair_112 : decode cX4_readStair 112 = .ok (.aload_n 1, 1) := by decide +kernel
theorem dX4_readStair_113 : decode cX4_readStair 113 = .ok (.dup, 1) := by decide +kernel
theorem dX4_readStair_114 : decode cX4_readStair 114 = .ok (.getfield 59, 3) := by decide +kernel
theorem dX4_readStair_117 : decode cX4_readStair 117 = .ok (.iconst 1, 1) := by decide +kernel
theorem dX4_readStair_118 : decode cX4_readStair 118 = .ok (.iadd, 1) := by decide +kernel
theorem dX4_readStair_119 : decode cX4_readStair 119 = .ok (.putfield 59, 3) := by decide +kernel
theorem dX4_readStair_122 : decode cX4_readStair 122 = .ok (.iconst 1, 1) := by decide +kernel
theorem dX4_readStair_123 : decode cX4_readStair 123 = .ok (.ireturn, 1) := by decide +kernel
theorem dX4_readPerson_0 : decode cX4_readPerson 0 = .ok (.aload_n 1, 1) := by decide +kernel
theorem dX4_readPerson_1 : decode cX4_readPerson 1 = .ok (.getfield 78, 3) := by decide +kernel
theorem dX4_readPerson_4 : decode cX4_readPerson 4 = .ok (.istore_n 2, 1) := by decide +kernel
theorem dX4_readPerson_5 : decode cX4_readPerson 5 = .ok (.iload_n 2, 1) := by decide +kernel
theorem dX4_readPerson_6 : decode cX4_readPerson 6 = .ok (.iconst 5, 1) := by decide +kernel
theorem dX4_readPerson_7 : decode cX4_readPerson 7 = .ok (.if_icmp .ge 12, 3) := by decide +kernel
theorem dX4_readPerson_10 : decode cX4_readPerson 10 = .ok (.aload_n 0, 1) := by decide +kernel
theorem dX4_readPerson_11 : decode cX4_readPerson 11 = .ok (.iconst 0, 1) := by decide +kernel
theorem dX4_readPerson_12 : decode cX4_readPerson 12 = .ok (.iconst 1, 1) := by decide +kernel
theorem dX4_readPerson_13 : decode cX4_readPerson 13 = .ok (.invokevirtual 62, 3) := by decide +kernel
theorem dX4_readPerson_16 : decode cX4_readPerson 16 = .ok (.ifCond .ne 5, 3) := by decide +kernel
theorem dX4_readPerson_19 : decode cX4_readPerson 19 = .ok (.iconst 0, 1) := by decide +kernel
theorem dX4_readPerson_20 : decode cX4_readPerson 20 = .ok (.ireturn, 1) := by decide +kernel
theorem dX4_readPerson_21 : decode cX4_readPerson 21 = .ok (.aload_n 1, 1) := by decide +kernel
theorem dX4_readPerson_22 : decode cX4_readPerson 22 = .ok (.getfield 81, 3) := by decide +kernel
theorem dX4_readPerson_25 : decode cX4_readPerson 25 = .ok (.iload_n 2, 1) := by decide +kernel
theorem dX4_readPerson_26 : decode cX4_readPerson 26 = .ok (.aload_n 0, 1) := by decide +kernel
theorem dX4_readPerson_27 : decode cX4_readPerson 27 = .ok (.getfield 28, 3) := by decide +kernel
theorem dX4_readPerson_30 : decode cX4_readPerson 30 = .ok (.iastore, 1) := by decide +kernel
theorem dX4_readPerson_31 : decode cX4_readPerson 31 = .ok (.aload_n 0, 1) := by decide +kernel
theorem dX4_readPerson_32 : decode cX4_readPerson 32 = .ok (.iconst 0, 1) := by decide +kernel
theorem dX4_readPerson_33 : decode cX4_readPerson 33 = .ok (.bipush 10, 2) := by decide +kernel
theorem dX4_readPerson_35 : decode cX4_readPerson 35 = .ok (.invokevirtual 62, 3) := by decide +kernel
theorem dX4_readPerson_38 : decode cX4_readPerson 38 = .ok (.ifCond .ne 5, 3) := by decide +kernel
theorem dX4_readPerson_41 : decode cX4_readPerson 41 = .ok (.iconst 0, 1) := by decide +kernel
theorem dX4_readPerson_42 : decode cX4_readPerson 42 = .ok (.ireturn, 1) := by decide +kernel
theorem dX4_readPerson_43 : decode cX4_readPerson 43 = .ok (.aload_n 1, 1) := by decide +kernel
theorem dX4_readPerson_44 : decode cX4_readPerson 44 = .ok (.getfield 84, 3) := by decide +kernel
theorem dX4_readPerson_47 : decode cX4_readPerson 47 = .ok (.iload_n 2, 1) := by decide +kernel
theorem dX4_readPerson_48 : decode cX4_readPerson 48 = .ok (.aload_n 0, 1) := by decide +kernel
theorem dX4_readPerson_49 : decode cX4_readPerson 49 = .ok (.getfield 28, 3) := by decide +kernel
theorem dX4_readPerson_52 : decode cX4_readPerson 52 = .ok (.iastore, 1) := by decide +kernel
theorem dX4_readPerson_53 : decode cX4_readPerson 53 = .ok (.aload_n 0, 1) := by decide +kernel
theorem dX4_readPerson_54 : decode cX4_readPerson 54 = .ok (.iconst 0, 1) := by decide +kernel
theorem dX4_readPerson_55 : decode cX4_readPerson 55 = .ok (.bipush 9, 2) := by decide +kernel
theorem dX4_readPerson_57 : decode cX4_readPerson 57 = .ok (.invokevirtual 62, 3) := by decide +kernel
theorem dX4_readPerson_60 : decode cX4_readPerson 60 = .ok (.ifCond .ne 5, 3) := by decide +kernel
theorem dX4_readPerson_63 : decode cX4_readPerson 63 = .ok (.iconst 0, 1) := by decide +kernel
theorem dX4_readPerson_64 : decode cX4_readPerson 64 = .ok (.ireturn, 1) := by decide +kernel
theorem dX4_readPerson_65 : decode cX4_readPerson 65 = .ok (.aload_n 1, 1) := by decide +kernel
theorem dX4_readPerson_66 : decode cX4_readPerson 66 = .ok (.getfield 87, 3) := by decide +kernel
theorem dX4_readPerson_69 : decode cX4_readPerson 69 = .ok (.iload_n 2, 1) := by decide +kernel
theorem dX4_readPerson_70 : decode cX4_readPerson 70 = .ok (.aload_n 0, 1) := by decide +kernel
theorem dX4_readPerson_71 : decode cX4_readPerson 71 = .ok (.getfield 28, 3) := by decide +kernel
theorem dX4_readPerson_74 : decode cX4_readPerson 74 = .ok (.iastore, 1) := by decide +kernel
theorem dX4_readPerson_75 : decode cX4_readPerson 75 = .ok (.aload_n 1, 1) := by decide +kernel
theorem dX4_readPerson_76 : decode cX4_readPerson 76 = .ok (.dup, 1) := by decide +kernel
theorem dX4_readPerson_77 : decode cX4_readPerson 77 = .ok (.getfield 78, 3) := by decide +kernel
theorem dX4_readPerson_80 : decode cX4_readPerson 80 = .ok (.iconst 1, 1) := by decide +kernel
theorem dX4_readPerson_81 : decode cX4_readPerson 81 = .ok (.iadd, 1) := by decide +kernel
theorem dX4_readPerson_82 : decode cX4_readPerson 82 = .ok (.putfield 78, 3) := by decide +kernel
theorem dX4_readPerson_85 : decode cX4_readPerson 85 = .ok (.iconst 1, 1) := by decide +kernel
theorem dX4_readPerson_86 : decode cX4_readPerson 86 = .ok (.ireturn, 1) := by decide +kernel
theorem dX4_readDolls_0 : decode cX4_readDolls 0 = .ok (.aload_n 1, 1) := by decide +kernel
theorem dX4_readDolls_1 : decode cX4_readDolls 1 = .ok (.getfield 90, 3) := by decide +kernel
theorem dX4_readDolls_4 : decode cX4_readDolls 4 = .ok (.ifCond .ne 13, 3) := by decide +kernel
theorem dX4_readDolls_7 : decode cX4_readDolls 7 = .ok (.aload_n 0, 1) := by decide +kernel
theorem dX4_readDolls_8 : decode cX4_readDolls 8 = .ok (.iconst 0, 1) := by decide +kernel
theorem dX4_readDolls_9 : decode cX4_readDolls 9 = .ok (.bipush 9, 2) := by decide +kernel
theorem dX4_readDolls_11 : decode cX4_readDolls 11 = .ok (.invokevirtual 62, 3) := by decide +kernel
theorem dX4_readDolls_14 : decode cX4_readDolls 14 = .ok (.ifCond .ne 5, 3) := by decide +kernel
theorem dX4_readDolls_17 : decode cX4_readDolls 17 = .ok (.iconst 0, 1) := by decide +kernel
theorem dX4_readDolls_18 : decode cX4_readDolls 18 = .ok (.ireturn, 1) := by decide +kernel
theorem dX4_readDolls_19 : decode cX4_readDolls 19 = .ok (.aload_n 1, 1) := by decide +kernel
theorem dX4_readDolls_20 : decode cX4_readDolls 20 = .ok (.aload_n 0, 1) := by decide +kernel
theorem dX4_readDolls_21 : decode cX4_readDolls 21 = .ok (.getfield 28, 3) := by decide +kernel
theorem dX4_readDolls_24 : decode cX4_readDolls 24 = .ok (.putfield 94, 3) := by decide +kernel
theorem dX4_readDolls_27 : decode cX4_readDolls 27 = .ok (.aload_n 1, 1) := by decide +kernel
theorem dX4_readDolls_28 : decode cX4_readDolls 28 = .ok (.iconst 1, 1) := by decide +kernel
theorem dX4_readDolls_29 : decode cX4_readDolls 29 = .ok (.putfield 90, 3) := by decide +kernel
theorem dX4_readDolls_32 : decode cX4_readDolls 32 = .ok (.iconst 1, 1) := by decide +kernel
theorem dX4_readDolls_33 : decode cX4_readDolls 33 = .ok (.ireturn, 1) := by decide +kernel
theorem dX4_readPair_0 : decode cX4_readPair 0 = .ok (.aload_n 1, 1) := by decide +kernel
theorem dX4_readPair_1 : decode cX4_readPair 1 = .ok (.getfield 97, 3) := by decide +kernel
theorem dX4_readPair_4 : decode cX4_readPair 4 = .ok (.ifCond .ne 13, 3) := by decide +kernel
theorem dX4_readPair_7 : decode cX4_readPair 7 = .ok (.aload_n 0, 1) := by decide +kernel
theorem dX4_readPair_8 : decode cX4_readPair 8 = .ok (.iconst 0, 1) := by decide +kernel
theorem dX4_readPair_9 : decode cX4_readPair 9 = .ok (.bipush 9, 2) := by decide +kernel
theorem dX4_readPair_11 : decode cX4_readPair 11 = .ok (.invokevirtual 62, 3) := by decide +kernel
theorem dX4_readPair_14 : decode cX4_readPair 14 = .ok (.ifCond .ne 5, 3) := by decide +kernel
theorem dX4_readPair_17 : decode cX4_readPair 17 = .ok (.iconst 0, 1) := by decide +kernel
theorem dX4_readPair_18 : decode cX4_readPair 18 = .ok (.ireturn, 1) := by decide +kernel
theorem dX4_readPair_19 : decode cX4_readPair 19 = .ok (.aload_n 1, 1) := by decide +kernel
theorem dX4_readPair_20 : decode cX4_readPair 20 = .ok (.aload_n 0, 1) := by decide +kernel
theorem dX4_readPair_21 : decode cX4_readPair 21 = .ok (.getfield 28, 3) := by decide +kernel
theorem dX4_readPair_24 : decode cX4_readPair 24 = .ok (.putfield 100, 3) := by decide +kernel
theorem dX4_readPair_27 : decode cX4_readPair 27 = .ok (.aload_n 1, 1) := by decide +kernel
theorem dX4_readPair_28 : decode cX4_readPair 28 = .ok (.iconst 1, 1) := by decide +kernel
theorem dX4_readPair_29 : decode cX4_readPair 29 = .ok (.putfield 97, 3) := by decide +kernel
theorem dX4_readPair_32 : decode cX4_readPair 32 = .ok (.iconst 1, 1) := by decide +kernel
theorem dX4_readPair_33 : decode cX4_readPair 33 = .ok (.ireturn, 1) := by decide +kernel
theorem dX4_readNumber_0 : decode cX4_readNumber 0 = .ok (.aload_n 0, 1) := by decide +kernel
theorem dX4_readNumber_1 : decode cX4_readNumber 1 = .ok (.invokevirtual 36, 3) := by decide +kernel
theorem dX4_readNumber_4 : decode cX4_readNumber 4 = .ok (.aload_n 0, 1) := by decide +kernel
theorem dX4_readNumber_5 : decode cX4_readNumber 5 = .ok (.getfield 25, 3) := by decide +kernel
theorem dX4_readNumber_8 : decode cX4_readNumber 8 = .ok (.iconst 2, 1) := by decide +kernel
theorem dX4_readNumber_9 : decode cX4_readNumber 9 = .ok (.if_icmp .ne 23, 3) := by decide +kernel
theorem dX4_readNumber_12 : decode cX4_readNumber 12 = .ok (.aload_n 0, 1) := by decide +kernel
theorem dX4_readNumber_13 : decode cX4_readNumber 13 = .ok (.getfield 28, 3) := by decide +kernel
theorem dX4_readNumber_16 : decode cX4_readNumber 16 = .ok (.iload_n 1, 1) := by decide +kernel
theorem dX4_readNumber_17 : decode cX4_readNumber 17 = .ok (.if_icmp .lt 15, 3) := by decide +kernel
theorem dX4_readNumber_20 : decode cX4_readNumber 20 = .ok (.aload_n 0, 1) := by decide +kernel
theorem dX4_readNumber_21 : decode cX4_readNumber 21 = .ok (.getfield 28, 3) := by decide +kernel
theorem dX4_readNumber_24 : decode cX4_readNumber 24 = .ok (.iload_n 2, 1) := by decide +kernel
theorem dX4_readNumber_25 : decode cX4_readNumber 25 = .ok (.if_icmp .gt 7, 3) := by decide +kernel
theorem dX4_readNumber_28 : decode cX4_readNumber 28 = .ok (.iconst 1, 1) := by decide +kernel
theorem dX4_readNumber_29 : decode cX4_readNumber 29 = .ok (.goto 4, 3) := by decide +kernel
theorem dX4_readNumber_32 : decode cX4_readNumber 32 = .ok (.iconst 0, 1) := by decide +kernel
theorem dX4_readNumber_33 : decode cX4_readNumber 33 = .ok (.ireturn, 1) := by decide +kernel
theorem dX4_readStop_0 : decode cX4_readStop 0 = .ok (.aload_n 0, 1) := by decide +kernel
theorem dX4_readStop_1 : decode cX4_readStop 1 = .ok (.invokevirtual 36, 3) := by decide +kernel
theorem dX4_readStop_4 : decode cX4_readStop 4 = .ok (.aload_n 0, 1) := by decide +kernel
theorem dX4_readStop_5 : decode cX4_readStop 5 = .ok (.getfield 25, 3) := by decide +kernel
theorem dX4_readStop_8 : decode cX4_readStop 8 = .ok (.iconst 3, 1) := by decide +kernel
theorem dX4_readStop_9 : decode cX4_readStop 9 = .ok (.if_icmp .ne 7, 3) := by decide +kernel
theorem dX4_readStop_12 : decode cX4_readStop 12 = .ok (.iconst 1, 1) := by decide +kernel
theorem dX4_readStop_13 : decode cX4_readStop 13 = .ok (.goto 4, 3) := by decide +kernel
theorem dX4_readStop_16 : decode cX4_readStop 16 = .ok (.iconst 0, 1) := by decide +kernel
theorem dX4_readStop_17 : decode cX4_readStop 17 = .ok (.ireturn, 1) := by decide +kernel
theorem dX4_nextToken_0 : decode cX4_nextToken 0 = .ok (.aload_n 0, 1) := by decide +kernel
theorem dX4_nextToken_1 : decode cX4_nextToken 1 = .ok (.getfield 19, 3) := by decide +kernel
theorem dX4_nextToken_4 : decode cX4_nextToken 4 = .ok (.aload_n 0, 1) := by decide +kernel
theorem dX4_nextToken_5 : decode cX4_nextToken 5 = .ok (.getfield 15, 3) := by decide +kernel
theorem dX4_nextToken_8 : decode cX4_nextToken 8 = .ok (.if_icmp .ge 30, 3) := by decide +kernel
theorem dX4_nextToken_11 : decode cX4_nextToken 11 = .ok (.aload_n 0, 1) := by decide +kernel
theorem dX4_nextToken_12 : decode cX4_nextToken 12 = .ok (.getfield 9, 3) := by decide +kernel
theorem dX4_nextToken_15 : decode cX4_nextToken 15 = .ok (.aload_n 0, 1) := by decide +kernel
theorem dX4_nextToken_16 : decode cX4_nextToken 16 = .ok (.getfield 19, 3) := by decide +kernel
theorem dX4_nextToken_19 : decode cX4_nextToken 19 = .ok (.iaload, 1) := by decide +kernel
theorem dX4_nextToken_20 : decode cX4_nextToken 20 = .ok (.bipush 32, 2) := by decide +kernel
theorem dX4_nextToken_22 : decode cX4_nextToken 22 = .ok (.if_icmp .ne 16, 3) := by decide +kernel
theorem dX4_nextToken_25 : decode cX4_nextToken 25 = .ok (.aload_n 0, 1) := by decide +kernel
theorem dX4_nextToken_26 : decode cX4_nextToken 26 = .ok (.dup, 1) := by decide +kernel
theorem dX4_nextToken_27 : decode cX4_nextToken 27 = .ok (.getfield 19, 3) := by decide +kernel
theorem dX4_nextToken_30 : decode cX4_nextToken 30 = .ok (.iconst 1, 1) := by decide +kernel
theorem dX4_nextToken_31 : decode cX4_nextToken 31 = .ok (.iadd, 1) := by decide +kernel
theorem dX4_nextToken_32 : decode cX4_nextToken 32 = .ok (.putfield 19, 3) := by decide +kernel
theorem dX4_nextToken_35 : decode cX4_nextToken 35 = .ok (.goto (-35), 3) := by decide +kernel
theorem dX4_nextToken_38 : decode cX4_nextToken 38 = .ok (.aload_n 0, 1) := by decide +kernel
theorem dX4_nextToken_39 : decode cX4_nextToken 39 = .ok (.aload_n 0, 1) := by decide +kernel
theorem dX4_nextToken_40 : decode cX4_nextToken 40 = .ok (.getfield 19, 3) := by decide +kernel
theorem dX4_nextToken_43 : decode cX4_nextToken 43 = .ok (.putfield 22, 3) := by decide +kernel
theorem dX4_nextToken_46 : decode cX4_nextToken 46 = .ok (.aload_n 0, 1) := by decide +kernel
theorem dX4_nextToken_47 : decode cX4_nextToken 47 = .ok (.iconst (-1), 1) := by decide +kernel
theorem dX4_nextToken_48 : decode cX4_nextToken 48 = .ok (.putfield 28, 3) := by decide +kernel
theorem dX4_nextToken_51 : decode cX4_nextToken 51 = .ok (.aload_n 0, 1) := by decide +kernel
theorem dX4_nextToken_52 : decode cX4_nextToken 52 = .ok (.getfield 19, 3) := by decide +kernel
theorem dX4_nextToken_55 : decode cX4_nextToken 55 = .ok (.aload_n 0, 1) := by decide +kernel
theorem dX4_nextToken_56 : decode cX4_nextToken 56 = .ok (.getfield 15, 3) := by decide +kernel
theorem dX4_nextToken_59 : decode cX4_nextToken 59 = .ok (.if_icmp .lt 11, 3) := by decide +kernel
theorem dX4_nextToken_62 : decode cX4_nextToken 62 = .ok (.aload_n 0, 1) := by decide +kernel
theorem dX4_nextToken_63 : decode cX4_nextToken 63 = .ok (.iconst 0, 1) := by decide +kernel
theorem dX4_nextToken_64 : decode cX4_nextToken 64 = .ok (.putfield 25, 3) := by decide +kernel
theorem dX4_nextToken_67 : decode cX4_nextToken 67 = .ok (.goto 80, 3) := by decide +kernel
theorem dX4_nextToken_70 : decode cX4_nextToken 70 = .ok (.aload_n 0, 1) := by decide +kernel
theorem dX4_nextToken_71 : decode cX4_nextToken 71 = .ok (.getfield 9, 3) := by decide +kernel
theorem dX4_nextToken_74 : decode cX4_nextToken 74 = .ok (.aload_n 0, 1) := by decide +kernel
theorem dX4_nextToken_75 : decode cX4_nextToken 75 = .ok (.getfield 19, 3) := by decide +kernel
theorem dX4_nextToken_78 : decode cX4_nextToken 78 = .ok (.iaload, 1) := by decide +kernel
theorem dX4_nextToken_79 : decode cX4_nextToken 79 = .ok (.invokestatic 103, 3) := by decide +kernel
theorem dX4_nextToken_82 : decode cX4_nextToken 82 = .ok (.ifCond .eq 10, 3) := by decide +kernel
theorem dX4_nextToken_85 : decode cX4_nextToken 85 = .ok (.aload_n 0, 1) := by decide +kernel
theorem dX4_nextToken_86 : decode cX4_nextToken 86 = .ok (.invokevirtual 107, 3) := by decide +kernel
theorem dX4_nextToken_89 : decode cX4_nextToken 89 = .ok (.goto 58, 3) := by decide +kernel
theorem dX4_nextToken_92 : decode cX4_nextToken 92 = .ok (.aload_n 0, 1) := by decide +kernel
theorem dX4_nextToken_93 : decode cX4_nextToken 93 = .ok (.getfield 9, 3) := by decide +kernel
theorem dX4_nextToken_96 : decode cX4_nextToken 96 = .ok (.aload_n 0, 1) := by decide +kernel
theorem dX4_nextToken_97 : decode cX4_nextToken 97 = .ok (.getfield 19, 3) := by decide +kernel
theorem dX4_nextToken_100 : decode cX4_nextToken 100 = .ok (.iaload, 1) := by decide +kernel
theorem dX4_nextToken_101 : decode cX4_nextToken 101 = .ok (.invokestatic 110, 3) := by decide +kernel
theorem dX4_nextToken_104 : decode cX4_nextToken 104 = .ok (.ifCond .eq 10, 3) := by decide +kernel
theorem dX4_nextToken_107 : decode cX4_nextToken 107 = .ok (.aload_n 0, 1) := by decide +kernel
theorem dX4_nextToken_108 : decode cX4_nextToken 108 = .ok (.invokevirtual 113, 3) := by decide +kernel
theorem dX4_nextToken_111 : decode cX4_nextToken 111 = .ok (.goto 36, 3) := by decide +kernel
theorem dX4_nextToken_114 : decode cX4_nextToken 114 = .ok (.aload_n 0, 1) := by decide +kernel
theorem dX4_nextToken_115 : decode cX4_nextToken 115 = .ok (.aload_n 0, 1) := by decide +kernel
theorem dX4_nextToken_116 : decode cX4_nextToken 116 = .ok (.getfield 9, 3) := by decide +kernel
theorem dX4_nextToken_119 : decode cX4_nextToken 119 = .ok (.aload_n 0, 1) := by decide +kernel
theorem dX4_nextToken_120 : decode cX4_nextToken 120 = .ok (.getfield 19, 3) := by decide +kernel
theorem dX4_nextToken_123 : decode cX4_nextToken 123 = .ok (.iaload, 1) := by decide +kernel
theorem dX4_nextToken_124 : decode cX4_nextToken 124 = .ok (.bipush 59, 2) := by decide +kernel
theorem dX4_nextToken_126 : decode cX4_nextToken 126 = .ok (.if_icmp .ne 7, 3) := by decide +kernel
theorem dX4_nextToken_129 : decode cX4_nextToken 129 = .ok (.iconst 3, 1) := by decide +kernel
theorem dX4_nextToken_130 : decode cX4_nextToken 130 = .ok (.goto 4, 3) := by decide +kernel
theorem dX4_nextToken_133 : decode cX4_nextToken 133 = .ok (.iconst 4, 1) := by decide +kernel
theorem dX4_nextToken_134 : decode cX4_nextToken 134 = .ok (.putfield 25, 3) := by decide +kernel
theorem dX4_nextToken_137 : decode cX4_nextToken 137 = .ok (.aload_n 0, 1) := by decide +kernel
theorem dX4_nextToken_138 : decode cX4_nextToken 138 = .ok (.dup, 1) := by decide +kernel
theorem dX4_nextToken_139 : decode cX4_nextToken 139 = .ok (.getfield 19, 3) := by decide +kernel
theorem dX4_nextToken_142 : decode cX4_nextToken 142 = .ok (.iconst 1, 1) := by decide +kernel
theorem dX4_nextToken_143 : decode cX4_nextToken 143 = .ok (.iadd, 1) := by decide +kernel
theorem dX4_nextToken_144 : decode cX4_nextToken 144 = .ok (.putfield 19, 3) := by decide +kernel
theorem dX4_nextToken_147 : decode cX4_nextToken 147 = .ok (.return_, 1) := by decide +kernel
theorem dX4_takeWord_0 : decode cX4_takeWord 0 = .ok (.aload_n 0, 1) := by decide +kernel
theorem dX4_takeWord_1 : decode cX4_takeWord 1 = .ok (.iconst 1, 1) := by decide +kernel
theorem dX4_takeWord_2 : decode cX4_takeWord 2 = .ok (.putfield 25, 3) := by decide +kernel
theorem dX4_takeWord_5 : decode cX4_takeWord 5 = .ok (.aload_n 0, 1) := by decide +kernel
theorem dX4_takeWord_6 : decode cX4_takeWord 6 = .ok (.getfield 19, 3) := by decide +kernel
theorem dX4_takeWord_9 : decode cX4_takeWord 9 = .ok (.aload_n 0, 1) := by decide +kernel
theorem dX4_takeWord_10 : decode cX4_takeWord 10 = .ok (.getfield 15, 3) := by decide +kernel
theorem dX4_takeWord_13 : decode cX4_takeWord 13 = .ok (.if_icmp .ge 31, 3) := by decide +kernel
theorem dX4_takeWord_16 : decode cX4_takeWord 16 = .ok (.aload_n 0, 1) := by decide +kernel
theorem dX4_takeWord_17 : decode cX4_takeWord 17 = .ok (.getfield 9, 3) := by decide +kernel
theorem dX4_takeWord_20 : decode cX4_takeWord 20 = .ok (.aload_n 0, 1) := by decide +kernel
theorem dX4_takeWord_21 : decode cX4_takeWord 21 = .ok (.getfield 19, 3) := by decide +kernel
theorem dX4_takeWord_24 : decode cX4_takeWord 24 = .ok (.iaload, 1) := by decide +kernel
theorem dX4_takeWord_25 : decode cX4_takeWord 25 = .ok (.invokestatic 103, 3) := by decide +kernel
theorem dX4_takeWord_28 : decode cX4_takeWord 28 = .ok (.ifCond .eq 16, 3) := by decide +kernel
theorem dX4_takeWord_31 : decode cX4_takeWord 31 = .ok (.aload_n 0, 1) := by decide +kernel
theorem dX4_takeWord_32 : decode cX4_takeWord 32 = .ok (.dup, 1) := by decide +kernel
theorem dX4_takeWord_33 : decode cX4_takeWord 33 = .ok (.getfield 19, 3) := by decide +kernel
theorem dX4_takeWord_36 : decode cX4_takeWord 36 = .ok (.iconst 1, 1) := by decide +kernel
theorem dX4_takeWord_37 : decode cX4_takeWord 37 = .ok (.iadd, 1) := by decide +kernel
theorem dX4_takeWord_38 : decode cX4_takeWord 38 = .ok (.putfield 19, 3) := by decide +kernel
theorem dX4_takeWord_41 : decode cX4_takeWord 41 = .ok (.goto (-36), 3) := by decide +kernel
theorem dX4_takeWord_44 : decode cX4_takeWord 44 = .ok (.aload_n 0, 1) := by decide +kernel
theorem dX4_takeWord_45 : decode cX4_takeWord 45 = .ok (.getfield 19, 3) := by decide +kernel
theorem dX4_takeWord_48 : decode cX4_takeWord 48 = .ok (.aload_n 0, 1) := by decide +kernel
theorem dX4_takeWord_49 : decode cX4_takeWord 49 = .ok (.getfield 22, 3) := by decide +kernel
theorem dX4_takeWord_52 : decode cX4_takeWord 52 = .ok (.iconst 1, 1) := by decide +kernel
theorem dX4_takeWord_53 : decode cX4_takeWord 53 = .ok (.iadd, 1) := by decide +kernel
theorem dX4_takeWord_54 : decode cX4_takeWord 54 = .ok (.if_icmp .ne 16, 3) := by decide +kernel
theorem dX4_takeWord_57 : decode cX4_takeWord 57 = .ok (.aload_n 0, 1) := by decide +kernel
theorem dX4_takeWord_58 : decode cX4_takeWord 58 = .ok (.aload_n 0, 1) := by decide +kernel
theorem dX4_takeWord_59 : decode cX4_takeWord 59 = .ok (.getfield 9, 3) := by decide +kernel
theorem dX4_takeWord_62 : decode cX4_takeWord 62 = .ok (.aload_n 0, 1) := by decide +kernel
theorem dX4_takeWord_63 : decode cX4_takeWord 63 = .ok (.getfield 22, 3) := by decide +kernel
theorem dX4_takeWord_66 : decode cX4_takeWord 66 = .ok (.iaload, 1) := by decide +kernel
theorem dX4_takeWord_67 : decode cX4_takeWord 67 = .ok (.putfield 28, 3) := by decide +kernel
theorem dX4_takeWord_70 : decode cX4_takeWord 70 = .ok (.return_, 1) := by decide +kernel
theorem dX4_takeNumber_0 : decode cX4_takeNumber 0 = .ok (.aload_n 0, 1) := by decide +kernel
theorem dX4_takeNumber_1 : decode cX4_takeNumber 1 = .ok (.iconst 2, 1) := by decide +kernel
theorem dX4_takeNumber_2 : decode cX4_takeNumber 2 = .ok (.putfield 25, 3) := by decide +kernel
theorem dX4_takeNumber_5 : decode cX4_takeNumber 5 = .ok (.iconst 0, 1) := by decide +kernel
theorem dX4_takeNumber_6 : decode cX4_takeNumber 6 = .ok (.istore_n 1, 1) := by decide +kernel
theorem dX4_takeNumber_7 : decode cX4_takeNumber 7 = .ok (.aload_n 0, 1) := by decide +kernel
theorem dX4_takeNumber_8 : decode cX4_takeNumber 8 = .ok (.getfield 19, 3) := by decide +kernel
theorem dX4_takeNumber_11 : decode cX4_takeNumber 11 = .ok (.aload_n 0, 1) := by decide +kernel
theorem dX4_takeNumber_12 : decode cX4_takeNumber 12 = .ok (.getfield 15, 3) := by decide +kernel
theorem dX4_takeNumber_15 : decode cX4_takeNumber 15 = .ok (.if_icmp .ge 54, 3) := by decide +kernel
theorem dX4_takeNumber_18 : decode cX4_takeNumber 18 = .ok (.aload_n 0, 1) := by decide +kernel
theorem dX4_takeNumber_19 : decode cX4_takeNumber 19 = .ok (.getfield 9, 3) := by decide +kernel
theorem dX4_takeNumber_22 : decode cX4_takeNumber 22 = .ok (.aload_n 0, 1) := by decide +kernel
theorem dX4_takeNumber_23 : decode cX4_takeNumber 23 = .ok (.getfield 19, 3) := by decide +kernel
theorem dX4_takeNumber_26 : decode cX4_takeNumber 26 = .ok (.iaload, 1) := by decide +kernel
theorem dX4_takeNumber_27 : decode cX4_takeNumber 27 = .ok (.invokestatic 110, 3) := by decide +kernel
theorem dX4_takeNumber_30 : decode cX4_takeNumber 30 = .ok (.ifCond .eq 39, 3) := by decide +kernel
theorem dX4_takeNumber_33 : decode cX4_takeNumber 33 = .ok (.bipush 100, 2) := by decide +kernel
theorem dX4_takeNumber_35 : decode cX4_takeNumber 35 = .ok (.iload_n 1, 1) := by decide +kernel
theorem dX4_takeNumber_36 : decode cX4_takeNumber 36 = .ok (.bipush 10, 2) := by decide +kernel
theorem dX4_takeNumber_38 : decode cX4_takeNumber 38 = .ok (.imul, 1) := by decide +kernel
theorem dX4_takeNumber_39 : decode cX4_takeNumber 39 = .ok (.aload_n 0, 1) := by decide +kernel
theorem dX4_takeNumber_40 : decode cX4_takeNumber 40 = .ok (.getfield 9, 3) := by decide +kernel
theorem dX4_takeNumber_43 : decode cX4_takeNumber 43 = .ok (.aload_n 0, 1) := by decide +kernel
theorem dX4_takeNumber_44 : decode cX4_takeNumber 44 = .ok (.getfield 19, 3) := by decide +kernel
theorem dX4_takeNumber_47 : decode cX4_takeNumber 47 = .ok (.iaload, 1) := by decide +kernel
theorem dX4_takeNumber_48 : decode cX4_takeNumber 48 = .ok (.iadd, 1) := by decide +kernel
theorem dX4_takeNumber_49 : decode cX4_takeNumber 49 = .ok (.bipush 48, 2) := by decide +kernel
theorem dX4_takeNumber_51 : decode cX4_takeNumber 51 = .ok (.isub, 1) := by decide +kernel
theorem dX4_takeNumber_52 : decode cX4_takeNumber 52 = .ok (.invokestatic 116, 3) := by decide +kernel
theorem dX4_takeNumber_55 : decode cX4_takeNumber 55 = .ok (.istore_n 1, 1) := by decide +kernel
theorem dX4_takeNumber_56 : decode cX4_takeNumber 56 = .ok (.aload_n 0, 1) := by decide +kernel
theorem dX4_takeNumber_57 : decode cX4_takeNumber 57 = .ok (.dup, 1) := by decide +kernel
theorem dX4_takeNumber_58 : decode cX4_takeNumber 58 = .ok (.getfield 19, 3) := by decide +kernel
theorem dX4_takeNumber_61 : decode cX4_takeNumber 61 = .ok (.iconst 1, 1) := by decide +kernel
theorem dX4_takeNumber_62 : decode cX4_takeNumber 62 = .ok (.iadd, 1) := by decide +kernel
theorem dX4_takeNumber_63 : decode cX4_takeNumber 63 = .ok (.putfield 19, 3) := by decide +kernel
theorem dX4_takeNumber_66 : decode cX4_takeNumber 66 = .ok (.goto (-59), 3) := by decide +kernel
theorem dX4_takeNumber_69 : decode cX4_takeNumber 69 = .ok (.aload_n 0, 1) := by decide +kernel
theorem dX4_takeNumber_70 : decode cX4_takeNumber 70 = .ok (.getfield 9, 3) := by decide +kernel
theorem dX4_takeNumber_73 : decode cX4_takeNumber 73 = .ok (.aload_n 0, 1) := by decide +kernel
theorem dX4_takeNumber_74 : decode cX4_takeNumber 74 = .ok (.getfield 22, 3) := by decide +kernel
theorem dX4_takeNumber_77 : decode cX4_takeNumber 77 = .ok (.iaload, 1) := by decide +kernel
theorem dX4_takeNumber_78 : decode cX4_takeNumber 78 = .ok (.bipush 48, 2) := by decide +kernel
theorem dX4_takeNumber_80 : decode cX4_takeNumber 80 = .ok (.if_icmp .ne 20, 3) := by decide +kernel
theorem dX4_takeNumber_83 : decode cX4_takeNumber 83 = .ok (.aload_n 0, 1) := by decide +kernel
theorem dX4_takeNumber_84 : decode cX4_takeNumber 84 = .ok (.getfield 19, 3) := by decide +kernel
theorem dX4_takeNumber_87 : decode cX4_takeNumber 87 = .ok (.aload_n 0, 1) := by decide +kernel
theorem dX4_takeNumber_88 : decode cX4_takeNumber 88 = .ok (.getfield 22, 3) := by decide +kernel
theorem dX4_takeNumber_91 : decode cX4_takeNumber 91 = .ok (.iconst 1, 1) := by decide +kernel
theorem dX4_takeNumber_92 : decode cX4_takeNumber 92 = .ok (.iadd, 1) := by decide +kernel
theorem dX4_takeNumber_93 : decode cX4_takeNumber 93 = .ok (.if_icmp .le 7, 3) := by decide +kernel
theorem dX4_takeNumber_96 : decode cX4_takeNumber 96 = .ok (.iconst 1, 1) := by decide +kernel
theorem dX4_takeNumber_97 : decode cX4_takeNumber 97 = .ok (.goto 4, 3) := by decide +kernel
theorem dX4_takeNumber_100 : decode cX4_takeNumber 100 = .ok (.iconst 0, 1) := by decide +kernel
theorem dX4_takeNumber_101 : decode cX4_takeNumber 101 = .ok (.istore_n 2, 1) := by decide +kernel
theorem dX4_takeNumber_102 : decode cX4_takeNumber 102 = .ok (.aload_n 0, 1) := by decide +kernel
theorem dX4_takeNumber_103 : decode cX4_takeNumber 103 = .ok (.iload_n 2, 1) := by decide +kernel
theorem dX4_takeNumber_104 : decode cX4_takeNumber 104 = .ok (.ifCond .ne 9, 3) := by decide +kernel
theorem dX4_takeNumber_107 : decode cX4_takeNumber 107 = .ok (.iload_n 1, 1) := by decide +kernel
theorem dX4_takeNumber_108 : decode cX4_takeNumber 108 = .ok (.bipush 99, 2) := by decide +kernel
theorem dX4_takeNumber_110 : decode cX4_takeNumber 110 = .ok (.if_icmp .le 7, 3) := by decide +kernel
theorem dX4_takeNumber_113 : decode cX4_takeNumber 113 = .ok (.iconst (-1), 1) := by decide +kernel
theorem dX4_takeNumber_114 : decode cX4_takeNumber 114 = .ok (.goto 4, 3) := by decide +kernel
theorem dX4_takeNumber_117 : decode cX4_takeNumber 117 = .ok (.iload_n 1, 1) := by decide +kernel
theorem dX4_takeNumber_118 : decode cX4_takeNumber 118 = .ok (.putfield 28, 3) := by decide +kernel
theorem dX4_takeNumber_121 : decode cX4_takeNumber 121 = .ok (.return_, 1) := by decide +kernel
theorem dX4_isLetter_0 : decode cX4_isLetter 0 = .ok (.iload_n 0, 1) := by decide +kernel
theorem dX4_isLetter_1 : decode cX4_isLetter 1 = .ok (.bipush 97, 2) := by decide +kernel
theorem dX4_isLetter_3 : decode cX4_isLetter 3 = .ok (.if_icmp .lt 13, 3) := by decide +kernel
theorem dX4_isLetter_6 : decode cX4_isLetter 6 = .ok (.iload_n 0, 1) := by decide +kernel
theorem dX4_isLetter_7 : decode cX4_isLetter 7 = .ok (.bipush 122, 2) := by decide +kernel
theorem dX4_isLetter_9 : decode cX4_isLetter 9 = .ok (.if_icmp .gt 7, 3) := by decide +kernel
theorem dX4_isLetter_12 : decode cX4_isLetter 12 = .ok (.iconst 1, 1) := by decide +kernel
theorem dX4_isLetter_13 : decode cX4_isLetter 13 = .ok (.goto 4, 3) := by decide +kernel
theorem dX4_isLetter_16 : decode cX4_isLetter 16 = .ok (.iconst 0, 1) := by decide +kernel
theorem dX4_isLetter_17 : decode cX4_isLetter 17 = .ok (.ireturn, 1) := by decide +kernel
theorem dX4_isDigit_0 : decode cX4_isDigit 0 = .ok (.iload_n 0, 1) := by decide +kernel
theorem dX4_isDigit_1 : decode cX4_isDigit 1 = .ok (.bipush 48, 2) := by decide +kernel
theorem dX4_isDigit_3 : decode cX4_isDigit 3 = .ok (.if_icmp .lt 13, 3) := by decide +kernel
theorem dX4_isDigit_6 : decode cX4_isDigit 6 = .ok (.iload_n 0, 1) := by decide +kernel
theorem dX4_isDigit_7 : decode cX4_isDigit 7 = .ok (.bipush 57, 2) := by decide +kernel
theorem dX4_isDigit_9 : decode cX4_isDigit 9 = .ok (.if_icmp .gt 7, 3) := by decide +kernel
theorem dX4_isDigit_12 : decode cX4_isDigit 12 = .ok (.iconst 1, 1) := by decide +kernel
theorem dX4_isDigit_13 : decode cX4_isDigit 13 = .ok (.goto 4, 3) := by decide +kernel
theorem dX4_isDigit_16 : decode cX4_isDigit 16 = .ok (.iconst 0, 1) := by decide +kernel
theorem dX4_isDigit_17 : decode cX4_isDigit 17 = .ok (.ireturn, 1) := by decide +kernel
theorem dX5_init_0 : decode cX5_init 0 = .ok (.aload_n 0, 1) := by decide +kernel
theorem dX5_init_1 : decode cX5_init 1 = .ok (.invokespecial 3, 3) := by decide +kernel
theorem dX5_init_4 : decode cX5_init 4 = .ok (.aload_n 0, 1) := by decide +kernel
theorem dX5_init_5 : decode cX5_init 5 = .ok (.bipush 49, 2) := by decide +kernel
theorem dX5_init_7 : decode cX5_init 7 = .ok (.newarray .int, 2) := by decide +kernel
theorem dX5_init_9 : decode cX5_init 9 = .ok (.putfield 9, 3) := by decide +kernel
theorem dX5_init_12 : decode cX5_init 12 = .ok (.aload_n 0, 1) := by decide +kernel
theorem dX5_init_13 : decode cX5_init 13 = .ok (.bipush 7, 2) := by decide +kernel
theorem dX5_init_15 : decode cX5_init 15 = .ok (.newarray .int, 2) := by decide +kernel
theorem dX5_init_17 : decode cX5_init 17 = .ok (.putfield 15, 3) := by decide +kernel
theorem dX5_init_20 : decode cX5_init 20 = .ok (.aload_n 0, 1) := by decide +kernel
theorem dX5_init_21 : decode cX5_init 21 = .ok (.iconst 0, 1) := by decide +kernel
theorem dX5_init_22 : decode cX5_init 22 = .ok (.putfield 18, 3) := by decide +kernel
theorem dX5_init_25 : decode cX5_init 25 = .ok (.aload_n 0, 1) := by decide +kernel
theorem dX5_init_26 : decode cX5_init 26 = .ok (.iconst 0, 1) := by decide +kernel
theorem dX5_init_27 : decode cX5_init 27 = .ok (.putfield 22, 3) := by decide +kernel
theorem dX5_init_30 : decode cX5_init 30 = .ok (.aload_n 0, 1) := by decide +kernel
theorem dX5_init_31 : decode cX5_init 31 = .ok (.iconst 0, 1) := by decide +kernel
theorem dX5_init_32 : decode cX5_init 32 = .ok (.putfield 25, 3) := by decide +kernel
theorem dX5_init_35 : decode cX5_init 35 = .ok (.return_, 1) := by decide +kernel
theorem dX5_strikeAll_0 : decode cX5_strikeAll 0 = .ok (.aload_n 1, 1) := by decide +kernel
theorem dX5_strikeAll_1 : decode cX5_strikeAll 1 = .ok (.iconst 0, 1) := by decide +kernel
theorem dX5_strikeAll_2 : decode cX5_strikeAll 2 = .ok (.aload_n 0, 1) := by decide +kernel
theorem dX5_strikeAll_3 : decode cX5_strikeAll 3 = .ok (.getfield 9, 3) := by decide +kernel
theorem dX5_strikeAll_6 : decode cX5_strikeAll 6 = .ok (.iconst 0, 1) := by decide +kernel
theorem dX5_strikeAll_7 : decode cX5_strikeAll 7 = .ok (.aload_n 0, 1) := by decide +kernel
theorem dX5_strikeAll_8 : decode cX5_strikeAll 8 = .ok (.getfield 9, 3) := by decide +kernel
theorem dX5_strikeAll_11 : decode cX5_strikeAll 11 = .ok (.arraylength, 1) := by decide +kernel
theorem dX5_strikeAll_12 : decode cX5_strikeAll 12 = .ok (.invokestatic 28, 3) := by decide +kernel
theorem dX5_strikeAll_15 : decode cX5_strikeAll 15 = .ok (.aload_n 0, 1) := by decide +kernel
theorem dX5_strikeAll_16 : decode cX5_strikeAll 16 = .ok (.iload_n 2, 1) := by decide +kernel
theorem dX5_strikeAll_17 : decode cX5_strikeAll 17 = .ok (.putfield 22, 3) := by decide +kernel
theorem dX5_strikeAll_20 : decode cX5_strikeAll 20 = .ok (.aload_n 0, 1) := by decide +kernel
theorem dX5_strikeAll_21 : decode cX5_strikeAll 21 = .ok (.iconst 0, 1) := by decide +kernel
theorem dX5_strikeAll_22 : decode cX5_strikeAll 22 = .ok (.putfield 25, 3) := by decide +kernel
theorem dX5_strikeAll_25 : decode cX5_strikeAll 25 = .ok (.iconst 2, 1) := by decide +kernel
theorem dX5_strikeAll_26 : decode cX5_strikeAll 26 = .ok (.istore_n 3, 1) := by decide +kernel
theorem dX5_strikeAll_27 : decode cX5_strikeAll 27 = .ok (.iload_n 3, 1) := by decide +kernel
theorem dX5_strikeAll_28 : decode cX5_strikeAll 28 = .ok (.iload_n 2, 1) := by decide +kernel
theorem dX5_strikeAll_29 : decode cX5_strikeAll 29 = .ok (.if_icmp .gt 46, 3) := by decide +kernel
theorem dX5_strikeAll_32 : decode cX5_strikeAll 32 = .ok (.aload_n 0, 1) := by decide +kernel
theorem dX5_strikeAll_33 : decode cX5_strikeAll 33 = .ok (.iload_n 3, 1) := by decide +kernel
theorem dX5_strikeAll_34 : decode cX5_strikeAll 34 = .ok (.putfield 18, 3) := by decide +kernel
theorem dX5_strikeAll_37 : decode cX5_strikeAll 37 = .ok (.iconst 0, 1) := by decide +kernel
theorem dX5_strikeAll_38 : decode cX5_strikeAll 38 = .ok (.istore 4, 2) := by decide +kernel
theorem dX5_strikeAll_40 : decode cX5_strikeAll 40 = .ok (.iload 4, 2) := by decide +kernel
theorem dX5_strikeAll_42 : decode cX5_strikeAll 42 = .ok (.iload_n 2, 1) := by decide +kernel
theorem dX5_strikeAll_43 : decode cX5_strikeAll 43 = .ok (.if_icmp .ge 26, 3) := by decide +kernel
theorem dX5_strikeAll_46 : decode cX5_strikeAll 46 = .ok (.aload_n 0, 1) := by decide +kernel
theorem dX5_strikeAll_47 : decode cX5_strikeAll 47 = .ok (.getfield 15, 3) := by decide +kernel
theorem dX5_strikeAll_50 : decode cX5_strikeAll 50 = .ok (.iconst 0, 1) := by decide +kernel
theorem dX5_strikeAll_51 : decode cX5_strikeAll 51 = .ok (.iload 4, 2) := by decide +kernel
theorem dX5_strikeAll_53 : decode cX5_strikeAll 53 = .ok (.iastore, 1) := by decide +kernel
theorem dX5_strikeAll_54 : decode cX5_strikeAll 54 = .ok (.aload_n 0, 1) := by decide +kernel
theorem dX5_strikeAll_55 : decode cX5_strikeAll 55 = .ok (.iconst 1, 1) := by decide +kernel
theorem dX5_strikeAll_56 : decode cX5_strikeAll 56 = .ok (.iconst 1, 1) := by decide +kernel
theorem dX5_strikeAll_57 : decode cX5_strikeAll 57 = .ok (.iload 4, 2) := by decide +kernel
theorem dX5_strikeAll_59 : decode cX5_strikeAll 59 = .ok (.ishl, 1) := by decide +kernel
theorem dX5_strikeAll_60 : decode cX5_strikeAll 60 = .ok (.invokestatic 34, 3) := by decide +kernel
theorem dX5_strikeAll_63 : decode cX5_strikeAll 63 = .ok (.iinc 4 1, 3) := by decide +kernel
theorem dX5_strikeAll_66 : decode cX5_strikeAll 66 = .ok (.goto (-26), 3) := by decide +kernel
theorem dX5_strikeAll_69 : decode cX5_strikeAll 69 = .ok (.iinc 3 1, 3) := by decide +kernel
theorem dX5_strikeAll_72 : decode cX5_strikeAll 72 = .ok (.goto (-45), 3) := by decide +kernel
theorem dX5_strikeAll_75 : decode cX5_strikeAll 75 = .ok (.aload_n 0, 1) := by decide +kernel
theorem dX5_strikeAll_76 : decode cX5_strikeAll 76 = .ok (.getfield 25, 3) := by decide +kernel
theorem dX5_strikeAll_79 : decode cX5_strikeAll 79 = .ok (.ireturn, 1) := by decide +kernel
theorem dX5_goOn_0 : decode cX5_goOn 0 = .ok (.iload_n 1, 1) := by decide +kernel
theorem dX5_goOn_1 : decode cX5_goOn 1 = .ok (.aload_n 0, 1) := by decide +kernel
theorem dX5_goOn_2 : decode cX5_goOn 2 = .ok (.getfield 18, 3) := by decide +kernel
theorem dX5_goOn_5 : decode cX5_goOn 5 = .ok (.if_icmp .lt 8, 3) := by decide +kernel
theorem dX5_goOn_8 : decode cX5_goOn 8 = .ok (.aload_n 0, 1) := by decide +kernel
theorem dX5_goOn_9 : decode cX5_goOn 9 = .ok (.invokevirtual 38, 3) := by decide +kernel
theorem dX5_goOn_12 : decode cX5_goOn 12 = .ok (.return_, 1) := by decide +kernel
theorem dX5_goOn_13 : decode cX5_goOn 13 = .ok (.aload_n 0, 1) := by decide +kernel
theorem dX5_goOn_14 : decode cX5_goOn 14 = .ok (.getfield 15, 3) := by decide +kernel
theorem dX5_goOn_17 : decode cX5_goOn 17 = .ok (.iload_n 1, 1) := by decide +kernel
theorem dX5_goOn_18 : decode cX5_goOn 18 = .ok (.iconst 1, 1) := by decide +kernel
theorem dX5_goOn_19 : decode cX5_goOn 19 = .ok (.isub, 1) := by decide +kernel
theorem dX5_goOn_20 : decode cX5_goOn 20 = .ok (.iaload, 1) := by decide +kernel
theorem dX5_goOn_21 : decode cX5_goOn 21 = .ok (.istore_n 3, 1) := by decide +kernel
theorem dX5_goOn_22 : decode cX5_goOn 22 = .ok (.aload_n 0, 1) := by decide +kernel
theorem dX5_goOn_23 : decode cX5_goOn 23 = .ok (.getfield 15, 3) := by decide +kernel
theorem dX5_goOn_26 : decode cX5_goOn 26 = .ok (.iconst 0, 1) := by decide +kernel
theorem dX5_goOn_27 : decode cX5_goOn 27 = .ok (.iaload, 1) := by decide +kernel
theorem dX5_goOn_28 : decode cX5_goOn 28 = .ok (.iconst 1, 1) := by decide +kernel
theorem dX5_goOn_29 : decode cX5_goOn 29 = .ok (.iadd, 1) := by decide +kernel
theorem dX5_goOn_30 : decode cX5_goOn 30 = .ok (.istore 4, 2) := by decide +kernel
theorem dX5_goOn_32 : decode cX5_goOn 32 = .ok (.iload 4, 2) := by decide +kernel
theorem dX5_goOn_34 : decode cX5_goOn 34 = .ok (.aload_n 0, 1) := by decide +kernel
theorem dX5_goOn_35 : decode cX5_goOn 35 = .ok (.getfield 22, 3) := by decide +kernel
theorem dX5_goOn_38 : decode cX5_goOn 38 = .ok (.if_icmp .ge 65, 3) := by decide +kernel
theorem dX5_goOn_41 : decode cX5_goOn 41 = .ok (.iload_n 2, 1) := by decide +kernel
theorem dX5_goOn_42 : decode cX5_goOn 42 = .ok (.iconst 1, 1) := by decide +kernel
theorem dX5_goOn_43 : decode cX5_goOn 43 = .ok (.iload 4, 2) := by decide +kernel
theorem dX5_goOn_45 : decode cX5_goOn 45 = .ok (.ishl, 1) := by decide +kernel
theorem dX5_goOn_46 : decode cX5_goOn 46 = .ok (.iand, 1) := by decide +kernel
theorem dX5_goOn_47 : decode cX5_goOn 47 = .ok (.ifCond .ne 7, 3) := by decide +kernel
theorem dX5_goOn_50 : decode cX5_goOn 50 = .ok (.iconst 1, 1) := by decide +kernel
theorem dX5_goOn_51 : decode cX5_goOn 51 = .ok (.goto 4, 3) := by decide +kernel
theorem dX5_goOn_54 : decode cX5_goOn 54 = .ok (.iconst 0, 1) := by decide +kernel
theorem dX5_goOn_55 : decode cX5_goOn 55 = .ok (.istore 5, 2) := by decide +kernel
theorem dX5_goOn_57 : decode cX5_goOn 57 = .ok (.iload 5, 2) := by decide +kernel
theorem dX5_goOn_59 : decode cX5_goOn 59 = .ok (.ifCond .eq 38, 3) := by decide +kernel
theorem dX5_goOn_62 : decode cX5_goOn 62 = .ok (.aload_n 0, 1) := by decide +kernel
theorem dX5_goOn_63 : decode cX5_goOn 63 = .ok (.getfield 9, 3) := by decide +kernel
theorem dX5_goOn_66 : decode cX5_goOn 66 = .ok (.iload_n 3, 1) := by decide +kernel
theorem dX5_goOn_67 : decode cX5_goOn 67 = .ok (.iload 4, 2) := by decide +kernel
theorem dX5_goOn_69 : decode cX5_goOn 69 = .ok (.invokestatic 41, 3) := by decide +kernel
theorem dX5_goOn_72 : decode cX5_goOn 72 = .ok (.iaload, 1) := by decide +kernel
theorem dX5_goOn_73 : decode cX5_goOn 73 = .ok (.ifCond .le 24, 3) := by decide +kernel
theorem dX5_goOn_76 : decode cX5_goOn 76 = .ok (.aload_n 0, 1) := by decide +kernel
theorem dX5_goOn_77 : decode cX5_goOn 77 = .ok (.getfield 15, 3) := by decide +kernel
theorem dX5_goOn_80 : decode cX5_goOn 80 = .ok (.iload_n 1, 1) := by decide +kernel
theorem dX5_goOn_81 : decode cX5_goOn 81 = .ok (.iload 4, 2) := by decide +kernel
theorem dX5_goOn_83 : decode cX5_goOn 83 = .ok (.iastore, 1) := by decide +kernel
theorem dX5_goOn_84 : decode cX5_goOn 84 = .ok (.aload_n 0, 1) := by decide +kernel
theorem dX5_goOn_85 : decode cX5_goOn 85 = .ok (.iload_n 1, 1) := by decide +kernel
theorem dX5_goOn_86 : decode cX5_goOn 86 = .ok (.iconst 1, 1) := by decide +kernel
theorem dX5_goOn_87 : decode cX5_goOn 87 = .ok (.iadd, 1) := by decide +kernel
theorem dX5_goOn_88 : decode cX5_goOn 88 = .ok (.iload_n 2, 1) := by decide +kernel
theorem dX5_goOn_89 : decode cX5_goOn 89 = .ok (.iconst 1, 1) := by decide +kernel
theorem dX5_goOn_90 : decode cX5_goOn 90 = .ok (.iload 4, 2) := by decide +kernel
theorem dX5_goOn_92 : decode cX5_goOn 92 = .ok (.ishl, 1) := by decide +kernel
theorem dX5_goOn_93 : decode cX5_goOn 93 = .ok (.ior, 1) := by decide +kernel
theorem dX5_goOn_94 : decode cX5_goOn 94 = .ok (.invokestatic 34, 3) := by decide +kernel
theorem dX5_goOn_97 : decode cX5_goOn 97 = .ok (.iinc 4 1, 3) := by decide +kernel
theorem dX5_goOn_100 : decode cX5_goOn 100 = .ok (.goto (-68), 3) := by decide +kernel
theorem dX5_goOn_103 : decode cX5_goOn 103 = .ok (.return_, 1) := by decide +kernel
theorem dX5_strikeRow_0 : decode cX5_strikeRow 0 = .ok (.ldc 45, 2) := by decide +kernel
theorem dX5_strikeRow_2 : decode cX5_strikeRow 2 = .ok (.istore_n 1, 1) := by decide +kernel
theorem dX5_strikeRow_3 : decode cX5_strikeRow 3 = .ok (.iconst 0, 1) := by decide +kernel
theorem dX5_strikeRow_4 : decode cX5_strikeRow 4 = .ok (.istore_n 2, 1) := by decide +kernel
theorem dX5_strikeRow_5 : decode cX5_strikeRow 5 = .ok (.iload_n 2, 1) := by decide +kernel
theorem dX5_strikeRow_6 : decode cX5_strikeRow 6 = .ok (.aload_n 0, 1) := by decide +kernel
theorem dX5_strikeRow_7 : decode cX5_strikeRow 7 = .ok (.getfield 18, 3) := by decide +kernel
theorem dX5_strikeRow_10 : decode cX5_strikeRow 10 = .ok (.if_icmp .ge 24, 3) := by decide +kernel
theorem dX5_strikeRow_13 : decode cX5_strikeRow 13 = .ok (.iload_n 1, 1) := by decide +kernel
theorem dX5_strikeRow_14 : decode cX5_strikeRow 14 = .ok (.aload_n 0, 1) := by decide +kernel
theorem dX5_strikeRow_15 : decode cX5_strikeRow 15 = .ok (.getfield 9, 3) := by decide +kernel
theorem dX5_strikeRow_18 : decode cX5_strikeRow 18 = .ok (.aload_n 0, 1) := by decide +kernel
theorem dX5_strikeRow_19 : decode cX5_strikeRow 19 = .ok (.iload_n 2, 1) := by decide +kernel
theorem dX5_strikeRow_20 : decode cX5_strikeRow 20 = .ok (.invokevirtual 46, 3) := by decide +kernel
theorem dX5_strikeRow_23 : decode cX5_strikeRow 23 = .ok (.iaload, 1) := by decide +kernel
theorem dX5_strikeRow_24 : decode cX5_strikeRow 24 = .ok (.invokestatic 50, 3) := by decide +kernel
theorem dX5_strikeRow_27 : decode cX5_strikeRow 27 = .ok (.istore_n 1, 1) := by decide +kernel
theorem dX5_strikeRow_28 : decode cX5_strikeRow 28 = .ok (.iinc 2 1, 3) := by decide +kernel
theorem dX5_strikeRow_31 : decode cX5_strikeRow 31 = .ok (.goto (-26), 3) := by decide +kernel
theorem dX5_strikeRow_34 : decode cX5_strikeRow 34 = .ok (.iconst 0, 1) := by decide +kernel
theorem dX5_strikeRow_35 : decode cX5_strikeRow 35 = .ok (.istore_n 2, 1) := by decide +kernel
theorem dX5_strikeRow_36 : decode cX5_strikeRow 36 = .ok (.iload_n 2, 1) := by decide +kernel
theorem dX5_strikeRow_37 : decode cX5_strikeRow 37 = .ok (.aload_n 0, 1) := by decide +kernel
theorem dX5_strikeRow_38 : decode cX5_strikeRow 38 = .ok (.getfield 18, 3) := by decide +kernel
theorem dX5_strikeRow_41 : decode cX5_strikeRow 41 = .ok (.if_icmp .ge 23, 3) := by decide +kernel
theorem dX5_strikeRow_44 : decode cX5_strikeRow 44 = .ok (.aload_n 0, 1) := by decide +kernel
theorem dX5_strikeRow_45 : decode cX5_strikeRow 45 = .ok (.getfield 9, 3) := by decide +kernel
theorem dX5_strikeRow_48 : decode cX5_strikeRow 48 = .ok (.aload_n 0, 1) := by decide +kernel
theorem dX5_strikeRow_49 : decode cX5_strikeRow 49 = .ok (.iload_n 2, 1) := by decide +kernel
theorem dX5_strikeRow_50 : decode cX5_strikeRow 50 = .ok (.invokevirtual 46, 3) := by decide +kernel
theorem dX5_strikeRow_53 : decode cX5_strikeRow 53 = .ok (.dup2, 1) := by decide +kernel
theorem dX5_strikeRow_54 : decode cX5_strikeRow 54 = .ok (.iaload, 1) := by decide +kernel
theorem dX5_strikeRow_55 : decode cX5_strikeRow 55 = .ok (.iload_n 1, 1) := by decide +kernel
theorem dX5_strikeRow_56 : decode cX5_strikeRow 56 = .ok (.isub, 1) := by decide +kernel
theorem dX5_strikeRow_57 : decode cX5_strikeRow 57 = .ok (.iastore, 1) := by decide +kernel
theorem dX5_strikeRow_58 : decode cX5_strikeRow 58 = .ok (.iinc 2 1, 3) := by decide +kernel
theorem dX5_strikeRow_61 : decode cX5_strikeRow 61 = .ok (.goto (-25), 3) := by decide +kernel
theorem dX5_strikeRow_64 : decode cX5_strikeRow 64 = .ok (.aload_n 0, 1) := by decide +kernel
theorem dX5_strikeRow_65 : decode cX5_strikeRow 65 = .ok (.dup, 1) := by decide +kernel
theorem dX5_strikeRow_66 : decode cX5_strikeRow 66 = .ok (.getfield 25, 3) := by decide +kernel
theorem dX5_strikeRow_69 : decode cX5_strikeRow 69 = .ok (.iload_n 1, 1) := by decide +kernel
theorem dX5_strikeRow_70 : decode cX5_strikeRow 70 = .ok (.aload_n 0, 1) := by decide +kernel
theorem dX5_strikeRow_71 : decode cX5_strikeRow 71 = .ok (.getfield 18, 3) := by decide +kernel
theorem dX5_strikeRow_74 : decode cX5_strikeRow 74 = .ok (.imul, 1) := by decide +kernel
theorem dX5_strikeRow_75 : decode cX5_strikeRow 75 = .ok (.iadd, 1) := by decide +kernel
theorem dX5_strikeRow_76 : decode cX5_strikeRow 76 = .ok (.putfield 25, 3) := by decide +kernel
theorem dX5_strikeRow_79 : decode cX5_strikeRow 79 = .ok (.return_, 1) := by decide +kernel
theorem dX5_linkAt_0 : decode cX5_linkAt 0 = .ok (.aload_n 0, 1) := by decide +kernel
theorem dX5_linkAt_1 : decode cX5_linkAt 1 = .ok (.getfield 15, 3) := by decide +kernel
theorem dX5_linkAt_4 : decode cX5_linkAt 4 = .ok (.iload_n 1, 1) := by decide +kernel
theorem dX5_linkAt_5 : decode cX5_linkAt 5 = .ok (.iaload, 1) := by decide +kernel
theorem dX5_linkAt_6 : decode cX5_linkAt 6 = .ok (.iload_n 1, 1) := by decide +kernel
theorem dX5_linkAt_7 : decode cX5_linkAt 7 = .ok (.iconst 1, 1) := by decide +kernel
theorem dX5_linkAt_8 : decode cX5_linkAt 8 = .ok (.iadd, 1) := by decide +kernel
theorem dX5_linkAt_9 : decode cX5_linkAt 9 = .ok (.aload_n 0, 1) := by decide +kernel
theorem dX5_linkAt_10 : decode cX5_linkAt 10 = .ok (.getfield 18, 3) := by decide +kernel
theorem dX5_linkAt_13 : decode cX5_linkAt 13 = .ok (.if_icmp .ge 14, 3) := by decide +kernel
theorem dX5_linkAt_16 : decode cX5_linkAt 16 = .ok (.aload_n 0, 1) := by decide +kernel
theorem dX5_linkAt_17 : decode cX5_linkAt 17 = .ok (.getfield 15, 3) := by decide +kernel
theorem dX5_linkAt_20 : decode cX5_linkAt 20 = .ok (.iload_n 1, 1) := by decide +kernel
theorem dX5_linkAt_21 : decode cX5_linkAt 21 = .ok (.iconst 1, 1) := by decide +kernel
theorem dX5_linkAt_22 : decode cX5_linkAt 22 = .ok (.iadd, 1) := by decide +kernel
theorem dX5_linkAt_23 : decode cX5_linkAt 23 = .ok (.iaload, 1) := by decide +kernel
theorem dX5_linkAt_24 : decode cX5_linkAt 24 = .ok (.goto 9, 3) := by decide +kernel
theorem dX5_linkAt_27 : decode cX5_linkAt 27 = .ok (.aload_n 0, 1) := by decide +kernel
theorem dX5_linkAt_28 : decode cX5_linkAt 28 = .ok (.getfield 15, 3) := by decide +kernel
theorem dX5_linkAt_31 : decode cX5_linkAt 31 = .ok (.iconst 0, 1) := by decide +kernel
theorem dX5_linkAt_32 : decode cX5_linkAt 32 = .ok (.iaload, 1) := by decide +kernel
theorem dX5_linkAt_33 : decode cX5_linkAt 33 = .ok (.invokestatic 41, 3) := by decide +kernel
theorem dX5_linkAt_36 : decode cX5_linkAt 36 = .ok (.ireturn, 1) := by decide +kernel
theorem dX6_init_0 : decode cX6_init 0 = .ok (.aload_n 0, 1) := by decide +kernel
theorem dX6_init_1 : decode cX6_init 1 = .ok (.invokespecial 3, 3) := by decide +kernel
theorem dX6_init_4 : decode cX6_init 4 = .ok (.aload_n 0, 1) := by decide +kernel
theorem dX6_init_5 : decode cX6_init 5 = .ok (.bipush 11, 2) := by decide +kernel
theorem dX6_init_7 : decode cX6_init 7 = .ok (.newarray .int, 2) := by decide +kernel
theorem dX6_init_9 : decode cX6_init 9 = .ok (.putfield 11, 3) := by decide +kernel
theorem dX6_init_12 : decode cX6_init 12 = .ok (.aload_n 0, 1) := by decide +kernel
theorem dX6_init_13 : decode cX6_init 13 = .ok (.iconst 0, 1) := by decide +kernel
theorem dX6_init_14 : decode cX6_init 14 = .ok (.putfield 15, 3) := by decide +kernel
theorem dX6_init_17 : decode cX6_init 17 = .ok (.aload_n 0, 1) := by decide +kernel
theorem dX6_init_18 : decode cX6_init 18 = .ok (.iconst 0, 1) := by decide +kernel
theorem dX6_init_19 : decode cX6_init 19 = .ok (.putfield 19, 3) := by decide +kernel
theorem dX6_init_22 : decode cX6_init 22 = .ok (.aload_n 0, 1) := by decide +kernel
theorem dX6_init_23 : decode cX6_init 23 = .ok (.iconst 0, 1) := by decide +kernel
theorem dX6_init_24 : decode cX6_init 24 = .ok (.putfield 22, 3) := by decide +kernel
theorem dX6_init_27 : decode cX6_init 27 = .ok (.return_, 1) := by decide +kernel
theorem dX6_search_0 : decode cX6_search 0 = .ok (.aload_n 0, 1) := by decide +kernel
theorem dX6_search_1 : decode cX6_search 1 = .ok (.iconst 0, 1) := by decide +kernel
theorem dX6_search_2 : decode cX6_search 2 = .ok (.putfield 15, 3) := by decide +kernel
theorem dX6_search_5 : decode cX6_search 5 = .ok (.aload_n 0, 1) := by decide +kernel
theorem dX6_search_6 : decode cX6_search 6 = .ok (.bipush 31, 2) := by decide +kernel
theorem dX6_search_8 : decode cX6_search 8 = .ok (.putfield 19, 3) := by decide +kernel
theorem dX6_search_11 : decode cX6_search 11 = .ok (.aload_n 0, 1) := by decide +kernel
theorem dX6_search_12 : decode cX6_search 12 = .ok (.iconst 0, 1) := by decide +kernel
theorem dX6_search_13 : decode cX6_search 13 = .ok (.putfield 22, 3) := by decide +kernel
theorem dX6_search_16 : decode cX6_search 16 = .ok (.aload_n 0, 1) := by decide +kernel
theorem dX6_search_17 : decode cX6_search 17 = .ok (.aload_n 1, 1) := by decide +kernel
theorem dX6_search_18 : decode cX6_search 18 = .ok (.iconst 0, 1) := by decide +kernel
theorem dX6_search_19 : decode cX6_search 19 = .ok (.iload_n 2, 1) := by decide +kernel
theorem dX6_search_20 : decode cX6_search 20 = .ok (.iload_n 3, 1) := by decide +kernel
theorem dX6_search_21 : decode cX6_search 21 = .ok (.iload 4, 2) := by decide +kernel
theorem dX6_search_23 : decode cX6_search 23 = .ok (.iconst 0, 1) := by decide +kernel
theorem dX6_search_24 : decode cX6_search 24 = .ok (.invokestatic 25, 3) := by decide +kernel
theorem dX6_search_27 : decode cX6_search 27 = .ok (.return_, 1) := by decide +kernel
theorem dX6_accuse_0 : decode cX6_accuse 0 = .ok (.iload_n 2, 1) := by decide +kernel
theorem dX6_accuse_1 : decode cX6_accuse 1 = .ok (.aload_n 1, 1) := by decide +kernel
theorem dX6_accuse_2 : decode cX6_accuse 2 = .ok (.getfield 29, 3) := by decide +kernel
theorem dX6_accuse_5 : decode cX6_accuse 5 = .ok (.if_icmp .lt 24, 3) := by decide +kernel
theorem dX6_accuse_8 : decode cX6_accuse 8 = .ok (.iload_n 3, 1) := by decide +kernel
theorem dX6_accuse_9 : decode cX6_accuse 9 = .ok (.ifCond .ne 19, 3) := by decide +kernel
theorem dX6_accuse_12 : decode cX6_accuse 12 = .ok (.iload 4, 2) := by decide +kernel
theorem dX6_accuse_14 : decode cX6_accuse 14 = .ok (.ifCond .ne 14, 3) := by decide +kernel
theorem dX6_accuse_17 : decode cX6_accuse 17 = .ok (.iload 5, 2) := by decide +kernel
theorem dX6_accuse_19 : decode cX6_accuse 19 = .ok (.ifCond .ne 9, 3) := by decide +kernel
theorem dX6_accuse_22 : decode cX6_accuse 22 = .ok (.aload_n 0, 1) := by decide +kernel
theorem dX6_accuse_23 : decode cX6_accuse 23 = .ok (.iload 6, 2) := by decide +kernel
theorem dX6_accuse_25 : decode cX6_accuse 25 = .ok (.invokevirtual 34, 3) := by decide +kernel
theorem dX6_accuse_28 : decode cX6_accuse 28 = .ok (.return_, 1) := by decide +kernel
theorem dX6_accuse_29 : decode cX6_accuse 29 = .ok (.iconst 0, 1) := by decide +kernel
theorem dX6_accuse_30 : decode cX6_accuse 30 = .ok (.istore 7, 2) := by decide +kernel
theorem dX6_accuse_32 : decode cX6_accuse 32 = .ok (.iload 7, 2) := by decide +kernel
theorem dX6_accuse_34 : decode cX6_accuse 34 = .ok (.iload_n 3, 1) := by decide +kernel
theorem dX6_accuse_35 : decode cX6_accuse 35 = .ok (.if_icmp .gt 72, 3) := by decide +kernel
theorem dX6_accuse_38 : decode cX6_accuse 38 = .ok (.iload 4, 2) := by decide +kernel
theorem dX6_accuse_40 : decode cX6_accuse 40 = .ok (.iload 7, 2) := by decide +kernel
theorem dX6_accuse_42 : decode cX6_accuse 42 = .ok (.aload_n 1, 1) := by decide +kernel
theorem dX6_accuse_43 : decode cX6_accuse 43 = .ok (.iload_n 2, 1) := by decide +kernel
theorem dX6_accuse_44 : decode cX6_accuse 44 = .ok (.invokevirtual 38, 3) := by decide +kernel
theorem dX6_accuse_47 : decode cX6_accuse 47 = .ok (.imul, 1) := by decide +kernel
theorem dX6_accuse_48 : decode cX6_accuse 48 = .ok (.isub, 1) := by decide +kernel
theorem dX6_accuse_49 : decode cX6_accuse 49 = .ok (.istore 8, 2) := by decide +kernel
theorem dX6_accuse_51 : decode cX6_accuse 51 = .ok (.iload 5, 2) := by decide +kernel
theorem dX6_accuse_53 : decode cX6_accuse 53 = .ok (.iload 7, 2) := by decide +kernel
theorem dX6_accuse_55 : decode cX6_accuse 55 = .ok (.aload_n 1, 1) := by decide +kernel
theorem dX6_accuse_56 : decode cX6_accuse 56 = .ok (.getfield 42, 3) := by decide +kernel
theorem dX6_accuse_59 : decode cX6_accuse 59 = .ok (.iload_n 2, 1) := by decide +kernel
theorem dX6_accuse_60 : decode cX6_accuse 60 = .ok (.iaload, 1) := by decide +kernel
theorem dX6_accuse_61 : decode cX6_accuse 61 = .ok (.imul, 1) := by decide +kernel
theorem dX6_accuse_62 : decode cX6_accuse 62 = .ok (.isub, 1) := by decide +kernel
theorem dX6_accuse_63 : decode cX6_accuse 63 = .ok (.istore 9, 2) := by decide +kernel
theorem dX6_accuse_65 : decode cX6_accuse 65 = .ok (.iload 7, 2) := by decide +kernel
theorem dX6_accuse_67 : decode cX6_accuse 67 = .ok (.ifCond .ne 8, 3) := by decide +kernel
theorem dX6_accuse_70 : decode cX6_accuse 70 = .ok (.iload 6, 2) := by decide +kernel
theorem dX6_accuse_72 : decode cX6_accuse 72 = .ok (.goto 9, 3) := by decide +kernel
theorem dX6_accuse_75 : decode cX6_accuse 75 = .ok (.iload 6, 2) := by decide +kernel
theorem dX6_accuse_77 : decode cX6_accuse 77 = .ok (.iconst 1, 1) := by decide +kernel
theorem dX6_accuse_78 : decode cX6_accuse 78 = .ok (.iload_n 2, 1) := by decide +kernel
theorem dX6_accuse_79 : decode cX6_accuse 79 = .ok (.ishl, 1) := by decide +kernel
theorem dX6_accuse_80 : decode cX6_accuse 80 = .ok (.ior, 1) := by decide +kernel
theorem dX6_accuse_81 : decode cX6_accuse 81 = .ok (.istore 10, 2) := by decide +kernel
theorem dX6_accuse_83 : decode cX6_accuse 83 = .ok (.aload_n 0, 1) := by decide +kernel
theorem dX6_accuse_84 : decode cX6_accuse 84 = .ok (.aload_n 1, 1) := by decide +kernel
theorem dX6_accuse_85 : decode cX6_accuse 85 = .ok (.iload_n 2, 1) := by decide +kernel
theorem dX6_accuse_86 : decode cX6_accuse 86 = .ok (.iconst 1, 1) := by decide +kernel
theorem dX6_accuse_87 : decode cX6_accuse 87 = .ok (.iadd, 1) := by decide +kernel
theorem dX6_accuse_88 : decode cX6_accuse 88 = .ok (.iload_n 3, 1) := by decide +kernel
theorem dX6_accuse_89 : decode cX6_accuse 89 = .ok (.iload 7, 2) := by decide +kernel
theorem dX6_accuse_91 : decode cX6_accuse 91 = .ok (.isub, 1) := by decide +kernel
