theorem dX8_init_0 : decode cX8_init 0 = .ok (.aload_n 0, 1) := by decide +kernel
theorem dX8_init_1 : decode cX8_init 1 = .ok (.invokespecial 1, 3) := by decide +kernel
theorem dX8_init_4 : decode cX8_init 4 = .ok (.aload_n 0, 1) := by decide +kernel
theorem dX8_init_5 : decode cX8_init 5 = .ok (.new 7, 3) := by decide +kernel
theorem dX8_init_8 : decode cX8_init 8 = .ok (.dup, 1) := by decide +kernel
theorem dX8_init_9 : decode cX8_init 9 = .ok (.invokespecial 9, 3) := by decide +kernel
theorem dX8_init_12 : decode cX8_init 12 = .ok (.putfield 10, 3) := by decide +kernel
theorem dX8_init_15 : decode cX8_init 15 = .ok (.aload_n 0, 1) := by decide +kernel
theorem dX8_init_16 : decode cX8_init 16 = .ok (.new 16, 3) := by decide +kernel
theorem dX8_init_19 : decode cX8_init 19 = .ok (.dup, 1) := by decide +kernel
theorem dX8_init_20 : decode cX8_init 20 = .ok (.invokespecial 18, 3) := by decide +kernel
theorem dX8_init_23 : decode cX8_init 23 = .ok (.putfield 19, 3) := by decide +kernel
theorem dX8_init_26 : decode cX8_init 26 = .ok (.aload_n 0, 1) := by decide +kernel
theorem dX8_init_27 : decode cX8_init 27 = .ok (.iconst 2, 1) := by decide +kernel
theorem dX8_init_28 : decode cX8_init 28 = .ok (.anewarray 16, 3) := by decide +kernel
theorem dX8_init_31 : decode cX8_init 31 = .ok (.putfield 23, 3) := by decide +kernel
theorem dX8_init_34 : decode cX8_init 34 = .ok (.iconst 0, 1) := by decide +kernel
theorem dX8_init_35 : decode cX8_init 35 = .ok (.istore_n 1, 1) := by decide +kernel
theorem dX8_init_36 : decode cX8_init 36 = .ok (.iload_n 1, 1) := by decide +kernel
theorem dX8_init_37 : decode cX8_init 37 = .ok (.iconst 2, 1) := by decide +kernel
theorem dX8_init_38 : decode cX8_init 38 = .ok (.if_icmp .ge 22, 3) := by decide +kernel
theorem dX8_init_41 : decode cX8_init 41 = .ok (.aload_n 0, 1) := by decide +kernel
theorem dX8_init_42 : decode cX8_init 42 = .ok (.getfield 23, 3) := by decide +kernel
theorem dX8_init_45 : decode cX8_init 45 = .ok (.iload_n 1, 1) := by decide +kernel
theorem dX8_init_46 : decode cX8_init 46 = .ok (.new 16, 3) := by decide +kernel
theorem dX8_init_49 : decode cX8_init 49 = .ok (.dup, 1) := by decide +kernel
theorem dX8_init_50 : decode cX8_init 50 = .ok (.invokespecial 18, 3) := by decide +kernel
theorem dX8_init_53 : decode cX8_init 53 = .ok (.aastore, 1) := by decide +kernel
theorem dX8_init_54 : decode cX8_init 54 = .ok (.iinc 1 1, 3) := by decide +kernel
theorem dX8_init_57 : decode cX8_init 57 = .ok (.goto (-21), 3) := by decide +kernel
theorem dX8_init_60 : decode cX8_init 60 = .ok (.aload_n 0, 1) := by decide +kernel
theorem dX8_init_61 : decode cX8_init 61 = .ok (.iconst 2, 1) := by decide +kernel
theorem dX8_init_62 : decode cX8_init 62 = .ok (.newarray .boolean, 2) := by decide +kernel
theorem dX8_init_64 : decode cX8_init 64 = .ok (.putfield 27, 3) := by decide +kernel
theorem dX8_init_67 : decode cX8_init 67 = .ok (.aload_n 0, 1) := by decide +kernel
theorem dX8_init_68 : decode cX8_init 68 = .ok (.new 31, 3) := by decide +kernel
theorem dX8_init_71 : decode cX8_init 71 = .ok (.dup, 1) := by decide +kernel
theorem dX8_init_72 : decode cX8_init 72 = .ok (.invokespecial 33, 3) := by decide +kernel
theorem dX8_init_75 : decode cX8_init 75 = .ok (.putfield 34, 3) := by decide +kernel
theorem dX8_init_78 : decode cX8_init 78 = .ok (.aload_n 0, 1) := by decide +kernel
theorem dX8_init_79 : decode cX8_init 79 = .ok (.new 38, 3) := by decide +kernel
theorem dX8_init_82 : decode cX8_init 82 = .ok (.dup, 1) := by decide +kernel
theorem dX8_init_83 : decode cX8_init 83 = .ok (.invokespecial 40, 3) := by decide +kernel
theorem dX8_init_86 : decode cX8_init 86 = .ok (.putfield 41, 3) := by decide +kernel
theorem dX8_init_89 : decode cX8_init 89 = .ok (.aload_n 0, 1) := by decide +kernel
theorem dX8_init_90 : decode cX8_init 90 = .ok (.new 45, 3) := by decide +kernel
theorem dX8_init_93 : decode cX8_init 93 = .ok (.dup, 1) := by decide +kernel
theorem dX8_init_94 : decode cX8_init 94 = .ok (.invokespecial 47, 3) := by decide +kernel
theorem dX8_init_97 : decode cX8_init 97 = .ok (.putfield 48, 3) := by decide +kernel
theorem dX8_init_100 : decode cX8_init 100 = .ok (.aload_n 0, 1) := by decide +kernel
theorem dX8_init_101 : decode cX8_init 101 = .ok (.new 52, 3) := by decide +kernel
theorem dX8_init_104 : decode cX8_init 104 = .ok (.dup, 1) := by decide +kernel
theorem dX8_init_105 : decode cX8_init 105 = .ok (.invokespecial 54, 3) := by decide +kernel
theorem dX8_init_108 : decode cX8_init 108 = .ok (.putfield 55, 3) := by decide +kernel
theorem dX8_init_111 : decode cX8_init 111 = .ok (.aload_n 0, 1) := by decide +kernel
theorem dX8_init_112 : decode cX8_init 112 = .ok (.new 59, 3) := by decide +kernel
theorem dX8_init_115 : decode cX8_init 115 = .ok (.dup, 1) := by decide +kernel
theorem dX8_init_116 : decode cX8_init 116 = .ok (.invokespecial 61, 3) := by decide +kernel
theorem dX8_init_119 : decode cX8_init 119 = .ok (.putfield 62, 3) := by decide +kernel
theorem dX8_init_122 : decode cX8_init 122 = .ok (.aload_n 0, 1) := by decide +kernel
theorem dX8_init_123 : decode cX8_init 123 = .ok (.new 59, 3) := by decide +kernel
theorem dX8_init_126 : decode cX8_init 126 = .ok (.dup, 1) := by decide +kernel
theorem dX8_init_127 : decode cX8_init 127 = .ok (.invokespecial 61, 3) := by decide +kernel
theorem dX8_init_130 : decode cX8_init 130 = .ok (.putfield 66, 3) := by decide +kernel
theorem dX8_init_133 : decode cX8_init 133 = .ok (.return_, 1) := by decide +kernel
theorem dX8_type_0 : decode cX8_type 0 = .ok (.iload_n 1, 1) := by decide +kernel
theorem dX8_type_1 : decode cX8_type 1 = .ok (.ifCond .lt 10, 3) := by decide +kernel
theorem dX8_type_4 : decode cX8_type 4 = .ok (.iload_n 1, 1) := by decide +kernel
theorem dX8_type_5 : decode cX8_type 5 = .ok (.sipush 255, 3) := by decide +kernel
theorem dX8_type_8 : decode cX8_type 8 = .ok (.if_icmp .le 5, 3) := by decide +kernel
theorem dX8_type_11 : decode cX8_type 11 = .ok (.iconst (-1), 1) := by decide +kernel
theorem dX8_type_12 : decode cX8_type 12 = .ok (.ireturn, 1) := by decide +kernel
theorem dX8_type_13 : decode cX8_type 13 = .ok (.aload_n 0, 1) := by decide +kernel
theorem dX8_type_14 : decode cX8_type 14 = .ok (.getfield 10, 3) := by decide +kernel
theorem dX8_type_17 : decode cX8_type 17 = .ok (.iload_n 1, 1) := by decide +kernel
theorem dX8_type_18 : decode cX8_type 18 = .ok (.invokevirtual 69, 3) := by decide +kernel
theorem dX8_type_21 : decode cX8_type 21 = .ok (.ifCond .eq 13, 3) := by decide +kernel
theorem dX8_type_24 : decode cX8_type 24 = .ok (.aload_n 0, 1) := by decide +kernel
theorem dX8_type_25 : decode cX8_type 25 = .ok (.getfield 10, 3) := by decide +kernel
theorem dX8_type_28 : decode cX8_type 28 = .ok (.getfield 73, 3) := by decide +kernel
theorem dX8_type_31 : decode cX8_type 31 = .ok (.goto 5, 3) := by decide +kernel
theorem dX8_type_34 : decode cX8_type 34 = .ok (.bipush (-3), 2) := by decide +kernel
theorem dX8_type_36 : decode cX8_type 36 = .ok (.ireturn, 1) := by decide +kernel
theorem dX8_clear_0 : decode cX8_clear 0 = .ok (.aload_n 0, 1) := by decide +kernel
theorem dX8_clear_1 : decode cX8_clear 1 = .ok (.getfield 10, 3) := by decide +kernel
theorem dX8_clear_4 : decode cX8_clear 4 = .ok (.getfield 73, 3) := by decide +kernel
theorem dX8_clear_7 : decode cX8_clear 7 = .ok (.istore_n 1, 1) := by decide +kernel
theorem dX8_clear_8 : decode cX8_clear 8 = .ok (.aload_n 0, 1) := by decide +kernel
theorem dX8_clear_9 : decode cX8_clear 9 = .ok (.getfield 10, 3) := by decide +kernel
theorem dX8_clear_12 : decode cX8_clear 12 = .ok (.invokevirtual 77, 3) := by decide +kernel
theorem dX8_clear_15 : decode cX8_clear 15 = .ok (.iload_n 1, 1) := by decide +kernel
theorem dX8_clear_16 : decode cX8_clear 16 = .ok (.ireturn, 1) := by decide +kernel
theorem dX8_house_0 : decode cX8_house 0 = .ok (.aload_n 0, 1) := by decide +kernel
theorem dX8_house_1 : decode cX8_house 1 = .ok (.getfield 10, 3) := by decide +kernel
theorem dX8_house_4 : decode cX8_house 4 = .ok (.aload_n 0, 1) := by decide +kernel
theorem dX8_house_5 : decode cX8_house 5 = .ok (.getfield 66, 3) := by decide +kernel
theorem dX8_house_8 : decode cX8_house 8 = .ok (.invokevirtual 80, 3) := by decide +kernel
theorem dX8_house_11 : decode cX8_house 11 = .ok (.istore_n 1, 1) := by decide +kernel
theorem dX8_house_12 : decode cX8_house 12 = .ok (.iload_n 1, 1) := by decide +kernel
theorem dX8_house_13 : decode cX8_house 13 = .ok (.ifCond .ge 5, 3) := by decide +kernel
theorem dX8_house_16 : decode cX8_house 16 = .ok (.iload_n 1, 1) := by decide +kernel
theorem dX8_house_17 : decode cX8_house 17 = .ok (.ireturn, 1) := by decide +kernel
theorem dX8_house_18 : decode cX8_house 18 = .ok (.aload_n 0, 1) := by decide +kernel
theorem dX8_house_19 : decode cX8_house 19 = .ok (.getfield 66, 3) := by decide +kernel
theorem dX8_house_22 : decode cX8_house 22 = .ok (.astore_n 2, 1) := by decide +kernel
theorem dX8_house_23 : decode cX8_house 23 = .ok (.aload_n 0, 1) := by decide +kernel
theorem dX8_house_24 : decode cX8_house 24 = .ok (.aload_n 0, 1) := by decide +kernel
theorem dX8_house_25 : decode cX8_house 25 = .ok (.getfield 62, 3) := by decide +kernel
theorem dX8_house_28 : decode cX8_house 28 = .ok (.putfield 66, 3) := by decide +kernel
theorem dX8_house_31 : decode cX8_house 31 = .ok (.aload_n 0, 1) := by decide +kernel
theorem dX8_house_32 : decode cX8_house 32 = .ok (.aload_n 2, 1) := by decide +kernel
theorem dX8_house_33 : decode cX8_house 33 = .ok (.putfield 62, 3) := by decide +kernel
theorem dX8_house_36 : decode cX8_house 36 = .ok (.aload_n 0, 1) := by decide +kernel
theorem dX8_house_37 : decode cX8_house 37 = .ok (.getfield 10, 3) := by decide +kernel
theorem dX8_house_40 : decode cX8_house 40 = .ok (.invokevirtual 77, 3) := by decide +kernel
theorem dX8_house_43 : decode cX8_house 43 = .ok (.aload_n 0, 1) := by decide +kernel
theorem dX8_house_44 : decode cX8_house 44 = .ok (.getfield 19, 3) := by decide +kernel
theorem dX8_house_47 : decode cX8_house 47 = .ok (.aload_n 0, 1) := by decide +kernel
theorem dX8_house_48 : decode cX8_house 48 = .ok (.getfield 62, 3) := by decide +kernel
theorem dX8_house_51 : decode cX8_house 51 = .ok (.invokevirtual 84, 3) := by decide +kernel
theorem dX8_house_54 : decode cX8_house 54 = .ok (.iconst 0, 1) := by decide +kernel
theorem dX8_house_55 : decode cX8_house 55 = .ok (.istore_n 3, 1) := by decide +kernel
theorem dX8_house_56 : decode cX8_house 56 = .ok (.iload_n 3, 1) := by decide +kernel
theorem dX8_house_57 : decode cX8_house 57 = .ok (.iconst 2, 1) := by decide +kernel
theorem dX8_house_58 : decode cX8_house 58 = .ok (.if_icmp .ge 16, 3) := by decide +kernel
theorem dX8_house_61 : decode cX8_house 61 = .ok (.aload_n 0, 1) := by decide +kernel
theorem dX8_house_62 : decode cX8_house 62 = .ok (.getfield 27, 3) := by decide +kernel
theorem dX8_house_65 : decode cX8_house 65 = .ok (.iload_n 3, 1) := by decide +kernel
theorem dX8_house_66 : decode cX8_house 66 = .ok (.iconst 0, 1) := by decide +kernel
theorem dX8_house_67 : decode cX8_house 67 = .ok (.bastore, 1) := by decide +kernel
theorem dX8_house_68 : decode cX8_house 68 = .ok (.iinc 3 1, 3) := by decide +kernel
theorem dX8_house_71 : decode cX8_house 71 = .ok (.goto (-15), 3) := by decide +kernel
theorem dX8_house_74 : decode cX8_house 74 = .ok (.iload_n 1, 1) := by decide +kernel
theorem dX8_house_75 : decode cX8_house 75 = .ok (.ireturn, 1) := by decide +kernel
theorem dX8_stair_0 : decode cX8_stair 0 = .ok (.aload_n 0, 1) := by decide +kernel
theorem dX8_stair_1 : decode cX8_stair 1 = .ok (.getfield 62, 3) := by decide +kernel
theorem dX8_stair_4 : decode cX8_stair 4 = .ok (.iload_n 1, 1) := by decide +kernel
theorem dX8_stair_5 : decode cX8_stair 5 = .ok (.invokevirtual 88, 3) := by decide +kernel
theorem dX8_stair_8 : decode cX8_stair 8 = .ok (.ifCond .ne 5, 3) := by decide +kernel
theorem dX8_stair_11 : decode cX8_stair 11 = .ok (.iconst (-1), 1) := by decide +kernel
theorem dX8_stair_12 : decode cX8_stair 12 = .ok (.ireturn, 1) := by decide +kernel
theorem dX8_stair_13 : decode cX8_stair 13 = .ok (.iload_n 2, 1) := by decide +kernel
theorem dX8_stair_14 : decode cX8_stair 14 = .ok (.tableswitch 114 0 6 #[42, 52, 62, 72, 82, 95, 108], 42) := by decide +kernel
theorem dX8_stair_56 : decode cX8_stair 56 = .ok (.aload_n 0, 1) := by decide +kernel
theorem dX8_stair_57 : decode cX8_stair 57 = .ok (.getfield 62, 3) := by decide +kernel
theorem dX8_stair_60 : decode cX8_stair 60 = .ok (.getfield 91, 3) := by decide +kernel
theorem dX8_stair_63 : decode cX8_stair 63 = .ok (.iload_n 1, 1) := by decide +kernel
theorem dX8_stair_64 : decode cX8_stair 64 = .ok (.iaload, 1) := by decide +kernel
theorem dX8_stair_65 : decode cX8_stair 65 = .ok (.ireturn, 1) := by decide +kernel
theorem dX8_stair_66 : decode cX8_stair 66 = .ok (.aload_n 0, 1) := by decide +kernel
theorem dX8_stair_67 : decode cX8_stair 67 = .ok (.getfield 62, 3) := by decide +kernel
theorem dX8_stair_70 : decode cX8_stair 70 = .ok (.getfield 95, 3) := by decide +kernel
theorem dX8_stair_73 : decode cX8_stair 73 = .ok (.iload_n 1, 1) := by decide +kernel
theorem dX8_stair_74 : decode cX8_stair 74 = .ok (.iaload, 1) := by decide +kernel
theorem dX8_stair_75 : decode cX8_stair 75 = .ok (.ireturn, 1) := by decide +kernel
theorem dX8_stair_76 : decode cX8_stair 76 = .ok (.aload_n 0, 1) := by decide +kernel
theorem dX8_stair_77 : decode cX8_stair 77 = .ok (.getfield 62, 3) := by decide +kernel
theorem dX8_stair_80 : decode cX8_stair 80 = .ok (.getfield 98, 3) := by decide +kernel
theorem dX8_stair_83 : decode cX8_stair 83 = .ok (.iload_n 1, 1) := by decide +kernel
theorem dX8_stair_84 : decode cX8_stair 84 = .ok (.iaload, 1) := by decide +kernel
theorem dX8_stair_85 : decode cX8_stair 85 = .ok (.ireturn, 1) := by decide +kernel
theorem dX8_stair_86 : decode cX8_stair 86 = .ok (.aload_n 0, 1) := by decide +kernel
theorem dX8_stair_87 : decode cX8_stair 87 = .ok (.getfield 62, 3) := by decide +kernel
theorem dX8_stair_90 : decode cX8_stair 90 = .ok (.getfield 101, 3) := by decide +kernel
theorem dX8_stair_93 : decode cX8_stair 93 = .ok (.iload_n 1, 1) := by decide +kernel
theorem dX8_stair_94 : decode cX8_stair 94 = .ok (.iaload, 1) := by decide +kernel
theorem dX8_stair_95 : decode cX8_stair 95 = .ok (.ireturn, 1) := by decide +kernel
theorem dX8_stair_96 : decode cX8_stair 96 = .ok (.aload_n 0, 1) := by decide +kernel
theorem dX8_stair_97 : decode cX8_stair 97 = .ok (.getfield 19, 3) := by decide +kernel
theorem dX8_stair_100 : decode cX8_stair 100 = .ok (.getfield 104, 3) := by decide +kernel
theorem dX8_stair_103 : decode cX8_stair 103 = .ok (.getfield 108, 3) := by decide +kernel
theorem dX8_stair_106 : decode cX8_stair 106 = .ok (.iload_n 1, 1) := by decide +kernel
theorem dX8_stair_107 : decode cX8_stair 107 = .ok (.iaload, 1) := by decide +kernel
theorem dX8_stair_108 : decode cX8_stair 108 = .ok (.ireturn, 1) := by decide +kernel
theorem dX8_stair_109 : decode cX8_stair 109 = .ok (.aload_n 0, 1) := by decide +kernel
theorem dX8_stair_110 : decode cX8_stair 110 = .ok (.getfield 19, 3) := by decide +kernel
theorem dX8_stair_113 : decode cX8_stair 113 = .ok (.getfield 104, 3) := by decide +kernel
theorem dX8_stair_116 : decode cX8_stair 116 = .ok (.getfield 113, 3) := by decide +kernel
theorem dX8_stair_119 : decode cX8_stair 119 = .ok (.iload_n 1, 1) := by decide +kernel
theorem dX8_stair_120 : decode cX8_stair 120 = .ok (.iaload, 1) := by decide +kernel
theorem dX8_stair_121 : decode cX8_stair 121 = .ok (.ireturn, 1) := by decide +kernel
theorem dX8_stair_122 : decode cX8_stair 122 = .ok (.aload_n 0, 1) := by decide +kernel
theorem dX8_stair_123 : decode cX8_stair 123 = .ok (.iload_n 1, 1) := by decide +kernel
theorem dX8_stair_124 : decode cX8_stair 124 = .ok (.invokevirtual 116, 3) := by decide +kernel
theorem dX8_stair_127 : decode cX8_stair 127 = .ok (.ireturn, 1) := by decide +kernel
theorem dX8_stair_128 : decode cX8_stair 128 = .ok (.iconst (-1), 1) := by decide +kernel
theorem dX8_stair_129 : decode cX8_stair 129 = .ok (.ireturn, 1) := by decide +kernel
theorem dX8_person_0 : decode cX8_person 0 = .ok (.aload_n 0, 1) := by decide +kernel
theorem dX8_person_1 : decode cX8_person 1 = .ok (.getfield 62, 3) := by decide +kernel
theorem dX8_person_4 : decode cX8_person 4 = .ok (.iload_n 1, 1) := by decide +kernel
theorem dX8_person_5 : decode cX8_person 5 = .ok (.invokevirtual 120, 3) := by decide +kernel
theorem dX8_person_8 : decode cX8_person 8 = .ok (.ifCond .ne 5, 3) := by decide +kernel
theorem dX8_person_11 : decode cX8_person 11 = .ok (.iconst (-1), 1) := by decide +kernel
theorem dX8_person_12 : decode cX8_person 12 = .ok (.ireturn, 1) := by decide +kernel
theorem dX8_person_13 : decode cX8_person 13 = .ok (.iload_n 2, 1) := by decide +kernel
theorem dX8_person_14 : decode cX8_person 14 = .ok (.tableswitch 56 0 2 #[26, 36, 46], 26) := by decide +kernel
theorem dX8_person_40 : decode cX8_person 40 = .ok (.aload_n 0, 1) := by decide +kernel
theorem dX8_person_41 : decode cX8_person 41 = .ok (.getfield 62, 3) := by decide +kernel
theorem dX8_person_44 : decode cX8_person 44 = .ok (.getfield 123, 3) := by decide +kernel
theorem dX8_person_47 : decode cX8_person 47 = .ok (.iload_n 1, 1) := by decide +kernel
theorem dX8_person_48 : decode cX8_person 48 = .ok (.iaload, 1) := by decide +kernel
theorem dX8_person_49 : decode cX8_person 49 = .ok (.ireturn, 1) := by decide +kernel
theorem dX8_person_50 : decode cX8_person 50 = .ok (.aload_n 0, 1) := by decide +kernel
theorem dX8_person_51 : decode cX8_person 51 = .ok (.getfield 62, 3) := by decide +kernel
theorem dX8_person_54 : decode cX8_person 54 = .ok (.getfield 126, 3) := by decide +kernel
theorem dX8_person_57 : decode cX8_person 57 = .ok (.iload_n 1, 1) := by decide +kernel
theorem dX8_person_58 : decode cX8_person 58 = .ok (.iaload, 1) := by decide +kernel
theorem dX8_person_59 : decode cX8_person 59 = .ok (.ireturn, 1) := by decide +kernel
theorem dX8_person_60 : decode cX8_person 60 = .ok (.aload_n 0, 1) := by decide +kernel
theorem dX8_person_61 : decode cX8_person 61 = .ok (.getfield 62, 3) := by decide +kernel
theorem dX8_person_64 : decode cX8_person 64 = .ok (.getfield 129, 3) := by decide +kernel
theorem dX8_person_67 : decode cX8_person 67 = .ok (.iload_n 1, 1) := by decide +kernel
theorem dX8_person_68 : decode cX8_person 68 = .ok (.iaload, 1) := by decide +kernel
theorem dX8_person_69 : decode cX8_person 69 = .ok (.ireturn, 1) := by decide +kernel
theorem dX8_person_70 : decode cX8_person 70 = .ok (.iconst (-1), 1) := by decide +kernel
theorem dX8_person_71 : decode cX8_person 71 = .ok (.ireturn, 1) := by decide +kernel
theorem dX8_bond_0 : decode cX8_bond 0 = .ok (.aload_n 0, 1) := by decide +kernel
theorem dX8_bond_1 : decode cX8_bond 1 = .ok (.getfield 62, 3) := by decide +kernel
theorem dX8_bond_4 : decode cX8_bond 4 = .ok (.iload_n 1, 1) := by decide +kernel
theorem dX8_bond_5 : decode cX8_bond 5 = .ok (.iload_n 2, 1) := by decide +kernel
theorem dX8_bond_6 : decode cX8_bond 6 = .ok (.invokevirtual 132, 3) := by decide +kernel
theorem dX8_bond_9 : decode cX8_bond 9 = .ok (.ifCond .eq 22, 3) := by decide +kernel
theorem dX8_bond_12 : decode cX8_bond 12 = .ok (.aload_n 0, 1) := by decide +kernel
theorem dX8_bond_13 : decode cX8_bond 13 = .ok (.getfield 19, 3) := by decide +kernel
theorem dX8_bond_16 : decode cX8_bond 16 = .ok (.getfield 104, 3) := by decide +kernel
theorem dX8_bond_19 : decode cX8_bond 19 = .ok (.getfield 136, 3) := by decide +kernel
theorem dX8_bond_22 : decode cX8_bond 22 = .ok (.iload_n 1, 1) := by decide +kernel
theorem dX8_bond_23 : decode cX8_bond 23 = .ok (.iload_n 2, 1) := by decide +kernel
theorem dX8_bond_24 : decode cX8_bond 24 = .ok (.invokestatic 139, 3) := by decide +kernel
theorem dX8_bond_27 : decode cX8_bond 27 = .ok (.iaload, 1) := by decide +kernel
theorem dX8_bond_28 : decode cX8_bond 28 = .ok (.goto 4, 3) := by decide +kernel
theorem dX8_bond_31 : decode cX8_bond 31 = .ok (.iconst (-1), 1) := by decide +kernel
theorem dX8_bond_32 : decode cX8_bond 32 = .ok (.ireturn, 1) := by decide +kernel
theorem dX8_falls_0 : decode cX8_falls 0 = .ok (.aload_n 0, 1) := by decide +kernel
theorem dX8_falls_1 : decode cX8_falls 1 = .ok (.getfield 62, 3) := by decide +kernel
theorem dX8_falls_4 : decode cX8_falls 4 = .ok (.iload_n 1, 1) := by decide +kernel
theorem dX8_falls_5 : decode cX8_falls 5 = .ok (.invokevirtual 120, 3) := by decide +kernel
theorem dX8_falls_8 : decode cX8_falls 8 = .ok (.ifCond .eq 14, 3) := by decide +kernel
theorem dX8_falls_11 : decode cX8_falls 11 = .ok (.aload_n 0, 1) := by decide +kernel
theorem dX8_falls_12 : decode cX8_falls 12 = .ok (.getfield 62, 3) := by decide +kernel
theorem dX8_falls_15 : decode cX8_falls 15 = .ok (.iload_n 2, 1) := by decide +kernel
theorem dX8_falls_16 : decode cX8_falls 16 = .ok (.invokevirtual 88, 3) := by decide +kernel
theorem dX8_falls_19 : decode cX8_falls 19 = .ok (.ifCond .ne 5, 3) := by decide +kernel
theorem dX8_falls_22 : decode cX8_falls 22 = .ok (.iconst (-1), 1) := by decide +kernel
theorem dX8_falls_23 : decode cX8_falls 23 = .ok (.ireturn, 1) := by decide +kernel
theorem dX8_falls_24 : decode cX8_falls 24 = .ok (.aload_n 0, 1) := by decide +kernel
theorem dX8_falls_25 : decode cX8_falls 25 = .ok (.getfield 19, 3) := by decide +kernel
theorem dX8_falls_28 : decode cX8_falls 28 = .ok (.invokevirtual 143, 3) := by decide +kernel
theorem dX8_falls_31 : decode cX8_falls 31 = .ok (.aload_n 0, 1) := by decide +kernel
theorem dX8_falls_32 : decode cX8_falls 32 = .ok (.getfield 19, 3) := by decide +kernel
theorem dX8_falls_35 : decode cX8_falls 35 = .ok (.getfield 104, 3) := by decide +kernel
theorem dX8_falls_38 : decode cX8_falls 38 = .ok (.aload_n 0, 1) := by decide +kernel
theorem dX8_falls_39 : decode cX8_falls 39 = .ok (.getfield 62, 3) := by decide +kernel
theorem dX8_falls_42 : decode cX8_falls 42 = .ok (.getfield 129, 3) := by decide +kernel
theorem dX8_falls_45 : decode cX8_falls 45 = .ok (.iload_n 1, 1) := by decide +kernel
theorem dX8_falls_46 : decode cX8_falls 46 = .ok (.iaload, 1) := by decide +kernel
theorem dX8_falls_47 : decode cX8_falls 47 = .ok (.invokevirtual 146, 3) := by decide +kernel
theorem dX8_falls_50 : decode cX8_falls 50 = .ok (.aload_n 0, 1) := by decide +kernel
theorem dX8_falls_51 : decode cX8_falls 51 = .ok (.getfield 19, 3) := by decide +kernel
theorem dX8_falls_54 : decode cX8_falls 54 = .ok (.getfield 104, 3) := by decide +kernel
theorem dX8_falls_57 : decode cX8_falls 57 = .ok (.iload_n 2, 1) := by decide +kernel
theorem dX8_falls_58 : decode cX8_falls 58 = .ok (.aload_n 0, 1) := by decide +kernel
theorem dX8_falls_59 : decode cX8_falls 59 = .ok (.getfield 62, 3) := by decide +kernel
theorem dX8_falls_62 : decode cX8_falls 62 = .ok (.iload_n 1, 1) := by decide +kernel
theorem dX8_falls_63 : decode cX8_falls 63 = .ok (.invokevirtual 150, 3) := by decide +kernel
theorem dX8_falls_66 : decode cX8_falls 66 = .ok (.invokevirtual 153, 3) := by decide +kernel
theorem dX8_falls_69 : decode cX8_falls 69 = .ok (.ireturn, 1) := by decide +kernel
theorem dX8_together_0 : decode cX8_together 0 = .ok (.aload_n 0, 1) := by decide +kernel
theorem dX8_together_1 : decode cX8_together 1 = .ok (.getfield 62, 3) := by decide +kernel
theorem dX8_together_4 : decode cX8_together 4 = .ok (.iload_n 1, 1) := by decide +kernel
theorem dX8_together_5 : decode cX8_together 5 = .ok (.invokevirtual 120, 3) := by decide +kernel
theorem dX8_together_8 : decode cX8_together 8 = .ok (.ifCond .eq 30, 3) := by decide +kernel
theorem dX8_together_11 : decode cX8_together 11 = .ok (.aload_n 0, 1) := by decide +kernel
theorem dX8_together_12 : decode cX8_together 12 = .ok (.getfield 62, 3) := by decide +kernel
theorem dX8_together_15 : decode cX8_together 15 = .ok (.iload_n 2, 1) := by decide +kernel
theorem dX8_together_16 : decode cX8_together 16 = .ok (.invokevirtual 120, 3) := by decide +kernel
theorem dX8_together_19 : decode cX8_together 19 = .ok (.ifCond .eq 19, 3) := by decide +kernel
theorem dX8_together_22 : decode cX8_together 22 = .ok (.iload_n 1, 1) := by decide +kernel
theorem dX8_together_23 : decode cX8_together 23 = .ok (.iload_n 2, 1) := by decide +kernel
theorem dX8_together_24 : decode cX8_together 24 = .ok (.if_icmp .eq 14, 3) := by decide +kernel
theorem dX8_together_27 : decode cX8_together 27 = .ok (.aload_n 0, 1) := by decide +kernel
theorem dX8_together_28 : decode cX8_together 28 = .ok (.getfield 62, 3) := by decide +kernel
theorem dX8_together_31 : decode cX8_together 31 = .ok (.iload_n 3, 1) := by decide +kernel
theorem dX8_together_32 : decode cX8_together 32 = .ok (.invokevirtual 88, 3) := by decide +kernel
theorem dX8_together_35 : decode cX8_together 35 = .ok (.ifCond .ne 5, 3) := by decide +kernel
theorem dX8_together_38 : decode cX8_together 38 = .ok (.iconst (-1), 1) := by decide +kernel
theorem dX8_together_39 : decode cX8_together 39 = .ok (.ireturn, 1) := by decide +kernel
theorem dX8_together_40 : decode cX8_together 40 = .ok (.aload_n 0, 1) := by decide +kernel
theorem dX8_together_41 : decode cX8_together 41 = .ok (.getfield 19, 3) := by decide +kernel
theorem dX8_together_44 : decode cX8_together 44 = .ok (.invokevirtual 143, 3) := by decide +kernel
theorem dX8_together_47 : decode cX8_together 47 = .ok (.aload_n 0, 1) := by decide +kernel
theorem dX8_together_48 : decode cX8_together 48 = .ok (.getfield 19, 3) := by decide +kernel
theorem dX8_together_51 : decode cX8_together 51 = .ok (.getfield 104, 3) := by decide +kernel
theorem dX8_together_54 : decode cX8_together 54 = .ok (.aload_n 0, 1) := by decide +kernel
theorem dX8_together_55 : decode cX8_together 55 = .ok (.getfield 62, 3) := by decide +kernel
theorem dX8_together_58 : decode cX8_together 58 = .ok (.getfield 129, 3) := by decide +kernel
theorem dX8_together_61 : decode cX8_together 61 = .ok (.iload_n 1, 1) := by decide +kernel
theorem dX8_together_62 : decode cX8_together 62 = .ok (.iaload, 1) := by decide +kernel
theorem dX8_together_63 : decode cX8_together 63 = .ok (.aload_n 0, 1) := by decide +kernel
theorem dX8_together_64 : decode cX8_together 64 = .ok (.getfield 62, 3) := by decide +kernel
theorem dX8_together_67 : decode cX8_together 67 = .ok (.getfield 129, 3) := by decide +kernel
theorem dX8_together_70 : decode cX8_together 70 = .ok (.iload_n 2, 1) := by decide +kernel
theorem dX8_together_71 : decode cX8_together 71 = .ok (.iaload, 1) := by decide +kernel
theorem dX8_together_72 : decode cX8_together 72 = .ok (.iadd, 1) := by decide +kernel
theorem dX8_together_73 : decode cX8_together 73 = .ok (.invokevirtual 146, 3) := by decide +kernel
theorem dX8_together_76 : decode cX8_together 76 = .ok (.aload_n 0, 1) := by decide +kernel
theorem dX8_together_77 : decode cX8_together 77 = .ok (.getfield 19, 3) := by decide +kernel
theorem dX8_together_80 : decode cX8_together 80 = .ok (.getfield 104, 3) := by decide +kernel
theorem dX8_together_83 : decode cX8_together 83 = .ok (.iload_n 3, 1) := by decide +kernel
theorem dX8_together_84 : decode cX8_together 84 = .ok (.aload_n 0, 1) := by decide +kernel
theorem dX8_together_85 : decode cX8_together 85 = .ok (.getfield 62, 3) := by decide +kernel
theorem dX8_together_88 : decode cX8_together 88 = .ok (.getfield 156, 3) := by decide +kernel
theorem dX8_together_91 : decode cX8_together 91 = .ok (.invokevirtual 153, 3) := by decide +kernel
theorem dX8_together_94 : decode cX8_together 94 = .ok (.ireturn, 1) := by decide +kernel
theorem dX8_throwsDoll_0 : decode cX8_throwsDoll 0 = .ok (.aload_n 0, 1) := by decide +kernel
theorem dX8_throwsDoll_1 : decode cX8_throwsDoll 1 = .ok (.getfield 62, 3) := by decide +kernel
theorem dX8_throwsDoll_4 : decode cX8_throwsDoll 4 = .ok (.iload_n 1, 1) := by decide +kernel
theorem dX8_throwsDoll_5 : decode cX8_throwsDoll 5 = .ok (.invokevirtual 88, 3) := by decide +kernel
theorem dX8_throwsDoll_8 : decode cX8_throwsDoll 8 = .ok (.ifCond .ne 5, 3) := by decide +kernel
theorem dX8_throwsDoll_11 : decode cX8_throwsDoll 11 = .ok (.iconst (-1), 1) := by decide +kernel
theorem dX8_throwsDoll_12 : decode cX8_throwsDoll 12 = .ok (.ireturn, 1) := by decide +kernel
theorem dX8_throwsDoll_13 : decode cX8_throwsDoll 13 = .ok (.aload_n 0, 1) := by decide +kernel
theorem dX8_throwsDoll_14 : decode cX8_throwsDoll 14 = .ok (.getfield 19, 3) := by decide +kernel
theorem dX8_throwsDoll_17 : decode cX8_throwsDoll 17 = .ok (.getfield 104, 3) := by decide +kernel
theorem dX8_throwsDoll_20 : decode cX8_throwsDoll 20 = .ok (.getfield 113, 3) := by decide +kernel
theorem dX8_throwsDoll_23 : decode cX8_throwsDoll 23 = .ok (.iload_n 1, 1) := by decide +kernel
theorem dX8_throwsDoll_24 : decode cX8_throwsDoll 24 = .ok (.iaload, 1) := by decide +kernel
theorem dX8_throwsDoll_25 : decode cX8_throwsDoll 25 = .ok (.aload_n 0, 1) := by decide +kernel
theorem dX8_throwsDoll_26 : decode cX8_throwsDoll 26 = .ok (.getfield 62, 3) := by decide +kernel
theorem dX8_throwsDoll_29 : decode cX8_throwsDoll 29 = .ok (.getfield 159, 3) := by decide +kernel
theorem dX8_throwsDoll_32 : decode cX8_throwsDoll 32 = .ok (.if_icmp .lt 6, 3) := by decide +kernel
theorem dX8_throwsDoll_35 : decode cX8_throwsDoll 35 = .ok (.bipush (-2), 2) := by decide +kernel
theorem dX8_throwsDoll_37 : decode cX8_throwsDoll 37 = .ok (.ireturn, 1) := by decide +kernel
theorem dX8_throwsDoll_38 : decode cX8_throwsDoll 38 = .ok (.aload_n 0, 1) := by decide +kernel
theorem dX8_throwsDoll_39 : decode cX8_throwsDoll 39 = .ok (.getfield 19, 3) := by decide +kernel
theorem dX8_throwsDoll_42 : decode cX8_throwsDoll 42 = .ok (.invokevirtual 143, 3) := by decide +kernel
theorem dX8_throwsDoll_45 : decode cX8_throwsDoll 45 = .ok (.aload_n 0, 1) := by decide +kernel
theorem dX8_throwsDoll_46 : decode cX8_throwsDoll 46 = .ok (.getfield 19, 3) := by decide +kernel
theorem dX8_throwsDoll_49 : decode cX8_throwsDoll 49 = .ok (.getfield 104, 3) := by decide +kernel
theorem dX8_throwsDoll_52 : decode cX8_throwsDoll 52 = .ok (.getfield 113, 3) := by decide +kernel
theorem dX8_throwsDoll_55 : decode cX8_throwsDoll 55 = .ok (.iload_n 1, 1) := by decide +kernel
theorem dX8_throwsDoll_56 : decode cX8_throwsDoll 56 = .ok (.dup2, 1) := by decide +kernel
theorem dX8_throwsDoll_57 : decode cX8_throwsDoll 57 = .ok (.iaload, 1) := by decide +kernel
theorem dX8_throwsDoll_58 : decode cX8_throwsDoll 58 = .ok (.iconst 1, 1) := by decide +kernel
theorem dX8_throwsDoll_59 : decode cX8_throwsDoll 59 = .ok (.iadd, 1) := by decide +kernel
theorem dX8_throwsDoll_60 : decode cX8_throwsDoll 60 = .ok (.iastore, 1) := by decide +kernel
theorem dX8_throwsDoll_61 : decode cX8_throwsDoll 61 = .ok (.aload_n 0, 1) := by decide +kernel
theorem dX8_throwsDoll_62 : decode cX8_throwsDoll 62 = .ok (.getfield 19, 3) := by decide +kernel
theorem dX8_throwsDoll_65 : decode cX8_throwsDoll 65 = .ok (.getfield 104, 3) := by decide +kernel
theorem dX8_throwsDoll_68 : decode cX8_throwsDoll 68 = .ok (.iload_n 1, 1) := by decide +kernel
theorem dX8_throwsDoll_69 : decode cX8_throwsDoll 69 = .ok (.iconst 1, 1) := by decide +kernel
theorem dX8_throwsDoll_70 : decode cX8_throwsDoll 70 = .ok (.invokevirtual 153, 3) := by decide +kernel
theorem dX8_throwsDoll_73 : decode cX8_throwsDoll 73 = .ok (.ireturn, 1) := by decide +kernel
theorem dX8_sells_0 : decode cX8_sells 0 = .ok (.aload_n 0, 1) := by decide +kernel
theorem dX8_sells_1 : decode cX8_sells 1 = .ok (.getfield 62, 3) := by decide +kernel
theorem dX8_sells_4 : decode cX8_sells 4 = .ok (.iload_n 1, 1) := by decide +kernel
theorem dX8_sells_5 : decode cX8_sells 5 = .ok (.iload_n 2, 1) := by decide +kernel
theorem dX8_sells_6 : decode cX8_sells 6 = .ok (.invokevirtual 132, 3) := by decide +kernel
theorem dX8_sells_9 : decode cX8_sells 9 = .ok (.ifCond .eq 14, 3) := by decide +kernel
theorem dX8_sells_12 : decode cX8_sells 12 = .ok (.iload_n 3, 1) := by decide +kernel
theorem dX8_sells_13 : decode cX8_sells 13 = .ok (.iconst 1, 1) := by decide +kernel
theorem dX8_sells_14 : decode cX8_sells 14 = .ok (.if_icmp .lt 9, 3) := by decide +kernel
theorem dX8_sells_17 : decode cX8_sells 17 = .ok (.iload_n 3, 1) := by decide +kernel
theorem dX8_sells_18 : decode cX8_sells 18 = .ok (.bipush 99, 2) := by decide +kernel
theorem dX8_sells_20 : decode cX8_sells 20 = .ok (.if_icmp .le 5, 3) := by decide +kernel
theorem dX8_sells_23 : decode cX8_sells 23 = .ok (.iconst (-1), 1) := by decide +kernel
theorem dX8_sells_24 : decode cX8_sells 24 = .ok (.ireturn, 1) := by decide +kernel
theorem dX8_sells_25 : decode cX8_sells 25 = .ok (.aload_n 0, 1) := by decide +kernel
theorem dX8_sells_26 : decode cX8_sells 26 = .ok (.getfield 19, 3) := by decide +kernel
theorem dX8_sells_29 : decode cX8_sells 29 = .ok (.getfield 104, 3) := by decide +kernel
theorem dX8_sells_32 : decode cX8_sells 32 = .ok (.astore 4, 2) := by decide +kernel
theorem dX8_sells_34 : decode cX8_sells 34 = .ok (.aload 4, 2) := by decide +kernel
theorem dX8_sells_36 : decode cX8_sells 36 = .ok (.getfield 108, 3) := by decide +kernel
theorem dX8_sells_39 : decode cX8_sells 39 = .ok (.iload_n 1, 1) := by decide +kernel
theorem dX8_sells_40 : decode cX8_sells 40 = .ok (.iaload, 1) := by decide +kernel
theorem dX8_sells_41 : decode cX8_sells 41 = .ok (.iload_n 3, 1) := by decide +kernel
theorem dX8_sells_42 : decode cX8_sells 42 = .ok (.if_icmp .ge 6, 3) := by decide +kernel
theorem dX8_sells_45 : decode cX8_sells 45 = .ok (.bipush (-2), 2) := by decide +kernel
theorem dX8_sells_47 : decode cX8_sells 47 = .ok (.ireturn, 1) := by decide +kernel
theorem dX8_sells_48 : decode cX8_sells 48 = .ok (.aload 4, 2) := by decide +kernel
theorem dX8_sells_50 : decode cX8_sells 50 = .ok (.getfield 108, 3) := by decide +kernel
theorem dX8_sells_53 : decode cX8_sells 53 = .ok (.iload_n 2, 1) := by decide +kernel
theorem dX8_sells_54 : decode cX8_sells 54 = .ok (.iaload, 1) := by decide +kernel
theorem dX8_sells_55 : decode cX8_sells 55 = .ok (.iload_n 3, 1) := by decide +kernel
theorem dX8_sells_56 : decode cX8_sells 56 = .ok (.iadd, 1) := by decide +kernel
theorem dX8_sells_57 : decode cX8_sells 57 = .ok (.sipush 999, 3) := by decide +kernel
theorem dX8_sells_60 : decode cX8_sells 60 = .ok (.if_icmp .le 6, 3) := by decide +kernel
theorem dX8_sells_63 : decode cX8_sells 63 = .ok (.bipush (-3), 2) := by decide +kernel
theorem dX8_sells_65 : decode cX8_sells 65 = .ok (.ireturn, 1) := by decide +kernel
theorem dX8_sells_66 : decode cX8_sells 66 = .ok (.aload_n 0, 1) := by decide +kernel
theorem dX8_sells_67 : decode cX8_sells 67 = .ok (.getfield 19, 3) := by decide +kernel
theorem dX8_sells_70 : decode cX8_sells 70 = .ok (.invokevirtual 143, 3) := by decide +kernel
theorem dX8_sells_73 : decode cX8_sells 73 = .ok (.aload 4, 2) := by decide +kernel
theorem dX8_sells_75 : decode cX8_sells 75 = .ok (.getfield 108, 3) := by decide +kernel
theorem dX8_sells_78 : decode cX8_sells 78 = .ok (.iload_n 2, 1) := by decide +kernel
theorem dX8_sells_79 : decode cX8_sells 79 = .ok (.dup2, 1) := by decide +kernel
theorem dX8_sells_80 : decode cX8_sells 80 = .ok (.iaload, 1) := by decide +kernel
theorem dX8_sells_81 : decode cX8_sells 81 = .ok (.iload_n 3, 1) := by decide +kernel
theorem dX8_sells_82 : decode cX8_sells 82 = .ok (.iadd, 1) := by decide +kernel
theorem dX8_sells_83 : decode cX8_sells 83 = .ok (.iastore, 1) := by decide +kernel
theorem dX8_sells_84 : decode cX8_sells 84 = .ok (.aload 4, 2) := by decide +kernel
theorem dX8_sells_86 : decode cX8_sells 86 = .ok (.getfield 136, 3) := by decide +kernel
theorem dX8_sells_89 : decode cX8_sells 89 = .ok (.iload_n 1, 1) := by decide +kernel
theorem dX8_sells_90 : decode cX8_sells 90 = .ok (.iload_n 2, 1) := by decide +kernel
theorem dX8_sells_91 : decode cX8_sells 91 = .ok (.invokestatic 139, 3) := by decide +kernel
theorem dX8_sells_94 : decode cX8_sells 94 = .ok (.dup2, 1) := by decide +kernel
theorem dX8_sells_95 : decode cX8_sells 95 = .ok (.iaload, 1) := by decide +kernel
theorem dX8_sells_96 : decode cX8_sells 96 = .ok (.iload_n 3, 1) := by decide +kernel
theorem dX8_sells_97 : decode cX8_sells 97 = .ok (.iadd, 1) := by decide +kernel
theorem dX8_sells_98 : decode cX8_sells 98 = .ok (.iastore, 1) := by decide +kernel
theorem dX8_sells_99 : decode cX8_sells 99 = .ok (.aload 4, 2) := by decide +kernel
theorem dX8_sells_101 : decode cX8_sells 101 = .ok (.iload_n 1, 1) := by decide +kernel
theorem dX8_sells_102 : decode cX8_sells 102 = .ok (.iload_n 3, 1) := by decide +kernel
theorem dX8_sells_103 : decode cX8_sells 103 = .ok (.invokevirtual 153, 3) := by decide +kernel
theorem dX8_sells_106 : decode cX8_sells 106 = .ok (.ireturn, 1) := by decide +kernel
theorem dX8_redeems_0 : decode cX8_redeems 0 = .ok (.aload_n 0, 1) := by decide +kernel
theorem dX8_redeems_1 : decode cX8_redeems 1 = .ok (.getfield 62, 3) := by decide +kernel
theorem dX8_redeems_4 : decode cX8_redeems 4 = .ok (.iload_n 1, 1) := by decide +kernel
theorem dX8_redeems_5 : decode cX8_redeems 5 = .ok (.invokevirtual 88, 3) := by decide +kernel
theorem dX8_redeems_8 : decode cX8_redeems 8 = .ok (.ifCond .ne 5, 3) := by decide +kernel
theorem dX8_redeems_11 : decode cX8_redeems 11 = .ok (.iconst (-1), 1) := by decide +kernel
theorem dX8_redeems_12 : decode cX8_redeems 12 = .ok (.ireturn, 1) := by decide +kernel
theorem dX8_redeems_13 : decode cX8_redeems 13 = .ok (.aload_n 0, 1) := by decide +kernel
theorem dX8_redeems_14 : decode cX8_redeems 14 = .ok (.getfield 19, 3) := by decide +kernel
theorem dX8_redeems_17 : decode cX8_redeems 17 = .ok (.getfield 104, 3) := by decide +kernel
theorem dX8_redeems_20 : decode cX8_redeems 20 = .ok (.getfield 108, 3) := by decide +kernel
theorem dX8_redeems_23 : decode cX8_redeems 23 = .ok (.iload_n 1, 1) := by decide +kernel
theorem dX8_redeems_24 : decode cX8_redeems 24 = .ok (.iaload, 1) := by decide +kernel
theorem dX8_redeems_25 : decode cX8_redeems 25 = .ok (.istore_n 2, 1) := by decide +kernel
theorem dX8_redeems_26 : decode cX8_redeems 26 = .ok (.iload_n 2, 1) := by decide +kernel
theorem dX8_redeems_27 : decode cX8_redeems 27 = .ok (.ifCond .ne 6, 3) := by decide +kernel
theorem dX8_redeems_30 : decode cX8_redeems 30 = .ok (.bipush (-2), 2) := by decide +kernel
theorem dX8_redeems_32 : decode cX8_redeems 32 = .ok (.ireturn, 1) := by decide +kernel
theorem dX8_redeems_33 : decode cX8_redeems 33 = .ok (.aload_n 0, 1) := by decide +kernel
theorem dX8_redeems_34 : decode cX8_redeems 34 = .ok (.getfield 19, 3) := by decide +kernel
theorem dX8_redeems_37 : decode cX8_redeems 37 = .ok (.invokevirtual 143, 3) := by decide +kernel
theorem dX8_redeems_40 : decode cX8_redeems 40 = .ok (.aload_n 0, 1) := by decide +kernel
theorem dX8_redeems_41 : decode cX8_redeems 41 = .ok (.getfield 19, 3) := by decide +kernel
theorem dX8_redeems_44 : decode cX8_redeems 44 = .ok (.getfield 104, 3) := by decide +kernel
theorem dX8_redeems_47 : decode cX8_redeems 47 = .ok (.getfield 108, 3) := by decide +kernel
theorem dX8_redeems_50 : decode cX8_redeems 50 = .ok (.iload_n 1, 1) := by decide +kernel
theorem dX8_redeems_51 : decode cX8_redeems 51 = .ok (.iconst 0, 1) := by decide +kernel
theorem dX8_redeems_52 : decode cX8_redeems 52 = .ok (.iastore, 1) := by decide +kernel
theorem dX8_redeems_53 : decode cX8_redeems 53 = .ok (.iload_n 2, 1) := by decide +kernel
theorem dX8_redeems_54 : decode cX8_redeems 54 = .ok (.ireturn, 1) := by decide +kernel
theorem dX8_ends_0 : decode cX8_ends 0 = .ok (.aload_n 0, 1) := by decide +kernel
theorem dX8_ends_1 : decode cX8_ends 1 = .ok (.getfield 19, 3) := by decide +kernel
theorem dX8_ends_4 : decode cX8_ends 4 = .ok (.getfield 104, 3) := by decide +kernel
theorem dX8_ends_7 : decode cX8_ends 7 = .ok (.getfield 162, 3) := by decide +kernel
theorem dX8_ends_10 : decode cX8_ends 10 = .ok (.bipush 99, 2) := by decide +kernel
theorem dX8_ends_12 : decode cX8_ends 12 = .ok (.if_icmp .lt 6, 3) := by decide +kernel
theorem dX8_ends_15 : decode cX8_ends 15 = .ok (.bipush (-2), 2) := by decide +kernel
theorem dX8_ends_17 : decode cX8_ends 17 = .ok (.ireturn, 1) := by decide +kernel
theorem dX8_ends_18 : decode cX8_ends 18 = .ok (.aload_n 0, 1) := by decide +kernel
theorem dX8_ends_19 : decode cX8_ends 19 = .ok (.getfield 19, 3) := by decide +kernel
theorem dX8_ends_22 : decode cX8_ends 22 = .ok (.invokevirtual 143, 3) := by decide +kernel
theorem dX8_ends_25 : decode cX8_ends 25 = .ok (.aload_n 0, 1) := by decide +kernel
theorem dX8_ends_26 : decode cX8_ends 26 = .ok (.getfield 19, 3) := by decide +kernel
theorem dX8_ends_29 : decode cX8_ends 29 = .ok (.getfield 104, 3) := by decide +kernel
theorem dX8_ends_32 : decode cX8_ends 32 = .ok (.aload_n 0, 1) := by decide +kernel
theorem dX8_ends_33 : decode cX8_ends 33 = .ok (.getfield 62, 3) := by decide +kernel
theorem dX8_ends_36 : decode cX8_ends 36 = .ok (.invokevirtual 165, 3) := by decide +kernel
theorem dX8_ends_39 : decode cX8_ends 39 = .ok (.aload_n 0, 1) := by decide +kernel
theorem dX8_ends_40 : decode cX8_ends 40 = .ok (.getfield 19, 3) := by decide +kernel
theorem dX8_ends_43 : decode cX8_ends 43 = .ok (.getfield 104, 3) := by decide +kernel
theorem dX8_ends_46 : decode cX8_ends 46 = .ok (.aload_n 0, 1) := by decide +kernel
theorem dX8_ends_47 : decode cX8_ends 47 = .ok (.getfield 62, 3) := by decide +kernel
theorem dX8_ends_50 : decode cX8_ends 50 = .ok (.getfield 168, 3) := by decide +kernel
theorem dX8_ends_53 : decode cX8_ends 53 = .ok (.invokevirtual 171, 3) := by decide +kernel
theorem dX8_ends_56 : decode cX8_ends 56 = .ok (.ireturn, 1) := by decide +kernel
theorem dX8_undo_0 : decode cX8_undo 0 = .ok (.aload_n 0, 1) := by decide +kernel
theorem dX8_undo_1 : decode cX8_undo 1 = .ok (.getfield 19, 3) := by decide +kernel
theorem dX8_undo_4 : decode cX8_undo 4 = .ok (.invokevirtual 174, 3) := by decide +kernel
theorem dX8_undo_7 : decode cX8_undo 7 = .ok (.ifCond .eq 13, 3) := by decide +kernel
theorem dX8_undo_10 : decode cX8_undo 10 = .ok (.aload_n 0, 1) := by decide +kernel
theorem dX8_undo_11 : decode cX8_undo 11 = .ok (.getfield 19, 3) := by decide +kernel
theorem dX8_undo_14 : decode cX8_undo 14 = .ok (.getfield 178, 3) := by decide +kernel
theorem dX8_undo_17 : decode cX8_undo 17 = .ok (.goto 5, 3) := by decide +kernel
theorem dX8_undo_20 : decode cX8_undo 20 = .ok (.bipush (-2), 2) := by decide +kernel
theorem dX8_undo_22 : decode cX8_undo 22 = .ok (.ireturn, 1) := by decide +kernel
theorem dX8_now_0 : decode cX8_now 0 = .ok (.iload_n 1, 1) := by decide +kernel
theorem dX8_now_1 : decode cX8_now 1 = .ok (.tableswitch 114 0 5 #[39, 50, 68, 73, 84, 89], 39) := by decide +kernel
theorem dX8_now_40 : decode cX8_now 40 = .ok (.aload_n 0, 1) := by decide +kernel
theorem dX8_now_41 : decode cX8_now 41 = .ok (.getfield 19, 3) := by decide +kernel
theorem dX8_now_44 : decode cX8_now 44 = .ok (.getfield 104, 3) := by decide +kernel
theorem dX8_now_47 : decode cX8_now 47 = .ok (.getfield 162, 3) := by decide +kernel
theorem dX8_now_50 : decode cX8_now 50 = .ok (.ireturn, 1) := by decide +kernel
theorem dX8_now_51 : decode cX8_now 51 = .ok (.aload_n 0, 1) := by decide +kernel
theorem dX8_now_52 : decode cX8_now 52 = .ok (.getfield 19, 3) := by decide +kernel
theorem dX8_now_55 : decode cX8_now 55 = .ok (.getfield 104, 3) := by decide +kernel
theorem dX8_now_58 : decode cX8_now 58 = .ok (.aload_n 0, 1) := by decide +kernel
theorem dX8_now_59 : decode cX8_now 59 = .ok (.getfield 62, 3) := by decide +kernel
theorem dX8_now_62 : decode cX8_now 62 = .ok (.getfield 168, 3) := by decide +kernel
theorem dX8_now_65 : decode cX8_now 65 = .ok (.invokevirtual 171, 3) := by decide +kernel
theorem dX8_now_68 : decode cX8_now 68 = .ok (.ireturn, 1) := by decide +kernel
theorem dX8_now_69 : decode cX8_now 69 = .ok (.aload_n 0, 1) := by decide +kernel
theorem dX8_now_70 : decode cX8_now 70 = .ok (.invokevirtual 181, 3) := by decide +kernel
theorem dX8_now_73 : decode cX8_now 73 = .ok (.ireturn, 1) := by decide +kernel
theorem dX8_now_74 : decode cX8_now 74 = .ok (.aload_n 0, 1) := by decide +kernel
theorem dX8_now_75 : decode cX8_now 75 = .ok (.getfield 19, 3) := by decide +kernel
theorem dX8_now_78 : decode cX8_now 78 = .ok (.getfield 104, 3) := by decide +kernel
theorem dX8_now_81 : decode cX8_now 81 = .ok (.getfield 185, 3) := by decide +kernel
theorem dX8_now_84 : decode cX8_now 84 = .ok (.ireturn, 1) := by decide +kernel
theorem dX8_now_85 : decode cX8_now 85 = .ok (.aload_n 0, 1) := by decide +kernel
theorem dX8_now_86 : decode cX8_now 86 = .ok (.invokevirtual 188, 3) := by decide +kernel
theorem dX8_now_89 : decode cX8_now 89 = .ok (.ireturn, 1) := by decide +kernel
theorem dX8_now_90 : decode cX8_now 90 = .ok (.aload_n 0, 1) := by decide +kernel
theorem dX8_now_91 : decode cX8_now 91 = .ok (.getfield 48, 3) := by decide +kernel
theorem dX8_now_94 : decode cX8_now 94 = .ok (.aload_n 0, 1) := by decide +kernel
theorem dX8_now_95 : decode cX8_now 95 = .ok (.getfield 19, 3) := by decide +kernel
theorem dX8_now_98 : decode cX8_now 98 = .ok (.getfield 104, 3) := by decide +kernel
theorem dX8_now_101 : decode cX8_now 101 = .ok (.getfield 136, 3) := by decide +kernel
theorem dX8_now_104 : decode cX8_now 104 = .ok (.aload_n 0, 1) := by decide +kernel
theorem dX8_now_105 : decode cX8_now 105 = .ok (.getfield 62, 3) := by decide +kernel
theorem dX8_now_108 : decode cX8_now 108 = .ok (.getfield 168, 3) := by decide +kernel
theorem dX8_now_111 : decode cX8_now 111 = .ok (.invokevirtual 191, 3) := by decide +kernel
theorem dX8_now_114 : decode cX8_now 114 = .ok (.ireturn, 1) := by decide +kernel
theorem dX8_now_115 : decode cX8_now 115 = .ok (.iconst (-1), 1) := by decide +kernel
theorem dX8_now_116 : decode cX8_now 116 = .ok (.ireturn, 1) := by decide +kernel
theorem dX8_surest_0 : decode cX8_surest 0 = .ok (.iload_n 1, 1) := by decide +kernel
theorem dX8_surest_1 : decode cX8_surest 1 = .ok (.invokestatic 195, 3) := by decide +kernel
theorem dX8_surest_4 : decode cX8_surest 4 = .ok (.ifCond .eq 19, 3) := by decide +kernel
theorem dX8_surest_7 : decode cX8_surest 7 = .ok (.iload_n 2, 1) := by decide +kernel
theorem dX8_surest_8 : decode cX8_surest 8 = .ok (.invokestatic 195, 3) := by decide +kernel
theorem dX8_surest_11 : decode cX8_surest 11 = .ok (.ifCond .eq 12, 3) := by decide +kernel
theorem dX8_surest_14 : decode cX8_surest 14 = .ok (.iload_n 3, 1) := by decide +kernel
theorem dX8_surest_15 : decode cX8_surest 15 = .ok (.ifCond .lt 8, 3) := by decide +kernel
theorem dX8_surest_18 : decode cX8_surest 18 = .ok (.iload_n 3, 1) := by decide +kernel
theorem dX8_surest_19 : decode cX8_surest 19 = .ok (.iconst 2, 1) := by decide +kernel
theorem dX8_surest_20 : decode cX8_surest 20 = .ok (.if_icmp .le 5, 3) := by decide +kernel
theorem dX8_surest_23 : decode cX8_surest 23 = .ok (.iconst (-1), 1) := by decide +kernel
theorem dX8_surest_24 : decode cX8_surest 24 = .ok (.ireturn, 1) := by decide +kernel
theorem dX8_surest_25 : decode cX8_surest 25 = .ok (.aload_n 0, 1) := by decide +kernel
theorem dX8_surest_26 : decode cX8_surest 26 = .ok (.getfield 34, 3) := by decide +kernel
theorem dX8_surest_29 : decode cX8_surest 29 = .ok (.aload_n 0, 1) := by decide +kernel
theorem dX8_surest_30 : decode cX8_surest 30 = .ok (.getfield 62, 3) := by decide +kernel
theorem dX8_surest_33 : decode cX8_surest 33 = .ok (.aload_n 0, 1) := by decide +kernel
theorem dX8_surest_34 : decode cX8_surest 34 = .ok (.getfield 19, 3) := by decide +kernel
theorem dX8_surest_37 : decode cX8_surest 37 = .ok (.getfield 104, 3) := by decide +kernel
theorem dX8_surest_40 : decode cX8_surest 40 = .ok (.iload_n 2, 1) := by decide +kernel
theorem dX8_surest_41 : decode cX8_surest 41 = .ok (.bipush (-9), 2) := by decide +kernel
theorem dX8_surest_43 : decode cX8_surest 43 = .ok (.invokevirtual 198, 3) := by decide +kernel
theorem dX8_surest_46 : decode cX8_surest 46 = .ok (.iload_n 3, 1) := by decide +kernel
theorem dX8_surest_47 : decode cX8_surest 47 = .ok (.lookupswitch 43 #[(0, 25), (1, 34)], 25) := by decide +kernel
theorem dX8_surest_72 : decode cX8_surest 72 = .ok (.aload_n 0, 1) := by decide +kernel
theorem dX8_surest_73 : decode cX8_surest 73 = .ok (.getfield 34, 3) := by decide +kernel
theorem dX8_surest_76 : decode cX8_surest 76 = .ok (.iload_n 1, 1) := by decide +kernel
theorem dX8_surest_77 : decode cX8_surest 77 = .ok (.invokevirtual 202, 3) := by decide +kernel
theorem dX8_surest_80 : decode cX8_surest 80 = .ok (.ireturn, 1) := by decide +kernel
theorem dX8_surest_81 : decode cX8_surest 81 = .ok (.aload_n 0, 1) := by decide +kernel
theorem dX8_surest_82 : decode cX8_surest 82 = .ok (.getfield 34, 3) := by decide +kernel
theorem dX8_surest_85 : decode cX8_surest 85 = .ok (.iload_n 1, 1) := by decide +kernel
theorem dX8_surest_86 : decode cX8_surest 86 = .ok (.invokevirtual 205, 3) := by decide +kernel
theorem dX8_surest_89 : decode cX8_surest 89 = .ok (.ireturn, 1) := by decide +kernel
theorem dX8_surest_90 : decode cX8_surest 90 = .ok (.aload_n 0, 1) := by decide +kernel
theorem dX8_surest_91 : decode cX8_surest 91 = .ok (.getfield 34, 3) := by decide +kernel
theorem dX8_surest_94 : decode cX8_surest 94 = .ok (.aload_n 0, 1) := by decide +kernel
theorem dX8_surest_95 : decode cX8_surest 95 = .ok (.getfield 62, 3) := by decide +kernel
theorem dX8_surest_98 : decode cX8_surest 98 = .ok (.aload_n 0, 1) := by decide +kernel
theorem dX8_surest_99 : decode cX8_surest 99 = .ok (.getfield 19, 3) := by decide +kernel
theorem dX8_surest_102 : decode cX8_surest 102 = .ok (.getfield 104, 3) := by decide +kernel
theorem dX8_surest_105 : decode cX8_surest 105 = .ok (.iload_n 1, 1) := by decide +kernel
theorem dX8_surest_106 : decode cX8_surest 106 = .ok (.invokevirtual 208, 3) := by decide +kernel
theorem dX8_surest_109 : decode cX8_surest 109 = .ok (.ireturn, 1) := by decide +kernel
theorem dX8_bars_0 : decode cX8_bars 0 = .ok (.iload_n 1, 1) := by decide +kernel
theorem dX8_bars_1 : decode cX8_bars 1 = .ok (.invokestatic 195, 3) := by decide +kernel
theorem dX8_bars_4 : decode cX8_bars 4 = .ok (.ifCond .eq 10, 3) := by decide +kernel
theorem dX8_bars_7 : decode cX8_bars 7 = .ok (.iload_n 2, 1) := by decide +kernel
theorem dX8_bars_8 : decode cX8_bars 8 = .ok (.invokestatic 195, 3) := by decide +kernel
theorem dX8_bars_11 : decode cX8_bars 11 = .ok (.ifCond .ne 5, 3) := by decide +kernel
theorem dX8_bars_14 : decode cX8_bars 14 = .ok (.iconst (-1), 1) := by decide +kernel
theorem dX8_bars_15 : decode cX8_bars 15 = .ok (.ireturn, 1) := by decide +kernel
theorem dX8_bars_16 : decode cX8_bars 16 = .ok (.aload_n 0, 1) := by decide +kernel
theorem dX8_bars_17 : decode cX8_bars 17 = .ok (.getfield 34, 3) := by decide +kernel
theorem dX8_bars_20 : decode cX8_bars 20 = .ok (.aload_n 0, 1) := by decide +kernel
theorem dX8_bars_21 : decode cX8_bars 21 = .ok (.getfield 62, 3) := by decide +kernel
theorem dX8_bars_24 : decode cX8_bars 24 = .ok (.aload_n 0, 1) := by decide +kernel
theorem dX8_bars_25 : decode cX8_bars 25 = .ok (.getfield 19, 3) := by decide +kernel
theorem dX8_bars_28 : decode cX8_bars 28 = .ok (.getfield 104, 3) := by decide +kernel
theorem dX8_bars_31 : decode cX8_bars 31 = .ok (.iload_n 1, 1) := by decide +kernel
theorem dX8_bars_32 : decode cX8_bars 32 = .ok (.iload_n 2, 1) := by decide +kernel
theorem dX8_bars_33 : decode cX8_bars 33 = .ok (.invokevirtual 212, 3) := by decide +kernel
theorem dX8_bars_36 : decode cX8_bars 36 = .ok (.ireturn, 1) := by decide +kernel
theorem dX8_paid_0 : decode cX8_paid 0 = .ok (.aload_n 0, 1) := by decide +kernel
theorem dX8_paid_1 : decode cX8_paid 1 = .ok (.getfield 62, 3) := by decide +kernel
theorem dX8_paid_4 : decode cX8_paid 4 = .ok (.iload_n 1, 1) := by decide +kernel
theorem dX8_paid_5 : decode cX8_paid 5 = .ok (.invokevirtual 88, 3) := by decide +kernel
theorem dX8_paid_8 : decode cX8_paid 8 = .ok (.ifCond .eq 12, 3) := by decide +kernel
theorem dX8_paid_11 : decode cX8_paid 11 = .ok (.iload_n 2, 1) := by decide +kernel
theorem dX8_paid_12 : decode cX8_paid 12 = .ok (.ifCond .lt 8, 3) := by decide +kernel
theorem dX8_paid_15 : decode cX8_paid 15 = .ok (.iload_n 2, 1) := by decide +kernel
theorem dX8_paid_16 : decode cX8_paid 16 = .ok (.iconst 1, 1) := by decide +kernel
theorem dX8_paid_17 : decode cX8_paid 17 = .ok (.if_icmp .le 5, 3) := by decide +kernel
theorem dX8_paid_20 : decode cX8_paid 20 = .ok (.iconst (-1), 1) := by decide +kernel
theorem dX8_paid_21 : decode cX8_paid 21 = .ok (.ireturn, 1) := by decide +kernel
theorem dX8_paid_22 : decode cX8_paid 22 = .ok (.aload_n 0, 1) := by decide +kernel
theorem dX8_paid_23 : decode cX8_paid 23 = .ok (.getfield 41, 3) := by decide +kernel
theorem dX8_paid_26 : decode cX8_paid 26 = .ok (.aload_n 0, 1) := by decide +kernel
theorem dX8_paid_27 : decode cX8_paid 27 = .ok (.getfield 62, 3) := by decide +kernel
theorem dX8_paid_30 : decode cX8_paid 30 = .ok (.aload_n 0, 1) := by decide +kernel
theorem dX8_paid_31 : decode cX8_paid 31 = .ok (.getfield 19, 3) := by decide +kernel
theorem dX8_paid_34 : decode cX8_paid 34 = .ok (.getfield 104, 3) := by decide +kernel
theorem dX8_paid_37 : decode cX8_paid 37 = .ok (.getfield 108, 3) := by decide +kernel
theorem dX8_paid_40 : decode cX8_paid 40 = .ok (.iload_n 1, 1) := by decide +kernel
theorem dX8_paid_41 : decode cX8_paid 41 = .ok (.iaload, 1) := by decide +kernel
theorem dX8_paid_42 : decode cX8_paid 42 = .ok (.iload_n 2, 1) := by decide +kernel
theorem dX8_paid_43 : decode cX8_paid 43 = .ok (.ifCond .ne 7, 3) := by decide +kernel
theorem dX8_paid_46 : decode cX8_paid 46 = .ok (.iconst 1, 1) := by decide +kernel
theorem dX8_paid_47 : decode cX8_paid 47 = .ok (.goto 4, 3) := by decide +kernel
theorem dX8_paid_50 : decode cX8_paid 50 = .ok (.iconst 0, 1) := by decide +kernel
theorem dX8_paid_51 : decode cX8_paid 51 = .ok (.invokevirtual 216, 3) := by decide +kernel
theorem dX8_paid_54 : decode cX8_paid 54 = .ok (.ireturn, 1) := by decide +kernel
theorem dX8_coins_0 : decode cX8_coins 0 = .ok (.iload_n 2, 1) := by decide +kernel
theorem dX8_coins_1 : decode cX8_coins 1 = .ok (.iconst (-1), 1) := by decide +kernel
theorem dX8_coins_2 : decode cX8_coins 2 = .ok (.if_icmp .eq 9, 3) := by decide +kernel
theorem dX8_coins_5 : decode cX8_coins 5 = .ok (.iload_n 2, 1) := by decide +kernel
theorem dX8_coins_6 : decode cX8_coins 6 = .ok (.bipush (-2), 2) := by decide +kernel
theorem dX8_coins_8 : decode cX8_coins 8 = .ok (.if_icmp .ne 7, 3) := by decide +kernel
theorem dX8_coins_11 : decode cX8_coins 11 = .ok (.iconst 1, 1) := by decide +kernel
theorem dX8_coins_12 : decode cX8_coins 12 = .ok (.goto 4, 3) := by decide +kernel
theorem dX8_coins_15 : decode cX8_coins 15 = .ok (.iconst 0, 1) := by decide +kernel
theorem dX8_coins_16 : decode cX8_coins 16 = .ok (.istore_n 3, 1) := by decide +kernel
theorem dX8_coins_17 : decode cX8_coins 17 = .ok (.iload_n 1, 1) := by decide +kernel
theorem dX8_coins_18 : decode cX8_coins 18 = .ok (.invokestatic 220, 3) := by decide +kernel
theorem dX8_coins_21 : decode cX8_coins 21 = .ok (.ifCond .eq 18, 3) := by decide +kernel
theorem dX8_coins_24 : decode cX8_coins 24 = .ok (.iload_n 3, 1) := by decide +kernel
theorem dX8_coins_25 : decode cX8_coins 25 = .ok (.ifCond .ne 16, 3) := by decide +kernel
theorem dX8_coins_28 : decode cX8_coins 28 = .ok (.aload_n 0, 1) := by decide +kernel
theorem dX8_coins_29 : decode cX8_coins 29 = .ok (.getfield 62, 3) := by decide +kernel
theorem dX8_coins_32 : decode cX8_coins 32 = .ok (.iload_n 2, 1) := by decide +kernel
theorem dX8_coins_33 : decode cX8_coins 33 = .ok (.invokevirtual 88, 3) := by decide +kernel
theorem dX8_coins_36 : decode cX8_coins 36 = .ok (.ifCond .ne 5, 3) := by decide +kernel
theorem dX8_coins_39 : decode cX8_coins 39 = .ok (.iconst (-1), 1) := by decide +kernel
theorem dX8_coins_40 : decode cX8_coins 40 = .ok (.ireturn, 1) := by decide +kernel
theorem dX8_coins_41 : decode cX8_coins 41 = .ok (.aload_n 0, 1) := by decide +kernel
theorem dX8_coins_42 : decode cX8_coins 42 = .ok (.getfield 41, 3) := by decide +kernel
theorem dX8_coins_45 : decode cX8_coins 45 = .ok (.aload_n 0, 1) := by decide +kernel
theorem dX8_coins_46 : decode cX8_coins 46 = .ok (.getfield 62, 3) := by decide +kernel
theorem dX8_coins_49 : decode cX8_coins 49 = .ok (.aload_n 0, 1) := by decide +kernel
theorem dX8_coins_50 : decode cX8_coins 50 = .ok (.getfield 19, 3) := by decide +kernel
theorem dX8_coins_53 : decode cX8_coins 53 = .ok (.getfield 104, 3) := by decide +kernel
theorem dX8_coins_56 : decode cX8_coins 56 = .ok (.iload_n 1, 1) := by decide +kernel
theorem dX8_coins_57 : decode cX8_coins 57 = .ok (.invokevirtual 223, 3) := by decide +kernel
theorem dX8_coins_60 : decode cX8_coins 60 = .ok (.iload_n 2, 1) := by decide +kernel
theorem dX8_coins_61 : decode cX8_coins 61 = .ok (.iconst (-1), 1) := by decide +kernel
theorem dX8_coins_62 : decode cX8_coins 62 = .ok (.if_icmp .ne 12, 3) := by decide +kernel
theorem dX8_coins_65 : decode cX8_coins 65 = .ok (.aload_n 0, 1) := by decide +kernel
theorem dX8_coins_66 : decode cX8_coins 66 = .ok (.getfield 41, 3) := by decide +kernel
theorem dX8_coins_69 : decode cX8_coins 69 = .ok (.iload_n 1, 1) := by decide +kernel
theorem dX8_coins_70 : decode cX8_coins 70 = .ok (.invokevirtual 227, 3) := by decide +kernel
theorem dX8_coins_73 : decode cX8_coins 73 = .ok (.ireturn, 1) := by decide +kernel
theorem dX8_coins_74 : decode cX8_coins 74 = .ok (.iload_n 2, 1) := by decide +kernel
theorem dX8_coins_75 : decode cX8_coins 75 = .ok (.bipush (-2), 2) := by decide +kernel
theorem dX8_coins_77 : decode cX8_coins 77 = .ok (.if_icmp .ne 14, 3) := by decide +kernel
theorem dX8_coins_80 : decode cX8_coins 80 = .ok (.aload_n 0, 1) := by decide +kernel
theorem dX8_coins_81 : decode cX8_coins 81 = .ok (.getfield 41, 3) := by decide +kernel
theorem dX8_coins_84 : decode cX8_coins 84 = .ok (.iload_n 1, 1) := by decide +kernel
theorem dX8_coins_85 : decode cX8_coins 85 = .ok (.invokevirtual 230, 3) := by decide +kernel
theorem dX8_coins_88 : decode cX8_coins 88 = .ok (.goto 12, 3) := by decide +kernel
theorem dX8_coins_91 : decode cX8_coins 91 = .ok (.aload_n 0, 1) := by decide +kernel
theorem dX8_coins_92 : decode cX8_coins 92 = .ok (.getfield 41, 3) := by decide +kernel
theorem dX8_coins_95 : decode cX8_coins 95 = .ok (.iload_n 2, 1) := by decide +kernel
theorem dX8_coins_96 : decode cX8_coins 96 = .ok (.iload_n 1, 1) := by decide +kernel
theorem dX8_coins_97 : decode cX8_coins 97 = .ok (.invokevirtual 233, 3) := by decide +kernel
theorem dX8_coins_100 : decode cX8_coins 100 = .ok (.ireturn, 1) := by decide +kernel
theorem dX8_free_0 : decode cX8_free 0 = .ok (.aload_n 0, 1) := by decide +kernel
theorem dX8_free_1 : decode cX8_free 1 = .ok (.getfield 62, 3) := by decide +kernel
theorem dX8_free_4 : decode cX8_free 4 = .ok (.iload_n 1, 1) := by decide +kernel
theorem dX8_free_5 : decode cX8_free 5 = .ok (.invokevirtual 88, 3) := by decide +kernel
theorem dX8_free_8 : decode cX8_free 8 = .ok (.ifCond .eq 10, 3) := by decide +kernel
theorem dX8_free_11 : decode cX8_free 11 = .ok (.iload_n 2, 1) := by decide +kernel
theorem dX8_free_12 : decode cX8_free 12 = .ok (.invokestatic 220, 3) := by decide +kernel
theorem dX8_free_15 : decode cX8_free 15 = .ok (.ifCond .ne 5, 3) := by decide +kernel
theorem dX8_free_18 : decode cX8_free 18 = .ok (.iconst (-1), 1) := by decide +kernel
theorem dX8_free_19 : decode cX8_free 19 = .ok (.ireturn, 1) := by decide +kernel
theorem dX8_free_20 : decode cX8_free 20 = .ok (.aload_n 0, 1) := by decide +kernel
theorem dX8_free_21 : decode cX8_free 21 = .ok (.getfield 19, 3) := by decide +kernel
theorem dX8_free_24 : decode cX8_free 24 = .ok (.getfield 104, 3) := by decide +kernel
theorem dX8_free_27 : decode cX8_free 27 = .ok (.getfield 108, 3) := by decide +kernel
theorem dX8_free_30 : decode cX8_free 30 = .ok (.iload_n 1, 1) := by decide +kernel
theorem dX8_free_31 : decode cX8_free 31 = .ok (.iaload, 1) := by decide +kernel
theorem dX8_free_32 : decode cX8_free 32 = .ok (.aload_n 0, 1) := by decide +kernel
theorem dX8_free_33 : decode cX8_free 33 = .ok (.getfield 62, 3) := by decide +kernel
theorem dX8_free_36 : decode cX8_free 36 = .ok (.getfield 101, 3) := by decide +kernel
theorem dX8_free_39 : decode cX8_free 39 = .ok (.iload_n 1, 1) := by decide +kernel
theorem dX8_free_40 : decode cX8_free 40 = .ok (.iaload, 1) := by decide +kernel
theorem dX8_free_41 : decode cX8_free 41 = .ok (.iload_n 2, 1) := by decide +kernel
theorem dX8_free_42 : decode cX8_free 42 = .ok (.invokestatic 236, 3) := by decide +kernel
theorem dX8_free_45 : decode cX8_free 45 = .ok (.ireturn, 1) := by decide +kernel
theorem dX8_who_0 : decode cX8_who 0 = .ok (.iload_n 1, 1) := by decide +kernel
theorem dX8_who_1 : decode cX8_who 1 = .ok (.ifCond .lt 23, 3) := by decide +kernel
theorem dX8_who_4 : decode cX8_who 4 = .ok (.iload_n 1, 1) := by decide +kernel
theorem dX8_who_5 : decode cX8_who 5 = .ok (.bipush 6, 2) := by decide +kernel
theorem dX8_who_7 : decode cX8_who 7 = .ok (.if_icmp .gt 17, 3) := by decide +kernel
theorem dX8_who_10 : decode cX8_who 10 = .ok (.iload_n 2, 1) := by decide +kernel
theorem dX8_who_11 : decode cX8_who 11 = .ok (.invokestatic 220, 3) := by decide +kernel
theorem dX8_who_14 : decode cX8_who 14 = .ok (.ifCond .eq 10, 3) := by decide +kernel
theorem dX8_who_17 : decode cX8_who 17 = .ok (.iload_n 3, 1) := by decide +kernel
theorem dX8_who_18 : decode cX8_who 18 = .ok (.invokestatic 220, 3) := by decide +kernel
theorem dX8_who_21 : decode cX8_who 21 = .ok (.ifCond .ne 5, 3) := by decide +kernel
theorem dX8_who_24 : decode cX8_who 24 = .ok (.iconst (-1), 1) := by decide +kernel
theorem dX8_who_25 : decode cX8_who 25 = .ok (.ireturn, 1) := by decide +kernel
theorem dX8_who_26 : decode cX8_who 26 = .ok (.iload 4, 2) := by decide +kernel
theorem dX8_who_28 : decode cX8_who 28 = .ok (.ifCond .lt 9, 3) := by decide +kernel
theorem dX8_who_31 : decode cX8_who 31 = .ok (.iload 4, 2) := by decide +kernel
theorem dX8_who_33 : decode cX8_who 33 = .ok (.iconst 2, 1) := by decide +kernel
theorem dX8_who_34 : decode cX8_who 34 = .ok (.if_icmp .le 5, 3) := by decide +kernel
theorem dX8_who_37 : decode cX8_who 37 = .ok (.iconst (-1), 1) := by decide +kernel
theorem dX8_who_38 : decode cX8_who 38 = .ok (.ireturn, 1) := by decide +kernel
theorem dX8_who_39 : decode cX8_who 39 = .ok (.aload_n 0, 1) := by decide +kernel
theorem dX8_who_40 : decode cX8_who 40 = .ok (.getfield 55, 3) := by decide +kernel
theorem dX8_who_43 : decode cX8_who 43 = .ok (.aload_n 0, 1) := by decide +kernel
theorem dX8_who_44 : decode cX8_who 44 = .ok (.getfield 62, 3) := by decide +kernel
theorem dX8_who_47 : decode cX8_who 47 = .ok (.iload_n 1, 1) := by decide +kernel
theorem dX8_who_48 : decode cX8_who 48 = .ok (.iload_n 2, 1) := by decide +kernel
theorem dX8_who_49 : decode cX8_who 49 = .ok (.iload_n 3, 1) := by decide +kernel
theorem dX8_who_50 : decode cX8_who 50 = .ok (.invokevirtual 240, 3) := by decide +kernel
theorem dX8_who_53 : decode cX8_who 53 = .ok (.iload 4, 2) := by decide +kernel
theorem dX8_who_55 : decode cX8_who 55 = .ok (.lookupswitch 55 #[(0, 25), (1, 33)], 25) := by decide +kernel
theorem dX8_who_80 : decode cX8_who 80 = .ok (.aload_n 0, 1) := by decide +kernel
theorem dX8_who_81 : decode cX8_who 81 = .ok (.getfield 55, 3) := by decide +kernel
theorem dX8_who_84 : decode cX8_who 84 = .ok (.getfield 244, 3) := by decide +kernel
theorem dX8_who_87 : decode cX8_who 87 = .ok (.ireturn, 1) := by decide +kernel
theorem dX8_who_88 : decode cX8_who 88 = .ok (.aload_n 0, 1) := by decide +kernel
theorem dX8_who_89 : decode cX8_who 89 = .ok (.getfield 55, 3) := by decide +kernel
theorem dX8_who_92 : decode cX8_who 92 = .ok (.getfield 244, 3) := by decide +kernel
theorem dX8_who_95 : decode cX8_who 95 = .ok (.ifCond .ne 7, 3) := by decide +kernel
theorem dX8_who_98 : decode cX8_who 98 = .ok (.iconst 0, 1) := by decide +kernel
theorem dX8_who_99 : decode cX8_who 99 = .ok (.goto 10, 3) := by decide +kernel
theorem dX8_who_102 : decode cX8_who 102 = .ok (.aload_n 0, 1) := by decide +kernel
theorem dX8_who_103 : decode cX8_who 103 = .ok (.getfield 55, 3) := by decide +kernel
theorem dX8_who_106 : decode cX8_who 106 = .ok (.getfield 247, 3) := by decide +kernel
theorem dX8_who_109 : decode cX8_who 109 = .ok (.ireturn, 1) := by decide +kernel
theorem dX8_who_110 : decode cX8_who 110 = .ok (.aload_n 0, 1) := by decide +kernel
theorem dX8_who_111 : decode cX8_who 111 = .ok (.getfield 55, 3) := by decide +kernel
theorem dX8_who_114 : decode cX8_who 114 = .ok (.getfield 250, 3) := by decide +kernel
theorem dX8_who_117 : decode cX8_who 117 = .ok (.ireturn, 1) := by decide +kernel
theorem dX8_odds_0 : decode cX8_odds 0 = .ok (.iload_n 1, 1) := by decide +kernel
theorem dX8_odds_1 : decode cX8_odds 1 = .ok (.invokestatic 220, 3) := by decide +kernel
theorem dX8_odds_4 : decode cX8_odds 4 = .ok (.ifCond .eq 12, 3) := by decide +kernel
theorem dX8_odds_7 : decode cX8_odds 7 = .ok (.iload_n 2, 1) := by decide +kernel
theorem dX8_odds_8 : decode cX8_odds 8 = .ok (.ifCond .lt 8, 3) := by decide +kernel
theorem dX8_odds_11 : decode cX8_odds 11 = .ok (.iload_n 2, 1) := by decide +kernel
theorem dX8_odds_12 : decode cX8_odds 12 = .ok (.iconst 1, 1) := by decide +kernel
theorem dX8_odds_13 : decode cX8_odds 13 = .ok (.if_icmp .le 5, 3) := by decide +kernel
theorem dX8_odds_16 : decode cX8_odds 16 = .ok (.iconst (-1), 1) := by decide +kernel
theorem dX8_odds_17 : decode cX8_odds 17 = .ok (.ireturn, 1) := by decide +kernel
theorem dX8_odds_18 : decode cX8_odds 18 = .ok (.aload_n 0, 1) := by decide +kernel
theorem dX8_odds_19 : decode cX8_odds 19 = .ok (.getfield 55, 3) := by decide +kernel
theorem dX8_odds_22 : decode cX8_odds 22 = .ok (.aload_n 0, 1) := by decide +kernel
theorem dX8_odds_23 : decode cX8_odds 23 = .ok (.getfield 62, 3) := by decide +kernel
theorem dX8_odds_26 : decode cX8_odds 26 = .ok (.iload_n 1, 1) := by decide +kernel
theorem dX8_odds_27 : decode cX8_odds 27 = .ok (.iload_n 2, 1) := by decide +kernel
theorem dX8_odds_28 : decode cX8_odds 28 = .ok (.ifCond .ne 7, 3) := by decide +kernel
theorem dX8_odds_31 : decode cX8_odds 31 = .ok (.iconst 1, 1) := by decide +kernel
theorem dX8_odds_32 : decode cX8_odds 32 = .ok (.goto 4, 3) := by decide +kernel
theorem dX8_odds_35 : decode cX8_odds 35 = .ok (.iconst 0, 1) := by decide +kernel
theorem dX8_odds_36 : decode cX8_odds 36 = .ok (.invokevirtual 253, 3) := by decide +kernel
theorem dX8_odds_39 : decode cX8_odds 39 = .ok (.ireturn, 1) := by decide +kernel
theorem dX8_mark_0 : decode cX8_mark 0 = .ok (.aload_n 0, 1) := by decide +kernel
theorem dX8_mark_1 : decode cX8_mark 1 = .ok (.getfield 62, 3) := by decide +kernel
theorem dX8_mark_4 : decode cX8_mark 4 = .ok (.iload_n 2, 1) := by decide +kernel
theorem dX8_mark_5 : decode cX8_mark 5 = .ok (.invokevirtual 88, 3) := by decide +kernel
theorem dX8_mark_8 : decode cX8_mark 8 = .ok (.ifCond .ne 7, 3) := by decide +kernel
theorem dX8_mark_11 : decode cX8_mark 11 = .ok (.ldc_w 256, 3) := by decide +kernel
theorem dX8_mark_14 : decode cX8_mark 14 = .ok (.ireturn, 1) := by decide +kernel
theorem dX8_mark_15 : decode cX8_mark 15 = .ok (.iload_n 1, 1) := by decide +kernel
theorem dX8_mark_16 : decode cX8_mark 16 = .ok (.tableswitch 76 0 5 #[40, 46, 52, 58, 64, 70], 40) := by decide +kernel
theorem dX8_mark_56 : decode cX8_mark 56 = .ok (.aload_n 0, 1) := by decide +kernel
theorem dX8_mark_57 : decode cX8_mark 57 = .ok (.iload_n 2, 1) := by decide +kernel
theorem dX8_mark_58 : decode cX8_mark 58 = .ok (.invokevirtual 257, 3) := by decide +kernel
theorem dX8_mark_61 : decode cX8_mark 61 = .ok (.ireturn, 1) := by decide +kernel
theorem dX8_mark_62 : decode cX8_mark 62 = .ok (.aload_n 0, 1) := by decide +kernel
theorem dX8_mark_63 : decode cX8_mark 63 = .ok (.iload_n 2, 1) := by decide +kernel
theorem dX8_mark_64 : decode cX8_mark 64 = .ok (.invokevirtual 260, 3) := by decide +kernel
theorem dX8_mark_67 : decode cX8_mark 67 = .ok (.ireturn, 1) := by decide +kernel
theorem dX8_mark_68 : decode cX8_mark 68 = .ok (.aload_n 0, 1) := by decide +kernel
theorem dX8_mark_69 : decode cX8_mark 69 = .ok (.iload_n 2, 1) := by decide +kernel
theorem dX8_mark_70 : decode cX8_mark 70 = .ok (.invokevirtual 263, 3) := by decide +kernel
theorem dX8_mark_73 : decode cX8_mark 73 = .ok (.ireturn, 1) := by decide +kernel
theorem dX8_mark_74 : decode cX8_mark 74 = .ok (.aload_n 0, 1) := by decide +kernel
theorem dX8_mark_75 : decode cX8_mark 75 = .ok (.iload_n 2, 1) := by decide +kernel
theorem dX8_mark_76 : decode cX8_mark 76 = .ok (.invokevirtual 266, 3) := by decide +kernel
theorem dX8_mark_79 : decode cX8_mark 79 = .ok (.ireturn, 1) := by decide +kernel
theorem dX8_mark_80 : decode cX8_mark 80 = .ok (.aload_n 0, 1) := by decide +kernel
theorem dX8_mark_81 : decode cX8_mark 81 = .ok (.iload_n 2, 1) := by decide +kernel
theorem dX8_mark_82 : decode cX8_mark 82 = .ok (.invokevirtual 269, 3) := by decide +kernel
theorem dX8_mark_85 : decode cX8_mark 85 = .ok (.ireturn, 1) := by decide +kernel
theorem dX8_mark_86 : decode cX8_mark 86 = .ok (.aload_n 0, 1) := by decide +kernel
theorem dX8_mark_87 : decode cX8_mark 87 = .ok (.iload_n 2, 1) := by decide +kernel
theorem dX8_mark_88 : decode cX8_mark 88 = .ok (.invokevirtual 272, 3) := by decide +kernel
theorem dX8_mark_91 : decode cX8_mark 91 = .ok (.ireturn, 1) := by decide +kernel
theorem dX8_mark_92 : decode cX8_mark 92 = .ok (.ldc_w 256, 3) := by decide +kernel
theorem dX8_mark_95 : decode cX8_mark 95 = .ok (.ireturn, 1) := by decide +kernel
theorem dX8_keep_0 : decode cX8_keep 0 = .ok (.iload_n 1, 1) := by decide +kernel
theorem dX8_keep_1 : decode cX8_keep 1 = .ok (.invokestatic 275, 3) := by decide +kernel
theorem dX8_keep_4 : decode cX8_keep 4 = .ok (.ifCond .ne 5, 3) := by decide +kernel
theorem dX8_keep_7 : decode cX8_keep 7 = .ok (.iconst (-1), 1) := by decide +kernel
theorem dX8_keep_8 : decode cX8_keep 8 = .ok (.ireturn, 1) := by decide +kernel
theorem dX8_keep_9 : decode cX8_keep 9 = .ok (.aload_n 0, 1) := by decide +kernel
theorem dX8_keep_10 : decode cX8_keep 10 = .ok (.getfield 23, 3) := by decide +kernel
theorem dX8_keep_13 : decode cX8_keep 13 = .ok (.iload_n 1, 1) := by decide +kernel
theorem dX8_keep_14 : decode cX8_keep 14 = .ok (.aaload, 1) := by decide +kernel
theorem dX8_keep_15 : decode cX8_keep 15 = .ok (.aload_n 0, 1) := by decide +kernel
theorem dX8_keep_16 : decode cX8_keep 16 = .ok (.getfield 19, 3) := by decide +kernel
theorem dX8_keep_19 : decode cX8_keep 19 = .ok (.invokevirtual 278, 3) := by decide +kernel
theorem dX8_keep_22 : decode cX8_keep 22 = .ok (.aload_n 0, 1) := by decide +kernel
theorem dX8_keep_23 : decode cX8_keep 23 = .ok (.getfield 27, 3) := by decide +kernel
theorem dX8_keep_26 : decode cX8_keep 26 = .ok (.iload_n 1, 1) := by decide +kernel
theorem dX8_keep_27 : decode cX8_keep 27 = .ok (.iconst 1, 1) := by decide +kernel
