theorem dX9_pays_59 : decode cX9_pays 59 = .ok (.iaload, 1) := by decide +kernel
theorem dX9_pays_60 : decode cX9_pays 60 = .ok (.iload_n 3, 1) := by decide +kernel
theorem dX9_pays_61 : decode cX9_pays 61 = .ok (.iadd, 1) := by decide +kernel
theorem dX9_pays_62 : decode cX9_pays 62 = .ok (.iastore, 1) := by decide +kernel
theorem dX9_pays_63 : decode cX9_pays 63 = .ok (.aload_n 0, 1) := by decide +kernel
theorem dX9_pays_64 : decode cX9_pays 64 = .ok (.getfield 19, 3) := by decide +kernel
theorem dX9_pays_67 : decode cX9_pays 67 = .ok (.iload_n 1, 1) := by decide +kernel
theorem dX9_pays_68 : decode cX9_pays 68 = .ok (.iaload, 1) := by decide +kernel
theorem dX9_pays_69 : decode cX9_pays 69 = .ok (.ireturn, 1) := by decide +kernel
theorem dX9_falls_0 : decode cX9_falls 0 = .ok (.aload_n 0, 1) := by decide +kernel
theorem dX9_falls_1 : decode cX9_falls 1 = .ok (.iload_n 1, 1) := by decide +kernel
theorem dX9_falls_2 : decode cX9_falls 2 = .ok (.invokevirtual 110, 3) := by decide +kernel
theorem dX9_falls_5 : decode cX9_falls 5 = .ok (.ifCond .eq 11, 3) := by decide +kernel
theorem dX9_falls_8 : decode cX9_falls 8 = .ok (.aload_n 0, 1) := by decide +kernel
theorem dX9_falls_9 : decode cX9_falls 9 = .ok (.iload_n 2, 1) := by decide +kernel
theorem dX9_falls_10 : decode cX9_falls 10 = .ok (.invokevirtual 104, 3) := by decide +kernel
theorem dX9_falls_13 : decode cX9_falls 13 = .ok (.ifCond .ne 5, 3) := by decide +kernel
theorem dX9_falls_16 : decode cX9_falls 16 = .ok (.iconst (-1), 1) := by decide +kernel
theorem dX9_falls_17 : decode cX9_falls 17 = .ok (.ireturn, 1) := by decide +kernel
theorem dX9_falls_18 : decode cX9_falls 18 = .ok (.aload_n 0, 1) := by decide +kernel
theorem dX9_falls_19 : decode cX9_falls 19 = .ok (.invokevirtual 114, 3) := by decide +kernel
theorem dX9_falls_22 : decode cX9_falls 22 = .ok (.aload_n 0, 1) := by decide +kernel
theorem dX9_falls_23 : decode cX9_falls 23 = .ok (.iload_n 2, 1) := by decide +kernel
theorem dX9_falls_24 : decode cX9_falls 24 = .ok (.aload_n 0, 1) := by decide +kernel
theorem dX9_falls_25 : decode cX9_falls 25 = .ok (.iload_n 1, 1) := by decide +kernel
theorem dX9_falls_26 : decode cX9_falls 26 = .ok (.invokevirtual 117, 3) := by decide +kernel
theorem dX9_falls_29 : decode cX9_falls 29 = .ok (.aload_n 0, 1) := by decide +kernel
theorem dX9_falls_30 : decode cX9_falls 30 = .ok (.getfield 13, 3) := by decide +kernel
theorem dX9_falls_33 : decode cX9_falls 33 = .ok (.bipush 44, 2) := by decide +kernel
theorem dX9_falls_35 : decode cX9_falls 35 = .ok (.iload_n 1, 1) := by decide +kernel
theorem dX9_falls_36 : decode cX9_falls 36 = .ok (.iadd, 1) := by decide +kernel
theorem dX9_falls_37 : decode cX9_falls 37 = .ok (.iaload, 1) := by decide +kernel
theorem dX9_falls_38 : decode cX9_falls 38 = .ok (.invokevirtual 120, 3) := by decide +kernel
theorem dX9_falls_41 : decode cX9_falls 41 = .ok (.ireturn, 1) := by decide +kernel
theorem dX9_together_0 : decode cX9_together 0 = .ok (.aload_n 0, 1) := by decide +kernel
theorem dX9_together_1 : decode cX9_together 1 = .ok (.iload_n 1, 1) := by decide +kernel
theorem dX9_together_2 : decode cX9_together 2 = .ok (.invokevirtual 110, 3) := by decide +kernel
theorem dX9_together_5 : decode cX9_together 5 = .ok (.ifCond .eq 24, 3) := by decide +kernel
theorem dX9_together_8 : decode cX9_together 8 = .ok (.aload_n 0, 1) := by decide +kernel
theorem dX9_together_9 : decode cX9_together 9 = .ok (.iload_n 2, 1) := by decide +kernel
theorem dX9_together_10 : decode cX9_together 10 = .ok (.invokevirtual 110, 3) := by decide +kernel
theorem dX9_together_13 : decode cX9_together 13 = .ok (.ifCond .eq 16, 3) := by decide +kernel
theorem dX9_together_16 : decode cX9_together 16 = .ok (.iload_n 1, 1) := by decide +kernel
theorem dX9_together_17 : decode cX9_together 17 = .ok (.iload_n 2, 1) := by decide +kernel
theorem dX9_together_18 : decode cX9_together 18 = .ok (.if_icmp .eq 11, 3) := by decide +kernel
theorem dX9_together_21 : decode cX9_together 21 = .ok (.aload_n 0, 1) := by decide +kernel
theorem dX9_together_22 : decode cX9_together 22 = .ok (.iload_n 3, 1) := by decide +kernel
theorem dX9_together_23 : decode cX9_together 23 = .ok (.invokevirtual 104, 3) := by decide +kernel
theorem dX9_together_26 : decode cX9_together 26 = .ok (.ifCond .ne 5, 3) := by decide +kernel
theorem dX9_together_29 : decode cX9_together 29 = .ok (.iconst (-1), 1) := by decide +kernel
theorem dX9_together_30 : decode cX9_together 30 = .ok (.ireturn, 1) := by decide +kernel
theorem dX9_together_31 : decode cX9_together 31 = .ok (.aload_n 0, 1) := by decide +kernel
theorem dX9_together_32 : decode cX9_together 32 = .ok (.invokevirtual 114, 3) := by decide +kernel
theorem dX9_together_35 : decode cX9_together 35 = .ok (.aload_n 0, 1) := by decide +kernel
theorem dX9_together_36 : decode cX9_together 36 = .ok (.iload_n 3, 1) := by decide +kernel
theorem dX9_together_37 : decode cX9_together 37 = .ok (.aload_n 0, 1) := by decide +kernel
theorem dX9_together_38 : decode cX9_together 38 = .ok (.getfield 13, 3) := by decide +kernel
theorem dX9_together_41 : decode cX9_together 41 = .ok (.iconst 3, 1) := by decide +kernel
theorem dX9_together_42 : decode cX9_together 42 = .ok (.iaload, 1) := by decide +kernel
theorem dX9_together_43 : decode cX9_together 43 = .ok (.aload_n 0, 1) := by decide +kernel
theorem dX9_together_44 : decode cX9_together 44 = .ok (.getfield 13, 3) := by decide +kernel
theorem dX9_together_47 : decode cX9_together 47 = .ok (.bipush 44, 2) := by decide +kernel
theorem dX9_together_49 : decode cX9_together 49 = .ok (.iload_n 1, 1) := by decide +kernel
theorem dX9_together_50 : decode cX9_together 50 = .ok (.iadd, 1) := by decide +kernel
theorem dX9_together_51 : decode cX9_together 51 = .ok (.iaload, 1) := by decide +kernel
theorem dX9_together_52 : decode cX9_together 52 = .ok (.aload_n 0, 1) := by decide +kernel
theorem dX9_together_53 : decode cX9_together 53 = .ok (.getfield 13, 3) := by decide +kernel
theorem dX9_together_56 : decode cX9_together 56 = .ok (.bipush 44, 2) := by decide +kernel
theorem dX9_together_58 : decode cX9_together 58 = .ok (.iload_n 2, 1) := by decide +kernel
theorem dX9_together_59 : decode cX9_together 59 = .ok (.iadd, 1) := by decide +kernel
theorem dX9_together_60 : decode cX9_together 60 = .ok (.iaload, 1) := by decide +kernel
theorem dX9_together_61 : decode cX9_together 61 = .ok (.iadd, 1) := by decide +kernel
theorem dX9_together_62 : decode cX9_together 62 = .ok (.invokevirtual 120, 3) := by decide +kernel
theorem dX9_together_65 : decode cX9_together 65 = .ok (.ireturn, 1) := by decide +kernel
theorem dX9_throwsDoll_0 : decode cX9_throwsDoll 0 = .ok (.aload_n 0, 1) := by decide +kernel
theorem dX9_throwsDoll_1 : decode cX9_throwsDoll 1 = .ok (.iload_n 1, 1) := by decide +kernel
theorem dX9_throwsDoll_2 : decode cX9_throwsDoll 2 = .ok (.invokevirtual 104, 3) := by decide +kernel
theorem dX9_throwsDoll_5 : decode cX9_throwsDoll 5 = .ok (.ifCond .ne 5, 3) := by decide +kernel
theorem dX9_throwsDoll_8 : decode cX9_throwsDoll 8 = .ok (.iconst (-1), 1) := by decide +kernel
theorem dX9_throwsDoll_9 : decode cX9_throwsDoll 9 = .ok (.ireturn, 1) := by decide +kernel
theorem dX9_throwsDoll_10 : decode cX9_throwsDoll 10 = .ok (.aload_n 0, 1) := by decide +kernel
theorem dX9_throwsDoll_11 : decode cX9_throwsDoll 11 = .ok (.getfield 19, 3) := by decide +kernel
theorem dX9_throwsDoll_14 : decode cX9_throwsDoll 14 = .ok (.bipush 7, 2) := by decide +kernel
theorem dX9_throwsDoll_16 : decode cX9_throwsDoll 16 = .ok (.iload_n 1, 1) := by decide +kernel
theorem dX9_throwsDoll_17 : decode cX9_throwsDoll 17 = .ok (.iadd, 1) := by decide +kernel
theorem dX9_throwsDoll_18 : decode cX9_throwsDoll 18 = .ok (.iaload, 1) := by decide +kernel
theorem dX9_throwsDoll_19 : decode cX9_throwsDoll 19 = .ok (.aload_n 0, 1) := by decide +kernel
theorem dX9_throwsDoll_20 : decode cX9_throwsDoll 20 = .ok (.getfield 13, 3) := by decide +kernel
theorem dX9_throwsDoll_23 : decode cX9_throwsDoll 23 = .ok (.iconst 2, 1) := by decide +kernel
theorem dX9_throwsDoll_24 : decode cX9_throwsDoll 24 = .ok (.iaload, 1) := by decide +kernel
theorem dX9_throwsDoll_25 : decode cX9_throwsDoll 25 = .ok (.if_icmp .lt 6, 3) := by decide +kernel
theorem dX9_throwsDoll_28 : decode cX9_throwsDoll 28 = .ok (.bipush (-2), 2) := by decide +kernel
theorem dX9_throwsDoll_30 : decode cX9_throwsDoll 30 = .ok (.ireturn, 1) := by decide +kernel
theorem dX9_throwsDoll_31 : decode cX9_throwsDoll 31 = .ok (.aload_n 0, 1) := by decide +kernel
theorem dX9_throwsDoll_32 : decode cX9_throwsDoll 32 = .ok (.invokevirtual 114, 3) := by decide +kernel
theorem dX9_throwsDoll_35 : decode cX9_throwsDoll 35 = .ok (.aload_n 0, 1) := by decide +kernel
theorem dX9_throwsDoll_36 : decode cX9_throwsDoll 36 = .ok (.getfield 19, 3) := by decide +kernel
theorem dX9_throwsDoll_39 : decode cX9_throwsDoll 39 = .ok (.bipush 7, 2) := by decide +kernel
theorem dX9_throwsDoll_41 : decode cX9_throwsDoll 41 = .ok (.iload_n 1, 1) := by decide +kernel
theorem dX9_throwsDoll_42 : decode cX9_throwsDoll 42 = .ok (.iadd, 1) := by decide +kernel
theorem dX9_throwsDoll_43 : decode cX9_throwsDoll 43 = .ok (.dup2, 1) := by decide +kernel
theorem dX9_throwsDoll_44 : decode cX9_throwsDoll 44 = .ok (.iaload, 1) := by decide +kernel
theorem dX9_throwsDoll_45 : decode cX9_throwsDoll 45 = .ok (.iconst 1, 1) := by decide +kernel
theorem dX9_throwsDoll_46 : decode cX9_throwsDoll 46 = .ok (.iadd, 1) := by decide +kernel
theorem dX9_throwsDoll_47 : decode cX9_throwsDoll 47 = .ok (.iastore, 1) := by decide +kernel
theorem dX9_throwsDoll_48 : decode cX9_throwsDoll 48 = .ok (.aload_n 0, 1) := by decide +kernel
theorem dX9_throwsDoll_49 : decode cX9_throwsDoll 49 = .ok (.iload_n 1, 1) := by decide +kernel
theorem dX9_throwsDoll_50 : decode cX9_throwsDoll 50 = .ok (.iconst 1, 1) := by decide +kernel
theorem dX9_throwsDoll_51 : decode cX9_throwsDoll 51 = .ok (.iconst 0, 1) := by decide +kernel
theorem dX9_throwsDoll_52 : decode cX9_throwsDoll 52 = .ok (.invokevirtual 120, 3) := by decide +kernel
theorem dX9_throwsDoll_55 : decode cX9_throwsDoll 55 = .ok (.ireturn, 1) := by decide +kernel
theorem dX9_sells_0 : decode cX9_sells 0 = .ok (.aload_n 0, 1) := by decide +kernel
theorem dX9_sells_1 : decode cX9_sells 1 = .ok (.iload_n 1, 1) := by decide +kernel
theorem dX9_sells_2 : decode cX9_sells 2 = .ok (.invokevirtual 104, 3) := by decide +kernel
theorem dX9_sells_5 : decode cX9_sells 5 = .ok (.ifCond .eq 26, 3) := by decide +kernel
theorem dX9_sells_8 : decode cX9_sells 8 = .ok (.aload_n 0, 1) := by decide +kernel
theorem dX9_sells_9 : decode cX9_sells 9 = .ok (.iload_n 2, 1) := by decide +kernel
theorem dX9_sells_10 : decode cX9_sells 10 = .ok (.invokevirtual 104, 3) := by decide +kernel
theorem dX9_sells_13 : decode cX9_sells 13 = .ok (.ifCond .eq 18, 3) := by decide +kernel
theorem dX9_sells_16 : decode cX9_sells 16 = .ok (.iload_n 1, 1) := by decide +kernel
theorem dX9_sells_17 : decode cX9_sells 17 = .ok (.iload_n 2, 1) := by decide +kernel
theorem dX9_sells_18 : decode cX9_sells 18 = .ok (.if_icmp .eq 13, 3) := by decide +kernel
theorem dX9_sells_21 : decode cX9_sells 21 = .ok (.iload_n 3, 1) := by decide +kernel
theorem dX9_sells_22 : decode cX9_sells 22 = .ok (.iconst 1, 1) := by decide +kernel
theorem dX9_sells_23 : decode cX9_sells 23 = .ok (.bipush 99, 2) := by decide +kernel
theorem dX9_sells_25 : decode cX9_sells 25 = .ok (.invokestatic 54, 3) := by decide +kernel
theorem dX9_sells_28 : decode cX9_sells 28 = .ok (.ifCond .ne 5, 3) := by decide +kernel
theorem dX9_sells_31 : decode cX9_sells 31 = .ok (.iconst (-1), 1) := by decide +kernel
theorem dX9_sells_32 : decode cX9_sells 32 = .ok (.ireturn, 1) := by decide +kernel
theorem dX9_sells_33 : decode cX9_sells 33 = .ok (.aload_n 0, 1) := by decide +kernel
theorem dX9_sells_34 : decode cX9_sells 34 = .ok (.getfield 19, 3) := by decide +kernel
theorem dX9_sells_37 : decode cX9_sells 37 = .ok (.iload_n 1, 1) := by decide +kernel
theorem dX9_sells_38 : decode cX9_sells 38 = .ok (.iaload, 1) := by decide +kernel
theorem dX9_sells_39 : decode cX9_sells 39 = .ok (.iload_n 3, 1) := by decide +kernel
theorem dX9_sells_40 : decode cX9_sells 40 = .ok (.if_icmp .ge 6, 3) := by decide +kernel
theorem dX9_sells_43 : decode cX9_sells 43 = .ok (.bipush (-2), 2) := by decide +kernel
theorem dX9_sells_45 : decode cX9_sells 45 = .ok (.ireturn, 1) := by decide +kernel
theorem dX9_sells_46 : decode cX9_sells 46 = .ok (.aload_n 0, 1) := by decide +kernel
theorem dX9_sells_47 : decode cX9_sells 47 = .ok (.getfield 19, 3) := by decide +kernel
theorem dX9_sells_50 : decode cX9_sells 50 = .ok (.iload_n 2, 1) := by decide +kernel
theorem dX9_sells_51 : decode cX9_sells 51 = .ok (.iaload, 1) := by decide +kernel
theorem dX9_sells_52 : decode cX9_sells 52 = .ok (.iload_n 3, 1) := by decide +kernel
theorem dX9_sells_53 : decode cX9_sells 53 = .ok (.iadd, 1) := by decide +kernel
theorem dX9_sells_54 : decode cX9_sells 54 = .ok (.sipush 999, 3) := by decide +kernel
theorem dX9_sells_57 : decode cX9_sells 57 = .ok (.if_icmp .le 6, 3) := by decide +kernel
theorem dX9_sells_60 : decode cX9_sells 60 = .ok (.bipush (-3), 2) := by decide +kernel
theorem dX9_sells_62 : decode cX9_sells 62 = .ok (.ireturn, 1) := by decide +kernel
theorem dX9_sells_63 : decode cX9_sells 63 = .ok (.aload_n 0, 1) := by decide +kernel
theorem dX9_sells_64 : decode cX9_sells 64 = .ok (.invokevirtual 114, 3) := by decide +kernel
theorem dX9_sells_67 : decode cX9_sells 67 = .ok (.aload_n 0, 1) := by decide +kernel
theorem dX9_sells_68 : decode cX9_sells 68 = .ok (.getfield 19, 3) := by decide +kernel
theorem dX9_sells_71 : decode cX9_sells 71 = .ok (.iload_n 1, 1) := by decide +kernel
theorem dX9_sells_72 : decode cX9_sells 72 = .ok (.dup2, 1) := by decide +kernel
theorem dX9_sells_73 : decode cX9_sells 73 = .ok (.iaload, 1) := by decide +kernel
theorem dX9_sells_74 : decode cX9_sells 74 = .ok (.iload_n 3, 1) := by decide +kernel
theorem dX9_sells_75 : decode cX9_sells 75 = .ok (.isub, 1) := by decide +kernel
theorem dX9_sells_76 : decode cX9_sells 76 = .ok (.iastore, 1) := by decide +kernel
theorem dX9_sells_77 : decode cX9_sells 77 = .ok (.aload_n 0, 1) := by decide +kernel
theorem dX9_sells_78 : decode cX9_sells 78 = .ok (.getfield 19, 3) := by decide +kernel
theorem dX9_sells_81 : decode cX9_sells 81 = .ok (.iload_n 2, 1) := by decide +kernel
theorem dX9_sells_82 : decode cX9_sells 82 = .ok (.dup2, 1) := by decide +kernel
theorem dX9_sells_83 : decode cX9_sells 83 = .ok (.iaload, 1) := by decide +kernel
theorem dX9_sells_84 : decode cX9_sells 84 = .ok (.iload_n 3, 1) := by decide +kernel
theorem dX9_sells_85 : decode cX9_sells 85 = .ok (.iadd, 1) := by decide +kernel
theorem dX9_sells_86 : decode cX9_sells 86 = .ok (.iastore, 1) := by decide +kernel
theorem dX9_sells_87 : decode cX9_sells 87 = .ok (.aload_n 0, 1) := by decide +kernel
theorem dX9_sells_88 : decode cX9_sells 88 = .ok (.getfield 19, 3) := by decide +kernel
theorem dX9_sells_91 : decode cX9_sells 91 = .ok (.bipush 14, 2) := by decide +kernel
theorem dX9_sells_93 : decode cX9_sells 93 = .ok (.bipush 7, 2) := by decide +kernel
theorem dX9_sells_95 : decode cX9_sells 95 = .ok (.iload_n 1, 1) := by decide +kernel
theorem dX9_sells_96 : decode cX9_sells 96 = .ok (.imul, 1) := by decide +kernel
theorem dX9_sells_97 : decode cX9_sells 97 = .ok (.iadd, 1) := by decide +kernel
theorem dX9_sells_98 : decode cX9_sells 98 = .ok (.iload_n 2, 1) := by decide +kernel
theorem dX9_sells_99 : decode cX9_sells 99 = .ok (.iadd, 1) := by decide +kernel
theorem dX9_sells_100 : decode cX9_sells 100 = .ok (.dup2, 1) := by decide +kernel
theorem dX9_sells_101 : decode cX9_sells 101 = .ok (.iaload, 1) := by decide +kernel
theorem dX9_sells_102 : decode cX9_sells 102 = .ok (.iload_n 3, 1) := by decide +kernel
theorem dX9_sells_103 : decode cX9_sells 103 = .ok (.iadd, 1) := by decide +kernel
theorem dX9_sells_104 : decode cX9_sells 104 = .ok (.iastore, 1) := by decide +kernel
theorem dX9_sells_105 : decode cX9_sells 105 = .ok (.aload_n 0, 1) := by decide +kernel
theorem dX9_sells_106 : decode cX9_sells 106 = .ok (.getfield 19, 3) := by decide +kernel
theorem dX9_sells_109 : decode cX9_sells 109 = .ok (.iload_n 1, 1) := by decide +kernel
theorem dX9_sells_110 : decode cX9_sells 110 = .ok (.iaload, 1) := by decide +kernel
theorem dX9_sells_111 : decode cX9_sells 111 = .ok (.ireturn, 1) := by decide +kernel
theorem dX9_redeems_0 : decode cX9_redeems 0 = .ok (.aload_n 0, 1) := by decide +kernel
theorem dX9_redeems_1 : decode cX9_redeems 1 = .ok (.iload_n 1, 1) := by decide +kernel
theorem dX9_redeems_2 : decode cX9_redeems 2 = .ok (.invokevirtual 104, 3) := by decide +kernel
theorem dX9_redeems_5 : decode cX9_redeems 5 = .ok (.ifCond .ne 5, 3) := by decide +kernel
theorem dX9_redeems_8 : decode cX9_redeems 8 = .ok (.iconst (-1), 1) := by decide +kernel
theorem dX9_redeems_9 : decode cX9_redeems 9 = .ok (.ireturn, 1) := by decide +kernel
theorem dX9_redeems_10 : decode cX9_redeems 10 = .ok (.aload_n 0, 1) := by decide +kernel
theorem dX9_redeems_11 : decode cX9_redeems 11 = .ok (.getfield 19, 3) := by decide +kernel
theorem dX9_redeems_14 : decode cX9_redeems 14 = .ok (.iload_n 1, 1) := by decide +kernel
theorem dX9_redeems_15 : decode cX9_redeems 15 = .ok (.iaload, 1) := by decide +kernel
theorem dX9_redeems_16 : decode cX9_redeems 16 = .ok (.ifCond .ne 6, 3) := by decide +kernel
theorem dX9_redeems_19 : decode cX9_redeems 19 = .ok (.bipush (-2), 2) := by decide +kernel
theorem dX9_redeems_21 : decode cX9_redeems 21 = .ok (.ireturn, 1) := by decide +kernel
theorem dX9_redeems_22 : decode cX9_redeems 22 = .ok (.aload_n 0, 1) := by decide +kernel
theorem dX9_redeems_23 : decode cX9_redeems 23 = .ok (.invokevirtual 114, 3) := by decide +kernel
theorem dX9_redeems_26 : decode cX9_redeems 26 = .ok (.aload_n 0, 1) := by decide +kernel
theorem dX9_redeems_27 : decode cX9_redeems 27 = .ok (.getfield 19, 3) := by decide +kernel
theorem dX9_redeems_30 : decode cX9_redeems 30 = .ok (.iload_n 1, 1) := by decide +kernel
theorem dX9_redeems_31 : decode cX9_redeems 31 = .ok (.iaload, 1) := by decide +kernel
theorem dX9_redeems_32 : decode cX9_redeems 32 = .ok (.istore_n 2, 1) := by decide +kernel
theorem dX9_redeems_33 : decode cX9_redeems 33 = .ok (.aload_n 0, 1) := by decide +kernel
theorem dX9_redeems_34 : decode cX9_redeems 34 = .ok (.getfield 19, 3) := by decide +kernel
theorem dX9_redeems_37 : decode cX9_redeems 37 = .ok (.iload_n 1, 1) := by decide +kernel
theorem dX9_redeems_38 : decode cX9_redeems 38 = .ok (.iconst 0, 1) := by decide +kernel
theorem dX9_redeems_39 : decode cX9_redeems 39 = .ok (.iastore, 1) := by decide +kernel
theorem dX9_redeems_40 : decode cX9_redeems 40 = .ok (.iload_n 2, 1) := by decide +kernel
theorem dX9_redeems_41 : decode cX9_redeems 41 = .ok (.ireturn, 1) := by decide +kernel
theorem dX9_all_0 : decode cX9_all 0 = .ok (.iconst 0, 1) := by decide +kernel
theorem dX9_all_1 : decode cX9_all 1 = .ok (.istore_n 1, 1) := by decide +kernel
theorem dX9_all_2 : decode cX9_all 2 = .ok (.iconst 0, 1) := by decide +kernel
theorem dX9_all_3 : decode cX9_all 3 = .ok (.istore_n 2, 1) := by decide +kernel
theorem dX9_all_4 : decode cX9_all 4 = .ok (.iload_n 2, 1) := by decide +kernel
theorem dX9_all_5 : decode cX9_all 5 = .ok (.aload_n 0, 1) := by decide +kernel
theorem dX9_all_6 : decode cX9_all 6 = .ok (.getfield 13, 3) := by decide +kernel
theorem dX9_all_9 : decode cX9_all 9 = .ok (.iconst 0, 1) := by decide +kernel
theorem dX9_all_10 : decode cX9_all 10 = .ok (.iaload, 1) := by decide +kernel
theorem dX9_all_11 : decode cX9_all 11 = .ok (.if_icmp .ge 18, 3) := by decide +kernel
theorem dX9_all_14 : decode cX9_all 14 = .ok (.iload_n 1, 1) := by decide +kernel
theorem dX9_all_15 : decode cX9_all 15 = .ok (.aload_n 0, 1) := by decide +kernel
theorem dX9_all_16 : decode cX9_all 16 = .ok (.getfield 19, 3) := by decide +kernel
theorem dX9_all_19 : decode cX9_all 19 = .ok (.iload_n 2, 1) := by decide +kernel
theorem dX9_all_20 : decode cX9_all 20 = .ok (.iaload, 1) := by decide +kernel
theorem dX9_all_21 : decode cX9_all 21 = .ok (.iadd, 1) := by decide +kernel
theorem dX9_all_22 : decode cX9_all 22 = .ok (.istore_n 1, 1) := by decide +kernel
theorem dX9_all_23 : decode cX9_all 23 = .ok (.iinc 2 1, 3) := by decide +kernel
theorem dX9_all_26 : decode cX9_all 26 = .ok (.goto (-22), 3) := by decide +kernel
theorem dX9_all_29 : decode cX9_all 29 = .ok (.iload_n 1, 1) := by decide +kernel
theorem dX9_all_30 : decode cX9_all 30 = .ok (.ireturn, 1) := by decide +kernel
theorem dX9_more_0 : decode cX9_more 0 = .ok (.iload_n 0, 1) := by decide +kernel
theorem dX9_more_1 : decode cX9_more 1 = .ok (.iload_n 1, 1) := by decide +kernel
theorem dX9_more_2 : decode cX9_more 2 = .ok (.iadd, 1) := by decide +kernel
theorem dX9_more_3 : decode cX9_more 3 = .ok (.sipush 999, 3) := by decide +kernel
theorem dX9_more_6 : decode cX9_more 6 = .ok (.if_icmp .le 9, 3) := by decide +kernel
theorem dX9_more_9 : decode cX9_more 9 = .ok (.sipush 999, 3) := by decide +kernel
theorem dX9_more_12 : decode cX9_more 12 = .ok (.goto 6, 3) := by decide +kernel
theorem dX9_more_15 : decode cX9_more 15 = .ok (.iload_n 0, 1) := by decide +kernel
theorem dX9_more_16 : decode cX9_more 16 = .ok (.iload_n 1, 1) := by decide +kernel
theorem dX9_more_17 : decode cX9_more 17 = .ok (.iadd, 1) := by decide +kernel
theorem dX9_more_18 : decode cX9_more 18 = .ok (.ireturn, 1) := by decide +kernel
theorem dX9_ends_0 : decode cX9_ends 0 = .ok (.aload_n 0, 1) := by decide +kernel
theorem dX9_ends_1 : decode cX9_ends 1 = .ok (.getfield 19, 3) := by decide +kernel
theorem dX9_ends_4 : decode cX9_ends 4 = .ok (.bipush 64, 2) := by decide +kernel
theorem dX9_ends_6 : decode cX9_ends 6 = .ok (.iaload, 1) := by decide +kernel
theorem dX9_ends_7 : decode cX9_ends 7 = .ok (.bipush 99, 2) := by decide +kernel
theorem dX9_ends_9 : decode cX9_ends 9 = .ok (.if_icmp .ne 6, 3) := by decide +kernel
theorem dX9_ends_12 : decode cX9_ends 12 = .ok (.bipush (-2), 2) := by decide +kernel
theorem dX9_ends_14 : decode cX9_ends 14 = .ok (.ireturn, 1) := by decide +kernel
theorem dX9_ends_15 : decode cX9_ends 15 = .ok (.aload_n 0, 1) := by decide +kernel
theorem dX9_ends_16 : decode cX9_ends 16 = .ok (.invokevirtual 114, 3) := by decide +kernel
theorem dX9_ends_19 : decode cX9_ends 19 = .ok (.iconst 0, 1) := by decide +kernel
theorem dX9_ends_20 : decode cX9_ends 20 = .ok (.istore_n 1, 1) := by decide +kernel
theorem dX9_ends_21 : decode cX9_ends 21 = .ok (.iload_n 1, 1) := by decide +kernel
theorem dX9_ends_22 : decode cX9_ends 22 = .ok (.aload_n 0, 1) := by decide +kernel
theorem dX9_ends_23 : decode cX9_ends 23 = .ok (.getfield 13, 3) := by decide +kernel
theorem dX9_ends_26 : decode cX9_ends 26 = .ok (.iconst 0, 1) := by decide +kernel
theorem dX9_ends_27 : decode cX9_ends 27 = .ok (.iaload, 1) := by decide +kernel
theorem dX9_ends_28 : decode cX9_ends 28 = .ok (.if_icmp .ge 43, 3) := by decide +kernel
theorem dX9_ends_31 : decode cX9_ends 31 = .ok (.aload_n 0, 1) := by decide +kernel
theorem dX9_ends_32 : decode cX9_ends 32 = .ok (.getfield 19, 3) := by decide +kernel
theorem dX9_ends_35 : decode cX9_ends 35 = .ok (.iload_n 1, 1) := by decide +kernel
theorem dX9_ends_36 : decode cX9_ends 36 = .ok (.aload_n 0, 1) := by decide +kernel
theorem dX9_ends_37 : decode cX9_ends 37 = .ok (.getfield 19, 3) := by decide +kernel
theorem dX9_ends_40 : decode cX9_ends 40 = .ok (.iload_n 1, 1) := by decide +kernel
theorem dX9_ends_41 : decode cX9_ends 41 = .ok (.iaload, 1) := by decide +kernel
theorem dX9_ends_42 : decode cX9_ends 42 = .ok (.aload_n 0, 1) := by decide +kernel
theorem dX9_ends_43 : decode cX9_ends 43 = .ok (.getfield 13, 3) := by decide +kernel
theorem dX9_ends_46 : decode cX9_ends 46 = .ok (.bipush 27, 2) := by decide +kernel
theorem dX9_ends_48 : decode cX9_ends 48 = .ok (.iload_n 1, 1) := by decide +kernel
theorem dX9_ends_49 : decode cX9_ends 49 = .ok (.iadd, 1) := by decide +kernel
theorem dX9_ends_50 : decode cX9_ends 50 = .ok (.iaload, 1) := by decide +kernel
theorem dX9_ends_51 : decode cX9_ends 51 = .ok (.invokestatic 124, 3) := by decide +kernel
theorem dX9_ends_54 : decode cX9_ends 54 = .ok (.iastore, 1) := by decide +kernel
theorem dX9_ends_55 : decode cX9_ends 55 = .ok (.aload_n 0, 1) := by decide +kernel
theorem dX9_ends_56 : decode cX9_ends 56 = .ok (.getfield 19, 3) := by decide +kernel
theorem dX9_ends_59 : decode cX9_ends 59 = .ok (.bipush 7, 2) := by decide +kernel
theorem dX9_ends_61 : decode cX9_ends 61 = .ok (.iload_n 1, 1) := by decide +kernel
theorem dX9_ends_62 : decode cX9_ends 62 = .ok (.iadd, 1) := by decide +kernel
theorem dX9_ends_63 : decode cX9_ends 63 = .ok (.iconst 0, 1) := by decide +kernel
theorem dX9_ends_64 : decode cX9_ends 64 = .ok (.iastore, 1) := by decide +kernel
theorem dX9_ends_65 : decode cX9_ends 65 = .ok (.iinc 1 1, 3) := by decide +kernel
theorem dX9_ends_68 : decode cX9_ends 68 = .ok (.goto (-47), 3) := by decide +kernel
theorem dX9_ends_71 : decode cX9_ends 71 = .ok (.iconst 0, 1) := by decide +kernel
theorem dX9_ends_72 : decode cX9_ends 72 = .ok (.istore_n 1, 1) := by decide +kernel
theorem dX9_ends_73 : decode cX9_ends 73 = .ok (.iload_n 1, 1) := by decide +kernel
theorem dX9_ends_74 : decode cX9_ends 74 = .ok (.bipush 49, 2) := by decide +kernel
theorem dX9_ends_76 : decode cX9_ends 76 = .ok (.if_icmp .ge 19, 3) := by decide +kernel
theorem dX9_ends_79 : decode cX9_ends 79 = .ok (.aload_n 0, 1) := by decide +kernel
theorem dX9_ends_80 : decode cX9_ends 80 = .ok (.getfield 19, 3) := by decide +kernel
theorem dX9_ends_83 : decode cX9_ends 83 = .ok (.bipush 14, 2) := by decide +kernel
theorem dX9_ends_85 : decode cX9_ends 85 = .ok (.iload_n 1, 1) := by decide +kernel
theorem dX9_ends_86 : decode cX9_ends 86 = .ok (.iadd, 1) := by decide +kernel
theorem dX9_ends_87 : decode cX9_ends 87 = .ok (.iconst 0, 1) := by decide +kernel
theorem dX9_ends_88 : decode cX9_ends 88 = .ok (.iastore, 1) := by decide +kernel
theorem dX9_ends_89 : decode cX9_ends 89 = .ok (.iinc 1 1, 3) := by decide +kernel
theorem dX9_ends_92 : decode cX9_ends 92 = .ok (.goto (-19), 3) := by decide +kernel
theorem dX9_ends_95 : decode cX9_ends 95 = .ok (.aload_n 0, 1) := by decide +kernel
theorem dX9_ends_96 : decode cX9_ends 96 = .ok (.getfield 19, 3) := by decide +kernel
theorem dX9_ends_99 : decode cX9_ends 99 = .ok (.bipush 64, 2) := by decide +kernel
theorem dX9_ends_101 : decode cX9_ends 101 = .ok (.dup2, 1) := by decide +kernel
theorem dX9_ends_102 : decode cX9_ends 102 = .ok (.iaload, 1) := by decide +kernel
theorem dX9_ends_103 : decode cX9_ends 103 = .ok (.iconst 1, 1) := by decide +kernel
theorem dX9_ends_104 : decode cX9_ends 104 = .ok (.iadd, 1) := by decide +kernel
theorem dX9_ends_105 : decode cX9_ends 105 = .ok (.iastore, 1) := by decide +kernel
theorem dX9_ends_106 : decode cX9_ends 106 = .ok (.aload_n 0, 1) := by decide +kernel
theorem dX9_ends_107 : decode cX9_ends 107 = .ok (.invokevirtual 128, 3) := by decide +kernel
theorem dX9_ends_110 : decode cX9_ends 110 = .ok (.ireturn, 1) := by decide +kernel
theorem dX9_undo_0 : decode cX9_undo 0 = .ok (.aload_n 0, 1) := by decide +kernel
theorem dX9_undo_1 : decode cX9_undo 1 = .ok (.getfield 19, 3) := by decide +kernel
theorem dX9_undo_4 : decode cX9_undo 4 = .ok (.bipush 65, 2) := by decide +kernel
theorem dX9_undo_6 : decode cX9_undo 6 = .ok (.iaload, 1) := by decide +kernel
theorem dX9_undo_7 : decode cX9_undo 7 = .ok (.ifCond .ne 6, 3) := by decide +kernel
theorem dX9_undo_10 : decode cX9_undo 10 = .ok (.bipush (-2), 2) := by decide +kernel
theorem dX9_undo_12 : decode cX9_undo 12 = .ok (.ireturn, 1) := by decide +kernel
theorem dX9_undo_13 : decode cX9_undo 13 = .ok (.aload_n 0, 1) := by decide +kernel
theorem dX9_undo_14 : decode cX9_undo 14 = .ok (.getfield 19, 3) := by decide +kernel
theorem dX9_undo_17 : decode cX9_undo 17 = .ok (.bipush 65, 2) := by decide +kernel
theorem dX9_undo_19 : decode cX9_undo 19 = .ok (.dup2, 1) := by decide +kernel
theorem dX9_undo_20 : decode cX9_undo 20 = .ok (.iaload, 1) := by decide +kernel
theorem dX9_undo_21 : decode cX9_undo 21 = .ok (.iconst 1, 1) := by decide +kernel
theorem dX9_undo_22 : decode cX9_undo 22 = .ok (.isub, 1) := by decide +kernel
theorem dX9_undo_23 : decode cX9_undo 23 = .ok (.iastore, 1) := by decide +kernel
theorem dX9_undo_24 : decode cX9_undo 24 = .ok (.bipush 66, 2) := by decide +kernel
theorem dX9_undo_26 : decode cX9_undo 26 = .ok (.bipush 65, 2) := by decide +kernel
theorem dX9_undo_28 : decode cX9_undo 28 = .ok (.aload_n 0, 1) := by decide +kernel
theorem dX9_undo_29 : decode cX9_undo 29 = .ok (.getfield 19, 3) := by decide +kernel
theorem dX9_undo_32 : decode cX9_undo 32 = .ok (.bipush 65, 2) := by decide +kernel
theorem dX9_undo_34 : decode cX9_undo 34 = .ok (.iaload, 1) := by decide +kernel
theorem dX9_undo_35 : decode cX9_undo 35 = .ok (.imul, 1) := by decide +kernel
theorem dX9_undo_36 : decode cX9_undo 36 = .ok (.iadd, 1) := by decide +kernel
theorem dX9_undo_37 : decode cX9_undo 37 = .ok (.istore_n 1, 1) := by decide +kernel
theorem dX9_undo_38 : decode cX9_undo 38 = .ok (.iconst 0, 1) := by decide +kernel
theorem dX9_undo_39 : decode cX9_undo 39 = .ok (.istore_n 2, 1) := by decide +kernel
theorem dX9_undo_40 : decode cX9_undo 40 = .ok (.iload_n 2, 1) := by decide +kernel
theorem dX9_undo_41 : decode cX9_undo 41 = .ok (.bipush 65, 2) := by decide +kernel
theorem dX9_undo_43 : decode cX9_undo 43 = .ok (.if_icmp .ge 23, 3) := by decide +kernel
theorem dX9_undo_46 : decode cX9_undo 46 = .ok (.aload_n 0, 1) := by decide +kernel
theorem dX9_undo_47 : decode cX9_undo 47 = .ok (.getfield 19, 3) := by decide +kernel
theorem dX9_undo_50 : decode cX9_undo 50 = .ok (.iload_n 2, 1) := by decide +kernel
theorem dX9_undo_51 : decode cX9_undo 51 = .ok (.aload_n 0, 1) := by decide +kernel
theorem dX9_undo_52 : decode cX9_undo 52 = .ok (.getfield 19, 3) := by decide +kernel
theorem dX9_undo_55 : decode cX9_undo 55 = .ok (.iload_n 1, 1) := by decide +kernel
theorem dX9_undo_56 : decode cX9_undo 56 = .ok (.iload_n 2, 1) := by decide +kernel
theorem dX9_undo_57 : decode cX9_undo 57 = .ok (.iadd, 1) := by decide +kernel
theorem dX9_undo_58 : decode cX9_undo 58 = .ok (.iaload, 1) := by decide +kernel
theorem dX9_undo_59 : decode cX9_undo 59 = .ok (.iastore, 1) := by decide +kernel
theorem dX9_undo_60 : decode cX9_undo 60 = .ok (.iinc 2 1, 3) := by decide +kernel
theorem dX9_undo_63 : decode cX9_undo 63 = .ok (.goto (-23), 3) := by decide +kernel
theorem dX9_undo_66 : decode cX9_undo 66 = .ok (.aload_n 0, 1) := by decide +kernel
theorem dX9_undo_67 : decode cX9_undo 67 = .ok (.getfield 19, 3) := by decide +kernel
theorem dX9_undo_70 : decode cX9_undo 70 = .ok (.bipush 65, 2) := by decide +kernel
theorem dX9_undo_72 : decode cX9_undo 72 = .ok (.iaload, 1) := by decide +kernel
theorem dX9_undo_73 : decode cX9_undo 73 = .ok (.ireturn, 1) := by decide +kernel
theorem dX9_dear_0 : decode cX9_dear 0 = .ok (.bipush (-9), 2) := by decide +kernel
theorem dX9_dear_2 : decode cX9_dear 2 = .ok (.istore_n 1, 1) := by decide +kernel
theorem dX9_dear_3 : decode cX9_dear 3 = .ok (.aload_n 0, 1) := by decide +kernel
theorem dX9_dear_4 : decode cX9_dear 4 = .ok (.getfield 13, 3) := by decide +kernel
theorem dX9_dear_7 : decode cX9_dear 7 = .ok (.iconst 0, 1) := by decide +kernel
theorem dX9_dear_8 : decode cX9_dear 8 = .ok (.iaload, 1) := by decide +kernel
theorem dX9_dear_9 : decode cX9_dear 9 = .ok (.iconst 1, 1) := by decide +kernel
theorem dX9_dear_10 : decode cX9_dear 10 = .ok (.isub, 1) := by decide +kernel
theorem dX9_dear_11 : decode cX9_dear 11 = .ok (.istore_n 2, 1) := by decide +kernel
theorem dX9_dear_12 : decode cX9_dear 12 = .ok (.iload_n 2, 1) := by decide +kernel
theorem dX9_dear_13 : decode cX9_dear 13 = .ok (.ifCond .lt 34, 3) := by decide +kernel
theorem dX9_dear_16 : decode cX9_dear 16 = .ok (.iload_n 1, 1) := by decide +kernel
theorem dX9_dear_17 : decode cX9_dear 17 = .ok (.bipush (-9), 2) := by decide +kernel
theorem dX9_dear_19 : decode cX9_dear 19 = .ok (.if_icmp .eq 16, 3) := by decide +kernel
theorem dX9_dear_22 : decode cX9_dear 22 = .ok (.aload_n 0, 1) := by decide +kernel
theorem dX9_dear_23 : decode cX9_dear 23 = .ok (.iload_n 2, 1) := by decide +kernel
theorem dX9_dear_24 : decode cX9_dear 24 = .ok (.invokevirtual 107, 3) := by decide +kernel
theorem dX9_dear_27 : decode cX9_dear 27 = .ok (.aload_n 0, 1) := by decide +kernel
theorem dX9_dear_28 : decode cX9_dear 28 = .ok (.iload_n 1, 1) := by decide +kernel
theorem dX9_dear_29 : decode cX9_dear 29 = .ok (.invokevirtual 107, 3) := by decide +kernel
theorem dX9_dear_32 : decode cX9_dear 32 = .ok (.if_icmp .lt 7, 3) := by decide +kernel
theorem dX9_dear_35 : decode cX9_dear 35 = .ok (.iload_n 2, 1) := by decide +kernel
theorem dX9_dear_36 : decode cX9_dear 36 = .ok (.goto 4, 3) := by decide +kernel
theorem dX9_dear_39 : decode cX9_dear 39 = .ok (.iload_n 1, 1) := by decide +kernel
theorem dX9_dear_40 : decode cX9_dear 40 = .ok (.istore_n 1, 1) := by decide +kernel
theorem dX9_dear_41 : decode cX9_dear 41 = .ok (.iinc 2 (-1), 3) := by decide +kernel
theorem dX9_dear_44 : decode cX9_dear 44 = .ok (.goto (-32), 3) := by decide +kernel
theorem dX9_dear_47 : decode cX9_dear 47 = .ok (.iload_n 1, 1) := by decide +kernel
theorem dX9_dear_48 : decode cX9_dear 48 = .ok (.ireturn, 1) := by decide +kernel
theorem dX9_finds_0 : decode cX9_finds 0 = .ok (.iconst 0, 1) := by decide +kernel
theorem dX9_finds_1 : decode cX9_finds 1 = .ok (.istore_n 2, 1) := by decide +kernel
theorem dX9_finds_2 : decode cX9_finds 2 = .ok (.aload_n 0, 1) := by decide +kernel
theorem dX9_finds_3 : decode cX9_finds 3 = .ok (.getfield 32, 3) := by decide +kernel
theorem dX9_finds_6 : decode cX9_finds 6 = .ok (.iconst 0, 1) := by decide +kernel
theorem dX9_finds_7 : decode cX9_finds 7 = .ok (.iconst (-1), 1) := by decide +kernel
theorem dX9_finds_8 : decode cX9_finds 8 = .ok (.iastore, 1) := by decide +kernel
theorem dX9_finds_9 : decode cX9_finds 9 = .ok (.iload_n 2, 1) := by decide +kernel
theorem dX9_finds_10 : decode cX9_finds 10 = .ok (.ifCond .lt 202, 3) := by decide +kernel
theorem dX9_finds_13 : decode cX9_finds 13 = .ok (.aload_n 0, 1) := by decide +kernel
theorem dX9_finds_14 : decode cX9_finds 14 = .ok (.getfield 32, 3) := by decide +kernel
theorem dX9_finds_17 : decode cX9_finds 17 = .ok (.iload_n 2, 1) := by decide +kernel
theorem dX9_finds_18 : decode cX9_finds 18 = .ok (.dup2, 1) := by decide +kernel
theorem dX9_finds_19 : decode cX9_finds 19 = .ok (.iaload, 1) := by decide +kernel
theorem dX9_finds_20 : decode cX9_finds 20 = .ok (.iconst 1, 1) := by decide +kernel
theorem dX9_finds_21 : decode cX9_finds 21 = .ok (.iadd, 1) := by decide +kernel
theorem dX9_finds_22 : decode cX9_finds 22 = .ok (.iastore, 1) := by decide +kernel
theorem dX9_finds_23 : decode cX9_finds 23 = .ok (.aload_n 0, 1) := by decide +kernel
theorem dX9_finds_24 : decode cX9_finds 24 = .ok (.getfield 32, 3) := by decide +kernel
theorem dX9_finds_27 : decode cX9_finds 27 = .ok (.iload_n 2, 1) := by decide +kernel
theorem dX9_finds_28 : decode cX9_finds 28 = .ok (.iaload, 1) := by decide +kernel
theorem dX9_finds_29 : decode cX9_finds 29 = .ok (.aload_n 0, 1) := by decide +kernel
theorem dX9_finds_30 : decode cX9_finds 30 = .ok (.getfield 13, 3) := by decide +kernel
theorem dX9_finds_33 : decode cX9_finds 33 = .ok (.iconst 0, 1) := by decide +kernel
theorem dX9_finds_34 : decode cX9_finds 34 = .ok (.iaload, 1) := by decide +kernel
theorem dX9_finds_35 : decode cX9_finds 35 = .ok (.if_icmp .ge 7, 3) := by decide +kernel
theorem dX9_finds_38 : decode cX9_finds 38 = .ok (.iconst 1, 1) := by decide +kernel
theorem dX9_finds_39 : decode cX9_finds 39 = .ok (.goto 4, 3) := by decide +kernel
theorem dX9_finds_42 : decode cX9_finds 42 = .ok (.iconst 0, 1) := by decide +kernel
theorem dX9_finds_43 : decode cX9_finds 43 = .ok (.istore_n 3, 1) := by decide +kernel
theorem dX9_finds_44 : decode cX9_finds 44 = .ok (.iload_n 3, 1) := by decide +kernel
theorem dX9_finds_45 : decode cX9_finds 45 = .ok (.ifCond .ne 9, 3) := by decide +kernel
theorem dX9_finds_48 : decode cX9_finds 48 = .ok (.iinc 2 (-1), 3) := by decide +kernel
theorem dX9_finds_51 : decode cX9_finds 51 = .ok (.goto 158, 3) := by decide +kernel
theorem dX9_finds_54 : decode cX9_finds 54 = .ok (.iload_n 2, 1) := by decide +kernel
theorem dX9_finds_55 : decode cX9_finds 55 = .ok (.ifCond .eq 44, 3) := by decide +kernel
theorem dX9_finds_58 : decode cX9_finds 58 = .ok (.aload_n 0, 1) := by decide +kernel
theorem dX9_finds_59 : decode cX9_finds 59 = .ok (.getfield 32, 3) := by decide +kernel
theorem dX9_finds_62 : decode cX9_finds 62 = .ok (.iload_n 2, 1) := by decide +kernel
theorem dX9_finds_63 : decode cX9_finds 63 = .ok (.iaload, 1) := by decide +kernel
theorem dX9_finds_64 : decode cX9_finds 64 = .ok (.aload_n 0, 1) := by decide +kernel
theorem dX9_finds_65 : decode cX9_finds 65 = .ok (.getfield 32, 3) := by decide +kernel
theorem dX9_finds_68 : decode cX9_finds 68 = .ok (.iconst 0, 1) := by decide +kernel
theorem dX9_finds_69 : decode cX9_finds 69 = .ok (.iaload, 1) := by decide +kernel
theorem dX9_finds_70 : decode cX9_finds 70 = .ok (.if_icmp .le 33, 3) := by decide +kernel
theorem dX9_finds_73 : decode cX9_finds 73 = .ok (.aload_n 0, 1) := by decide +kernel
theorem dX9_finds_74 : decode cX9_finds 74 = .ok (.getfield 29, 3) := by decide +kernel
theorem dX9_finds_77 : decode cX9_finds 77 = .ok (.bipush 7, 2) := by decide +kernel
theorem dX9_finds_79 : decode cX9_finds 79 = .ok (.aload_n 0, 1) := by decide +kernel
theorem dX9_finds_80 : decode cX9_finds 80 = .ok (.getfield 32, 3) := by decide +kernel
theorem dX9_finds_83 : decode cX9_finds 83 = .ok (.iload_n 2, 1) := by decide +kernel
theorem dX9_finds_84 : decode cX9_finds 84 = .ok (.iconst 1, 1) := by decide +kernel
theorem dX9_finds_85 : decode cX9_finds 85 = .ok (.isub, 1) := by decide +kernel
theorem dX9_finds_86 : decode cX9_finds 86 = .ok (.iaload, 1) := by decide +kernel
theorem dX9_finds_87 : decode cX9_finds 87 = .ok (.imul, 1) := by decide +kernel
theorem dX9_finds_88 : decode cX9_finds 88 = .ok (.aload_n 0, 1) := by decide +kernel
theorem dX9_finds_89 : decode cX9_finds 89 = .ok (.getfield 32, 3) := by decide +kernel
theorem dX9_finds_92 : decode cX9_finds 92 = .ok (.iload_n 2, 1) := by decide +kernel
theorem dX9_finds_93 : decode cX9_finds 93 = .ok (.iaload, 1) := by decide +kernel
theorem dX9_finds_94 : decode cX9_finds 94 = .ok (.iadd, 1) := by decide +kernel
theorem dX9_finds_95 : decode cX9_finds 95 = .ok (.iaload, 1) := by decide +kernel
theorem dX9_finds_96 : decode cX9_finds 96 = .ok (.ifCond .le 7, 3) := by decide +kernel
theorem dX9_finds_99 : decode cX9_finds 99 = .ok (.iconst 1, 1) := by decide +kernel
theorem dX9_finds_100 : decode cX9_finds 100 = .ok (.goto 4, 3) := by decide +kernel
theorem dX9_finds_103 : decode cX9_finds 103 = .ok (.iconst 0, 1) := by decide +kernel
theorem dX9_finds_104 : decode cX9_finds 104 = .ok (.istore 4, 2) := by decide +kernel
theorem dX9_finds_106 : decode cX9_finds 106 = .ok (.iconst 0, 1) := by decide +kernel
theorem dX9_finds_107 : decode cX9_finds 107 = .ok (.istore 5, 2) := by decide +kernel
theorem dX9_finds_109 : decode cX9_finds 109 = .ok (.iload 5, 2) := by decide +kernel
theorem dX9_finds_111 : decode cX9_finds 111 = .ok (.iload_n 2, 1) := by decide +kernel
theorem dX9_finds_112 : decode cX9_finds 112 = .ok (.if_icmp .ge 37, 3) := by decide +kernel
theorem dX9_finds_115 : decode cX9_finds 115 = .ok (.iload 4, 2) := by decide +kernel
theorem dX9_finds_117 : decode cX9_finds 117 = .ok (.ifCond .eq 23, 3) := by decide +kernel
theorem dX9_finds_120 : decode cX9_finds 120 = .ok (.aload_n 0, 1) := by decide +kernel
theorem dX9_finds_121 : decode cX9_finds 121 = .ok (.getfield 32, 3) := by decide +kernel
theorem dX9_finds_124 : decode cX9_finds 124 = .ok (.iload 5, 2) := by decide +kernel
theorem dX9_finds_126 : decode cX9_finds 126 = .ok (.iaload, 1) := by decide +kernel
theorem dX9_finds_127 : decode cX9_finds 127 = .ok (.aload_n 0, 1) := by decide +kernel
theorem dX9_finds_128 : decode cX9_finds 128 = .ok (.getfield 32, 3) := by decide +kernel
theorem dX9_finds_131 : decode cX9_finds 131 = .ok (.iload_n 2, 1) := by decide +kernel
theorem dX9_finds_132 : decode cX9_finds 132 = .ok (.iaload, 1) := by decide +kernel
theorem dX9_finds_133 : decode cX9_finds 133 = .ok (.if_icmp .eq 7, 3) := by decide +kernel
theorem dX9_finds_136 : decode cX9_finds 136 = .ok (.iconst 1, 1) := by decide +kernel
theorem dX9_finds_137 : decode cX9_finds 137 = .ok (.goto 4, 3) := by decide +kernel
theorem dX9_finds_140 : decode cX9_finds 140 = .ok (.iconst 0, 1) := by decide +kernel
theorem dX9_finds_141 : decode cX9_finds 141 = .ok (.istore 4, 2) := by decide +kernel
theorem dX9_finds_143 : decode cX9_finds 143 = .ok (.iinc 5 1, 3) := by decide +kernel
theorem dX9_finds_146 : decode cX9_finds 146 = .ok (.goto (-37), 3) := by decide +kernel
theorem dX9_finds_149 : decode cX9_finds 149 = .ok (.iload 4, 2) := by decide +kernel
theorem dX9_finds_151 : decode cX9_finds 151 = .ok (.ifCond .eq 36, 3) := by decide +kernel
theorem dX9_finds_154 : decode cX9_finds 154 = .ok (.iload_n 2, 1) := by decide +kernel
theorem dX9_finds_155 : decode cX9_finds 155 = .ok (.iconst 1, 1) := by decide +kernel
theorem dX9_finds_156 : decode cX9_finds 156 = .ok (.iadd, 1) := by decide +kernel
theorem dX9_finds_157 : decode cX9_finds 157 = .ok (.iload_n 1, 1) := by decide +kernel
theorem dX9_finds_158 : decode cX9_finds 158 = .ok (.if_icmp .ne 29, 3) := by decide +kernel
theorem dX9_finds_161 : decode cX9_finds 161 = .ok (.aload_n 0, 1) := by decide +kernel
theorem dX9_finds_162 : decode cX9_finds 162 = .ok (.getfield 29, 3) := by decide +kernel
theorem dX9_finds_165 : decode cX9_finds 165 = .ok (.bipush 7, 2) := by decide +kernel
theorem dX9_finds_167 : decode cX9_finds 167 = .ok (.aload_n 0, 1) := by decide +kernel
theorem dX9_finds_168 : decode cX9_finds 168 = .ok (.getfield 32, 3) := by decide +kernel
theorem dX9_finds_171 : decode cX9_finds 171 = .ok (.iload_n 2, 1) := by decide +kernel
theorem dX9_finds_172 : decode cX9_finds 172 = .ok (.iaload, 1) := by decide +kernel
theorem dX9_finds_173 : decode cX9_finds 173 = .ok (.imul, 1) := by decide +kernel
theorem dX9_finds_174 : decode cX9_finds 174 = .ok (.aload_n 0, 1) := by decide +kernel
theorem dX9_finds_175 : decode cX9_finds 175 = .ok (.getfield 32, 3) := by decide +kernel
theorem dX9_finds_178 : decode cX9_finds 178 = .ok (.iconst 0, 1) := by decide +kernel
theorem dX9_finds_179 : decode cX9_finds 179 = .ok (.iaload, 1) := by decide +kernel
theorem dX9_finds_180 : decode cX9_finds 180 = .ok (.iadd, 1) := by decide +kernel
theorem dX9_finds_181 : decode cX9_finds 181 = .ok (.iaload, 1) := by decide +kernel
theorem dX9_finds_182 : decode cX9_finds 182 = .ok (.ifCond .le 5, 3) := by decide +kernel
theorem dX9_finds_185 : decode cX9_finds 185 = .ok (.iconst 1, 1) := by decide +kernel
theorem dX9_finds_186 : decode cX9_finds 186 = .ok (.ireturn, 1) := by decide +kernel
theorem dX9_finds_187 : decode cX9_finds 187 = .ok (.iload 4, 2) := by decide +kernel
theorem dX9_finds_189 : decode cX9_finds 189 = .ok (.ifCond .eq 20, 3) := by decide +kernel
theorem dX9_finds_192 : decode cX9_finds 192 = .ok (.iload_n 2, 1) := by decide +kernel
theorem dX9_finds_193 : decode cX9_finds 193 = .ok (.iconst 1, 1) := by decide +kernel
theorem dX9_finds_194 : decode cX9_finds 194 = .ok (.iadd, 1) := by decide +kernel
theorem dX9_finds_195 : decode cX9_finds 195 = .ok (.iload_n 1, 1) := by decide +kernel
theorem dX9_finds_196 : decode cX9_finds 196 = .ok (.if_icmp .ge 13, 3) := by decide +kernel
theorem dX9_finds_199 : decode cX9_finds 199 = .ok (.iinc 2 1, 3) := by decide +kernel
theorem dX9_finds_202 : decode cX9_finds 202 = .ok (.aload_n 0, 1) := by decide +kernel
theorem dX9_finds_203 : decode cX9_finds 203 = .ok (.getfield 32, 3) := by decide +kernel
theorem dX9_finds_206 : decode cX9_finds 206 = .ok (.iload_n 2, 1) := by decide +kernel
theorem dX9_finds_207 : decode cX9_finds 207 = .ok (.iconst (-1), 1) := by decide +kernel
theorem dX9_finds_208 : decode cX9_finds 208 = .ok (.iastore, 1) := by decide +kernel
theorem dX9_finds_209 : decode cX9_finds 209 = .ok (.goto (-200), 3) := by decide +kernel
theorem dX9_finds_212 : decode cX9_finds 212 = .ok (.iconst 0, 1) := by decide +kernel
theorem dX9_finds_213 : decode cX9_finds 213 = .ok (.ireturn, 1) := by decide +kernel
theorem dX9_struck_0 : decode cX9_struck 0 = .ok (.iconst 0, 1) := by decide +kernel
theorem dX9_struck_1 : decode cX9_struck 1 = .ok (.istore_n 1, 1) := by decide +kernel
theorem dX9_struck_2 : decode cX9_struck 2 = .ok (.iload_n 1, 1) := by decide +kernel
theorem dX9_struck_3 : decode cX9_struck 3 = .ok (.bipush 49, 2) := by decide +kernel
theorem dX9_struck_5 : decode cX9_struck 5 = .ok (.if_icmp .ge 24, 3) := by decide +kernel
theorem dX9_struck_8 : decode cX9_struck 8 = .ok (.aload_n 0, 1) := by decide +kernel
theorem dX9_struck_9 : decode cX9_struck 9 = .ok (.getfield 29, 3) := by decide +kernel
theorem dX9_struck_12 : decode cX9_struck 12 = .ok (.iload_n 1, 1) := by decide +kernel
theorem dX9_struck_13 : decode cX9_struck 13 = .ok (.aload_n 0, 1) := by decide +kernel
theorem dX9_struck_14 : decode cX9_struck 14 = .ok (.getfield 19, 3) := by decide +kernel
theorem dX9_struck_17 : decode cX9_struck 17 = .ok (.bipush 14, 2) := by decide +kernel
theorem dX9_struck_19 : decode cX9_struck 19 = .ok (.iload_n 1, 1) := by decide +kernel
theorem dX9_struck_20 : decode cX9_struck 20 = .ok (.iadd, 1) := by decide +kernel
theorem dX9_struck_21 : decode cX9_struck 21 = .ok (.iaload, 1) := by decide +kernel
theorem dX9_struck_22 : decode cX9_struck 22 = .ok (.iastore, 1) := by decide +kernel
theorem dX9_struck_23 : decode cX9_struck 23 = .ok (.iinc 1 1, 3) := by decide +kernel
theorem dX9_struck_26 : decode cX9_struck 26 = .ok (.goto (-24), 3) := by decide +kernel
theorem dX9_struck_29 : decode cX9_struck 29 = .ok (.iconst 0, 1) := by decide +kernel
theorem dX9_struck_30 : decode cX9_struck 30 = .ok (.istore_n 1, 1) := by decide +kernel
theorem dX9_struck_31 : decode cX9_struck 31 = .ok (.iconst 2, 1) := by decide +kernel
theorem dX9_struck_32 : decode cX9_struck 32 = .ok (.istore_n 2, 1) := by decide +kernel
theorem dX9_struck_33 : decode cX9_struck 33 = .ok (.iload_n 2, 1) := by decide +kernel
theorem dX9_struck_34 : decode cX9_struck 34 = .ok (.aload_n 0, 1) := by decide +kernel
theorem dX9_struck_35 : decode cX9_struck 35 = .ok (.getfield 13, 3) := by decide +kernel
theorem dX9_struck_38 : decode cX9_struck 38 = .ok (.iconst 0, 1) := by decide +kernel
theorem dX9_struck_39 : decode cX9_struck 39 = .ok (.iaload, 1) := by decide +kernel
theorem dX9_struck_40 : decode cX9_struck 40 = .ok (.if_icmp .gt 153, 3) := by decide +kernel
theorem dX9_struck_43 : decode cX9_struck 43 = .ok (.aload_n 0, 1) := by decide +kernel
theorem dX9_struck_44 : decode cX9_struck 44 = .ok (.iload_n 2, 1) := by decide +kernel
theorem dX9_struck_45 : decode cX9_struck 45 = .ok (.invokevirtual 132, 3) := by decide +kernel
theorem dX9_struck_48 : decode cX9_struck 48 = .ok (.ifCond .eq 139, 3) := by decide +kernel
theorem dX9_struck_51 : decode cX9_struck 51 = .ok (.aload_n 0, 1) := by decide +kernel
theorem dX9_struck_52 : decode cX9_struck 52 = .ok (.getfield 29, 3) := by decide +kernel
theorem dX9_struck_55 : decode cX9_struck 55 = .ok (.bipush 7, 2) := by decide +kernel
theorem dX9_struck_57 : decode cX9_struck 57 = .ok (.aload_n 0, 1) := by decide +kernel
theorem dX9_struck_58 : decode cX9_struck 58 = .ok (.getfield 32, 3) := by decide +kernel
theorem dX9_struck_61 : decode cX9_struck 61 = .ok (.iload_n 2, 1) := by decide +kernel
theorem dX9_struck_62 : decode cX9_struck 62 = .ok (.iconst 1, 1) := by decide +kernel
theorem dX9_struck_63 : decode cX9_struck 63 = .ok (.isub, 1) := by decide +kernel
theorem dX9_struck_64 : decode cX9_struck 64 = .ok (.iaload, 1) := by decide +kernel
theorem dX9_struck_65 : decode cX9_struck 65 = .ok (.imul, 1) := by decide +kernel
theorem dX9_struck_66 : decode cX9_struck 66 = .ok (.aload_n 0, 1) := by decide +kernel
theorem dX9_struck_67 : decode cX9_struck 67 = .ok (.getfield 32, 3) := by decide +kernel
theorem dX9_struck_70 : decode cX9_struck 70 = .ok (.iconst 0, 1) := by decide +kernel
theorem dX9_struck_71 : decode cX9_struck 71 = .ok (.iaload, 1) := by decide +kernel
theorem dX9_struck_72 : decode cX9_struck 72 = .ok (.iadd, 1) := by decide +kernel
theorem dX9_struck_73 : decode cX9_struck 73 = .ok (.iaload, 1) := by decide +kernel
theorem dX9_struck_74 : decode cX9_struck 74 = .ok (.istore_n 3, 1) := by decide +kernel
theorem dX9_struck_75 : decode cX9_struck 75 = .ok (.iconst 0, 1) := by decide +kernel
theorem dX9_struck_76 : decode cX9_struck 76 = .ok (.istore 4, 2) := by decide +kernel
theorem dX9_struck_78 : decode cX9_struck 78 = .ok (.iload 4, 2) := by decide +kernel
theorem dX9_struck_80 : decode cX9_struck 80 = .ok (.iconst 1, 1) := by decide +kernel
theorem dX9_struck_81 : decode cX9_struck 81 = .ok (.iadd, 1) := by decide +kernel
theorem dX9_struck_82 : decode cX9_struck 82 = .ok (.iload_n 2, 1) := by decide +kernel
theorem dX9_struck_83 : decode cX9_struck 83 = .ok (.if_icmp .ge 49, 3) := by decide +kernel
theorem dX9_struck_86 : decode cX9_struck 86 = .ok (.aload_n 0, 1) := by decide +kernel
theorem dX9_struck_87 : decode cX9_struck 87 = .ok (.getfield 29, 3) := by decide +kernel
theorem dX9_struck_90 : decode cX9_struck 90 = .ok (.bipush 7, 2) := by decide +kernel
theorem dX9_struck_92 : decode cX9_struck 92 = .ok (.aload_n 0, 1) := by decide +kernel
theorem dX9_struck_93 : decode cX9_struck 93 = .ok (.getfield 32, 3) := by decide +kernel
theorem dX9_struck_96 : decode cX9_struck 96 = .ok (.iload 4, 2) := by decide +kernel
theorem dX9_struck_98 : decode cX9_struck 98 = .ok (.iaload, 1) := by decide +kernel
theorem dX9_struck_99 : decode cX9_struck 99 = .ok (.imul, 1) := by decide +kernel
theorem dX9_struck_100 : decode cX9_struck 100 = .ok (.aload_n 0, 1) := by decide +kernel
theorem dX9_struck_101 : decode cX9_struck 101 = .ok (.getfield 32, 3) := by decide +kernel
theorem dX9_struck_104 : decode cX9_struck 104 = .ok (.iload 4, 2) := by decide +kernel
theorem dX9_struck_106 : decode cX9_struck 106 = .ok (.iconst 1, 1) := by decide +kernel
theorem dX9_struck_107 : decode cX9_struck 107 = .ok (.iadd, 1) := by decide +kernel
theorem dX9_struck_108 : decode cX9_struck 108 = .ok (.iaload, 1) := by decide +kernel
theorem dX9_struck_109 : decode cX9_struck 109 = .ok (.iadd, 1) := by decide +kernel
theorem dX9_struck_110 : decode cX9_struck 110 = .ok (.iaload, 1) := by decide +kernel
theorem dX9_struck_111 : decode cX9_struck 111 = .ok (.istore 5, 2) := by decide +kernel
theorem dX9_struck_113 : decode cX9_struck 113 = .ok (.iload 5, 2) := by decide +kernel
theorem dX9_struck_115 : decode cX9_struck 115 = .ok (.iload_n 3, 1) := by decide +kernel
theorem dX9_struck_116 : decode cX9_struck 116 = .ok (.if_icmp .ge 8, 3) := by decide +kernel
theorem dX9_struck_119 : decode cX9_struck 119 = .ok (.iload 5, 2) := by decide +kernel
theorem dX9_struck_121 : decode cX9_struck 121 = .ok (.goto 4, 3) := by decide +kernel
theorem dX9_struck_124 : decode cX9_struck 124 = .ok (.iload_n 3, 1) := by decide +kernel
theorem dX9_struck_125 : decode cX9_struck 125 = .ok (.istore_n 3, 1) := by decide +kernel
theorem dX9_struck_126 : decode cX9_struck 126 = .ok (.iinc 4 1, 3) := by decide +kernel
theorem dX9_struck_129 : decode cX9_struck 129 = .ok (.goto (-51), 3) := by decide +kernel
theorem dX9_struck_132 : decode cX9_struck 132 = .ok (.iconst 0, 1) := by decide +kernel
theorem dX9_struck_133 : decode cX9_struck 133 = .ok (.istore 4, 2) := by decide +kernel
theorem dX9_struck_135 : decode cX9_struck 135 = .ok (.iload 4, 2) := by decide +kernel
theorem dX9_struck_137 : decode cX9_struck 137 = .ok (.iload_n 2, 1) := by decide +kernel
theorem dX9_struck_138 : decode cX9_struck 138 = .ok (.if_icmp .ge 40, 3) := by decide +kernel
theorem dX9_struck_141 : decode cX9_struck 141 = .ok (.aload_n 0, 1) := by decide +kernel
theorem dX9_struck_142 : decode cX9_struck 142 = .ok (.getfield 29, 3) := by decide +kernel
theorem dX9_struck_145 : decode cX9_struck 145 = .ok (.bipush 7, 2) := by decide +kernel
theorem dX9_struck_147 : decode cX9_struck 147 = .ok (.aload_n 0, 1) := by decide +kernel
theorem dX9_struck_148 : decode cX9_struck 148 = .ok (.getfield 32, 3) := by decide +kernel
theorem dX9_struck_151 : decode cX9_struck 151 = .ok (.iload 4, 2) := by decide +kernel
theorem dX9_struck_153 : decode cX9_struck 153 = .ok (.iaload, 1) := by decide +kernel
theorem dX9_struck_154 : decode cX9_struck 154 = .ok (.imul, 1) := by decide +kernel
theorem dX9_struck_155 : decode cX9_struck 155 = .ok (.aload_n 0, 1) := by decide +kernel
theorem dX9_struck_156 : decode cX9_struck 156 = .ok (.getfield 32, 3) := by decide +kernel
theorem dX9_struck_159 : decode cX9_struck 159 = .ok (.iload 4, 2) := by decide +kernel
theorem dX9_struck_161 : decode cX9_struck 161 = .ok (.iconst 1, 1) := by decide +kernel
theorem dX9_struck_162 : decode cX9_struck 162 = .ok (.iadd, 1) := by decide +kernel
theorem dX9_struck_163 : decode cX9_struck 163 = .ok (.iload_n 2, 1) := by decide +kernel
theorem dX9_struck_164 : decode cX9_struck 164 = .ok (.irem, 1) := by decide +kernel
theorem dX9_struck_165 : decode cX9_struck 165 = .ok (.iaload, 1) := by decide +kernel
theorem dX9_struck_166 : decode cX9_struck 166 = .ok (.iadd, 1) := by decide +kernel
theorem dX9_struck_167 : decode cX9_struck 167 = .ok (.dup2, 1) := by decide +kernel
theorem dX9_struck_168 : decode cX9_struck 168 = .ok (.iaload, 1) := by decide +kernel
theorem dX9_struck_169 : decode cX9_struck 169 = .ok (.iload_n 3, 1) := by decide +kernel
theorem dX9_struck_170 : decode cX9_struck 170 = .ok (.isub, 1) := by decide +kernel
theorem dX9_struck_171 : decode cX9_struck 171 = .ok (.iastore, 1) := by decide +kernel
theorem dX9_struck_172 : decode cX9_struck 172 = .ok (.iinc 4 1, 3) := by decide +kernel
theorem dX9_struck_175 : decode cX9_struck 175 = .ok (.goto (-40), 3) := by decide +kernel
theorem dX9_struck_178 : decode cX9_struck 178 = .ok (.iload_n 1, 1) := by decide +kernel
theorem dX9_struck_179 : decode cX9_struck 179 = .ok (.iload_n 2, 1) := by decide +kernel
theorem dX9_struck_180 : decode cX9_struck 180 = .ok (.iload_n 3, 1) := by decide +kernel
theorem dX9_struck_181 : decode cX9_struck 181 = .ok (.imul, 1) := by decide +kernel
theorem dX9_struck_182 : decode cX9_struck 182 = .ok (.iadd, 1) := by decide +kernel
theorem dX9_struck_183 : decode cX9_struck 183 = .ok (.istore_n 1, 1) := by decide +kernel
theorem dX9_struck_184 : decode cX9_struck 184 = .ok (.goto (-151), 3) := by decide +kernel
theorem dX9_struck_187 : decode cX9_struck 187 = .ok (.iinc 2 1, 3) := by decide +kernel
theorem dX9_struck_190 : decode cX9_struck 190 = .ok (.goto (-157), 3) := by decide +kernel
theorem dX9_struck_193 : decode cX9_struck 193 = .ok (.iload_n 1, 1) := by decide +kernel
theorem dX9_struck_194 : decode cX9_struck 194 = .ok (.ireturn, 1) := by decide +kernel
theorem dX9_now_0 : decode cX9_now 0 = .ok (.iconst 0, 1) := by decide +kernel
theorem dX9_now_1 : decode cX9_now 1 = .ok (.istore_n 2, 1) := by decide +kernel
theorem dX9_now_2 : decode cX9_now 2 = .ok (.iconst 0, 1) := by decide +kernel
theorem dX9_now_3 : decode cX9_now 3 = .ok (.istore_n 3, 1) := by decide +kernel
theorem dX9_now_4 : decode cX9_now 4 = .ok (.iload_n 3, 1) := by decide +kernel
theorem dX9_now_5 : decode cX9_now 5 = .ok (.aload_n 0, 1) := by decide +kernel
theorem dX9_now_6 : decode cX9_now 6 = .ok (.getfield 13, 3) := by decide +kernel
theorem dX9_now_9 : decode cX9_now 9 = .ok (.iconst 0, 1) := by decide +kernel
theorem dX9_now_10 : decode cX9_now 10 = .ok (.iaload, 1) := by decide +kernel
theorem dX9_now_11 : decode cX9_now 11 = .ok (.if_icmp .ge 28, 3) := by decide +kernel
theorem dX9_now_14 : decode cX9_now 14 = .ok (.iload_n 2, 1) := by decide +kernel
theorem dX9_now_15 : decode cX9_now 15 = .ok (.aload_n 0, 1) := by decide +kernel
theorem dX9_now_16 : decode cX9_now 16 = .ok (.getfield 19, 3) := by decide +kernel
theorem dX9_now_19 : decode cX9_now 19 = .ok (.iload_n 3, 1) := by decide +kernel
theorem dX9_now_20 : decode cX9_now 20 = .ok (.iaload, 1) := by decide +kernel
theorem dX9_now_21 : decode cX9_now 21 = .ok (.ifCond .ne 9, 3) := by decide +kernel
theorem dX9_now_24 : decode cX9_now 24 = .ok (.iconst 1, 1) := by decide +kernel
theorem dX9_now_25 : decode cX9_now 25 = .ok (.iload_n 3, 1) := by decide +kernel
theorem dX9_now_26 : decode cX9_now 26 = .ok (.ishl, 1) := by decide +kernel
theorem dX9_now_27 : decode cX9_now 27 = .ok (.goto 4, 3) := by decide +kernel
theorem dX9_now_30 : decode cX9_now 30 = .ok (.iconst 0, 1) := by decide +kernel
theorem dX9_now_31 : decode cX9_now 31 = .ok (.ior, 1) := by decide +kernel
theorem dX9_now_32 : decode cX9_now 32 = .ok (.istore_n 2, 1) := by decide +kernel
theorem dX9_now_33 : decode cX9_now 33 = .ok (.iinc 3 1, 3) := by decide +kernel
theorem dX9_now_36 : decode cX9_now 36 = .ok (.goto (-32), 3) := by decide +kernel
theorem dX9_now_39 : decode cX9_now 39 = .ok (.iload_n 1, 1) := by decide +kernel
theorem dX9_now_40 : decode cX9_now 40 = .ok (.tableswitch 73 0 5 #[40, 48, 53, 55, 63, 68], 40) := by decide +kernel
theorem dX9_now_80 : decode cX9_now 80 = .ok (.aload_n 0, 1) := by decide +kernel
theorem dX9_now_81 : decode cX9_now 81 = .ok (.getfield 19, 3) := by decide +kernel
theorem dX9_now_84 : decode cX9_now 84 = .ok (.bipush 64, 2) := by decide +kernel
theorem dX9_now_86 : decode cX9_now 86 = .ok (.iaload, 1) := by decide +kernel
theorem dX9_now_87 : decode cX9_now 87 = .ok (.ireturn, 1) := by decide +kernel
theorem dX9_now_88 : decode cX9_now 88 = .ok (.aload_n 0, 1) := by decide +kernel
theorem dX9_now_89 : decode cX9_now 89 = .ok (.invokevirtual 128, 3) := by decide +kernel
theorem dX9_now_92 : decode cX9_now 92 = .ok (.ireturn, 1) := by decide +kernel
theorem dX9_now_93 : decode cX9_now 93 = .ok (.iload_n 2, 1) := by decide +kernel
theorem dX9_now_94 : decode cX9_now 94 = .ok (.ireturn, 1) := by decide +kernel
theorem dX9_now_95 : decode cX9_now 95 = .ok (.aload_n 0, 1) := by decide +kernel
theorem dX9_now_96 : decode cX9_now 96 = .ok (.getfield 19, 3) := by decide +kernel
theorem dX9_now_99 : decode cX9_now 99 = .ok (.bipush 63, 2) := by decide +kernel
theorem dX9_now_101 : decode cX9_now 101 = .ok (.iaload, 1) := by decide +kernel
theorem dX9_now_102 : decode cX9_now 102 = .ok (.ireturn, 1) := by decide +kernel
theorem dX9_now_103 : decode cX9_now 103 = .ok (.aload_n 0, 1) := by decide +kernel
theorem dX9_now_104 : decode cX9_now 104 = .ok (.invokevirtual 135, 3) := by decide +kernel
theorem dX9_now_107 : decode cX9_now 107 = .ok (.ireturn, 1) := by decide +kernel
theorem dX9_now_108 : decode cX9_now 108 = .ok (.aload_n 0, 1) := by decide +kernel
theorem dX9_now_109 : decode cX9_now 109 = .ok (.invokevirtual 138, 3) := by decide +kernel
theorem dX9_now_112 : decode cX9_now 112 = .ok (.ireturn, 1) := by decide +kernel
theorem dX9_now_113 : decode cX9_now 113 = .ok (.iconst (-1), 1) := by decide +kernel
theorem dX9_now_114 : decode cX9_now 114 = .ok (.ireturn, 1) := by decide +kernel
theorem dX9_other_0 : decode cX9_other 0 = .ok (.aload_n 0, 1) := by decide +kernel
theorem dX9_other_1 : decode cX9_other 1 = .ok (.getfield 13, 3) := by decide +kernel
theorem dX9_other_4 : decode cX9_other 4 = .ok (.bipush 6, 2) := by decide +kernel
theorem dX9_other_6 : decode cX9_other 6 = .ok (.iload_n 1, 1) := by decide +kernel
theorem dX9_other_7 : decode cX9_other 7 = .ok (.iadd, 1) := by decide +kernel
theorem dX9_other_8 : decode cX9_other 8 = .ok (.iaload, 1) := by decide +kernel
theorem dX9_other_9 : decode cX9_other 9 = .ok (.iload_n 2, 1) := by decide +kernel
theorem dX9_other_10 : decode cX9_other 10 = .ok (.if_icmp .ne 15, 3) := by decide +kernel
theorem dX9_other_13 : decode cX9_other 13 = .ok (.aload_n 0, 1) := by decide +kernel
theorem dX9_other_14 : decode cX9_other 14 = .ok (.getfield 13, 3) := by decide +kernel
theorem dX9_other_17 : decode cX9_other 17 = .ok (.bipush 13, 2) := by decide +kernel
theorem dX9_other_19 : decode cX9_other 19 = .ok (.iload_n 1, 1) := by decide +kernel
theorem dX9_other_20 : decode cX9_other 20 = .ok (.iadd, 1) := by decide +kernel
theorem dX9_other_21 : decode cX9_other 21 = .ok (.iaload, 1) := by decide +kernel
theorem dX9_other_22 : decode cX9_other 22 = .ok (.goto 29, 3) := by decide +kernel
theorem dX9_other_25 : decode cX9_other 25 = .ok (.aload_n 0, 1) := by decide +kernel
theorem dX9_other_26 : decode cX9_other 26 = .ok (.getfield 13, 3) := by decide +kernel
theorem dX9_other_29 : decode cX9_other 29 = .ok (.bipush 13, 2) := by decide +kernel
theorem dX9_other_31 : decode cX9_other 31 = .ok (.iload_n 1, 1) := by decide +kernel
theorem dX9_other_32 : decode cX9_other 32 = .ok (.iadd, 1) := by decide +kernel
theorem dX9_other_33 : decode cX9_other 33 = .ok (.iaload, 1) := by decide +kernel
theorem dX9_other_34 : decode cX9_other 34 = .ok (.iload_n 2, 1) := by decide +kernel
theorem dX9_other_35 : decode cX9_other 35 = .ok (.if_icmp .ne 15, 3) := by decide +kernel
theorem dX9_other_38 : decode cX9_other 38 = .ok (.aload_n 0, 1) := by decide +kernel
theorem dX9_other_39 : decode cX9_other 39 = .ok (.getfield 13, 3) := by decide +kernel
theorem dX9_other_42 : decode cX9_other 42 = .ok (.bipush 6, 2) := by decide +kernel
theorem dX9_other_44 : decode cX9_other 44 = .ok (.iload_n 1, 1) := by decide +kernel
theorem dX9_other_45 : decode cX9_other 45 = .ok (.iadd, 1) := by decide +kernel
theorem dX9_other_46 : decode cX9_other 46 = .ok (.iaload, 1) := by decide +kernel
theorem dX9_other_47 : decode cX9_other 47 = .ok (.goto 4, 3) := by decide +kernel
theorem dX9_other_50 : decode cX9_other 50 = .ok (.iconst (-1), 1) := by decide +kernel
theorem dX9_other_51 : decode cX9_other 51 = .ok (.ireturn, 1) := by decide +kernel
theorem dX9_weight_0 : decode cX9_weight 0 = .ok (.sipush 1000, 3) := by decide +kernel
theorem dX9_weight_3 : decode cX9_weight 3 = .ok (.aload_n 0, 1) := by decide +kernel
theorem dX9_weight_4 : decode cX9_weight 4 = .ok (.getfield 19, 3) := by decide +kernel
theorem dX9_weight_7 : decode cX9_weight 7 = .ok (.iload_n 1, 1) := by decide +kernel
theorem dX9_weight_8 : decode cX9_weight 8 = .ok (.iaload, 1) := by decide +kernel
theorem dX9_weight_9 : decode cX9_weight 9 = .ok (.imul, 1) := by decide +kernel
theorem dX9_weight_10 : decode cX9_weight 10 = .ok (.aload_n 0, 1) := by decide +kernel
theorem dX9_weight_11 : decode cX9_weight 11 = .ok (.getfield 13, 3) := by decide +kernel
theorem dX9_weight_14 : decode cX9_weight 14 = .ok (.bipush 20, 2) := by decide +kernel
theorem dX9_weight_16 : decode cX9_weight 16 = .ok (.iload_n 1, 1) := by decide +kernel
theorem dX9_weight_17 : decode cX9_weight 17 = .ok (.iadd, 1) := by decide +kernel
theorem dX9_weight_18 : decode cX9_weight 18 = .ok (.iaload, 1) := by decide +kernel
theorem dX9_weight_19 : decode cX9_weight 19 = .ok (.iadd, 1) := by decide +kernel
theorem dX9_weight_20 : decode cX9_weight 20 = .ok (.ireturn, 1) := by decide +kernel
theorem dX9_lays_0 : decode cX9_lays 0 = .ok (.iconst 0, 1) := by decide +kernel
theorem dX9_lays_1 : decode cX9_lays 1 = .ok (.istore_n 2, 1) := by decide +kernel
theorem dX9_lays_2 : decode cX9_lays 2 = .ok (.iload_n 2, 1) := by decide +kernel
theorem dX9_lays_3 : decode cX9_lays 3 = .ok (.bipush 7, 2) := by decide +kernel
theorem dX9_lays_5 : decode cX9_lays 5 = .ok (.if_icmp .ge 25, 3) := by decide +kernel
theorem dX9_lays_8 : decode cX9_lays 8 = .ok (.aload_n 0, 1) := by decide +kernel
theorem dX9_lays_9 : decode cX9_lays 9 = .ok (.getfield 35, 3) := by decide +kernel
theorem dX9_lays_12 : decode cX9_lays 12 = .ok (.iload_n 2, 1) := by decide +kernel
theorem dX9_lays_13 : decode cX9_lays 13 = .ok (.iload_n 2, 1) := by decide +kernel
theorem dX9_lays_14 : decode cX9_lays 14 = .ok (.iload_n 1, 1) := by decide +kernel
theorem dX9_lays_15 : decode cX9_lays 15 = .ok (.if_icmp .ne 7, 3) := by decide +kernel
theorem dX9_lays_18 : decode cX9_lays 18 = .ok (.iconst 0, 1) := by decide +kernel
theorem dX9_lays_19 : decode cX9_lays 19 = .ok (.goto 4, 3) := by decide +kernel
theorem dX9_lays_22 : decode cX9_lays 22 = .ok (.iconst (-1), 1) := by decide +kernel
theorem dX9_lays_23 : decode cX9_lays 23 = .ok (.iastore, 1) := by decide +kernel
theorem dX9_lays_24 : decode cX9_lays 24 = .ok (.iinc 2 1, 3) := by decide +kernel
theorem dX9_lays_27 : decode cX9_lays 27 = .ok (.goto (-25), 3) := by decide +kernel
theorem dX9_lays_30 : decode cX9_lays 30 = .ok (.iconst 0, 1) := by decide +kernel
theorem dX9_lays_31 : decode cX9_lays 31 = .ok (.istore_n 2, 1) := by decide +kernel
theorem dX9_lays_32 : decode cX9_lays 32 = .ok (.iload_n 2, 1) := by decide +kernel
theorem dX9_lays_33 : decode cX9_lays 33 = .ok (.bipush 7, 2) := by decide +kernel
theorem dX9_lays_35 : decode cX9_lays 35 = .ok (.if_icmp .ge 173, 3) := by decide +kernel
theorem dX9_lays_38 : decode cX9_lays 38 = .ok (.iconst 0, 1) := by decide +kernel
theorem dX9_lays_39 : decode cX9_lays 39 = .ok (.istore_n 3, 1) := by decide +kernel
theorem dX9_lays_40 : decode cX9_lays 40 = .ok (.iload_n 3, 1) := by decide +kernel
theorem dX9_lays_41 : decode cX9_lays 41 = .ok (.aload_n 0, 1) := by decide +kernel
theorem dX9_lays_42 : decode cX9_lays 42 = .ok (.getfield 13, 3) := by decide +kernel
theorem dX9_lays_45 : decode cX9_lays 45 = .ok (.iconst 0, 1) := by decide +kernel
theorem dX9_lays_46 : decode cX9_lays 46 = .ok (.iaload, 1) := by decide +kernel
theorem dX9_lays_47 : decode cX9_lays 47 = .ok (.if_icmp .ge 155, 3) := by decide +kernel
theorem dX9_lays_50 : decode cX9_lays 50 = .ok (.iconst 0, 1) := by decide +kernel
theorem dX9_lays_51 : decode cX9_lays 51 = .ok (.istore 4, 2) := by decide +kernel
theorem dX9_lays_53 : decode cX9_lays 53 = .ok (.iload 4, 2) := by decide +kernel
theorem dX9_lays_55 : decode cX9_lays 55 = .ok (.iconst 2, 1) := by decide +kernel
theorem dX9_lays_56 : decode cX9_lays 56 = .ok (.if_icmp .ge 140, 3) := by decide +kernel
theorem dX9_lays_59 : decode cX9_lays 59 = .ok (.iload 4, 2) := by decide +kernel
theorem dX9_lays_61 : decode cX9_lays 61 = .ok (.ifCond .ne 15, 3) := by decide +kernel
theorem dX9_lays_64 : decode cX9_lays 64 = .ok (.aload_n 0, 1) := by decide +kernel
theorem dX9_lays_65 : decode cX9_lays 65 = .ok (.getfield 13, 3) := by decide +kernel
theorem dX9_lays_68 : decode cX9_lays 68 = .ok (.bipush 6, 2) := by decide +kernel
theorem dX9_lays_70 : decode cX9_lays 70 = .ok (.iload_n 3, 1) := by decide +kernel
theorem dX9_lays_71 : decode cX9_lays 71 = .ok (.iadd, 1) := by decide +kernel
theorem dX9_lays_72 : decode cX9_lays 72 = .ok (.iaload, 1) := by decide +kernel
theorem dX9_lays_73 : decode cX9_lays 73 = .ok (.goto 12, 3) := by decide +kernel
theorem dX9_lays_76 : decode cX9_lays 76 = .ok (.aload_n 0, 1) := by decide +kernel
theorem dX9_lays_77 : decode cX9_lays 77 = .ok (.getfield 13, 3) := by decide +kernel
theorem dX9_lays_80 : decode cX9_lays 80 = .ok (.bipush 13, 2) := by decide +kernel
theorem dX9_lays_82 : decode cX9_lays 82 = .ok (.iload_n 3, 1) := by decide +kernel
theorem dX9_lays_83 : decode cX9_lays 83 = .ok (.iadd, 1) := by decide +kernel
theorem dX9_lays_84 : decode cX9_lays 84 = .ok (.iaload, 1) := by decide +kernel
theorem dX9_lays_85 : decode cX9_lays 85 = .ok (.istore 5, 2) := by decide +kernel
theorem dX9_lays_87 : decode cX9_lays 87 = .ok (.iload 4, 2) := by decide +kernel
theorem dX9_lays_89 : decode cX9_lays 89 = .ok (.ifCond .ne 15, 3) := by decide +kernel
theorem dX9_lays_92 : decode cX9_lays 92 = .ok (.aload_n 0, 1) := by decide +kernel
theorem dX9_lays_93 : decode cX9_lays 93 = .ok (.getfield 13, 3) := by decide +kernel
theorem dX9_lays_96 : decode cX9_lays 96 = .ok (.bipush 13, 2) := by decide +kernel
theorem dX9_lays_98 : decode cX9_lays 98 = .ok (.iload_n 3, 1) := by decide +kernel
theorem dX9_lays_99 : decode cX9_lays 99 = .ok (.iadd, 1) := by decide +kernel
theorem dX9_lays_100 : decode cX9_lays 100 = .ok (.iaload, 1) := by decide +kernel
theorem dX9_lays_101 : decode cX9_lays 101 = .ok (.goto 12, 3) := by decide +kernel
theorem dX9_lays_104 : decode cX9_lays 104 = .ok (.aload_n 0, 1) := by decide +kernel
theorem dX9_lays_105 : decode cX9_lays 105 = .ok (.getfield 13, 3) := by decide +kernel
theorem dX9_lays_108 : decode cX9_lays 108 = .ok (.bipush 6, 2) := by decide +kernel
theorem dX9_lays_110 : decode cX9_lays 110 = .ok (.iload_n 3, 1) := by decide +kernel
theorem dX9_lays_111 : decode cX9_lays 111 = .ok (.iadd, 1) := by decide +kernel
theorem dX9_lays_112 : decode cX9_lays 112 = .ok (.iaload, 1) := by decide +kernel
theorem dX9_lays_113 : decode cX9_lays 113 = .ok (.istore 6, 2) := by decide +kernel
theorem dX9_lays_115 : decode cX9_lays 115 = .ok (.aload_n 0, 1) := by decide +kernel
theorem dX9_lays_116 : decode cX9_lays 116 = .ok (.getfield 35, 3) := by decide +kernel
theorem dX9_lays_119 : decode cX9_lays 119 = .ok (.iload 6, 2) := by decide +kernel
theorem dX9_lays_121 : decode cX9_lays 121 = .ok (.iaload, 1) := by decide +kernel
theorem dX9_lays_122 : decode cX9_lays 122 = .ok (.ifCond .ge 7, 3) := by decide +kernel
theorem dX9_lays_125 : decode cX9_lays 125 = .ok (.iconst (-1), 1) := by decide +kernel
theorem dX9_lays_126 : decode cX9_lays 126 = .ok (.goto 16, 3) := by decide +kernel
theorem dX9_lays_129 : decode cX9_lays 129 = .ok (.aload_n 0, 1) := by decide +kernel
theorem dX9_lays_130 : decode cX9_lays 130 = .ok (.getfield 35, 3) := by decide +kernel
theorem dX9_lays_133 : decode cX9_lays 133 = .ok (.iload 6, 2) := by decide +kernel
theorem dX9_lays_135 : decode cX9_lays 135 = .ok (.iaload, 1) := by decide +kernel
theorem dX9_lays_136 : decode cX9_lays 136 = .ok (.aload_n 0, 1) := by decide +kernel
theorem dX9_lays_137 : decode cX9_lays 137 = .ok (.iload_n 3, 1) := by decide +kernel
