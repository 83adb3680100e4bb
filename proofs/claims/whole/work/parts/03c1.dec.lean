theorem dX8_keep_28 : decode cX8_keep 28 = .ok (.bastore, 1) := by decide +kernel
theorem dX8_keep_29 : decode cX8_keep 29 = .ok (.aload_n 0, 1) := by decide +kernel
theorem dX8_keep_30 : decode cX8_keep 30 = .ok (.getfield 19, 3) := by decide +kernel
theorem dX8_keep_33 : decode cX8_keep 33 = .ok (.getfield 104, 3) := by decide +kernel
theorem dX8_keep_36 : decode cX8_keep 36 = .ok (.getfield 162, 3) := by decide +kernel
theorem dX8_keep_39 : decode cX8_keep 39 = .ok (.ireturn, 1) := by decide +kernel
theorem dX8_back_0 : decode cX8_back 0 = .ok (.iload_n 1, 1) := by decide +kernel
theorem dX8_back_1 : decode cX8_back 1 = .ok (.invokestatic 275, 3) := by decide +kernel
theorem dX8_back_4 : decode cX8_back 4 = .ok (.ifCond .ne 5, 3) := by decide +kernel
theorem dX8_back_7 : decode cX8_back 7 = .ok (.iconst (-1), 1) := by decide +kernel
theorem dX8_back_8 : decode cX8_back 8 = .ok (.ireturn, 1) := by decide +kernel
theorem dX8_back_9 : decode cX8_back 9 = .ok (.aload_n 0, 1) := by decide +kernel
theorem dX8_back_10 : decode cX8_back 10 = .ok (.getfield 27, 3) := by decide +kernel
theorem dX8_back_13 : decode cX8_back 13 = .ok (.iload_n 1, 1) := by decide +kernel
theorem dX8_back_14 : decode cX8_back 14 = .ok (.baload, 1) := by decide +kernel
theorem dX8_back_15 : decode cX8_back 15 = .ok (.ifCond .ne 6, 3) := by decide +kernel
theorem dX8_back_18 : decode cX8_back 18 = .ok (.bipush (-2), 2) := by decide +kernel
theorem dX8_back_20 : decode cX8_back 20 = .ok (.ireturn, 1) := by decide +kernel
theorem dX8_back_21 : decode cX8_back 21 = .ok (.aload_n 0, 1) := by decide +kernel
theorem dX8_back_22 : decode cX8_back 22 = .ok (.getfield 19, 3) := by decide +kernel
theorem dX8_back_25 : decode cX8_back 25 = .ok (.aload_n 0, 1) := by decide +kernel
theorem dX8_back_26 : decode cX8_back 26 = .ok (.getfield 23, 3) := by decide +kernel
theorem dX8_back_29 : decode cX8_back 29 = .ok (.iload_n 1, 1) := by decide +kernel
theorem dX8_back_30 : decode cX8_back 30 = .ok (.aaload, 1) := by decide +kernel
theorem dX8_back_31 : decode cX8_back 31 = .ok (.invokevirtual 278, 3) := by decide +kernel
theorem dX8_back_34 : decode cX8_back 34 = .ok (.aload_n 0, 1) := by decide +kernel
theorem dX8_back_35 : decode cX8_back 35 = .ok (.getfield 19, 3) := by decide +kernel
theorem dX8_back_38 : decode cX8_back 38 = .ok (.getfield 104, 3) := by decide +kernel
theorem dX8_back_41 : decode cX8_back 41 = .ok (.getfield 162, 3) := by decide +kernel
theorem dX8_back_44 : decode cX8_back 44 = .ok (.ireturn, 1) := by decide +kernel
theorem dX8_count_0 : decode cX8_count 0 = .ok (.iload_n 1, 1) := by decide +kernel
theorem dX8_count_1 : decode cX8_count 1 = .ok (.tableswitch 87 0 5 #[39, 47, 55, 63, 71, 79], 39) := by decide +kernel
theorem dX8_count_40 : decode cX8_count 40 = .ok (.aload_n 0, 1) := by decide +kernel
theorem dX8_count_41 : decode cX8_count 41 = .ok (.getfield 62, 3) := by decide +kernel
theorem dX8_count_44 : decode cX8_count 44 = .ok (.getfield 168, 3) := by decide +kernel
theorem dX8_count_47 : decode cX8_count 47 = .ok (.ireturn, 1) := by decide +kernel
theorem dX8_count_48 : decode cX8_count 48 = .ok (.aload_n 0, 1) := by decide +kernel
theorem dX8_count_49 : decode cX8_count 49 = .ok (.getfield 62, 3) := by decide +kernel
theorem dX8_count_52 : decode cX8_count 52 = .ok (.getfield 282, 3) := by decide +kernel
theorem dX8_count_55 : decode cX8_count 55 = .ok (.ireturn, 1) := by decide +kernel
theorem dX8_count_56 : decode cX8_count 56 = .ok (.aload_n 0, 1) := by decide +kernel
theorem dX8_count_57 : decode cX8_count 57 = .ok (.getfield 62, 3) := by decide +kernel
theorem dX8_count_60 : decode cX8_count 60 = .ok (.getfield 159, 3) := by decide +kernel
theorem dX8_count_63 : decode cX8_count 63 = .ok (.ireturn, 1) := by decide +kernel
theorem dX8_count_64 : decode cX8_count 64 = .ok (.aload_n 0, 1) := by decide +kernel
theorem dX8_count_65 : decode cX8_count 65 = .ok (.getfield 62, 3) := by decide +kernel
theorem dX8_count_68 : decode cX8_count 68 = .ok (.getfield 156, 3) := by decide +kernel
theorem dX8_count_71 : decode cX8_count 71 = .ok (.ireturn, 1) := by decide +kernel
theorem dX8_count_72 : decode cX8_count 72 = .ok (.aload_n 0, 1) := by decide +kernel
theorem dX8_count_73 : decode cX8_count 73 = .ok (.getfield 19, 3) := by decide +kernel
theorem dX8_count_76 : decode cX8_count 76 = .ok (.getfield 178, 3) := by decide +kernel
theorem dX8_count_79 : decode cX8_count 79 = .ok (.ireturn, 1) := by decide +kernel
theorem dX8_count_80 : decode cX8_count 80 = .ok (.aload_n 0, 1) := by decide +kernel
theorem dX8_count_81 : decode cX8_count 81 = .ok (.getfield 10, 3) := by decide +kernel
theorem dX8_count_84 : decode cX8_count 84 = .ok (.getfield 73, 3) := by decide +kernel
theorem dX8_count_87 : decode cX8_count 87 = .ok (.ireturn, 1) := by decide +kernel
theorem dX8_count_88 : decode cX8_count 88 = .ok (.iconst (-1), 1) := by decide +kernel
theorem dX8_count_89 : decode cX8_count 89 = .ok (.ireturn, 1) := by decide +kernel
theorem dX8_trace_0 : decode cX8_trace 0 = .ok (.aload_n 0, 1) := by decide +kernel
theorem dX8_trace_1 : decode cX8_trace 1 = .ok (.getfield 285, 3) := by decide +kernel
theorem dX8_trace_4 : decode cX8_trace 4 = .ok (.lreturn, 1) := by decide +kernel
theorem dX8_isFloor_0 : decode cX8_isFloor 0 = .ok (.iload_n 0, 1) := by decide +kernel
theorem dX8_isFloor_1 : decode cX8_isFloor 1 = .ok (.ifCond .lt 13, 3) := by decide +kernel
theorem dX8_isFloor_4 : decode cX8_isFloor 4 = .ok (.iload_n 0, 1) := by decide +kernel
theorem dX8_isFloor_5 : decode cX8_isFloor 5 = .ok (.bipush 7, 2) := by decide +kernel
theorem dX8_isFloor_7 : decode cX8_isFloor 7 = .ok (.if_icmp .ge 7, 3) := by decide +kernel
theorem dX8_isFloor_10 : decode cX8_isFloor 10 = .ok (.iconst 1, 1) := by decide +kernel
theorem dX8_isFloor_11 : decode cX8_isFloor 11 = .ok (.goto 4, 3) := by decide +kernel
theorem dX8_isFloor_14 : decode cX8_isFloor 14 = .ok (.iconst 0, 1) := by decide +kernel
theorem dX8_isFloor_15 : decode cX8_isFloor 15 = .ok (.ireturn, 1) := by decide +kernel
theorem dX8_isAsked_0 : decode cX8_isAsked 0 = .ok (.iload_n 0, 1) := by decide +kernel
theorem dX8_isAsked_1 : decode cX8_isAsked 1 = .ok (.ifCond .lt 13, 3) := by decide +kernel
theorem dX8_isAsked_4 : decode cX8_isAsked 4 = .ok (.iload_n 0, 1) := by decide +kernel
theorem dX8_isAsked_5 : decode cX8_isAsked 5 = .ok (.bipush 99, 2) := by decide +kernel
theorem dX8_isAsked_7 : decode cX8_isAsked 7 = .ok (.if_icmp .gt 7, 3) := by decide +kernel
theorem dX8_isAsked_10 : decode cX8_isAsked 10 = .ok (.iconst 1, 1) := by decide +kernel
theorem dX8_isAsked_11 : decode cX8_isAsked 11 = .ok (.goto 4, 3) := by decide +kernel
theorem dX8_isAsked_14 : decode cX8_isAsked 14 = .ok (.iconst 0, 1) := by decide +kernel
theorem dX8_isAsked_15 : decode cX8_isAsked 15 = .ok (.ireturn, 1) := by decide +kernel
theorem dX8_isImage_0 : decode cX8_isImage 0 = .ok (.iload_n 0, 1) := by decide +kernel
theorem dX8_isImage_1 : decode cX8_isImage 1 = .ok (.ifCond .lt 12, 3) := by decide +kernel
theorem dX8_isImage_4 : decode cX8_isImage 4 = .ok (.iload_n 0, 1) := by decide +kernel
theorem dX8_isImage_5 : decode cX8_isImage 5 = .ok (.iconst 2, 1) := by decide +kernel
theorem dX8_isImage_6 : decode cX8_isImage 6 = .ok (.if_icmp .ge 7, 3) := by decide +kernel
theorem dX8_isImage_9 : decode cX8_isImage 9 = .ok (.iconst 1, 1) := by decide +kernel
theorem dX8_isImage_10 : decode cX8_isImage 10 = .ok (.goto 4, 3) := by decide +kernel
theorem dX8_isImage_13 : decode cX8_isImage 13 = .ok (.iconst 0, 1) := by decide +kernel
theorem dX8_isImage_14 : decode cX8_isImage 14 = .ok (.ireturn, 1) := by decide +kernel
theorem dX8_bondAt_0 : decode cX8_bondAt 0 = .ok (.iload_n 0, 1) := by decide +kernel
theorem dX8_bondAt_1 : decode cX8_bondAt 1 = .ok (.bipush 7, 2) := by decide +kernel
theorem dX8_bondAt_3 : decode cX8_bondAt 3 = .ok (.imul, 1) := by decide +kernel
theorem dX8_bondAt_4 : decode cX8_bondAt 4 = .ok (.iload_n 1, 1) := by decide +kernel
theorem dX8_bondAt_5 : decode cX8_bondAt 5 = .ok (.iadd, 1) := by decide +kernel
theorem dX8_bondAt_6 : decode cX8_bondAt 6 = .ok (.ireturn, 1) := by decide +kernel
theorem dX8_priceOf_0 : decode cX8_priceOf 0 = .ok (.iconst 0, 1) := by decide +kernel
theorem dX8_priceOf_1 : decode cX8_priceOf 1 = .ok (.bipush 9, 2) := by decide +kernel
theorem dX8_priceOf_3 : decode cX8_priceOf 3 = .ok (.aload_n 0, 1) := by decide +kernel
theorem dX8_priceOf_4 : decode cX8_priceOf 4 = .ok (.getfield 19, 3) := by decide +kernel
theorem dX8_priceOf_7 : decode cX8_priceOf 7 = .ok (.getfield 104, 3) := by decide +kernel
theorem dX8_priceOf_10 : decode cX8_priceOf 10 = .ok (.getfield 108, 3) := by decide +kernel
theorem dX8_priceOf_13 : decode cX8_priceOf 13 = .ok (.iload_n 1, 1) := by decide +kernel
theorem dX8_priceOf_14 : decode cX8_priceOf 14 = .ok (.iaload, 1) := by decide +kernel
theorem dX8_priceOf_15 : decode cX8_priceOf 15 = .ok (.imul, 1) := by decide +kernel
theorem dX8_priceOf_16 : decode cX8_priceOf 16 = .ok (.aload_n 0, 1) := by decide +kernel
theorem dX8_priceOf_17 : decode cX8_priceOf 17 = .ok (.getfield 62, 3) := by decide +kernel
theorem dX8_priceOf_20 : decode cX8_priceOf 20 = .ok (.getfield 98, 3) := by decide +kernel
theorem dX8_priceOf_23 : decode cX8_priceOf 23 = .ok (.iload_n 1, 1) := by decide +kernel
theorem dX8_priceOf_24 : decode cX8_priceOf 24 = .ok (.iaload, 1) := by decide +kernel
theorem dX8_priceOf_25 : decode cX8_priceOf 25 = .ok (.isub, 1) := by decide +kernel
theorem dX8_priceOf_26 : decode cX8_priceOf 26 = .ok (.invokestatic 289, 3) := by decide +kernel
theorem dX8_priceOf_29 : decode cX8_priceOf 29 = .ok (.ireturn, 1) := by decide +kernel
theorem dX8_dearest_0 : decode cX8_dearest 0 = .ok (.bipush (-9), 2) := by decide +kernel
theorem dX8_dearest_2 : decode cX8_dearest 2 = .ok (.istore_n 1, 1) := by decide +kernel
theorem dX8_dearest_3 : decode cX8_dearest 3 = .ok (.iconst 0, 1) := by decide +kernel
theorem dX8_dearest_4 : decode cX8_dearest 4 = .ok (.istore_n 2, 1) := by decide +kernel
theorem dX8_dearest_5 : decode cX8_dearest 5 = .ok (.iload_n 2, 1) := by decide +kernel
theorem dX8_dearest_6 : decode cX8_dearest 6 = .ok (.aload_n 0, 1) := by decide +kernel
theorem dX8_dearest_7 : decode cX8_dearest 7 = .ok (.getfield 62, 3) := by decide +kernel
theorem dX8_dearest_10 : decode cX8_dearest 10 = .ok (.getfield 168, 3) := by decide +kernel
theorem dX8_dearest_13 : decode cX8_dearest 13 = .ok (.if_icmp .ge 30, 3) := by decide +kernel
theorem dX8_dearest_16 : decode cX8_dearest 16 = .ok (.iload_n 1, 1) := by decide +kernel
theorem dX8_dearest_17 : decode cX8_dearest 17 = .ok (.bipush (-9), 2) := by decide +kernel
theorem dX8_dearest_19 : decode cX8_dearest 19 = .ok (.if_icmp .eq 16, 3) := by decide +kernel
theorem dX8_dearest_22 : decode cX8_dearest 22 = .ok (.aload_n 0, 1) := by decide +kernel
theorem dX8_dearest_23 : decode cX8_dearest 23 = .ok (.iload_n 2, 1) := by decide +kernel
theorem dX8_dearest_24 : decode cX8_dearest 24 = .ok (.invokevirtual 116, 3) := by decide +kernel
theorem dX8_dearest_27 : decode cX8_dearest 27 = .ok (.aload_n 0, 1) := by decide +kernel
theorem dX8_dearest_28 : decode cX8_dearest 28 = .ok (.iload_n 1, 1) := by decide +kernel
theorem dX8_dearest_29 : decode cX8_dearest 29 = .ok (.invokevirtual 116, 3) := by decide +kernel
theorem dX8_dearest_32 : decode cX8_dearest 32 = .ok (.if_icmp .le 5, 3) := by decide +kernel
theorem dX8_dearest_35 : decode cX8_dearest 35 = .ok (.iload_n 2, 1) := by decide +kernel
theorem dX8_dearest_36 : decode cX8_dearest 36 = .ok (.istore_n 1, 1) := by decide +kernel
theorem dX8_dearest_37 : decode cX8_dearest 37 = .ok (.iinc 2 1, 3) := by decide +kernel
theorem dX8_dearest_40 : decode cX8_dearest 40 = .ok (.goto (-35), 3) := by decide +kernel
theorem dX8_dearest_43 : decode cX8_dearest 43 = .ok (.iload_n 1, 1) := by decide +kernel
theorem dX8_dearest_44 : decode cX8_dearest 44 = .ok (.ireturn, 1) := by decide +kernel
theorem dX8_stairsPaidOff_0 : decode cX8_stairsPaidOff 0 = .ok (.iconst 0, 1) := by decide +kernel
theorem dX8_stairsPaidOff_1 : decode cX8_stairsPaidOff 1 = .ok (.istore_n 1, 1) := by decide +kernel
theorem dX8_stairsPaidOff_2 : decode cX8_stairsPaidOff 2 = .ok (.iconst 0, 1) := by decide +kernel
theorem dX8_stairsPaidOff_3 : decode cX8_stairsPaidOff 3 = .ok (.istore_n 2, 1) := by decide +kernel
theorem dX8_stairsPaidOff_4 : decode cX8_stairsPaidOff 4 = .ok (.iload_n 2, 1) := by decide +kernel
theorem dX8_stairsPaidOff_5 : decode cX8_stairsPaidOff 5 = .ok (.aload_n 0, 1) := by decide +kernel
theorem dX8_stairsPaidOff_6 : decode cX8_stairsPaidOff 6 = .ok (.getfield 62, 3) := by decide +kernel
theorem dX8_stairsPaidOff_9 : decode cX8_stairsPaidOff 9 = .ok (.getfield 168, 3) := by decide +kernel
theorem dX8_stairsPaidOff_12 : decode cX8_stairsPaidOff 12 = .ok (.if_icmp .ge 30, 3) := by decide +kernel
theorem dX8_stairsPaidOff_15 : decode cX8_stairsPaidOff 15 = .ok (.aload_n 0, 1) := by decide +kernel
theorem dX8_stairsPaidOff_16 : decode cX8_stairsPaidOff 16 = .ok (.getfield 19, 3) := by decide +kernel
theorem dX8_stairsPaidOff_19 : decode cX8_stairsPaidOff 19 = .ok (.getfield 104, 3) := by decide +kernel
theorem dX8_stairsPaidOff_22 : decode cX8_stairsPaidOff 22 = .ok (.getfield 108, 3) := by decide +kernel
theorem dX8_stairsPaidOff_25 : decode cX8_stairsPaidOff 25 = .ok (.iload_n 2, 1) := by decide +kernel
theorem dX8_stairsPaidOff_26 : decode cX8_stairsPaidOff 26 = .ok (.iaload, 1) := by decide +kernel
theorem dX8_stairsPaidOff_27 : decode cX8_stairsPaidOff 27 = .ok (.ifCond .ne 9, 3) := by decide +kernel
theorem dX8_stairsPaidOff_30 : decode cX8_stairsPaidOff 30 = .ok (.iload_n 1, 1) := by decide +kernel
theorem dX8_stairsPaidOff_31 : decode cX8_stairsPaidOff 31 = .ok (.iconst 1, 1) := by decide +kernel
theorem dX8_stairsPaidOff_32 : decode cX8_stairsPaidOff 32 = .ok (.iload_n 2, 1) := by decide +kernel
theorem dX8_stairsPaidOff_33 : decode cX8_stairsPaidOff 33 = .ok (.ishl, 1) := by decide +kernel
theorem dX8_stairsPaidOff_34 : decode cX8_stairsPaidOff 34 = .ok (.ior, 1) := by decide +kernel
theorem dX8_stairsPaidOff_35 : decode cX8_stairsPaidOff 35 = .ok (.istore_n 1, 1) := by decide +kernel
theorem dX8_stairsPaidOff_36 : decode cX8_stairsPaidOff 36 = .ok (.iinc 2 1, 3) := by decide +kernel
theorem dX8_stairsPaidOff_39 : decode cX8_stairsPaidOff 39 = .ok (.goto (-35), 3) := by decide +kernel
theorem dX8_stairsPaidOff_42 : decode cX8_stairsPaidOff 42 = .ok (.iload_n 1, 1) := by decide +kernel
theorem dX8_stairsPaidOff_43 : decode cX8_stairsPaidOff 43 = .ok (.ireturn, 1) := by decide +kernel
theorem dX8_asStair_0 : decode cX8_asStair 0 = .ok (.aload_n 0, 1) := by decide +kernel
theorem dX8_asStair_1 : decode cX8_asStair 1 = .ok (.dup, 1) := by decide +kernel
theorem dX8_asStair_2 : decode cX8_asStair 2 = .ok (.getfield 285, 3) := by decide +kernel
theorem dX8_asStair_5 : decode cX8_asStair 5 = .ok (.lconst 1, 1) := by decide +kernel
theorem dX8_asStair_6 : decode cX8_asStair 6 = .ok (.ladd, 1) := by decide +kernel
theorem dX8_asStair_7 : decode cX8_asStair 7 = .ok (.putfield 285, 3) := by decide +kernel
theorem dX8_asStair_10 : decode cX8_asStair 10 = .ok (.aload_n 0, 1) := by decide +kernel
theorem dX8_asStair_11 : decode cX8_asStair 11 = .ok (.getfield 19, 3) := by decide +kernel
theorem dX8_asStair_14 : decode cX8_asStair 14 = .ok (.getfield 104, 3) := by decide +kernel
theorem dX8_asStair_17 : decode cX8_asStair 17 = .ok (.getfield 108, 3) := by decide +kernel
theorem dX8_asStair_20 : decode cX8_asStair 20 = .ok (.iload_n 1, 1) := by decide +kernel
theorem dX8_asStair_21 : decode cX8_asStair 21 = .ok (.iaload, 1) := by decide +kernel
theorem dX8_asStair_22 : decode cX8_asStair 22 = .ok (.ireturn, 1) := by decide +kernel
theorem dX8_asMarble_0 : decode cX8_asMarble 0 = .ok (.aload_n 0, 1) := by decide +kernel
theorem dX8_asMarble_1 : decode cX8_asMarble 1 = .ok (.dup, 1) := by decide +kernel
theorem dX8_asMarble_2 : decode cX8_asMarble 2 = .ok (.getfield 285, 3) := by decide +kernel
theorem dX8_asMarble_5 : decode cX8_asMarble 5 = .ok (.ldc2_w 294, 3) := by decide +kernel
theorem dX8_asMarble_8 : decode cX8_asMarble 8 = .ok (.ladd, 1) := by decide +kernel
theorem dX8_asMarble_9 : decode cX8_asMarble 9 = .ok (.putfield 285, 3) := by decide +kernel
theorem dX8_asMarble_12 : decode cX8_asMarble 12 = .ok (.aload_n 0, 1) := by decide +kernel
theorem dX8_asMarble_13 : decode cX8_asMarble 13 = .ok (.iload_n 1, 1) := by decide +kernel
theorem dX8_asMarble_14 : decode cX8_asMarble 14 = .ok (.invokevirtual 257, 3) := by decide +kernel
theorem dX8_asMarble_17 : decode cX8_asMarble 17 = .ok (.aload_n 0, 1) := by decide +kernel
theorem dX8_asMarble_18 : decode cX8_asMarble 18 = .ok (.getfield 62, 3) := by decide +kernel
theorem dX8_asMarble_21 : decode cX8_asMarble 21 = .ok (.getfield 98, 3) := by decide +kernel
theorem dX8_asMarble_24 : decode cX8_asMarble 24 = .ok (.iload_n 1, 1) := by decide +kernel
theorem dX8_asMarble_25 : decode cX8_asMarble 25 = .ok (.iaload, 1) := by decide +kernel
theorem dX8_asMarble_26 : decode cX8_asMarble 26 = .ok (.iadd, 1) := by decide +kernel
theorem dX8_asMarble_27 : decode cX8_asMarble 27 = .ok (.ireturn, 1) := by decide +kernel
theorem dX8_asLadder_0 : decode cX8_asLadder 0 = .ok (.aload_n 0, 1) := by decide +kernel
theorem dX8_asLadder_1 : decode cX8_asLadder 1 = .ok (.dup, 1) := by decide +kernel
theorem dX8_asLadder_2 : decode cX8_asLadder 2 = .ok (.getfield 285, 3) := by decide +kernel
theorem dX8_asLadder_5 : decode cX8_asLadder 5 = .ok (.ldc2_w 296, 3) := by decide +kernel
theorem dX8_asLadder_8 : decode cX8_asLadder 8 = .ok (.ladd, 1) := by decide +kernel
theorem dX8_asLadder_9 : decode cX8_asLadder 9 = .ok (.putfield 285, 3) := by decide +kernel
theorem dX8_asLadder_12 : decode cX8_asLadder 12 = .ok (.aload_n 0, 1) := by decide +kernel
theorem dX8_asLadder_13 : decode cX8_asLadder 13 = .ok (.iload_n 1, 1) := by decide +kernel
theorem dX8_asLadder_14 : decode cX8_asLadder 14 = .ok (.invokevirtual 257, 3) := by decide +kernel
theorem dX8_asLadder_17 : decode cX8_asLadder 17 = .ok (.aload_n 0, 1) := by decide +kernel
theorem dX8_asLadder_18 : decode cX8_asLadder 18 = .ok (.getfield 19, 3) := by decide +kernel
theorem dX8_asLadder_21 : decode cX8_asLadder 21 = .ok (.getfield 104, 3) := by decide +kernel
theorem dX8_asLadder_24 : decode cX8_asLadder 24 = .ok (.getfield 113, 3) := by decide +kernel
theorem dX8_asLadder_27 : decode cX8_asLadder 27 = .ok (.iload_n 1, 1) := by decide +kernel
theorem dX8_asLadder_28 : decode cX8_asLadder 28 = .ok (.iaload, 1) := by decide +kernel
theorem dX8_asLadder_29 : decode cX8_asLadder 29 = .ok (.isub, 1) := by decide +kernel
theorem dX8_asLadder_30 : decode cX8_asLadder 30 = .ok (.ireturn, 1) := by decide +kernel
theorem dX8_asChurch_0 : decode cX8_asChurch 0 = .ok (.aload_n 0, 1) := by decide +kernel
theorem dX8_asChurch_1 : decode cX8_asChurch 1 = .ok (.dup, 1) := by decide +kernel
theorem dX8_asChurch_2 : decode cX8_asChurch 2 = .ok (.getfield 285, 3) := by decide +kernel
theorem dX8_asChurch_5 : decode cX8_asChurch 5 = .ok (.ldc2_w 298, 3) := by decide +kernel
theorem dX8_asChurch_8 : decode cX8_asChurch 8 = .ok (.ladd, 1) := by decide +kernel
theorem dX8_asChurch_9 : decode cX8_asChurch 9 = .ok (.putfield 285, 3) := by decide +kernel
theorem dX8_asChurch_12 : decode cX8_asChurch 12 = .ok (.aload_n 0, 1) := by decide +kernel
theorem dX8_asChurch_13 : decode cX8_asChurch 13 = .ok (.iload_n 1, 1) := by decide +kernel
theorem dX8_asChurch_14 : decode cX8_asChurch 14 = .ok (.invokevirtual 260, 3) := by decide +kernel
theorem dX8_asChurch_17 : decode cX8_asChurch 17 = .ok (.iconst 2, 1) := by decide +kernel
theorem dX8_asChurch_18 : decode cX8_asChurch 18 = .ok (.imul, 1) := by decide +kernel
theorem dX8_asChurch_19 : decode cX8_asChurch 19 = .ok (.ireturn, 1) := by decide +kernel
theorem dX8_asLift_0 : decode cX8_asLift 0 = .ok (.aload_n 0, 1) := by decide +kernel
theorem dX8_asLift_1 : decode cX8_asLift 1 = .ok (.dup, 1) := by decide +kernel
theorem dX8_asLift_2 : decode cX8_asLift 2 = .ok (.getfield 285, 3) := by decide +kernel
theorem dX8_asLift_5 : decode cX8_asLift 5 = .ok (.ldc2_w 300, 3) := by decide +kernel
theorem dX8_asLift_8 : decode cX8_asLift 8 = .ok (.ladd, 1) := by decide +kernel
theorem dX8_asLift_9 : decode cX8_asLift 9 = .ok (.putfield 285, 3) := by decide +kernel
theorem dX8_asLift_12 : decode cX8_asLift 12 = .ok (.aload_n 0, 1) := by decide +kernel
theorem dX8_asLift_13 : decode cX8_asLift 13 = .ok (.iload_n 1, 1) := by decide +kernel
theorem dX8_asLift_14 : decode cX8_asLift 14 = .ok (.invokevirtual 263, 3) := by decide +kernel
theorem dX8_asLift_17 : decode cX8_asLift 17 = .ok (.aload_n 0, 1) := by decide +kernel
theorem dX8_asLift_18 : decode cX8_asLift 18 = .ok (.getfield 62, 3) := by decide +kernel
theorem dX8_asLift_21 : decode cX8_asLift 21 = .ok (.getfield 101, 3) := by decide +kernel
theorem dX8_asLift_24 : decode cX8_asLift 24 = .ok (.iload_n 1, 1) := by decide +kernel
theorem dX8_asLift_25 : decode cX8_asLift 25 = .ok (.iaload, 1) := by decide +kernel
theorem dX8_asLift_26 : decode cX8_asLift 26 = .ok (.iadd, 1) := by decide +kernel
theorem dX8_asLift_27 : decode cX8_asLift 27 = .ok (.ireturn, 1) := by decide +kernel
theorem dX8_asTower_0 : decode cX8_asTower 0 = .ok (.aload_n 0, 1) := by decide +kernel
theorem dX8_asTower_1 : decode cX8_asTower 1 = .ok (.dup, 1) := by decide +kernel
theorem dX8_asTower_2 : decode cX8_asTower 2 = .ok (.getfield 285, 3) := by decide +kernel
theorem dX8_asTower_5 : decode cX8_asTower 5 = .ok (.ldc2_w 302, 3) := by decide +kernel
theorem dX8_asTower_8 : decode cX8_asTower 8 = .ok (.ladd, 1) := by decide +kernel
theorem dX8_asTower_9 : decode cX8_asTower 9 = .ok (.putfield 285, 3) := by decide +kernel
theorem dX8_asTower_12 : decode cX8_asTower 12 = .ok (.aload_n 0, 1) := by decide +kernel
theorem dX8_asTower_13 : decode cX8_asTower 13 = .ok (.iload_n 1, 1) := by decide +kernel
theorem dX8_asTower_14 : decode cX8_asTower 14 = .ok (.invokevirtual 257, 3) := by decide +kernel
theorem dX8_asTower_17 : decode cX8_asTower 17 = .ok (.aload_n 0, 1) := by decide +kernel
theorem dX8_asTower_18 : decode cX8_asTower 18 = .ok (.getfield 19, 3) := by decide +kernel
theorem dX8_asTower_21 : decode cX8_asTower 21 = .ok (.getfield 104, 3) := by decide +kernel
theorem dX8_asTower_24 : decode cX8_asTower 24 = .ok (.getfield 162, 3) := by decide +kernel
theorem dX8_asTower_27 : decode cX8_asTower 27 = .ok (.iadd, 1) := by decide +kernel
theorem dX8_asTower_28 : decode cX8_asTower 28 = .ok (.ireturn, 1) := by decide +kernel
