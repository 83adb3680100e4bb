theorem dX0_init_0 : decode cX0_init 0 = .ok (.aload_n 0, 1) := by decide +kernel
theorem dX0_init_1 : decode cX0_init 1 = .ok (.invokespecial 3, 3) := by decide +kernel
theorem dX0_init_4 : decode cX0_init 4 = .ok (.aload_n 0, 1) := by decide +kernel
theorem dX0_init_5 : decode cX0_init 5 = .ok (.new 9, 3) := by decide +kernel
theorem dX0_init_8 : decode cX0_init 8 = .ok (.dup, 1) := by decide +kernel
theorem dX0_init_9 : decode cX0_init 9 = .ok (.invokespecial 11, 3) := by decide +kernel
theorem dX0_init_12 : decode cX0_init 12 = .ok (.putfield 12, 3) := by decide +kernel
theorem dX0_init_15 : decode cX0_init 15 = .ok (.aload_n 0, 1) := by decide +kernel
theorem dX0_init_16 : decode cX0_init 16 = .ok (.bipush 10, 2) := by decide +kernel
theorem dX0_init_18 : decode cX0_init 18 = .ok (.anewarray 9, 3) := by decide +kernel
theorem dX0_init_21 : decode cX0_init 21 = .ok (.putfield 18, 3) := by decide +kernel
theorem dX0_init_24 : decode cX0_init 24 = .ok (.iconst 0, 1) := by decide +kernel
theorem dX0_init_25 : decode cX0_init 25 = .ok (.istore_n 1, 1) := by decide +kernel
theorem dX0_init_26 : decode cX0_init 26 = .ok (.iload_n 1, 1) := by decide +kernel
theorem dX0_init_27 : decode cX0_init 27 = .ok (.bipush 10, 2) := by decide +kernel
theorem dX0_init_29 : decode cX0_init 29 = .ok (.if_icmp .ge 22, 3) := by decide +kernel
theorem dX0_init_32 : decode cX0_init 32 = .ok (.aload_n 0, 1) := by decide +kernel
theorem dX0_init_33 : decode cX0_init 33 = .ok (.getfield 18, 3) := by decide +kernel
theorem dX0_init_36 : decode cX0_init 36 = .ok (.iload_n 1, 1) := by decide +kernel
theorem dX0_init_37 : decode cX0_init 37 = .ok (.new 9, 3) := by decide +kernel
theorem dX0_init_40 : decode cX0_init 40 = .ok (.dup, 1) := by decide +kernel
theorem dX0_init_41 : decode cX0_init 41 = .ok (.invokespecial 11, 3) := by decide +kernel
theorem dX0_init_44 : decode cX0_init 44 = .ok (.aastore, 1) := by decide +kernel
theorem dX0_init_45 : decode cX0_init 45 = .ok (.iinc 1 1, 3) := by decide +kernel
theorem dX0_init_48 : decode cX0_init 48 = .ok (.goto (-22), 3) := by decide +kernel
theorem dX0_init_51 : decode cX0_init 51 = .ok (.aload_n 0, 1) := by decide +kernel
theorem dX0_init_52 : decode cX0_init 52 = .ok (.iconst 0, 1) := by decide +kernel
theorem dX0_init_53 : decode cX0_init 53 = .ok (.putfield 22, 3) := by decide +kernel
theorem dX0_init_56 : decode cX0_init 56 = .ok (.aload_n 0, 1) := by decide +kernel
theorem dX0_init_57 : decode cX0_init 57 = .ok (.iconst 0, 1) := by decide +kernel
theorem dX0_init_58 : decode cX0_init 58 = .ok (.putfield 26, 3) := by decide +kernel
theorem dX0_init_61 : decode cX0_init 61 = .ok (.return_, 1) := by decide +kernel
theorem dX0_begin_0 : decode cX0_begin 0 = .ok (.aload_n 0, 1) := by decide +kernel
theorem dX0_begin_1 : decode cX0_begin 1 = .ok (.getfield 12, 3) := by decide +kernel
theorem dX0_begin_4 : decode cX0_begin 4 = .ok (.aload_n 1, 1) := by decide +kernel
theorem dX0_begin_5 : decode cX0_begin 5 = .ok (.invokevirtual 29, 3) := by decide +kernel
theorem dX0_begin_8 : decode cX0_begin 8 = .ok (.aload_n 0, 1) := by decide +kernel
theorem dX0_begin_9 : decode cX0_begin 9 = .ok (.iconst 0, 1) := by decide +kernel
theorem dX0_begin_10 : decode cX0_begin 10 = .ok (.putfield 22, 3) := by decide +kernel
theorem dX0_begin_13 : decode cX0_begin 13 = .ok (.aload_n 0, 1) := by decide +kernel
theorem dX0_begin_14 : decode cX0_begin 14 = .ok (.iconst 0, 1) := by decide +kernel
theorem dX0_begin_15 : decode cX0_begin 15 = .ok (.putfield 26, 3) := by decide +kernel
theorem dX0_begin_18 : decode cX0_begin 18 = .ok (.return_, 1) := by decide +kernel
theorem dX0_remember_0 : decode cX0_remember 0 = .ok (.aload_n 0, 1) := by decide +kernel
theorem dX0_remember_1 : decode cX0_remember 1 = .ok (.getfield 18, 3) := by decide +kernel
theorem dX0_remember_4 : decode cX0_remember 4 = .ok (.aload_n 0, 1) := by decide +kernel
theorem dX0_remember_5 : decode cX0_remember 5 = .ok (.getfield 26, 3) := by decide +kernel
theorem dX0_remember_8 : decode cX0_remember 8 = .ok (.aaload, 1) := by decide +kernel
theorem dX0_remember_9 : decode cX0_remember 9 = .ok (.aload_n 0, 1) := by decide +kernel
theorem dX0_remember_10 : decode cX0_remember 10 = .ok (.getfield 12, 3) := by decide +kernel
theorem dX0_remember_13 : decode cX0_remember 13 = .ok (.invokevirtual 33, 3) := by decide +kernel
theorem dX0_remember_16 : decode cX0_remember 16 = .ok (.aload_n 0, 1) := by decide +kernel
theorem dX0_remember_17 : decode cX0_remember 17 = .ok (.aload_n 0, 1) := by decide +kernel
theorem dX0_remember_18 : decode cX0_remember 18 = .ok (.getfield 26, 3) := by decide +kernel
theorem dX0_remember_21 : decode cX0_remember 21 = .ok (.iconst 1, 1) := by decide +kernel
theorem dX0_remember_22 : decode cX0_remember 22 = .ok (.iadd, 1) := by decide +kernel
theorem dX0_remember_23 : decode cX0_remember 23 = .ok (.bipush 10, 2) := by decide +kernel
theorem dX0_remember_25 : decode cX0_remember 25 = .ok (.if_icmp .ge 12, 3) := by decide +kernel
theorem dX0_remember_28 : decode cX0_remember 28 = .ok (.aload_n 0, 1) := by decide +kernel
theorem dX0_remember_29 : decode cX0_remember 29 = .ok (.getfield 26, 3) := by decide +kernel
theorem dX0_remember_32 : decode cX0_remember 32 = .ok (.iconst 1, 1) := by decide +kernel
theorem dX0_remember_33 : decode cX0_remember 33 = .ok (.iadd, 1) := by decide +kernel
theorem dX0_remember_34 : decode cX0_remember 34 = .ok (.goto 4, 3) := by decide +kernel
theorem dX0_remember_37 : decode cX0_remember 37 = .ok (.iconst 0, 1) := by decide +kernel
theorem dX0_remember_38 : decode cX0_remember 38 = .ok (.putfield 26, 3) := by decide +kernel
theorem dX0_remember_41 : decode cX0_remember 41 = .ok (.aload_n 0, 1) := by decide +kernel
theorem dX0_remember_42 : decode cX0_remember 42 = .ok (.bipush 10, 2) := by decide +kernel
theorem dX0_remember_44 : decode cX0_remember 44 = .ok (.aload_n 0, 1) := by decide +kernel
theorem dX0_remember_45 : decode cX0_remember 45 = .ok (.getfield 22, 3) := by decide +kernel
theorem dX0_remember_48 : decode cX0_remember 48 = .ok (.iconst 1, 1) := by decide +kernel
theorem dX0_remember_49 : decode cX0_remember 49 = .ok (.iadd, 1) := by decide +kernel
theorem dX0_remember_50 : decode cX0_remember 50 = .ok (.invokestatic 37, 3) := by decide +kernel
theorem dX0_remember_53 : decode cX0_remember 53 = .ok (.putfield 22, 3) := by decide +kernel
theorem dX0_remember_56 : decode cX0_remember 56 = .ok (.return_, 1) := by decide +kernel
theorem dX0_takeBack_0 : decode cX0_takeBack 0 = .ok (.aload_n 0, 1) := by decide +kernel
theorem dX0_takeBack_1 : decode cX0_takeBack 1 = .ok (.getfield 22, 3) := by decide +kernel
theorem dX0_takeBack_4 : decode cX0_takeBack 4 = .ok (.ifCond .ne 5, 3) := by decide +kernel
theorem dX0_takeBack_7 : decode cX0_takeBack 7 = .ok (.iconst 0, 1) := by decide +kernel
theorem dX0_takeBack_8 : decode cX0_takeBack 8 = .ok (.ireturn, 1) := by decide +kernel
theorem dX0_takeBack_9 : decode cX0_takeBack 9 = .ok (.aload_n 0, 1) := by decide +kernel
theorem dX0_takeBack_10 : decode cX0_takeBack 10 = .ok (.aload_n 0, 1) := by decide +kernel
theorem dX0_takeBack_11 : decode cX0_takeBack 11 = .ok (.getfield 26, 3) := by decide +kernel
theorem dX0_takeBack_14 : decode cX0_takeBack 14 = .ok (.ifCond .le 12, 3) := by decide +kernel
theorem dX0_takeBack_17 : decode cX0_takeBack 17 = .ok (.aload_n 0, 1) := by decide +kernel
theorem dX0_takeBack_18 : decode cX0_takeBack 18 = .ok (.getfield 26, 3) := by decide +kernel
theorem dX0_takeBack_21 : decode cX0_takeBack 21 = .ok (.iconst 1, 1) := by decide +kernel
theorem dX0_takeBack_22 : decode cX0_takeBack 22 = .ok (.isub, 1) := by decide +kernel
theorem dX0_takeBack_23 : decode cX0_takeBack 23 = .ok (.goto 5, 3) := by decide +kernel
theorem dX0_takeBack_26 : decode cX0_takeBack 26 = .ok (.bipush 9, 2) := by decide +kernel
theorem dX0_takeBack_28 : decode cX0_takeBack 28 = .ok (.putfield 26, 3) := by decide +kernel
theorem dX0_takeBack_31 : decode cX0_takeBack 31 = .ok (.aload_n 0, 1) := by decide +kernel
theorem dX0_takeBack_32 : decode cX0_takeBack 32 = .ok (.getfield 12, 3) := by decide +kernel
theorem dX0_takeBack_35 : decode cX0_takeBack 35 = .ok (.aload_n 0, 1) := by decide +kernel
theorem dX0_takeBack_36 : decode cX0_takeBack 36 = .ok (.getfield 18, 3) := by decide +kernel
theorem dX0_takeBack_39 : decode cX0_takeBack 39 = .ok (.aload_n 0, 1) := by decide +kernel
theorem dX0_takeBack_40 : decode cX0_takeBack 40 = .ok (.getfield 26, 3) := by decide +kernel
theorem dX0_takeBack_43 : decode cX0_takeBack 43 = .ok (.aaload, 1) := by decide +kernel
theorem dX0_takeBack_44 : decode cX0_takeBack 44 = .ok (.invokevirtual 33, 3) := by decide +kernel
theorem dX0_takeBack_47 : decode cX0_takeBack 47 = .ok (.aload_n 0, 1) := by decide +kernel
theorem dX0_takeBack_48 : decode cX0_takeBack 48 = .ok (.dup, 1) := by decide +kernel
theorem dX0_takeBack_49 : decode cX0_takeBack 49 = .ok (.getfield 22, 3) := by decide +kernel
theorem dX0_takeBack_52 : decode cX0_takeBack 52 = .ok (.iconst 1, 1) := by decide +kernel
theorem dX0_takeBack_53 : decode cX0_takeBack 53 = .ok (.isub, 1) := by decide +kernel
theorem dX0_takeBack_54 : decode cX0_takeBack 54 = .ok (.putfield 22, 3) := by decide +kernel
theorem dX0_takeBack_57 : decode cX0_takeBack 57 = .ok (.iconst 1, 1) := by decide +kernel
theorem dX0_takeBack_58 : decode cX0_takeBack 58 = .ok (.ireturn, 1) := by decide +kernel
theorem dX0_copyFrom_0 : decode cX0_copyFrom 0 = .ok (.aload_n 0, 1) := by decide +kernel
theorem dX0_copyFrom_1 : decode cX0_copyFrom 1 = .ok (.getfield 12, 3) := by decide +kernel
theorem dX0_copyFrom_4 : decode cX0_copyFrom 4 = .ok (.aload_n 1, 1) := by decide +kernel
theorem dX0_copyFrom_5 : decode cX0_copyFrom 5 = .ok (.getfield 12, 3) := by decide +kernel
theorem dX0_copyFrom_8 : decode cX0_copyFrom 8 = .ok (.invokevirtual 33, 3) := by decide +kernel
theorem dX0_copyFrom_11 : decode cX0_copyFrom 11 = .ok (.iconst 0, 1) := by decide +kernel
theorem dX0_copyFrom_12 : decode cX0_copyFrom 12 = .ok (.istore_n 2, 1) := by decide +kernel
theorem dX0_copyFrom_13 : decode cX0_copyFrom 13 = .ok (.iload_n 2, 1) := by decide +kernel
theorem dX0_copyFrom_14 : decode cX0_copyFrom 14 = .ok (.bipush 10, 2) := by decide +kernel
theorem dX0_copyFrom_16 : decode cX0_copyFrom 16 = .ok (.if_icmp .ge 24, 3) := by decide +kernel
theorem dX0_copyFrom_19 : decode cX0_copyFrom 19 = .ok (.aload_n 0, 1) := by decide +kernel
theorem dX0_copyFrom_20 : decode cX0_copyFrom 20 = .ok (.getfield 18, 3) := by decide +kernel
theorem dX0_copyFrom_23 : decode cX0_copyFrom 23 = .ok (.iload_n 2, 1) := by decide +kernel
theorem dX0_copyFrom_24 : decode cX0_copyFrom 24 = .ok (.aaload, 1) := by decide +kernel
theorem dX0_copyFrom_25 : decode cX0_copyFrom 25 = .ok (.aload_n 1, 1) := by decide +kernel
theorem dX0_copyFrom_26 : decode cX0_copyFrom 26 = .ok (.getfield 18, 3) := by decide +kernel
theorem dX0_copyFrom_29 : decode cX0_copyFrom 29 = .ok (.iload_n 2, 1) := by decide +kernel
theorem dX0_copyFrom_30 : decode cX0_copyFrom 30 = .ok (.aaload, 1) := by decide +kernel
theorem dX0_copyFrom_31 : decode cX0_copyFrom 31 = .ok (.invokevirtual 33, 3) := by decide +kernel
theorem dX0_copyFrom_34 : decode cX0_copyFrom 34 = .ok (.iinc 2 1, 3) := by decide +kernel
theorem dX0_copyFrom_37 : decode cX0_copyFrom 37 = .ok (.goto (-24), 3) := by decide +kernel
theorem dX0_copyFrom_40 : decode cX0_copyFrom 40 = .ok (.aload_n 0, 1) := by decide +kernel
theorem dX0_copyFrom_41 : decode cX0_copyFrom 41 = .ok (.aload_n 1, 1) := by decide +kernel
theorem dX0_copyFrom_42 : decode cX0_copyFrom 42 = .ok (.getfield 22, 3) := by decide +kernel
theorem dX0_copyFrom_45 : decode cX0_copyFrom 45 = .ok (.putfield 22, 3) := by decide +kernel
theorem dX0_copyFrom_48 : decode cX0_copyFrom 48 = .ok (.aload_n 0, 1) := by decide +kernel
theorem dX0_copyFrom_49 : decode cX0_copyFrom 49 = .ok (.aload_n 1, 1) := by decide +kernel
theorem dX0_copyFrom_50 : decode cX0_copyFrom 50 = .ok (.getfield 26, 3) := by decide +kernel
theorem dX0_copyFrom_53 : decode cX0_copyFrom 53 = .ok (.putfield 26, 3) := by decide +kernel
theorem dX0_copyFrom_56 : decode cX0_copyFrom 56 = .ok (.return_, 1) := by decide +kernel
theorem dX1_init_0 : decode cX1_init 0 = .ok (.aload_n 0, 1) := by decide +kernel
theorem dX1_init_1 : decode cX1_init 1 = .ok (.invokespecial 3, 3) := by decide +kernel
theorem dX1_init_4 : decode cX1_init 4 = .ok (.aload_n 0, 1) := by decide +kernel
theorem dX1_init_5 : decode cX1_init 5 = .ok (.bipush 7, 2) := by decide +kernel
theorem dX1_init_7 : decode cX1_init 7 = .ok (.newarray .int, 2) := by decide +kernel
theorem dX1_init_9 : decode cX1_init 9 = .ok (.putfield 9, 3) := by decide +kernel
theorem dX1_init_12 : decode cX1_init 12 = .ok (.aload_n 0, 1) := by decide +kernel
theorem dX1_init_13 : decode cX1_init 13 = .ok (.bipush 7, 2) := by decide +kernel
theorem dX1_init_15 : decode cX1_init 15 = .ok (.newarray .int, 2) := by decide +kernel
theorem dX1_init_17 : decode cX1_init 17 = .ok (.putfield 15, 3) := by decide +kernel
theorem dX1_init_20 : decode cX1_init 20 = .ok (.aload_n 0, 1) := by decide +kernel
theorem dX1_init_21 : decode cX1_init 21 = .ok (.bipush 49, 2) := by decide +kernel
theorem dX1_init_23 : decode cX1_init 23 = .ok (.newarray .int, 2) := by decide +kernel
theorem dX1_init_25 : decode cX1_init 25 = .ok (.putfield 18, 3) := by decide +kernel
theorem dX1_init_28 : decode cX1_init 28 = .ok (.aload_n 0, 1) := by decide +kernel
theorem dX1_init_29 : decode cX1_init 29 = .ok (.iconst 0, 1) := by decide +kernel
theorem dX1_init_30 : decode cX1_init 30 = .ok (.putfield 21, 3) := by decide +kernel
theorem dX1_init_33 : decode cX1_init 33 = .ok (.aload_n 0, 1) := by decide +kernel
theorem dX1_init_34 : decode cX1_init 34 = .ok (.iconst 0, 1) := by decide +kernel
theorem dX1_init_35 : decode cX1_init 35 = .ok (.putfield 25, 3) := by decide +kernel
theorem dX1_init_38 : decode cX1_init 38 = .ok (.return_, 1) := by decide +kernel
theorem dX1_begin_0 : decode cX1_begin 0 = .ok (.aload_n 1, 1) := by decide +kernel
theorem dX1_begin_1 : decode cX1_begin 1 = .ok (.getfield 28, 3) := by decide +kernel
theorem dX1_begin_4 : decode cX1_begin 4 = .ok (.iconst 0, 1) := by decide +kernel
theorem dX1_begin_5 : decode cX1_begin 5 = .ok (.aload_n 0, 1) := by decide +kernel
theorem dX1_begin_6 : decode cX1_begin 6 = .ok (.getfield 9, 3) := by decide +kernel
theorem dX1_begin_9 : decode cX1_begin 9 = .ok (.iconst 0, 1) := by decide +kernel
theorem dX1_begin_10 : decode cX1_begin 10 = .ok (.bipush 7, 2) := by decide +kernel
theorem dX1_begin_12 : decode cX1_begin 12 = .ok (.invokestatic 33, 3) := by decide +kernel
theorem dX1_begin_15 : decode cX1_begin 15 = .ok (.aload_n 0, 1) := by decide +kernel
theorem dX1_begin_16 : decode cX1_begin 16 = .ok (.getfield 15, 3) := by decide +kernel
theorem dX1_begin_19 : decode cX1_begin 19 = .ok (.iconst 0, 1) := by decide +kernel
theorem dX1_begin_20 : decode cX1_begin 20 = .ok (.invokestatic 39, 3) := by decide +kernel
theorem dX1_begin_23 : decode cX1_begin 23 = .ok (.aload_n 0, 1) := by decide +kernel
theorem dX1_begin_24 : decode cX1_begin 24 = .ok (.getfield 18, 3) := by decide +kernel
theorem dX1_begin_27 : decode cX1_begin 27 = .ok (.iconst 0, 1) := by decide +kernel
theorem dX1_begin_28 : decode cX1_begin 28 = .ok (.invokestatic 39, 3) := by decide +kernel
theorem dX1_begin_31 : decode cX1_begin 31 = .ok (.aload_n 0, 1) := by decide +kernel
theorem dX1_begin_32 : decode cX1_begin 32 = .ok (.iconst 0, 1) := by decide +kernel
theorem dX1_begin_33 : decode cX1_begin 33 = .ok (.putfield 21, 3) := by decide +kernel
theorem dX1_begin_36 : decode cX1_begin 36 = .ok (.aload_n 0, 1) := by decide +kernel
theorem dX1_begin_37 : decode cX1_begin 37 = .ok (.iconst 0, 1) := by decide +kernel
theorem dX1_begin_38 : decode cX1_begin 38 = .ok (.putfield 25, 3) := by decide +kernel
theorem dX1_begin_41 : decode cX1_begin 41 = .ok (.return_, 1) := by decide +kernel
theorem dX1_copyFrom_0 : decode cX1_copyFrom 0 = .ok (.aload_n 1, 1) := by decide +kernel
theorem dX1_copyFrom_1 : decode cX1_copyFrom 1 = .ok (.getfield 9, 3) := by decide +kernel
theorem dX1_copyFrom_4 : decode cX1_copyFrom 4 = .ok (.iconst 0, 1) := by decide +kernel
theorem dX1_copyFrom_5 : decode cX1_copyFrom 5 = .ok (.aload_n 0, 1) := by decide +kernel
theorem dX1_copyFrom_6 : decode cX1_copyFrom 6 = .ok (.getfield 9, 3) := by decide +kernel
theorem dX1_copyFrom_9 : decode cX1_copyFrom 9 = .ok (.iconst 0, 1) := by decide +kernel
theorem dX1_copyFrom_10 : decode cX1_copyFrom 10 = .ok (.bipush 7, 2) := by decide +kernel
theorem dX1_copyFrom_12 : decode cX1_copyFrom 12 = .ok (.invokestatic 33, 3) := by decide +kernel
theorem dX1_copyFrom_15 : decode cX1_copyFrom 15 = .ok (.aload_n 1, 1) := by decide +kernel
theorem dX1_copyFrom_16 : decode cX1_copyFrom 16 = .ok (.getfield 15, 3) := by decide +kernel
theorem dX1_copyFrom_19 : decode cX1_copyFrom 19 = .ok (.iconst 0, 1) := by decide +kernel
theorem dX1_copyFrom_20 : decode cX1_copyFrom 20 = .ok (.aload_n 0, 1) := by decide +kernel
theorem dX1_copyFrom_21 : decode cX1_copyFrom 21 = .ok (.getfield 15, 3) := by decide +kernel
theorem dX1_copyFrom_24 : decode cX1_copyFrom 24 = .ok (.iconst 0, 1) := by decide +kernel
theorem dX1_copyFrom_25 : decode cX1_copyFrom 25 = .ok (.bipush 7, 2) := by decide +kernel
theorem dX1_copyFrom_27 : decode cX1_copyFrom 27 = .ok (.invokestatic 33, 3) := by decide +kernel
theorem dX1_copyFrom_30 : decode cX1_copyFrom 30 = .ok (.aload_n 1, 1) := by decide +kernel
theorem dX1_copyFrom_31 : decode cX1_copyFrom 31 = .ok (.getfield 18, 3) := by decide +kernel
theorem dX1_copyFrom_34 : decode cX1_copyFrom 34 = .ok (.iconst 0, 1) := by decide +kernel
theorem dX1_copyFrom_35 : decode cX1_copyFrom 35 = .ok (.aload_n 0, 1) := by decide +kernel
theorem dX1_copyFrom_36 : decode cX1_copyFrom 36 = .ok (.getfield 18, 3) := by decide +kernel
theorem dX1_copyFrom_39 : decode cX1_copyFrom 39 = .ok (.iconst 0, 1) := by decide +kernel
theorem dX1_copyFrom_40 : decode cX1_copyFrom 40 = .ok (.bipush 49, 2) := by decide +kernel
theorem dX1_copyFrom_42 : decode cX1_copyFrom 42 = .ok (.invokestatic 33, 3) := by decide +kernel
theorem dX1_copyFrom_45 : decode cX1_copyFrom 45 = .ok (.aload_n 0, 1) := by decide +kernel
theorem dX1_copyFrom_46 : decode cX1_copyFrom 46 = .ok (.aload_n 1, 1) := by decide +kernel
theorem dX1_copyFrom_47 : decode cX1_copyFrom 47 = .ok (.getfield 21, 3) := by decide +kernel
theorem dX1_copyFrom_50 : decode cX1_copyFrom 50 = .ok (.putfield 21, 3) := by decide +kernel
theorem dX1_copyFrom_53 : decode cX1_copyFrom 53 = .ok (.aload_n 0, 1) := by decide +kernel
theorem dX1_copyFrom_54 : decode cX1_copyFrom 54 = .ok (.aload_n 1, 1) := by decide +kernel
theorem dX1_copyFrom_55 : decode cX1_copyFrom 55 = .ok (.getfield 25, 3) := by decide +kernel
theorem dX1_copyFrom_58 : decode cX1_copyFrom 58 = .ok (.putfield 25, 3) := by decide +kernel
theorem dX1_copyFrom_61 : decode cX1_copyFrom 61 = .ok (.return_, 1) := by decide +kernel
theorem dX1_lessen_0 : decode cX1_lessen 0 = .ok (.aload_n 0, 1) := by decide +kernel
theorem dX1_lessen_1 : decode cX1_lessen 1 = .ok (.getfield 9, 3) := by decide +kernel
theorem dX1_lessen_4 : decode cX1_lessen 4 = .ok (.iload_n 1, 1) := by decide +kernel
theorem dX1_lessen_5 : decode cX1_lessen 5 = .ok (.iconst 0, 1) := by decide +kernel
theorem dX1_lessen_6 : decode cX1_lessen 6 = .ok (.aload_n 0, 1) := by decide +kernel
theorem dX1_lessen_7 : decode cX1_lessen 7 = .ok (.getfield 9, 3) := by decide +kernel
theorem dX1_lessen_10 : decode cX1_lessen 10 = .ok (.iload_n 1, 1) := by decide +kernel
theorem dX1_lessen_11 : decode cX1_lessen 11 = .ok (.iaload, 1) := by decide +kernel
theorem dX1_lessen_12 : decode cX1_lessen 12 = .ok (.iload_n 2, 1) := by decide +kernel
theorem dX1_lessen_13 : decode cX1_lessen 13 = .ok (.isub, 1) := by decide +kernel
theorem dX1_lessen_14 : decode cX1_lessen 14 = .ok (.invokestatic 45, 3) := by decide +kernel
theorem dX1_lessen_17 : decode cX1_lessen 17 = .ok (.iastore, 1) := by decide +kernel
theorem dX1_lessen_18 : decode cX1_lessen 18 = .ok (.aload_n 0, 1) := by decide +kernel
theorem dX1_lessen_19 : decode cX1_lessen 19 = .ok (.getfield 9, 3) := by decide +kernel
theorem dX1_lessen_22 : decode cX1_lessen 22 = .ok (.iload_n 1, 1) := by decide +kernel
theorem dX1_lessen_23 : decode cX1_lessen 23 = .ok (.iaload, 1) := by decide +kernel
theorem dX1_lessen_24 : decode cX1_lessen 24 = .ok (.ireturn, 1) := by decide +kernel
theorem dX1_addHurt_0 : decode cX1_addHurt 0 = .ok (.aload_n 0, 1) := by decide +kernel
theorem dX1_addHurt_1 : decode cX1_addHurt 1 = .ok (.ldc 51, 2) := by decide +kernel
theorem dX1_addHurt_3 : decode cX1_addHurt 3 = .ok (.aload_n 0, 1) := by decide +kernel
theorem dX1_addHurt_4 : decode cX1_addHurt 4 = .ok (.getfield 21, 3) := by decide +kernel
theorem dX1_addHurt_7 : decode cX1_addHurt 7 = .ok (.iload_n 1, 1) := by decide +kernel
theorem dX1_addHurt_8 : decode cX1_addHurt 8 = .ok (.iadd, 1) := by decide +kernel
theorem dX1_addHurt_9 : decode cX1_addHurt 9 = .ok (.invokestatic 52, 3) := by decide +kernel
theorem dX1_addHurt_12 : decode cX1_addHurt 12 = .ok (.putfield 21, 3) := by decide +kernel
theorem dX1_addHurt_15 : decode cX1_addHurt 15 = .ok (.return_, 1) := by decide +kernel
theorem dX1_endYear_0 : decode cX1_endYear 0 = .ok (.iconst 0, 1) := by decide +kernel
theorem dX1_endYear_1 : decode cX1_endYear 1 = .ok (.istore_n 2, 1) := by decide +kernel
theorem dX1_endYear_2 : decode cX1_endYear 2 = .ok (.iload_n 2, 1) := by decide +kernel
theorem dX1_endYear_3 : decode cX1_endYear 3 = .ok (.aload_n 1, 1) := by decide +kernel
theorem dX1_endYear_4 : decode cX1_endYear 4 = .ok (.getfield 55, 3) := by decide +kernel
theorem dX1_endYear_7 : decode cX1_endYear 7 = .ok (.if_icmp .ge 34, 3) := by decide +kernel
theorem dX1_endYear_10 : decode cX1_endYear 10 = .ok (.aload_n 0, 1) := by decide +kernel
theorem dX1_endYear_11 : decode cX1_endYear 11 = .ok (.getfield 9, 3) := by decide +kernel
theorem dX1_endYear_14 : decode cX1_endYear 14 = .ok (.iload_n 2, 1) := by decide +kernel
theorem dX1_endYear_15 : decode cX1_endYear 15 = .ok (.sipush 999, 3) := by decide +kernel
theorem dX1_endYear_18 : decode cX1_endYear 18 = .ok (.aload_n 0, 1) := by decide +kernel
theorem dX1_endYear_19 : decode cX1_endYear 19 = .ok (.getfield 9, 3) := by decide +kernel
theorem dX1_endYear_22 : decode cX1_endYear 22 = .ok (.iload_n 2, 1) := by decide +kernel
theorem dX1_endYear_23 : decode cX1_endYear 23 = .ok (.iaload, 1) := by decide +kernel
theorem dX1_endYear_24 : decode cX1_endYear 24 = .ok (.aload_n 1, 1) := by decide +kernel
theorem dX1_endYear_25 : decode cX1_endYear 25 = .ok (.getfield 28, 3) := by decide +kernel
theorem dX1_endYear_28 : decode cX1_endYear 28 = .ok (.iload_n 2, 1) := by decide +kernel
theorem dX1_endYear_29 : decode cX1_endYear 29 = .ok (.iaload, 1) := by decide +kernel
theorem dX1_endYear_30 : decode cX1_endYear 30 = .ok (.iadd, 1) := by decide +kernel
theorem dX1_endYear_31 : decode cX1_endYear 31 = .ok (.invokestatic 52, 3) := by decide +kernel
theorem dX1_endYear_34 : decode cX1_endYear 34 = .ok (.iastore, 1) := by decide +kernel
theorem dX1_endYear_35 : decode cX1_endYear 35 = .ok (.iinc 2 1, 3) := by decide +kernel
theorem dX1_endYear_38 : decode cX1_endYear 38 = .ok (.goto (-36), 3) := by decide +kernel
theorem dX1_endYear_41 : decode cX1_endYear 41 = .ok (.aload_n 0, 1) := by decide +kernel
theorem dX1_endYear_42 : decode cX1_endYear 42 = .ok (.getfield 15, 3) := by decide +kernel
theorem dX1_endYear_45 : decode cX1_endYear 45 = .ok (.iconst 0, 1) := by decide +kernel
theorem dX1_endYear_46 : decode cX1_endYear 46 = .ok (.invokestatic 39, 3) := by decide +kernel
theorem dX1_endYear_49 : decode cX1_endYear 49 = .ok (.aload_n 0, 1) := by decide +kernel
theorem dX1_endYear_50 : decode cX1_endYear 50 = .ok (.getfield 18, 3) := by decide +kernel
theorem dX1_endYear_53 : decode cX1_endYear 53 = .ok (.iconst 0, 1) := by decide +kernel
theorem dX1_endYear_54 : decode cX1_endYear 54 = .ok (.invokestatic 39, 3) := by decide +kernel
theorem dX1_endYear_57 : decode cX1_endYear 57 = .ok (.aload_n 0, 1) := by decide +kernel
theorem dX1_endYear_58 : decode cX1_endYear 58 = .ok (.dup, 1) := by decide +kernel
theorem dX1_endYear_59 : decode cX1_endYear 59 = .ok (.getfield 25, 3) := by decide +kernel
theorem dX1_endYear_62 : decode cX1_endYear 62 = .ok (.iconst 1, 1) := by decide +kernel
theorem dX1_endYear_63 : decode cX1_endYear 63 = .ok (.iadd, 1) := by decide +kernel
theorem dX1_endYear_64 : decode cX1_endYear 64 = .ok (.putfield 25, 3) := by decide +kernel
theorem dX1_endYear_67 : decode cX1_endYear 67 = .ok (.return_, 1) := by decide +kernel
theorem dX1_dueOfAll_0 : decode cX1_dueOfAll 0 = .ok (.iconst 0, 1) := by decide +kernel
theorem dX1_dueOfAll_1 : decode cX1_dueOfAll 1 = .ok (.istore_n 2, 1) := by decide +kernel
theorem dX1_dueOfAll_2 : decode cX1_dueOfAll 2 = .ok (.iconst 0, 1) := by decide +kernel
theorem dX1_dueOfAll_3 : decode cX1_dueOfAll 3 = .ok (.istore_n 3, 1) := by decide +kernel
theorem dX1_dueOfAll_4 : decode cX1_dueOfAll 4 = .ok (.iload_n 3, 1) := by decide +kernel
theorem dX1_dueOfAll_5 : decode cX1_dueOfAll 5 = .ok (.iload_n 1, 1) := by decide +kernel
theorem dX1_dueOfAll_6 : decode cX1_dueOfAll 6 = .ok (.if_icmp .ge 18, 3) := by decide +kernel
theorem dX1_dueOfAll_9 : decode cX1_dueOfAll 9 = .ok (.iload_n 2, 1) := by decide +kernel
theorem dX1_dueOfAll_10 : decode cX1_dueOfAll 10 = .ok (.aload_n 0, 1) := by decide +kernel
theorem dX1_dueOfAll_11 : decode cX1_dueOfAll 11 = .ok (.getfield 9, 3) := by decide +kernel
theorem dX1_dueOfAll_14 : decode cX1_dueOfAll 14 = .ok (.iload_n 3, 1) := by decide +kernel
theorem dX1_dueOfAll_15 : decode cX1_dueOfAll 15 = .ok (.iaload, 1) := by decide +kernel
theorem dX1_dueOfAll_16 : decode cX1_dueOfAll 16 = .ok (.iadd, 1) := by decide +kernel
theorem dX1_dueOfAll_17 : decode cX1_dueOfAll 17 = .ok (.istore_n 2, 1) := by decide +kernel
theorem dX1_dueOfAll_18 : decode cX1_dueOfAll 18 = .ok (.iinc 3 1, 3) := by decide +kernel
theorem dX1_dueOfAll_21 : decode cX1_dueOfAll 21 = .ok (.goto (-17), 3) := by decide +kernel
theorem dX1_dueOfAll_24 : decode cX1_dueOfAll 24 = .ok (.iload_n 2, 1) := by decide +kernel
theorem dX1_dueOfAll_25 : decode cX1_dueOfAll 25 = .ok (.ireturn, 1) := by decide +kernel
theorem dX2_init_0 : decode cX2_init 0 = .ok (.aload_n 0, 1) := by decide +kernel
theorem dX2_init_1 : decode cX2_init 1 = .ok (.invokespecial 3, 3) := by decide +kernel
theorem dX2_init_4 : decode cX2_init 4 = .ok (.aload_n 0, 1) := by decide +kernel
theorem dX2_init_5 : decode cX2_init 5 = .ok (.bipush 10, 2) := by decide +kernel
theorem dX2_init_7 : decode cX2_init 7 = .ok (.newarray .int, 2) := by decide +kernel
theorem dX2_init_9 : decode cX2_init 9 = .ok (.putfield 11, 3) := by decide +kernel
theorem dX2_init_12 : decode cX2_init 12 = .ok (.aload_n 0, 1) := by decide +kernel
theorem dX2_init_13 : decode cX2_init 13 = .ok (.sipush 1000, 3) := by decide +kernel
theorem dX2_init_16 : decode cX2_init 16 = .ok (.newarray .int, 2) := by decide +kernel
theorem dX2_init_18 : decode cX2_init 18 = .ok (.putfield 15, 3) := by decide +kernel
theorem dX2_init_21 : decode cX2_init 21 = .ok (.aload_n 0, 1) := by decide +kernel
theorem dX2_init_22 : decode cX2_init 22 = .ok (.bipush 7, 2) := by decide +kernel
theorem dX2_init_24 : decode cX2_init 24 = .ok (.bipush 13, 2) := by decide +kernel
theorem dX2_init_26 : decode cX2_init 26 = .ok (.multianewarray 18 2, 4) := by decide +kernel
theorem dX2_init_30 : decode cX2_init 30 = .ok (.putfield 20, 3) := by decide +kernel
theorem dX2_init_33 : decode cX2_init 33 = .ok (.aload_n 0, 1) := by decide +kernel
theorem dX2_init_34 : decode cX2_init 34 = .ok (.bipush 8, 2) := by decide +kernel
theorem dX2_init_36 : decode cX2_init 36 = .ok (.bipush 100, 2) := by decide +kernel
theorem dX2_init_38 : decode cX2_init 38 = .ok (.multianewarray 18 2, 4) := by decide +kernel
theorem dX2_init_42 : decode cX2_init 42 = .ok (.putfield 23, 3) := by decide +kernel
theorem dX2_init_45 : decode cX2_init 45 = .ok (.return_, 1) := by decide +kernel
theorem dX2_payByFalls_0 : decode cX2_payByFalls 0 = .ok (.aload_n 0, 1) := by decide +kernel
theorem dX2_payByFalls_1 : decode cX2_payByFalls 1 = .ok (.aload_n 1, 1) := by decide +kernel
theorem dX2_payByFalls_2 : decode cX2_payByFalls 2 = .ok (.invokevirtual 26, 3) := by decide +kernel
theorem dX2_payByFalls_5 : decode cX2_payByFalls 5 = .ok (.aload_n 0, 1) := by decide +kernel
theorem dX2_payByFalls_6 : decode cX2_payByFalls 6 = .ok (.getfield 15, 3) := by decide +kernel
theorem dX2_payByFalls_9 : decode cX2_payByFalls 9 = .ok (.iconst 0, 1) := by decide +kernel
theorem dX2_payByFalls_10 : decode cX2_payByFalls 10 = .ok (.iconst 0, 1) := by decide +kernel
theorem dX2_payByFalls_11 : decode cX2_payByFalls 11 = .ok (.iastore, 1) := by decide +kernel
theorem dX2_payByFalls_12 : decode cX2_payByFalls 12 = .ok (.iconst 1, 1) := by decide +kernel
theorem dX2_payByFalls_13 : decode cX2_payByFalls 13 = .ok (.istore 4, 2) := by decide +kernel
theorem dX2_payByFalls_15 : decode cX2_payByFalls 15 = .ok (.iload 4, 2) := by decide +kernel
theorem dX2_payByFalls_17 : decode cX2_payByFalls 17 = .ok (.iload_n 2, 1) := by decide +kernel
theorem dX2_payByFalls_18 : decode cX2_payByFalls 18 = .ok (.if_icmp .gt 22, 3) := by decide +kernel
theorem dX2_payByFalls_21 : decode cX2_payByFalls 21 = .ok (.aload_n 0, 1) := by decide +kernel
theorem dX2_payByFalls_22 : decode cX2_payByFalls 22 = .ok (.getfield 15, 3) := by decide +kernel
theorem dX2_payByFalls_25 : decode cX2_payByFalls 25 = .ok (.iload 4, 2) := by decide +kernel
theorem dX2_payByFalls_27 : decode cX2_payByFalls 27 = .ok (.aload_n 0, 1) := by decide +kernel
theorem dX2_payByFalls_28 : decode cX2_payByFalls 28 = .ok (.iload 4, 2) := by decide +kernel
theorem dX2_payByFalls_30 : decode cX2_payByFalls 30 = .ok (.invokevirtual 30, 3) := by decide +kernel
theorem dX2_payByFalls_33 : decode cX2_payByFalls 33 = .ok (.iastore, 1) := by decide +kernel
theorem dX2_payByFalls_34 : decode cX2_payByFalls 34 = .ok (.iinc 4 1, 3) := by decide +kernel
theorem dX2_payByFalls_37 : decode cX2_payByFalls 37 = .ok (.goto (-22), 3) := by decide +kernel
theorem dX2_payByFalls_40 : decode cX2_payByFalls 40 = .ok (.aload_n 0, 1) := by decide +kernel
theorem dX2_payByFalls_41 : decode cX2_payByFalls 41 = .ok (.getfield 15, 3) := by decide +kernel
theorem dX2_payByFalls_44 : decode cX2_payByFalls 44 = .ok (.iload_n 2, 1) := by decide +kernel
theorem dX2_payByFalls_45 : decode cX2_payByFalls 45 = .ok (.iaload, 1) := by decide +kernel
theorem dX2_payByFalls_46 : decode cX2_payByFalls 46 = .ok (.istore 4, 2) := by decide +kernel
theorem dX2_payByFalls_48 : decode cX2_payByFalls 48 = .ok (.iload 4, 2) := by decide +kernel
theorem dX2_payByFalls_50 : decode cX2_payByFalls 50 = .ok (.ldc 34, 2) := by decide +kernel
theorem dX2_payByFalls_52 : decode cX2_payByFalls 52 = .ok (.if_icmp .ne 6, 3) := by decide +kernel
theorem dX2_payByFalls_55 : decode cX2_payByFalls 55 = .ok (.bipush (-9), 2) := by decide +kernel
theorem dX2_payByFalls_57 : decode cX2_payByFalls 57 = .ok (.ireturn, 1) := by decide +kernel
theorem dX2_payByFalls_58 : decode cX2_payByFalls 58 = .ok (.iload_n 3, 1) := by decide +kernel
theorem dX2_payByFalls_59 : decode cX2_payByFalls 59 = .ok (.ifCond .eq 12, 3) := by decide +kernel
theorem dX2_payByFalls_62 : decode cX2_payByFalls 62 = .ok (.iload 4, 2) := by decide +kernel
theorem dX2_payByFalls_64 : decode cX2_payByFalls 64 = .ok (.sipush 1000, 3) := by decide +kernel
theorem dX2_payByFalls_67 : decode cX2_payByFalls 67 = .ok (.idiv, 1) := by decide +kernel
theorem dX2_payByFalls_68 : decode cX2_payByFalls 68 = .ok (.goto 9, 3) := by decide +kernel
theorem dX2_payByFalls_71 : decode cX2_payByFalls 71 = .ok (.iload 4, 2) := by decide +kernel
theorem dX2_payByFalls_73 : decode cX2_payByFalls 73 = .ok (.sipush 1000, 3) := by decide +kernel
theorem dX2_payByFalls_76 : decode cX2_payByFalls 76 = .ok (.irem, 1) := by decide +kernel
theorem dX2_payByFalls_77 : decode cX2_payByFalls 77 = .ok (.ireturn, 1) := by decide +kernel
theorem dX2_gatherFalls_0 : decode cX2_gatherFalls 0 = .ok (.aload_n 0, 1) := by decide +kernel
theorem dX2_gatherFalls_1 : decode cX2_gatherFalls 1 = .ok (.getfield 11, 3) := by decide +kernel
theorem dX2_gatherFalls_4 : decode cX2_gatherFalls 4 = .ok (.ldc 34, 2) := by decide +kernel
theorem dX2_gatherFalls_6 : decode cX2_gatherFalls 6 = .ok (.invokestatic 35, 3) := by decide +kernel
theorem dX2_gatherFalls_9 : decode cX2_gatherFalls 9 = .ok (.iconst 0, 1) := by decide +kernel
theorem dX2_gatherFalls_10 : decode cX2_gatherFalls 10 = .ok (.istore_n 2, 1) := by decide +kernel
theorem dX2_gatherFalls_11 : decode cX2_gatherFalls 11 = .ok (.iload_n 2, 1) := by decide +kernel
theorem dX2_gatherFalls_12 : decode cX2_gatherFalls 12 = .ok (.aload_n 1, 1) := by decide +kernel
theorem dX2_gatherFalls_13 : decode cX2_gatherFalls 13 = .ok (.getfield 41, 3) := by decide +kernel
theorem dX2_gatherFalls_16 : decode cX2_gatherFalls 16 = .ok (.if_icmp .ge 58, 3) := by decide +kernel
theorem dX2_gatherFalls_19 : decode cX2_gatherFalls 19 = .ok (.aload_n 0, 1) := by decide +kernel
theorem dX2_gatherFalls_20 : decode cX2_gatherFalls 20 = .ok (.aload_n 1, 1) := by decide +kernel
theorem dX2_gatherFalls_21 : decode cX2_gatherFalls 21 = .ok (.iload_n 2, 1) := by decide +kernel
theorem dX2_gatherFalls_22 : decode cX2_gatherFalls 22 = .ok (.invokevirtual 47, 3) := by decide +kernel
theorem dX2_gatherFalls_25 : decode cX2_gatherFalls 25 = .ok (.aload_n 1, 1) := by decide +kernel
theorem dX2_gatherFalls_26 : decode cX2_gatherFalls 26 = .ok (.getfield 50, 3) := by decide +kernel
theorem dX2_gatherFalls_29 : decode cX2_gatherFalls 29 = .ok (.iload_n 2, 1) := by decide +kernel
theorem dX2_gatherFalls_30 : decode cX2_gatherFalls 30 = .ok (.iaload, 1) := by decide +kernel
theorem dX2_gatherFalls_31 : decode cX2_gatherFalls 31 = .ok (.invokevirtual 53, 3) := by decide +kernel
theorem dX2_gatherFalls_34 : decode cX2_gatherFalls 34 = .ok (.iconst 0, 1) := by decide +kernel
theorem dX2_gatherFalls_35 : decode cX2_gatherFalls 35 = .ok (.istore_n 3, 1) := by decide +kernel
theorem dX2_gatherFalls_36 : decode cX2_gatherFalls 36 = .ok (.iload_n 3, 1) := by decide +kernel
theorem dX2_gatherFalls_37 : decode cX2_gatherFalls 37 = .ok (.iload_n 2, 1) := by decide +kernel
theorem dX2_gatherFalls_38 : decode cX2_gatherFalls 38 = .ok (.if_icmp .ge 30, 3) := by decide +kernel
theorem dX2_gatherFalls_41 : decode cX2_gatherFalls 41 = .ok (.aload_n 0, 1) := by decide +kernel
theorem dX2_gatherFalls_42 : decode cX2_gatherFalls 42 = .ok (.aload_n 1, 1) := by decide +kernel
theorem dX2_gatherFalls_43 : decode cX2_gatherFalls 43 = .ok (.getfield 57, 3) := by decide +kernel
theorem dX2_gatherFalls_46 : decode cX2_gatherFalls 46 = .ok (.aload_n 1, 1) := by decide +kernel
theorem dX2_gatherFalls_47 : decode cX2_gatherFalls 47 = .ok (.getfield 50, 3) := by decide +kernel
theorem dX2_gatherFalls_50 : decode cX2_gatherFalls 50 = .ok (.iload_n 2, 1) := by decide +kernel
theorem dX2_gatherFalls_51 : decode cX2_gatherFalls 51 = .ok (.iaload, 1) := by decide +kernel
theorem dX2_gatherFalls_52 : decode cX2_gatherFalls 52 = .ok (.aload_n 1, 1) := by decide +kernel
theorem dX2_gatherFalls_53 : decode cX2_gatherFalls 53 = .ok (.getfield 50, 3) := by decide +kernel
theorem dX2_gatherFalls_56 : decode cX2_gatherFalls 56 = .ok (.iload_n 3, 1) := by decide +kernel
theorem dX2_gatherFalls_57 : decode cX2_gatherFalls 57 = .ok (.iaload, 1) := by decide +kernel
theorem dX2_gatherFalls_58 : decode cX2_gatherFalls 58 = .ok (.iadd, 1) := by decide +kernel
theorem dX2_gatherFalls_59 : decode cX2_gatherFalls 59 = .ok (.invokevirtual 53, 3) := by decide +kernel
theorem dX2_gatherFalls_62 : decode cX2_gatherFalls 62 = .ok (.iinc 3 1, 3) := by decide +kernel
theorem dX2_gatherFalls_65 : decode cX2_gatherFalls 65 = .ok (.goto (-29), 3) := by decide +kernel
theorem dX2_gatherFalls_68 : decode cX2_gatherFalls 68 = .ok (.iinc 2 1, 3) := by decide +kernel
theorem dX2_gatherFalls_71 : decode cX2_gatherFalls 71 = .ok (.goto (-60), 3) := by decide +kernel
theorem dX2_gatherFalls_74 : decode cX2_gatherFalls 74 = .ok (.return_, 1) := by decide +kernel
theorem dX2_offerFall_0 : decode cX2_offerFall 0 = .ok (.aload_n 0, 1) := by decide +kernel
theorem dX2_offerFall_1 : decode cX2_offerFall 1 = .ok (.getfield 11, 3) := by decide +kernel
theorem dX2_offerFall_4 : decode cX2_offerFall 4 = .ok (.iload_n 1, 1) := by decide +kernel
theorem dX2_offerFall_5 : decode cX2_offerFall 5 = .ok (.aload_n 0, 1) := by decide +kernel
theorem dX2_offerFall_6 : decode cX2_offerFall 6 = .ok (.getfield 11, 3) := by decide +kernel
theorem dX2_offerFall_9 : decode cX2_offerFall 9 = .ok (.iload_n 1, 1) := by decide +kernel
theorem dX2_offerFall_10 : decode cX2_offerFall 10 = .ok (.iaload, 1) := by decide +kernel
theorem dX2_offerFall_11 : decode cX2_offerFall 11 = .ok (.iload_n 2, 1) := by decide +kernel
theorem dX2_offerFall_12 : decode cX2_offerFall 12 = .ok (.invokestatic 60, 3) := by decide +kernel
theorem dX2_offerFall_15 : decode cX2_offerFall 15 = .ok (.iastore, 1) := by decide +kernel
theorem dX2_offerFall_16 : decode cX2_offerFall 16 = .ok (.return_, 1) := by decide +kernel
theorem dX2_cheapestFor_0 : decode cX2_cheapestFor 0 = .ok (.ldc 34, 2) := by decide +kernel
theorem dX2_cheapestFor_2 : decode cX2_cheapestFor 2 = .ok (.istore_n 2, 1) := by decide +kernel
theorem dX2_cheapestFor_3 : decode cX2_cheapestFor 3 = .ok (.iconst 1, 1) := by decide +kernel
theorem dX2_cheapestFor_4 : decode cX2_cheapestFor 4 = .ok (.istore_n 3, 1) := by decide +kernel
theorem dX2_cheapestFor_5 : decode cX2_cheapestFor 5 = .ok (.iload_n 3, 1) := by decide +kernel
theorem dX2_cheapestFor_6 : decode cX2_cheapestFor 6 = .ok (.bipush 9, 2) := by decide +kernel
theorem dX2_cheapestFor_8 : decode cX2_cheapestFor 8 = .ok (.if_icmp .gt 61, 3) := by decide +kernel
theorem dX2_cheapestFor_11 : decode cX2_cheapestFor 11 = .ok (.aload_n 0, 1) := by decide +kernel
theorem dX2_cheapestFor_12 : decode cX2_cheapestFor 12 = .ok (.getfield 15, 3) := by decide +kernel
theorem dX2_cheapestFor_15 : decode cX2_cheapestFor 15 = .ok (.iconst 0, 1) := by decide +kernel
theorem dX2_cheapestFor_16 : decode cX2_cheapestFor 16 = .ok (.iload_n 1, 1) := by decide +kernel
theorem dX2_cheapestFor_17 : decode cX2_cheapestFor 17 = .ok (.iload_n 3, 1) := by decide +kernel
theorem dX2_cheapestFor_18 : decode cX2_cheapestFor 18 = .ok (.isub, 1) := by decide +kernel
theorem dX2_cheapestFor_19 : decode cX2_cheapestFor 19 = .ok (.invokestatic 66, 3) := by decide +kernel
theorem dX2_cheapestFor_22 : decode cX2_cheapestFor 22 = .ok (.iaload, 1) := by decide +kernel
theorem dX2_cheapestFor_23 : decode cX2_cheapestFor 23 = .ok (.istore 4, 2) := by decide +kernel
theorem dX2_cheapestFor_25 : decode cX2_cheapestFor 25 = .ok (.aload_n 0, 1) := by decide +kernel
theorem dX2_cheapestFor_26 : decode cX2_cheapestFor 26 = .ok (.getfield 11, 3) := by decide +kernel
theorem dX2_cheapestFor_29 : decode cX2_cheapestFor 29 = .ok (.iload_n 3, 1) := by decide +kernel
theorem dX2_cheapestFor_30 : decode cX2_cheapestFor 30 = .ok (.iaload, 1) := by decide +kernel
theorem dX2_cheapestFor_31 : decode cX2_cheapestFor 31 = .ok (.ldc 34, 2) := by decide +kernel
theorem dX2_cheapestFor_33 : decode cX2_cheapestFor 33 = .ok (.if_icmp .eq 30, 3) := by decide +kernel
theorem dX2_cheapestFor_36 : decode cX2_cheapestFor 36 = .ok (.iload 4, 2) := by decide +kernel
theorem dX2_cheapestFor_38 : decode cX2_cheapestFor 38 = .ok (.ldc 34, 2) := by decide +kernel
theorem dX2_cheapestFor_40 : decode cX2_cheapestFor 40 = .ok (.if_icmp .eq 23, 3) := by decide +kernel
theorem dX2_cheapestFor_43 : decode cX2_cheapestFor 43 = .ok (.iload_n 2, 1) := by decide +kernel
theorem dX2_cheapestFor_44 : decode cX2_cheapestFor 44 = .ok (.iload 4, 2) := by decide +kernel
theorem dX2_cheapestFor_46 : decode cX2_cheapestFor 46 = .ok (.aload_n 0, 1) := by decide +kernel
theorem dX2_cheapestFor_47 : decode cX2_cheapestFor 47 = .ok (.getfield 11, 3) := by decide +kernel
theorem dX2_cheapestFor_50 : decode cX2_cheapestFor 50 = .ok (.iload_n 3, 1) := by decide +kernel
theorem dX2_cheapestFor_51 : decode cX2_cheapestFor 51 = .ok (.iaload, 1) := by decide +kernel
theorem dX2_cheapestFor_52 : decode cX2_cheapestFor 52 = .ok (.sipush 1000, 3) := by decide +kernel
theorem dX2_cheapestFor_55 : decode cX2_cheapestFor 55 = .ok (.imul, 1) := by decide +kernel
theorem dX2_cheapestFor_56 : decode cX2_cheapestFor 56 = .ok (.iadd, 1) := by decide +kernel
theorem dX2_cheapestFor_57 : decode cX2_cheapestFor 57 = .ok (.iconst 1, 1) := by decide +kernel
theorem dX2_cheapestFor_58 : decode cX2_cheapestFor 58 = .ok (.iadd, 1) := by decide +kernel
theorem dX2_cheapestFor_59 : decode cX2_cheapestFor 59 = .ok (.invokestatic 60, 3) := by decide +kernel
theorem dX2_cheapestFor_62 : decode cX2_cheapestFor 62 = .ok (.istore_n 2, 1) := by decide +kernel
theorem dX2_cheapestFor_63 : decode cX2_cheapestFor 63 = .ok (.iinc 3 1, 3) := by decide +kernel
theorem dX2_cheapestFor_66 : decode cX2_cheapestFor 66 = .ok (.goto (-61), 3) := by decide +kernel
theorem dX2_cheapestFor_69 : decode cX2_cheapestFor 69 = .ok (.iload_n 2, 1) := by decide +kernel
theorem dX2_cheapestFor_70 : decode cX2_cheapestFor 70 = .ok (.ireturn, 1) := by decide +kernel
theorem dX2_spend_0 : decode cX2_spend 0 = .ok (.aload_n 0, 1) := by decide +kernel
theorem dX2_spend_1 : decode cX2_spend 1 = .ok (.getfield 23, 3) := by decide +kernel
theorem dX2_spend_4 : decode cX2_spend 4 = .ok (.aload_n 1, 1) := by decide +kernel
theorem dX2_spend_5 : decode cX2_spend 5 = .ok (.getfield 69, 3) := by decide +kernel
theorem dX2_spend_8 : decode cX2_spend 8 = .ok (.aaload, 1) := by decide +kernel
theorem dX2_spend_9 : decode cX2_spend 9 = .ok (.iconst 0, 1) := by decide +kernel
theorem dX2_spend_10 : decode cX2_spend 10 = .ok (.invokestatic 35, 3) := by decide +kernel
theorem dX2_spend_13 : decode cX2_spend 13 = .ok (.aload_n 1, 1) := by decide +kernel
theorem dX2_spend_14 : decode cX2_spend 14 = .ok (.getfield 69, 3) := by decide +kernel
theorem dX2_spend_17 : decode cX2_spend 17 = .ok (.iconst 1, 1) := by decide +kernel
theorem dX2_spend_18 : decode cX2_spend 18 = .ok (.isub, 1) := by decide +kernel
theorem dX2_spend_19 : decode cX2_spend 19 = .ok (.istore 4, 2) := by decide +kernel
theorem dX2_spend_21 : decode cX2_spend 21 = .ok (.iload 4, 2) := by decide +kernel
theorem dX2_spend_23 : decode cX2_spend 23 = .ok (.ifCond .lt 92, 3) := by decide +kernel
theorem dX2_spend_26 : decode cX2_spend 26 = .ok (.iconst 0, 1) := by decide +kernel
theorem dX2_spend_27 : decode cX2_spend 27 = .ok (.istore 5, 2) := by decide +kernel
theorem dX2_spend_29 : decode cX2_spend 29 = .ok (.iload 5, 2) := by decide +kernel
theorem dX2_spend_31 : decode cX2_spend 31 = .ok (.bipush 12, 2) := by decide +kernel
theorem dX2_spend_33 : decode cX2_spend 33 = .ok (.if_icmp .gt 43, 3) := by decide +kernel
theorem dX2_spend_36 : decode cX2_spend 36 = .ok (.aload_n 0, 1) := by decide +kernel
theorem dX2_spend_37 : decode cX2_spend 37 = .ok (.getfield 20, 3) := by decide +kernel
theorem dX2_spend_40 : decode cX2_spend 40 = .ok (.iload 4, 2) := by decide +kernel
theorem dX2_spend_42 : decode cX2_spend 42 = .ok (.aaload, 1) := by decide +kernel
theorem dX2_spend_43 : decode cX2_spend 43 = .ok (.iload 5, 2) := by decide +kernel
theorem dX2_spend_45 : decode cX2_spend 45 = .ok (.aload_n 2, 1) := by decide +kernel
theorem dX2_spend_46 : decode cX2_spend 46 = .ok (.getfield 72, 3) := by decide +kernel
theorem dX2_spend_49 : decode cX2_spend 49 = .ok (.iload 4, 2) := by decide +kernel
theorem dX2_spend_51 : decode cX2_spend 51 = .ok (.iaload, 1) := by decide +kernel
theorem dX2_spend_52 : decode cX2_spend 52 = .ok (.aload_n 1, 1) := by decide +kernel
theorem dX2_spend_53 : decode cX2_spend 53 = .ok (.getfield 77, 3) := by decide +kernel
theorem dX2_spend_56 : decode cX2_spend 56 = .ok (.aload_n 2, 1) := by decide +kernel
theorem dX2_spend_57 : decode cX2_spend 57 = .ok (.getfield 80, 3) := by decide +kernel
theorem dX2_spend_60 : decode cX2_spend 60 = .ok (.iload 4, 2) := by decide +kernel
theorem dX2_spend_62 : decode cX2_spend 62 = .ok (.iaload, 1) := by decide +kernel
theorem dX2_spend_63 : decode cX2_spend 63 = .ok (.isub, 1) := by decide +kernel
theorem dX2_spend_64 : decode cX2_spend 64 = .ok (.iload 5, 2) := by decide +kernel
theorem dX2_spend_66 : decode cX2_spend 66 = .ok (.invokestatic 83, 3) := by decide +kernel
theorem dX2_spend_69 : decode cX2_spend 69 = .ok (.iastore, 1) := by decide +kernel
theorem dX2_spend_70 : decode cX2_spend 70 = .ok (.iinc 5 1, 3) := by decide +kernel
theorem dX2_spend_73 : decode cX2_spend 73 = .ok (.goto (-44), 3) := by decide +kernel
theorem dX2_spend_76 : decode cX2_spend 76 = .ok (.iconst 0, 1) := by decide +kernel
theorem dX2_spend_77 : decode cX2_spend 77 = .ok (.istore 5, 2) := by decide +kernel
theorem dX2_spend_79 : decode cX2_spend 79 = .ok (.iload 5, 2) := by decide +kernel
theorem dX2_spend_81 : decode cX2_spend 81 = .ok (.iload_n 3, 1) := by decide +kernel
theorem dX2_spend_82 : decode cX2_spend 82 = .ok (.if_icmp .gt 27, 3) := by decide +kernel
theorem dX2_spend_85 : decode cX2_spend 85 = .ok (.aload_n 0, 1) := by decide +kernel
theorem dX2_spend_86 : decode cX2_spend 86 = .ok (.getfield 23, 3) := by decide +kernel
theorem dX2_spend_89 : decode cX2_spend 89 = .ok (.iload 4, 2) := by decide +kernel
theorem dX2_spend_91 : decode cX2_spend 91 = .ok (.aaload, 1) := by decide +kernel
theorem dX2_spend_92 : decode cX2_spend 92 = .ok (.iload 5, 2) := by decide +kernel
theorem dX2_spend_94 : decode cX2_spend 94 = .ok (.aload_n 0, 1) := by decide +kernel
theorem dX2_spend_95 : decode cX2_spend 95 = .ok (.iload 4, 2) := by decide +kernel
theorem dX2_spend_97 : decode cX2_spend 97 = .ok (.iload 5, 2) := by decide +kernel
theorem dX2_spend_99 : decode cX2_spend 99 = .ok (.invokevirtual 87, 3) := by decide +kernel
theorem dX2_spend_102 : decode cX2_spend 102 = .ok (.iastore, 1) := by decide +kernel
theorem dX2_spend_103 : decode cX2_spend 103 = .ok (.iinc 5 1, 3) := by decide +kernel
theorem dX2_spend_106 : decode cX2_spend 106 = .ok (.goto (-27), 3) := by decide +kernel
theorem dX2_spend_109 : decode cX2_spend 109 = .ok (.iinc 4 (-1), 3) := by decide +kernel
theorem dX2_spend_112 : decode cX2_spend 112 = .ok (.goto (-91), 3) := by decide +kernel
theorem dX2_spend_115 : decode cX2_spend 115 = .ok (.return_, 1) := by decide +kernel
theorem dX2_leastWith_0 : decode cX2_leastWith 0 = .ok (.ldc 34, 2) := by decide +kernel
theorem dX2_leastWith_2 : decode cX2_leastWith 2 = .ok (.istore_n 3, 1) := by decide +kernel
theorem dX2_leastWith_3 : decode cX2_leastWith 3 = .ok (.iconst 0, 1) := by decide +kernel
theorem dX2_leastWith_4 : decode cX2_leastWith 4 = .ok (.istore 4, 2) := by decide +kernel
theorem dX2_leastWith_6 : decode cX2_leastWith 6 = .ok (.iload 4, 2) := by decide +kernel
theorem dX2_leastWith_8 : decode cX2_leastWith 8 = .ok (.bipush 12, 2) := by decide +kernel
theorem dX2_leastWith_10 : decode cX2_leastWith 10 = .ok (.if_icmp .gt 28, 3) := by decide +kernel
theorem dX2_leastWith_13 : decode cX2_leastWith 13 = .ok (.iload 4, 2) := by decide +kernel
theorem dX2_leastWith_15 : decode cX2_leastWith 15 = .ok (.iload_n 2, 1) := by decide +kernel
theorem dX2_leastWith_16 : decode cX2_leastWith 16 = .ok (.if_icmp .gt 22, 3) := by decide +kernel
theorem dX2_leastWith_19 : decode cX2_leastWith 19 = .ok (.iload_n 3, 1) := by decide +kernel
theorem dX2_leastWith_20 : decode cX2_leastWith 20 = .ok (.aload_n 0, 1) := by decide +kernel
theorem dX2_leastWith_21 : decode cX2_leastWith 21 = .ok (.iload_n 1, 1) := by decide +kernel
theorem dX2_leastWith_22 : decode cX2_leastWith 22 = .ok (.iload 4, 2) := by decide +kernel
theorem dX2_leastWith_24 : decode cX2_leastWith 24 = .ok (.iload_n 2, 1) := by decide +kernel
theorem dX2_leastWith_25 : decode cX2_leastWith 25 = .ok (.invokevirtual 90, 3) := by decide +kernel
theorem dX2_leastWith_28 : decode cX2_leastWith 28 = .ok (.invokestatic 60, 3) := by decide +kernel
theorem dX2_leastWith_31 : decode cX2_leastWith 31 = .ok (.istore_n 3, 1) := by decide +kernel
theorem dX2_leastWith_32 : decode cX2_leastWith 32 = .ok (.iinc 4 1, 3) := by decide +kernel
theorem dX2_leastWith_35 : decode cX2_leastWith 35 = .ok (.goto (-29), 3) := by decide +kernel
theorem dX2_leastWith_38 : decode cX2_leastWith 38 = .ok (.iload_n 3, 1) := by decide +kernel
theorem dX2_leastWith_39 : decode cX2_leastWith 39 = .ok (.ireturn, 1) := by decide +kernel
theorem dX2_spentOn_0 : decode cX2_spentOn 0 = .ok (.aload_n 0, 1) := by decide +kernel
theorem dX2_spentOn_1 : decode cX2_spentOn 1 = .ok (.getfield 20, 3) := by decide +kernel
theorem dX2_spentOn_4 : decode cX2_spentOn 4 = .ok (.iload_n 1, 1) := by decide +kernel
theorem dX2_spentOn_5 : decode cX2_spentOn 5 = .ok (.aaload, 1) := by decide +kernel
theorem dX2_spentOn_6 : decode cX2_spentOn 6 = .ok (.iload_n 2, 1) := by decide +kernel
theorem dX2_spentOn_7 : decode cX2_spentOn 7 = .ok (.iaload, 1) := by decide +kernel
theorem dX2_spentOn_8 : decode cX2_spentOn 8 = .ok (.sipush 1000, 3) := by decide +kernel
theorem dX2_spentOn_11 : decode cX2_spentOn 11 = .ok (.imul, 1) := by decide +kernel
theorem dX2_spentOn_12 : decode cX2_spentOn 12 = .ok (.iload_n 2, 1) := by decide +kernel
theorem dX2_spentOn_13 : decode cX2_spentOn 13 = .ok (.iadd, 1) := by decide +kernel
theorem dX2_spentOn_14 : decode cX2_spentOn 14 = .ok (.aload_n 0, 1) := by decide +kernel
theorem dX2_spentOn_15 : decode cX2_spentOn 15 = .ok (.getfield 23, 3) := by decide +kernel
theorem dX2_spentOn_18 : decode cX2_spentOn 18 = .ok (.iload_n 1, 1) := by decide +kernel
theorem dX2_spentOn_19 : decode cX2_spentOn 19 = .ok (.iconst 1, 1) := by decide +kernel
theorem dX2_spentOn_20 : decode cX2_spentOn 20 = .ok (.iadd, 1) := by decide +kernel
theorem dX2_spentOn_21 : decode cX2_spentOn 21 = .ok (.aaload, 1) := by decide +kernel
theorem dX2_spentOn_22 : decode cX2_spentOn 22 = .ok (.iload_n 3, 1) := by decide +kernel
theorem dX2_spentOn_23 : decode cX2_spentOn 23 = .ok (.iload_n 2, 1) := by decide +kernel
theorem dX2_spentOn_24 : decode cX2_spentOn 24 = .ok (.isub, 1) := by decide +kernel
theorem dX2_spentOn_25 : decode cX2_spentOn 25 = .ok (.iaload, 1) := by decide +kernel
theorem dX2_spentOn_26 : decode cX2_spentOn 26 = .ok (.iadd, 1) := by decide +kernel
theorem dX2_spentOn_27 : decode cX2_spentOn 27 = .ok (.ireturn, 1) := by decide +kernel
theorem dX2_dueWithCoins_0 : decode cX2_dueWithCoins 0 = .ok (.iload_n 2, 1) := by decide +kernel
theorem dX2_dueWithCoins_1 : decode cX2_dueWithCoins 1 = .ok (.bipush 12, 2) := by decide +kernel
theorem dX2_dueWithCoins_3 : decode cX2_dueWithCoins 3 = .ok (.if_icmp .lt 5, 3) := by decide +kernel
theorem dX2_dueWithCoins_6 : decode cX2_dueWithCoins 6 = .ok (.iconst 0, 1) := by decide +kernel
theorem dX2_dueWithCoins_7 : decode cX2_dueWithCoins 7 = .ok (.ireturn, 1) := by decide +kernel
theorem dX2_dueWithCoins_8 : decode cX2_dueWithCoins 8 = .ok (.iconst 0, 1) := by decide +kernel
theorem dX2_dueWithCoins_9 : decode cX2_dueWithCoins 9 = .ok (.istore_n 3, 1) := by decide +kernel
theorem dX2_dueWithCoins_10 : decode cX2_dueWithCoins 10 = .ok (.iconst 0, 1) := by decide +kernel
theorem dX2_dueWithCoins_11 : decode cX2_dueWithCoins 11 = .ok (.istore 4, 2) := by decide +kernel
theorem dX2_dueWithCoins_13 : decode cX2_dueWithCoins 13 = .ok (.iload 4, 2) := by decide +kernel
theorem dX2_dueWithCoins_15 : decode cX2_dueWithCoins 15 = .ok (.iload_n 1, 1) := by decide +kernel
theorem dX2_dueWithCoins_16 : decode cX2_dueWithCoins 16 = .ok (.if_icmp .gt 31, 3) := by decide +kernel
theorem dX2_dueWithCoins_19 : decode cX2_dueWithCoins 19 = .ok (.iload 4, 2) := by decide +kernel
theorem dX2_dueWithCoins_21 : decode cX2_dueWithCoins 21 = .ok (.iload_n 2, 1) := by decide +kernel
theorem dX2_dueWithCoins_22 : decode cX2_dueWithCoins 22 = .ok (.if_icmp .gt 25, 3) := by decide +kernel
theorem dX2_dueWithCoins_25 : decode cX2_dueWithCoins 25 = .ok (.iload_n 3, 1) := by decide +kernel
theorem dX2_dueWithCoins_26 : decode cX2_dueWithCoins 26 = .ok (.iload 4, 2) := by decide +kernel
theorem dX2_dueWithCoins_28 : decode cX2_dueWithCoins 28 = .ok (.iload_n 2, 1) := by decide +kernel
theorem dX2_dueWithCoins_29 : decode cX2_dueWithCoins 29 = .ok (.iload 4, 2) := by decide +kernel
theorem dX2_dueWithCoins_31 : decode cX2_dueWithCoins 31 = .ok (.isub, 1) := by decide +kernel
theorem dX2_dueWithCoins_32 : decode cX2_dueWithCoins 32 = .ok (.iconst 3, 1) := by decide +kernel
theorem dX2_dueWithCoins_33 : decode cX2_dueWithCoins 33 = .ok (.idiv, 1) := by decide +kernel
theorem dX2_dueWithCoins_34 : decode cX2_dueWithCoins 34 = .ok (.iconst 4, 1) := by decide +kernel
theorem dX2_dueWithCoins_35 : decode cX2_dueWithCoins 35 = .ok (.imul, 1) := by decide +kernel
theorem dX2_dueWithCoins_36 : decode cX2_dueWithCoins 36 = .ok (.iadd, 1) := by decide +kernel
theorem dX2_dueWithCoins_37 : decode cX2_dueWithCoins 37 = .ok (.invokestatic 66, 3) := by decide +kernel
theorem dX2_dueWithCoins_40 : decode cX2_dueWithCoins 40 = .ok (.istore_n 3, 1) := by decide +kernel
theorem dX2_dueWithCoins_41 : decode cX2_dueWithCoins 41 = .ok (.iinc 4 1, 3) := by decide +kernel
theorem dX2_dueWithCoins_44 : decode cX2_dueWithCoins 44 = .ok (.goto (-31), 3) := by decide +kernel
theorem dX2_dueWithCoins_47 : decode cX2_dueWithCoins 47 = .ok (.iconst 0, 1) := by decide +kernel
theorem dX2_dueWithCoins_48 : decode cX2_dueWithCoins 48 = .ok (.iload_n 0, 1) := by decide +kernel
theorem dX2_dueWithCoins_49 : decode cX2_dueWithCoins 49 = .ok (.iload_n 3, 1) := by decide +kernel
theorem dX2_dueWithCoins_50 : decode cX2_dueWithCoins 50 = .ok (.isub, 1) := by decide +kernel
theorem dX2_dueWithCoins_51 : decode cX2_dueWithCoins 51 = .ok (.invokestatic 66, 3) := by decide +kernel
theorem dX2_dueWithCoins_54 : decode cX2_dueWithCoins 54 = .ok (.ireturn, 1) := by decide +kernel
theorem dX2_leastDue_0 : decode cX2_leastDue 0 = .ok (.aload_n 0, 1) := by decide +kernel
theorem dX2_leastDue_1 : decode cX2_leastDue 1 = .ok (.getfield 23, 3) := by decide +kernel
theorem dX2_leastDue_4 : decode cX2_leastDue 4 = .ok (.iconst 0, 1) := by decide +kernel
theorem dX2_leastDue_5 : decode cX2_leastDue 5 = .ok (.aaload, 1) := by decide +kernel
theorem dX2_leastDue_6 : decode cX2_leastDue 6 = .ok (.iload_n 1, 1) := by decide +kernel
theorem dX2_leastDue_7 : decode cX2_leastDue 7 = .ok (.iaload, 1) := by decide +kernel
theorem dX2_leastDue_8 : decode cX2_leastDue 8 = .ok (.sipush 1000, 3) := by decide +kernel
theorem dX2_leastDue_11 : decode cX2_leastDue 11 = .ok (.idiv, 1) := by decide +kernel
theorem dX2_leastDue_12 : decode cX2_leastDue 12 = .ok (.ireturn, 1) := by decide +kernel
theorem dX2_fewestCoins_0 : decode cX2_fewestCoins 0 = .ok (.aload_n 0, 1) := by decide +kernel
theorem dX2_fewestCoins_1 : decode cX2_fewestCoins 1 = .ok (.getfield 23, 3) := by decide +kernel
theorem dX2_fewestCoins_4 : decode cX2_fewestCoins 4 = .ok (.iconst 0, 1) := by decide +kernel
theorem dX2_fewestCoins_5 : decode cX2_fewestCoins 5 = .ok (.aaload, 1) := by decide +kernel
theorem dX2_fewestCoins_6 : decode cX2_fewestCoins 6 = .ok (.iload_n 1, 1) := by decide +kernel
theorem dX2_fewestCoins_7 : decode cX2_fewestCoins 7 = .ok (.iaload, 1) := by decide +kernel
theorem dX2_fewestCoins_8 : decode cX2_fewestCoins 8 = .ok (.sipush 1000, 3) := by decide +kernel
theorem dX2_fewestCoins_11 : decode cX2_fewestCoins 11 = .ok (.irem, 1) := by decide +kernel
theorem dX2_fewestCoins_12 : decode cX2_fewestCoins 12 = .ok (.ireturn, 1) := by decide +kernel
theorem dX2_coinsFor_0 : decode cX2_coinsFor 0 = .ok (.iload_n 2, 1) := by decide +kernel
theorem dX2_coinsFor_1 : decode cX2_coinsFor 1 = .ok (.istore_n 3, 1) := by decide +kernel
theorem dX2_coinsFor_2 : decode cX2_coinsFor 2 = .ok (.iconst 0, 1) := by decide +kernel
theorem dX2_coinsFor_3 : decode cX2_coinsFor 3 = .ok (.istore 4, 2) := by decide +kernel
theorem dX2_coinsFor_5 : decode cX2_coinsFor 5 = .ok (.iload 4, 2) := by decide +kernel
theorem dX2_coinsFor_7 : decode cX2_coinsFor 7 = .ok (.iload_n 1, 1) := by decide +kernel
theorem dX2_coinsFor_8 : decode cX2_coinsFor 8 = .ok (.if_icmp .ge 19, 3) := by decide +kernel
theorem dX2_coinsFor_11 : decode cX2_coinsFor 11 = .ok (.iload_n 3, 1) := by decide +kernel
theorem dX2_coinsFor_12 : decode cX2_coinsFor 12 = .ok (.aload_n 0, 1) := by decide +kernel
theorem dX2_coinsFor_13 : decode cX2_coinsFor 13 = .ok (.iload 4, 2) := by decide +kernel
theorem dX2_coinsFor_15 : decode cX2_coinsFor 15 = .ok (.iload_n 3, 1) := by decide +kernel
theorem dX2_coinsFor_16 : decode cX2_coinsFor 16 = .ok (.invokevirtual 93, 3) := by decide +kernel
theorem dX2_coinsFor_19 : decode cX2_coinsFor 19 = .ok (.isub, 1) := by decide +kernel
theorem dX2_coinsFor_20 : decode cX2_coinsFor 20 = .ok (.istore_n 3, 1) := by decide +kernel
theorem dX2_coinsFor_21 : decode cX2_coinsFor 21 = .ok (.iinc 4 1, 3) := by decide +kernel
theorem dX2_coinsFor_24 : decode cX2_coinsFor 24 = .ok (.goto (-19), 3) := by decide +kernel
theorem dX2_coinsFor_27 : decode cX2_coinsFor 27 = .ok (.aload_n 0, 1) := by decide +kernel
theorem dX2_coinsFor_28 : decode cX2_coinsFor 28 = .ok (.iload_n 1, 1) := by decide +kernel
theorem dX2_coinsFor_29 : decode cX2_coinsFor 29 = .ok (.iload_n 3, 1) := by decide +kernel
theorem dX2_coinsFor_30 : decode cX2_coinsFor 30 = .ok (.invokevirtual 93, 3) := by decide +kernel
theorem dX2_coinsFor_33 : decode cX2_coinsFor 33 = .ok (.ireturn, 1) := by decide +kernel
theorem dX2_fewerCoins_0 : decode cX2_fewerCoins 0 = .ok (.iconst 0, 1) := by decide +kernel
theorem dX2_fewerCoins_1 : decode cX2_fewerCoins 1 = .ok (.istore_n 3, 1) := by decide +kernel
theorem dX2_fewerCoins_2 : decode cX2_fewerCoins 2 = .ok (.iload_n 3, 1) := by decide +kernel
theorem dX2_fewerCoins_3 : decode cX2_fewerCoins 3 = .ok (.bipush 12, 2) := by decide +kernel
theorem dX2_fewerCoins_5 : decode cX2_fewerCoins 5 = .ok (.if_icmp .gt 34, 3) := by decide +kernel
theorem dX2_fewerCoins_8 : decode cX2_fewerCoins 8 = .ok (.iload_n 3, 1) := by decide +kernel
theorem dX2_fewerCoins_9 : decode cX2_fewerCoins 9 = .ok (.iload_n 2, 1) := by decide +kernel
theorem dX2_fewerCoins_10 : decode cX2_fewerCoins 10 = .ok (.if_icmp .gt 29, 3) := by decide +kernel
theorem dX2_fewerCoins_13 : decode cX2_fewerCoins 13 = .ok (.aload_n 0, 1) := by decide +kernel
theorem dX2_fewerCoins_14 : decode cX2_fewerCoins 14 = .ok (.iload_n 1, 1) := by decide +kernel
theorem dX2_fewerCoins_15 : decode cX2_fewerCoins 15 = .ok (.iload_n 3, 1) := by decide +kernel
theorem dX2_fewerCoins_16 : decode cX2_fewerCoins 16 = .ok (.iload_n 2, 1) := by decide +kernel
theorem dX2_fewerCoins_17 : decode cX2_fewerCoins 17 = .ok (.invokevirtual 90, 3) := by decide +kernel
theorem dX2_fewerCoins_20 : decode cX2_fewerCoins 20 = .ok (.aload_n 0, 1) := by decide +kernel
theorem dX2_fewerCoins_21 : decode cX2_fewerCoins 21 = .ok (.getfield 23, 3) := by decide +kernel
theorem dX2_fewerCoins_24 : decode cX2_fewerCoins 24 = .ok (.iload_n 1, 1) := by decide +kernel
theorem dX2_fewerCoins_25 : decode cX2_fewerCoins 25 = .ok (.aaload, 1) := by decide +kernel
theorem dX2_fewerCoins_26 : decode cX2_fewerCoins 26 = .ok (.iload_n 2, 1) := by decide +kernel
theorem dX2_fewerCoins_27 : decode cX2_fewerCoins 27 = .ok (.iaload, 1) := by decide +kernel
theorem dX2_fewerCoins_28 : decode cX2_fewerCoins 28 = .ok (.if_icmp .ne 5, 3) := by decide +kernel
theorem dX2_fewerCoins_31 : decode cX2_fewerCoins 31 = .ok (.iload_n 3, 1) := by decide +kernel
theorem dX2_fewerCoins_32 : decode cX2_fewerCoins 32 = .ok (.ireturn, 1) := by decide +kernel
theorem dX2_fewerCoins_33 : decode cX2_fewerCoins 33 = .ok (.iinc 3 1, 3) := by decide +kernel
theorem dX2_fewerCoins_36 : decode cX2_fewerCoins 36 = .ok (.goto (-34), 3) := by decide +kernel
theorem dX2_fewerCoins_39 : decode cX2_fewerCoins 39 = .ok (.iconst 0, 1) := by decide +kernel
theorem dX2_fewerCoins_40 : decode cX2_fewerCoins 40 = .ok (.ireturn, 1) := by decide +kernel
theorem dX2_yearsTillFree_0 : decode cX2_yearsTillFree 0 = .ok (.iload_n 0, 1) := by decide +kernel
theorem dX2_yearsTillFree_1 : decode cX2_yearsTillFree 1 = .ok (.ifCond .ne 5, 3) := by decide +kernel
theorem dX2_yearsTillFree_4 : decode cX2_yearsTillFree 4 = .ok (.iconst 0, 1) := by decide +kernel
theorem dX2_yearsTillFree_5 : decode cX2_yearsTillFree 5 = .ok (.ireturn, 1) := by decide +kernel
theorem dX2_yearsTillFree_6 : decode cX2_yearsTillFree 6 = .ok (.iload_n 0, 1) := by decide +kernel
theorem dX2_yearsTillFree_7 : decode cX2_yearsTillFree 7 = .ok (.istore_n 3, 1) := by decide +kernel
theorem dX2_yearsTillFree_8 : decode cX2_yearsTillFree 8 = .ok (.iconst 1, 1) := by decide +kernel
theorem dX2_yearsTillFree_9 : decode cX2_yearsTillFree 9 = .ok (.istore 4, 2) := by decide +kernel
theorem dX2_yearsTillFree_11 : decode cX2_yearsTillFree 11 = .ok (.iload 4, 2) := by decide +kernel
theorem dX2_yearsTillFree_13 : decode cX2_yearsTillFree 13 = .ok (.bipush 99, 2) := by decide +kernel
theorem dX2_yearsTillFree_15 : decode cX2_yearsTillFree 15 = .ok (.if_icmp .gt 34, 3) := by decide +kernel
theorem dX2_yearsTillFree_18 : decode cX2_yearsTillFree 18 = .ok (.iconst 0, 1) := by decide +kernel
theorem dX2_yearsTillFree_19 : decode cX2_yearsTillFree 19 = .ok (.iload_n 3, 1) := by decide +kernel
theorem dX2_yearsTillFree_20 : decode cX2_yearsTillFree 20 = .ok (.iload_n 2, 1) := by decide +kernel
theorem dX2_yearsTillFree_21 : decode cX2_yearsTillFree 21 = .ok (.isub, 1) := by decide +kernel
theorem dX2_yearsTillFree_22 : decode cX2_yearsTillFree 22 = .ok (.invokestatic 66, 3) := by decide +kernel
theorem dX2_yearsTillFree_25 : decode cX2_yearsTillFree 25 = .ok (.istore_n 3, 1) := by decide +kernel
theorem dX2_yearsTillFree_26 : decode cX2_yearsTillFree 26 = .ok (.iload_n 3, 1) := by decide +kernel
theorem dX2_yearsTillFree_27 : decode cX2_yearsTillFree 27 = .ok (.ifCond .ne 6, 3) := by decide +kernel
theorem dX2_yearsTillFree_30 : decode cX2_yearsTillFree 30 = .ok (.iload 4, 2) := by decide +kernel
theorem dX2_yearsTillFree_32 : decode cX2_yearsTillFree 32 = .ok (.ireturn, 1) := by decide +kernel
theorem dX2_yearsTillFree_33 : decode cX2_yearsTillFree 33 = .ok (.sipush 999, 3) := by decide +kernel
theorem dX2_yearsTillFree_36 : decode cX2_yearsTillFree 36 = .ok (.iload_n 3, 1) := by decide +kernel
theorem dX2_yearsTillFree_37 : decode cX2_yearsTillFree 37 = .ok (.iload_n 1, 1) := by decide +kernel
theorem dX2_yearsTillFree_38 : decode cX2_yearsTillFree 38 = .ok (.iadd, 1) := by decide +kernel
theorem dX2_yearsTillFree_39 : decode cX2_yearsTillFree 39 = .ok (.invokestatic 60, 3) := by decide +kernel
theorem dX2_yearsTillFree_42 : decode cX2_yearsTillFree 42 = .ok (.istore_n 3, 1) := by decide +kernel
theorem dX2_yearsTillFree_43 : decode cX2_yearsTillFree 43 = .ok (.iinc 4 1, 3) := by decide +kernel
theorem dX2_yearsTillFree_46 : decode cX2_yearsTillFree 46 = .ok (.goto (-35), 3) := by decide +kernel
theorem dX2_yearsTillFree_49 : decode cX2_yearsTillFree 49 = .ok (.bipush (-9), 2) := by decide +kernel
theorem dX2_yearsTillFree_51 : decode cX2_yearsTillFree 51 = .ok (.ireturn, 1) := by decide +kernel
theorem dX3_init_0 : decode cX3_init 0 = .ok (.aload_n 0, 1) := by decide +kernel
theorem dX3_init_1 : decode cX3_init 1 = .ok (.invokespecial 3, 3) := by decide +kernel
theorem dX3_init_4 : decode cX3_init 4 = .ok (.aload_n 0, 1) := by decide +kernel
theorem dX3_init_5 : decode cX3_init 5 = .ok (.bipush 7, 2) := by decide +kernel
theorem dX3_init_7 : decode cX3_init 7 = .ok (.newarray .int, 2) := by decide +kernel
theorem dX3_init_9 : decode cX3_init 9 = .ok (.putfield 9, 3) := by decide +kernel
theorem dX3_init_12 : decode cX3_init 12 = .ok (.aload_n 0, 1) := by decide +kernel
theorem dX3_init_13 : decode cX3_init 13 = .ok (.bipush 7, 2) := by decide +kernel
theorem dX3_init_15 : decode cX3_init 15 = .ok (.newarray .int, 2) := by decide +kernel
theorem dX3_init_17 : decode cX3_init 17 = .ok (.putfield 15, 3) := by decide +kernel
theorem dX3_init_20 : decode cX3_init 20 = .ok (.aload_n 0, 1) := by decide +kernel
theorem dX3_init_21 : decode cX3_init 21 = .ok (.bipush 7, 2) := by decide +kernel
theorem dX3_init_23 : decode cX3_init 23 = .ok (.newarray .int, 2) := by decide +kernel
theorem dX3_init_25 : decode cX3_init 25 = .ok (.putfield 18, 3) := by decide +kernel
theorem dX3_init_28 : decode cX3_init 28 = .ok (.aload_n 0, 1) := by decide +kernel
theorem dX3_init_29 : decode cX3_init 29 = .ok (.bipush 7, 2) := by decide +kernel
theorem dX3_init_31 : decode cX3_init 31 = .ok (.newarray .int, 2) := by decide +kernel
theorem dX3_init_33 : decode cX3_init 33 = .ok (.putfield 21, 3) := by decide +kernel
theorem dX3_init_36 : decode cX3_init 36 = .ok (.aload_n 0, 1) := by decide +kernel
theorem dX3_init_37 : decode cX3_init 37 = .ok (.iconst 5, 1) := by decide +kernel
theorem dX3_init_38 : decode cX3_init 38 = .ok (.newarray .int, 2) := by decide +kernel
theorem dX3_init_40 : decode cX3_init 40 = .ok (.putfield 24, 3) := by decide +kernel
theorem dX3_init_43 : decode cX3_init 43 = .ok (.aload_n 0, 1) := by decide +kernel
theorem dX3_init_44 : decode cX3_init 44 = .ok (.iconst 5, 1) := by decide +kernel
theorem dX3_init_45 : decode cX3_init 45 = .ok (.newarray .int, 2) := by decide +kernel
theorem dX3_init_47 : decode cX3_init 47 = .ok (.putfield 27, 3) := by decide +kernel
theorem dX3_init_50 : decode cX3_init 50 = .ok (.aload_n 0, 1) := by decide +kernel
theorem dX3_init_51 : decode cX3_init 51 = .ok (.iconst 5, 1) := by decide +kernel
theorem dX3_init_52 : decode cX3_init 52 = .ok (.newarray .int, 2) := by decide +kernel
theorem dX3_init_54 : decode cX3_init 54 = .ok (.putfield 30, 3) := by decide +kernel
theorem dX3_init_57 : decode cX3_init 57 = .ok (.aload_n 0, 1) := by decide +kernel
theorem dX3_init_58 : decode cX3_init 58 = .ok (.iconst 0, 1) := by decide +kernel
theorem dX3_init_59 : decode cX3_init 59 = .ok (.putfield 33, 3) := by decide +kernel
theorem dX3_init_62 : decode cX3_init 62 = .ok (.aload_n 0, 1) := by decide +kernel
theorem dX3_init_63 : decode cX3_init 63 = .ok (.iconst 0, 1) := by decide +kernel
theorem dX3_init_64 : decode cX3_init 64 = .ok (.putfield 37, 3) := by decide +kernel
theorem dX3_init_67 : decode cX3_init 67 = .ok (.aload_n 0, 1) := by decide +kernel
theorem dX3_init_68 : decode cX3_init 68 = .ok (.iconst 3, 1) := by decide +kernel
theorem dX3_init_69 : decode cX3_init 69 = .ok (.putfield 40, 3) := by decide +kernel
theorem dX3_init_72 : decode cX3_init 72 = .ok (.aload_n 0, 1) := by decide +kernel
theorem dX3_init_73 : decode cX3_init 73 = .ok (.iconst 3, 1) := by decide +kernel
theorem dX3_init_74 : decode cX3_init 74 = .ok (.putfield 43, 3) := by decide +kernel
theorem dX3_init_77 : decode cX3_init 77 = .ok (.aload_n 0, 1) := by decide +kernel
theorem dX3_init_78 : decode cX3_init 78 = .ok (.iconst 0, 1) := by decide +kernel
theorem dX3_init_79 : decode cX3_init 79 = .ok (.putfield 46, 3) := by decide +kernel
theorem dX3_init_82 : decode cX3_init 82 = .ok (.aload_n 0, 1) := by decide +kernel
theorem dX3_init_83 : decode cX3_init 83 = .ok (.iconst 0, 1) := by decide +kernel
theorem dX3_init_84 : decode cX3_init 84 = .ok (.putfield 50, 3) := by decide +kernel
theorem dX3_init_87 : decode cX3_init 87 = .ok (.return_, 1) := by decide +kernel
theorem dX3_forget_0 : decode cX3_forget 0 = .ok (.aload_n 0, 1) := by decide +kernel
theorem dX3_forget_1 : decode cX3_forget 1 = .ok (.iconst 0, 1) := by decide +kernel
theorem dX3_forget_2 : decode cX3_forget 2 = .ok (.putfield 33, 3) := by decide +kernel
theorem dX3_forget_5 : decode cX3_forget 5 = .ok (.aload_n 0, 1) := by decide +kernel
theorem dX3_forget_6 : decode cX3_forget 6 = .ok (.iconst 0, 1) := by decide +kernel
theorem dX3_forget_7 : decode cX3_forget 7 = .ok (.putfield 37, 3) := by decide +kernel
theorem dX3_forget_10 : decode cX3_forget 10 = .ok (.aload_n 0, 1) := by decide +kernel
theorem dX3_forget_11 : decode cX3_forget 11 = .ok (.iconst 3, 1) := by decide +kernel
theorem dX3_forget_12 : decode cX3_forget 12 = .ok (.putfield 40, 3) := by decide +kernel
theorem dX3_forget_15 : decode cX3_forget 15 = .ok (.aload_n 0, 1) := by decide +kernel
theorem dX3_forget_16 : decode cX3_forget 16 = .ok (.iconst 3, 1) := by decide +kernel
theorem dX3_forget_17 : decode cX3_forget 17 = .ok (.putfield 43, 3) := by decide +kernel
theorem dX3_forget_20 : decode cX3_forget 20 = .ok (.aload_n 0, 1) := by decide +kernel
theorem dX3_forget_21 : decode cX3_forget 21 = .ok (.iconst 0, 1) := by decide +kernel
theorem dX3_forget_22 : decode cX3_forget 22 = .ok (.putfield 46, 3) := by decide +kernel
theorem dX3_forget_25 : decode cX3_forget 25 = .ok (.aload_n 0, 1) := by decide +kernel
theorem dX3_forget_26 : decode cX3_forget 26 = .ok (.iconst 0, 1) := by decide +kernel
theorem dX3_forget_27 : decode cX3_forget 27 = .ok (.putfield 50, 3) := by decide +kernel
theorem dX3_forget_30 : decode cX3_forget 30 = .ok (.return_, 1) := by decide +kernel
theorem dX3_hasStair_0 : decode cX3_hasStair 0 = .ok (.iload_n 1, 1) := by decide +kernel
theorem dX3_hasStair_1 : decode cX3_hasStair 1 = .ok (.ifCond .lt 15, 3) := by decide +kernel
theorem dX3_hasStair_4 : decode cX3_hasStair 4 = .ok (.iload_n 1, 1) := by decide +kernel
theorem dX3_hasStair_5 : decode cX3_hasStair 5 = .ok (.aload_n 0, 1) := by decide +kernel
theorem dX3_hasStair_6 : decode cX3_hasStair 6 = .ok (.getfield 33, 3) := by decide +kernel
theorem dX3_hasStair_9 : decode cX3_hasStair 9 = .ok (.if_icmp .ge 7, 3) := by decide +kernel
theorem dX3_hasStair_12 : decode cX3_hasStair 12 = .ok (.iconst 1, 1) := by decide +kernel
theorem dX3_hasStair_13 : decode cX3_hasStair 13 = .ok (.goto 4, 3) := by decide +kernel
theorem dX3_hasStair_16 : decode cX3_hasStair 16 = .ok (.iconst 0, 1) := by decide +kernel
theorem dX3_hasStair_17 : decode cX3_hasStair 17 = .ok (.ireturn, 1) := by decide +kernel
theorem dX3_hasTwoStairs_0 : decode cX3_hasTwoStairs 0 = .ok (.aload_n 0, 1) := by decide +kernel
theorem dX3_hasTwoStairs_1 : decode cX3_hasTwoStairs 1 = .ok (.iload_n 1, 1) := by decide +kernel
theorem dX3_hasTwoStairs_2 : decode cX3_hasTwoStairs 2 = .ok (.invokevirtual 53, 3) := by decide +kernel
theorem dX3_hasTwoStairs_5 : decode cX3_hasTwoStairs 5 = .ok (.ifCond .eq 20, 3) := by decide +kernel
theorem dX3_hasTwoStairs_8 : decode cX3_hasTwoStairs 8 = .ok (.aload_n 0, 1) := by decide +kernel
theorem dX3_hasTwoStairs_9 : decode cX3_hasTwoStairs 9 = .ok (.iload_n 2, 1) := by decide +kernel
theorem dX3_hasTwoStairs_10 : decode cX3_hasTwoStairs 10 = .ok (.invokevirtual 53, 3) := by decide +kernel
theorem dX3_hasTwoStairs_13 : decode cX3_hasTwoStairs 13 = .ok (.ifCond .eq 12, 3) := by decide +kernel
theorem dX3_hasTwoStairs_16 : decode cX3_hasTwoStairs 16 = .ok (.iload_n 1, 1) := by decide +kernel
theorem dX3_hasTwoStairs_17 : decode cX3_hasTwoStairs 17 = .ok (.iload_n 2, 1) := by decide +kernel
theorem dX3_hasTwoStairs_18 : decode cX3_hasTwoStairs 18 = .ok (.if_icmp .eq 7, 3) := by decide +kernel
theorem dX3_hasTwoStairs_21 : decode cX3_hasTwoStairs 21 = .ok (.iconst 1, 1) := by decide +kernel
theorem dX3_hasTwoStairs_22 : decode cX3_hasTwoStairs 22 = .ok (.goto 4, 3) := by decide +kernel
theorem dX3_hasTwoStairs_25 : decode cX3_hasTwoStairs 25 = .ok (.iconst 0, 1) := by decide +kernel
theorem dX3_hasTwoStairs_26 : decode cX3_hasTwoStairs 26 = .ok (.ireturn, 1) := by decide +kernel
theorem dX3_hasPerson_0 : decode cX3_hasPerson 0 = .ok (.iload_n 1, 1) := by decide +kernel
theorem dX3_hasPerson_1 : decode cX3_hasPerson 1 = .ok (.ifCond .lt 15, 3) := by decide +kernel
theorem dX3_hasPerson_4 : decode cX3_hasPerson 4 = .ok (.iload_n 1, 1) := by decide +kernel
theorem dX3_hasPerson_5 : decode cX3_hasPerson 5 = .ok (.aload_n 0, 1) := by decide +kernel
theorem dX3_hasPerson_6 : decode cX3_hasPerson 6 = .ok (.getfield 37, 3) := by decide +kernel
theorem dX3_hasPerson_9 : decode cX3_hasPerson 9 = .ok (.if_icmp .ge 7, 3) := by decide +kernel
theorem dX3_hasPerson_12 : decode cX3_hasPerson 12 = .ok (.iconst 1, 1) := by decide +kernel
theorem dX3_hasPerson_13 : decode cX3_hasPerson 13 = .ok (.goto 4, 3) := by decide +kernel
theorem dX3_hasPerson_16 : decode cX3_hasPerson 16 = .ok (.iconst 0, 1) := by decide +kernel
theorem dX3_hasPerson_17 : decode cX3_hasPerson 17 = .ok (.ireturn, 1) := by decide +kernel
theorem dX3_halvesOf_0 : decode cX3_halvesOf 0 = .ok (.aload_n 0, 1) := by decide +kernel
theorem dX3_halvesOf_1 : decode cX3_halvesOf 1 = .ok (.getfield 24, 3) := by decide +kernel
theorem dX3_halvesOf_4 : decode cX3_halvesOf 4 = .ok (.iload_n 1, 1) := by decide +kernel
theorem dX3_halvesOf_5 : decode cX3_halvesOf 5 = .ok (.iaload, 1) := by decide +kernel
theorem dX3_halvesOf_6 : decode cX3_halvesOf 6 = .ok (.iconst 1, 1) := by decide +kernel
theorem dX3_halvesOf_7 : decode cX3_halvesOf 7 = .ok (.if_icmp .ne 7, 3) := by decide +kernel
theorem dX3_halvesOf_10 : decode cX3_halvesOf 10 = .ok (.iconst 1, 1) := by decide +kernel
theorem dX3_halvesOf_11 : decode cX3_halvesOf 11 = .ok (.goto 4, 3) := by decide +kernel
theorem dX3_halvesOf_14 : decode cX3_halvesOf 14 = .ok (.iconst 2, 1) := by decide +kernel
theorem dX3_halvesOf_15 : decode cX3_halvesOf 15 = .ok (.ireturn, 1) := by decide +kernel
