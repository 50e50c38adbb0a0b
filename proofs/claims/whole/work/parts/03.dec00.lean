theorem dX0_init_0 : decode cX0_init 0 = .ok (.aload_n 0, 1) := by decide +kernel
theorem dX0_init_1 : decode cX0_init 1 = .ok (.invokespecial 3, 3) := by decide +kernel
theorem dX0_init_4 : decode cX0_init 4 = .ok (.aload_n 0, 1) := by decide +kernel
theorem dX0_init_5 : decode cX0_init 5 = .ok (.iconst 5, 1) := by decide +kernel
theorem dX0_init_6 : decode cX0_init 6 = .ok (.putfield 9, 3) := by decide +kernel
theorem dX0_init_9 : decode cX0_init 9 = .ok (.aload_n 0, 1) := by decide +kernel
theorem dX0_init_10 : decode cX0_init 10 = .ok (.bipush (-100), 2) := by decide +kernel
theorem dX0_init_12 : decode cX0_init 12 = .ok (.putfield 15, 3) := by decide +kernel
theorem dX0_init_15 : decode cX0_init 15 = .ok (.aload_n 0, 1) := by decide +kernel
theorem dX0_init_16 : decode cX0_init 16 = .ok (.iconst 0, 1) := by decide +kernel
theorem dX0_init_17 : decode cX0_init 17 = .ok (.putfield 18, 3) := by decide +kernel
theorem dX0_init_20 : decode cX0_init 20 = .ok (.aload_n 0, 1) := by decide +kernel
theorem dX0_init_21 : decode cX0_init 21 = .ok (.iconst 0, 1) := by decide +kernel
theorem dX0_init_22 : decode cX0_init 22 = .ok (.putfield 21, 3) := by decide +kernel
theorem dX0_init_25 : decode cX0_init 25 = .ok (.aload_n 0, 1) := by decide +kernel
theorem dX0_init_26 : decode cX0_init 26 = .ok (.iconst (-1), 1) := by decide +kernel
theorem dX0_init_27 : decode cX0_init 27 = .ok (.putfield 24, 3) := by decide +kernel
theorem dX0_init_30 : decode cX0_init 30 = .ok (.aload_n 0, 1) := by decide +kernel
theorem dX0_init_31 : decode cX0_init 31 = .ok (.iconst 0, 1) := by decide +kernel
theorem dX0_init_32 : decode cX0_init 32 = .ok (.putfield 27, 3) := by decide +kernel
theorem dX0_init_35 : decode cX0_init 35 = .ok (.aload_n 0, 1) := by decide +kernel
theorem dX0_init_36 : decode cX0_init 36 = .ok (.bipush (-100), 2) := by decide +kernel
theorem dX0_init_38 : decode cX0_init 38 = .ok (.putfield 30, 3) := by decide +kernel
theorem dX0_init_41 : decode cX0_init 41 = .ok (.return_, 1) := by decide +kernel
theorem dX0_toMake_0 : decode cX0_toMake 0 = .ok (.aload_n 0, 1) := by decide +kernel
theorem dX0_toMake_1 : decode cX0_toMake 1 = .ok (.iconst 0, 1) := by decide +kernel
theorem dX0_toMake_2 : decode cX0_toMake 2 = .ok (.iload_n 1, 1) := by decide +kernel
theorem dX0_toMake_3 : decode cX0_toMake 3 = .ok (.iload_n 3, 1) := by decide +kernel
theorem dX0_toMake_4 : decode cX0_toMake 4 = .ok (.iconst (-1), 1) := by decide +kernel
theorem dX0_toMake_5 : decode cX0_toMake 5 = .ok (.invokevirtual 33, 3) := by decide +kernel
theorem dX0_toMake_8 : decode cX0_toMake 8 = .ok (.aload_n 0, 1) := by decide +kernel
theorem dX0_toMake_9 : decode cX0_toMake 9 = .ok (.iload_n 2, 1) := by decide +kernel
theorem dX0_toMake_10 : decode cX0_toMake 10 = .ok (.putfield 18, 3) := by decide +kernel
theorem dX0_toMake_13 : decode cX0_toMake 13 = .ok (.aload_n 0, 1) := by decide +kernel
theorem dX0_toMake_14 : decode cX0_toMake 14 = .ok (.iload 4, 2) := by decide +kernel
theorem dX0_toMake_16 : decode cX0_toMake 16 = .ok (.putfield 27, 3) := by decide +kernel
theorem dX0_toMake_19 : decode cX0_toMake 19 = .ok (.return_, 1) := by decide +kernel
theorem dX0_toDo_0 : decode cX0_toDo 0 = .ok (.aload_n 0, 1) := by decide +kernel
theorem dX0_toDo_1 : decode cX0_toDo 1 = .ok (.iload_n 1, 1) := by decide +kernel
theorem dX0_toDo_2 : decode cX0_toDo 2 = .ok (.putfield 9, 3) := by decide +kernel
theorem dX0_toDo_5 : decode cX0_toDo 5 = .ok (.aload_n 0, 1) := by decide +kernel
theorem dX0_toDo_6 : decode cX0_toDo 6 = .ok (.iload_n 2, 1) := by decide +kernel
theorem dX0_toDo_7 : decode cX0_toDo 7 = .ok (.putfield 15, 3) := by decide +kernel
theorem dX0_toDo_10 : decode cX0_toDo 10 = .ok (.aload_n 0, 1) := by decide +kernel
theorem dX0_toDo_11 : decode cX0_toDo 11 = .ok (.iload_n 3, 1) := by decide +kernel
theorem dX0_toDo_12 : decode cX0_toDo 12 = .ok (.putfield 21, 3) := by decide +kernel
theorem dX0_toDo_15 : decode cX0_toDo 15 = .ok (.aload_n 0, 1) := by decide +kernel
theorem dX0_toDo_16 : decode cX0_toDo 16 = .ok (.iload 4, 2) := by decide +kernel
theorem dX0_toDo_18 : decode cX0_toDo 18 = .ok (.putfield 24, 3) := by decide +kernel
theorem dX0_toDo_21 : decode cX0_toDo 21 = .ok (.return_, 1) := by decide +kernel
theorem dX1_init_0 : decode cX1_init 0 = .ok (.aload_n 0, 1) := by decide +kernel
theorem dX1_init_1 : decode cX1_init 1 = .ok (.invokespecial 3, 3) := by decide +kernel
theorem dX1_init_4 : decode cX1_init 4 = .ok (.aload_n 0, 1) := by decide +kernel
theorem dX1_init_5 : decode cX1_init 5 = .ok (.bipush 80, 2) := by decide +kernel
theorem dX1_init_7 : decode cX1_init 7 = .ok (.newarray .int, 2) := by decide +kernel
theorem dX1_init_9 : decode cX1_init 9 = .ok (.putfield 9, 3) := by decide +kernel
theorem dX1_init_12 : decode cX1_init 12 = .ok (.aload_n 0, 1) := by decide +kernel
theorem dX1_init_13 : decode cX1_init 13 = .ok (.bipush 80, 2) := by decide +kernel
theorem dX1_init_15 : decode cX1_init 15 = .ok (.newarray .int, 2) := by decide +kernel
theorem dX1_init_17 : decode cX1_init 17 = .ok (.putfield 15, 3) := by decide +kernel
theorem dX1_init_20 : decode cX1_init 20 = .ok (.aload_n 0, 1) := by decide +kernel
theorem dX1_init_21 : decode cX1_init 21 = .ok (.bipush 80, 2) := by decide +kernel
theorem dX1_init_23 : decode cX1_init 23 = .ok (.newarray .int, 2) := by decide +kernel
theorem dX1_init_25 : decode cX1_init 25 = .ok (.putfield 18, 3) := by decide +kernel
theorem dX1_init_28 : decode cX1_init 28 = .ok (.aload_n 0, 1) := by decide +kernel
theorem dX1_init_29 : decode cX1_init 29 = .ok (.bipush 80, 2) := by decide +kernel
theorem dX1_init_31 : decode cX1_init 31 = .ok (.newarray .int, 2) := by decide +kernel
theorem dX1_init_33 : decode cX1_init 33 = .ok (.putfield 21, 3) := by decide +kernel
theorem dX1_init_36 : decode cX1_init 36 = .ok (.aload_n 0, 1) := by decide +kernel
theorem dX1_init_37 : decode cX1_init 37 = .ok (.bipush 80, 2) := by decide +kernel
theorem dX1_init_39 : decode cX1_init 39 = .ok (.newarray .int, 2) := by decide +kernel
theorem dX1_init_41 : decode cX1_init 41 = .ok (.putfield 24, 3) := by decide +kernel
theorem dX1_init_44 : decode cX1_init 44 = .ok (.aload_n 0, 1) := by decide +kernel
theorem dX1_init_45 : decode cX1_init 45 = .ok (.iconst 1, 1) := by decide +kernel
theorem dX1_init_46 : decode cX1_init 46 = .ok (.putfield 27, 3) := by decide +kernel
theorem dX1_init_49 : decode cX1_init 49 = .ok (.aload_n 0, 1) := by decide +kernel
theorem dX1_init_50 : decode cX1_init 50 = .ok (.getfield 9, 3) := by decide +kernel
theorem dX1_init_53 : decode cX1_init 53 = .ok (.iconst 0, 1) := by decide +kernel
theorem dX1_init_54 : decode cX1_init 54 = .ok (.bipush (-100), 2) := by decide +kernel
theorem dX1_init_56 : decode cX1_init 56 = .ok (.iastore, 1) := by decide +kernel
theorem dX1_init_57 : decode cX1_init 57 = .ok (.aload_n 0, 1) := by decide +kernel
theorem dX1_init_58 : decode cX1_init 58 = .ok (.getfield 15, 3) := by decide +kernel
theorem dX1_init_61 : decode cX1_init 61 = .ok (.iconst 0, 1) := by decide +kernel
theorem dX1_init_62 : decode cX1_init 62 = .ok (.bipush (-100), 2) := by decide +kernel
theorem dX1_init_64 : decode cX1_init 64 = .ok (.iastore, 1) := by decide +kernel
theorem dX1_init_65 : decode cX1_init 65 = .ok (.return_, 1) := by decide +kernel
theorem dX1_add_0 : decode cX1_add 0 = .ok (.aload_n 0, 1) := by decide +kernel
theorem dX1_add_1 : decode cX1_add 1 = .ok (.getfield 27, 3) := by decide +kernel
theorem dX1_add_4 : decode cX1_add 4 = .ok (.bipush 80, 2) := by decide +kernel
theorem dX1_add_6 : decode cX1_add 6 = .ok (.if_icmp .ge 72, 3) := by decide +kernel
theorem dX1_add_9 : decode cX1_add 9 = .ok (.aload_n 0, 1) := by decide +kernel
theorem dX1_add_10 : decode cX1_add 10 = .ok (.getfield 9, 3) := by decide +kernel
theorem dX1_add_13 : decode cX1_add 13 = .ok (.aload_n 0, 1) := by decide +kernel
theorem dX1_add_14 : decode cX1_add 14 = .ok (.getfield 27, 3) := by decide +kernel
theorem dX1_add_17 : decode cX1_add 17 = .ok (.aload_n 1, 1) := by decide +kernel
theorem dX1_add_18 : decode cX1_add 18 = .ok (.getfield 31, 3) := by decide +kernel
theorem dX1_add_21 : decode cX1_add 21 = .ok (.iastore, 1) := by decide +kernel
theorem dX1_add_22 : decode cX1_add 22 = .ok (.aload_n 0, 1) := by decide +kernel
theorem dX1_add_23 : decode cX1_add 23 = .ok (.getfield 15, 3) := by decide +kernel
theorem dX1_add_26 : decode cX1_add 26 = .ok (.aload_n 0, 1) := by decide +kernel
theorem dX1_add_27 : decode cX1_add 27 = .ok (.getfield 27, 3) := by decide +kernel
theorem dX1_add_30 : decode cX1_add 30 = .ok (.iload_n 2, 1) := by decide +kernel
theorem dX1_add_31 : decode cX1_add 31 = .ok (.iastore, 1) := by decide +kernel
theorem dX1_add_32 : decode cX1_add 32 = .ok (.aload_n 0, 1) := by decide +kernel
theorem dX1_add_33 : decode cX1_add 33 = .ok (.getfield 18, 3) := by decide +kernel
theorem dX1_add_36 : decode cX1_add 36 = .ok (.aload_n 0, 1) := by decide +kernel
theorem dX1_add_37 : decode cX1_add 37 = .ok (.getfield 27, 3) := by decide +kernel
theorem dX1_add_40 : decode cX1_add 40 = .ok (.aload_n 1, 1) := by decide +kernel
theorem dX1_add_41 : decode cX1_add 41 = .ok (.getfield 36, 3) := by decide +kernel
theorem dX1_add_44 : decode cX1_add 44 = .ok (.iastore, 1) := by decide +kernel
theorem dX1_add_45 : decode cX1_add 45 = .ok (.aload_n 0, 1) := by decide +kernel
theorem dX1_add_46 : decode cX1_add 46 = .ok (.getfield 21, 3) := by decide +kernel
theorem dX1_add_49 : decode cX1_add 49 = .ok (.aload_n 0, 1) := by decide +kernel
theorem dX1_add_50 : decode cX1_add 50 = .ok (.getfield 27, 3) := by decide +kernel
theorem dX1_add_53 : decode cX1_add 53 = .ok (.aload_n 1, 1) := by decide +kernel
theorem dX1_add_54 : decode cX1_add 54 = .ok (.getfield 39, 3) := by decide +kernel
theorem dX1_add_57 : decode cX1_add 57 = .ok (.iastore, 1) := by decide +kernel
theorem dX1_add_58 : decode cX1_add 58 = .ok (.aload_n 0, 1) := by decide +kernel
theorem dX1_add_59 : decode cX1_add 59 = .ok (.getfield 24, 3) := by decide +kernel
theorem dX1_add_62 : decode cX1_add 62 = .ok (.aload_n 0, 1) := by decide +kernel
theorem dX1_add_63 : decode cX1_add 63 = .ok (.getfield 27, 3) := by decide +kernel
theorem dX1_add_66 : decode cX1_add 66 = .ok (.iload_n 3, 1) := by decide +kernel
theorem dX1_add_67 : decode cX1_add 67 = .ok (.iastore, 1) := by decide +kernel
theorem dX1_add_68 : decode cX1_add 68 = .ok (.aload_n 0, 1) := by decide +kernel
theorem dX1_add_69 : decode cX1_add 69 = .ok (.dup, 1) := by decide +kernel
theorem dX1_add_70 : decode cX1_add 70 = .ok (.getfield 27, 3) := by decide +kernel
theorem dX1_add_73 : decode cX1_add 73 = .ok (.iconst 1, 1) := by decide +kernel
theorem dX1_add_74 : decode cX1_add 74 = .ok (.iadd, 1) := by decide +kernel
theorem dX1_add_75 : decode cX1_add 75 = .ok (.putfield 27, 3) := by decide +kernel
theorem dX1_add_78 : decode cX1_add 78 = .ok (.return_, 1) := by decide +kernel
theorem dX1_isHeld_0 : decode cX1_isHeld 0 = .ok (.aload_n 0, 1) := by decide +kernel
theorem dX1_isHeld_1 : decode cX1_isHeld 1 = .ok (.getfield 18, 3) := by decide +kernel
theorem dX1_isHeld_4 : decode cX1_isHeld 4 = .ok (.iload_n 1, 1) := by decide +kernel
theorem dX1_isHeld_5 : decode cX1_isHeld 5 = .ok (.iaload, 1) := by decide +kernel
theorem dX1_isHeld_6 : decode cX1_isHeld 6 = .ok (.iconst 1, 1) := by decide +kernel
theorem dX1_isHeld_7 : decode cX1_isHeld 7 = .ok (.if_icmp .eq 13, 3) := by decide +kernel
theorem dX1_isHeld_10 : decode cX1_isHeld 10 = .ok (.aload_n 0, 1) := by decide +kernel
theorem dX1_isHeld_11 : decode cX1_isHeld 11 = .ok (.getfield 18, 3) := by decide +kernel
theorem dX1_isHeld_14 : decode cX1_isHeld 14 = .ok (.iload_n 1, 1) := by decide +kernel
theorem dX1_isHeld_15 : decode cX1_isHeld 15 = .ok (.iaload, 1) := by decide +kernel
theorem dX1_isHeld_16 : decode cX1_isHeld 16 = .ok (.iconst 2, 1) := by decide +kernel
theorem dX1_isHeld_17 : decode cX1_isHeld 17 = .ok (.if_icmp .ne 7, 3) := by decide +kernel
theorem dX1_isHeld_20 : decode cX1_isHeld 20 = .ok (.iconst 1, 1) := by decide +kernel
theorem dX1_isHeld_21 : decode cX1_isHeld 21 = .ok (.goto 4, 3) := by decide +kernel
theorem dX1_isHeld_24 : decode cX1_isHeld 24 = .ok (.iconst 0, 1) := by decide +kernel
theorem dX1_isHeld_25 : decode cX1_isHeld 25 = .ok (.ireturn, 1) := by decide +kernel
theorem dX1_isWithinBranch_0 : decode cX1_isWithinBranch 0 = .ok (.iload_n 1, 1) := by decide +kernel
theorem dX1_isWithinBranch_1 : decode cX1_isWithinBranch 1 = .ok (.istore_n 3, 1) := by decide +kernel
theorem dX1_isWithinBranch_2 : decode cX1_isWithinBranch 2 = .ok (.iconst 0, 1) := by decide +kernel
theorem dX1_isWithinBranch_3 : decode cX1_isWithinBranch 3 = .ok (.istore 4, 2) := by decide +kernel
theorem dX1_isWithinBranch_5 : decode cX1_isWithinBranch 5 = .ok (.iload 4, 2) := by decide +kernel
theorem dX1_isWithinBranch_7 : decode cX1_isWithinBranch 7 = .ok (.bipush 80, 2) := by decide +kernel
theorem dX1_isWithinBranch_9 : decode cX1_isWithinBranch 9 = .ok (.if_icmp .ge 21, 3) := by decide +kernel
theorem dX1_isWithinBranch_12 : decode cX1_isWithinBranch 12 = .ok (.iload_n 3, 1) := by decide +kernel
theorem dX1_isWithinBranch_13 : decode cX1_isWithinBranch 13 = .ok (.iload_n 2, 1) := by decide +kernel
theorem dX1_isWithinBranch_14 : decode cX1_isWithinBranch 14 = .ok (.if_icmp .le 16, 3) := by decide +kernel
theorem dX1_isWithinBranch_17 : decode cX1_isWithinBranch 17 = .ok (.aload_n 0, 1) := by decide +kernel
theorem dX1_isWithinBranch_18 : decode cX1_isWithinBranch 18 = .ok (.getfield 9, 3) := by decide +kernel
theorem dX1_isWithinBranch_21 : decode cX1_isWithinBranch 21 = .ok (.iload_n 3, 1) := by decide +kernel
theorem dX1_isWithinBranch_22 : decode cX1_isWithinBranch 22 = .ok (.iaload, 1) := by decide +kernel
theorem dX1_isWithinBranch_23 : decode cX1_isWithinBranch 23 = .ok (.istore_n 3, 1) := by decide +kernel
theorem dX1_isWithinBranch_24 : decode cX1_isWithinBranch 24 = .ok (.iinc 4 1, 3) := by decide +kernel
theorem dX1_isWithinBranch_27 : decode cX1_isWithinBranch 27 = .ok (.goto (-22), 3) := by decide +kernel
theorem dX1_isWithinBranch_30 : decode cX1_isWithinBranch 30 = .ok (.iload_n 3, 1) := by decide +kernel
theorem dX1_isWithinBranch_31 : decode cX1_isWithinBranch 31 = .ok (.iload_n 2, 1) := by decide +kernel
theorem dX1_isWithinBranch_32 : decode cX1_isWithinBranch 32 = .ok (.if_icmp .ne 7, 3) := by decide +kernel
theorem dX1_isWithinBranch_35 : decode cX1_isWithinBranch 35 = .ok (.iconst 1, 1) := by decide +kernel
theorem dX1_isWithinBranch_36 : decode cX1_isWithinBranch 36 = .ok (.goto 4, 3) := by decide +kernel
theorem dX1_isWithinBranch_39 : decode cX1_isWithinBranch 39 = .ok (.iconst 0, 1) := by decide +kernel
theorem dX1_isWithinBranch_40 : decode cX1_isWithinBranch 40 = .ok (.ireturn, 1) := by decide +kernel
theorem dX2_init_0 : decode cX2_init 0 = .ok (.aload_n 0, 1) := by decide +kernel
theorem dX2_init_1 : decode cX2_init 1 = .ok (.invokespecial 1, 3) := by decide +kernel
theorem dX2_init_4 : decode cX2_init 4 = .ok (.aload_n 0, 1) := by decide +kernel
theorem dX2_init_5 : decode cX2_init 5 = .ok (.iconst 0, 1) := by decide +kernel
theorem dX2_init_6 : decode cX2_init 6 = .ok (.putfield 7, 3) := by decide +kernel
theorem dX2_init_9 : decode cX2_init 9 = .ok (.aload_n 0, 1) := by decide +kernel
theorem dX2_init_10 : decode cX2_init 10 = .ok (.iload_n 1, 1) := by decide +kernel
theorem dX2_init_11 : decode cX2_init 11 = .ok (.putfield 13, 3) := by decide +kernel
theorem dX2_init_14 : decode cX2_init 14 = .ok (.aload_n 0, 1) := by decide +kernel
theorem dX2_init_15 : decode cX2_init 15 = .ok (.iload_n 2, 1) := by decide +kernel
theorem dX2_init_16 : decode cX2_init 16 = .ok (.putfield 17, 3) := by decide +kernel
theorem dX2_init_19 : decode cX2_init 19 = .ok (.return_, 1) := by decide +kernel
theorem dX3_init_0 : decode cX3_init 0 = .ok (.aload_n 0, 1) := by decide +kernel
theorem dX3_init_1 : decode cX3_init 1 = .ok (.invokespecial 3, 3) := by decide +kernel
theorem dX3_init_4 : decode cX3_init 4 = .ok (.aload_n 0, 1) := by decide +kernel
theorem dX3_init_5 : decode cX3_init 5 = .ok (.sipush 1024, 3) := by decide +kernel
theorem dX3_init_8 : decode cX3_init 8 = .ok (.newarray .int, 2) := by decide +kernel
theorem dX3_init_10 : decode cX3_init 10 = .ok (.putfield 9, 3) := by decide +kernel
theorem dX3_init_13 : decode cX3_init 13 = .ok (.aload_n 0, 1) := by decide +kernel
theorem dX3_init_14 : decode cX3_init 14 = .ok (.sipush 1024, 3) := by decide +kernel
theorem dX3_init_17 : decode cX3_init 17 = .ok (.newarray .int, 2) := by decide +kernel
theorem dX3_init_19 : decode cX3_init 19 = .ok (.putfield 15, 3) := by decide +kernel
theorem dX3_init_22 : decode cX3_init 22 = .ok (.aload_n 0, 1) := by decide +kernel
theorem dX3_init_23 : decode cX3_init 23 = .ok (.sipush 1024, 3) := by decide +kernel
theorem dX3_init_26 : decode cX3_init 26 = .ok (.newarray .int, 2) := by decide +kernel
theorem dX3_init_28 : decode cX3_init 28 = .ok (.putfield 18, 3) := by decide +kernel
theorem dX3_init_31 : decode cX3_init 31 = .ok (.aload_n 0, 1) := by decide +kernel
theorem dX3_init_32 : decode cX3_init 32 = .ok (.sipush 1024, 3) := by decide +kernel
theorem dX3_init_35 : decode cX3_init 35 = .ok (.newarray .int, 2) := by decide +kernel
theorem dX3_init_37 : decode cX3_init 37 = .ok (.putfield 21, 3) := by decide +kernel
theorem dX3_init_40 : decode cX3_init 40 = .ok (.aload_n 0, 1) := by decide +kernel
theorem dX3_init_41 : decode cX3_init 41 = .ok (.iconst 0, 1) := by decide +kernel
theorem dX3_init_42 : decode cX3_init 42 = .ok (.putfield 24, 3) := by decide +kernel
theorem dX3_init_45 : decode cX3_init 45 = .ok (.return_, 1) := by decide +kernel
theorem dX3_add_0 : decode cX3_add 0 = .ok (.aload_n 0, 1) := by decide +kernel
theorem dX3_add_1 : decode cX3_add 1 = .ok (.getfield 24, 3) := by decide +kernel
theorem dX3_add_4 : decode cX3_add 4 = .ok (.sipush 1024, 3) := by decide +kernel
theorem dX3_add_7 : decode cX3_add 7 = .ok (.if_icmp .lt 5, 3) := by decide +kernel
theorem dX3_add_10 : decode cX3_add 10 = .ok (.iconst 0, 1) := by decide +kernel
theorem dX3_add_11 : decode cX3_add 11 = .ok (.ireturn, 1) := by decide +kernel
theorem dX3_add_12 : decode cX3_add 12 = .ok (.aload_n 0, 1) := by decide +kernel
theorem dX3_add_13 : decode cX3_add 13 = .ok (.getfield 9, 3) := by decide +kernel
theorem dX3_add_16 : decode cX3_add 16 = .ok (.aload_n 0, 1) := by decide +kernel
theorem dX3_add_17 : decode cX3_add 17 = .ok (.getfield 24, 3) := by decide +kernel
theorem dX3_add_20 : decode cX3_add 20 = .ok (.iload_n 1, 1) := by decide +kernel
theorem dX3_add_21 : decode cX3_add 21 = .ok (.iastore, 1) := by decide +kernel
theorem dX3_add_22 : decode cX3_add 22 = .ok (.aload_n 0, 1) := by decide +kernel
theorem dX3_add_23 : decode cX3_add 23 = .ok (.getfield 15, 3) := by decide +kernel
theorem dX3_add_26 : decode cX3_add 26 = .ok (.aload_n 0, 1) := by decide +kernel
theorem dX3_add_27 : decode cX3_add 27 = .ok (.getfield 24, 3) := by decide +kernel
theorem dX3_add_30 : decode cX3_add 30 = .ok (.iload_n 2, 1) := by decide +kernel
theorem dX3_add_31 : decode cX3_add 31 = .ok (.iastore, 1) := by decide +kernel
theorem dX3_add_32 : decode cX3_add 32 = .ok (.aload_n 0, 1) := by decide +kernel
theorem dX3_add_33 : decode cX3_add 33 = .ok (.getfield 18, 3) := by decide +kernel
theorem dX3_add_36 : decode cX3_add 36 = .ok (.aload_n 0, 1) := by decide +kernel
theorem dX3_add_37 : decode cX3_add 37 = .ok (.getfield 24, 3) := by decide +kernel
theorem dX3_add_40 : decode cX3_add 40 = .ok (.iload_n 3, 1) := by decide +kernel
theorem dX3_add_41 : decode cX3_add 41 = .ok (.iastore, 1) := by decide +kernel
theorem dX3_add_42 : decode cX3_add 42 = .ok (.aload_n 0, 1) := by decide +kernel
theorem dX3_add_43 : decode cX3_add 43 = .ok (.getfield 21, 3) := by decide +kernel
theorem dX3_add_46 : decode cX3_add 46 = .ok (.aload_n 0, 1) := by decide +kernel
theorem dX3_add_47 : decode cX3_add 47 = .ok (.getfield 24, 3) := by decide +kernel
theorem dX3_add_50 : decode cX3_add 50 = .ok (.iload 4, 2) := by decide +kernel
theorem dX3_add_52 : decode cX3_add 52 = .ok (.iastore, 1) := by decide +kernel
theorem dX3_add_53 : decode cX3_add 53 = .ok (.aload_n 0, 1) := by decide +kernel
theorem dX3_add_54 : decode cX3_add 54 = .ok (.dup, 1) := by decide +kernel
theorem dX3_add_55 : decode cX3_add 55 = .ok (.getfield 24, 3) := by decide +kernel
theorem dX3_add_58 : decode cX3_add 58 = .ok (.iconst 1, 1) := by decide +kernel
theorem dX3_add_59 : decode cX3_add 59 = .ok (.iadd, 1) := by decide +kernel
theorem dX3_add_60 : decode cX3_add 60 = .ok (.putfield 24, 3) := by decide +kernel
theorem dX3_add_63 : decode cX3_add 63 = .ok (.iconst 1, 1) := by decide +kernel
theorem dX3_add_64 : decode cX3_add 64 = .ok (.ireturn, 1) := by decide +kernel
theorem dX3_tells_0 : decode cX3_tells 0 = .ok (.aload_n 0, 1) := by decide +kernel
theorem dX3_tells_1 : decode cX3_tells 1 = .ok (.getfield 15, 3) := by decide +kernel
theorem dX3_tells_4 : decode cX3_tells 4 = .ok (.iload_n 1, 1) := by decide +kernel
theorem dX3_tells_5 : decode cX3_tells 5 = .ok (.iaload, 1) := by decide +kernel
theorem dX3_tells_6 : decode cX3_tells 6 = .ok (.ifCond .eq 23, 3) := by decide +kernel
theorem dX3_tells_9 : decode cX3_tells 9 = .ok (.aload_n 0, 1) := by decide +kernel
theorem dX3_tells_10 : decode cX3_tells 10 = .ok (.getfield 15, 3) := by decide +kernel
theorem dX3_tells_13 : decode cX3_tells 13 = .ok (.iload_n 1, 1) := by decide +kernel
theorem dX3_tells_14 : decode cX3_tells 14 = .ok (.iaload, 1) := by decide +kernel
theorem dX3_tells_15 : decode cX3_tells 15 = .ok (.iconst 1, 1) := by decide +kernel
theorem dX3_tells_16 : decode cX3_tells 16 = .ok (.if_icmp .eq 13, 3) := by decide +kernel
theorem dX3_tells_19 : decode cX3_tells 19 = .ok (.aload_n 0, 1) := by decide +kernel
theorem dX3_tells_20 : decode cX3_tells 20 = .ok (.getfield 15, 3) := by decide +kernel
theorem dX3_tells_23 : decode cX3_tells 23 = .ok (.iload_n 1, 1) := by decide +kernel
theorem dX3_tells_24 : decode cX3_tells 24 = .ok (.iaload, 1) := by decide +kernel
theorem dX3_tells_25 : decode cX3_tells 25 = .ok (.iconst 2, 1) := by decide +kernel
theorem dX3_tells_26 : decode cX3_tells 26 = .ok (.if_icmp .ne 7, 3) := by decide +kernel
theorem dX3_tells_29 : decode cX3_tells 29 = .ok (.iconst 1, 1) := by decide +kernel
theorem dX3_tells_30 : decode cX3_tells 30 = .ok (.goto 4, 3) := by decide +kernel
theorem dX3_tells_33 : decode cX3_tells 33 = .ok (.iconst 0, 1) := by decide +kernel
theorem dX3_tells_34 : decode cX3_tells 34 = .ok (.ireturn, 1) := by decide +kernel
theorem dX4_init_0 : decode cX4_init 0 = .ok (.aload_n 0, 1) := by decide +kernel
theorem dX4_init_1 : decode cX4_init 1 = .ok (.invokespecial 3, 3) := by decide +kernel
theorem dX4_init_4 : decode cX4_init 4 = .ok (.aload_n 0, 1) := by decide +kernel
theorem dX4_init_5 : decode cX4_init 5 = .ok (.bipush 16, 2) := by decide +kernel
theorem dX4_init_7 : decode cX4_init 7 = .ok (.newarray .int, 2) := by decide +kernel
theorem dX4_init_9 : decode cX4_init 9 = .ok (.putfield 9, 3) := by decide +kernel
theorem dX4_init_12 : decode cX4_init 12 = .ok (.aload_n 0, 1) := by decide +kernel
theorem dX4_init_13 : decode cX4_init 13 = .ok (.iconst 0, 1) := by decide +kernel
theorem dX4_init_14 : decode cX4_init 14 = .ok (.putfield 15, 3) := by decide +kernel
theorem dX4_init_17 : decode cX4_init 17 = .ok (.aload_n 0, 1) := by decide +kernel
theorem dX4_init_18 : decode cX4_init 18 = .ok (.iconst 0, 1) := by decide +kernel
theorem dX4_init_19 : decode cX4_init 19 = .ok (.putfield 19, 3) := by decide +kernel
theorem dX4_init_22 : decode cX4_init 22 = .ok (.return_, 1) := by decide +kernel
theorem dX4_add_0 : decode cX4_add 0 = .ok (.aload_n 0, 1) := by decide +kernel
theorem dX4_add_1 : decode cX4_add 1 = .ok (.getfield 19, 3) := by decide +kernel
theorem dX4_add_4 : decode cX4_add 4 = .ok (.aload_n 0, 1) := by decide +kernel
theorem dX4_add_5 : decode cX4_add 5 = .ok (.getfield 9, 3) := by decide +kernel
theorem dX4_add_8 : decode cX4_add 8 = .ok (.arraylength, 1) := by decide +kernel
theorem dX4_add_9 : decode cX4_add 9 = .ok (.if_icmp .lt 7, 3) := by decide +kernel
theorem dX4_add_12 : decode cX4_add 12 = .ok (.aload_n 0, 1) := by decide +kernel
theorem dX4_add_13 : decode cX4_add 13 = .ok (.invokevirtual 22, 3) := by decide +kernel
theorem dX4_add_16 : decode cX4_add 16 = .ok (.aload_n 0, 1) := by decide +kernel
theorem dX4_add_17 : decode cX4_add 17 = .ok (.getfield 19, 3) := by decide +kernel
theorem dX4_add_20 : decode cX4_add 20 = .ok (.aload_n 0, 1) := by decide +kernel
theorem dX4_add_21 : decode cX4_add 21 = .ok (.getfield 9, 3) := by decide +kernel
theorem dX4_add_24 : decode cX4_add 24 = .ok (.arraylength, 1) := by decide +kernel
theorem dX4_add_25 : decode cX4_add 25 = .ok (.if_icmp .ge 23, 3) := by decide +kernel
theorem dX4_add_28 : decode cX4_add 28 = .ok (.aload_n 0, 1) := by decide +kernel
theorem dX4_add_29 : decode cX4_add 29 = .ok (.getfield 9, 3) := by decide +kernel
theorem dX4_add_32 : decode cX4_add 32 = .ok (.aload_n 0, 1) := by decide +kernel
theorem dX4_add_33 : decode cX4_add 33 = .ok (.getfield 19, 3) := by decide +kernel
theorem dX4_add_36 : decode cX4_add 36 = .ok (.iload_n 1, 1) := by decide +kernel
theorem dX4_add_37 : decode cX4_add 37 = .ok (.iastore, 1) := by decide +kernel
theorem dX4_add_38 : decode cX4_add 38 = .ok (.aload_n 0, 1) := by decide +kernel
theorem dX4_add_39 : decode cX4_add 39 = .ok (.dup, 1) := by decide +kernel
theorem dX4_add_40 : decode cX4_add 40 = .ok (.getfield 19, 3) := by decide +kernel
theorem dX4_add_43 : decode cX4_add 43 = .ok (.iconst 1, 1) := by decide +kernel
theorem dX4_add_44 : decode cX4_add 44 = .ok (.iadd, 1) := by decide +kernel
theorem dX4_add_45 : decode cX4_add 45 = .ok (.putfield 19, 3) := by decide +kernel
theorem dX4_add_48 : decode cX4_add 48 = .ok (.return_, 1) := by decide +kernel
theorem dX4_makeRoom_0 : decode cX4_makeRoom 0 = .ok (.aload_n 0, 1) := by decide +kernel
theorem dX4_makeRoom_1 : decode cX4_makeRoom 1 = .ok (.getfield 15, 3) := by decide +kernel
theorem dX4_makeRoom_4 : decode cX4_makeRoom 4 = .ok (.ifCond .le 49, 3) := by decide +kernel
theorem dX4_makeRoom_7 : decode cX4_makeRoom 7 = .ok (.aload_n 0, 1) := by decide +kernel
theorem dX4_makeRoom_8 : decode cX4_makeRoom 8 = .ok (.getfield 9, 3) := by decide +kernel
theorem dX4_makeRoom_11 : decode cX4_makeRoom 11 = .ok (.aload_n 0, 1) := by decide +kernel
theorem dX4_makeRoom_12 : decode cX4_makeRoom 12 = .ok (.getfield 15, 3) := by decide +kernel
theorem dX4_makeRoom_15 : decode cX4_makeRoom 15 = .ok (.aload_n 0, 1) := by decide +kernel
theorem dX4_makeRoom_16 : decode cX4_makeRoom 16 = .ok (.getfield 9, 3) := by decide +kernel
theorem dX4_makeRoom_19 : decode cX4_makeRoom 19 = .ok (.iconst 0, 1) := by decide +kernel
theorem dX4_makeRoom_20 : decode cX4_makeRoom 20 = .ok (.aload_n 0, 1) := by decide +kernel
theorem dX4_makeRoom_21 : decode cX4_makeRoom 21 = .ok (.getfield 19, 3) := by decide +kernel
theorem dX4_makeRoom_24 : decode cX4_makeRoom 24 = .ok (.aload_n 0, 1) := by decide +kernel
theorem dX4_makeRoom_25 : decode cX4_makeRoom 25 = .ok (.getfield 15, 3) := by decide +kernel
theorem dX4_makeRoom_28 : decode cX4_makeRoom 28 = .ok (.isub, 1) := by decide +kernel
theorem dX4_makeRoom_29 : decode cX4_makeRoom 29 = .ok (.invokestatic 25, 3) := by decide +kernel
theorem dX4_makeRoom_32 : decode cX4_makeRoom 32 = .ok (.aload_n 0, 1) := by decide +kernel
theorem dX4_makeRoom_33 : decode cX4_makeRoom 33 = .ok (.dup, 1) := by decide +kernel
theorem dX4_makeRoom_34 : decode cX4_makeRoom 34 = .ok (.getfield 19, 3) := by decide +kernel
theorem dX4_makeRoom_37 : decode cX4_makeRoom 37 = .ok (.aload_n 0, 1) := by decide +kernel
theorem dX4_makeRoom_38 : decode cX4_makeRoom 38 = .ok (.getfield 15, 3) := by decide +kernel
theorem dX4_makeRoom_41 : decode cX4_makeRoom 41 = .ok (.isub, 1) := by decide +kernel
theorem dX4_makeRoom_42 : decode cX4_makeRoom 42 = .ok (.putfield 19, 3) := by decide +kernel
theorem dX4_makeRoom_45 : decode cX4_makeRoom 45 = .ok (.aload_n 0, 1) := by decide +kernel
theorem dX4_makeRoom_46 : decode cX4_makeRoom 46 = .ok (.iconst 0, 1) := by decide +kernel
theorem dX4_makeRoom_47 : decode cX4_makeRoom 47 = .ok (.putfield 15, 3) := by decide +kernel
theorem dX4_makeRoom_50 : decode cX4_makeRoom 50 = .ok (.goto 32, 3) := by decide +kernel
theorem dX4_makeRoom_53 : decode cX4_makeRoom 53 = .ok (.aload_n 0, 1) := by decide +kernel
theorem dX4_makeRoom_54 : decode cX4_makeRoom 54 = .ok (.getfield 9, 3) := by decide +kernel
theorem dX4_makeRoom_57 : decode cX4_makeRoom 57 = .ok (.arraylength, 1) := by decide +kernel
theorem dX4_makeRoom_58 : decode cX4_makeRoom 58 = .ok (.sipush 8192, 3) := by decide +kernel
theorem dX4_makeRoom_61 : decode cX4_makeRoom 61 = .ok (.if_icmp .ge 21, 3) := by decide +kernel
theorem dX4_makeRoom_64 : decode cX4_makeRoom 64 = .ok (.aload_n 0, 1) := by decide +kernel
theorem dX4_makeRoom_65 : decode cX4_makeRoom 65 = .ok (.aload_n 0, 1) := by decide +kernel
theorem dX4_makeRoom_66 : decode cX4_makeRoom 66 = .ok (.getfield 9, 3) := by decide +kernel
theorem dX4_makeRoom_69 : decode cX4_makeRoom 69 = .ok (.iconst 2, 1) := by decide +kernel
theorem dX4_makeRoom_70 : decode cX4_makeRoom 70 = .ok (.aload_n 0, 1) := by decide +kernel
theorem dX4_makeRoom_71 : decode cX4_makeRoom 71 = .ok (.getfield 9, 3) := by decide +kernel
theorem dX4_makeRoom_74 : decode cX4_makeRoom 74 = .ok (.arraylength, 1) := by decide +kernel
theorem dX4_makeRoom_75 : decode cX4_makeRoom 75 = .ok (.imul, 1) := by decide +kernel
theorem dX4_makeRoom_76 : decode cX4_makeRoom 76 = .ok (.invokestatic 31, 3) := by decide +kernel
theorem dX4_makeRoom_79 : decode cX4_makeRoom 79 = .ok (.putfield 9, 3) := by decide +kernel
theorem dX4_makeRoom_82 : decode cX4_makeRoom 82 = .ok (.return_, 1) := by decide +kernel
theorem dX4_takeOldest_0 : decode cX4_takeOldest 0 = .ok (.aload_n 0, 1) := by decide +kernel
theorem dX4_takeOldest_1 : decode cX4_takeOldest 1 = .ok (.getfield 15, 3) := by decide +kernel
theorem dX4_takeOldest_4 : decode cX4_takeOldest 4 = .ok (.aload_n 0, 1) := by decide +kernel
theorem dX4_takeOldest_5 : decode cX4_takeOldest 5 = .ok (.getfield 19, 3) := by decide +kernel
theorem dX4_takeOldest_8 : decode cX4_takeOldest 8 = .ok (.if_icmp .lt 6, 3) := by decide +kernel
theorem dX4_takeOldest_11 : decode cX4_takeOldest 11 = .ok (.bipush (-100), 2) := by decide +kernel
theorem dX4_takeOldest_13 : decode cX4_takeOldest 13 = .ok (.ireturn, 1) := by decide +kernel
theorem dX4_takeOldest_14 : decode cX4_takeOldest 14 = .ok (.aload_n 0, 1) := by decide +kernel
theorem dX4_takeOldest_15 : decode cX4_takeOldest 15 = .ok (.getfield 9, 3) := by decide +kernel
theorem dX4_takeOldest_18 : decode cX4_takeOldest 18 = .ok (.aload_n 0, 1) := by decide +kernel
theorem dX4_takeOldest_19 : decode cX4_takeOldest 19 = .ok (.getfield 15, 3) := by decide +kernel
theorem dX4_takeOldest_22 : decode cX4_takeOldest 22 = .ok (.iaload, 1) := by decide +kernel
theorem dX4_takeOldest_23 : decode cX4_takeOldest 23 = .ok (.istore_n 1, 1) := by decide +kernel
theorem dX4_takeOldest_24 : decode cX4_takeOldest 24 = .ok (.aload_n 0, 1) := by decide +kernel
theorem dX4_takeOldest_25 : decode cX4_takeOldest 25 = .ok (.dup, 1) := by decide +kernel
theorem dX4_takeOldest_26 : decode cX4_takeOldest 26 = .ok (.getfield 15, 3) := by decide +kernel
theorem dX4_takeOldest_29 : decode cX4_takeOldest 29 = .ok (.iconst 1, 1) := by decide +kernel
theorem dX4_takeOldest_30 : decode cX4_takeOldest 30 = .ok (.iadd, 1) := by decide +kernel
theorem dX4_takeOldest_31 : decode cX4_takeOldest 31 = .ok (.putfield 15, 3) := by decide +kernel
theorem dX4_takeOldest_34 : decode cX4_takeOldest 34 = .ok (.iload_n 1, 1) := by decide +kernel
theorem dX4_takeOldest_35 : decode cX4_takeOldest 35 = .ok (.ireturn, 1) := by decide +kernel
theorem dX5_init_0 : decode cX5_init 0 = .ok (.aload_n 0, 1) := by decide +kernel
theorem dX5_init_1 : decode cX5_init 1 = .ok (.invokespecial 1, 3) := by decide +kernel
theorem dX5_init_4 : decode cX5_init 4 = .ok (.aload_n 0, 1) := by decide +kernel
theorem dX5_init_5 : decode cX5_init 5 = .ok (.iconst 0, 1) := by decide +kernel
theorem dX5_init_6 : decode cX5_init 6 = .ok (.putfield 7, 3) := by decide +kernel
theorem dX5_init_9 : decode cX5_init 9 = .ok (.aload_n 0, 1) := by decide +kernel
theorem dX5_init_10 : decode cX5_init 10 = .ok (.iconst 0, 1) := by decide +kernel
theorem dX5_init_11 : decode cX5_init 11 = .ok (.putfield 13, 3) := by decide +kernel
theorem dX5_init_14 : decode cX5_init 14 = .ok (.aload_n 0, 1) := by decide +kernel
theorem dX5_init_15 : decode cX5_init 15 = .ok (.aload_n 1, 1) := by decide +kernel
theorem dX5_init_16 : decode cX5_init 16 = .ok (.putfield 16, 3) := by decide +kernel
theorem dX5_init_19 : decode cX5_init 19 = .ok (.return_, 1) := by decide +kernel
theorem dX6_init_0 : decode cX6_init 0 = .ok (.aload_n 0, 1) := by decide +kernel
theorem dX6_init_1 : decode cX6_init 1 = .ok (.invokespecial 3, 3) := by decide +kernel
theorem dX6_init_4 : decode cX6_init 4 = .ok (.aload_n 0, 1) := by decide +kernel
theorem dX6_init_5 : decode cX6_init 5 = .ok (.bipush 6, 2) := by decide +kernel
theorem dX6_init_7 : decode cX6_init 7 = .ok (.anewarray 9, 3) := by decide +kernel
theorem dX6_init_10 : decode cX6_init 10 = .ok (.putfield 11, 3) := by decide +kernel
theorem dX6_init_13 : decode cX6_init 13 = .ok (.aload_n 0, 1) := by decide +kernel
theorem dX6_init_14 : decode cX6_init 14 = .ok (.bipush 6, 2) := by decide +kernel
theorem dX6_init_16 : decode cX6_init 16 = .ok (.newarray .int, 2) := by decide +kernel
theorem dX6_init_18 : decode cX6_init 18 = .ok (.putfield 17, 3) := by decide +kernel
theorem dX6_init_21 : decode cX6_init 21 = .ok (.aload_n 0, 1) := by decide +kernel
theorem dX6_init_22 : decode cX6_init 22 = .ok (.bipush 8, 2) := by decide +kernel
theorem dX6_init_24 : decode cX6_init 24 = .ok (.newarray .int, 2) := by decide +kernel
theorem dX6_init_26 : decode cX6_init 26 = .ok (.putfield 21, 3) := by decide +kernel
theorem dX6_init_29 : decode cX6_init 29 = .ok (.aload_n 0, 1) := by decide +kernel
theorem dX6_init_30 : decode cX6_init 30 = .ok (.bipush 8, 2) := by decide +kernel
theorem dX6_init_32 : decode cX6_init 32 = .ok (.newarray .int, 2) := by decide +kernel
theorem dX6_init_34 : decode cX6_init 34 = .ok (.putfield 24, 3) := by decide +kernel
theorem dX6_init_37 : decode cX6_init 37 = .ok (.aload_n 0, 1) := by decide +kernel
theorem dX6_init_38 : decode cX6_init 38 = .ok (.new 27, 3) := by decide +kernel
theorem dX6_init_41 : decode cX6_init 41 = .ok (.dup, 1) := by decide +kernel
theorem dX6_init_42 : decode cX6_init 42 = .ok (.invokespecial 29, 3) := by decide +kernel
theorem dX6_init_45 : decode cX6_init 45 = .ok (.putfield 30, 3) := by decide +kernel
theorem dX6_init_48 : decode cX6_init 48 = .ok (.aload_n 0, 1) := by decide +kernel
theorem dX6_init_49 : decode cX6_init 49 = .ok (.iconst 0, 1) := by decide +kernel
theorem dX6_init_50 : decode cX6_init 50 = .ok (.putfield 34, 3) := by decide +kernel
theorem dX6_init_53 : decode cX6_init 53 = .ok (.aload_n 0, 1) := by decide +kernel
theorem dX6_init_54 : decode cX6_init 54 = .ok (.iconst 0, 1) := by decide +kernel
theorem dX6_init_55 : decode cX6_init 55 = .ok (.putfield 38, 3) := by decide +kernel
theorem dX6_init_58 : decode cX6_init 58 = .ok (.aload_n 0, 1) := by decide +kernel
theorem dX6_init_59 : decode cX6_init 59 = .ok (.iconst 0, 1) := by decide +kernel
theorem dX6_init_60 : decode cX6_init 60 = .ok (.putfield 41, 3) := by decide +kernel
theorem dX6_init_63 : decode cX6_init 63 = .ok (.aload_n 0, 1) := by decide +kernel
theorem dX6_init_64 : decode cX6_init 64 = .ok (.iconst 0, 1) := by decide +kernel
theorem dX6_init_65 : decode cX6_init 65 = .ok (.putfield 44, 3) := by decide +kernel
theorem dX6_init_68 : decode cX6_init 68 = .ok (.aload_n 0, 1) := by decide +kernel
theorem dX6_init_69 : decode cX6_init 69 = .ok (.iconst 0, 1) := by decide +kernel
theorem dX6_init_70 : decode cX6_init 70 = .ok (.putfield 48, 3) := by decide +kernel
theorem dX6_init_73 : decode cX6_init 73 = .ok (.aload_n 0, 1) := by decide +kernel
theorem dX6_init_74 : decode cX6_init 74 = .ok (.iload_n 1, 1) := by decide +kernel
theorem dX6_init_75 : decode cX6_init 75 = .ok (.putfield 51, 3) := by decide +kernel
theorem dX6_init_78 : decode cX6_init 78 = .ok (.aload_n 0, 1) := by decide +kernel
theorem dX6_init_79 : decode cX6_init 79 = .ok (.iload_n 2, 1) := by decide +kernel
theorem dX6_init_80 : decode cX6_init 80 = .ok (.putfield 54, 3) := by decide +kernel
theorem dX6_init_83 : decode cX6_init 83 = .ok (.aload_n 0, 1) := by decide +kernel
theorem dX6_init_84 : decode cX6_init 84 = .ok (.aload_n 3, 1) := by decide +kernel
theorem dX6_init_85 : decode cX6_init 85 = .ok (.putfield 57, 3) := by decide +kernel
theorem dX6_init_88 : decode cX6_init 88 = .ok (.aload_n 0, 1) := by decide +kernel
theorem dX6_init_89 : decode cX6_init 89 = .ok (.iload 4, 2) := by decide +kernel
theorem dX6_init_91 : decode cX6_init 91 = .ok (.putfield 61, 3) := by decide +kernel
theorem dX6_init_94 : decode cX6_init 94 = .ok (.aload_n 0, 1) := by decide +kernel
theorem dX6_init_95 : decode cX6_init 95 = .ok (.iload 5, 2) := by decide +kernel
theorem dX6_init_97 : decode cX6_init 97 = .ok (.putfield 64, 3) := by decide +kernel
theorem dX6_init_100 : decode cX6_init 100 = .ok (.aload_n 0, 1) := by decide +kernel
theorem dX6_init_101 : decode cX6_init 101 = .ok (.aload_n 3, 1) := by decide +kernel
theorem dX6_init_102 : decode cX6_init 102 = .ok (.getfield 67, 3) := by decide +kernel
theorem dX6_init_105 : decode cX6_init 105 = .ok (.putfield 72, 3) := by decide +kernel
theorem dX6_init_108 : decode cX6_init 108 = .ok (.iconst 0, 1) := by decide +kernel
theorem dX6_init_109 : decode cX6_init 109 = .ok (.istore 6, 2) := by decide +kernel
theorem dX6_init_111 : decode cX6_init 111 = .ok (.iload 6, 2) := by decide +kernel
theorem dX6_init_113 : decode cX6_init 113 = .ok (.bipush 6, 2) := by decide +kernel
theorem dX6_init_115 : decode cX6_init 115 = .ok (.if_icmp .ge 23, 3) := by decide +kernel
theorem dX6_init_118 : decode cX6_init 118 = .ok (.aload_n 0, 1) := by decide +kernel
theorem dX6_init_119 : decode cX6_init 119 = .ok (.getfield 11, 3) := by decide +kernel
theorem dX6_init_122 : decode cX6_init 122 = .ok (.iload 6, 2) := by decide +kernel
theorem dX6_init_124 : decode cX6_init 124 = .ok (.new 9, 3) := by decide +kernel
theorem dX6_init_127 : decode cX6_init 127 = .ok (.dup, 1) := by decide +kernel
theorem dX6_init_128 : decode cX6_init 128 = .ok (.invokespecial 73, 3) := by decide +kernel
theorem dX6_init_131 : decode cX6_init 131 = .ok (.aastore, 1) := by decide +kernel
theorem dX6_init_132 : decode cX6_init 132 = .ok (.iinc 6 1, 3) := by decide +kernel
theorem dX6_init_135 : decode cX6_init 135 = .ok (.goto (-24), 3) := by decide +kernel
theorem dX6_init_138 : decode cX6_init 138 = .ok (.return_, 1) := by decide +kernel
theorem dX6_addWatch_0 : decode cX6_addWatch 0 = .ok (.aload_n 0, 1) := by decide +kernel
theorem dX6_addWatch_1 : decode cX6_addWatch 1 = .ok (.getfield 34, 3) := by decide +kernel
theorem dX6_addWatch_4 : decode cX6_addWatch 4 = .ok (.bipush 8, 2) := by decide +kernel
theorem dX6_addWatch_6 : decode cX6_addWatch 6 = .ok (.if_icmp .ge 33, 3) := by decide +kernel
theorem dX6_addWatch_9 : decode cX6_addWatch 9 = .ok (.aload_n 0, 1) := by decide +kernel
theorem dX6_addWatch_10 : decode cX6_addWatch 10 = .ok (.getfield 21, 3) := by decide +kernel
theorem dX6_addWatch_13 : decode cX6_addWatch 13 = .ok (.aload_n 0, 1) := by decide +kernel
theorem dX6_addWatch_14 : decode cX6_addWatch 14 = .ok (.getfield 34, 3) := by decide +kernel
theorem dX6_addWatch_17 : decode cX6_addWatch 17 = .ok (.iload_n 1, 1) := by decide +kernel
theorem dX6_addWatch_18 : decode cX6_addWatch 18 = .ok (.iastore, 1) := by decide +kernel
theorem dX6_addWatch_19 : decode cX6_addWatch 19 = .ok (.aload_n 0, 1) := by decide +kernel
theorem dX6_addWatch_20 : decode cX6_addWatch 20 = .ok (.getfield 24, 3) := by decide +kernel
theorem dX6_addWatch_23 : decode cX6_addWatch 23 = .ok (.aload_n 0, 1) := by decide +kernel
theorem dX6_addWatch_24 : decode cX6_addWatch 24 = .ok (.getfield 34, 3) := by decide +kernel
theorem dX6_addWatch_27 : decode cX6_addWatch 27 = .ok (.iload_n 2, 1) := by decide +kernel
theorem dX6_addWatch_28 : decode cX6_addWatch 28 = .ok (.iastore, 1) := by decide +kernel
theorem dX6_addWatch_29 : decode cX6_addWatch 29 = .ok (.aload_n 0, 1) := by decide +kernel
theorem dX6_addWatch_30 : decode cX6_addWatch 30 = .ok (.dup, 1) := by decide +kernel
theorem dX6_addWatch_31 : decode cX6_addWatch 31 = .ok (.getfield 34, 3) := by decide +kernel
theorem dX6_addWatch_34 : decode cX6_addWatch 34 = .ok (.iconst 1, 1) := by decide +kernel
theorem dX6_addWatch_35 : decode cX6_addWatch 35 = .ok (.iadd, 1) := by decide +kernel
theorem dX6_addWatch_36 : decode cX6_addWatch 36 = .ok (.putfield 34, 3) := by decide +kernel
theorem dX6_addWatch_39 : decode cX6_addWatch 39 = .ok (.aload_n 0, 1) := by decide +kernel
theorem dX6_addWatch_40 : decode cX6_addWatch 40 = .ok (.getfield 34, 3) := by decide +kernel
theorem dX6_addWatch_43 : decode cX6_addWatch 43 = .ok (.ireturn, 1) := by decide +kernel
theorem dX6_hearOf_0 : decode cX6_hearOf 0 = .ok (.iconst 0, 1) := by decide +kernel
theorem dX6_hearOf_1 : decode cX6_hearOf 1 = .ok (.istore 4, 2) := by decide +kernel
theorem dX6_hearOf_3 : decode cX6_hearOf 3 = .ok (.iconst 0, 1) := by decide +kernel
theorem dX6_hearOf_4 : decode cX6_hearOf 4 = .ok (.istore 5, 2) := by decide +kernel
theorem dX6_hearOf_6 : decode cX6_hearOf 6 = .ok (.iload 5, 2) := by decide +kernel
theorem dX6_hearOf_8 : decode cX6_hearOf 8 = .ok (.aload_n 0, 1) := by decide +kernel
theorem dX6_hearOf_9 : decode cX6_hearOf 9 = .ok (.getfield 34, 3) := by decide +kernel
theorem dX6_hearOf_12 : decode cX6_hearOf 12 = .ok (.if_icmp .ge 92, 3) := by decide +kernel
theorem dX6_hearOf_15 : decode cX6_hearOf 15 = .ok (.iload 5, 2) := by decide +kernel
theorem dX6_hearOf_17 : decode cX6_hearOf 17 = .ok (.bipush 8, 2) := by decide +kernel
theorem dX6_hearOf_19 : decode cX6_hearOf 19 = .ok (.if_icmp .ge 85, 3) := by decide +kernel
theorem dX6_hearOf_22 : decode cX6_hearOf 22 = .ok (.aload_n 0, 1) := by decide +kernel
theorem dX6_hearOf_23 : decode cX6_hearOf 23 = .ok (.iload 5, 2) := by decide +kernel
theorem dX6_hearOf_25 : decode cX6_hearOf 25 = .ok (.iload_n 1, 1) := by decide +kernel
theorem dX6_hearOf_26 : decode cX6_hearOf 26 = .ok (.iload_n 2, 1) := by decide +kernel
theorem dX6_hearOf_27 : decode cX6_hearOf 27 = .ok (.aload_n 3, 1) := by decide +kernel
theorem dX6_hearOf_28 : decode cX6_hearOf 28 = .ok (.invokevirtual 74, 3) := by decide +kernel
theorem dX6_hearOf_31 : decode cX6_hearOf 31 = .ok (.istore 6, 2) := by decide +kernel
theorem dX6_hearOf_33 : decode cX6_hearOf 33 = .ok (.iload 6, 2) := by decide +kernel
theorem dX6_hearOf_35 : decode cX6_hearOf 35 = .ok (.ifCond .eq 16, 3) := by decide +kernel
theorem dX6_hearOf_38 : decode cX6_hearOf 38 = .ok (.aload_n 0, 1) := by decide +kernel
theorem dX6_hearOf_39 : decode cX6_hearOf 39 = .ok (.getfield 30, 3) := by decide +kernel
theorem dX6_hearOf_42 : decode cX6_hearOf 42 = .ok (.bipush 10, 2) := by decide +kernel
theorem dX6_hearOf_44 : decode cX6_hearOf 44 = .ok (.iload_n 2, 1) := by decide +kernel
theorem dX6_hearOf_45 : decode cX6_hearOf 45 = .ok (.imul, 1) := by decide +kernel
theorem dX6_hearOf_46 : decode cX6_hearOf 46 = .ok (.iload_n 1, 1) := by decide +kernel
theorem dX6_hearOf_47 : decode cX6_hearOf 47 = .ok (.iadd, 1) := by decide +kernel
theorem dX6_hearOf_48 : decode cX6_hearOf 48 = .ok (.invokevirtual 78, 3) := by decide +kernel
theorem dX6_hearOf_51 : decode cX6_hearOf 51 = .ok (.iload 6, 2) := by decide +kernel
theorem dX6_hearOf_53 : decode cX6_hearOf 53 = .ok (.ifCond .eq 14, 3) := by decide +kernel
theorem dX6_hearOf_56 : decode cX6_hearOf 56 = .ok (.aload_n 0, 1) := by decide +kernel
theorem dX6_hearOf_57 : decode cX6_hearOf 57 = .ok (.getfield 24, 3) := by decide +kernel
theorem dX6_hearOf_60 : decode cX6_hearOf 60 = .ok (.iload 5, 2) := by decide +kernel
theorem dX6_hearOf_62 : decode cX6_hearOf 62 = .ok (.iaload, 1) := by decide +kernel
theorem dX6_hearOf_63 : decode cX6_hearOf 63 = .ok (.iconst 2, 1) := by decide +kernel
theorem dX6_hearOf_64 : decode cX6_hearOf 64 = .ok (.if_icmp .ne 34, 3) := by decide +kernel
theorem dX6_hearOf_67 : decode cX6_hearOf 67 = .ok (.aload_n 0, 1) := by decide +kernel
theorem dX6_hearOf_68 : decode cX6_hearOf 68 = .ok (.getfield 21, 3) := by decide +kernel
theorem dX6_hearOf_71 : decode cX6_hearOf 71 = .ok (.iload 4, 2) := by decide +kernel
theorem dX6_hearOf_73 : decode cX6_hearOf 73 = .ok (.aload_n 0, 1) := by decide +kernel
theorem dX6_hearOf_74 : decode cX6_hearOf 74 = .ok (.getfield 21, 3) := by decide +kernel
theorem dX6_hearOf_77 : decode cX6_hearOf 77 = .ok (.iload 5, 2) := by decide +kernel
theorem dX6_hearOf_79 : decode cX6_hearOf 79 = .ok (.iaload, 1) := by decide +kernel
theorem dX6_hearOf_80 : decode cX6_hearOf 80 = .ok (.iastore, 1) := by decide +kernel
theorem dX6_hearOf_81 : decode cX6_hearOf 81 = .ok (.aload_n 0, 1) := by decide +kernel
theorem dX6_hearOf_82 : decode cX6_hearOf 82 = .ok (.getfield 24, 3) := by decide +kernel
theorem dX6_hearOf_85 : decode cX6_hearOf 85 = .ok (.iload 4, 2) := by decide +kernel
theorem dX6_hearOf_87 : decode cX6_hearOf 87 = .ok (.aload_n 0, 1) := by decide +kernel
theorem dX6_hearOf_88 : decode cX6_hearOf 88 = .ok (.getfield 24, 3) := by decide +kernel
theorem dX6_hearOf_91 : decode cX6_hearOf 91 = .ok (.iload 5, 2) := by decide +kernel
theorem dX6_hearOf_93 : decode cX6_hearOf 93 = .ok (.iaload, 1) := by decide +kernel
theorem dX6_hearOf_94 : decode cX6_hearOf 94 = .ok (.iastore, 1) := by decide +kernel
theorem dX6_hearOf_95 : decode cX6_hearOf 95 = .ok (.iinc 4 1, 3) := by decide +kernel
theorem dX6_hearOf_98 : decode cX6_hearOf 98 = .ok (.iinc 5 1, 3) := by decide +kernel
theorem dX6_hearOf_101 : decode cX6_hearOf 101 = .ok (.goto (-95), 3) := by decide +kernel
theorem dX6_hearOf_104 : decode cX6_hearOf 104 = .ok (.aload_n 0, 1) := by decide +kernel
theorem dX6_hearOf_105 : decode cX6_hearOf 105 = .ok (.iload 4, 2) := by decide +kernel
theorem dX6_hearOf_107 : decode cX6_hearOf 107 = .ok (.putfield 34, 3) := by decide +kernel
theorem dX6_hearOf_110 : decode cX6_hearOf 110 = .ok (.return_, 1) := by decide +kernel
theorem dX6_watchesFor_0 : decode cX6_watchesFor 0 = .ok (.aload_n 0, 1) := by decide +kernel
theorem dX6_watchesFor_1 : decode cX6_watchesFor 1 = .ok (.getfield 21, 3) := by decide +kernel
theorem dX6_watchesFor_4 : decode cX6_watchesFor 4 = .ok (.iload_n 1, 1) := by decide +kernel
theorem dX6_watchesFor_5 : decode cX6_watchesFor 5 = .ok (.iaload, 1) := by decide +kernel
theorem dX6_watchesFor_6 : decode cX6_watchesFor 6 = .ok (.istore 5, 2) := by decide +kernel
theorem dX6_watchesFor_8 : decode cX6_watchesFor 8 = .ok (.aload_n 0, 1) := by decide +kernel
theorem dX6_watchesFor_9 : decode cX6_watchesFor 9 = .ok (.getfield 24, 3) := by decide +kernel
theorem dX6_watchesFor_12 : decode cX6_watchesFor 12 = .ok (.iload_n 1, 1) := by decide +kernel
theorem dX6_watchesFor_13 : decode cX6_watchesFor 13 = .ok (.iaload, 1) := by decide +kernel
theorem dX6_watchesFor_14 : decode cX6_watchesFor 14 = .ok (.lookupswitch 76 #[(0, 26), (1, 42)], 26) := by decide +kernel
theorem dX6_watchesFor_40 : decode cX6_watchesFor 40 = .ok (.iload_n 3, 1) := by decide +kernel
theorem dX6_watchesFor_41 : decode cX6_watchesFor 41 = .ok (.iload 5, 2) := by decide +kernel
theorem dX6_watchesFor_43 : decode cX6_watchesFor 43 = .ok (.if_icmp .ne 11, 3) := by decide +kernel
theorem dX6_watchesFor_46 : decode cX6_watchesFor 46 = .ok (.iload_n 2, 1) := by decide +kernel
theorem dX6_watchesFor_47 : decode cX6_watchesFor 47 = .ok (.ifCond .eq 7, 3) := by decide +kernel
theorem dX6_watchesFor_50 : decode cX6_watchesFor 50 = .ok (.iconst 1, 1) := by decide +kernel
theorem dX6_watchesFor_51 : decode cX6_watchesFor 51 = .ok (.goto 4, 3) := by decide +kernel
theorem dX6_watchesFor_54 : decode cX6_watchesFor 54 = .ok (.iconst 0, 1) := by decide +kernel
theorem dX6_watchesFor_55 : decode cX6_watchesFor 55 = .ok (.ireturn, 1) := by decide +kernel
theorem dX6_watchesFor_56 : decode cX6_watchesFor 56 = .ok (.iload_n 2, 1) := by decide +kernel
theorem dX6_watchesFor_57 : decode cX6_watchesFor 57 = .ok (.iconst 1, 1) := by decide +kernel
theorem dX6_watchesFor_58 : decode cX6_watchesFor 58 = .ok (.if_icmp .eq 15, 3) := by decide +kernel
theorem dX6_watchesFor_61 : decode cX6_watchesFor 61 = .ok (.aload 4, 2) := by decide +kernel
theorem dX6_watchesFor_63 : decode cX6_watchesFor 63 = .ok (.getfield 82, 3) := by decide +kernel
theorem dX6_watchesFor_66 : decode cX6_watchesFor 66 = .ok (.iload_n 3, 1) := by decide +kernel
theorem dX6_watchesFor_67 : decode cX6_watchesFor 67 = .ok (.iaload, 1) := by decide +kernel
theorem dX6_watchesFor_68 : decode cX6_watchesFor 68 = .ok (.iload 5, 2) := by decide +kernel
theorem dX6_watchesFor_70 : decode cX6_watchesFor 70 = .ok (.if_icmp .eq 14, 3) := by decide +kernel
theorem dX6_watchesFor_73 : decode cX6_watchesFor 73 = .ok (.iload_n 2, 1) := by decide +kernel
theorem dX6_watchesFor_74 : decode cX6_watchesFor 74 = .ok (.iconst 2, 1) := by decide +kernel
theorem dX6_watchesFor_75 : decode cX6_watchesFor 75 = .ok (.if_icmp .ne 13, 3) := by decide +kernel
theorem dX6_watchesFor_78 : decode cX6_watchesFor 78 = .ok (.iload_n 3, 1) := by decide +kernel
theorem dX6_watchesFor_79 : decode cX6_watchesFor 79 = .ok (.iload 5, 2) := by decide +kernel
theorem dX6_watchesFor_81 : decode cX6_watchesFor 81 = .ok (.if_icmp .ne 7, 3) := by decide +kernel
theorem dX6_watchesFor_84 : decode cX6_watchesFor 84 = .ok (.iconst 1, 1) := by decide +kernel
theorem dX6_watchesFor_85 : decode cX6_watchesFor 85 = .ok (.goto 4, 3) := by decide +kernel
theorem dX6_watchesFor_88 : decode cX6_watchesFor 88 = .ok (.iconst 0, 1) := by decide +kernel
theorem dX6_watchesFor_89 : decode cX6_watchesFor 89 = .ok (.ireturn, 1) := by decide +kernel
theorem dX6_watchesFor_90 : decode cX6_watchesFor 90 = .ok (.aload 4, 2) := by decide +kernel
theorem dX6_watchesFor_92 : decode cX6_watchesFor 92 = .ok (.iload_n 3, 1) := by decide +kernel
theorem dX6_watchesFor_93 : decode cX6_watchesFor 93 = .ok (.iload 5, 2) := by decide +kernel
theorem dX6_watchesFor_95 : decode cX6_watchesFor 95 = .ok (.invokevirtual 87, 3) := by decide +kernel
theorem dX6_watchesFor_98 : decode cX6_watchesFor 98 = .ok (.ireturn, 1) := by decide +kernel
theorem dX7_init_0 : decode cX7_init 0 = .ok (.aload_n 0, 1) := by decide +kernel
theorem dX7_init_1 : decode cX7_init 1 = .ok (.invokespecial 3, 3) := by decide +kernel
theorem dX7_init_4 : decode cX7_init 4 = .ok (.aload_n 0, 1) := by decide +kernel
theorem dX7_init_5 : decode cX7_init 5 = .ok (.bipush 80, 2) := by decide +kernel
theorem dX7_init_7 : decode cX7_init 7 = .ok (.newarray .boolean, 2) := by decide +kernel
theorem dX7_init_9 : decode cX7_init 9 = .ok (.putfield 9, 3) := by decide +kernel
theorem dX7_init_12 : decode cX7_init 12 = .ok (.aload_n 0, 1) := by decide +kernel
theorem dX7_init_13 : decode cX7_init 13 = .ok (.bipush 80, 2) := by decide +kernel
theorem dX7_init_15 : decode cX7_init 15 = .ok (.newarray .int, 2) := by decide +kernel
theorem dX7_init_17 : decode cX7_init 17 = .ok (.putfield 15, 3) := by decide +kernel
theorem dX7_init_20 : decode cX7_init 20 = .ok (.aload_n 0, 1) := by decide +kernel
theorem dX7_init_21 : decode cX7_init 21 = .ok (.bipush 80, 2) := by decide +kernel
theorem dX7_init_23 : decode cX7_init 23 = .ok (.newarray .int, 2) := by decide +kernel
theorem dX7_init_25 : decode cX7_init 25 = .ok (.putfield 19, 3) := by decide +kernel
theorem dX7_init_28 : decode cX7_init 28 = .ok (.aload_n 0, 1) := by decide +kernel
theorem dX7_init_29 : decode cX7_init 29 = .ok (.bipush 80, 2) := by decide +kernel
theorem dX7_init_31 : decode cX7_init 31 = .ok (.newarray .int, 2) := by decide +kernel
theorem dX7_init_33 : decode cX7_init 33 = .ok (.putfield 22, 3) := by decide +kernel
theorem dX7_init_36 : decode cX7_init 36 = .ok (.aload_n 0, 1) := by decide +kernel
theorem dX7_init_37 : decode cX7_init 37 = .ok (.bipush 80, 2) := by decide +kernel
theorem dX7_init_39 : decode cX7_init 39 = .ok (.newarray .int, 2) := by decide +kernel
theorem dX7_init_41 : decode cX7_init 41 = .ok (.putfield 25, 3) := by decide +kernel
theorem dX7_init_44 : decode cX7_init 44 = .ok (.aload_n 0, 1) := by decide +kernel
theorem dX7_init_45 : decode cX7_init 45 = .ok (.bipush 80, 2) := by decide +kernel
theorem dX7_init_47 : decode cX7_init 47 = .ok (.newarray .int, 2) := by decide +kernel
theorem dX7_init_49 : decode cX7_init 49 = .ok (.putfield 28, 3) := by decide +kernel
theorem dX7_init_52 : decode cX7_init 52 = .ok (.aload_n 0, 1) := by decide +kernel
theorem dX7_init_53 : decode cX7_init 53 = .ok (.bipush 80, 2) := by decide +kernel
theorem dX7_init_55 : decode cX7_init 55 = .ok (.newarray .int, 2) := by decide +kernel
theorem dX7_init_57 : decode cX7_init 57 = .ok (.putfield 31, 3) := by decide +kernel
theorem dX7_init_60 : decode cX7_init 60 = .ok (.aload_n 0, 1) := by decide +kernel
theorem dX7_init_61 : decode cX7_init 61 = .ok (.bipush 80, 2) := by decide +kernel
theorem dX7_init_63 : decode cX7_init 63 = .ok (.newarray .int, 2) := by decide +kernel
theorem dX7_init_65 : decode cX7_init 65 = .ok (.putfield 34, 3) := by decide +kernel
theorem dX7_init_68 : decode cX7_init 68 = .ok (.aload_n 0, 1) := by decide +kernel
theorem dX7_init_69 : decode cX7_init 69 = .ok (.bipush 80, 2) := by decide +kernel
theorem dX7_init_71 : decode cX7_init 71 = .ok (.newarray .boolean, 2) := by decide +kernel
theorem dX7_init_73 : decode cX7_init 73 = .ok (.putfield 37, 3) := by decide +kernel
theorem dX7_init_76 : decode cX7_init 76 = .ok (.aload_n 0, 1) := by decide +kernel
theorem dX7_init_77 : decode cX7_init 77 = .ok (.aload_n 1, 1) := by decide +kernel
theorem dX7_init_78 : decode cX7_init 78 = .ok (.putfield 40, 3) := by decide +kernel
theorem dX7_init_81 : decode cX7_init 81 = .ok (.aload_n 0, 1) := by decide +kernel
theorem dX7_init_82 : decode cX7_init 82 = .ok (.getfield 9, 3) := by decide +kernel
theorem dX7_init_85 : decode cX7_init 85 = .ok (.iconst 0, 1) := by decide +kernel
theorem dX7_init_86 : decode cX7_init 86 = .ok (.iconst 1, 1) := by decide +kernel
theorem dX7_init_87 : decode cX7_init 87 = .ok (.bastore, 1) := by decide +kernel
theorem dX7_init_88 : decode cX7_init 88 = .ok (.aload_n 0, 1) := by decide +kernel
theorem dX7_init_89 : decode cX7_init 89 = .ok (.getfield 28, 3) := by decide +kernel
theorem dX7_init_92 : decode cX7_init 92 = .ok (.iconst 0, 1) := by decide +kernel
theorem dX7_init_93 : decode cX7_init 93 = .ok (.sipush 255, 3) := by decide +kernel
theorem dX7_init_96 : decode cX7_init 96 = .ok (.iastore, 1) := by decide +kernel
theorem dX7_init_97 : decode cX7_init 97 = .ok (.return_, 1) := by decide +kernel
theorem dX7_copyFrom_0 : decode cX7_copyFrom 0 = .ok (.iconst 0, 1) := by decide +kernel
theorem dX7_copyFrom_1 : decode cX7_copyFrom 1 = .ok (.istore_n 2, 1) := by decide +kernel
theorem dX7_copyFrom_2 : decode cX7_copyFrom 2 = .ok (.iload_n 2, 1) := by decide +kernel
theorem dX7_copyFrom_3 : decode cX7_copyFrom 3 = .ok (.bipush 80, 2) := by decide +kernel
theorem dX7_copyFrom_5 : decode cX7_copyFrom 5 = .ok (.if_icmp .ge 93, 3) := by decide +kernel
theorem dX7_copyFrom_8 : decode cX7_copyFrom 8 = .ok (.aload_n 0, 1) := by decide +kernel
theorem dX7_copyFrom_9 : decode cX7_copyFrom 9 = .ok (.getfield 9, 3) := by decide +kernel
theorem dX7_copyFrom_12 : decode cX7_copyFrom 12 = .ok (.iload_n 2, 1) := by decide +kernel
theorem dX7_copyFrom_13 : decode cX7_copyFrom 13 = .ok (.aload_n 1, 1) := by decide +kernel
theorem dX7_copyFrom_14 : decode cX7_copyFrom 14 = .ok (.getfield 9, 3) := by decide +kernel
theorem dX7_copyFrom_17 : decode cX7_copyFrom 17 = .ok (.iload_n 2, 1) := by decide +kernel
theorem dX7_copyFrom_18 : decode cX7_copyFrom 18 = .ok (.baload, 1) := by decide +kernel
theorem dX7_copyFrom_19 : decode cX7_copyFrom 19 = .ok (.bastore, 1) := by decide +kernel
theorem dX7_copyFrom_20 : decode cX7_copyFrom 20 = .ok (.aload_n 0, 1) := by decide +kernel
theorem dX7_copyFrom_21 : decode cX7_copyFrom 21 = .ok (.getfield 15, 3) := by decide +kernel
theorem dX7_copyFrom_24 : decode cX7_copyFrom 24 = .ok (.iload_n 2, 1) := by decide +kernel
theorem dX7_copyFrom_25 : decode cX7_copyFrom 25 = .ok (.aload_n 1, 1) := by decide +kernel
theorem dX7_copyFrom_26 : decode cX7_copyFrom 26 = .ok (.getfield 15, 3) := by decide +kernel
theorem dX7_copyFrom_29 : decode cX7_copyFrom 29 = .ok (.iload_n 2, 1) := by decide +kernel
theorem dX7_copyFrom_30 : decode cX7_copyFrom 30 = .ok (.iaload, 1) := by decide +kernel
theorem dX7_copyFrom_31 : decode cX7_copyFrom 31 = .ok (.iastore, 1) := by decide +kernel
theorem dX7_copyFrom_32 : decode cX7_copyFrom 32 = .ok (.aload_n 0, 1) := by decide +kernel
theorem dX7_copyFrom_33 : decode cX7_copyFrom 33 = .ok (.getfield 19, 3) := by decide +kernel
theorem dX7_copyFrom_36 : decode cX7_copyFrom 36 = .ok (.iload_n 2, 1) := by decide +kernel
theorem dX7_copyFrom_37 : decode cX7_copyFrom 37 = .ok (.aload_n 1, 1) := by decide +kernel
theorem dX7_copyFrom_38 : decode cX7_copyFrom 38 = .ok (.getfield 19, 3) := by decide +kernel
theorem dX7_copyFrom_41 : decode cX7_copyFrom 41 = .ok (.iload_n 2, 1) := by decide +kernel
theorem dX7_copyFrom_42 : decode cX7_copyFrom 42 = .ok (.iaload, 1) := by decide +kernel
theorem dX7_copyFrom_43 : decode cX7_copyFrom 43 = .ok (.iastore, 1) := by decide +kernel
theorem dX7_copyFrom_44 : decode cX7_copyFrom 44 = .ok (.aload_n 0, 1) := by decide +kernel
theorem dX7_copyFrom_45 : decode cX7_copyFrom 45 = .ok (.getfield 22, 3) := by decide +kernel
theorem dX7_copyFrom_48 : decode cX7_copyFrom 48 = .ok (.iload_n 2, 1) := by decide +kernel
theorem dX7_copyFrom_49 : decode cX7_copyFrom 49 = .ok (.aload_n 1, 1) := by decide +kernel
theorem dX7_copyFrom_50 : decode cX7_copyFrom 50 = .ok (.getfield 22, 3) := by decide +kernel
theorem dX7_copyFrom_53 : decode cX7_copyFrom 53 = .ok (.iload_n 2, 1) := by decide +kernel
theorem dX7_copyFrom_54 : decode cX7_copyFrom 54 = .ok (.iaload, 1) := by decide +kernel
theorem dX7_copyFrom_55 : decode cX7_copyFrom 55 = .ok (.iastore, 1) := by decide +kernel
theorem dX7_copyFrom_56 : decode cX7_copyFrom 56 = .ok (.aload_n 0, 1) := by decide +kernel
theorem dX7_copyFrom_57 : decode cX7_copyFrom 57 = .ok (.getfield 25, 3) := by decide +kernel
theorem dX7_copyFrom_60 : decode cX7_copyFrom 60 = .ok (.iload_n 2, 1) := by decide +kernel
theorem dX7_copyFrom_61 : decode cX7_copyFrom 61 = .ok (.aload_n 1, 1) := by decide +kernel
theorem dX7_copyFrom_62 : decode cX7_copyFrom 62 = .ok (.getfield 25, 3) := by decide +kernel
theorem dX7_copyFrom_65 : decode cX7_copyFrom 65 = .ok (.iload_n 2, 1) := by decide +kernel
theorem dX7_copyFrom_66 : decode cX7_copyFrom 66 = .ok (.iaload, 1) := by decide +kernel
theorem dX7_copyFrom_67 : decode cX7_copyFrom 67 = .ok (.iastore, 1) := by decide +kernel
theorem dX7_copyFrom_68 : decode cX7_copyFrom 68 = .ok (.aload_n 0, 1) := by decide +kernel
theorem dX7_copyFrom_69 : decode cX7_copyFrom 69 = .ok (.getfield 28, 3) := by decide +kernel
theorem dX7_copyFrom_72 : decode cX7_copyFrom 72 = .ok (.iload_n 2, 1) := by decide +kernel
theorem dX7_copyFrom_73 : decode cX7_copyFrom 73 = .ok (.aload_n 1, 1) := by decide +kernel
theorem dX7_copyFrom_74 : decode cX7_copyFrom 74 = .ok (.getfield 28, 3) := by decide +kernel
theorem dX7_copyFrom_77 : decode cX7_copyFrom 77 = .ok (.iload_n 2, 1) := by decide +kernel
theorem dX7_copyFrom_78 : decode cX7_copyFrom 78 = .ok (.iaload, 1) := by decide +kernel
theorem dX7_copyFrom_79 : decode cX7_copyFrom 79 = .ok (.iastore, 1) := by decide +kernel
theorem dX7_copyFrom_80 : decode cX7_copyFrom 80 = .ok (.aload_n 0, 1) := by decide +kernel
theorem dX7_copyFrom_81 : decode cX7_copyFrom 81 = .ok (.getfield 31, 3) := by decide +kernel
theorem dX7_copyFrom_84 : decode cX7_copyFrom 84 = .ok (.iload_n 2, 1) := by decide +kernel
theorem dX7_copyFrom_85 : decode cX7_copyFrom 85 = .ok (.aload_n 1, 1) := by decide +kernel
theorem dX7_copyFrom_86 : decode cX7_copyFrom 86 = .ok (.getfield 31, 3) := by decide +kernel
theorem dX7_copyFrom_89 : decode cX7_copyFrom 89 = .ok (.iload_n 2, 1) := by decide +kernel
theorem dX7_copyFrom_90 : decode cX7_copyFrom 90 = .ok (.iaload, 1) := by decide +kernel
theorem dX7_copyFrom_91 : decode cX7_copyFrom 91 = .ok (.iastore, 1) := by decide +kernel
theorem dX7_copyFrom_92 : decode cX7_copyFrom 92 = .ok (.iinc 2 1, 3) := by decide +kernel
theorem dX7_copyFrom_95 : decode cX7_copyFrom 95 = .ok (.goto (-93), 3) := by decide +kernel
theorem dX7_copyFrom_98 : decode cX7_copyFrom 98 = .ok (.return_, 1) := by decide +kernel
theorem dX7_dropHeld_0 : decode cX7_dropHeld 0 = .ok (.iconst 1, 1) := by decide +kernel
theorem dX7_dropHeld_1 : decode cX7_dropHeld 1 = .ok (.istore_n 1, 1) := by decide +kernel
theorem dX7_dropHeld_2 : decode cX7_dropHeld 2 = .ok (.iload_n 1, 1) := by decide +kernel
theorem dX7_dropHeld_3 : decode cX7_dropHeld 3 = .ok (.bipush 80, 2) := by decide +kernel
theorem dX7_dropHeld_5 : decode cX7_dropHeld 5 = .ok (.if_icmp .ge 27, 3) := by decide +kernel
theorem dX7_dropHeld_8 : decode cX7_dropHeld 8 = .ok (.aload_n 0, 1) := by decide +kernel
theorem dX7_dropHeld_9 : decode cX7_dropHeld 9 = .ok (.getfield 40, 3) := by decide +kernel
theorem dX7_dropHeld_12 : decode cX7_dropHeld 12 = .ok (.iload_n 1, 1) := by decide +kernel
theorem dX7_dropHeld_13 : decode cX7_dropHeld 13 = .ok (.invokevirtual 44, 3) := by decide +kernel
theorem dX7_dropHeld_16 : decode cX7_dropHeld 16 = .ok (.ifCond .eq 10, 3) := by decide +kernel
theorem dX7_dropHeld_19 : decode cX7_dropHeld 19 = .ok (.aload_n 0, 1) := by decide +kernel
theorem dX7_dropHeld_20 : decode cX7_dropHeld 20 = .ok (.getfield 9, 3) := by decide +kernel
theorem dX7_dropHeld_23 : decode cX7_dropHeld 23 = .ok (.iload_n 1, 1) := by decide +kernel
theorem dX7_dropHeld_24 : decode cX7_dropHeld 24 = .ok (.iconst 0, 1) := by decide +kernel
theorem dX7_dropHeld_25 : decode cX7_dropHeld 25 = .ok (.bastore, 1) := by decide +kernel
theorem dX7_dropHeld_26 : decode cX7_dropHeld 26 = .ok (.iinc 1 1, 3) := by decide +kernel
theorem dX7_dropHeld_29 : decode cX7_dropHeld 29 = .ok (.goto (-27), 3) := by decide +kernel
theorem dX7_dropHeld_32 : decode cX7_dropHeld 32 = .ok (.return_, 1) := by decide +kernel
theorem dX7_apply_0 : decode cX7_apply 0 = .ok (.iload_n 1, 1) := by decide +kernel
theorem dX7_apply_1 : decode cX7_apply 1 = .ok (.tableswitch 93 0 2 #[27, 45, 65], 27) := by decide +kernel
theorem dX7_apply_28 : decode cX7_apply 28 = .ok (.aload_n 0, 1) := by decide +kernel
theorem dX7_apply_29 : decode cX7_apply 29 = .ok (.iload_n 2, 1) := by decide +kernel
theorem dX7_apply_30 : decode cX7_apply 30 = .ok (.aload_n 0, 1) := by decide +kernel
theorem dX7_apply_31 : decode cX7_apply 31 = .ok (.getfield 40, 3) := by decide +kernel
theorem dX7_apply_34 : decode cX7_apply 34 = .ok (.getfield 50, 3) := by decide +kernel
theorem dX7_apply_37 : decode cX7_apply 37 = .ok (.iload_n 2, 1) := by decide +kernel
theorem dX7_apply_38 : decode cX7_apply 38 = .ok (.iaload, 1) := by decide +kernel
theorem dX7_apply_39 : decode cX7_apply 39 = .ok (.iload_n 3, 1) := by decide +kernel
theorem dX7_apply_40 : decode cX7_apply 40 = .ok (.invokevirtual 53, 3) := by decide +kernel
theorem dX7_apply_43 : decode cX7_apply 43 = .ok (.goto 67, 3) := by decide +kernel
theorem dX7_apply_46 : decode cX7_apply 46 = .ok (.aload_n 0, 1) := by decide +kernel
theorem dX7_apply_47 : decode cX7_apply 47 = .ok (.getfield 15, 3) := by decide +kernel
theorem dX7_apply_50 : decode cX7_apply 50 = .ok (.iload_n 2, 1) := by decide +kernel
theorem dX7_apply_51 : decode cX7_apply 51 = .ok (.iload_n 3, 1) := by decide +kernel
theorem dX7_apply_52 : decode cX7_apply 52 = .ok (.iastore, 1) := by decide +kernel
theorem dX7_apply_53 : decode cX7_apply 53 = .ok (.aload_n 0, 1) := by decide +kernel
theorem dX7_apply_54 : decode cX7_apply 54 = .ok (.getfield 19, 3) := by decide +kernel
theorem dX7_apply_57 : decode cX7_apply 57 = .ok (.iload_n 2, 1) := by decide +kernel
theorem dX7_apply_58 : decode cX7_apply 58 = .ok (.dup2, 1) := by decide +kernel
theorem dX7_apply_59 : decode cX7_apply 59 = .ok (.iaload, 1) := by decide +kernel
theorem dX7_apply_60 : decode cX7_apply 60 = .ok (.iconst 1, 1) := by decide +kernel
theorem dX7_apply_61 : decode cX7_apply 61 = .ok (.iadd, 1) := by decide +kernel
theorem dX7_apply_62 : decode cX7_apply 62 = .ok (.iastore, 1) := by decide +kernel
theorem dX7_apply_63 : decode cX7_apply 63 = .ok (.goto 47, 3) := by decide +kernel
theorem dX7_apply_66 : decode cX7_apply 66 = .ok (.aload_n 0, 1) := by decide +kernel
theorem dX7_apply_67 : decode cX7_apply 67 = .ok (.getfield 9, 3) := by decide +kernel
theorem dX7_apply_70 : decode cX7_apply 70 = .ok (.iload_n 2, 1) := by decide +kernel
theorem dX7_apply_71 : decode cX7_apply 71 = .ok (.iconst 0, 1) := by decide +kernel
theorem dX7_apply_72 : decode cX7_apply 72 = .ok (.bastore, 1) := by decide +kernel
theorem dX7_apply_73 : decode cX7_apply 73 = .ok (.aload_n 0, 1) := by decide +kernel
theorem dX7_apply_74 : decode cX7_apply 74 = .ok (.getfield 22, 3) := by decide +kernel
theorem dX7_apply_77 : decode cX7_apply 77 = .ok (.aload_n 0, 1) := by decide +kernel
theorem dX7_apply_78 : decode cX7_apply 78 = .ok (.getfield 40, 3) := by decide +kernel
theorem dX7_apply_81 : decode cX7_apply 81 = .ok (.getfield 50, 3) := by decide +kernel
theorem dX7_apply_84 : decode cX7_apply 84 = .ok (.iload_n 2, 1) := by decide +kernel
theorem dX7_apply_85 : decode cX7_apply 85 = .ok (.iaload, 1) := by decide +kernel
theorem dX7_apply_86 : decode cX7_apply 86 = .ok (.dup2, 1) := by decide +kernel
theorem dX7_apply_87 : decode cX7_apply 87 = .ok (.iaload, 1) := by decide +kernel
theorem dX7_apply_88 : decode cX7_apply 88 = .ok (.iconst 1, 1) := by decide +kernel
theorem dX7_apply_89 : decode cX7_apply 89 = .ok (.iadd, 1) := by decide +kernel
theorem dX7_apply_90 : decode cX7_apply 90 = .ok (.iastore, 1) := by decide +kernel
theorem dX7_apply_91 : decode cX7_apply 91 = .ok (.goto 19, 3) := by decide +kernel
theorem dX7_apply_94 : decode cX7_apply 94 = .ok (.aload_n 0, 1) := by decide +kernel
theorem dX7_apply_95 : decode cX7_apply 95 = .ok (.iload_n 2, 1) := by decide +kernel
theorem dX7_apply_96 : decode cX7_apply 96 = .ok (.iload_n 3, 1) := by decide +kernel
theorem dX7_apply_97 : decode cX7_apply 97 = .ok (.iload_n 1, 1) := by decide +kernel
theorem dX7_apply_98 : decode cX7_apply 98 = .ok (.iconst 4, 1) := by decide +kernel
theorem dX7_apply_99 : decode cX7_apply 99 = .ok (.if_icmp .ne 7, 3) := by decide +kernel
theorem dX7_apply_102 : decode cX7_apply 102 = .ok (.iconst 1, 1) := by decide +kernel
theorem dX7_apply_103 : decode cX7_apply 103 = .ok (.goto 4, 3) := by decide +kernel
theorem dX7_apply_106 : decode cX7_apply 106 = .ok (.iconst 0, 1) := by decide +kernel
theorem dX7_apply_107 : decode cX7_apply 107 = .ok (.invokevirtual 57, 3) := by decide +kernel
theorem dX7_apply_110 : decode cX7_apply 110 = .ok (.return_, 1) := by decide +kernel
theorem dX7_appear_0 : decode cX7_appear 0 = .ok (.aload_n 0, 1) := by decide +kernel
theorem dX7_appear_1 : decode cX7_appear 1 = .ok (.getfield 9, 3) := by decide +kernel
theorem dX7_appear_4 : decode cX7_appear 4 = .ok (.iload_n 1, 1) := by decide +kernel
theorem dX7_appear_5 : decode cX7_appear 5 = .ok (.iconst 1, 1) := by decide +kernel
theorem dX7_appear_6 : decode cX7_appear 6 = .ok (.bastore, 1) := by decide +kernel
theorem dX7_appear_7 : decode cX7_appear 7 = .ok (.aload_n 0, 1) := by decide +kernel
theorem dX7_appear_8 : decode cX7_appear 8 = .ok (.getfield 15, 3) := by decide +kernel
theorem dX7_appear_11 : decode cX7_appear 11 = .ok (.iload_n 1, 1) := by decide +kernel
theorem dX7_appear_12 : decode cX7_appear 12 = .ok (.iload_n 3, 1) := by decide +kernel
theorem dX7_appear_13 : decode cX7_appear 13 = .ok (.iastore, 1) := by decide +kernel
theorem dX7_appear_14 : decode cX7_appear 14 = .ok (.aload_n 0, 1) := by decide +kernel
theorem dX7_appear_15 : decode cX7_appear 15 = .ok (.getfield 28, 3) := by decide +kernel
theorem dX7_appear_18 : decode cX7_appear 18 = .ok (.iload_n 1, 1) := by decide +kernel
theorem dX7_appear_19 : decode cX7_appear 19 = .ok (.aload_n 0, 1) := by decide +kernel
theorem dX7_appear_20 : decode cX7_appear 20 = .ok (.getfield 28, 3) := by decide +kernel
theorem dX7_appear_23 : decode cX7_appear 23 = .ok (.iload_n 2, 1) := by decide +kernel
theorem dX7_appear_24 : decode cX7_appear 24 = .ok (.iaload, 1) := by decide +kernel
theorem dX7_appear_25 : decode cX7_appear 25 = .ok (.iastore, 1) := by decide +kernel
theorem dX7_appear_26 : decode cX7_appear 26 = .ok (.aload_n 0, 1) := by decide +kernel
theorem dX7_appear_27 : decode cX7_appear 27 = .ok (.getfield 22, 3) := by decide +kernel
theorem dX7_appear_30 : decode cX7_appear 30 = .ok (.iload_n 2, 1) := by decide +kernel
theorem dX7_appear_31 : decode cX7_appear 31 = .ok (.dup2, 1) := by decide +kernel
theorem dX7_appear_32 : decode cX7_appear 32 = .ok (.iaload, 1) := by decide +kernel
theorem dX7_appear_33 : decode cX7_appear 33 = .ok (.iconst 1, 1) := by decide +kernel
theorem dX7_appear_34 : decode cX7_appear 34 = .ok (.iadd, 1) := by decide +kernel
theorem dX7_appear_35 : decode cX7_appear 35 = .ok (.iastore, 1) := by decide +kernel
theorem dX7_appear_36 : decode cX7_appear 36 = .ok (.aload_n 0, 1) := by decide +kernel
theorem dX7_appear_37 : decode cX7_appear 37 = .ok (.getfield 40, 3) := by decide +kernel
theorem dX7_appear_40 : decode cX7_appear 40 = .ok (.getfield 61, 3) := by decide +kernel
theorem dX7_appear_43 : decode cX7_appear 43 = .ok (.iload_n 1, 1) := by decide +kernel
theorem dX7_appear_44 : decode cX7_appear 44 = .ok (.iaload, 1) := by decide +kernel
theorem dX7_appear_45 : decode cX7_appear 45 = .ok (.sipush 1000, 3) := by decide +kernel
theorem dX7_appear_48 : decode cX7_appear 48 = .ok (.if_icmp .lt 13, 3) := by decide +kernel
theorem dX7_appear_51 : decode cX7_appear 51 = .ok (.aload_n 0, 1) := by decide +kernel
theorem dX7_appear_52 : decode cX7_appear 52 = .ok (.getfield 31, 3) := by decide +kernel
theorem dX7_appear_55 : decode cX7_appear 55 = .ok (.iload_n 2, 1) := by decide +kernel
theorem dX7_appear_56 : decode cX7_appear 56 = .ok (.dup2, 1) := by decide +kernel
theorem dX7_appear_57 : decode cX7_appear 57 = .ok (.iaload, 1) := by decide +kernel
theorem dX7_appear_58 : decode cX7_appear 58 = .ok (.iconst 1, 1) := by decide +kernel
theorem dX7_appear_59 : decode cX7_appear 59 = .ok (.iadd, 1) := by decide +kernel
theorem dX7_appear_60 : decode cX7_appear 60 = .ok (.iastore, 1) := by decide +kernel
theorem dX7_appear_61 : decode cX7_appear 61 = .ok (.return_, 1) := by decide +kernel
theorem dX7_giveRights_0 : decode cX7_giveRights 0 = .ok (.iload_n 1, 1) := by decide +kernel
theorem dX7_giveRights_1 : decode cX7_giveRights 1 = .ok (.istore 4, 2) := by decide +kernel
theorem dX7_giveRights_3 : decode cX7_giveRights 3 = .ok (.iload 4, 2) := by decide +kernel
theorem dX7_giveRights_5 : decode cX7_giveRights 5 = .ok (.bipush 80, 2) := by decide +kernel
theorem dX7_giveRights_7 : decode cX7_giveRights 7 = .ok (.if_icmp .ge 98, 3) := by decide +kernel
theorem dX7_giveRights_10 : decode cX7_giveRights 10 = .ok (.aload_n 0, 1) := by decide +kernel
theorem dX7_giveRights_11 : decode cX7_giveRights 11 = .ok (.getfield 40, 3) := by decide +kernel
theorem dX7_giveRights_14 : decode cX7_giveRights 14 = .ok (.getfield 50, 3) := by decide +kernel
theorem dX7_giveRights_17 : decode cX7_giveRights 17 = .ok (.iload 4, 2) := by decide +kernel
theorem dX7_giveRights_19 : decode cX7_giveRights 19 = .ok (.iaload, 1) := by decide +kernel
theorem dX7_giveRights_20 : decode cX7_giveRights 20 = .ok (.istore 5, 2) := by decide +kernel
theorem dX7_giveRights_22 : decode cX7_giveRights 22 = .ok (.aload_n 0, 1) := by decide +kernel
theorem dX7_giveRights_23 : decode cX7_giveRights 23 = .ok (.getfield 37, 3) := by decide +kernel
theorem dX7_giveRights_26 : decode cX7_giveRights 26 = .ok (.iload 4, 2) := by decide +kernel
theorem dX7_giveRights_28 : decode cX7_giveRights 28 = .ok (.iload 4, 2) := by decide +kernel
theorem dX7_giveRights_30 : decode cX7_giveRights 30 = .ok (.iload_n 1, 1) := by decide +kernel
theorem dX7_giveRights_31 : decode cX7_giveRights 31 = .ok (.if_icmp .eq 33, 3) := by decide +kernel
theorem dX7_giveRights_34 : decode cX7_giveRights 34 = .ok (.iload_n 3, 1) := by decide +kernel
theorem dX7_giveRights_35 : decode cX7_giveRights 35 = .ok (.ifCond .eq 33, 3) := by decide +kernel
theorem dX7_giveRights_38 : decode cX7_giveRights 38 = .ok (.aload_n 0, 1) := by decide +kernel
theorem dX7_giveRights_39 : decode cX7_giveRights 39 = .ok (.getfield 9, 3) := by decide +kernel
theorem dX7_giveRights_42 : decode cX7_giveRights 42 = .ok (.iload 4, 2) := by decide +kernel
theorem dX7_giveRights_44 : decode cX7_giveRights 44 = .ok (.baload, 1) := by decide +kernel
theorem dX7_giveRights_45 : decode cX7_giveRights 45 = .ok (.ifCond .eq 23, 3) := by decide +kernel
theorem dX7_giveRights_48 : decode cX7_giveRights 48 = .ok (.iload 5, 2) := by decide +kernel
theorem dX7_giveRights_50 : decode cX7_giveRights 50 = .ok (.iload_n 1, 1) := by decide +kernel
theorem dX7_giveRights_51 : decode cX7_giveRights 51 = .ok (.if_icmp .lt 17, 3) := by decide +kernel
theorem dX7_giveRights_54 : decode cX7_giveRights 54 = .ok (.aload_n 0, 1) := by decide +kernel
theorem dX7_giveRights_55 : decode cX7_giveRights 55 = .ok (.getfield 37, 3) := by decide +kernel
theorem dX7_giveRights_58 : decode cX7_giveRights 58 = .ok (.iload 5, 2) := by decide +kernel
theorem dX7_giveRights_60 : decode cX7_giveRights 60 = .ok (.baload, 1) := by decide +kernel
theorem dX7_giveRights_61 : decode cX7_giveRights 61 = .ok (.ifCond .eq 7, 3) := by decide +kernel
theorem dX7_giveRights_64 : decode cX7_giveRights 64 = .ok (.iconst 1, 1) := by decide +kernel
theorem dX7_giveRights_65 : decode cX7_giveRights 65 = .ok (.goto 4, 3) := by decide +kernel
theorem dX7_giveRights_68 : decode cX7_giveRights 68 = .ok (.iconst 0, 1) := by decide +kernel
theorem dX7_giveRights_69 : decode cX7_giveRights 69 = .ok (.bastore, 1) := by decide +kernel
theorem dX7_giveRights_70 : decode cX7_giveRights 70 = .ok (.aload_n 0, 1) := by decide +kernel
theorem dX7_giveRights_71 : decode cX7_giveRights 71 = .ok (.getfield 37, 3) := by decide +kernel
theorem dX7_giveRights_74 : decode cX7_giveRights 74 = .ok (.iload 4, 2) := by decide +kernel
theorem dX7_giveRights_76 : decode cX7_giveRights 76 = .ok (.baload, 1) := by decide +kernel
theorem dX7_giveRights_77 : decode cX7_giveRights 77 = .ok (.ifCond .eq 22, 3) := by decide +kernel
theorem dX7_giveRights_80 : decode cX7_giveRights 80 = .ok (.aload_n 0, 1) := by decide +kernel
theorem dX7_giveRights_81 : decode cX7_giveRights 81 = .ok (.getfield 28, 3) := by decide +kernel
theorem dX7_giveRights_84 : decode cX7_giveRights 84 = .ok (.iload 4, 2) := by decide +kernel
theorem dX7_giveRights_86 : decode cX7_giveRights 86 = .ok (.iload_n 2, 1) := by decide +kernel
theorem dX7_giveRights_87 : decode cX7_giveRights 87 = .ok (.iastore, 1) := by decide +kernel
theorem dX7_giveRights_88 : decode cX7_giveRights 88 = .ok (.aload_n 0, 1) := by decide +kernel
theorem dX7_giveRights_89 : decode cX7_giveRights 89 = .ok (.getfield 25, 3) := by decide +kernel
theorem dX7_giveRights_92 : decode cX7_giveRights 92 = .ok (.iload 4, 2) := by decide +kernel
theorem dX7_giveRights_94 : decode cX7_giveRights 94 = .ok (.dup2, 1) := by decide +kernel
theorem dX7_giveRights_95 : decode cX7_giveRights 95 = .ok (.iaload, 1) := by decide +kernel
theorem dX7_giveRights_96 : decode cX7_giveRights 96 = .ok (.iconst 1, 1) := by decide +kernel
theorem dX7_giveRights_97 : decode cX7_giveRights 97 = .ok (.iadd, 1) := by decide +kernel
theorem dX7_giveRights_98 : decode cX7_giveRights 98 = .ok (.iastore, 1) := by decide +kernel
theorem dX7_giveRights_99 : decode cX7_giveRights 99 = .ok (.iinc 4 1, 3) := by decide +kernel
theorem dX7_giveRights_102 : decode cX7_giveRights 102 = .ok (.goto (-99), 3) := by decide +kernel
theorem dX7_giveRights_105 : decode cX7_giveRights 105 = .ok (.return_, 1) := by decide +kernel
theorem dX7_holds_0 : decode cX7_holds 0 = .ok (.iload_n 1, 1) := by decide +kernel
theorem dX7_holds_1 : decode cX7_holds 1 = .ok (.ifCond .lt 22, 3) := by decide +kernel
theorem dX7_holds_4 : decode cX7_holds 4 = .ok (.iload_n 1, 1) := by decide +kernel
theorem dX7_holds_5 : decode cX7_holds 5 = .ok (.bipush 80, 2) := by decide +kernel
theorem dX7_holds_7 : decode cX7_holds 7 = .ok (.if_icmp .ge 16, 3) := by decide +kernel
theorem dX7_holds_10 : decode cX7_holds 10 = .ok (.aload_n 0, 1) := by decide +kernel
theorem dX7_holds_11 : decode cX7_holds 11 = .ok (.getfield 9, 3) := by decide +kernel
theorem dX7_holds_14 : decode cX7_holds 14 = .ok (.iload_n 1, 1) := by decide +kernel
theorem dX7_holds_15 : decode cX7_holds 15 = .ok (.baload, 1) := by decide +kernel
theorem dX7_holds_16 : decode cX7_holds 16 = .ok (.ifCond .eq 7, 3) := by decide +kernel
theorem dX7_holds_19 : decode cX7_holds 19 = .ok (.iconst 1, 1) := by decide +kernel
theorem dX7_holds_20 : decode cX7_holds 20 = .ok (.goto 4, 3) := by decide +kernel
theorem dX7_holds_23 : decode cX7_holds 23 = .ok (.iconst 0, 1) := by decide +kernel
theorem dX7_holds_24 : decode cX7_holds 24 = .ok (.ireturn, 1) := by decide +kernel
theorem dX7_mayWrite_0 : decode cX7_mayWrite 0 = .ok (.aload_n 0, 1) := by decide +kernel
theorem dX7_mayWrite_1 : decode cX7_mayWrite 1 = .ok (.getfield 28, 3) := by decide +kernel
theorem dX7_mayWrite_4 : decode cX7_mayWrite 4 = .ok (.iload_n 1, 1) := by decide +kernel
theorem dX7_mayWrite_5 : decode cX7_mayWrite 5 = .ok (.iaload, 1) := by decide +kernel
theorem dX7_mayWrite_6 : decode cX7_mayWrite 6 = .ok (.iconst 4, 1) := by decide +kernel
theorem dX7_mayWrite_7 : decode cX7_mayWrite 7 = .ok (.iload_n 2, 1) := by decide +kernel
theorem dX7_mayWrite_8 : decode cX7_mayWrite 8 = .ok (.iadd, 1) := by decide +kernel
theorem dX7_mayWrite_9 : decode cX7_mayWrite 9 = .ok (.ishr, 1) := by decide +kernel
theorem dX7_mayWrite_10 : decode cX7_mayWrite 10 = .ok (.iconst 1, 1) := by decide +kernel
theorem dX7_mayWrite_11 : decode cX7_mayWrite 11 = .ok (.iand, 1) := by decide +kernel
theorem dX7_mayWrite_12 : decode cX7_mayWrite 12 = .ok (.iconst 1, 1) := by decide +kernel
theorem dX7_mayWrite_13 : decode cX7_mayWrite 13 = .ok (.if_icmp .ne 7, 3) := by decide +kernel
theorem dX7_mayWrite_16 : decode cX7_mayWrite 16 = .ok (.iconst 1, 1) := by decide +kernel
theorem dX7_mayWrite_17 : decode cX7_mayWrite 17 = .ok (.goto 4, 3) := by decide +kernel
theorem dX7_mayWrite_20 : decode cX7_mayWrite 20 = .ok (.iconst 0, 1) := by decide +kernel
theorem dX7_mayWrite_21 : decode cX7_mayWrite 21 = .ok (.ireturn, 1) := by decide +kernel
theorem dX7_hasVersion_0 : decode cX7_hasVersion 0 = .ok (.iload_n 2, 1) := by decide +kernel
theorem dX7_hasVersion_1 : decode cX7_hasVersion 1 = .ok (.iconst (-1), 1) := by decide +kernel
theorem dX7_hasVersion_2 : decode cX7_hasVersion 2 = .ok (.if_icmp .eq 13, 3) := by decide +kernel
theorem dX7_hasVersion_5 : decode cX7_hasVersion 5 = .ok (.iload_n 2, 1) := by decide +kernel
