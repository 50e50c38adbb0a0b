theorem dX8_check_19 : decode cX8_check 19 = .ok (.iconst 0, 1) := by decide +kernel
theorem dX8_check_20 : decode cX8_check 20 = .ok (.iload_n 3, 1) := by decide +kernel
theorem dX8_check_21 : decode cX8_check 21 = .ok (.invokevirtual 230, 3) := by decide +kernel
theorem dX8_check_24 : decode cX8_check 24 = .ok (.aload_n 0, 1) := by decide +kernel
theorem dX8_check_25 : decode cX8_check 25 = .ok (.aload 4, 2) := by decide +kernel
theorem dX8_check_27 : decode cX8_check 27 = .ok (.aload 5, 2) := by decide +kernel
theorem dX8_check_29 : decode cX8_check 29 = .ok (.invokevirtual 226, 3) := by decide +kernel
theorem dX8_check_32 : decode cX8_check 32 = .ok (.ireturn, 1) := by decide +kernel
theorem dX8_gather_0 : decode cX8_gather 0 = .ok (.aload_n 0, 1) := by decide +kernel
theorem dX8_gather_1 : decode cX8_gather 1 = .ok (.iload_n 1, 1) := by decide +kernel
theorem dX8_gather_2 : decode cX8_gather 2 = .ok (.invokevirtual 144, 3) := by decide +kernel
theorem dX8_gather_5 : decode cX8_gather 5 = .ok (.astore_n 2, 1) := by decide +kernel
theorem dX8_gather_6 : decode cX8_gather 6 = .ok (.aload_n 0, 1) := by decide +kernel
theorem dX8_gather_7 : decode cX8_gather 7 = .ok (.aload_n 2, 1) := by decide +kernel
theorem dX8_gather_8 : decode cX8_gather 8 = .ok (.invokevirtual 148, 3) := by decide +kernel
theorem dX8_gather_11 : decode cX8_gather 11 = .ok (.aload_n 2, 1) := by decide +kernel
theorem dX8_gather_12 : decode cX8_gather 12 = .ok (.invokestatic 235, 3) := by decide +kernel
theorem dX8_gather_15 : decode cX8_gather 15 = .ok (.aload_n 2, 1) := by decide +kernel
theorem dX8_gather_16 : decode cX8_gather 16 = .ok (.aload_n 0, 1) := by decide +kernel
theorem dX8_gather_17 : decode cX8_gather 17 = .ok (.getfield 79, 3) := by decide +kernel
theorem dX8_gather_20 : decode cX8_gather 20 = .ok (.putfield 238, 3) := by decide +kernel
theorem dX8_gather_23 : decode cX8_gather 23 = .ok (.aload_n 2, 1) := by decide +kernel
theorem dX8_gather_24 : decode cX8_gather 24 = .ok (.iconst 1, 1) := by decide +kernel
theorem dX8_gather_25 : decode cX8_gather 25 = .ok (.putfield 241, 3) := by decide +kernel
theorem dX8_gather_28 : decode cX8_gather 28 = .ok (.aload_n 2, 1) := by decide +kernel
theorem dX8_gather_29 : decode cX8_gather 29 = .ok (.iconst 0, 1) := by decide +kernel
theorem dX8_gather_30 : decode cX8_gather 30 = .ok (.putfield 244, 3) := by decide +kernel
theorem dX8_gather_33 : decode cX8_gather 33 = .ok (.return_, 1) := by decide +kernel
theorem dX8_done_0 : decode cX8_done 0 = .ok (.aload_n 0, 1) := by decide +kernel
theorem dX8_done_1 : decode cX8_done 1 = .ok (.iload_n 1, 1) := by decide +kernel
theorem dX8_done_2 : decode cX8_done 2 = .ok (.invokevirtual 144, 3) := by decide +kernel
theorem dX8_done_5 : decode cX8_done 5 = .ok (.astore_n 2, 1) := by decide +kernel
theorem dX8_done_6 : decode cX8_done 6 = .ok (.aload_n 0, 1) := by decide +kernel
theorem dX8_done_7 : decode cX8_done 7 = .ok (.aload_n 2, 1) := by decide +kernel
theorem dX8_done_8 : decode cX8_done 8 = .ok (.invokevirtual 148, 3) := by decide +kernel
theorem dX8_done_11 : decode cX8_done 11 = .ok (.aload_n 2, 1) := by decide +kernel
theorem dX8_done_12 : decode cX8_done 12 = .ok (.getfield 241, 3) := by decide +kernel
theorem dX8_done_15 : decode cX8_done 15 = .ok (.ifCond .ne 13, 3) := by decide +kernel
theorem dX8_done_18 : decode cX8_done 18 = .ok (.new 130, 3) := by decide +kernel
theorem dX8_done_21 : decode cX8_done 21 = .ok (.dup, 1) := by decide +kernel
theorem dX8_done_22 : decode cX8_done 22 = .ok (.ldc 247, 2) := by decide +kernel
theorem dX8_done_24 : decode cX8_done 24 = .ok (.invokespecial 134, 3) := by decide +kernel
theorem dX8_done_27 : decode cX8_done 27 = .ok (.athrow, 1) := by decide +kernel
theorem dX8_done_28 : decode cX8_done 28 = .ok (.aload_n 2, 1) := by decide +kernel
theorem dX8_done_29 : decode cX8_done 29 = .ok (.aload_n 0, 1) := by decide +kernel
theorem dX8_done_30 : decode cX8_done 30 = .ok (.getfield 79, 3) := by decide +kernel
theorem dX8_done_33 : decode cX8_done 33 = .ok (.putfield 238, 3) := by decide +kernel
theorem dX8_done_36 : decode cX8_done 36 = .ok (.aload_n 2, 1) := by decide +kernel
theorem dX8_done_37 : decode cX8_done 37 = .ok (.iconst 0, 1) := by decide +kernel
theorem dX8_done_38 : decode cX8_done 38 = .ok (.putfield 241, 3) := by decide +kernel
theorem dX8_done_41 : decode cX8_done 41 = .ok (.aload_n 0, 1) := by decide +kernel
theorem dX8_done_42 : decode cX8_done 42 = .ok (.aload_n 2, 1) := by decide +kernel
theorem dX8_done_43 : decode cX8_done 43 = .ok (.invokevirtual 249, 3) := by decide +kernel
theorem dX8_done_46 : decode cX8_done 46 = .ok (.istore_n 3, 1) := by decide +kernel
theorem dX8_done_47 : decode cX8_done 47 = .ok (.iload_n 3, 1) := by decide +kernel
theorem dX8_done_48 : decode cX8_done 48 = .ok (.ifCond .lt 11, 3) := by decide +kernel
theorem dX8_done_51 : decode cX8_done 51 = .ok (.aload_n 0, 1) := by decide +kernel
theorem dX8_done_52 : decode cX8_done 52 = .ok (.invokevirtual 252, 3) := by decide +kernel
theorem dX8_done_55 : decode cX8_done 55 = .ok (.iconst (-1), 1) := by decide +kernel
theorem dX8_done_56 : decode cX8_done 56 = .ok (.iload_n 3, 1) := by decide +kernel
theorem dX8_done_57 : decode cX8_done 57 = .ok (.isub, 1) := by decide +kernel
theorem dX8_done_58 : decode cX8_done 58 = .ok (.ireturn, 1) := by decide +kernel
theorem dX8_done_59 : decode cX8_done 59 = .ok (.aload_n 2, 1) := by decide +kernel
theorem dX8_done_60 : decode cX8_done 60 = .ok (.getfield 255, 3) := by decide +kernel
theorem dX8_done_63 : decode cX8_done 63 = .ok (.ifCond .ne 21, 3) := by decide +kernel
theorem dX8_done_66 : decode cX8_done 66 = .ok (.aload_n 0, 1) := by decide +kernel
theorem dX8_done_67 : decode cX8_done 67 = .ok (.aload_n 2, 1) := by decide +kernel
theorem dX8_done_68 : decode cX8_done 68 = .ok (.getfield 162, 3) := by decide +kernel
theorem dX8_done_71 : decode cX8_done 71 = .ok (.aload_n 0, 1) := by decide +kernel
theorem dX8_done_72 : decode cX8_done 72 = .ok (.getfield 82, 3) := by decide +kernel
theorem dX8_done_75 : decode cX8_done 75 = .ok (.invokevirtual 169, 3) := by decide +kernel
theorem dX8_done_78 : decode cX8_done 78 = .ok (.pop, 1) := by decide +kernel
theorem dX8_done_79 : decode cX8_done 79 = .ok (.aload_n 0, 1) := by decide +kernel
theorem dX8_done_80 : decode cX8_done 80 = .ok (.getfield 82, 3) := by decide +kernel
theorem dX8_done_83 : decode cX8_done 83 = .ok (.ireturn, 1) := by decide +kernel
theorem dX8_done_84 : decode cX8_done 84 = .ok (.aload_n 0, 1) := by decide +kernel
theorem dX8_done_85 : decode cX8_done 85 = .ok (.aload_n 2, 1) := by decide +kernel
theorem dX8_done_86 : decode cX8_done 86 = .ok (.invokevirtual 258, 3) := by decide +kernel
theorem dX8_done_89 : decode cX8_done 89 = .ok (.ifCond .eq 10, 3) := by decide +kernel
theorem dX8_done_92 : decode cX8_done 92 = .ok (.aload_n 0, 1) := by decide +kernel
theorem dX8_done_93 : decode cX8_done 93 = .ok (.getfield 82, 3) := by decide +kernel
theorem dX8_done_96 : decode cX8_done 96 = .ok (.goto 5, 3) := by decide +kernel
theorem dX8_done_99 : decode cX8_done 99 = .ok (.bipush (-100), 2) := by decide +kernel
theorem dX8_done_101 : decode cX8_done 101 = .ok (.ireturn, 1) := by decide +kernel
theorem dX8_answer_0 : decode cX8_answer 0 = .ok (.aload_n 0, 1) := by decide +kernel
theorem dX8_answer_1 : decode cX8_answer 1 = .ok (.iload_n 1, 1) := by decide +kernel
theorem dX8_answer_2 : decode cX8_answer 2 = .ok (.invokevirtual 144, 3) := by decide +kernel
theorem dX8_answer_5 : decode cX8_answer 5 = .ok (.astore_n 3, 1) := by decide +kernel
theorem dX8_answer_6 : decode cX8_answer 6 = .ok (.iload_n 2, 1) := by decide +kernel
theorem dX8_answer_7 : decode cX8_answer 7 = .ok (.ifCond .ge 14, 3) := by decide +kernel
theorem dX8_answer_10 : decode cX8_answer 10 = .ok (.new 110, 3) := by decide +kernel
theorem dX8_answer_13 : decode cX8_answer 13 = .ok (.dup, 1) := by decide +kernel
theorem dX8_answer_14 : decode cX8_answer 14 = .ok (.ldc_w 262, 3) := by decide +kernel
theorem dX8_answer_17 : decode cX8_answer 17 = .ok (.invokespecial 114, 3) := by decide +kernel
theorem dX8_answer_20 : decode cX8_answer 20 = .ok (.athrow, 1) := by decide +kernel
theorem dX8_answer_21 : decode cX8_answer 21 = .ok (.iload_n 2, 1) := by decide +kernel
theorem dX8_answer_22 : decode cX8_answer 22 = .ok (.aload_n 3, 1) := by decide +kernel
theorem dX8_answer_23 : decode cX8_answer 23 = .ok (.getfield 255, 3) := by decide +kernel
theorem dX8_answer_26 : decode cX8_answer 26 = .ok (.if_icmp .ge 18, 3) := by decide +kernel
theorem dX8_answer_29 : decode cX8_answer 29 = .ok (.iload_n 2, 1) := by decide +kernel
theorem dX8_answer_30 : decode cX8_answer 30 = .ok (.bipush 6, 2) := by decide +kernel
theorem dX8_answer_32 : decode cX8_answer 32 = .ok (.if_icmp .ge 12, 3) := by decide +kernel
theorem dX8_answer_35 : decode cX8_answer 35 = .ok (.aload_n 3, 1) := by decide +kernel
theorem dX8_answer_36 : decode cX8_answer 36 = .ok (.getfield 264, 3) := by decide +kernel
theorem dX8_answer_39 : decode cX8_answer 39 = .ok (.iload_n 2, 1) := by decide +kernel
theorem dX8_answer_40 : decode cX8_answer 40 = .ok (.iaload, 1) := by decide +kernel
theorem dX8_answer_41 : decode cX8_answer 41 = .ok (.goto 5, 3) := by decide +kernel
theorem dX8_answer_44 : decode cX8_answer 44 = .ok (.bipush (-100), 2) := by decide +kernel
theorem dX8_answer_46 : decode cX8_answer 46 = .ok (.ireturn, 1) := by decide +kernel
theorem dX8_lose_0 : decode cX8_lose 0 = .ok (.aload_n 0, 1) := by decide +kernel
theorem dX8_lose_1 : decode cX8_lose 1 = .ok (.iload_n 1, 1) := by decide +kernel
theorem dX8_lose_2 : decode cX8_lose 2 = .ok (.ifCond .eq 7, 3) := by decide +kernel
theorem dX8_lose_5 : decode cX8_lose 5 = .ok (.iconst 1, 1) := by decide +kernel
theorem dX8_lose_6 : decode cX8_lose 6 = .ok (.goto 4, 3) := by decide +kernel
theorem dX8_lose_9 : decode cX8_lose 9 = .ok (.iconst 2, 1) := by decide +kernel
theorem dX8_lose_10 : decode cX8_lose 10 = .ok (.putfield 88, 3) := by decide +kernel
theorem dX8_lose_13 : decode cX8_lose 13 = .ok (.return_, 1) := by decide +kernel
theorem dX8_quota_0 : decode cX8_quota 0 = .ok (.iload_n 2, 1) := by decide +kernel
theorem dX8_quota_1 : decode cX8_quota 1 = .ok (.iconst 0, 1) := by decide +kernel
theorem dX8_quota_2 : decode cX8_quota 2 = .ok (.bipush 80, 2) := by decide +kernel
theorem dX8_quota_4 : decode cX8_quota 4 = .ok (.invokestatic 106, 3) := by decide +kernel
theorem dX8_quota_7 : decode cX8_quota 7 = .ok (.ifCond .ne 13, 3) := by decide +kernel
theorem dX8_quota_10 : decode cX8_quota 10 = .ok (.new 121, 3) := by decide +kernel
theorem dX8_quota_13 : decode cX8_quota 13 = .ok (.dup, 1) := by decide +kernel
theorem dX8_quota_14 : decode cX8_quota 14 = .ok (.ldc 173, 2) := by decide +kernel
theorem dX8_quota_16 : decode cX8_quota 16 = .ok (.invokespecial 125, 3) := by decide +kernel
theorem dX8_quota_19 : decode cX8_quota 19 = .ok (.athrow, 1) := by decide +kernel
theorem dX8_quota_20 : decode cX8_quota 20 = .ok (.aload_n 0, 1) := by decide +kernel
theorem dX8_quota_21 : decode cX8_quota 21 = .ok (.getfield 27, 3) := by decide +kernel
theorem dX8_quota_24 : decode cX8_quota 24 = .ok (.iload_n 1, 1) := by decide +kernel
theorem dX8_quota_25 : decode cX8_quota 25 = .ok (.invokevirtual 267, 3) := by decide +kernel
theorem dX8_quota_28 : decode cX8_quota 28 = .ok (.ifCond .ne 5, 3) := by decide +kernel
theorem dX8_quota_31 : decode cX8_quota 31 = .ok (.iconst (-1), 1) := by decide +kernel
theorem dX8_quota_32 : decode cX8_quota 32 = .ok (.ireturn, 1) := by decide +kernel
theorem dX8_quota_33 : decode cX8_quota 33 = .ok (.aload_n 0, 1) := by decide +kernel
theorem dX8_quota_34 : decode cX8_quota 34 = .ok (.getfield 64, 3) := by decide +kernel
theorem dX8_quota_37 : decode cX8_quota 37 = .ok (.iload_n 1, 1) := by decide +kernel
theorem dX8_quota_38 : decode cX8_quota 38 = .ok (.iload_n 2, 1) := by decide +kernel
theorem dX8_quota_39 : decode cX8_quota 39 = .ok (.iastore, 1) := by decide +kernel
theorem dX8_quota_40 : decode cX8_quota 40 = .ok (.aload_n 0, 1) := by decide +kernel
theorem dX8_quota_41 : decode cX8_quota 41 = .ok (.getfield 27, 3) := by decide +kernel
theorem dX8_quota_44 : decode cX8_quota 44 = .ok (.iload_n 1, 1) := by decide +kernel
theorem dX8_quota_45 : decode cX8_quota 45 = .ok (.invokevirtual 271, 3) := by decide +kernel
theorem dX8_quota_48 : decode cX8_quota 48 = .ok (.ireturn, 1) := by decide +kernel
theorem dX8_read_0 : decode cX8_read 0 = .ok (.aload_n 0, 1) := by decide +kernel
theorem dX8_read_1 : decode cX8_read 1 = .ok (.iload_n 1, 1) := by decide +kernel
theorem dX8_read_2 : decode cX8_read 2 = .ok (.invokevirtual 144, 3) := by decide +kernel
theorem dX8_read_5 : decode cX8_read 5 = .ok (.astore 4, 2) := by decide +kernel
theorem dX8_read_7 : decode cX8_read 7 = .ok (.iload_n 3, 1) := by decide +kernel
theorem dX8_read_8 : decode cX8_read 8 = .ok (.iconst 0, 1) := by decide +kernel
theorem dX8_read_9 : decode cX8_read 9 = .ok (.bipush 9, 2) := by decide +kernel
theorem dX8_read_11 : decode cX8_read 11 = .ok (.invokestatic 106, 3) := by decide +kernel
theorem dX8_read_14 : decode cX8_read 14 = .ok (.ifCond .ne 14, 3) := by decide +kernel
theorem dX8_read_17 : decode cX8_read 17 = .ok (.new 121, 3) := by decide +kernel
theorem dX8_read_20 : decode cX8_read 20 = .ok (.dup, 1) := by decide +kernel
theorem dX8_read_21 : decode cX8_read 21 = .ok (.ldc_w 275, 3) := by decide +kernel
theorem dX8_read_24 : decode cX8_read 24 = .ok (.invokespecial 125, 3) := by decide +kernel
theorem dX8_read_27 : decode cX8_read 27 = .ok (.athrow, 1) := by decide +kernel
theorem dX8_read_28 : decode cX8_read 28 = .ok (.aload_n 0, 1) := by decide +kernel
theorem dX8_read_29 : decode cX8_read 29 = .ok (.aload 4, 2) := by decide +kernel
theorem dX8_read_31 : decode cX8_read 31 = .ok (.invokevirtual 159, 3) := by decide +kernel
theorem dX8_read_34 : decode cX8_read 34 = .ok (.aload 4, 2) := by decide +kernel
theorem dX8_read_36 : decode cX8_read 36 = .ok (.getfield 162, 3) := by decide +kernel
theorem dX8_read_39 : decode cX8_read 39 = .ok (.getfield 277, 3) := by decide +kernel
theorem dX8_read_42 : decode cX8_read 42 = .ok (.astore 5, 2) := by decide +kernel
theorem dX8_read_44 : decode cX8_read 44 = .ok (.aload 5, 2) := by decide +kernel
theorem dX8_read_46 : decode cX8_read 46 = .ok (.iload_n 2, 1) := by decide +kernel
theorem dX8_read_47 : decode cX8_read 47 = .ok (.aload 4, 2) := by decide +kernel
theorem dX8_read_49 : decode cX8_read 49 = .ok (.getfield 280, 3) := by decide +kernel
theorem dX8_read_52 : decode cX8_read 52 = .ok (.invokevirtual 283, 3) := by decide +kernel
theorem dX8_read_55 : decode cX8_read 55 = .ok (.istore 6, 2) := by decide +kernel
theorem dX8_read_57 : decode cX8_read 57 = .ok (.iload 6, 2) := by decide +kernel
theorem dX8_read_59 : decode cX8_read 59 = .ok (.ifCond .ge 8, 3) := by decide +kernel
theorem dX8_read_62 : decode cX8_read 62 = .ok (.iload 6, 2) := by decide +kernel
theorem dX8_read_64 : decode cX8_read 64 = .ok (.goto 10, 3) := by decide +kernel
theorem dX8_read_67 : decode cX8_read 67 = .ok (.aload 5, 2) := by decide +kernel
theorem dX8_read_69 : decode cX8_read 69 = .ok (.iload_n 2, 1) := by decide +kernel
theorem dX8_read_70 : decode cX8_read 70 = .ok (.iload_n 3, 1) := by decide +kernel
theorem dX8_read_71 : decode cX8_read 71 = .ok (.invokevirtual 287, 3) := by decide +kernel
theorem dX8_read_74 : decode cX8_read 74 = .ok (.ireturn, 1) := by decide +kernel
theorem dX8_child_0 : decode cX8_child 0 = .ok (.aload_n 0, 1) := by decide +kernel
theorem dX8_child_1 : decode cX8_child 1 = .ok (.iload_n 1, 1) := by decide +kernel
theorem dX8_child_2 : decode cX8_child 2 = .ok (.invokevirtual 144, 3) := by decide +kernel
theorem dX8_child_5 : decode cX8_child 5 = .ok (.astore 4, 2) := by decide +kernel
theorem dX8_child_7 : decode cX8_child 7 = .ok (.iload_n 3, 1) := by decide +kernel
theorem dX8_child_8 : decode cX8_child 8 = .ok (.ifCond .ge 14, 3) := by decide +kernel
theorem dX8_child_11 : decode cX8_child 11 = .ok (.new 110, 3) := by decide +kernel
theorem dX8_child_14 : decode cX8_child 14 = .ok (.dup, 1) := by decide +kernel
theorem dX8_child_15 : decode cX8_child 15 = .ok (.ldc_w 262, 3) := by decide +kernel
theorem dX8_child_18 : decode cX8_child 18 = .ok (.invokespecial 114, 3) := by decide +kernel
theorem dX8_child_21 : decode cX8_child 21 = .ok (.athrow, 1) := by decide +kernel
theorem dX8_child_22 : decode cX8_child 22 = .ok (.aload_n 0, 1) := by decide +kernel
theorem dX8_child_23 : decode cX8_child 23 = .ok (.aload 4, 2) := by decide +kernel
theorem dX8_child_25 : decode cX8_child 25 = .ok (.invokevirtual 159, 3) := by decide +kernel
theorem dX8_child_28 : decode cX8_child 28 = .ok (.aload 4, 2) := by decide +kernel
theorem dX8_child_30 : decode cX8_child 30 = .ok (.getfield 162, 3) := by decide +kernel
theorem dX8_child_33 : decode cX8_child 33 = .ok (.getfield 277, 3) := by decide +kernel
theorem dX8_child_36 : decode cX8_child 36 = .ok (.astore 5, 2) := by decide +kernel
theorem dX8_child_38 : decode cX8_child 38 = .ok (.aload 5, 2) := by decide +kernel
theorem dX8_child_40 : decode cX8_child 40 = .ok (.iload_n 2, 1) := by decide +kernel
theorem dX8_child_41 : decode cX8_child 41 = .ok (.aload 4, 2) := by decide +kernel
theorem dX8_child_43 : decode cX8_child 43 = .ok (.getfield 280, 3) := by decide +kernel
theorem dX8_child_46 : decode cX8_child 46 = .ok (.invokevirtual 283, 3) := by decide +kernel
theorem dX8_child_49 : decode cX8_child 49 = .ok (.istore 6, 2) := by decide +kernel
theorem dX8_child_51 : decode cX8_child 51 = .ok (.iload 6, 2) := by decide +kernel
theorem dX8_child_53 : decode cX8_child 53 = .ok (.ifCond .ge 8, 3) := by decide +kernel
theorem dX8_child_56 : decode cX8_child 56 = .ok (.iload 6, 2) := by decide +kernel
theorem dX8_child_58 : decode cX8_child 58 = .ok (.goto 10, 3) := by decide +kernel
theorem dX8_child_61 : decode cX8_child 61 = .ok (.aload 5, 2) := by decide +kernel
theorem dX8_child_63 : decode cX8_child 63 = .ok (.iload_n 2, 1) := by decide +kernel
theorem dX8_child_64 : decode cX8_child 64 = .ok (.iload_n 3, 1) := by decide +kernel
theorem dX8_child_65 : decode cX8_child 65 = .ok (.invokevirtual 290, 3) := by decide +kernel
theorem dX8_child_68 : decode cX8_child 68 = .ok (.ireturn, 1) := by decide +kernel
theorem dX8_watch_0 : decode cX8_watch 0 = .ok (.aload_n 0, 1) := by decide +kernel
theorem dX8_watch_1 : decode cX8_watch 1 = .ok (.iload_n 1, 1) := by decide +kernel
theorem dX8_watch_2 : decode cX8_watch 2 = .ok (.invokevirtual 144, 3) := by decide +kernel
theorem dX8_watch_5 : decode cX8_watch 5 = .ok (.astore 4, 2) := by decide +kernel
theorem dX8_watch_7 : decode cX8_watch 7 = .ok (.iload_n 3, 1) := by decide +kernel
theorem dX8_watch_8 : decode cX8_watch 8 = .ok (.iconst 0, 1) := by decide +kernel
theorem dX8_watch_9 : decode cX8_watch 9 = .ok (.iconst 2, 1) := by decide +kernel
theorem dX8_watch_10 : decode cX8_watch 10 = .ok (.invokestatic 106, 3) := by decide +kernel
theorem dX8_watch_13 : decode cX8_watch 13 = .ok (.ifCond .ne 13, 3) := by decide +kernel
theorem dX8_watch_16 : decode cX8_watch 16 = .ok (.new 121, 3) := by decide +kernel
theorem dX8_watch_19 : decode cX8_watch 19 = .ok (.dup, 1) := by decide +kernel
theorem dX8_watch_20 : decode cX8_watch 20 = .ok (.ldc 213, 2) := by decide +kernel
theorem dX8_watch_22 : decode cX8_watch 22 = .ok (.invokespecial 125, 3) := by decide +kernel
theorem dX8_watch_25 : decode cX8_watch 25 = .ok (.athrow, 1) := by decide +kernel
theorem dX8_watch_26 : decode cX8_watch 26 = .ok (.aload_n 0, 1) := by decide +kernel
theorem dX8_watch_27 : decode cX8_watch 27 = .ok (.aload 4, 2) := by decide +kernel
theorem dX8_watch_29 : decode cX8_watch 29 = .ok (.invokevirtual 148, 3) := by decide +kernel
theorem dX8_watch_32 : decode cX8_watch 32 = .ok (.aload_n 0, 1) := by decide +kernel
theorem dX8_watch_33 : decode cX8_watch 33 = .ok (.aload 4, 2) := by decide +kernel
theorem dX8_watch_35 : decode cX8_watch 35 = .ok (.invokevirtual 293, 3) := by decide +kernel
theorem dX8_watch_38 : decode cX8_watch 38 = .ok (.aload 4, 2) := by decide +kernel
theorem dX8_watch_40 : decode cX8_watch 40 = .ok (.getfield 296, 3) := by decide +kernel
theorem dX8_watch_43 : decode cX8_watch 43 = .ok (.bipush 8, 2) := by decide +kernel
theorem dX8_watch_45 : decode cX8_watch 45 = .ok (.if_icmp .lt 14, 3) := by decide +kernel
theorem dX8_watch_48 : decode cX8_watch 48 = .ok (.new 130, 3) := by decide +kernel
theorem dX8_watch_51 : decode cX8_watch 51 = .ok (.dup, 1) := by decide +kernel
theorem dX8_watch_52 : decode cX8_watch 52 = .ok (.ldc_w 299, 3) := by decide +kernel
theorem dX8_watch_55 : decode cX8_watch 55 = .ok (.invokespecial 134, 3) := by decide +kernel
theorem dX8_watch_58 : decode cX8_watch 58 = .ok (.athrow, 1) := by decide +kernel
theorem dX8_watch_59 : decode cX8_watch 59 = .ok (.aload 4, 2) := by decide +kernel
theorem dX8_watch_61 : decode cX8_watch 61 = .ok (.aload_n 0, 1) := by decide +kernel
theorem dX8_watch_62 : decode cX8_watch 62 = .ok (.getfield 79, 3) := by decide +kernel
theorem dX8_watch_65 : decode cX8_watch 65 = .ok (.putfield 238, 3) := by decide +kernel
theorem dX8_watch_68 : decode cX8_watch 68 = .ok (.aload 4, 2) := by decide +kernel
theorem dX8_watch_70 : decode cX8_watch 70 = .ok (.getfield 162, 3) := by decide +kernel
theorem dX8_watch_73 : decode cX8_watch 73 = .ok (.getfield 277, 3) := by decide +kernel
theorem dX8_watch_76 : decode cX8_watch 76 = .ok (.iload_n 2, 1) := by decide +kernel
theorem dX8_watch_77 : decode cX8_watch 77 = .ok (.aload 4, 2) := by decide +kernel
theorem dX8_watch_79 : decode cX8_watch 79 = .ok (.getfield 280, 3) := by decide +kernel
theorem dX8_watch_82 : decode cX8_watch 82 = .ok (.invokevirtual 283, 3) := by decide +kernel
theorem dX8_watch_85 : decode cX8_watch 85 = .ok (.istore 5, 2) := by decide +kernel
theorem dX8_watch_87 : decode cX8_watch 87 = .ok (.iload 5, 2) := by decide +kernel
theorem dX8_watch_89 : decode cX8_watch 89 = .ok (.ifCond .ge 8, 3) := by decide +kernel
theorem dX8_watch_92 : decode cX8_watch 92 = .ok (.iload 5, 2) := by decide +kernel
theorem dX8_watch_94 : decode cX8_watch 94 = .ok (.goto 10, 3) := by decide +kernel
theorem dX8_watch_97 : decode cX8_watch 97 = .ok (.aload 4, 2) := by decide +kernel
theorem dX8_watch_99 : decode cX8_watch 99 = .ok (.iload_n 2, 1) := by decide +kernel
theorem dX8_watch_100 : decode cX8_watch 100 = .ok (.iload_n 3, 1) := by decide +kernel
theorem dX8_watch_101 : decode cX8_watch 101 = .ok (.invokevirtual 301, 3) := by decide +kernel
theorem dX8_watch_104 : decode cX8_watch 104 = .ok (.ireturn, 1) := by decide +kernel
theorem dX8_hear_0 : decode cX8_hear 0 = .ok (.aload_n 0, 1) := by decide +kernel
theorem dX8_hear_1 : decode cX8_hear 1 = .ok (.iload_n 1, 1) := by decide +kernel
theorem dX8_hear_2 : decode cX8_hear 2 = .ok (.invokevirtual 144, 3) := by decide +kernel
theorem dX8_hear_5 : decode cX8_hear 5 = .ok (.astore_n 2, 1) := by decide +kernel
theorem dX8_hear_6 : decode cX8_hear 6 = .ok (.aload_n 0, 1) := by decide +kernel
theorem dX8_hear_7 : decode cX8_hear 7 = .ok (.aload_n 2, 1) := by decide +kernel
theorem dX8_hear_8 : decode cX8_hear 8 = .ok (.invokevirtual 159, 3) := by decide +kernel
theorem dX8_hear_11 : decode cX8_hear 11 = .ok (.aload_n 0, 1) := by decide +kernel
theorem dX8_hear_12 : decode cX8_hear 12 = .ok (.aload_n 2, 1) := by decide +kernel
theorem dX8_hear_13 : decode cX8_hear 13 = .ok (.invokevirtual 293, 3) := by decide +kernel
theorem dX8_hear_16 : decode cX8_hear 16 = .ok (.aload_n 2, 1) := by decide +kernel
theorem dX8_hear_17 : decode cX8_hear 17 = .ok (.getfield 304, 3) := by decide +kernel
theorem dX8_hear_20 : decode cX8_hear 20 = .ok (.invokevirtual 308, 3) := by decide +kernel
theorem dX8_hear_23 : decode cX8_hear 23 = .ok (.ireturn, 1) := by decide +kernel
theorem dX8_want_0 : decode cX8_want 0 = .ok (.aload_n 0, 1) := by decide +kernel
theorem dX8_want_1 : decode cX8_want 1 = .ok (.iload_n 1, 1) := by decide +kernel
theorem dX8_want_2 : decode cX8_want 2 = .ok (.invokevirtual 144, 3) := by decide +kernel
theorem dX8_want_5 : decode cX8_want 5 = .ok (.astore 4, 2) := by decide +kernel
theorem dX8_want_7 : decode cX8_want 7 = .ok (.aload_n 0, 1) := by decide +kernel
theorem dX8_want_8 : decode cX8_want 8 = .ok (.aload 4, 2) := by decide +kernel
theorem dX8_want_10 : decode cX8_want 10 = .ok (.invokevirtual 148, 3) := by decide +kernel
theorem dX8_want_13 : decode cX8_want 13 = .ok (.aload 4, 2) := by decide +kernel
theorem dX8_want_15 : decode cX8_want 15 = .ok (.invokestatic 235, 3) := by decide +kernel
theorem dX8_want_18 : decode cX8_want 18 = .ok (.aload 4, 2) := by decide +kernel
theorem dX8_want_20 : decode cX8_want 20 = .ok (.aload_n 0, 1) := by decide +kernel
theorem dX8_want_21 : decode cX8_want 21 = .ok (.getfield 79, 3) := by decide +kernel
theorem dX8_want_24 : decode cX8_want 24 = .ok (.putfield 238, 3) := by decide +kernel
theorem dX8_want_27 : decode cX8_want 27 = .ok (.aload_n 0, 1) := by decide +kernel
theorem dX8_want_28 : decode cX8_want 28 = .ok (.getfield 60, 3) := by decide +kernel
theorem dX8_want_31 : decode cX8_want 31 = .ok (.iload_n 2, 1) := by decide +kernel
theorem dX8_want_32 : decode cX8_want 32 = .ok (.sipush 1000, 3) := by decide +kernel
theorem dX8_want_35 : decode cX8_want 35 = .ok (.iload_n 3, 1) := by decide +kernel
theorem dX8_want_36 : decode cX8_want 36 = .ok (.ifCond .eq 7, 3) := by decide +kernel
theorem dX8_want_39 : decode cX8_want 39 = .ok (.iconst 1, 1) := by decide +kernel
theorem dX8_want_40 : decode cX8_want 40 = .ok (.goto 4, 3) := by decide +kernel
theorem dX8_want_43 : decode cX8_want 43 = .ok (.iconst 0, 1) := by decide +kernel
theorem dX8_want_44 : decode cX8_want 44 = .ok (.iconst 1, 1) := by decide +kernel
theorem dX8_want_45 : decode cX8_want 45 = .ok (.invokevirtual 219, 3) := by decide +kernel
theorem dX8_want_48 : decode cX8_want 48 = .ok (.aload_n 0, 1) := by decide +kernel
theorem dX8_want_49 : decode cX8_want 49 = .ok (.getfield 60, 3) := by decide +kernel
theorem dX8_want_52 : decode cX8_want 52 = .ok (.iload_n 1, 1) := by decide +kernel
theorem dX8_want_53 : decode cX8_want 53 = .ok (.putfield 223, 3) := by decide +kernel
theorem dX8_want_56 : decode cX8_want 56 = .ok (.aload_n 0, 1) := by decide +kernel
theorem dX8_want_57 : decode cX8_want 57 = .ok (.aload 4, 2) := by decide +kernel
theorem dX8_want_59 : decode cX8_want 59 = .ok (.aload_n 0, 1) := by decide +kernel
theorem dX8_want_60 : decode cX8_want 60 = .ok (.getfield 60, 3) := by decide +kernel
theorem dX8_want_63 : decode cX8_want 63 = .ok (.invokevirtual 226, 3) := by decide +kernel
theorem dX8_want_66 : decode cX8_want 66 = .ok (.ireturn, 1) := by decide +kernel
theorem dX8_has_0 : decode cX8_has 0 = .ok (.aload_n 0, 1) := by decide +kernel
theorem dX8_has_1 : decode cX8_has 1 = .ok (.iload_n 1, 1) := by decide +kernel
theorem dX8_has_2 : decode cX8_has 2 = .ok (.invokevirtual 144, 3) := by decide +kernel
theorem dX8_has_5 : decode cX8_has 5 = .ok (.astore_n 3, 1) := by decide +kernel
theorem dX8_has_6 : decode cX8_has 6 = .ok (.aload_n 0, 1) := by decide +kernel
theorem dX8_has_7 : decode cX8_has 7 = .ok (.aload_n 3, 1) := by decide +kernel
theorem dX8_has_8 : decode cX8_has 8 = .ok (.invokevirtual 159, 3) := by decide +kernel
theorem dX8_has_11 : decode cX8_has 11 = .ok (.aload_n 3, 1) := by decide +kernel
theorem dX8_has_12 : decode cX8_has 12 = .ok (.getfield 162, 3) := by decide +kernel
theorem dX8_has_15 : decode cX8_has 15 = .ok (.getfield 277, 3) := by decide +kernel
theorem dX8_has_18 : decode cX8_has 18 = .ok (.iload_n 1, 1) := by decide +kernel
theorem dX8_has_19 : decode cX8_has 19 = .ok (.iload_n 2, 1) := by decide +kernel
theorem dX8_has_20 : decode cX8_has 20 = .ok (.invokevirtual 313, 3) := by decide +kernel
theorem dX8_has_23 : decode cX8_has 23 = .ok (.istore 4, 2) := by decide +kernel
theorem dX8_has_25 : decode cX8_has 25 = .ok (.aload_n 0, 1) := by decide +kernel
theorem dX8_has_26 : decode cX8_has 26 = .ok (.aload_n 3, 1) := by decide +kernel
theorem dX8_has_27 : decode cX8_has 27 = .ok (.iload_n 2, 1) := by decide +kernel
theorem dX8_has_28 : decode cX8_has 28 = .ok (.iload 4, 2) := by decide +kernel
theorem dX8_has_30 : decode cX8_has 30 = .ok (.bipush (-100), 2) := by decide +kernel
theorem dX8_has_32 : decode cX8_has 32 = .ok (.if_icmp .eq 7, 3) := by decide +kernel
theorem dX8_has_35 : decode cX8_has 35 = .ok (.iconst 1, 1) := by decide +kernel
theorem dX8_has_36 : decode cX8_has 36 = .ok (.goto 4, 3) := by decide +kernel
theorem dX8_has_39 : decode cX8_has 39 = .ok (.iconst 0, 1) := by decide +kernel
theorem dX8_has_40 : decode cX8_has 40 = .ok (.invokevirtual 316, 3) := by decide +kernel
theorem dX8_has_43 : decode cX8_has 43 = .ok (.iload 4, 2) := by decide +kernel
theorem dX8_has_45 : decode cX8_has 45 = .ok (.ireturn, 1) := by decide +kernel
theorem dX8_giveUp_0 : decode cX8_giveUp 0 = .ok (.aload_n 0, 1) := by decide +kernel
theorem dX8_giveUp_1 : decode cX8_giveUp 1 = .ok (.iload_n 1, 1) := by decide +kernel
theorem dX8_giveUp_2 : decode cX8_giveUp 2 = .ok (.invokevirtual 144, 3) := by decide +kernel
theorem dX8_giveUp_5 : decode cX8_giveUp 5 = .ok (.astore_n 3, 1) := by decide +kernel
theorem dX8_giveUp_6 : decode cX8_giveUp 6 = .ok (.aload_n 0, 1) := by decide +kernel
theorem dX8_giveUp_7 : decode cX8_giveUp 7 = .ok (.aload_n 3, 1) := by decide +kernel
theorem dX8_giveUp_8 : decode cX8_giveUp 8 = .ok (.invokevirtual 159, 3) := by decide +kernel
theorem dX8_giveUp_11 : decode cX8_giveUp 11 = .ok (.aload_n 0, 1) := by decide +kernel
theorem dX8_giveUp_12 : decode cX8_giveUp 12 = .ok (.aload_n 3, 1) := by decide +kernel
theorem dX8_giveUp_13 : decode cX8_giveUp 13 = .ok (.iload_n 2, 1) := by decide +kernel
theorem dX8_giveUp_14 : decode cX8_giveUp 14 = .ok (.iconst 0, 1) := by decide +kernel
theorem dX8_giveUp_15 : decode cX8_giveUp 15 = .ok (.invokevirtual 316, 3) := by decide +kernel
theorem dX8_giveUp_18 : decode cX8_giveUp 18 = .ok (.aload_n 0, 1) := by decide +kernel
theorem dX8_giveUp_19 : decode cX8_giveUp 19 = .ok (.getfield 27, 3) := by decide +kernel
theorem dX8_giveUp_22 : decode cX8_giveUp 22 = .ok (.iload_n 1, 1) := by decide +kernel
theorem dX8_giveUp_23 : decode cX8_giveUp 23 = .ok (.iload_n 2, 1) := by decide +kernel
theorem dX8_giveUp_24 : decode cX8_giveUp 24 = .ok (.invokevirtual 320, 3) := by decide +kernel
theorem dX8_giveUp_27 : decode cX8_giveUp 27 = .ok (.istore 4, 2) := by decide +kernel
theorem dX8_giveUp_29 : decode cX8_giveUp 29 = .ok (.iload 4, 2) := by decide +kernel
theorem dX8_giveUp_31 : decode cX8_giveUp 31 = .ok (.bipush (-100), 2) := by decide +kernel
theorem dX8_giveUp_33 : decode cX8_giveUp 33 = .ok (.if_icmp .ne 5, 3) := by decide +kernel
theorem dX8_giveUp_36 : decode cX8_giveUp 36 = .ok (.iconst 0, 1) := by decide +kernel
theorem dX8_giveUp_37 : decode cX8_giveUp 37 = .ok (.ireturn, 1) := by decide +kernel
theorem dX8_giveUp_38 : decode cX8_giveUp 38 = .ok (.aload_n 0, 1) := by decide +kernel
theorem dX8_giveUp_39 : decode cX8_giveUp 39 = .ok (.iload 4, 2) := by decide +kernel
theorem dX8_giveUp_41 : decode cX8_giveUp 41 = .ok (.invokevirtual 323, 3) := by decide +kernel
theorem dX8_giveUp_44 : decode cX8_giveUp 44 = .ok (.istore 5, 2) := by decide +kernel
theorem dX8_giveUp_46 : decode cX8_giveUp 46 = .ok (.aload_n 0, 1) := by decide +kernel
theorem dX8_giveUp_47 : decode cX8_giveUp 47 = .ok (.invokevirtual 326, 3) := by decide +kernel
theorem dX8_giveUp_50 : decode cX8_giveUp 50 = .ok (.aload_n 0, 1) := by decide +kernel
theorem dX8_giveUp_51 : decode cX8_giveUp 51 = .ok (.aload_n 3, 1) := by decide +kernel
theorem dX8_giveUp_52 : decode cX8_giveUp 52 = .ok (.getfield 162, 3) := by decide +kernel
theorem dX8_giveUp_55 : decode cX8_giveUp 55 = .ok (.aload_n 0, 1) := by decide +kernel
theorem dX8_giveUp_56 : decode cX8_giveUp 56 = .ok (.getfield 82, 3) := by decide +kernel
theorem dX8_giveUp_59 : decode cX8_giveUp 59 = .ok (.invokevirtual 169, 3) := by decide +kernel
theorem dX8_giveUp_62 : decode cX8_giveUp 62 = .ok (.pop, 1) := by decide +kernel
theorem dX8_giveUp_63 : decode cX8_giveUp 63 = .ok (.iload 5, 2) := by decide +kernel
theorem dX8_giveUp_65 : decode cX8_giveUp 65 = .ok (.ireturn, 1) := by decide +kernel
theorem dX8_believers_0 : decode cX8_believers 0 = .ok (.iload_n 1, 1) := by decide +kernel
theorem dX8_believers_1 : decode cX8_believers 1 = .ok (.iconst 0, 1) := by decide +kernel
theorem dX8_believers_2 : decode cX8_believers 2 = .ok (.bipush 79, 2) := by decide +kernel
theorem dX8_believers_4 : decode cX8_believers 4 = .ok (.invokestatic 106, 3) := by decide +kernel
theorem dX8_believers_7 : decode cX8_believers 7 = .ok (.ifCond .eq 12, 3) := by decide +kernel
theorem dX8_believers_10 : decode cX8_believers 10 = .ok (.aload_n 0, 1) := by decide +kernel
theorem dX8_believers_11 : decode cX8_believers 11 = .ok (.getfield 68, 3) := by decide +kernel
theorem dX8_believers_14 : decode cX8_believers 14 = .ok (.iload_n 1, 1) := by decide +kernel
theorem dX8_believers_15 : decode cX8_believers 15 = .ok (.iaload, 1) := by decide +kernel
theorem dX8_believers_16 : decode cX8_believers 16 = .ok (.goto 4, 3) := by decide +kernel
theorem dX8_believers_19 : decode cX8_believers 19 = .ok (.iconst 0, 1) := by decide +kernel
theorem dX8_believers_20 : decode cX8_believers 20 = .ok (.ireturn, 1) := by decide +kernel
theorem dX8_isOpen_0 : decode cX8_isOpen 0 = .ok (.aload_n 0, 1) := by decide +kernel
theorem dX8_isOpen_1 : decode cX8_isOpen 1 = .ok (.iload_n 1, 1) := by decide +kernel
theorem dX8_isOpen_2 : decode cX8_isOpen 2 = .ok (.invokevirtual 144, 3) := by decide +kernel
theorem dX8_isOpen_5 : decode cX8_isOpen 5 = .ok (.astore 4, 2) := by decide +kernel
theorem dX8_isOpen_7 : decode cX8_isOpen 7 = .ok (.iload_n 3, 1) := by decide +kernel
theorem dX8_isOpen_8 : decode cX8_isOpen 8 = .ok (.iconst 1, 1) := by decide +kernel
theorem dX8_isOpen_9 : decode cX8_isOpen 9 = .ok (.bipush 80, 2) := by decide +kernel
theorem dX8_isOpen_11 : decode cX8_isOpen 11 = .ok (.invokestatic 106, 3) := by decide +kernel
theorem dX8_isOpen_14 : decode cX8_isOpen 14 = .ok (.ifCond .ne 14, 3) := by decide +kernel
theorem dX8_isOpen_17 : decode cX8_isOpen 17 = .ok (.new 121, 3) := by decide +kernel
theorem dX8_isOpen_20 : decode cX8_isOpen 20 = .ok (.dup, 1) := by decide +kernel
theorem dX8_isOpen_21 : decode cX8_isOpen 21 = .ok (.ldc_w 329, 3) := by decide +kernel
theorem dX8_isOpen_24 : decode cX8_isOpen 24 = .ok (.invokespecial 125, 3) := by decide +kernel
theorem dX8_isOpen_27 : decode cX8_isOpen 27 = .ok (.athrow, 1) := by decide +kernel
theorem dX8_isOpen_28 : decode cX8_isOpen 28 = .ok (.aload_n 0, 1) := by decide +kernel
theorem dX8_isOpen_29 : decode cX8_isOpen 29 = .ok (.aload 4, 2) := by decide +kernel
theorem dX8_isOpen_31 : decode cX8_isOpen 31 = .ok (.invokevirtual 159, 3) := by decide +kernel
theorem dX8_isOpen_34 : decode cX8_isOpen 34 = .ok (.aload 4, 2) := by decide +kernel
theorem dX8_isOpen_36 : decode cX8_isOpen 36 = .ok (.getfield 162, 3) := by decide +kernel
theorem dX8_isOpen_39 : decode cX8_isOpen 39 = .ok (.getfield 277, 3) := by decide +kernel
theorem dX8_isOpen_42 : decode cX8_isOpen 42 = .ok (.iload_n 2, 1) := by decide +kernel
theorem dX8_isOpen_43 : decode cX8_isOpen 43 = .ok (.invokevirtual 331, 3) := by decide +kernel
theorem dX8_isOpen_46 : decode cX8_isOpen 46 = .ok (.iload_n 3, 1) := by decide +kernel
theorem dX8_isOpen_47 : decode cX8_isOpen 47 = .ok (.if_icmp .lt 7, 3) := by decide +kernel
theorem dX8_isOpen_50 : decode cX8_isOpen 50 = .ok (.iconst 1, 1) := by decide +kernel
theorem dX8_isOpen_51 : decode cX8_isOpen 51 = .ok (.goto 4, 3) := by decide +kernel
theorem dX8_isOpen_54 : decode cX8_isOpen 54 = .ok (.iconst 0, 1) := by decide +kernel
theorem dX8_isOpen_55 : decode cX8_isOpen 55 = .ok (.ireturn, 1) := by decide +kernel
theorem dX8_takeFirst_0 : decode cX8_takeFirst 0 = .ok (.aload_n 0, 1) := by decide +kernel
theorem dX8_takeFirst_1 : decode cX8_takeFirst 1 = .ok (.iload_n 1, 1) := by decide +kernel
theorem dX8_takeFirst_2 : decode cX8_takeFirst 2 = .ok (.invokevirtual 144, 3) := by decide +kernel
theorem dX8_takeFirst_5 : decode cX8_takeFirst 5 = .ok (.astore_n 3, 1) := by decide +kernel
theorem dX8_takeFirst_6 : decode cX8_takeFirst 6 = .ok (.aload_n 0, 1) := by decide +kernel
theorem dX8_takeFirst_7 : decode cX8_takeFirst 7 = .ok (.aload_n 3, 1) := by decide +kernel
theorem dX8_takeFirst_8 : decode cX8_takeFirst 8 = .ok (.invokevirtual 148, 3) := by decide +kernel
theorem dX8_takeFirst_11 : decode cX8_takeFirst 11 = .ok (.aload_n 3, 1) := by decide +kernel
theorem dX8_takeFirst_12 : decode cX8_takeFirst 12 = .ok (.invokestatic 235, 3) := by decide +kernel
theorem dX8_takeFirst_15 : decode cX8_takeFirst 15 = .ok (.aload_n 3, 1) := by decide +kernel
theorem dX8_takeFirst_16 : decode cX8_takeFirst 16 = .ok (.aload_n 0, 1) := by decide +kernel
theorem dX8_takeFirst_17 : decode cX8_takeFirst 17 = .ok (.getfield 79, 3) := by decide +kernel
theorem dX8_takeFirst_20 : decode cX8_takeFirst 20 = .ok (.putfield 238, 3) := by decide +kernel
theorem dX8_takeFirst_23 : decode cX8_takeFirst 23 = .ok (.aload_n 0, 1) := by decide +kernel
theorem dX8_takeFirst_24 : decode cX8_takeFirst 24 = .ok (.getfield 27, 3) := by decide +kernel
theorem dX8_takeFirst_27 : decode cX8_takeFirst 27 = .ok (.iload_n 2, 1) := by decide +kernel
theorem dX8_takeFirst_28 : decode cX8_takeFirst 28 = .ok (.invokevirtual 267, 3) := by decide +kernel
theorem dX8_takeFirst_31 : decode cX8_takeFirst 31 = .ok (.ifCond .ne 5, 3) := by decide +kernel
theorem dX8_takeFirst_34 : decode cX8_takeFirst 34 = .ok (.iconst (-1), 1) := by decide +kernel
theorem dX8_takeFirst_35 : decode cX8_takeFirst 35 = .ok (.ireturn, 1) := by decide +kernel
theorem dX8_takeFirst_36 : decode cX8_takeFirst 36 = .ok (.aload_n 0, 1) := by decide +kernel
theorem dX8_takeFirst_37 : decode cX8_takeFirst 37 = .ok (.getfield 27, 3) := by decide +kernel
theorem dX8_takeFirst_40 : decode cX8_takeFirst 40 = .ok (.iload_n 2, 1) := by decide +kernel
theorem dX8_takeFirst_41 : decode cX8_takeFirst 41 = .ok (.aload_n 3, 1) := by decide +kernel
theorem dX8_takeFirst_42 : decode cX8_takeFirst 42 = .ok (.getfield 280, 3) := by decide +kernel
theorem dX8_takeFirst_45 : decode cX8_takeFirst 45 = .ok (.invokevirtual 334, 3) := by decide +kernel
theorem dX8_takeFirst_48 : decode cX8_takeFirst 48 = .ok (.ifCond .ne 6, 3) := by decide +kernel
theorem dX8_takeFirst_51 : decode cX8_takeFirst 51 = .ok (.bipush (-2), 2) := by decide +kernel
theorem dX8_takeFirst_53 : decode cX8_takeFirst 53 = .ok (.ireturn, 1) := by decide +kernel
theorem dX8_takeFirst_54 : decode cX8_takeFirst 54 = .ok (.aload_n 0, 1) := by decide +kernel
theorem dX8_takeFirst_55 : decode cX8_takeFirst 55 = .ok (.getfield 27, 3) := by decide +kernel
theorem dX8_takeFirst_58 : decode cX8_takeFirst 58 = .ok (.iload_n 2, 1) := by decide +kernel
theorem dX8_takeFirst_59 : decode cX8_takeFirst 59 = .ok (.invokevirtual 338, 3) := by decide +kernel
theorem dX8_takeFirst_62 : decode cX8_takeFirst 62 = .ok (.istore 4, 2) := by decide +kernel
theorem dX8_takeFirst_64 : decode cX8_takeFirst 64 = .ok (.aload_n 0, 1) := by decide +kernel
theorem dX8_takeFirst_65 : decode cX8_takeFirst 65 = .ok (.getfield 27, 3) := by decide +kernel
theorem dX8_takeFirst_68 : decode cX8_takeFirst 68 = .ok (.iload 4, 2) := by decide +kernel
theorem dX8_takeFirst_70 : decode cX8_takeFirst 70 = .ok (.invokevirtual 267, 3) := by decide +kernel
theorem dX8_takeFirst_73 : decode cX8_takeFirst 73 = .ok (.ifCond .ne 6, 3) := by decide +kernel
theorem dX8_takeFirst_76 : decode cX8_takeFirst 76 = .ok (.bipush (-100), 2) := by decide +kernel
theorem dX8_takeFirst_78 : decode cX8_takeFirst 78 = .ok (.ireturn, 1) := by decide +kernel
theorem dX8_takeFirst_79 : decode cX8_takeFirst 79 = .ok (.aload_n 0, 1) := by decide +kernel
theorem dX8_takeFirst_80 : decode cX8_takeFirst 80 = .ok (.getfield 27, 3) := by decide +kernel
theorem dX8_takeFirst_83 : decode cX8_takeFirst 83 = .ok (.getfield 341, 3) := by decide +kernel
theorem dX8_takeFirst_86 : decode cX8_takeFirst 86 = .ok (.iload 4, 2) := by decide +kernel
theorem dX8_takeFirst_88 : decode cX8_takeFirst 88 = .ok (.iaload, 1) := by decide +kernel
theorem dX8_takeFirst_89 : decode cX8_takeFirst 89 = .ok (.istore 5, 2) := by decide +kernel
theorem dX8_takeFirst_91 : decode cX8_takeFirst 91 = .ok (.aload_n 0, 1) := by decide +kernel
theorem dX8_takeFirst_92 : decode cX8_takeFirst 92 = .ok (.getfield 60, 3) := by decide +kernel
theorem dX8_takeFirst_95 : decode cX8_takeFirst 95 = .ok (.iconst 2, 1) := by decide +kernel
theorem dX8_takeFirst_96 : decode cX8_takeFirst 96 = .ok (.iload 4, 2) := by decide +kernel
theorem dX8_takeFirst_98 : decode cX8_takeFirst 98 = .ok (.iconst 0, 1) := by decide +kernel
theorem dX8_takeFirst_99 : decode cX8_takeFirst 99 = .ok (.iconst (-1), 1) := by decide +kernel
theorem dX8_takeFirst_100 : decode cX8_takeFirst 100 = .ok (.invokevirtual 230, 3) := by decide +kernel
theorem dX8_takeFirst_103 : decode cX8_takeFirst 103 = .ok (.aload_n 0, 1) := by decide +kernel
theorem dX8_takeFirst_104 : decode cX8_takeFirst 104 = .ok (.aload_n 3, 1) := by decide +kernel
theorem dX8_takeFirst_105 : decode cX8_takeFirst 105 = .ok (.aload_n 0, 1) := by decide +kernel
theorem dX8_takeFirst_106 : decode cX8_takeFirst 106 = .ok (.getfield 60, 3) := by decide +kernel
theorem dX8_takeFirst_109 : decode cX8_takeFirst 109 = .ok (.invokevirtual 226, 3) := by decide +kernel
theorem dX8_takeFirst_112 : decode cX8_takeFirst 112 = .ok (.istore 6, 2) := by decide +kernel
theorem dX8_takeFirst_114 : decode cX8_takeFirst 114 = .ok (.iload 6, 2) := by decide +kernel
theorem dX8_takeFirst_116 : decode cX8_takeFirst 116 = .ok (.ifCond .ge 8, 3) := by decide +kernel
theorem dX8_takeFirst_119 : decode cX8_takeFirst 119 = .ok (.iload 6, 2) := by decide +kernel
theorem dX8_takeFirst_121 : decode cX8_takeFirst 121 = .ok (.goto 5, 3) := by decide +kernel
theorem dX8_takeFirst_124 : decode cX8_takeFirst 124 = .ok (.iload 5, 2) := by decide +kernel
theorem dX8_takeFirst_126 : decode cX8_takeFirst 126 = .ok (.ireturn, 1) := by decide +kernel
theorem dX8_store_0 : decode cX8_store 0 = .ok (.iload_n 1, 1) := by decide +kernel
theorem dX8_store_1 : decode cX8_store 1 = .ok (.iconst 0, 1) := by decide +kernel
theorem dX8_store_2 : decode cX8_store 2 = .ok (.sipush 10000, 3) := by decide +kernel
theorem dX8_store_5 : decode cX8_store 5 = .ok (.invokestatic 106, 3) := by decide +kernel
theorem dX8_store_8 : decode cX8_store 8 = .ok (.ifCond .ne 14, 3) := by decide +kernel
theorem dX8_store_11 : decode cX8_store 11 = .ok (.new 121, 3) := by decide +kernel
theorem dX8_store_14 : decode cX8_store 14 = .ok (.dup, 1) := by decide +kernel
theorem dX8_store_15 : decode cX8_store 15 = .ok (.ldc_w 344, 3) := by decide +kernel
theorem dX8_store_18 : decode cX8_store 18 = .ok (.invokespecial 125, 3) := by decide +kernel
theorem dX8_store_21 : decode cX8_store 21 = .ok (.athrow, 1) := by decide +kernel
theorem dX8_store_22 : decode cX8_store 22 = .ok (.iload_n 1, 1) := by decide +kernel
theorem dX8_store_23 : decode cX8_store 23 = .ok (.aload_n 0, 1) := by decide +kernel
theorem dX8_store_24 : decode cX8_store 24 = .ok (.getfield 91, 3) := by decide +kernel
theorem dX8_store_27 : decode cX8_store 27 = .ok (.if_icmp .ge 5, 3) := by decide +kernel
theorem dX8_store_30 : decode cX8_store 30 = .ok (.iconst 0, 1) := by decide +kernel
theorem dX8_store_31 : decode cX8_store 31 = .ok (.ireturn, 1) := by decide +kernel
theorem dX8_store_32 : decode cX8_store 32 = .ok (.aload_n 0, 1) := by decide +kernel
theorem dX8_store_33 : decode cX8_store 33 = .ok (.iload_n 1, 1) := by decide +kernel
theorem dX8_store_34 : decode cX8_store 34 = .ok (.putfield 91, 3) := by decide +kernel
theorem dX8_store_37 : decode cX8_store 37 = .ok (.aload_n 0, 1) := by decide +kernel
theorem dX8_store_38 : decode cX8_store 38 = .ok (.iload_n 2, 1) := by decide +kernel
theorem dX8_store_39 : decode cX8_store 39 = .ok (.putfield 94, 3) := by decide +kernel
theorem dX8_store_42 : decode cX8_store 42 = .ok (.iconst 1, 1) := by decide +kernel
theorem dX8_store_43 : decode cX8_store 43 = .ok (.ireturn, 1) := by decide +kernel
theorem dX8_stored_0 : decode cX8_stored 0 = .ok (.aload_n 0, 1) := by decide +kernel
theorem dX8_stored_1 : decode cX8_stored 1 = .ok (.getfield 94, 3) := by decide +kernel
theorem dX8_stored_4 : decode cX8_stored 4 = .ok (.ireturn, 1) := by decide +kernel
theorem dX8_valueAt_0 : decode cX8_valueAt 0 = .ok (.aload_n 0, 1) := by decide +kernel
theorem dX8_valueAt_1 : decode cX8_valueAt 1 = .ok (.iload_n 2, 1) := by decide +kernel
theorem dX8_valueAt_2 : decode cX8_valueAt 2 = .ok (.invokevirtual 346, 3) := by decide +kernel
theorem dX8_valueAt_5 : decode cX8_valueAt 5 = .ok (.aload_n 0, 1) := by decide +kernel
theorem dX8_valueAt_6 : decode cX8_valueAt 6 = .ok (.iload_n 2, 1) := by decide +kernel
theorem dX8_valueAt_7 : decode cX8_valueAt 7 = .ok (.invokevirtual 349, 3) := by decide +kernel
theorem dX8_valueAt_10 : decode cX8_valueAt 10 = .ok (.iload_n 1, 1) := by decide +kernel
theorem dX8_valueAt_11 : decode cX8_valueAt 11 = .ok (.iconst 0, 1) := by decide +kernel
theorem dX8_valueAt_12 : decode cX8_valueAt 12 = .ok (.bipush 79, 2) := by decide +kernel
theorem dX8_valueAt_14 : decode cX8_valueAt 14 = .ok (.invokestatic 106, 3) := by decide +kernel
theorem dX8_valueAt_17 : decode cX8_valueAt 17 = .ok (.ifCond .ne 6, 3) := by decide +kernel
theorem dX8_valueAt_20 : decode cX8_valueAt 20 = .ok (.bipush (-100), 2) := by decide +kernel
theorem dX8_valueAt_22 : decode cX8_valueAt 22 = .ok (.ireturn, 1) := by decide +kernel
theorem dX8_valueAt_23 : decode cX8_valueAt 23 = .ok (.aload_n 0, 1) := by decide +kernel
theorem dX8_valueAt_24 : decode cX8_valueAt 24 = .ok (.getfield 34, 3) := by decide +kernel
theorem dX8_valueAt_27 : decode cX8_valueAt 27 = .ok (.getfield 352, 3) := by decide +kernel
theorem dX8_valueAt_30 : decode cX8_valueAt 30 = .ok (.iload_n 1, 1) := by decide +kernel
theorem dX8_valueAt_31 : decode cX8_valueAt 31 = .ok (.baload, 1) := by decide +kernel
theorem dX8_valueAt_32 : decode cX8_valueAt 32 = .ok (.ifCond .eq 15, 3) := by decide +kernel
theorem dX8_valueAt_35 : decode cX8_valueAt 35 = .ok (.aload_n 0, 1) := by decide +kernel
theorem dX8_valueAt_36 : decode cX8_valueAt 36 = .ok (.getfield 34, 3) := by decide +kernel
theorem dX8_valueAt_39 : decode cX8_valueAt 39 = .ok (.getfield 341, 3) := by decide +kernel
theorem dX8_valueAt_42 : decode cX8_valueAt 42 = .ok (.iload_n 1, 1) := by decide +kernel
theorem dX8_valueAt_43 : decode cX8_valueAt 43 = .ok (.iaload, 1) := by decide +kernel
theorem dX8_valueAt_44 : decode cX8_valueAt 44 = .ok (.goto 5, 3) := by decide +kernel
theorem dX8_valueAt_47 : decode cX8_valueAt 47 = .ok (.bipush (-100), 2) := by decide +kernel
theorem dX8_valueAt_49 : decode cX8_valueAt 49 = .ok (.istore_n 3, 1) := by decide +kernel
theorem dX8_valueAt_50 : decode cX8_valueAt 50 = .ok (.iconst 0, 1) := by decide +kernel
theorem dX8_valueAt_51 : decode cX8_valueAt 51 = .ok (.istore 4, 2) := by decide +kernel
theorem dX8_valueAt_53 : decode cX8_valueAt 53 = .ok (.iload 4, 2) := by decide +kernel
theorem dX8_valueAt_55 : decode cX8_valueAt 55 = .ok (.aload_n 0, 1) := by decide +kernel
theorem dX8_valueAt_56 : decode cX8_valueAt 56 = .ok (.getfield 40, 3) := by decide +kernel
theorem dX8_valueAt_59 : decode cX8_valueAt 59 = .ok (.getfield 356, 3) := by decide +kernel
theorem dX8_valueAt_62 : decode cX8_valueAt 62 = .ok (.if_icmp .ge 79, 3) := by decide +kernel
theorem dX8_valueAt_65 : decode cX8_valueAt 65 = .ok (.aload_n 0, 1) := by decide +kernel
theorem dX8_valueAt_66 : decode cX8_valueAt 66 = .ok (.getfield 40, 3) := by decide +kernel
theorem dX8_valueAt_69 : decode cX8_valueAt 69 = .ok (.getfield 358, 3) := by decide +kernel
theorem dX8_valueAt_72 : decode cX8_valueAt 72 = .ok (.iload 4, 2) := by decide +kernel
theorem dX8_valueAt_74 : decode cX8_valueAt 74 = .ok (.iaload, 1) := by decide +kernel
theorem dX8_valueAt_75 : decode cX8_valueAt 75 = .ok (.iload_n 2, 1) := by decide +kernel
theorem dX8_valueAt_76 : decode cX8_valueAt 76 = .ok (.if_icmp .gt 65, 3) := by decide +kernel
theorem dX8_valueAt_79 : decode cX8_valueAt 79 = .ok (.aload_n 0, 1) := by decide +kernel
theorem dX8_valueAt_80 : decode cX8_valueAt 80 = .ok (.getfield 40, 3) := by decide +kernel
theorem dX8_valueAt_83 : decode cX8_valueAt 83 = .ok (.getfield 361, 3) := by decide +kernel
theorem dX8_valueAt_86 : decode cX8_valueAt 86 = .ok (.iload 4, 2) := by decide +kernel
theorem dX8_valueAt_88 : decode cX8_valueAt 88 = .ok (.iaload, 1) := by decide +kernel
theorem dX8_valueAt_89 : decode cX8_valueAt 89 = .ok (.iload_n 1, 1) := by decide +kernel
theorem dX8_valueAt_90 : decode cX8_valueAt 90 = .ok (.if_icmp .ne 45, 3) := by decide +kernel
theorem dX8_valueAt_93 : decode cX8_valueAt 93 = .ok (.aload_n 0, 1) := by decide +kernel
theorem dX8_valueAt_94 : decode cX8_valueAt 94 = .ok (.getfield 40, 3) := by decide +kernel
theorem dX8_valueAt_97 : decode cX8_valueAt 97 = .ok (.iload 4, 2) := by decide +kernel
theorem dX8_valueAt_99 : decode cX8_valueAt 99 = .ok (.invokevirtual 364, 3) := by decide +kernel
theorem dX8_valueAt_102 : decode cX8_valueAt 102 = .ok (.ifCond .eq 33, 3) := by decide +kernel
theorem dX8_valueAt_105 : decode cX8_valueAt 105 = .ok (.aload_n 0, 1) := by decide +kernel
theorem dX8_valueAt_106 : decode cX8_valueAt 106 = .ok (.getfield 40, 3) := by decide +kernel
theorem dX8_valueAt_109 : decode cX8_valueAt 109 = .ok (.getfield 367, 3) := by decide +kernel
theorem dX8_valueAt_112 : decode cX8_valueAt 112 = .ok (.iload 4, 2) := by decide +kernel
theorem dX8_valueAt_114 : decode cX8_valueAt 114 = .ok (.iaload, 1) := by decide +kernel
theorem dX8_valueAt_115 : decode cX8_valueAt 115 = .ok (.iconst 2, 1) := by decide +kernel
theorem dX8_valueAt_116 : decode cX8_valueAt 116 = .ok (.if_icmp .ne 8, 3) := by decide +kernel
theorem dX8_valueAt_119 : decode cX8_valueAt 119 = .ok (.bipush (-100), 2) := by decide +kernel
theorem dX8_valueAt_121 : decode cX8_valueAt 121 = .ok (.goto 13, 3) := by decide +kernel
theorem dX8_valueAt_124 : decode cX8_valueAt 124 = .ok (.aload_n 0, 1) := by decide +kernel
theorem dX8_valueAt_125 : decode cX8_valueAt 125 = .ok (.getfield 40, 3) := by decide +kernel
theorem dX8_valueAt_128 : decode cX8_valueAt 128 = .ok (.getfield 370, 3) := by decide +kernel
theorem dX8_valueAt_131 : decode cX8_valueAt 131 = .ok (.iload 4, 2) := by decide +kernel
theorem dX8_valueAt_133 : decode cX8_valueAt 133 = .ok (.iaload, 1) := by decide +kernel
theorem dX8_valueAt_134 : decode cX8_valueAt 134 = .ok (.istore_n 3, 1) := by decide +kernel
theorem dX8_valueAt_135 : decode cX8_valueAt 135 = .ok (.iinc 4 1, 3) := by decide +kernel
theorem dX8_valueAt_138 : decode cX8_valueAt 138 = .ok (.goto (-85), 3) := by decide +kernel
theorem dX8_valueAt_141 : decode cX8_valueAt 141 = .ok (.iload_n 3, 1) := by decide +kernel
theorem dX8_valueAt_142 : decode cX8_valueAt 142 = .ok (.ireturn, 1) := by decide +kernel
theorem dX8_changedAt_0 : decode cX8_changedAt 0 = .ok (.iload_n 3, 1) := by decide +kernel
theorem dX8_changedAt_1 : decode cX8_changedAt 1 = .ok (.ifCond .ge 14, 3) := by decide +kernel
theorem dX8_changedAt_4 : decode cX8_changedAt 4 = .ok (.new 110, 3) := by decide +kernel
theorem dX8_changedAt_7 : decode cX8_changedAt 7 = .ok (.dup, 1) := by decide +kernel
theorem dX8_changedAt_8 : decode cX8_changedAt 8 = .ok (.ldc_w 262, 3) := by decide +kernel
theorem dX8_changedAt_11 : decode cX8_changedAt 11 = .ok (.invokespecial 114, 3) := by decide +kernel
theorem dX8_changedAt_14 : decode cX8_changedAt 14 = .ok (.athrow, 1) := by decide +kernel
theorem dX8_changedAt_15 : decode cX8_changedAt 15 = .ok (.aload_n 0, 1) := by decide +kernel
theorem dX8_changedAt_16 : decode cX8_changedAt 16 = .ok (.iload_n 2, 1) := by decide +kernel
theorem dX8_changedAt_17 : decode cX8_changedAt 17 = .ok (.invokevirtual 346, 3) := by decide +kernel
theorem dX8_changedAt_20 : decode cX8_changedAt 20 = .ok (.aload_n 0, 1) := by decide +kernel
theorem dX8_changedAt_21 : decode cX8_changedAt 21 = .ok (.iload_n 2, 1) := by decide +kernel
theorem dX8_changedAt_22 : decode cX8_changedAt 22 = .ok (.invokevirtual 349, 3) := by decide +kernel
theorem dX8_changedAt_25 : decode cX8_changedAt 25 = .ok (.iconst (-1), 1) := by decide +kernel
theorem dX8_changedAt_26 : decode cX8_changedAt 26 = .ok (.istore 4, 2) := by decide +kernel
theorem dX8_changedAt_28 : decode cX8_changedAt 28 = .ok (.iload_n 2, 1) := by decide +kernel
theorem dX8_changedAt_29 : decode cX8_changedAt 29 = .ok (.istore 5, 2) := by decide +kernel
theorem dX8_changedAt_31 : decode cX8_changedAt 31 = .ok (.iconst 0, 1) := by decide +kernel
theorem dX8_changedAt_32 : decode cX8_changedAt 32 = .ok (.istore 6, 2) := by decide +kernel
theorem dX8_changedAt_34 : decode cX8_changedAt 34 = .ok (.iload 6, 2) := by decide +kernel
theorem dX8_changedAt_36 : decode cX8_changedAt 36 = .ok (.aload_n 0, 1) := by decide +kernel
theorem dX8_changedAt_37 : decode cX8_changedAt 37 = .ok (.getfield 40, 3) := by decide +kernel
theorem dX8_changedAt_40 : decode cX8_changedAt 40 = .ok (.getfield 356, 3) := by decide +kernel
theorem dX8_changedAt_43 : decode cX8_changedAt 43 = .ok (.if_icmp .ge 74, 3) := by decide +kernel
theorem dX8_changedAt_46 : decode cX8_changedAt 46 = .ok (.aload_n 0, 1) := by decide +kernel
theorem dX8_changedAt_47 : decode cX8_changedAt 47 = .ok (.getfield 40, 3) := by decide +kernel
theorem dX8_changedAt_50 : decode cX8_changedAt 50 = .ok (.getfield 361, 3) := by decide +kernel
theorem dX8_changedAt_53 : decode cX8_changedAt 53 = .ok (.iload 6, 2) := by decide +kernel
theorem dX8_changedAt_55 : decode cX8_changedAt 55 = .ok (.iaload, 1) := by decide +kernel
theorem dX8_changedAt_56 : decode cX8_changedAt 56 = .ok (.iload_n 1, 1) := by decide +kernel
theorem dX8_changedAt_57 : decode cX8_changedAt 57 = .ok (.if_icmp .ne 54, 3) := by decide +kernel
theorem dX8_changedAt_60 : decode cX8_changedAt 60 = .ok (.aload_n 0, 1) := by decide +kernel
theorem dX8_changedAt_61 : decode cX8_changedAt 61 = .ok (.getfield 40, 3) := by decide +kernel
theorem dX8_changedAt_64 : decode cX8_changedAt 64 = .ok (.iload 6, 2) := by decide +kernel
theorem dX8_changedAt_66 : decode cX8_changedAt 66 = .ok (.invokevirtual 364, 3) := by decide +kernel
theorem dX8_changedAt_69 : decode cX8_changedAt 69 = .ok (.ifCond .eq 42, 3) := by decide +kernel
theorem dX8_changedAt_72 : decode cX8_changedAt 72 = .ok (.aload_n 0, 1) := by decide +kernel
theorem dX8_changedAt_73 : decode cX8_changedAt 73 = .ok (.getfield 40, 3) := by decide +kernel
theorem dX8_changedAt_76 : decode cX8_changedAt 76 = .ok (.getfield 358, 3) := by decide +kernel
theorem dX8_changedAt_79 : decode cX8_changedAt 79 = .ok (.iload 6, 2) := by decide +kernel
theorem dX8_changedAt_81 : decode cX8_changedAt 81 = .ok (.iaload, 1) := by decide +kernel
theorem dX8_changedAt_82 : decode cX8_changedAt 82 = .ok (.iload 5, 2) := by decide +kernel
theorem dX8_changedAt_84 : decode cX8_changedAt 84 = .ok (.if_icmp .le 27, 3) := by decide +kernel
theorem dX8_changedAt_87 : decode cX8_changedAt 87 = .ok (.aload_n 0, 1) := by decide +kernel
theorem dX8_changedAt_88 : decode cX8_changedAt 88 = .ok (.getfield 40, 3) := by decide +kernel
theorem dX8_changedAt_91 : decode cX8_changedAt 91 = .ok (.getfield 358, 3) := by decide +kernel
theorem dX8_changedAt_94 : decode cX8_changedAt 94 = .ok (.iload 6, 2) := by decide +kernel
theorem dX8_changedAt_96 : decode cX8_changedAt 96 = .ok (.iaload, 1) := by decide +kernel
theorem dX8_changedAt_97 : decode cX8_changedAt 97 = .ok (.istore 5, 2) := by decide +kernel
theorem dX8_changedAt_99 : decode cX8_changedAt 99 = .ok (.iinc 4 1, 3) := by decide +kernel
theorem dX8_changedAt_102 : decode cX8_changedAt 102 = .ok (.iload 4, 2) := by decide +kernel
theorem dX8_changedAt_104 : decode cX8_changedAt 104 = .ok (.iload_n 3, 1) := by decide +kernel
theorem dX8_changedAt_105 : decode cX8_changedAt 105 = .ok (.if_icmp .ne 6, 3) := by decide +kernel
theorem dX8_changedAt_108 : decode cX8_changedAt 108 = .ok (.iload 5, 2) := by decide +kernel
theorem dX8_changedAt_110 : decode cX8_changedAt 110 = .ok (.ireturn, 1) := by decide +kernel
theorem dX8_changedAt_111 : decode cX8_changedAt 111 = .ok (.iinc 6 1, 3) := by decide +kernel
theorem dX8_changedAt_114 : decode cX8_changedAt 114 = .ok (.goto (-80), 3) := by decide +kernel
theorem dX8_changedAt_117 : decode cX8_changedAt 117 = .ok (.bipush (-100), 2) := by decide +kernel
theorem dX8_changedAt_119 : decode cX8_changedAt 119 = .ok (.ireturn, 1) := by decide +kernel
theorem dX8_compact_0 : decode cX8_compact 0 = .ok (.aload_n 0, 1) := by decide +kernel
theorem dX8_compact_1 : decode cX8_compact 1 = .ok (.iload_n 1, 1) := by decide +kernel
theorem dX8_compact_2 : decode cX8_compact 2 = .ok (.invokevirtual 346, 3) := by decide +kernel
theorem dX8_compact_5 : decode cX8_compact 5 = .ok (.aload_n 0, 1) := by decide +kernel
theorem dX8_compact_6 : decode cX8_compact 6 = .ok (.aload_n 0, 1) := by decide +kernel
theorem dX8_compact_7 : decode cX8_compact 7 = .ok (.getfield 85, 3) := by decide +kernel
theorem dX8_compact_10 : decode cX8_compact 10 = .ok (.iload_n 1, 1) := by decide +kernel
theorem dX8_compact_11 : decode cX8_compact 11 = .ok (.invokestatic 373, 3) := by decide +kernel
theorem dX8_compact_14 : decode cX8_compact 14 = .ok (.putfield 85, 3) := by decide +kernel
theorem dX8_compact_17 : decode cX8_compact 17 = .ok (.aload_n 0, 1) := by decide +kernel
theorem dX8_compact_18 : decode cX8_compact 18 = .ok (.getfield 85, 3) := by decide +kernel
theorem dX8_compact_21 : decode cX8_compact 21 = .ok (.ireturn, 1) := by decide +kernel
theorem dX8_snapshot_0 : decode cX8_snapshot 0 = .ok (.aload_n 0, 1) := by decide +kernel
theorem dX8_snapshot_1 : decode cX8_snapshot 1 = .ok (.getfield 44, 3) := by decide +kernel
theorem dX8_snapshot_4 : decode cX8_snapshot 4 = .ok (.aload_n 0, 1) := by decide +kernel
theorem dX8_snapshot_5 : decode cX8_snapshot 5 = .ok (.getfield 27, 3) := by decide +kernel
theorem dX8_snapshot_8 : decode cX8_snapshot 8 = .ok (.invokevirtual 378, 3) := by decide +kernel
theorem dX8_snapshot_11 : decode cX8_snapshot 11 = .ok (.aload_n 0, 1) := by decide +kernel
theorem dX8_snapshot_12 : decode cX8_snapshot 12 = .ok (.iconst 1, 1) := by decide +kernel
theorem dX8_snapshot_13 : decode cX8_snapshot 13 = .ok (.putfield 71, 3) := by decide +kernel
theorem dX8_snapshot_16 : decode cX8_snapshot 16 = .ok (.iconst 1, 1) := by decide +kernel
theorem dX8_snapshot_17 : decode cX8_snapshot 17 = .ok (.aload_n 0, 1) := by decide +kernel
theorem dX8_snapshot_18 : decode cX8_snapshot 18 = .ok (.getfield 27, 3) := by decide +kernel
theorem dX8_snapshot_21 : decode cX8_snapshot 21 = .ok (.iconst 0, 1) := by decide +kernel
theorem dX8_snapshot_22 : decode cX8_snapshot 22 = .ok (.invokevirtual 271, 3) := by decide +kernel
theorem dX8_snapshot_25 : decode cX8_snapshot 25 = .ok (.iadd, 1) := by decide +kernel
theorem dX8_snapshot_26 : decode cX8_snapshot 26 = .ok (.ireturn, 1) := by decide +kernel
theorem dX8_restore_0 : decode cX8_restore 0 = .ok (.aload_n 0, 1) := by decide +kernel
theorem dX8_restore_1 : decode cX8_restore 1 = .ok (.getfield 71, 3) := by decide +kernel
theorem dX8_restore_4 : decode cX8_restore 4 = .ok (.ifCond .ne 14, 3) := by decide +kernel
theorem dX8_restore_7 : decode cX8_restore 7 = .ok (.new 130, 3) := by decide +kernel
theorem dX8_restore_10 : decode cX8_restore 10 = .ok (.dup, 1) := by decide +kernel
theorem dX8_restore_11 : decode cX8_restore 11 = .ok (.ldc_w 381, 3) := by decide +kernel
theorem dX8_restore_14 : decode cX8_restore 14 = .ok (.invokespecial 134, 3) := by decide +kernel
theorem dX8_restore_17 : decode cX8_restore 17 = .ok (.athrow, 1) := by decide +kernel
theorem dX8_restore_18 : decode cX8_restore 18 = .ok (.aload_n 0, 1) := by decide +kernel
theorem dX8_restore_19 : decode cX8_restore 19 = .ok (.dup, 1) := by decide +kernel
theorem dX8_restore_20 : decode cX8_restore 20 = .ok (.getfield 82, 3) := by decide +kernel
theorem dX8_restore_23 : decode cX8_restore 23 = .ok (.iconst 1, 1) := by decide +kernel
theorem dX8_restore_24 : decode cX8_restore 24 = .ok (.iadd, 1) := by decide +kernel
theorem dX8_restore_25 : decode cX8_restore 25 = .ok (.putfield 82, 3) := by decide +kernel
theorem dX8_restore_28 : decode cX8_restore 28 = .ok (.aload_n 0, 1) := by decide +kernel
theorem dX8_restore_29 : decode cX8_restore 29 = .ok (.aload_n 0, 1) := by decide +kernel
theorem dX8_restore_30 : decode cX8_restore 30 = .ok (.getfield 82, 3) := by decide +kernel
theorem dX8_restore_33 : decode cX8_restore 33 = .ok (.putfield 85, 3) := by decide +kernel
theorem dX8_restore_36 : decode cX8_restore 36 = .ok (.iconst 0, 1) := by decide +kernel
theorem dX8_restore_37 : decode cX8_restore 37 = .ok (.istore_n 1, 1) := by decide +kernel
theorem dX8_restore_38 : decode cX8_restore 38 = .ok (.iload_n 1, 1) := by decide +kernel
theorem dX8_restore_39 : decode cX8_restore 39 = .ok (.aload_n 0, 1) := by decide +kernel
theorem dX8_restore_40 : decode cX8_restore 40 = .ok (.getfield 50, 3) := by decide +kernel
theorem dX8_restore_43 : decode cX8_restore 43 = .ok (.invokevirtual 126, 3) := by decide +kernel
theorem dX8_restore_46 : decode cX8_restore 46 = .ok (.if_icmp .ge 24, 3) := by decide +kernel
theorem dX8_restore_49 : decode cX8_restore 49 = .ok (.aload_n 0, 1) := by decide +kernel
theorem dX8_restore_50 : decode cX8_restore 50 = .ok (.getfield 50, 3) := by decide +kernel
theorem dX8_restore_53 : decode cX8_restore 53 = .ok (.iload_n 1, 1) := by decide +kernel
theorem dX8_restore_54 : decode cX8_restore 54 = .ok (.invokevirtual 383, 3) := by decide +kernel
theorem dX8_restore_57 : decode cX8_restore 57 = .ok (.checkcast 135, 3) := by decide +kernel
theorem dX8_restore_60 : decode cX8_restore 60 = .ok (.iconst 1, 1) := by decide +kernel
theorem dX8_restore_61 : decode cX8_restore 61 = .ok (.putfield 387, 3) := by decide +kernel
theorem dX8_restore_64 : decode cX8_restore 64 = .ok (.iinc 1 1, 3) := by decide +kernel
theorem dX8_restore_67 : decode cX8_restore 67 = .ok (.goto (-29), 3) := by decide +kernel
theorem dX8_restore_70 : decode cX8_restore 70 = .ok (.iconst 0, 1) := by decide +kernel
theorem dX8_restore_71 : decode cX8_restore 71 = .ok (.istore_n 1, 1) := by decide +kernel
theorem dX8_restore_72 : decode cX8_restore 72 = .ok (.iload_n 1, 1) := by decide +kernel
theorem dX8_restore_73 : decode cX8_restore 73 = .ok (.aload_n 0, 1) := by decide +kernel
theorem dX8_restore_74 : decode cX8_restore 74 = .ok (.getfield 54, 3) := by decide +kernel
theorem dX8_restore_77 : decode cX8_restore 77 = .ok (.invokevirtual 126, 3) := by decide +kernel
theorem dX8_restore_80 : decode cX8_restore 80 = .ok (.if_icmp .ge 24, 3) := by decide +kernel
theorem dX8_restore_83 : decode cX8_restore 83 = .ok (.aload_n 0, 1) := by decide +kernel
theorem dX8_restore_84 : decode cX8_restore 84 = .ok (.getfield 54, 3) := by decide +kernel
theorem dX8_restore_87 : decode cX8_restore 87 = .ok (.iload_n 1, 1) := by decide +kernel
theorem dX8_restore_88 : decode cX8_restore 88 = .ok (.invokevirtual 383, 3) := by decide +kernel
theorem dX8_restore_91 : decode cX8_restore 91 = .ok (.checkcast 185, 3) := by decide +kernel
theorem dX8_restore_94 : decode cX8_restore 94 = .ok (.iconst 1, 1) := by decide +kernel
theorem dX8_restore_95 : decode cX8_restore 95 = .ok (.putfield 194, 3) := by decide +kernel
theorem dX8_restore_98 : decode cX8_restore 98 = .ok (.iinc 1 1, 3) := by decide +kernel
theorem dX8_restore_101 : decode cX8_restore 101 = .ok (.goto (-29), 3) := by decide +kernel
theorem dX8_restore_104 : decode cX8_restore 104 = .ok (.aload_n 0, 1) := by decide +kernel
theorem dX8_restore_105 : decode cX8_restore 105 = .ok (.getfield 34, 3) := by decide +kernel
theorem dX8_restore_108 : decode cX8_restore 108 = .ok (.aload_n 0, 1) := by decide +kernel
theorem dX8_restore_109 : decode cX8_restore 109 = .ok (.getfield 44, 3) := by decide +kernel
theorem dX8_restore_112 : decode cX8_restore 112 = .ok (.invokevirtual 378, 3) := by decide +kernel
theorem dX8_restore_115 : decode cX8_restore 115 = .ok (.aload_n 0, 1) := by decide +kernel
theorem dX8_restore_116 : decode cX8_restore 116 = .ok (.getfield 34, 3) := by decide +kernel
theorem dX8_restore_119 : decode cX8_restore 119 = .ok (.invokevirtual 388, 3) := by decide +kernel
theorem dX8_restore_122 : decode cX8_restore 122 = .ok (.aload_n 0, 1) := by decide +kernel
theorem dX8_restore_123 : decode cX8_restore 123 = .ok (.getfield 40, 3) := by decide +kernel
theorem dX8_restore_126 : decode cX8_restore 126 = .ok (.iconst 0, 1) := by decide +kernel
theorem dX8_restore_127 : decode cX8_restore 127 = .ok (.putfield 356, 3) := by decide +kernel
theorem dX8_restore_130 : decode cX8_restore 130 = .ok (.iconst 0, 1) := by decide +kernel
theorem dX8_restore_131 : decode cX8_restore 131 = .ok (.istore_n 1, 1) := by decide +kernel
theorem dX8_restore_132 : decode cX8_restore 132 = .ok (.iload_n 1, 1) := by decide +kernel
theorem dX8_restore_133 : decode cX8_restore 133 = .ok (.iconst 3, 1) := by decide +kernel
theorem dX8_restore_134 : decode cX8_restore 134 = .ok (.if_icmp .ge 48, 3) := by decide +kernel
theorem dX8_restore_137 : decode cX8_restore 137 = .ok (.aload_n 0, 1) := by decide +kernel
theorem dX8_restore_138 : decode cX8_restore 138 = .ok (.getfield 18, 3) := by decide +kernel
theorem dX8_restore_141 : decode cX8_restore 141 = .ok (.iload_n 1, 1) := by decide +kernel
theorem dX8_restore_142 : decode cX8_restore 142 = .ok (.aaload, 1) := by decide +kernel
theorem dX8_restore_143 : decode cX8_restore 143 = .ok (.getfield 277, 3) := by decide +kernel
theorem dX8_restore_146 : decode cX8_restore 146 = .ok (.aload_n 0, 1) := by decide +kernel
theorem dX8_restore_147 : decode cX8_restore 147 = .ok (.getfield 34, 3) := by decide +kernel
theorem dX8_restore_150 : decode cX8_restore 150 = .ok (.invokevirtual 378, 3) := by decide +kernel
theorem dX8_restore_153 : decode cX8_restore 153 = .ok (.aload_n 0, 1) := by decide +kernel
theorem dX8_restore_154 : decode cX8_restore 154 = .ok (.getfield 18, 3) := by decide +kernel
theorem dX8_restore_157 : decode cX8_restore 157 = .ok (.iload_n 1, 1) := by decide +kernel
theorem dX8_restore_158 : decode cX8_restore 158 = .ok (.aaload, 1) := by decide +kernel
theorem dX8_restore_159 : decode cX8_restore 159 = .ok (.aload_n 0, 1) := by decide +kernel
theorem dX8_restore_160 : decode cX8_restore 160 = .ok (.getfield 82, 3) := by decide +kernel
theorem dX8_restore_163 : decode cX8_restore 163 = .ok (.putfield 166, 3) := by decide +kernel
theorem dX8_restore_166 : decode cX8_restore 166 = .ok (.aload_n 0, 1) := by decide +kernel
theorem dX8_restore_167 : decode cX8_restore 167 = .ok (.getfield 18, 3) := by decide +kernel
theorem dX8_restore_170 : decode cX8_restore 170 = .ok (.iload_n 1, 1) := by decide +kernel
theorem dX8_restore_171 : decode cX8_restore 171 = .ok (.aaload, 1) := by decide +kernel
theorem dX8_restore_172 : decode cX8_restore 172 = .ok (.iconst 0, 1) := by decide +kernel
theorem dX8_restore_173 : decode cX8_restore 173 = .ok (.putfield 391, 3) := by decide +kernel
theorem dX8_restore_176 : decode cX8_restore 176 = .ok (.iinc 1 1, 3) := by decide +kernel
theorem dX8_restore_179 : decode cX8_restore 179 = .ok (.goto (-47), 3) := by decide +kernel
theorem dX8_restore_182 : decode cX8_restore 182 = .ok (.aload_n 0, 1) := by decide +kernel
theorem dX8_restore_183 : decode cX8_restore 183 = .ok (.getfield 82, 3) := by decide +kernel
theorem dX8_restore_186 : decode cX8_restore 186 = .ok (.ireturn, 1) := by decide +kernel
theorem dX8_changes_0 : decode cX8_changes 0 = .ok (.aload_n 0, 1) := by decide +kernel
theorem dX8_changes_1 : decode cX8_changes 1 = .ok (.getfield 82, 3) := by decide +kernel
theorem dX8_changes_4 : decode cX8_changes 4 = .ok (.ireturn, 1) := by decide +kernel
theorem dX8_isWithin_0 : decode cX8_isWithin 0 = .ok (.iload_n 0, 1) := by decide +kernel
theorem dX8_isWithin_1 : decode cX8_isWithin 1 = .ok (.iload_n 1, 1) := by decide +kernel
theorem dX8_isWithin_2 : decode cX8_isWithin 2 = .ok (.if_icmp .lt 12, 3) := by decide +kernel
theorem dX8_isWithin_5 : decode cX8_isWithin 5 = .ok (.iload_n 0, 1) := by decide +kernel
theorem dX8_isWithin_6 : decode cX8_isWithin 6 = .ok (.iload_n 2, 1) := by decide +kernel
theorem dX8_isWithin_7 : decode cX8_isWithin 7 = .ok (.if_icmp .gt 7, 3) := by decide +kernel
theorem dX8_isWithin_10 : decode cX8_isWithin 10 = .ok (.iconst 1, 1) := by decide +kernel
theorem dX8_isWithin_11 : decode cX8_isWithin 11 = .ok (.goto 4, 3) := by decide +kernel
theorem dX8_isWithin_14 : decode cX8_isWithin 14 = .ok (.iconst 0, 1) := by decide +kernel
theorem dX8_isWithin_15 : decode cX8_isWithin 15 = .ok (.ireturn, 1) := by decide +kernel
theorem dX8_known_0 : decode cX8_known 0 = .ok (.iload_n 1, 1) := by decide +kernel
theorem dX8_known_1 : decode cX8_known 1 = .ok (.ifCond .lt 14, 3) := by decide +kernel
theorem dX8_known_4 : decode cX8_known 4 = .ok (.iload_n 1, 1) := by decide +kernel
theorem dX8_known_5 : decode cX8_known 5 = .ok (.aload_n 0, 1) := by decide +kernel
theorem dX8_known_6 : decode cX8_known 6 = .ok (.getfield 50, 3) := by decide +kernel
theorem dX8_known_9 : decode cX8_known 9 = .ok (.invokevirtual 126, 3) := by decide +kernel
theorem dX8_known_12 : decode cX8_known 12 = .ok (.if_icmp .lt 14, 3) := by decide +kernel
theorem dX8_known_15 : decode cX8_known 15 = .ok (.new 110, 3) := by decide +kernel
theorem dX8_known_18 : decode cX8_known 18 = .ok (.dup, 1) := by decide +kernel
theorem dX8_known_19 : decode cX8_known 19 = .ok (.ldc_w 394, 3) := by decide +kernel
theorem dX8_known_22 : decode cX8_known 22 = .ok (.invokespecial 114, 3) := by decide +kernel
theorem dX8_known_25 : decode cX8_known 25 = .ok (.athrow, 1) := by decide +kernel
theorem dX8_known_26 : decode cX8_known 26 = .ok (.aload_n 0, 1) := by decide +kernel
theorem dX8_known_27 : decode cX8_known 27 = .ok (.getfield 50, 3) := by decide +kernel
theorem dX8_known_30 : decode cX8_known 30 = .ok (.iload_n 1, 1) := by decide +kernel
theorem dX8_known_31 : decode cX8_known 31 = .ok (.invokevirtual 383, 3) := by decide +kernel
theorem dX8_known_34 : decode cX8_known 34 = .ok (.checkcast 135, 3) := by decide +kernel
theorem dX8_known_37 : decode cX8_known 37 = .ok (.areturn, 1) := by decide +kernel
theorem dX8_knownServer_0 : decode cX8_knownServer 0 = .ok (.iload_n 1, 1) := by decide +kernel
theorem dX8_knownServer_1 : decode cX8_knownServer 1 = .ok (.ifCond .lt 8, 3) := by decide +kernel
theorem dX8_knownServer_4 : decode cX8_knownServer 4 = .ok (.iload_n 1, 1) := by decide +kernel
theorem dX8_knownServer_5 : decode cX8_knownServer 5 = .ok (.iconst 3, 1) := by decide +kernel
theorem dX8_knownServer_6 : decode cX8_knownServer 6 = .ok (.if_icmp .lt 14, 3) := by decide +kernel
theorem dX8_knownServer_9 : decode cX8_knownServer 9 = .ok (.new 110, 3) := by decide +kernel
theorem dX8_knownServer_12 : decode cX8_knownServer 12 = .ok (.dup, 1) := by decide +kernel
theorem dX8_knownServer_13 : decode cX8_knownServer 13 = .ok (.ldc_w 396, 3) := by decide +kernel
theorem dX8_knownServer_16 : decode cX8_knownServer 16 = .ok (.invokespecial 114, 3) := by decide +kernel
theorem dX8_knownServer_19 : decode cX8_knownServer 19 = .ok (.athrow, 1) := by decide +kernel
theorem dX8_knownServer_20 : decode cX8_knownServer 20 = .ok (.aload_n 0, 1) := by decide +kernel
theorem dX8_knownServer_21 : decode cX8_knownServer 21 = .ok (.getfield 18, 3) := by decide +kernel
theorem dX8_knownServer_24 : decode cX8_knownServer 24 = .ok (.iload_n 1, 1) := by decide +kernel
theorem dX8_knownServer_25 : decode cX8_knownServer 25 = .ok (.aaload, 1) := by decide +kernel
theorem dX8_knownServer_26 : decode cX8_knownServer 26 = .ok (.areturn, 1) := by decide +kernel
theorem dX8_knownLease_0 : decode cX8_knownLease 0 = .ok (.iload_n 1, 1) := by decide +kernel
theorem dX8_knownLease_1 : decode cX8_knownLease 1 = .ok (.ifCond .lt 14, 3) := by decide +kernel
theorem dX8_knownLease_4 : decode cX8_knownLease 4 = .ok (.iload_n 1, 1) := by decide +kernel
theorem dX8_knownLease_5 : decode cX8_knownLease 5 = .ok (.aload_n 0, 1) := by decide +kernel
theorem dX8_knownLease_6 : decode cX8_knownLease 6 = .ok (.getfield 54, 3) := by decide +kernel
theorem dX8_knownLease_9 : decode cX8_knownLease 9 = .ok (.invokevirtual 126, 3) := by decide +kernel
theorem dX8_knownLease_12 : decode cX8_knownLease 12 = .ok (.if_icmp .lt 14, 3) := by decide +kernel
theorem dX8_knownLease_15 : decode cX8_knownLease 15 = .ok (.new 110, 3) := by decide +kernel
theorem dX8_knownLease_18 : decode cX8_knownLease 18 = .ok (.dup, 1) := by decide +kernel
theorem dX8_knownLease_19 : decode cX8_knownLease 19 = .ok (.ldc_w 398, 3) := by decide +kernel
theorem dX8_knownLease_22 : decode cX8_knownLease 22 = .ok (.invokespecial 114, 3) := by decide +kernel
theorem dX8_knownLease_25 : decode cX8_knownLease 25 = .ok (.athrow, 1) := by decide +kernel
theorem dX8_knownLease_26 : decode cX8_knownLease 26 = .ok (.aload_n 0, 1) := by decide +kernel
theorem dX8_knownLease_27 : decode cX8_knownLease 27 = .ok (.getfield 54, 3) := by decide +kernel
theorem dX8_knownLease_30 : decode cX8_knownLease 30 = .ok (.iload_n 1, 1) := by decide +kernel
theorem dX8_knownLease_31 : decode cX8_knownLease 31 = .ok (.invokevirtual 383, 3) := by decide +kernel
theorem dX8_knownLease_34 : decode cX8_knownLease 34 = .ok (.checkcast 185, 3) := by decide +kernel
theorem dX8_knownLease_37 : decode cX8_knownLease 37 = .ok (.areturn, 1) := by decide +kernel
theorem dX8_mustLive_0 : decode cX8_mustLive 0 = .ok (.aload_n 1, 1) := by decide +kernel
theorem dX8_mustLive_1 : decode cX8_mustLive 1 = .ok (.getfield 387, 3) := by decide +kernel
theorem dX8_mustLive_4 : decode cX8_mustLive 4 = .ok (.ifCond .eq 19, 3) := by decide +kernel
theorem dX8_mustLive_7 : decode cX8_mustLive 7 = .ok (.aload_n 0, 1) := by decide +kernel
theorem dX8_mustLive_8 : decode cX8_mustLive 8 = .ok (.aload_n 1, 1) := by decide +kernel
theorem dX8_mustLive_9 : decode cX8_mustLive 9 = .ok (.invokevirtual 152, 3) := by decide +kernel
theorem dX8_mustLive_12 : decode cX8_mustLive 12 = .ok (.new 130, 3) := by decide +kernel
theorem dX8_mustLive_15 : decode cX8_mustLive 15 = .ok (.dup, 1) := by decide +kernel
theorem dX8_mustLive_16 : decode cX8_mustLive 16 = .ok (.ldc_w 400, 3) := by decide +kernel
theorem dX8_mustLive_19 : decode cX8_mustLive 19 = .ok (.invokespecial 134, 3) := by decide +kernel
theorem dX8_mustLive_22 : decode cX8_mustLive 22 = .ok (.athrow, 1) := by decide +kernel
theorem dX8_mustLive_23 : decode cX8_mustLive 23 = .ok (.return_, 1) := by decide +kernel
theorem dX8_wake_0 : decode cX8_wake 0 = .ok (.aload_n 0, 1) := by decide +kernel
theorem dX8_wake_1 : decode cX8_wake 1 = .ok (.aload_n 1, 1) := by decide +kernel
theorem dX8_wake_2 : decode cX8_wake 2 = .ok (.invokevirtual 148, 3) := by decide +kernel
theorem dX8_wake_5 : decode cX8_wake 5 = .ok (.aload_n 1, 1) := by decide +kernel
theorem dX8_wake_6 : decode cX8_wake 6 = .ok (.aload_n 0, 1) := by decide +kernel
theorem dX8_wake_7 : decode cX8_wake 7 = .ok (.getfield 79, 3) := by decide +kernel
theorem dX8_wake_10 : decode cX8_wake 10 = .ok (.putfield 238, 3) := by decide +kernel
theorem dX8_wake_13 : decode cX8_wake 13 = .ok (.return_, 1) := by decide +kernel
theorem dX8_mustNotGather_0 : decode cX8_mustNotGather 0 = .ok (.aload_n 0, 1) := by decide +kernel
theorem dX8_mustNotGather_1 : decode cX8_mustNotGather 1 = .ok (.getfield 241, 3) := by decide +kernel
theorem dX8_mustNotGather_4 : decode cX8_mustNotGather 4 = .ok (.ifCond .eq 14, 3) := by decide +kernel
theorem dX8_mustNotGather_7 : decode cX8_mustNotGather 7 = .ok (.new 130, 3) := by decide +kernel
theorem dX8_mustNotGather_10 : decode cX8_mustNotGather 10 = .ok (.dup, 1) := by decide +kernel
theorem dX8_mustNotGather_11 : decode cX8_mustNotGather 11 = .ok (.ldc_w 402, 3) := by decide +kernel
theorem dX8_mustNotGather_14 : decode cX8_mustNotGather 14 = .ok (.invokespecial 134, 3) := by decide +kernel
theorem dX8_mustNotGather_17 : decode cX8_mustNotGather 17 = .ok (.athrow, 1) := by decide +kernel
theorem dX8_mustNotGather_18 : decode cX8_mustNotGather 18 = .ok (.return_, 1) := by decide +kernel
theorem dX8_mustBeName_0 : decode cX8_mustBeName 0 = .ok (.iload_n 1, 1) := by decide +kernel
theorem dX8_mustBeName_1 : decode cX8_mustBeName 1 = .ok (.ifCond .ne 24, 3) := by decide +kernel
theorem dX8_mustBeName_4 : decode cX8_mustBeName 4 = .ok (.iload_n 0, 1) := by decide +kernel
theorem dX8_mustBeName_5 : decode cX8_mustBeName 5 = .ok (.iconst 0, 1) := by decide +kernel
theorem dX8_mustBeName_6 : decode cX8_mustBeName 6 = .ok (.bipush 99, 2) := by decide +kernel
theorem dX8_mustBeName_8 : decode cX8_mustBeName 8 = .ok (.invokestatic 106, 3) := by decide +kernel
theorem dX8_mustBeName_11 : decode cX8_mustBeName 11 = .ok (.ifCond .ne 14, 3) := by decide +kernel
theorem dX8_mustBeName_14 : decode cX8_mustBeName 14 = .ok (.new 121, 3) := by decide +kernel
theorem dX8_mustBeName_17 : decode cX8_mustBeName 17 = .ok (.dup, 1) := by decide +kernel
theorem dX8_mustBeName_18 : decode cX8_mustBeName 18 = .ok (.ldc_w 404, 3) := by decide +kernel
theorem dX8_mustBeName_21 : decode cX8_mustBeName 21 = .ok (.invokespecial 125, 3) := by decide +kernel
theorem dX8_mustBeName_24 : decode cX8_mustBeName 24 = .ok (.athrow, 1) := by decide +kernel
theorem dX8_mustBeName_25 : decode cX8_mustBeName 25 = .ok (.return_, 1) := by decide +kernel
theorem dX8_mustBeValue_0 : decode cX8_mustBeValue 0 = .ok (.iload_n 0, 1) := by decide +kernel
theorem dX8_mustBeValue_1 : decode cX8_mustBeValue 1 = .ok (.sipush (-1000), 3) := by decide +kernel
theorem dX8_mustBeValue_4 : decode cX8_mustBeValue 4 = .ok (.sipush 1000, 3) := by decide +kernel
theorem dX8_mustBeValue_7 : decode cX8_mustBeValue 7 = .ok (.invokestatic 106, 3) := by decide +kernel
theorem dX8_mustBeValue_10 : decode cX8_mustBeValue 10 = .ok (.ifCond .ne 14, 3) := by decide +kernel
theorem dX8_mustBeValue_13 : decode cX8_mustBeValue 13 = .ok (.new 121, 3) := by decide +kernel
theorem dX8_mustBeValue_16 : decode cX8_mustBeValue 16 = .ok (.dup, 1) := by decide +kernel
theorem dX8_mustBeValue_17 : decode cX8_mustBeValue 17 = .ok (.ldc_w 406, 3) := by decide +kernel
theorem dX8_mustBeValue_20 : decode cX8_mustBeValue 20 = .ok (.invokespecial 125, 3) := by decide +kernel
theorem dX8_mustBeValue_23 : decode cX8_mustBeValue 23 = .ok (.athrow, 1) := by decide +kernel
theorem dX8_mustBeValue_24 : decode cX8_mustBeValue 24 = .ok (.return_, 1) := by decide +kernel
theorem dX8_mustBeChange_0 : decode cX8_mustBeChange 0 = .ok (.iload_n 1, 1) := by decide +kernel
theorem dX8_mustBeChange_1 : decode cX8_mustBeChange 1 = .ok (.iconst 0, 1) := by decide +kernel
theorem dX8_mustBeChange_2 : decode cX8_mustBeChange 2 = .ok (.aload_n 0, 1) := by decide +kernel
theorem dX8_mustBeChange_3 : decode cX8_mustBeChange 3 = .ok (.getfield 82, 3) := by decide +kernel
theorem dX8_mustBeChange_6 : decode cX8_mustBeChange 6 = .ok (.invokestatic 106, 3) := by decide +kernel
theorem dX8_mustBeChange_9 : decode cX8_mustBeChange 9 = .ok (.ifCond .ne 14, 3) := by decide +kernel
theorem dX8_mustBeChange_12 : decode cX8_mustBeChange 12 = .ok (.new 121, 3) := by decide +kernel
theorem dX8_mustBeChange_15 : decode cX8_mustBeChange 15 = .ok (.dup, 1) := by decide +kernel
theorem dX8_mustBeChange_16 : decode cX8_mustBeChange 16 = .ok (.ldc_w 408, 3) := by decide +kernel
theorem dX8_mustBeChange_19 : decode cX8_mustBeChange 19 = .ok (.invokespecial 125, 3) := by decide +kernel
theorem dX8_mustBeChange_22 : decode cX8_mustBeChange 22 = .ok (.athrow, 1) := by decide +kernel
theorem dX8_mustBeChange_23 : decode cX8_mustBeChange 23 = .ok (.return_, 1) := by decide +kernel
theorem dX8_mustBeKept_0 : decode cX8_mustBeKept 0 = .ok (.iload_n 1, 1) := by decide +kernel
theorem dX8_mustBeKept_1 : decode cX8_mustBeKept 1 = .ok (.aload_n 0, 1) := by decide +kernel
theorem dX8_mustBeKept_2 : decode cX8_mustBeKept 2 = .ok (.getfield 85, 3) := by decide +kernel
theorem dX8_mustBeKept_5 : decode cX8_mustBeKept 5 = .ok (.if_icmp .ge 14, 3) := by decide +kernel
theorem dX8_mustBeKept_8 : decode cX8_mustBeKept 8 = .ok (.new 130, 3) := by decide +kernel
theorem dX8_mustBeKept_11 : decode cX8_mustBeKept 11 = .ok (.dup, 1) := by decide +kernel
theorem dX8_mustBeKept_12 : decode cX8_mustBeKept 12 = .ok (.ldc_w 410, 3) := by decide +kernel
theorem dX8_mustBeKept_15 : decode cX8_mustBeKept 15 = .ok (.invokespecial 134, 3) := by decide +kernel
theorem dX8_mustBeKept_18 : decode cX8_mustBeKept 18 = .ok (.athrow, 1) := by decide +kernel
theorem dX8_mustBeKept_19 : decode cX8_mustBeKept 19 = .ok (.return_, 1) := by decide +kernel
theorem dX8_nextAct_0 : decode cX8_nextAct 0 = .ok (.aload_n 0, 1) := by decide +kernel
theorem dX8_nextAct_1 : decode cX8_nextAct 1 = .ok (.aload_n 1, 1) := by decide +kernel
