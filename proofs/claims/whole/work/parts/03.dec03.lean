theorem dX8_nextAct_2 : decode cX8_nextAct 2 = .ok (.invokevirtual 148, 3) := by decide +kernel
theorem dX8_nextAct_5 : decode cX8_nextAct 5 = .ok (.aload_n 1, 1) := by decide +kernel
theorem dX8_nextAct_6 : decode cX8_nextAct 6 = .ok (.getfield 241, 3) := by decide +kernel
theorem dX8_nextAct_9 : decode cX8_nextAct 9 = .ok (.ifCond .eq 23, 3) := by decide +kernel
theorem dX8_nextAct_12 : decode cX8_nextAct 12 = .ok (.aload_n 1, 1) := by decide +kernel
theorem dX8_nextAct_13 : decode cX8_nextAct 13 = .ok (.getfield 244, 3) := by decide +kernel
theorem dX8_nextAct_16 : decode cX8_nextAct 16 = .ok (.bipush 6, 2) := by decide +kernel
theorem dX8_nextAct_18 : decode cX8_nextAct 18 = .ok (.if_icmp .lt 14, 3) := by decide +kernel
theorem dX8_nextAct_21 : decode cX8_nextAct 21 = .ok (.new 130, 3) := by decide +kernel
theorem dX8_nextAct_24 : decode cX8_nextAct 24 = .ok (.dup, 1) := by decide +kernel
theorem dX8_nextAct_25 : decode cX8_nextAct 25 = .ok (.ldc_w 412, 3) := by decide +kernel
theorem dX8_nextAct_28 : decode cX8_nextAct 28 = .ok (.invokespecial 134, 3) := by decide +kernel
theorem dX8_nextAct_31 : decode cX8_nextAct 31 = .ok (.athrow, 1) := by decide +kernel
theorem dX8_nextAct_32 : decode cX8_nextAct 32 = .ok (.aload_n 1, 1) := by decide +kernel
theorem dX8_nextAct_33 : decode cX8_nextAct 33 = .ok (.aload_n 0, 1) := by decide +kernel
theorem dX8_nextAct_34 : decode cX8_nextAct 34 = .ok (.getfield 79, 3) := by decide +kernel
theorem dX8_nextAct_37 : decode cX8_nextAct 37 = .ok (.putfield 238, 3) := by decide +kernel
theorem dX8_nextAct_40 : decode cX8_nextAct 40 = .ok (.aload_n 1, 1) := by decide +kernel
theorem dX8_nextAct_41 : decode cX8_nextAct 41 = .ok (.getfield 241, 3) := by decide +kernel
theorem dX8_nextAct_44 : decode cX8_nextAct 44 = .ok (.ifCond .eq 15, 3) := by decide +kernel
theorem dX8_nextAct_47 : decode cX8_nextAct 47 = .ok (.aload_n 1, 1) := by decide +kernel
theorem dX8_nextAct_48 : decode cX8_nextAct 48 = .ok (.getfield 414, 3) := by decide +kernel
theorem dX8_nextAct_51 : decode cX8_nextAct 51 = .ok (.aload_n 1, 1) := by decide +kernel
theorem dX8_nextAct_52 : decode cX8_nextAct 52 = .ok (.getfield 244, 3) := by decide +kernel
theorem dX8_nextAct_55 : decode cX8_nextAct 55 = .ok (.aaload, 1) := by decide +kernel
theorem dX8_nextAct_56 : decode cX8_nextAct 56 = .ok (.goto 7, 3) := by decide +kernel
theorem dX8_nextAct_59 : decode cX8_nextAct 59 = .ok (.aload_n 0, 1) := by decide +kernel
theorem dX8_nextAct_60 : decode cX8_nextAct 60 = .ok (.getfield 60, 3) := by decide +kernel
theorem dX8_nextAct_63 : decode cX8_nextAct 63 = .ok (.areturn, 1) := by decide +kernel
theorem dX8_submit_0 : decode cX8_submit 0 = .ok (.aload_n 1, 1) := by decide +kernel
theorem dX8_submit_1 : decode cX8_submit 1 = .ok (.getfield 241, 3) := by decide +kernel
theorem dX8_submit_4 : decode cX8_submit 4 = .ok (.ifCond .eq 16, 3) := by decide +kernel
theorem dX8_submit_7 : decode cX8_submit 7 = .ok (.aload_n 1, 1) := by decide +kernel
theorem dX8_submit_8 : decode cX8_submit 8 = .ok (.dup, 1) := by decide +kernel
theorem dX8_submit_9 : decode cX8_submit 9 = .ok (.getfield 244, 3) := by decide +kernel
theorem dX8_submit_12 : decode cX8_submit 12 = .ok (.iconst 1, 1) := by decide +kernel
theorem dX8_submit_13 : decode cX8_submit 13 = .ok (.iadd, 1) := by decide +kernel
theorem dX8_submit_14 : decode cX8_submit 14 = .ok (.putfield 244, 3) := by decide +kernel
theorem dX8_submit_17 : decode cX8_submit 17 = .ok (.bipush (-11), 2) := by decide +kernel
theorem dX8_submit_19 : decode cX8_submit 19 = .ok (.ireturn, 1) := by decide +kernel
theorem dX8_submit_20 : decode cX8_submit 20 = .ok (.aload_n 0, 1) := by decide +kernel
theorem dX8_submit_21 : decode cX8_submit 21 = .ok (.invokevirtual 418, 3) := by decide +kernel
theorem dX8_submit_24 : decode cX8_submit 24 = .ok (.aload_n 0, 1) := by decide +kernel
theorem dX8_submit_25 : decode cX8_submit 25 = .ok (.aload_n 1, 1) := by decide +kernel
theorem dX8_submit_26 : decode cX8_submit 26 = .ok (.aload_n 2, 1) := by decide +kernel
theorem dX8_submit_27 : decode cX8_submit 27 = .ok (.invokevirtual 421, 3) := by decide +kernel
theorem dX8_submit_30 : decode cX8_submit 30 = .ok (.istore_n 3, 1) := by decide +kernel
theorem dX8_submit_31 : decode cX8_submit 31 = .ok (.iload_n 3, 1) := by decide +kernel
theorem dX8_submit_32 : decode cX8_submit 32 = .ok (.ifCond .ge 5, 3) := by decide +kernel
theorem dX8_submit_35 : decode cX8_submit 35 = .ok (.iload_n 3, 1) := by decide +kernel
theorem dX8_submit_36 : decode cX8_submit 36 = .ok (.ireturn, 1) := by decide +kernel
theorem dX8_submit_37 : decode cX8_submit 37 = .ok (.aload_n 0, 1) := by decide +kernel
theorem dX8_submit_38 : decode cX8_submit 38 = .ok (.aload_n 1, 1) := by decide +kernel
theorem dX8_submit_39 : decode cX8_submit 39 = .ok (.invokevirtual 258, 3) := by decide +kernel
theorem dX8_submit_42 : decode cX8_submit 42 = .ok (.ifCond .eq 7, 3) := by decide +kernel
theorem dX8_submit_45 : decode cX8_submit 45 = .ok (.iload_n 3, 1) := by decide +kernel
theorem dX8_submit_46 : decode cX8_submit 46 = .ok (.goto 5, 3) := by decide +kernel
theorem dX8_submit_49 : decode cX8_submit 49 = .ok (.bipush (-9), 2) := by decide +kernel
theorem dX8_submit_51 : decode cX8_submit 51 = .ok (.ireturn, 1) := by decide +kernel
theorem dX8_performAll_0 : decode cX8_performAll 0 = .ok (.aload_n 0, 1) := by decide +kernel
theorem dX8_performAll_1 : decode cX8_performAll 1 = .ok (.invokevirtual 418, 3) := by decide +kernel
theorem dX8_performAll_4 : decode cX8_performAll 4 = .ok (.iconst (-1), 1) := by decide +kernel
theorem dX8_performAll_5 : decode cX8_performAll 5 = .ok (.istore_n 2, 1) := by decide +kernel
theorem dX8_performAll_6 : decode cX8_performAll 6 = .ok (.aload_n 1, 1) := by decide +kernel
theorem dX8_performAll_7 : decode cX8_performAll 7 = .ok (.aload_n 1, 1) := by decide +kernel
theorem dX8_performAll_8 : decode cX8_performAll 8 = .ok (.getfield 244, 3) := by decide +kernel
theorem dX8_performAll_11 : decode cX8_performAll 11 = .ok (.putfield 255, 3) := by decide +kernel
theorem dX8_performAll_14 : decode cX8_performAll 14 = .ok (.iconst 0, 1) := by decide +kernel
theorem dX8_performAll_15 : decode cX8_performAll 15 = .ok (.istore_n 3, 1) := by decide +kernel
theorem dX8_performAll_16 : decode cX8_performAll 16 = .ok (.iload_n 3, 1) := by decide +kernel
theorem dX8_performAll_17 : decode cX8_performAll 17 = .ok (.aload_n 1, 1) := by decide +kernel
theorem dX8_performAll_18 : decode cX8_performAll 18 = .ok (.getfield 244, 3) := by decide +kernel
theorem dX8_performAll_21 : decode cX8_performAll 21 = .ok (.if_icmp .ge 56, 3) := by decide +kernel
theorem dX8_performAll_24 : decode cX8_performAll 24 = .ok (.iload_n 3, 1) := by decide +kernel
theorem dX8_performAll_25 : decode cX8_performAll 25 = .ok (.bipush 6, 2) := by decide +kernel
theorem dX8_performAll_27 : decode cX8_performAll 27 = .ok (.if_icmp .ge 50, 3) := by decide +kernel
theorem dX8_performAll_30 : decode cX8_performAll 30 = .ok (.aload_n 1, 1) := by decide +kernel
theorem dX8_performAll_31 : decode cX8_performAll 31 = .ok (.getfield 264, 3) := by decide +kernel
theorem dX8_performAll_34 : decode cX8_performAll 34 = .ok (.iload_n 3, 1) := by decide +kernel
theorem dX8_performAll_35 : decode cX8_performAll 35 = .ok (.iload_n 2, 1) := by decide +kernel
theorem dX8_performAll_36 : decode cX8_performAll 36 = .ok (.ifCond .lt 8, 3) := by decide +kernel
theorem dX8_performAll_39 : decode cX8_performAll 39 = .ok (.bipush (-10), 2) := by decide +kernel
theorem dX8_performAll_41 : decode cX8_performAll 41 = .ok (.goto 14, 3) := by decide +kernel
theorem dX8_performAll_44 : decode cX8_performAll 44 = .ok (.aload_n 0, 1) := by decide +kernel
theorem dX8_performAll_45 : decode cX8_performAll 45 = .ok (.aload_n 1, 1) := by decide +kernel
theorem dX8_performAll_46 : decode cX8_performAll 46 = .ok (.aload_n 1, 1) := by decide +kernel
theorem dX8_performAll_47 : decode cX8_performAll 47 = .ok (.getfield 414, 3) := by decide +kernel
theorem dX8_performAll_50 : decode cX8_performAll 50 = .ok (.iload_n 3, 1) := by decide +kernel
theorem dX8_performAll_51 : decode cX8_performAll 51 = .ok (.aaload, 1) := by decide +kernel
theorem dX8_performAll_52 : decode cX8_performAll 52 = .ok (.invokevirtual 421, 3) := by decide +kernel
theorem dX8_performAll_55 : decode cX8_performAll 55 = .ok (.iastore, 1) := by decide +kernel
theorem dX8_performAll_56 : decode cX8_performAll 56 = .ok (.iload_n 2, 1) := by decide +kernel
theorem dX8_performAll_57 : decode cX8_performAll 57 = .ok (.ifCond .ge 14, 3) := by decide +kernel
theorem dX8_performAll_60 : decode cX8_performAll 60 = .ok (.aload_n 1, 1) := by decide +kernel
theorem dX8_performAll_61 : decode cX8_performAll 61 = .ok (.getfield 264, 3) := by decide +kernel
theorem dX8_performAll_64 : decode cX8_performAll 64 = .ok (.iload_n 3, 1) := by decide +kernel
theorem dX8_performAll_65 : decode cX8_performAll 65 = .ok (.iaload, 1) := by decide +kernel
theorem dX8_performAll_66 : decode cX8_performAll 66 = .ok (.ifCond .ge 5, 3) := by decide +kernel
theorem dX8_performAll_69 : decode cX8_performAll 69 = .ok (.iload_n 3, 1) := by decide +kernel
theorem dX8_performAll_70 : decode cX8_performAll 70 = .ok (.istore_n 2, 1) := by decide +kernel
theorem dX8_performAll_71 : decode cX8_performAll 71 = .ok (.iinc 3 1, 3) := by decide +kernel
theorem dX8_performAll_74 : decode cX8_performAll 74 = .ok (.goto (-58), 3) := by decide +kernel
theorem dX8_performAll_77 : decode cX8_performAll 77 = .ok (.iload_n 2, 1) := by decide +kernel
theorem dX8_performAll_78 : decode cX8_performAll 78 = .ok (.ireturn, 1) := by decide +kernel
theorem dX8_begin_0 : decode cX8_begin 0 = .ok (.aload_n 0, 1) := by decide +kernel
theorem dX8_begin_1 : decode cX8_begin 1 = .ok (.getfield 31, 3) := by decide +kernel
theorem dX8_begin_4 : decode cX8_begin 4 = .ok (.aload_n 0, 1) := by decide +kernel
theorem dX8_begin_5 : decode cX8_begin 5 = .ok (.getfield 27, 3) := by decide +kernel
theorem dX8_begin_8 : decode cX8_begin 8 = .ok (.invokevirtual 378, 3) := by decide +kernel
theorem dX8_begin_11 : decode cX8_begin 11 = .ok (.aload_n 0, 1) := by decide +kernel
theorem dX8_begin_12 : decode cX8_begin 12 = .ok (.aload_n 0, 1) := by decide +kernel
theorem dX8_begin_13 : decode cX8_begin 13 = .ok (.getfield 10, 3) := by decide +kernel
theorem dX8_begin_16 : decode cX8_begin 16 = .ok (.getfield 424, 3) := by decide +kernel
theorem dX8_begin_19 : decode cX8_begin 19 = .ok (.putfield 75, 3) := by decide +kernel
theorem dX8_begin_22 : decode cX8_begin 22 = .ok (.return_, 1) := by decide +kernel
theorem dX8_undo_0 : decode cX8_undo 0 = .ok (.aload_n 0, 1) := by decide +kernel
theorem dX8_undo_1 : decode cX8_undo 1 = .ok (.getfield 27, 3) := by decide +kernel
theorem dX8_undo_4 : decode cX8_undo 4 = .ok (.aload_n 0, 1) := by decide +kernel
theorem dX8_undo_5 : decode cX8_undo 5 = .ok (.getfield 31, 3) := by decide +kernel
theorem dX8_undo_8 : decode cX8_undo 8 = .ok (.invokevirtual 378, 3) := by decide +kernel
theorem dX8_undo_11 : decode cX8_undo 11 = .ok (.aload_n 0, 1) := by decide +kernel
theorem dX8_undo_12 : decode cX8_undo 12 = .ok (.getfield 10, 3) := by decide +kernel
theorem dX8_undo_15 : decode cX8_undo 15 = .ok (.aload_n 0, 1) := by decide +kernel
theorem dX8_undo_16 : decode cX8_undo 16 = .ok (.getfield 75, 3) := by decide +kernel
theorem dX8_undo_19 : decode cX8_undo 19 = .ok (.putfield 424, 3) := by decide +kernel
theorem dX8_undo_22 : decode cX8_undo 22 = .ok (.aload_n 0, 1) := by decide +kernel
theorem dX8_undo_23 : decode cX8_undo 23 = .ok (.getfield 40, 3) := by decide +kernel
theorem dX8_undo_26 : decode cX8_undo 26 = .ok (.aload_n 0, 1) := by decide +kernel
theorem dX8_undo_27 : decode cX8_undo 27 = .ok (.getfield 18, 3) := by decide +kernel
theorem dX8_undo_30 : decode cX8_undo 30 = .ok (.iconst 0, 1) := by decide +kernel
theorem dX8_undo_31 : decode cX8_undo 31 = .ok (.aaload, 1) := by decide +kernel
theorem dX8_undo_32 : decode cX8_undo 32 = .ok (.getfield 391, 3) := by decide +kernel
theorem dX8_undo_35 : decode cX8_undo 35 = .ok (.putfield 356, 3) := by decide +kernel
theorem dX8_undo_38 : decode cX8_undo 38 = .ok (.return_, 1) := by decide +kernel
theorem dX8_commit_0 : decode cX8_commit 0 = .ok (.aload_n 0, 1) := by decide +kernel
theorem dX8_commit_1 : decode cX8_commit 1 = .ok (.getfield 18, 3) := by decide +kernel
theorem dX8_commit_4 : decode cX8_commit 4 = .ok (.iconst 0, 1) := by decide +kernel
theorem dX8_commit_5 : decode cX8_commit 5 = .ok (.aaload, 1) := by decide +kernel
theorem dX8_commit_6 : decode cX8_commit 6 = .ok (.astore_n 1, 1) := by decide +kernel
theorem dX8_commit_7 : decode cX8_commit 7 = .ok (.aload_n 0, 1) := by decide +kernel
theorem dX8_commit_8 : decode cX8_commit 8 = .ok (.getfield 40, 3) := by decide +kernel
theorem dX8_commit_11 : decode cX8_commit 11 = .ok (.getfield 356, 3) := by decide +kernel
theorem dX8_commit_14 : decode cX8_commit 14 = .ok (.aload_n 1, 1) := by decide +kernel
theorem dX8_commit_15 : decode cX8_commit 15 = .ok (.getfield 391, 3) := by decide +kernel
theorem dX8_commit_18 : decode cX8_commit 18 = .ok (.if_icmp .le 32, 3) := by decide +kernel
theorem dX8_commit_21 : decode cX8_commit 21 = .ok (.aload_n 0, 1) := by decide +kernel
theorem dX8_commit_22 : decode cX8_commit 22 = .ok (.dup, 1) := by decide +kernel
theorem dX8_commit_23 : decode cX8_commit 23 = .ok (.getfield 82, 3) := by decide +kernel
theorem dX8_commit_26 : decode cX8_commit 26 = .ok (.iconst 1, 1) := by decide +kernel
theorem dX8_commit_27 : decode cX8_commit 27 = .ok (.iadd, 1) := by decide +kernel
theorem dX8_commit_28 : decode cX8_commit 28 = .ok (.putfield 82, 3) := by decide +kernel
theorem dX8_commit_31 : decode cX8_commit 31 = .ok (.aload_n 1, 1) := by decide +kernel
theorem dX8_commit_32 : decode cX8_commit 32 = .ok (.aload_n 0, 1) := by decide +kernel
theorem dX8_commit_33 : decode cX8_commit 33 = .ok (.getfield 82, 3) := by decide +kernel
theorem dX8_commit_36 : decode cX8_commit 36 = .ok (.putfield 166, 3) := by decide +kernel
theorem dX8_commit_39 : decode cX8_commit 39 = .ok (.aload_n 1, 1) := by decide +kernel
theorem dX8_commit_40 : decode cX8_commit 40 = .ok (.aload_n 0, 1) := by decide +kernel
theorem dX8_commit_41 : decode cX8_commit 41 = .ok (.getfield 40, 3) := by decide +kernel
theorem dX8_commit_44 : decode cX8_commit 44 = .ok (.getfield 356, 3) := by decide +kernel
theorem dX8_commit_47 : decode cX8_commit 47 = .ok (.putfield 391, 3) := by decide +kernel
theorem dX8_commit_50 : decode cX8_commit 50 = .ok (.return_, 1) := by decide +kernel
theorem dX8_settle_0 : decode cX8_settle 0 = .ok (.aload_n 0, 1) := by decide +kernel
theorem dX8_settle_1 : decode cX8_settle 1 = .ok (.getfield 88, 3) := by decide +kernel
theorem dX8_settle_4 : decode cX8_settle 4 = .ok (.istore_n 2, 1) := by decide +kernel
theorem dX8_settle_5 : decode cX8_settle 5 = .ok (.aload_n 0, 1) := by decide +kernel
theorem dX8_settle_6 : decode cX8_settle 6 = .ok (.iconst 0, 1) := by decide +kernel
theorem dX8_settle_7 : decode cX8_settle 7 = .ok (.putfield 88, 3) := by decide +kernel
theorem dX8_settle_10 : decode cX8_settle 10 = .ok (.iload_n 2, 1) := by decide +kernel
theorem dX8_settle_11 : decode cX8_settle 11 = .ok (.iconst 2, 1) := by decide +kernel
theorem dX8_settle_12 : decode cX8_settle 12 = .ok (.if_icmp .ne 9, 3) := by decide +kernel
theorem dX8_settle_15 : decode cX8_settle 15 = .ok (.aload_n 0, 1) := by decide +kernel
theorem dX8_settle_16 : decode cX8_settle 16 = .ok (.invokevirtual 252, 3) := by decide +kernel
theorem dX8_settle_19 : decode cX8_settle 19 = .ok (.iconst 0, 1) := by decide +kernel
theorem dX8_settle_20 : decode cX8_settle 20 = .ok (.ireturn, 1) := by decide +kernel
theorem dX8_settle_21 : decode cX8_settle 21 = .ok (.aload_n 0, 1) := by decide +kernel
theorem dX8_settle_22 : decode cX8_settle 22 = .ok (.invokevirtual 326, 3) := by decide +kernel
theorem dX8_settle_25 : decode cX8_settle 25 = .ok (.aload_n 0, 1) := by decide +kernel
theorem dX8_settle_26 : decode cX8_settle 26 = .ok (.aload_n 1, 1) := by decide +kernel
theorem dX8_settle_27 : decode cX8_settle 27 = .ok (.getfield 162, 3) := by decide +kernel
theorem dX8_settle_30 : decode cX8_settle 30 = .ok (.aload_n 0, 1) := by decide +kernel
theorem dX8_settle_31 : decode cX8_settle 31 = .ok (.getfield 82, 3) := by decide +kernel
theorem dX8_settle_34 : decode cX8_settle 34 = .ok (.invokevirtual 169, 3) := by decide +kernel
theorem dX8_settle_37 : decode cX8_settle 37 = .ok (.pop, 1) := by decide +kernel
theorem dX8_settle_38 : decode cX8_settle 38 = .ok (.iload_n 2, 1) := by decide +kernel
theorem dX8_settle_39 : decode cX8_settle 39 = .ok (.ifCond .ne 7, 3) := by decide +kernel
theorem dX8_settle_42 : decode cX8_settle 42 = .ok (.iconst 1, 1) := by decide +kernel
theorem dX8_settle_43 : decode cX8_settle 43 = .ok (.goto 4, 3) := by decide +kernel
theorem dX8_settle_46 : decode cX8_settle 46 = .ok (.iconst 0, 1) := by decide +kernel
theorem dX8_settle_47 : decode cX8_settle 47 = .ok (.ireturn, 1) := by decide +kernel
theorem dX8_perform_0 : decode cX8_perform 0 = .ok (.aload_n 2, 1) := by decide +kernel
theorem dX8_perform_1 : decode cX8_perform 1 = .ok (.getfield 427, 3) := by decide +kernel
theorem dX8_perform_4 : decode cX8_perform 4 = .ok (.tableswitch 68 0 5 #[40, 47, 54, 68, 68, 61], 40) := by decide +kernel
theorem dX8_perform_44 : decode cX8_perform 44 = .ok (.aload_n 0, 1) := by decide +kernel
theorem dX8_perform_45 : decode cX8_perform 45 = .ok (.aload_n 1, 1) := by decide +kernel
theorem dX8_perform_46 : decode cX8_perform 46 = .ok (.aload_n 2, 1) := by decide +kernel
theorem dX8_perform_47 : decode cX8_perform 47 = .ok (.invokevirtual 429, 3) := by decide +kernel
theorem dX8_perform_50 : decode cX8_perform 50 = .ok (.ireturn, 1) := by decide +kernel
theorem dX8_perform_51 : decode cX8_perform 51 = .ok (.aload_n 0, 1) := by decide +kernel
theorem dX8_perform_52 : decode cX8_perform 52 = .ok (.aload_n 1, 1) := by decide +kernel
theorem dX8_perform_53 : decode cX8_perform 53 = .ok (.aload_n 2, 1) := by decide +kernel
theorem dX8_perform_54 : decode cX8_perform 54 = .ok (.invokevirtual 432, 3) := by decide +kernel
theorem dX8_perform_57 : decode cX8_perform 57 = .ok (.ireturn, 1) := by decide +kernel
theorem dX8_perform_58 : decode cX8_perform 58 = .ok (.aload_n 0, 1) := by decide +kernel
theorem dX8_perform_59 : decode cX8_perform 59 = .ok (.aload_n 1, 1) := by decide +kernel
theorem dX8_perform_60 : decode cX8_perform 60 = .ok (.aload_n 2, 1) := by decide +kernel
theorem dX8_perform_61 : decode cX8_perform 61 = .ok (.invokevirtual 435, 3) := by decide +kernel
theorem dX8_perform_64 : decode cX8_perform 64 = .ok (.ireturn, 1) := by decide +kernel
theorem dX8_perform_65 : decode cX8_perform 65 = .ok (.aload_n 0, 1) := by decide +kernel
theorem dX8_perform_66 : decode cX8_perform 66 = .ok (.aload_n 1, 1) := by decide +kernel
theorem dX8_perform_67 : decode cX8_perform 67 = .ok (.aload_n 2, 1) := by decide +kernel
theorem dX8_perform_68 : decode cX8_perform 68 = .ok (.invokevirtual 438, 3) := by decide +kernel
theorem dX8_perform_71 : decode cX8_perform 71 = .ok (.ireturn, 1) := by decide +kernel
theorem dX8_perform_72 : decode cX8_perform 72 = .ok (.aload_n 0, 1) := by decide +kernel
theorem dX8_perform_73 : decode cX8_perform 73 = .ok (.aload_n 1, 1) := by decide +kernel
theorem dX8_perform_74 : decode cX8_perform 74 = .ok (.aload_n 2, 1) := by decide +kernel
theorem dX8_perform_75 : decode cX8_perform 75 = .ok (.invokevirtual 441, 3) := by decide +kernel
theorem dX8_perform_78 : decode cX8_perform 78 = .ok (.ireturn, 1) := by decide +kernel
theorem dX8_tryMake_0 : decode cX8_tryMake 0 = .ok (.aload_n 2, 1) := by decide +kernel
theorem dX8_tryMake_1 : decode cX8_tryMake 1 = .ok (.getfield 444, 3) := by decide +kernel
theorem dX8_tryMake_4 : decode cX8_tryMake 4 = .ok (.istore_n 3, 1) := by decide +kernel
theorem dX8_tryMake_5 : decode cX8_tryMake 5 = .ok (.aload_n 0, 1) := by decide +kernel
theorem dX8_tryMake_6 : decode cX8_tryMake 6 = .ok (.getfield 27, 3) := by decide +kernel
theorem dX8_tryMake_9 : decode cX8_tryMake 9 = .ok (.iload_n 3, 1) := by decide +kernel
theorem dX8_tryMake_10 : decode cX8_tryMake 10 = .ok (.invokevirtual 267, 3) := by decide +kernel
theorem dX8_tryMake_13 : decode cX8_tryMake 13 = .ok (.ifCond .ne 5, 3) := by decide +kernel
theorem dX8_tryMake_16 : decode cX8_tryMake 16 = .ok (.iconst (-1), 1) := by decide +kernel
theorem dX8_tryMake_17 : decode cX8_tryMake 17 = .ok (.ireturn, 1) := by decide +kernel
theorem dX8_tryMake_18 : decode cX8_tryMake 18 = .ok (.aload_n 0, 1) := by decide +kernel
theorem dX8_tryMake_19 : decode cX8_tryMake 19 = .ok (.getfield 27, 3) := by decide +kernel
theorem dX8_tryMake_22 : decode cX8_tryMake 22 = .ok (.iload_n 3, 1) := by decide +kernel
theorem dX8_tryMake_23 : decode cX8_tryMake 23 = .ok (.aload_n 1, 1) := by decide +kernel
theorem dX8_tryMake_24 : decode cX8_tryMake 24 = .ok (.getfield 280, 3) := by decide +kernel
theorem dX8_tryMake_27 : decode cX8_tryMake 27 = .ok (.invokevirtual 334, 3) := by decide +kernel
theorem dX8_tryMake_30 : decode cX8_tryMake 30 = .ok (.ifCond .ne 6, 3) := by decide +kernel
theorem dX8_tryMake_33 : decode cX8_tryMake 33 = .ok (.bipush (-2), 2) := by decide +kernel
theorem dX8_tryMake_35 : decode cX8_tryMake 35 = .ok (.ireturn, 1) := by decide +kernel
theorem dX8_tryMake_36 : decode cX8_tryMake 36 = .ok (.aload_n 2, 1) := by decide +kernel
theorem dX8_tryMake_37 : decode cX8_tryMake 37 = .ok (.getfield 446, 3) := by decide +kernel
theorem dX8_tryMake_40 : decode cX8_tryMake 40 = .ok (.sipush 1000, 3) := by decide +kernel
theorem dX8_tryMake_43 : decode cX8_tryMake 43 = .ok (.if_icmp .ne 7, 3) := by decide +kernel
theorem dX8_tryMake_46 : decode cX8_tryMake 46 = .ok (.iconst 1, 1) := by decide +kernel
theorem dX8_tryMake_47 : decode cX8_tryMake 47 = .ok (.goto 4, 3) := by decide +kernel
theorem dX8_tryMake_50 : decode cX8_tryMake 50 = .ok (.iconst 0, 1) := by decide +kernel
theorem dX8_tryMake_51 : decode cX8_tryMake 51 = .ok (.istore 4, 2) := by decide +kernel
theorem dX8_tryMake_53 : decode cX8_tryMake 53 = .ok (.iload 4, 2) := by decide +kernel
theorem dX8_tryMake_55 : decode cX8_tryMake 55 = .ok (.ifCond .ne 21, 3) := by decide +kernel
theorem dX8_tryMake_58 : decode cX8_tryMake 58 = .ok (.aload_n 0, 1) := by decide +kernel
theorem dX8_tryMake_59 : decode cX8_tryMake 59 = .ok (.getfield 27, 3) := by decide +kernel
theorem dX8_tryMake_62 : decode cX8_tryMake 62 = .ok (.iload_n 3, 1) := by decide +kernel
theorem dX8_tryMake_63 : decode cX8_tryMake 63 = .ok (.aload_n 2, 1) := by decide +kernel
theorem dX8_tryMake_64 : decode cX8_tryMake 64 = .ok (.getfield 446, 3) := by decide +kernel
theorem dX8_tryMake_67 : decode cX8_tryMake 67 = .ok (.invokevirtual 449, 3) := by decide +kernel
theorem dX8_tryMake_70 : decode cX8_tryMake 70 = .ok (.ifCond .eq 6, 3) := by decide +kernel
theorem dX8_tryMake_73 : decode cX8_tryMake 73 = .ok (.bipush (-4), 2) := by decide +kernel
theorem dX8_tryMake_75 : decode cX8_tryMake 75 = .ok (.ireturn, 1) := by decide +kernel
theorem dX8_tryMake_76 : decode cX8_tryMake 76 = .ok (.aload_n 0, 1) := by decide +kernel
theorem dX8_tryMake_77 : decode cX8_tryMake 77 = .ok (.getfield 10, 3) := by decide +kernel
theorem dX8_tryMake_80 : decode cX8_tryMake 80 = .ok (.iload_n 3, 1) := by decide +kernel
theorem dX8_tryMake_81 : decode cX8_tryMake 81 = .ok (.invokevirtual 452, 3) := by decide +kernel
theorem dX8_tryMake_84 : decode cX8_tryMake 84 = .ok (.ifCond .eq 6, 3) := by decide +kernel
theorem dX8_tryMake_87 : decode cX8_tryMake 87 = .ok (.bipush (-5), 2) := by decide +kernel
theorem dX8_tryMake_89 : decode cX8_tryMake 89 = .ok (.ireturn, 1) := by decide +kernel
theorem dX8_tryMake_90 : decode cX8_tryMake 90 = .ok (.aload_n 0, 1) := by decide +kernel
theorem dX8_tryMake_91 : decode cX8_tryMake 91 = .ok (.iload_n 3, 1) := by decide +kernel
theorem dX8_tryMake_92 : decode cX8_tryMake 92 = .ok (.invokevirtual 455, 3) := by decide +kernel
theorem dX8_tryMake_95 : decode cX8_tryMake 95 = .ok (.ifCond .eq 6, 3) := by decide +kernel
theorem dX8_tryMake_98 : decode cX8_tryMake 98 = .ok (.bipush (-7), 2) := by decide +kernel
theorem dX8_tryMake_100 : decode cX8_tryMake 100 = .ok (.ireturn, 1) := by decide +kernel
theorem dX8_tryMake_101 : decode cX8_tryMake 101 = .ok (.aload_n 0, 1) := by decide +kernel
theorem dX8_tryMake_102 : decode cX8_tryMake 102 = .ok (.getfield 10, 3) := by decide +kernel
theorem dX8_tryMake_105 : decode cX8_tryMake 105 = .ok (.getfield 424, 3) := by decide +kernel
theorem dX8_tryMake_108 : decode cX8_tryMake 108 = .ok (.istore 5, 2) := by decide +kernel
theorem dX8_tryMake_110 : decode cX8_tryMake 110 = .ok (.iload 5, 2) := by decide +kernel
theorem dX8_tryMake_112 : decode cX8_tryMake 112 = .ok (.bipush 80, 2) := by decide +kernel
theorem dX8_tryMake_114 : decode cX8_tryMake 114 = .ok (.if_icmp .lt 6, 3) := by decide +kernel
theorem dX8_tryMake_117 : decode cX8_tryMake 117 = .ok (.bipush (-8), 2) := by decide +kernel
theorem dX8_tryMake_119 : decode cX8_tryMake 119 = .ok (.ireturn, 1) := by decide +kernel
theorem dX8_tryMake_120 : decode cX8_tryMake 120 = .ok (.aload_n 0, 1) := by decide +kernel
theorem dX8_tryMake_121 : decode cX8_tryMake 121 = .ok (.getfield 10, 3) := by decide +kernel
theorem dX8_tryMake_124 : decode cX8_tryMake 124 = .ok (.aload_n 2, 1) := by decide +kernel
theorem dX8_tryMake_125 : decode cX8_tryMake 125 = .ok (.iload 4, 2) := by decide +kernel
theorem dX8_tryMake_127 : decode cX8_tryMake 127 = .ok (.ifCond .eq 19, 3) := by decide +kernel
theorem dX8_tryMake_130 : decode cX8_tryMake 130 = .ok (.sipush 1000, 3) := by decide +kernel
theorem dX8_tryMake_133 : decode cX8_tryMake 133 = .ok (.aload_n 0, 1) := by decide +kernel
theorem dX8_tryMake_134 : decode cX8_tryMake 134 = .ok (.getfield 27, 3) := by decide +kernel
theorem dX8_tryMake_137 : decode cX8_tryMake 137 = .ok (.getfield 458, 3) := by decide +kernel
theorem dX8_tryMake_140 : decode cX8_tryMake 140 = .ok (.iload_n 3, 1) := by decide +kernel
theorem dX8_tryMake_141 : decode cX8_tryMake 141 = .ok (.iaload, 1) := by decide +kernel
theorem dX8_tryMake_142 : decode cX8_tryMake 142 = .ok (.iadd, 1) := by decide +kernel
theorem dX8_tryMake_143 : decode cX8_tryMake 143 = .ok (.goto 7, 3) := by decide +kernel
theorem dX8_tryMake_146 : decode cX8_tryMake 146 = .ok (.aload_n 2, 1) := by decide +kernel
theorem dX8_tryMake_147 : decode cX8_tryMake 147 = .ok (.getfield 446, 3) := by decide +kernel
theorem dX8_tryMake_150 : decode cX8_tryMake 150 = .ok (.aload_n 0, 1) := by decide +kernel
theorem dX8_tryMake_151 : decode cX8_tryMake 151 = .ok (.getfield 82, 3) := by decide +kernel
theorem dX8_tryMake_154 : decode cX8_tryMake 154 = .ok (.iconst 1, 1) := by decide +kernel
theorem dX8_tryMake_155 : decode cX8_tryMake 155 = .ok (.iadd, 1) := by decide +kernel
theorem dX8_tryMake_156 : decode cX8_tryMake 156 = .ok (.invokevirtual 461, 3) := by decide +kernel
theorem dX8_tryMake_159 : decode cX8_tryMake 159 = .ok (.aload_n 0, 1) := by decide +kernel
theorem dX8_tryMake_160 : decode cX8_tryMake 160 = .ok (.iconst 0, 1) := by decide +kernel
theorem dX8_tryMake_161 : decode cX8_tryMake 161 = .ok (.iload 5, 2) := by decide +kernel
theorem dX8_tryMake_163 : decode cX8_tryMake 163 = .ok (.aload_n 2, 1) := by decide +kernel
theorem dX8_tryMake_164 : decode cX8_tryMake 164 = .ok (.getfield 464, 3) := by decide +kernel
theorem dX8_tryMake_167 : decode cX8_tryMake 167 = .ok (.invokevirtual 466, 3) := by decide +kernel
theorem dX8_tryMake_170 : decode cX8_tryMake 170 = .ok (.iload 5, 2) := by decide +kernel
theorem dX8_tryMake_172 : decode cX8_tryMake 172 = .ok (.ireturn, 1) := by decide +kernel
theorem dX8_trySet_0 : decode cX8_trySet 0 = .ok (.aload_n 2, 1) := by decide +kernel
theorem dX8_trySet_1 : decode cX8_trySet 1 = .ok (.getfield 444, 3) := by decide +kernel
theorem dX8_trySet_4 : decode cX8_trySet 4 = .ok (.istore_n 3, 1) := by decide +kernel
theorem dX8_trySet_5 : decode cX8_trySet 5 = .ok (.aload_n 0, 1) := by decide +kernel
theorem dX8_trySet_6 : decode cX8_trySet 6 = .ok (.getfield 27, 3) := by decide +kernel
theorem dX8_trySet_9 : decode cX8_trySet 9 = .ok (.iload_n 3, 1) := by decide +kernel
theorem dX8_trySet_10 : decode cX8_trySet 10 = .ok (.invokevirtual 267, 3) := by decide +kernel
theorem dX8_trySet_13 : decode cX8_trySet 13 = .ok (.ifCond .ne 5, 3) := by decide +kernel
theorem dX8_trySet_16 : decode cX8_trySet 16 = .ok (.iconst (-1), 1) := by decide +kernel
theorem dX8_trySet_17 : decode cX8_trySet 17 = .ok (.ireturn, 1) := by decide +kernel
theorem dX8_trySet_18 : decode cX8_trySet 18 = .ok (.aload_n 0, 1) := by decide +kernel
theorem dX8_trySet_19 : decode cX8_trySet 19 = .ok (.getfield 27, 3) := by decide +kernel
theorem dX8_trySet_22 : decode cX8_trySet 22 = .ok (.iload_n 3, 1) := by decide +kernel
theorem dX8_trySet_23 : decode cX8_trySet 23 = .ok (.aload_n 1, 1) := by decide +kernel
theorem dX8_trySet_24 : decode cX8_trySet 24 = .ok (.getfield 280, 3) := by decide +kernel
theorem dX8_trySet_27 : decode cX8_trySet 27 = .ok (.invokevirtual 334, 3) := by decide +kernel
theorem dX8_trySet_30 : decode cX8_trySet 30 = .ok (.ifCond .ne 6, 3) := by decide +kernel
theorem dX8_trySet_33 : decode cX8_trySet 33 = .ok (.bipush (-2), 2) := by decide +kernel
theorem dX8_trySet_35 : decode cX8_trySet 35 = .ok (.ireturn, 1) := by decide +kernel
theorem dX8_trySet_36 : decode cX8_trySet 36 = .ok (.aload_n 0, 1) := by decide +kernel
theorem dX8_trySet_37 : decode cX8_trySet 37 = .ok (.getfield 27, 3) := by decide +kernel
theorem dX8_trySet_40 : decode cX8_trySet 40 = .ok (.iload_n 3, 1) := by decide +kernel
theorem dX8_trySet_41 : decode cX8_trySet 41 = .ok (.aload_n 2, 1) := by decide +kernel
theorem dX8_trySet_42 : decode cX8_trySet 42 = .ok (.getfield 470, 3) := by decide +kernel
theorem dX8_trySet_45 : decode cX8_trySet 45 = .ok (.invokevirtual 473, 3) := by decide +kernel
theorem dX8_trySet_48 : decode cX8_trySet 48 = .ok (.ifCond .ne 6, 3) := by decide +kernel
theorem dX8_trySet_51 : decode cX8_trySet 51 = .ok (.bipush (-3), 2) := by decide +kernel
theorem dX8_trySet_53 : decode cX8_trySet 53 = .ok (.ireturn, 1) := by decide +kernel
theorem dX8_trySet_54 : decode cX8_trySet 54 = .ok (.aload_n 0, 1) := by decide +kernel
theorem dX8_trySet_55 : decode cX8_trySet 55 = .ok (.iconst 1, 1) := by decide +kernel
theorem dX8_trySet_56 : decode cX8_trySet 56 = .ok (.iload_n 3, 1) := by decide +kernel
theorem dX8_trySet_57 : decode cX8_trySet 57 = .ok (.aload_n 2, 1) := by decide +kernel
theorem dX8_trySet_58 : decode cX8_trySet 58 = .ok (.getfield 464, 3) := by decide +kernel
theorem dX8_trySet_61 : decode cX8_trySet 61 = .ok (.invokevirtual 466, 3) := by decide +kernel
theorem dX8_trySet_64 : decode cX8_trySet 64 = .ok (.aload_n 0, 1) := by decide +kernel
theorem dX8_trySet_65 : decode cX8_trySet 65 = .ok (.getfield 27, 3) := by decide +kernel
theorem dX8_trySet_68 : decode cX8_trySet 68 = .ok (.getfield 476, 3) := by decide +kernel
theorem dX8_trySet_71 : decode cX8_trySet 71 = .ok (.iload_n 3, 1) := by decide +kernel
theorem dX8_trySet_72 : decode cX8_trySet 72 = .ok (.iaload, 1) := by decide +kernel
theorem dX8_trySet_73 : decode cX8_trySet 73 = .ok (.ireturn, 1) := by decide +kernel
theorem dX8_tryDelete_0 : decode cX8_tryDelete 0 = .ok (.aload_n 2, 1) := by decide +kernel
theorem dX8_tryDelete_1 : decode cX8_tryDelete 1 = .ok (.getfield 444, 3) := by decide +kernel
theorem dX8_tryDelete_4 : decode cX8_tryDelete 4 = .ok (.istore_n 3, 1) := by decide +kernel
theorem dX8_tryDelete_5 : decode cX8_tryDelete 5 = .ok (.aload_n 0, 1) := by decide +kernel
theorem dX8_tryDelete_6 : decode cX8_tryDelete 6 = .ok (.getfield 27, 3) := by decide +kernel
theorem dX8_tryDelete_9 : decode cX8_tryDelete 9 = .ok (.iload_n 3, 1) := by decide +kernel
theorem dX8_tryDelete_10 : decode cX8_tryDelete 10 = .ok (.invokevirtual 267, 3) := by decide +kernel
theorem dX8_tryDelete_13 : decode cX8_tryDelete 13 = .ok (.ifCond .ne 5, 3) := by decide +kernel
theorem dX8_tryDelete_16 : decode cX8_tryDelete 16 = .ok (.iconst (-1), 1) := by decide +kernel
theorem dX8_tryDelete_17 : decode cX8_tryDelete 17 = .ok (.ireturn, 1) := by decide +kernel
theorem dX8_tryDelete_18 : decode cX8_tryDelete 18 = .ok (.iload_n 3, 1) := by decide +kernel
theorem dX8_tryDelete_19 : decode cX8_tryDelete 19 = .ok (.ifCond .le 29, 3) := by decide +kernel
theorem dX8_tryDelete_22 : decode cX8_tryDelete 22 = .ok (.aload_n 0, 1) := by decide +kernel
theorem dX8_tryDelete_23 : decode cX8_tryDelete 23 = .ok (.getfield 27, 3) := by decide +kernel
theorem dX8_tryDelete_26 : decode cX8_tryDelete 26 = .ok (.aload_n 0, 1) := by decide +kernel
theorem dX8_tryDelete_27 : decode cX8_tryDelete 27 = .ok (.getfield 10, 3) := by decide +kernel
theorem dX8_tryDelete_30 : decode cX8_tryDelete 30 = .ok (.getfield 479, 3) := by decide +kernel
theorem dX8_tryDelete_33 : decode cX8_tryDelete 33 = .ok (.iload_n 3, 1) := by decide +kernel
theorem dX8_tryDelete_34 : decode cX8_tryDelete 34 = .ok (.iaload, 1) := by decide +kernel
theorem dX8_tryDelete_35 : decode cX8_tryDelete 35 = .ok (.aload_n 1, 1) := by decide +kernel
theorem dX8_tryDelete_36 : decode cX8_tryDelete 36 = .ok (.getfield 280, 3) := by decide +kernel
theorem dX8_tryDelete_39 : decode cX8_tryDelete 39 = .ok (.invokevirtual 334, 3) := by decide +kernel
theorem dX8_tryDelete_42 : decode cX8_tryDelete 42 = .ok (.ifCond .ne 6, 3) := by decide +kernel
theorem dX8_tryDelete_45 : decode cX8_tryDelete 45 = .ok (.bipush (-2), 2) := by decide +kernel
theorem dX8_tryDelete_47 : decode cX8_tryDelete 47 = .ok (.ireturn, 1) := by decide +kernel
theorem dX8_tryDelete_48 : decode cX8_tryDelete 48 = .ok (.aload_n 0, 1) := by decide +kernel
theorem dX8_tryDelete_49 : decode cX8_tryDelete 49 = .ok (.getfield 27, 3) := by decide +kernel
theorem dX8_tryDelete_52 : decode cX8_tryDelete 52 = .ok (.iload_n 3, 1) := by decide +kernel
theorem dX8_tryDelete_53 : decode cX8_tryDelete 53 = .ok (.aload_n 2, 1) := by decide +kernel
theorem dX8_tryDelete_54 : decode cX8_tryDelete 54 = .ok (.getfield 470, 3) := by decide +kernel
theorem dX8_tryDelete_57 : decode cX8_tryDelete 57 = .ok (.invokevirtual 473, 3) := by decide +kernel
theorem dX8_tryDelete_60 : decode cX8_tryDelete 60 = .ok (.ifCond .ne 6, 3) := by decide +kernel
theorem dX8_tryDelete_63 : decode cX8_tryDelete 63 = .ok (.bipush (-3), 2) := by decide +kernel
theorem dX8_tryDelete_65 : decode cX8_tryDelete 65 = .ok (.ireturn, 1) := by decide +kernel
theorem dX8_tryDelete_66 : decode cX8_tryDelete 66 = .ok (.iload_n 3, 1) := by decide +kernel
theorem dX8_tryDelete_67 : decode cX8_tryDelete 67 = .ok (.ifCond .eq 14, 3) := by decide +kernel
theorem dX8_tryDelete_70 : decode cX8_tryDelete 70 = .ok (.aload_n 0, 1) := by decide +kernel
theorem dX8_tryDelete_71 : decode cX8_tryDelete 71 = .ok (.getfield 27, 3) := by decide +kernel
theorem dX8_tryDelete_74 : decode cX8_tryDelete 74 = .ok (.iload_n 3, 1) := by decide +kernel
theorem dX8_tryDelete_75 : decode cX8_tryDelete 75 = .ok (.invokevirtual 331, 3) := by decide +kernel
theorem dX8_tryDelete_78 : decode cX8_tryDelete 78 = .ok (.ifCond .le 6, 3) := by decide +kernel
theorem dX8_tryDelete_81 : decode cX8_tryDelete 81 = .ok (.bipush (-6), 2) := by decide +kernel
theorem dX8_tryDelete_83 : decode cX8_tryDelete 83 = .ok (.ireturn, 1) := by decide +kernel
theorem dX8_tryDelete_84 : decode cX8_tryDelete 84 = .ok (.aload_n 0, 1) := by decide +kernel
theorem dX8_tryDelete_85 : decode cX8_tryDelete 85 = .ok (.iload_n 3, 1) := by decide +kernel
theorem dX8_tryDelete_86 : decode cX8_tryDelete 86 = .ok (.invokevirtual 323, 3) := by decide +kernel
theorem dX8_tryDelete_89 : decode cX8_tryDelete 89 = .ok (.ireturn, 1) := by decide +kernel
theorem dX8_tryRights_0 : decode cX8_tryRights 0 = .ok (.aload_n 2, 1) := by decide +kernel
theorem dX8_tryRights_1 : decode cX8_tryRights 1 = .ok (.getfield 444, 3) := by decide +kernel
theorem dX8_tryRights_4 : decode cX8_tryRights 4 = .ok (.istore_n 3, 1) := by decide +kernel
theorem dX8_tryRights_5 : decode cX8_tryRights 5 = .ok (.aload_n 0, 1) := by decide +kernel
theorem dX8_tryRights_6 : decode cX8_tryRights 6 = .ok (.getfield 27, 3) := by decide +kernel
theorem dX8_tryRights_9 : decode cX8_tryRights 9 = .ok (.iload_n 3, 1) := by decide +kernel
theorem dX8_tryRights_10 : decode cX8_tryRights 10 = .ok (.invokevirtual 267, 3) := by decide +kernel
theorem dX8_tryRights_13 : decode cX8_tryRights 13 = .ok (.ifCond .ne 5, 3) := by decide +kernel
theorem dX8_tryRights_16 : decode cX8_tryRights 16 = .ok (.iconst (-1), 1) := by decide +kernel
theorem dX8_tryRights_17 : decode cX8_tryRights 17 = .ok (.ireturn, 1) := by decide +kernel
theorem dX8_tryRights_18 : decode cX8_tryRights 18 = .ok (.aload_n 0, 1) := by decide +kernel
theorem dX8_tryRights_19 : decode cX8_tryRights 19 = .ok (.getfield 27, 3) := by decide +kernel
theorem dX8_tryRights_22 : decode cX8_tryRights 22 = .ok (.iload_n 3, 1) := by decide +kernel
theorem dX8_tryRights_23 : decode cX8_tryRights 23 = .ok (.aload_n 1, 1) := by decide +kernel
theorem dX8_tryRights_24 : decode cX8_tryRights 24 = .ok (.getfield 280, 3) := by decide +kernel
theorem dX8_tryRights_27 : decode cX8_tryRights 27 = .ok (.invokevirtual 334, 3) := by decide +kernel
theorem dX8_tryRights_30 : decode cX8_tryRights 30 = .ok (.ifCond .ne 6, 3) := by decide +kernel
theorem dX8_tryRights_33 : decode cX8_tryRights 33 = .ok (.bipush (-2), 2) := by decide +kernel
theorem dX8_tryRights_35 : decode cX8_tryRights 35 = .ok (.ireturn, 1) := by decide +kernel
theorem dX8_tryRights_36 : decode cX8_tryRights 36 = .ok (.aload_n 0, 1) := by decide +kernel
theorem dX8_tryRights_37 : decode cX8_tryRights 37 = .ok (.aload_n 2, 1) := by decide +kernel
theorem dX8_tryRights_38 : decode cX8_tryRights 38 = .ok (.getfield 427, 3) := by decide +kernel
theorem dX8_tryRights_41 : decode cX8_tryRights 41 = .ok (.iload_n 3, 1) := by decide +kernel
theorem dX8_tryRights_42 : decode cX8_tryRights 42 = .ok (.aload_n 2, 1) := by decide +kernel
theorem dX8_tryRights_43 : decode cX8_tryRights 43 = .ok (.getfield 464, 3) := by decide +kernel
theorem dX8_tryRights_46 : decode cX8_tryRights 46 = .ok (.invokevirtual 466, 3) := by decide +kernel
theorem dX8_tryRights_49 : decode cX8_tryRights 49 = .ok (.aload_n 2, 1) := by decide +kernel
theorem dX8_tryRights_50 : decode cX8_tryRights 50 = .ok (.getfield 427, 3) := by decide +kernel
theorem dX8_tryRights_53 : decode cX8_tryRights 53 = .ok (.iconst 4, 1) := by decide +kernel
theorem dX8_tryRights_54 : decode cX8_tryRights 54 = .ok (.if_icmp .ne 16, 3) := by decide +kernel
theorem dX8_tryRights_57 : decode cX8_tryRights 57 = .ok (.iconst 1, 1) := by decide +kernel
theorem dX8_tryRights_58 : decode cX8_tryRights 58 = .ok (.aload_n 0, 1) := by decide +kernel
theorem dX8_tryRights_59 : decode cX8_tryRights 59 = .ok (.getfield 27, 3) := by decide +kernel
theorem dX8_tryRights_62 : decode cX8_tryRights 62 = .ok (.iload_n 3, 1) := by decide +kernel
theorem dX8_tryRights_63 : decode cX8_tryRights 63 = .ok (.invokevirtual 271, 3) := by decide +kernel
theorem dX8_tryRights_66 : decode cX8_tryRights 66 = .ok (.iadd, 1) := by decide +kernel
theorem dX8_tryRights_67 : decode cX8_tryRights 67 = .ok (.goto 4, 3) := by decide +kernel
theorem dX8_tryRights_70 : decode cX8_tryRights 70 = .ok (.iconst 1, 1) := by decide +kernel
theorem dX8_tryRights_71 : decode cX8_tryRights 71 = .ok (.ireturn, 1) := by decide +kernel
theorem dX8_tryCheck_0 : decode cX8_tryCheck 0 = .ok (.aload_n 0, 1) := by decide +kernel
theorem dX8_tryCheck_1 : decode cX8_tryCheck 1 = .ok (.getfield 27, 3) := by decide +kernel
theorem dX8_tryCheck_4 : decode cX8_tryCheck 4 = .ok (.aload_n 2, 1) := by decide +kernel
theorem dX8_tryCheck_5 : decode cX8_tryCheck 5 = .ok (.getfield 444, 3) := by decide +kernel
theorem dX8_tryCheck_8 : decode cX8_tryCheck 8 = .ok (.aload_n 1, 1) := by decide +kernel
theorem dX8_tryCheck_9 : decode cX8_tryCheck 9 = .ok (.getfield 280, 3) := by decide +kernel
theorem dX8_tryCheck_12 : decode cX8_tryCheck 12 = .ok (.invokevirtual 283, 3) := by decide +kernel
theorem dX8_tryCheck_15 : decode cX8_tryCheck 15 = .ok (.istore_n 3, 1) := by decide +kernel
theorem dX8_tryCheck_16 : decode cX8_tryCheck 16 = .ok (.iload_n 3, 1) := by decide +kernel
theorem dX8_tryCheck_17 : decode cX8_tryCheck 17 = .ok (.ifCond .ge 5, 3) := by decide +kernel
theorem dX8_tryCheck_20 : decode cX8_tryCheck 20 = .ok (.iload_n 3, 1) := by decide +kernel
theorem dX8_tryCheck_21 : decode cX8_tryCheck 21 = .ok (.ireturn, 1) := by decide +kernel
theorem dX8_tryCheck_22 : decode cX8_tryCheck 22 = .ok (.aload_n 0, 1) := by decide +kernel
theorem dX8_tryCheck_23 : decode cX8_tryCheck 23 = .ok (.getfield 27, 3) := by decide +kernel
theorem dX8_tryCheck_26 : decode cX8_tryCheck 26 = .ok (.aload_n 2, 1) := by decide +kernel
theorem dX8_tryCheck_27 : decode cX8_tryCheck 27 = .ok (.getfield 444, 3) := by decide +kernel
theorem dX8_tryCheck_30 : decode cX8_tryCheck 30 = .ok (.aload_n 2, 1) := by decide +kernel
theorem dX8_tryCheck_31 : decode cX8_tryCheck 31 = .ok (.getfield 470, 3) := by decide +kernel
theorem dX8_tryCheck_34 : decode cX8_tryCheck 34 = .ok (.invokevirtual 473, 3) := by decide +kernel
theorem dX8_tryCheck_37 : decode cX8_tryCheck 37 = .ok (.ifCond .ne 6, 3) := by decide +kernel
theorem dX8_tryCheck_40 : decode cX8_tryCheck 40 = .ok (.bipush (-3), 2) := by decide +kernel
theorem dX8_tryCheck_42 : decode cX8_tryCheck 42 = .ok (.ireturn, 1) := by decide +kernel
theorem dX8_tryCheck_43 : decode cX8_tryCheck 43 = .ok (.aload_n 0, 1) := by decide +kernel
theorem dX8_tryCheck_44 : decode cX8_tryCheck 44 = .ok (.getfield 27, 3) := by decide +kernel
theorem dX8_tryCheck_47 : decode cX8_tryCheck 47 = .ok (.aload_n 2, 1) := by decide +kernel
theorem dX8_tryCheck_48 : decode cX8_tryCheck 48 = .ok (.getfield 444, 3) := by decide +kernel
theorem dX8_tryCheck_51 : decode cX8_tryCheck 51 = .ok (.iconst 1, 1) := by decide +kernel
theorem dX8_tryCheck_52 : decode cX8_tryCheck 52 = .ok (.invokevirtual 287, 3) := by decide +kernel
theorem dX8_tryCheck_55 : decode cX8_tryCheck 55 = .ok (.ireturn, 1) := by decide +kernel
theorem dX8_isQuotaUsed_0 : decode cX8_isQuotaUsed 0 = .ok (.aload_n 0, 1) := by decide +kernel
theorem dX8_isQuotaUsed_1 : decode cX8_isQuotaUsed 1 = .ok (.getfield 27, 3) := by decide +kernel
theorem dX8_isQuotaUsed_4 : decode cX8_isQuotaUsed 4 = .ok (.invokevirtual 482, 3) := by decide +kernel
theorem dX8_isQuotaUsed_7 : decode cX8_isQuotaUsed 7 = .ok (.iload_n 1, 1) := by decide +kernel
theorem dX8_isQuotaUsed_8 : decode cX8_isQuotaUsed 8 = .ok (.istore_n 2, 1) := by decide +kernel
theorem dX8_isQuotaUsed_9 : decode cX8_isQuotaUsed 9 = .ok (.iconst 0, 1) := by decide +kernel
theorem dX8_isQuotaUsed_10 : decode cX8_isQuotaUsed 10 = .ok (.istore_n 3, 1) := by decide +kernel
theorem dX8_isQuotaUsed_11 : decode cX8_isQuotaUsed 11 = .ok (.iload_n 3, 1) := by decide +kernel
theorem dX8_isQuotaUsed_12 : decode cX8_isQuotaUsed 12 = .ok (.bipush 80, 2) := by decide +kernel
theorem dX8_isQuotaUsed_14 : decode cX8_isQuotaUsed 14 = .ok (.if_icmp .ge 43, 3) := by decide +kernel
theorem dX8_isQuotaUsed_17 : decode cX8_isQuotaUsed 17 = .ok (.iload_n 2, 1) := by decide +kernel
theorem dX8_isQuotaUsed_18 : decode cX8_isQuotaUsed 18 = .ok (.ifCond .lt 39, 3) := by decide +kernel
theorem dX8_isQuotaUsed_21 : decode cX8_isQuotaUsed 21 = .ok (.aload_n 0, 1) := by decide +kernel
theorem dX8_isQuotaUsed_22 : decode cX8_isQuotaUsed 22 = .ok (.getfield 27, 3) := by decide +kernel
theorem dX8_isQuotaUsed_25 : decode cX8_isQuotaUsed 25 = .ok (.getfield 485, 3) := by decide +kernel
theorem dX8_isQuotaUsed_28 : decode cX8_isQuotaUsed 28 = .ok (.iload_n 2, 1) := by decide +kernel
theorem dX8_isQuotaUsed_29 : decode cX8_isQuotaUsed 29 = .ok (.iaload, 1) := by decide +kernel
theorem dX8_isQuotaUsed_30 : decode cX8_isQuotaUsed 30 = .ok (.aload_n 0, 1) := by decide +kernel
theorem dX8_isQuotaUsed_31 : decode cX8_isQuotaUsed 31 = .ok (.getfield 64, 3) := by decide +kernel
theorem dX8_isQuotaUsed_34 : decode cX8_isQuotaUsed 34 = .ok (.iload_n 2, 1) := by decide +kernel
theorem dX8_isQuotaUsed_35 : decode cX8_isQuotaUsed 35 = .ok (.iaload, 1) := by decide +kernel
theorem dX8_isQuotaUsed_36 : decode cX8_isQuotaUsed 36 = .ok (.if_icmp .lt 5, 3) := by decide +kernel
theorem dX8_isQuotaUsed_39 : decode cX8_isQuotaUsed 39 = .ok (.iconst 1, 1) := by decide +kernel
theorem dX8_isQuotaUsed_40 : decode cX8_isQuotaUsed 40 = .ok (.ireturn, 1) := by decide +kernel
theorem dX8_isQuotaUsed_41 : decode cX8_isQuotaUsed 41 = .ok (.aload_n 0, 1) := by decide +kernel
theorem dX8_isQuotaUsed_42 : decode cX8_isQuotaUsed 42 = .ok (.getfield 10, 3) := by decide +kernel
theorem dX8_isQuotaUsed_45 : decode cX8_isQuotaUsed 45 = .ok (.getfield 479, 3) := by decide +kernel
theorem dX8_isQuotaUsed_48 : decode cX8_isQuotaUsed 48 = .ok (.iload_n 2, 1) := by decide +kernel
theorem dX8_isQuotaUsed_49 : decode cX8_isQuotaUsed 49 = .ok (.iaload, 1) := by decide +kernel
theorem dX8_isQuotaUsed_50 : decode cX8_isQuotaUsed 50 = .ok (.istore_n 2, 1) := by decide +kernel
theorem dX8_isQuotaUsed_51 : decode cX8_isQuotaUsed 51 = .ok (.iinc 3 1, 3) := by decide +kernel
theorem dX8_isQuotaUsed_54 : decode cX8_isQuotaUsed 54 = .ok (.goto (-43), 3) := by decide +kernel
theorem dX8_isQuotaUsed_57 : decode cX8_isQuotaUsed 57 = .ok (.iconst 0, 1) := by decide +kernel
theorem dX8_isQuotaUsed_58 : decode cX8_isQuotaUsed 58 = .ok (.ireturn, 1) := by decide +kernel
theorem dX8_letGo_0 : decode cX8_letGo 0 = .ok (.iload_n 1, 1) := by decide +kernel
theorem dX8_letGo_1 : decode cX8_letGo 1 = .ok (.istore_n 2, 1) := by decide +kernel
theorem dX8_letGo_2 : decode cX8_letGo 2 = .ok (.iconst 0, 1) := by decide +kernel
theorem dX8_letGo_3 : decode cX8_letGo 3 = .ok (.istore_n 3, 1) := by decide +kernel
theorem dX8_letGo_4 : decode cX8_letGo 4 = .ok (.aload_n 0, 1) := by decide +kernel
theorem dX8_letGo_5 : decode cX8_letGo 5 = .ok (.iconst 2, 1) := by decide +kernel
theorem dX8_letGo_6 : decode cX8_letGo 6 = .ok (.iload_n 2, 1) := by decide +kernel
theorem dX8_letGo_7 : decode cX8_letGo 7 = .ok (.iconst 0, 1) := by decide +kernel
theorem dX8_letGo_8 : decode cX8_letGo 8 = .ok (.invokevirtual 466, 3) := by decide +kernel
theorem dX8_letGo_11 : decode cX8_letGo 11 = .ok (.iinc 3 1, 3) := by decide +kernel
theorem dX8_letGo_14 : decode cX8_letGo 14 = .ok (.aload_n 0, 1) := by decide +kernel
theorem dX8_letGo_15 : decode cX8_letGo 15 = .ok (.getfield 10, 3) := by decide +kernel
theorem dX8_letGo_18 : decode cX8_letGo 18 = .ok (.getfield 479, 3) := by decide +kernel
theorem dX8_letGo_21 : decode cX8_letGo 21 = .ok (.iload_n 2, 1) := by decide +kernel
theorem dX8_letGo_22 : decode cX8_letGo 22 = .ok (.iaload, 1) := by decide +kernel
theorem dX8_letGo_23 : decode cX8_letGo 23 = .ok (.istore_n 2, 1) := by decide +kernel
theorem dX8_letGo_24 : decode cX8_letGo 24 = .ok (.iload_n 3, 1) := by decide +kernel
theorem dX8_letGo_25 : decode cX8_letGo 25 = .ok (.bipush 80, 2) := by decide +kernel
theorem dX8_letGo_27 : decode cX8_letGo 27 = .ok (.if_icmp .ge 31, 3) := by decide +kernel
theorem dX8_letGo_30 : decode cX8_letGo 30 = .ok (.iload_n 2, 1) := by decide +kernel
theorem dX8_letGo_31 : decode cX8_letGo 31 = .ok (.ifCond .le 27, 3) := by decide +kernel
theorem dX8_letGo_34 : decode cX8_letGo 34 = .ok (.aload_n 0, 1) := by decide +kernel
theorem dX8_letGo_35 : decode cX8_letGo 35 = .ok (.getfield 10, 3) := by decide +kernel
theorem dX8_letGo_38 : decode cX8_letGo 38 = .ok (.getfield 488, 3) := by decide +kernel
theorem dX8_letGo_41 : decode cX8_letGo 41 = .ok (.iload_n 2, 1) := by decide +kernel
theorem dX8_letGo_42 : decode cX8_letGo 42 = .ok (.iaload, 1) := by decide +kernel
theorem dX8_letGo_43 : decode cX8_letGo 43 = .ok (.iconst 3, 1) := by decide +kernel
theorem dX8_letGo_44 : decode cX8_letGo 44 = .ok (.if_icmp .ne 14, 3) := by decide +kernel
theorem dX8_letGo_47 : decode cX8_letGo 47 = .ok (.aload_n 0, 1) := by decide +kernel
theorem dX8_letGo_48 : decode cX8_letGo 48 = .ok (.getfield 27, 3) := by decide +kernel
theorem dX8_letGo_51 : decode cX8_letGo 51 = .ok (.iload_n 2, 1) := by decide +kernel
theorem dX8_letGo_52 : decode cX8_letGo 52 = .ok (.invokevirtual 331, 3) := by decide +kernel
theorem dX8_letGo_55 : decode cX8_letGo 55 = .ok (.ifCond .eq (-51), 3) := by decide +kernel
theorem dX8_letGo_58 : decode cX8_letGo 58 = .ok (.iload_n 3, 1) := by decide +kernel
theorem dX8_letGo_59 : decode cX8_letGo 59 = .ok (.ireturn, 1) := by decide +kernel
theorem dX8_record_0 : decode cX8_record 0 = .ok (.aload_n 0, 1) := by decide +kernel
theorem dX8_record_1 : decode cX8_record 1 = .ok (.getfield 40, 3) := by decide +kernel
theorem dX8_record_4 : decode cX8_record 4 = .ok (.aload_n 0, 1) := by decide +kernel
theorem dX8_record_5 : decode cX8_record 5 = .ok (.getfield 82, 3) := by decide +kernel
theorem dX8_record_8 : decode cX8_record 8 = .ok (.iconst 1, 1) := by decide +kernel
theorem dX8_record_9 : decode cX8_record 9 = .ok (.iadd, 1) := by decide +kernel
theorem dX8_record_10 : decode cX8_record 10 = .ok (.iload_n 1, 1) := by decide +kernel
theorem dX8_record_11 : decode cX8_record 11 = .ok (.iload_n 2, 1) := by decide +kernel
theorem dX8_record_12 : decode cX8_record 12 = .ok (.iload_n 3, 1) := by decide +kernel
theorem dX8_record_13 : decode cX8_record 13 = .ok (.invokevirtual 489, 3) := by decide +kernel
theorem dX8_record_16 : decode cX8_record 16 = .ok (.ifCond .eq 13, 3) := by decide +kernel
theorem dX8_record_19 : decode cX8_record 19 = .ok (.aload_n 0, 1) := by decide +kernel
theorem dX8_record_20 : decode cX8_record 20 = .ok (.getfield 27, 3) := by decide +kernel
theorem dX8_record_23 : decode cX8_record 23 = .ok (.iload_n 1, 1) := by decide +kernel
theorem dX8_record_24 : decode cX8_record 24 = .ok (.iload_n 2, 1) := by decide +kernel
theorem dX8_record_25 : decode cX8_record 25 = .ok (.iload_n 3, 1) := by decide +kernel
theorem dX8_record_26 : decode cX8_record 26 = .ok (.invokevirtual 492, 3) := by decide +kernel
theorem dX8_record_29 : decode cX8_record 29 = .ok (.return_, 1) := by decide +kernel
theorem dX8_catchUp_0 : decode cX8_catchUp 0 = .ok (.aload_n 0, 1) := by decide +kernel
theorem dX8_catchUp_1 : decode cX8_catchUp 1 = .ok (.getfield 82, 3) := by decide +kernel
theorem dX8_catchUp_4 : decode cX8_catchUp 4 = .ok (.aload_n 1, 1) := by decide +kernel
theorem dX8_catchUp_5 : decode cX8_catchUp 5 = .ok (.getfield 166, 3) := by decide +kernel
theorem dX8_catchUp_8 : decode cX8_catchUp 8 = .ok (.isub, 1) := by decide +kernel
theorem dX8_catchUp_9 : decode cX8_catchUp 9 = .ok (.iload_n 2, 1) := by decide +kernel
theorem dX8_catchUp_10 : decode cX8_catchUp 10 = .ok (.invokestatic 495, 3) := by decide +kernel
theorem dX8_catchUp_13 : decode cX8_catchUp 13 = .ok (.istore_n 3, 1) := by decide +kernel
theorem dX8_catchUp_14 : decode cX8_catchUp 14 = .ok (.aload_n 1, 1) := by decide +kernel
theorem dX8_catchUp_15 : decode cX8_catchUp 15 = .ok (.dup, 1) := by decide +kernel
theorem dX8_catchUp_16 : decode cX8_catchUp 16 = .ok (.getfield 166, 3) := by decide +kernel
theorem dX8_catchUp_19 : decode cX8_catchUp 19 = .ok (.iload_n 3, 1) := by decide +kernel
theorem dX8_catchUp_20 : decode cX8_catchUp 20 = .ok (.iadd, 1) := by decide +kernel
theorem dX8_catchUp_21 : decode cX8_catchUp 21 = .ok (.putfield 166, 3) := by decide +kernel
theorem dX8_catchUp_24 : decode cX8_catchUp 24 = .ok (.aload_n 1, 1) := by decide +kernel
theorem dX8_catchUp_25 : decode cX8_catchUp 25 = .ok (.getfield 391, 3) := by decide +kernel
theorem dX8_catchUp_28 : decode cX8_catchUp 28 = .ok (.istore 4, 2) := by decide +kernel
theorem dX8_catchUp_30 : decode cX8_catchUp 30 = .ok (.iload 4, 2) := by decide +kernel
theorem dX8_catchUp_32 : decode cX8_catchUp 32 = .ok (.aload_n 0, 1) := by decide +kernel
theorem dX8_catchUp_33 : decode cX8_catchUp 33 = .ok (.getfield 40, 3) := by decide +kernel
theorem dX8_catchUp_36 : decode cX8_catchUp 36 = .ok (.getfield 356, 3) := by decide +kernel
theorem dX8_catchUp_39 : decode cX8_catchUp 39 = .ok (.if_icmp .ge 73, 3) := by decide +kernel
theorem dX8_catchUp_42 : decode cX8_catchUp 42 = .ok (.aload_n 0, 1) := by decide +kernel
theorem dX8_catchUp_43 : decode cX8_catchUp 43 = .ok (.getfield 40, 3) := by decide +kernel
theorem dX8_catchUp_46 : decode cX8_catchUp 46 = .ok (.getfield 358, 3) := by decide +kernel
theorem dX8_catchUp_49 : decode cX8_catchUp 49 = .ok (.iload 4, 2) := by decide +kernel
theorem dX8_catchUp_51 : decode cX8_catchUp 51 = .ok (.iaload, 1) := by decide +kernel
theorem dX8_catchUp_52 : decode cX8_catchUp 52 = .ok (.aload_n 1, 1) := by decide +kernel
theorem dX8_catchUp_53 : decode cX8_catchUp 53 = .ok (.getfield 166, 3) := by decide +kernel
theorem dX8_catchUp_56 : decode cX8_catchUp 56 = .ok (.if_icmp .gt 56, 3) := by decide +kernel
theorem dX8_catchUp_59 : decode cX8_catchUp 59 = .ok (.aload_n 1, 1) := by decide +kernel
theorem dX8_catchUp_60 : decode cX8_catchUp 60 = .ok (.getfield 277, 3) := by decide +kernel
theorem dX8_catchUp_63 : decode cX8_catchUp 63 = .ok (.aload_n 0, 1) := by decide +kernel
theorem dX8_catchUp_64 : decode cX8_catchUp 64 = .ok (.getfield 40, 3) := by decide +kernel
theorem dX8_catchUp_67 : decode cX8_catchUp 67 = .ok (.getfield 367, 3) := by decide +kernel
theorem dX8_catchUp_70 : decode cX8_catchUp 70 = .ok (.iload 4, 2) := by decide +kernel
theorem dX8_catchUp_72 : decode cX8_catchUp 72 = .ok (.iaload, 1) := by decide +kernel
theorem dX8_catchUp_73 : decode cX8_catchUp 73 = .ok (.aload_n 0, 1) := by decide +kernel
theorem dX8_catchUp_74 : decode cX8_catchUp 74 = .ok (.getfield 40, 3) := by decide +kernel
theorem dX8_catchUp_77 : decode cX8_catchUp 77 = .ok (.getfield 361, 3) := by decide +kernel
theorem dX8_catchUp_80 : decode cX8_catchUp 80 = .ok (.iload 4, 2) := by decide +kernel
theorem dX8_catchUp_82 : decode cX8_catchUp 82 = .ok (.iaload, 1) := by decide +kernel
theorem dX8_catchUp_83 : decode cX8_catchUp 83 = .ok (.aload_n 0, 1) := by decide +kernel
theorem dX8_catchUp_84 : decode cX8_catchUp 84 = .ok (.getfield 40, 3) := by decide +kernel
theorem dX8_catchUp_87 : decode cX8_catchUp 87 = .ok (.getfield 370, 3) := by decide +kernel
theorem dX8_catchUp_90 : decode cX8_catchUp 90 = .ok (.iload 4, 2) := by decide +kernel
theorem dX8_catchUp_92 : decode cX8_catchUp 92 = .ok (.iaload, 1) := by decide +kernel
theorem dX8_catchUp_93 : decode cX8_catchUp 93 = .ok (.invokevirtual 492, 3) := by decide +kernel
theorem dX8_catchUp_96 : decode cX8_catchUp 96 = .ok (.aload_n 1, 1) := by decide +kernel
theorem dX8_catchUp_97 : decode cX8_catchUp 97 = .ok (.dup, 1) := by decide +kernel
theorem dX8_catchUp_98 : decode cX8_catchUp 98 = .ok (.getfield 391, 3) := by decide +kernel
theorem dX8_catchUp_101 : decode cX8_catchUp 101 = .ok (.iconst 1, 1) := by decide +kernel
theorem dX8_catchUp_102 : decode cX8_catchUp 102 = .ok (.iadd, 1) := by decide +kernel
theorem dX8_catchUp_103 : decode cX8_catchUp 103 = .ok (.putfield 391, 3) := by decide +kernel
theorem dX8_catchUp_106 : decode cX8_catchUp 106 = .ok (.iinc 4 1, 3) := by decide +kernel
theorem dX8_catchUp_109 : decode cX8_catchUp 109 = .ok (.goto (-79), 3) := by decide +kernel
theorem dX8_catchUp_112 : decode cX8_catchUp 112 = .ok (.iload_n 3, 1) := by decide +kernel
theorem dX8_catchUp_113 : decode cX8_catchUp 113 = .ok (.ireturn, 1) := by decide +kernel
theorem dX8_lapseSessions_0 : decode cX8_lapseSessions 0 = .ok (.iconst 0, 1) := by decide +kernel
theorem dX8_lapseSessions_1 : decode cX8_lapseSessions 1 = .ok (.istore_n 1, 1) := by decide +kernel
theorem dX8_lapseSessions_2 : decode cX8_lapseSessions 2 = .ok (.iload_n 1, 1) := by decide +kernel
theorem dX8_lapseSessions_3 : decode cX8_lapseSessions 3 = .ok (.aload_n 0, 1) := by decide +kernel
theorem dX8_lapseSessions_4 : decode cX8_lapseSessions 4 = .ok (.getfield 50, 3) := by decide +kernel
theorem dX8_lapseSessions_7 : decode cX8_lapseSessions 7 = .ok (.invokevirtual 126, 3) := by decide +kernel
theorem dX8_lapseSessions_10 : decode cX8_lapseSessions 10 = .ok (.if_icmp .ge 50, 3) := by decide +kernel
theorem dX8_lapseSessions_13 : decode cX8_lapseSessions 13 = .ok (.aload_n 0, 1) := by decide +kernel
theorem dX8_lapseSessions_14 : decode cX8_lapseSessions 14 = .ok (.getfield 50, 3) := by decide +kernel
theorem dX8_lapseSessions_17 : decode cX8_lapseSessions 17 = .ok (.iload_n 1, 1) := by decide +kernel
theorem dX8_lapseSessions_18 : decode cX8_lapseSessions 18 = .ok (.invokevirtual 383, 3) := by decide +kernel
theorem dX8_lapseSessions_21 : decode cX8_lapseSessions 21 = .ok (.checkcast 135, 3) := by decide +kernel
theorem dX8_lapseSessions_24 : decode cX8_lapseSessions 24 = .ok (.astore_n 2, 1) := by decide +kernel
theorem dX8_lapseSessions_25 : decode cX8_lapseSessions 25 = .ok (.aload_n 2, 1) := by decide +kernel
theorem dX8_lapseSessions_26 : decode cX8_lapseSessions 26 = .ok (.getfield 387, 3) := by decide +kernel
theorem dX8_lapseSessions_29 : decode cX8_lapseSessions 29 = .ok (.ifCond .ne 25, 3) := by decide +kernel
theorem dX8_lapseSessions_32 : decode cX8_lapseSessions 32 = .ok (.aload_n 0, 1) := by decide +kernel
theorem dX8_lapseSessions_33 : decode cX8_lapseSessions 33 = .ok (.getfield 79, 3) := by decide +kernel
theorem dX8_lapseSessions_36 : decode cX8_lapseSessions 36 = .ok (.aload_n 2, 1) := by decide +kernel
theorem dX8_lapseSessions_37 : decode cX8_lapseSessions 37 = .ok (.getfield 238, 3) := by decide +kernel
theorem dX8_lapseSessions_40 : decode cX8_lapseSessions 40 = .ok (.isub, 1) := by decide +kernel
theorem dX8_lapseSessions_41 : decode cX8_lapseSessions 41 = .ok (.aload_n 2, 1) := by decide +kernel
theorem dX8_lapseSessions_42 : decode cX8_lapseSessions 42 = .ok (.getfield 498, 3) := by decide +kernel
theorem dX8_lapseSessions_45 : decode cX8_lapseSessions 45 = .ok (.if_icmp .lt 9, 3) := by decide +kernel
theorem dX8_lapseSessions_48 : decode cX8_lapseSessions 48 = .ok (.aload_n 0, 1) := by decide +kernel
theorem dX8_lapseSessions_49 : decode cX8_lapseSessions 49 = .ok (.aload_n 2, 1) := by decide +kernel
theorem dX8_lapseSessions_50 : decode cX8_lapseSessions 50 = .ok (.invokevirtual 155, 3) := by decide +kernel
theorem dX8_lapseSessions_53 : decode cX8_lapseSessions 53 = .ok (.pop, 1) := by decide +kernel
theorem dX8_lapseSessions_54 : decode cX8_lapseSessions 54 = .ok (.iinc 1 1, 3) := by decide +kernel
theorem dX8_lapseSessions_57 : decode cX8_lapseSessions 57 = .ok (.goto (-55), 3) := by decide +kernel
theorem dX8_lapseSessions_60 : decode cX8_lapseSessions 60 = .ok (.return_, 1) := by decide +kernel
theorem dX8_lapseLeases_0 : decode cX8_lapseLeases 0 = .ok (.iconst 0, 1) := by decide +kernel
theorem dX8_lapseLeases_1 : decode cX8_lapseLeases 1 = .ok (.istore_n 1, 1) := by decide +kernel
theorem dX8_lapseLeases_2 : decode cX8_lapseLeases 2 = .ok (.iload_n 1, 1) := by decide +kernel
theorem dX8_lapseLeases_3 : decode cX8_lapseLeases 3 = .ok (.aload_n 0, 1) := by decide +kernel
theorem dX8_lapseLeases_4 : decode cX8_lapseLeases 4 = .ok (.getfield 54, 3) := by decide +kernel
theorem dX8_lapseLeases_7 : decode cX8_lapseLeases 7 = .ok (.invokevirtual 126, 3) := by decide +kernel
theorem dX8_lapseLeases_10 : decode cX8_lapseLeases 10 = .ok (.if_icmp .ge 51, 3) := by decide +kernel
theorem dX8_lapseLeases_13 : decode cX8_lapseLeases 13 = .ok (.aload_n 0, 1) := by decide +kernel
theorem dX8_lapseLeases_14 : decode cX8_lapseLeases 14 = .ok (.getfield 54, 3) := by decide +kernel
theorem dX8_lapseLeases_17 : decode cX8_lapseLeases 17 = .ok (.iload_n 1, 1) := by decide +kernel
theorem dX8_lapseLeases_18 : decode cX8_lapseLeases 18 = .ok (.invokevirtual 383, 3) := by decide +kernel
theorem dX8_lapseLeases_21 : decode cX8_lapseLeases 21 = .ok (.checkcast 185, 3) := by decide +kernel
theorem dX8_lapseLeases_24 : decode cX8_lapseLeases 24 = .ok (.astore_n 2, 1) := by decide +kernel
theorem dX8_lapseLeases_25 : decode cX8_lapseLeases 25 = .ok (.aload_n 2, 1) := by decide +kernel
theorem dX8_lapseLeases_26 : decode cX8_lapseLeases 26 = .ok (.getfield 194, 3) := by decide +kernel
theorem dX8_lapseLeases_29 : decode cX8_lapseLeases 29 = .ok (.ifCond .ne 26, 3) := by decide +kernel
theorem dX8_lapseLeases_32 : decode cX8_lapseLeases 32 = .ok (.aload_n 0, 1) := by decide +kernel
theorem dX8_lapseLeases_33 : decode cX8_lapseLeases 33 = .ok (.getfield 79, 3) := by decide +kernel
theorem dX8_lapseLeases_36 : decode cX8_lapseLeases 36 = .ok (.aload_n 2, 1) := by decide +kernel
theorem dX8_lapseLeases_37 : decode cX8_lapseLeases 37 = .ok (.getfield 202, 3) := by decide +kernel
theorem dX8_lapseLeases_40 : decode cX8_lapseLeases 40 = .ok (.if_icmp .lt 15, 3) := by decide +kernel
theorem dX8_lapseLeases_43 : decode cX8_lapseLeases 43 = .ok (.aload_n 2, 1) := by decide +kernel
theorem dX8_lapseLeases_44 : decode cX8_lapseLeases 44 = .ok (.iconst 1, 1) := by decide +kernel
theorem dX8_lapseLeases_45 : decode cX8_lapseLeases 45 = .ok (.putfield 194, 3) := by decide +kernel
theorem dX8_lapseLeases_48 : decode cX8_lapseLeases 48 = .ok (.aload_n 0, 1) := by decide +kernel
theorem dX8_lapseLeases_49 : decode cX8_lapseLeases 49 = .ok (.iconst 2, 1) := by decide +kernel
theorem dX8_lapseLeases_50 : decode cX8_lapseLeases 50 = .ok (.iload_n 1, 1) := by decide +kernel
theorem dX8_lapseLeases_51 : decode cX8_lapseLeases 51 = .ok (.invokevirtual 501, 3) := by decide +kernel
theorem dX8_lapseLeases_54 : decode cX8_lapseLeases 54 = .ok (.pop, 1) := by decide +kernel
theorem dX8_lapseLeases_55 : decode cX8_lapseLeases 55 = .ok (.iinc 1 1, 3) := by decide +kernel
theorem dX8_lapseLeases_58 : decode cX8_lapseLeases 58 = .ok (.goto (-56), 3) := by decide +kernel
theorem dX8_lapseLeases_61 : decode cX8_lapseLeases 61 = .ok (.return_, 1) := by decide +kernel
theorem dX8_endSession_0 : decode cX8_endSession 0 = .ok (.aload_n 1, 1) := by decide +kernel
theorem dX8_endSession_1 : decode cX8_endSession 1 = .ok (.iconst 1, 1) := by decide +kernel
theorem dX8_endSession_2 : decode cX8_endSession 2 = .ok (.putfield 387, 3) := by decide +kernel
theorem dX8_endSession_5 : decode cX8_endSession 5 = .ok (.aload_n 0, 1) := by decide +kernel
theorem dX8_endSession_6 : decode cX8_endSession 6 = .ok (.iconst 1, 1) := by decide +kernel
theorem dX8_endSession_7 : decode cX8_endSession 7 = .ok (.aload_n 1, 1) := by decide +kernel
theorem dX8_endSession_8 : decode cX8_endSession 8 = .ok (.getfield 504, 3) := by decide +kernel
theorem dX8_endSession_11 : decode cX8_endSession 11 = .ok (.invokevirtual 501, 3) := by decide +kernel
theorem dX8_endSession_14 : decode cX8_endSession 14 = .ok (.ireturn, 1) := by decide +kernel
theorem dX8_letHeldGo_0 : decode cX8_letHeldGo 0 = .ok (.iconst 0, 1) := by decide +kernel
theorem dX8_letHeldGo_1 : decode cX8_letHeldGo 1 = .ok (.istore_n 3, 1) := by decide +kernel
theorem dX8_letHeldGo_2 : decode cX8_letHeldGo 2 = .ok (.iconst 1, 1) := by decide +kernel
theorem dX8_letHeldGo_3 : decode cX8_letHeldGo 3 = .ok (.istore 4, 2) := by decide +kernel
theorem dX8_letHeldGo_5 : decode cX8_letHeldGo 5 = .ok (.iload 4, 2) := by decide +kernel
theorem dX8_letHeldGo_7 : decode cX8_letHeldGo 7 = .ok (.bipush 80, 2) := by decide +kernel
theorem dX8_letHeldGo_9 : decode cX8_letHeldGo 9 = .ok (.if_icmp .ge 59, 3) := by decide +kernel
theorem dX8_letHeldGo_12 : decode cX8_letHeldGo 12 = .ok (.aload_n 0, 1) := by decide +kernel
theorem dX8_letHeldGo_13 : decode cX8_letHeldGo 13 = .ok (.getfield 27, 3) := by decide +kernel
theorem dX8_letHeldGo_16 : decode cX8_letHeldGo 16 = .ok (.getfield 352, 3) := by decide +kernel
theorem dX8_letHeldGo_19 : decode cX8_letHeldGo 19 = .ok (.iload 4, 2) := by decide +kernel
theorem dX8_letHeldGo_21 : decode cX8_letHeldGo 21 = .ok (.baload, 1) := by decide +kernel
theorem dX8_letHeldGo_22 : decode cX8_letHeldGo 22 = .ok (.ifCond .eq 40, 3) := by decide +kernel
theorem dX8_letHeldGo_25 : decode cX8_letHeldGo 25 = .ok (.aload_n 0, 1) := by decide +kernel
theorem dX8_letHeldGo_26 : decode cX8_letHeldGo 26 = .ok (.getfield 10, 3) := by decide +kernel
theorem dX8_letHeldGo_29 : decode cX8_letHeldGo 29 = .ok (.getfield 488, 3) := by decide +kernel
theorem dX8_letHeldGo_32 : decode cX8_letHeldGo 32 = .ok (.iload 4, 2) := by decide +kernel
theorem dX8_letHeldGo_34 : decode cX8_letHeldGo 34 = .ok (.iaload, 1) := by decide +kernel
theorem dX8_letHeldGo_35 : decode cX8_letHeldGo 35 = .ok (.iload_n 1, 1) := by decide +kernel
theorem dX8_letHeldGo_36 : decode cX8_letHeldGo 36 = .ok (.if_icmp .ne 26, 3) := by decide +kernel
theorem dX8_letHeldGo_39 : decode cX8_letHeldGo 39 = .ok (.aload_n 0, 1) := by decide +kernel
theorem dX8_letHeldGo_40 : decode cX8_letHeldGo 40 = .ok (.getfield 10, 3) := by decide +kernel
theorem dX8_letHeldGo_43 : decode cX8_letHeldGo 43 = .ok (.getfield 505, 3) := by decide +kernel
theorem dX8_letHeldGo_46 : decode cX8_letHeldGo 46 = .ok (.iload 4, 2) := by decide +kernel
theorem dX8_letHeldGo_48 : decode cX8_letHeldGo 48 = .ok (.iaload, 1) := by decide +kernel
theorem dX8_letHeldGo_49 : decode cX8_letHeldGo 49 = .ok (.iload_n 2, 1) := by decide +kernel
theorem dX8_letHeldGo_50 : decode cX8_letHeldGo 50 = .ok (.if_icmp .ne 12, 3) := by decide +kernel
theorem dX8_letHeldGo_53 : decode cX8_letHeldGo 53 = .ok (.iload_n 3, 1) := by decide +kernel
theorem dX8_letHeldGo_54 : decode cX8_letHeldGo 54 = .ok (.aload_n 0, 1) := by decide +kernel
theorem dX8_letHeldGo_55 : decode cX8_letHeldGo 55 = .ok (.iload 4, 2) := by decide +kernel
theorem dX8_letHeldGo_57 : decode cX8_letHeldGo 57 = .ok (.invokevirtual 323, 3) := by decide +kernel
theorem dX8_letHeldGo_60 : decode cX8_letHeldGo 60 = .ok (.iadd, 1) := by decide +kernel
theorem dX8_letHeldGo_61 : decode cX8_letHeldGo 61 = .ok (.istore_n 3, 1) := by decide +kernel
theorem dX8_letHeldGo_62 : decode cX8_letHeldGo 62 = .ok (.iinc 4 1, 3) := by decide +kernel
theorem dX8_letHeldGo_65 : decode cX8_letHeldGo 65 = .ok (.goto (-60), 3) := by decide +kernel
theorem dX8_letHeldGo_68 : decode cX8_letHeldGo 68 = .ok (.aload_n 0, 1) := by decide +kernel
theorem dX8_letHeldGo_69 : decode cX8_letHeldGo 69 = .ok (.invokevirtual 326, 3) := by decide +kernel
theorem dX8_letHeldGo_72 : decode cX8_letHeldGo 72 = .ok (.iload_n 3, 1) := by decide +kernel
theorem dX8_letHeldGo_73 : decode cX8_letHeldGo 73 = .ok (.ireturn, 1) := by decide +kernel
theorem dX8_tellWatches_0 : decode cX8_tellWatches 0 = .ok (.aload_n 1, 1) := by decide +kernel
theorem dX8_tellWatches_1 : decode cX8_tellWatches 1 = .ok (.getfield 507, 3) := by decide +kernel
theorem dX8_tellWatches_4 : decode cX8_tellWatches 4 = .ok (.istore_n 2, 1) := by decide +kernel
theorem dX8_tellWatches_5 : decode cX8_tellWatches 5 = .ok (.iload_n 2, 1) := by decide +kernel
theorem dX8_tellWatches_6 : decode cX8_tellWatches 6 = .ok (.aload_n 0, 1) := by decide +kernel
theorem dX8_tellWatches_7 : decode cX8_tellWatches 7 = .ok (.getfield 40, 3) := by decide +kernel
theorem dX8_tellWatches_10 : decode cX8_tellWatches 10 = .ok (.getfield 356, 3) := by decide +kernel
theorem dX8_tellWatches_13 : decode cX8_tellWatches 13 = .ok (.if_icmp .ge 57, 3) := by decide +kernel
theorem dX8_tellWatches_16 : decode cX8_tellWatches 16 = .ok (.iload_n 2, 1) := by decide +kernel
theorem dX8_tellWatches_17 : decode cX8_tellWatches 17 = .ok (.aload_n 1, 1) := by decide +kernel
theorem dX8_tellWatches_18 : decode cX8_tellWatches 18 = .ok (.getfield 162, 3) := by decide +kernel
theorem dX8_tellWatches_21 : decode cX8_tellWatches 21 = .ok (.getfield 391, 3) := by decide +kernel
theorem dX8_tellWatches_24 : decode cX8_tellWatches 24 = .ok (.if_icmp .ge 46, 3) := by decide +kernel
theorem dX8_tellWatches_27 : decode cX8_tellWatches 27 = .ok (.aload_n 0, 1) := by decide +kernel
theorem dX8_tellWatches_28 : decode cX8_tellWatches 28 = .ok (.getfield 40, 3) := by decide +kernel
theorem dX8_tellWatches_31 : decode cX8_tellWatches 31 = .ok (.iload_n 2, 1) := by decide +kernel
theorem dX8_tellWatches_32 : decode cX8_tellWatches 32 = .ok (.invokevirtual 364, 3) := by decide +kernel
theorem dX8_tellWatches_35 : decode cX8_tellWatches 35 = .ok (.ifCond .eq 29, 3) := by decide +kernel
theorem dX8_tellWatches_38 : decode cX8_tellWatches 38 = .ok (.aload_n 1, 1) := by decide +kernel
theorem dX8_tellWatches_39 : decode cX8_tellWatches 39 = .ok (.aload_n 0, 1) := by decide +kernel
theorem dX8_tellWatches_40 : decode cX8_tellWatches 40 = .ok (.getfield 40, 3) := by decide +kernel
theorem dX8_tellWatches_43 : decode cX8_tellWatches 43 = .ok (.getfield 367, 3) := by decide +kernel
theorem dX8_tellWatches_46 : decode cX8_tellWatches 46 = .ok (.iload_n 2, 1) := by decide +kernel
theorem dX8_tellWatches_47 : decode cX8_tellWatches 47 = .ok (.iaload, 1) := by decide +kernel
theorem dX8_tellWatches_48 : decode cX8_tellWatches 48 = .ok (.aload_n 0, 1) := by decide +kernel
theorem dX8_tellWatches_49 : decode cX8_tellWatches 49 = .ok (.getfield 40, 3) := by decide +kernel
theorem dX8_tellWatches_52 : decode cX8_tellWatches 52 = .ok (.getfield 361, 3) := by decide +kernel
theorem dX8_tellWatches_55 : decode cX8_tellWatches 55 = .ok (.iload_n 2, 1) := by decide +kernel
theorem dX8_tellWatches_56 : decode cX8_tellWatches 56 = .ok (.iaload, 1) := by decide +kernel
theorem dX8_tellWatches_57 : decode cX8_tellWatches 57 = .ok (.aload_n 0, 1) := by decide +kernel
theorem dX8_tellWatches_58 : decode cX8_tellWatches 58 = .ok (.getfield 10, 3) := by decide +kernel
theorem dX8_tellWatches_61 : decode cX8_tellWatches 61 = .ok (.invokevirtual 508, 3) := by decide +kernel
theorem dX8_tellWatches_64 : decode cX8_tellWatches 64 = .ok (.iinc 2 1, 3) := by decide +kernel
theorem dX8_tellWatches_67 : decode cX8_tellWatches 67 = .ok (.goto (-62), 3) := by decide +kernel
theorem dX8_tellWatches_70 : decode cX8_tellWatches 70 = .ok (.aload_n 1, 1) := by decide +kernel
theorem dX8_tellWatches_71 : decode cX8_tellWatches 71 = .ok (.aload_n 1, 1) := by decide +kernel
theorem dX8_tellWatches_72 : decode cX8_tellWatches 72 = .ok (.getfield 162, 3) := by decide +kernel
theorem dX8_tellWatches_75 : decode cX8_tellWatches 75 = .ok (.getfield 391, 3) := by decide +kernel
theorem dX8_tellWatches_78 : decode cX8_tellWatches 78 = .ok (.putfield 507, 3) := by decide +kernel
theorem dX8_tellWatches_81 : decode cX8_tellWatches 81 = .ok (.return_, 1) := by decide +kernel
theorem dX8_believe_0 : decode cX8_believe 0 = .ok (.iload_n 2, 1) := by decide +kernel
theorem dX8_believe_1 : decode cX8_believe 1 = .ok (.iconst 0, 1) := by decide +kernel
theorem dX8_believe_2 : decode cX8_believe 2 = .ok (.bipush 79, 2) := by decide +kernel
theorem dX8_believe_4 : decode cX8_believe 4 = .ok (.invokestatic 106, 3) := by decide +kernel
theorem dX8_believe_7 : decode cX8_believe 7 = .ok (.ifCond .eq 44, 3) := by decide +kernel
theorem dX8_believe_10 : decode cX8_believe 10 = .ok (.iconst 1, 1) := by decide +kernel
theorem dX8_believe_11 : decode cX8_believe 11 = .ok (.aload_n 1, 1) := by decide +kernel
theorem dX8_believe_12 : decode cX8_believe 12 = .ok (.getfield 504, 3) := by decide +kernel
theorem dX8_believe_15 : decode cX8_believe 15 = .ok (.ishl, 1) := by decide +kernel
theorem dX8_believe_16 : decode cX8_believe 16 = .ok (.istore 4, 2) := by decide +kernel
theorem dX8_believe_18 : decode cX8_believe 18 = .ok (.aload_n 0, 1) := by decide +kernel
theorem dX8_believe_19 : decode cX8_believe 19 = .ok (.getfield 68, 3) := by decide +kernel
theorem dX8_believe_22 : decode cX8_believe 22 = .ok (.iload_n 2, 1) := by decide +kernel
theorem dX8_believe_23 : decode cX8_believe 23 = .ok (.iload_n 3, 1) := by decide +kernel
theorem dX8_believe_24 : decode cX8_believe 24 = .ok (.ifCond .eq 15, 3) := by decide +kernel
theorem dX8_believe_27 : decode cX8_believe 27 = .ok (.aload_n 0, 1) := by decide +kernel
theorem dX8_believe_28 : decode cX8_believe 28 = .ok (.getfield 68, 3) := by decide +kernel
theorem dX8_believe_31 : decode cX8_believe 31 = .ok (.iload_n 2, 1) := by decide +kernel
theorem dX8_believe_32 : decode cX8_believe 32 = .ok (.iaload, 1) := by decide +kernel
theorem dX8_believe_33 : decode cX8_believe 33 = .ok (.iload 4, 2) := by decide +kernel
theorem dX8_believe_35 : decode cX8_believe 35 = .ok (.ior, 1) := by decide +kernel
theorem dX8_believe_36 : decode cX8_believe 36 = .ok (.goto 14, 3) := by decide +kernel
theorem dX8_believe_39 : decode cX8_believe 39 = .ok (.aload_n 0, 1) := by decide +kernel
theorem dX8_believe_40 : decode cX8_believe 40 = .ok (.getfield 68, 3) := by decide +kernel
theorem dX8_believe_43 : decode cX8_believe 43 = .ok (.iload_n 2, 1) := by decide +kernel
theorem dX8_believe_44 : decode cX8_believe 44 = .ok (.iaload, 1) := by decide +kernel
theorem dX8_believe_45 : decode cX8_believe 45 = .ok (.iload 4, 2) := by decide +kernel
theorem dX8_believe_47 : decode cX8_believe 47 = .ok (.iconst (-1), 1) := by decide +kernel
theorem dX8_believe_48 : decode cX8_believe 48 = .ok (.ixor, 1) := by decide +kernel
theorem dX8_believe_49 : decode cX8_believe 49 = .ok (.iand, 1) := by decide +kernel
theorem dX8_believe_50 : decode cX8_believe 50 = .ok (.iastore, 1) := by decide +kernel
theorem dX8_believe_51 : decode cX8_believe 51 = .ok (.return_, 1) := by decide +kernel
theorem dX8_forgetLocks_0 : decode cX8_forgetLocks 0 = .ok (.iconst 0, 1) := by decide +kernel
theorem dX8_forgetLocks_1 : decode cX8_forgetLocks 1 = .ok (.istore_n 2, 1) := by decide +kernel
theorem dX8_forgetLocks_2 : decode cX8_forgetLocks 2 = .ok (.iload_n 2, 1) := by decide +kernel
theorem dX8_forgetLocks_3 : decode cX8_forgetLocks 3 = .ok (.bipush 80, 2) := by decide +kernel
theorem dX8_forgetLocks_5 : decode cX8_forgetLocks 5 = .ok (.if_icmp .ge 16, 3) := by decide +kernel
theorem dX8_forgetLocks_8 : decode cX8_forgetLocks 8 = .ok (.aload_n 0, 1) := by decide +kernel
theorem dX8_forgetLocks_9 : decode cX8_forgetLocks 9 = .ok (.aload_n 1, 1) := by decide +kernel
theorem dX8_forgetLocks_10 : decode cX8_forgetLocks 10 = .ok (.iload_n 2, 1) := by decide +kernel
theorem dX8_forgetLocks_11 : decode cX8_forgetLocks 11 = .ok (.iconst 0, 1) := by decide +kernel
theorem dX8_forgetLocks_12 : decode cX8_forgetLocks 12 = .ok (.invokevirtual 316, 3) := by decide +kernel
theorem dX8_forgetLocks_15 : decode cX8_forgetLocks 15 = .ok (.iinc 2 1, 3) := by decide +kernel
theorem dX8_forgetLocks_18 : decode cX8_forgetLocks 18 = .ok (.goto (-16), 3) := by decide +kernel
theorem dX8_forgetLocks_21 : decode cX8_forgetLocks 21 = .ok (.return_, 1) := by decide +kernel
theorem dX9_init_0 : decode cX9_init 0 = .ok (.aload_n 0, 1) := by decide +kernel
theorem dX9_init_1 : decode cX9_init 1 = .ok (.invokespecial 1, 3) := by decide +kernel
theorem dX9_init_4 : decode cX9_init 4 = .ok (.aload_n 0, 1) := by decide +kernel
theorem dX9_init_5 : decode cX9_init 5 = .ok (.bipush 80, 2) := by decide +kernel
theorem dX9_init_7 : decode cX9_init 7 = .ok (.newarray .int, 2) := by decide +kernel
theorem dX9_init_9 : decode cX9_init 9 = .ok (.putfield 7, 3) := by decide +kernel
theorem dX9_init_12 : decode cX9_init 12 = .ok (.aload_n 0, 1) := by decide +kernel
theorem dX9_init_13 : decode cX9_init 13 = .ok (.bipush 80, 2) := by decide +kernel
theorem dX9_init_15 : decode cX9_init 15 = .ok (.newarray .int, 2) := by decide +kernel
theorem dX9_init_17 : decode cX9_init 17 = .ok (.putfield 13, 3) := by decide +kernel
theorem dX9_init_20 : decode cX9_init 20 = .ok (.aload_n 0, 1) := by decide +kernel
theorem dX9_init_21 : decode cX9_init 21 = .ok (.bipush 80, 2) := by decide +kernel
theorem dX9_init_23 : decode cX9_init 23 = .ok (.newarray .int, 2) := by decide +kernel
theorem dX9_init_25 : decode cX9_init 25 = .ok (.putfield 16, 3) := by decide +kernel
theorem dX9_init_28 : decode cX9_init 28 = .ok (.aload_n 0, 1) := by decide +kernel
theorem dX9_init_29 : decode cX9_init 29 = .ok (.bipush 80, 2) := by decide +kernel
theorem dX9_init_31 : decode cX9_init 31 = .ok (.newarray .int, 2) := by decide +kernel
theorem dX9_init_33 : decode cX9_init 33 = .ok (.putfield 19, 3) := by decide +kernel
theorem dX9_init_36 : decode cX9_init 36 = .ok (.aload_n 0, 1) := by decide +kernel
theorem dX9_init_37 : decode cX9_init 37 = .ok (.bipush 80, 2) := by decide +kernel
theorem dX9_init_39 : decode cX9_init 39 = .ok (.newarray .int, 2) := by decide +kernel
theorem dX9_init_41 : decode cX9_init 41 = .ok (.putfield 22, 3) := by decide +kernel
theorem dX9_init_44 : decode cX9_init 44 = .ok (.aload_n 0, 1) := by decide +kernel
theorem dX9_init_45 : decode cX9_init 45 = .ok (.bipush 80, 2) := by decide +kernel
theorem dX9_init_47 : decode cX9_init 47 = .ok (.newarray .int, 2) := by decide +kernel
theorem dX9_init_49 : decode cX9_init 49 = .ok (.putfield 25, 3) := by decide +kernel
theorem dX9_init_52 : decode cX9_init 52 = .ok (.aload_n 0, 1) := by decide +kernel
theorem dX9_init_53 : decode cX9_init 53 = .ok (.bipush 80, 2) := by decide +kernel
theorem dX9_init_55 : decode cX9_init 55 = .ok (.newarray .int, 2) := by decide +kernel
theorem dX9_init_57 : decode cX9_init 57 = .ok (.putfield 28, 3) := by decide +kernel
theorem dX9_init_60 : decode cX9_init 60 = .ok (.aload_n 0, 1) := by decide +kernel
theorem dX9_init_61 : decode cX9_init 61 = .ok (.sipush 400, 3) := by decide +kernel
theorem dX9_init_64 : decode cX9_init 64 = .ok (.newarray .int, 2) := by decide +kernel
theorem dX9_init_66 : decode cX9_init 66 = .ok (.putfield 31, 3) := by decide +kernel
theorem dX9_init_69 : decode cX9_init 69 = .ok (.aload_n 0, 1) := by decide +kernel
theorem dX9_init_70 : decode cX9_init 70 = .ok (.sipush 400, 3) := by decide +kernel
theorem dX9_init_73 : decode cX9_init 73 = .ok (.newarray .int, 2) := by decide +kernel
theorem dX9_init_75 : decode cX9_init 75 = .ok (.putfield 34, 3) := by decide +kernel
theorem dX9_init_78 : decode cX9_init 78 = .ok (.aload_n 0, 1) := by decide +kernel
theorem dX9_init_79 : decode cX9_init 79 = .ok (.sipush 400, 3) := by decide +kernel
theorem dX9_init_82 : decode cX9_init 82 = .ok (.newarray .int, 2) := by decide +kernel
theorem dX9_init_84 : decode cX9_init 84 = .ok (.putfield 37, 3) := by decide +kernel
theorem dX9_init_87 : decode cX9_init 87 = .ok (.aload_n 0, 1) := by decide +kernel
theorem dX9_init_88 : decode cX9_init 88 = .ok (.sipush 400, 3) := by decide +kernel
theorem dX9_init_91 : decode cX9_init 91 = .ok (.newarray .int, 2) := by decide +kernel
theorem dX9_init_93 : decode cX9_init 93 = .ok (.putfield 40, 3) := by decide +kernel
theorem dX9_init_96 : decode cX9_init 96 = .ok (.aload_n 0, 1) := by decide +kernel
theorem dX9_init_97 : decode cX9_init 97 = .ok (.sipush 400, 3) := by decide +kernel
theorem dX9_init_100 : decode cX9_init 100 = .ok (.newarray .int, 2) := by decide +kernel
theorem dX9_init_102 : decode cX9_init 102 = .ok (.putfield 43, 3) := by decide +kernel
theorem dX9_init_105 : decode cX9_init 105 = .ok (.aload_n 0, 1) := by decide +kernel
theorem dX9_init_106 : decode cX9_init 106 = .ok (.sipush 400, 3) := by decide +kernel
theorem dX9_init_109 : decode cX9_init 109 = .ok (.newarray .int, 2) := by decide +kernel
theorem dX9_init_111 : decode cX9_init 111 = .ok (.putfield 46, 3) := by decide +kernel
theorem dX9_init_114 : decode cX9_init 114 = .ok (.aload_n 0, 1) := by decide +kernel
theorem dX9_init_115 : decode cX9_init 115 = .ok (.sipush 400, 3) := by decide +kernel
theorem dX9_init_118 : decode cX9_init 118 = .ok (.newarray .int, 2) := by decide +kernel
theorem dX9_init_120 : decode cX9_init 120 = .ok (.putfield 49, 3) := by decide +kernel
theorem dX9_init_123 : decode cX9_init 123 = .ok (.aload_n 0, 1) := by decide +kernel
theorem dX9_init_124 : decode cX9_init 124 = .ok (.bipush 80, 2) := by decide +kernel
theorem dX9_init_126 : decode cX9_init 126 = .ok (.newarray .int, 2) := by decide +kernel
theorem dX9_init_128 : decode cX9_init 128 = .ok (.putfield 52, 3) := by decide +kernel
theorem dX9_init_131 : decode cX9_init 131 = .ok (.aload_n 0, 1) := by decide +kernel
theorem dX9_init_132 : decode cX9_init 132 = .ok (.bipush 80, 2) := by decide +kernel
theorem dX9_init_134 : decode cX9_init 134 = .ok (.newarray .int, 2) := by decide +kernel
theorem dX9_init_136 : decode cX9_init 136 = .ok (.putfield 55, 3) := by decide +kernel
theorem dX9_init_139 : decode cX9_init 139 = .ok (.aload_n 0, 1) := by decide +kernel
theorem dX9_init_140 : decode cX9_init 140 = .ok (.ldc 58, 2) := by decide +kernel
theorem dX9_init_142 : decode cX9_init 142 = .ok (.newarray .int, 2) := by decide +kernel
theorem dX9_init_144 : decode cX9_init 144 = .ok (.putfield 59, 3) := by decide +kernel
theorem dX9_init_147 : decode cX9_init 147 = .ok (.aload_n 0, 1) := by decide +kernel
theorem dX9_init_148 : decode cX9_init 148 = .ok (.ldc 58, 2) := by decide +kernel
theorem dX9_init_150 : decode cX9_init 150 = .ok (.newarray .int, 2) := by decide +kernel
theorem dX9_init_152 : decode cX9_init 152 = .ok (.putfield 62, 3) := by decide +kernel
theorem dX9_init_155 : decode cX9_init 155 = .ok (.aload_n 0, 1) := by decide +kernel
theorem dX9_init_156 : decode cX9_init 156 = .ok (.ldc 58, 2) := by decide +kernel
theorem dX9_init_158 : decode cX9_init 158 = .ok (.newarray .int, 2) := by decide +kernel
theorem dX9_init_160 : decode cX9_init 160 = .ok (.putfield 65, 3) := by decide +kernel
theorem dX9_init_163 : decode cX9_init 163 = .ok (.aload_n 0, 1) := by decide +kernel
theorem dX9_init_164 : decode cX9_init 164 = .ok (.ldc 58, 2) := by decide +kernel
theorem dX9_init_166 : decode cX9_init 166 = .ok (.newarray .int, 2) := by decide +kernel
theorem dX9_init_168 : decode cX9_init 168 = .ok (.putfield 68, 3) := by decide +kernel
theorem dX9_init_171 : decode cX9_init 171 = .ok (.aload_n 0, 1) := by decide +kernel
theorem dX9_init_172 : decode cX9_init 172 = .ok (.ldc 58, 2) := by decide +kernel
theorem dX9_init_174 : decode cX9_init 174 = .ok (.newarray .int, 2) := by decide +kernel
theorem dX9_init_176 : decode cX9_init 176 = .ok (.putfield 71, 3) := by decide +kernel
theorem dX9_init_179 : decode cX9_init 179 = .ok (.aload_n 0, 1) := by decide +kernel
theorem dX9_init_180 : decode cX9_init 180 = .ok (.iconst 3, 1) := by decide +kernel
theorem dX9_init_181 : decode cX9_init 181 = .ok (.newarray .int, 2) := by decide +kernel
theorem dX9_init_183 : decode cX9_init 183 = .ok (.putfield 74, 3) := by decide +kernel
theorem dX9_init_186 : decode cX9_init 186 = .ok (.aload_n 0, 1) := by decide +kernel
theorem dX9_init_187 : decode cX9_init 187 = .ok (.iconst 3, 1) := by decide +kernel
theorem dX9_init_188 : decode cX9_init 188 = .ok (.newarray .int, 2) := by decide +kernel
theorem dX9_init_190 : decode cX9_init 190 = .ok (.putfield 77, 3) := by decide +kernel
theorem dX9_init_193 : decode cX9_init 193 = .ok (.aload_n 0, 1) := by decide +kernel
theorem dX9_init_194 : decode cX9_init 194 = .ok (.bipush 10, 2) := by decide +kernel
theorem dX9_init_196 : decode cX9_init 196 = .ok (.newarray .int, 2) := by decide +kernel
theorem dX9_init_198 : decode cX9_init 198 = .ok (.putfield 80, 3) := by decide +kernel
theorem dX9_init_201 : decode cX9_init 201 = .ok (.aload_n 0, 1) := by decide +kernel
