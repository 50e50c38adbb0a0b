theorem dX9_move_86 : decode cX9_move 86 = .ok (.iload 4, 2) := by decide +kernel
theorem dX9_move_88 : decode cX9_move 88 = .ok (.aload_n 0, 1) := by decide +kernel
theorem dX9_move_89 : decode cX9_move 89 = .ok (.getfield 74, 3) := by decide +kernel
theorem dX9_move_92 : decode cX9_move 92 = .ok (.iload_n 2, 1) := by decide +kernel
theorem dX9_move_93 : decode cX9_move 93 = .ok (.iaload, 1) := by decide +kernel
theorem dX9_move_94 : decode cX9_move 94 = .ok (.if_icmp .ge 16, 3) := by decide +kernel
theorem dX9_move_97 : decode cX9_move 97 = .ok (.aload_n 0, 1) := by decide +kernel
theorem dX9_move_98 : decode cX9_move 98 = .ok (.iload_n 1, 1) := by decide +kernel
theorem dX9_move_99 : decode cX9_move 99 = .ok (.iload 4, 2) := by decide +kernel
theorem dX9_move_101 : decode cX9_move 101 = .ok (.invokevirtual 191, 3) := by decide +kernel
theorem dX9_move_104 : decode cX9_move 104 = .ok (.iinc 4 1, 3) := by decide +kernel
theorem dX9_move_107 : decode cX9_move 107 = .ok (.goto (-21), 3) := by decide +kernel
theorem dX9_move_110 : decode cX9_move 110 = .ok (.aload_n 0, 1) := by decide +kernel
theorem dX9_move_111 : decode cX9_move 111 = .ok (.getfield 83, 3) := by decide +kernel
theorem dX9_move_114 : decode cX9_move 114 = .ok (.iload_n 1, 1) := by decide +kernel
theorem dX9_move_115 : decode cX9_move 115 = .ok (.iload_n 2, 1) := by decide +kernel
theorem dX9_move_116 : decode cX9_move 116 = .ok (.iastore, 1) := by decide +kernel
theorem dX9_move_117 : decode cX9_move 117 = .ok (.iconst 1, 1) := by decide +kernel
theorem dX9_move_118 : decode cX9_move 118 = .ok (.ireturn, 1) := by decide +kernel
theorem dX9_sync_0 : decode cX9_sync 0 = .ok (.aload_n 0, 1) := by decide +kernel
theorem dX9_sync_1 : decode cX9_sync 1 = .ok (.aload_n 0, 1) := by decide +kernel
theorem dX9_sync_2 : decode cX9_sync 2 = .ok (.iload_n 1, 1) := by decide +kernel
theorem dX9_sync_3 : decode cX9_sync 3 = .ok (.invokevirtual 278, 3) := by decide +kernel
theorem dX9_sync_6 : decode cX9_sync 6 = .ok (.ifCond .ne 7, 3) := by decide +kernel
theorem dX9_sync_9 : decode cX9_sync 9 = .ok (.iconst 1, 1) := by decide +kernel
theorem dX9_sync_10 : decode cX9_sync 10 = .ok (.goto 16, 3) := by decide +kernel
theorem dX9_sync_13 : decode cX9_sync 13 = .ok (.aload_n 0, 1) := by decide +kernel
theorem dX9_sync_14 : decode cX9_sync 14 = .ok (.iload_n 1, 1) := by decide +kernel
theorem dX9_sync_15 : decode cX9_sync 15 = .ok (.invokevirtual 269, 3) := by decide +kernel
theorem dX9_sync_18 : decode cX9_sync 18 = .ok (.ifCond .eq 7, 3) := by decide +kernel
theorem dX9_sync_21 : decode cX9_sync 21 = .ok (.iconst 2, 1) := by decide +kernel
theorem dX9_sync_22 : decode cX9_sync 22 = .ok (.goto 4, 3) := by decide +kernel
theorem dX9_sync_25 : decode cX9_sync 25 = .ok (.iconst 0, 1) := by decide +kernel
theorem dX9_sync_26 : decode cX9_sync 26 = .ok (.invokevirtual 272, 3) := by decide +kernel
theorem dX9_sync_29 : decode cX9_sync 29 = .ok (.ifCond .eq 5, 3) := by decide +kernel
theorem dX9_sync_32 : decode cX9_sync 32 = .ok (.iconst (-1), 1) := by decide +kernel
theorem dX9_sync_33 : decode cX9_sync 33 = .ok (.ireturn, 1) := by decide +kernel
theorem dX9_sync_34 : decode cX9_sync 34 = .ok (.aload_n 0, 1) := by decide +kernel
theorem dX9_sync_35 : decode cX9_sync 35 = .ok (.iload_n 1, 1) := by decide +kernel
theorem dX9_sync_36 : decode cX9_sync 36 = .ok (.invokevirtual 255, 3) := by decide +kernel
theorem dX9_sync_39 : decode cX9_sync 39 = .ok (.aload_n 0, 1) := by decide +kernel
theorem dX9_sync_40 : decode cX9_sync 40 = .ok (.getfield 77, 3) := by decide +kernel
theorem dX9_sync_43 : decode cX9_sync 43 = .ok (.aload_n 0, 1) := by decide +kernel
theorem dX9_sync_44 : decode cX9_sync 44 = .ok (.getfield 83, 3) := by decide +kernel
theorem dX9_sync_47 : decode cX9_sync 47 = .ok (.iload_n 1, 1) := by decide +kernel
theorem dX9_sync_48 : decode cX9_sync 48 = .ok (.iaload, 1) := by decide +kernel
theorem dX9_sync_49 : decode cX9_sync 49 = .ok (.iaload, 1) := by decide +kernel
theorem dX9_sync_50 : decode cX9_sync 50 = .ok (.istore_n 2, 1) := by decide +kernel
theorem dX9_sync_51 : decode cX9_sync 51 = .ok (.aload_n 0, 1) := by decide +kernel
theorem dX9_sync_52 : decode cX9_sync 52 = .ok (.aload_n 0, 1) := by decide +kernel
theorem dX9_sync_53 : decode cX9_sync 53 = .ok (.getfield 83, 3) := by decide +kernel
theorem dX9_sync_56 : decode cX9_sync 56 = .ok (.iload_n 1, 1) := by decide +kernel
theorem dX9_sync_57 : decode cX9_sync 57 = .ok (.iaload, 1) := by decide +kernel
theorem dX9_sync_58 : decode cX9_sync 58 = .ok (.aload_n 0, 1) := by decide +kernel
theorem dX9_sync_59 : decode cX9_sync 59 = .ok (.getfield 181, 3) := by decide +kernel
theorem dX9_sync_62 : decode cX9_sync 62 = .ok (.invokevirtual 197, 3) := by decide +kernel
theorem dX9_sync_65 : decode cX9_sync 65 = .ok (.aload_n 0, 1) := by decide +kernel
theorem dX9_sync_66 : decode cX9_sync 66 = .ok (.getfield 181, 3) := by decide +kernel
theorem dX9_sync_69 : decode cX9_sync 69 = .ok (.iload_n 2, 1) := by decide +kernel
theorem dX9_sync_70 : decode cX9_sync 70 = .ok (.isub, 1) := by decide +kernel
theorem dX9_sync_71 : decode cX9_sync 71 = .ok (.ireturn, 1) := by decide +kernel
theorem dX9_follow_0 : decode cX9_follow 0 = .ok (.aload_n 0, 1) := by decide +kernel
theorem dX9_follow_1 : decode cX9_follow 1 = .ok (.aload_n 0, 1) := by decide +kernel
theorem dX9_follow_2 : decode cX9_follow 2 = .ok (.iload_n 1, 1) := by decide +kernel
theorem dX9_follow_3 : decode cX9_follow 3 = .ok (.iconst 0, 1) := by decide +kernel
theorem dX9_follow_4 : decode cX9_follow 4 = .ok (.iconst 2, 1) := by decide +kernel
theorem dX9_follow_5 : decode cX9_follow 5 = .ok (.invokevirtual 151, 3) := by decide +kernel
theorem dX9_follow_8 : decode cX9_follow 8 = .ok (.ifCond .ne 7, 3) := by decide +kernel
theorem dX9_follow_11 : decode cX9_follow 11 = .ok (.iconst 1, 1) := by decide +kernel
theorem dX9_follow_12 : decode cX9_follow 12 = .ok (.goto 19, 3) := by decide +kernel
theorem dX9_follow_15 : decode cX9_follow 15 = .ok (.aload_n 0, 1) := by decide +kernel
theorem dX9_follow_16 : decode cX9_follow 16 = .ok (.iload_n 2, 1) := by decide +kernel
theorem dX9_follow_17 : decode cX9_follow 17 = .ok (.iconst 1, 1) := by decide +kernel
theorem dX9_follow_18 : decode cX9_follow 18 = .ok (.bipush 20, 2) := by decide +kernel
theorem dX9_follow_20 : decode cX9_follow 20 = .ok (.invokevirtual 151, 3) := by decide +kernel
theorem dX9_follow_23 : decode cX9_follow 23 = .ok (.ifCond .eq 7, 3) := by decide +kernel
theorem dX9_follow_26 : decode cX9_follow 26 = .ok (.iconst 0, 1) := by decide +kernel
theorem dX9_follow_27 : decode cX9_follow 27 = .ok (.goto 4, 3) := by decide +kernel
theorem dX9_follow_30 : decode cX9_follow 30 = .ok (.iconst 2, 1) := by decide +kernel
theorem dX9_follow_31 : decode cX9_follow 31 = .ok (.invokevirtual 272, 3) := by decide +kernel
theorem dX9_follow_34 : decode cX9_follow 34 = .ok (.ifCond .eq 5, 3) := by decide +kernel
theorem dX9_follow_37 : decode cX9_follow 37 = .ok (.iconst (-1), 1) := by decide +kernel
theorem dX9_follow_38 : decode cX9_follow 38 = .ok (.ireturn, 1) := by decide +kernel
theorem dX9_follow_39 : decode cX9_follow 39 = .ok (.aload_n 0, 1) := by decide +kernel
theorem dX9_follow_40 : decode cX9_follow 40 = .ok (.getfield 77, 3) := by decide +kernel
theorem dX9_follow_43 : decode cX9_follow 43 = .ok (.iload_n 1, 1) := by decide +kernel
theorem dX9_follow_44 : decode cX9_follow 44 = .ok (.iaload, 1) := by decide +kernel
theorem dX9_follow_45 : decode cX9_follow 45 = .ok (.istore_n 3, 1) := by decide +kernel
theorem dX9_follow_46 : decode cX9_follow 46 = .ok (.iload_n 3, 1) := by decide +kernel
theorem dX9_follow_47 : decode cX9_follow 47 = .ok (.iload_n 2, 1) := by decide +kernel
theorem dX9_follow_48 : decode cX9_follow 48 = .ok (.iadd, 1) := by decide +kernel
theorem dX9_follow_49 : decode cX9_follow 49 = .ok (.aload_n 0, 1) := by decide +kernel
theorem dX9_follow_50 : decode cX9_follow 50 = .ok (.getfield 181, 3) := by decide +kernel
theorem dX9_follow_53 : decode cX9_follow 53 = .ok (.if_icmp .le 10, 3) := by decide +kernel
theorem dX9_follow_56 : decode cX9_follow 56 = .ok (.aload_n 0, 1) := by decide +kernel
theorem dX9_follow_57 : decode cX9_follow 57 = .ok (.getfield 181, 3) := by decide +kernel
theorem dX9_follow_60 : decode cX9_follow 60 = .ok (.goto 6, 3) := by decide +kernel
theorem dX9_follow_63 : decode cX9_follow 63 = .ok (.iload_n 3, 1) := by decide +kernel
theorem dX9_follow_64 : decode cX9_follow 64 = .ok (.iload_n 2, 1) := by decide +kernel
theorem dX9_follow_65 : decode cX9_follow 65 = .ok (.iadd, 1) := by decide +kernel
theorem dX9_follow_66 : decode cX9_follow 66 = .ok (.istore 4, 2) := by decide +kernel
theorem dX9_follow_68 : decode cX9_follow 68 = .ok (.aload_n 0, 1) := by decide +kernel
theorem dX9_follow_69 : decode cX9_follow 69 = .ok (.iload_n 1, 1) := by decide +kernel
theorem dX9_follow_70 : decode cX9_follow 70 = .ok (.iload 4, 2) := by decide +kernel
theorem dX9_follow_72 : decode cX9_follow 72 = .ok (.invokevirtual 197, 3) := by decide +kernel
theorem dX9_follow_75 : decode cX9_follow 75 = .ok (.iload 4, 2) := by decide +kernel
theorem dX9_follow_77 : decode cX9_follow 77 = .ok (.iload_n 3, 1) := by decide +kernel
theorem dX9_follow_78 : decode cX9_follow 78 = .ok (.isub, 1) := by decide +kernel
theorem dX9_follow_79 : decode cX9_follow 79 = .ok (.ireturn, 1) := by decide +kernel
theorem dX9_pass_0 : decode cX9_pass 0 = .ok (.aload_n 0, 1) := by decide +kernel
theorem dX9_pass_1 : decode cX9_pass 1 = .ok (.aload_n 0, 1) := by decide +kernel
theorem dX9_pass_2 : decode cX9_pass 2 = .ok (.iload_n 1, 1) := by decide +kernel
theorem dX9_pass_3 : decode cX9_pass 3 = .ok (.iconst 1, 1) := by decide +kernel
theorem dX9_pass_4 : decode cX9_pass 4 = .ok (.bipush 50, 2) := by decide +kernel
theorem dX9_pass_6 : decode cX9_pass 6 = .ok (.invokevirtual 151, 3) := by decide +kernel
theorem dX9_pass_9 : decode cX9_pass 9 = .ok (.ifCond .eq 7, 3) := by decide +kernel
theorem dX9_pass_12 : decode cX9_pass 12 = .ok (.iconst 0, 1) := by decide +kernel
theorem dX9_pass_13 : decode cX9_pass 13 = .ok (.goto 4, 3) := by decide +kernel
theorem dX9_pass_16 : decode cX9_pass 16 = .ok (.iconst 1, 1) := by decide +kernel
theorem dX9_pass_17 : decode cX9_pass 17 = .ok (.invokevirtual 272, 3) := by decide +kernel
theorem dX9_pass_20 : decode cX9_pass 20 = .ok (.ifCond .eq 5, 3) := by decide +kernel
theorem dX9_pass_23 : decode cX9_pass 23 = .ok (.iconst (-1), 1) := by decide +kernel
theorem dX9_pass_24 : decode cX9_pass 24 = .ok (.ireturn, 1) := by decide +kernel
theorem dX9_pass_25 : decode cX9_pass 25 = .ok (.iconst 0, 1) := by decide +kernel
theorem dX9_pass_26 : decode cX9_pass 26 = .ok (.istore_n 2, 1) := by decide +kernel
theorem dX9_pass_27 : decode cX9_pass 27 = .ok (.iload_n 2, 1) := by decide +kernel
theorem dX9_pass_28 : decode cX9_pass 28 = .ok (.iload_n 1, 1) := by decide +kernel
theorem dX9_pass_29 : decode cX9_pass 29 = .ok (.if_icmp .ge 131, 3) := by decide +kernel
theorem dX9_pass_32 : decode cX9_pass 32 = .ok (.aload_n 0, 1) := by decide +kernel
theorem dX9_pass_33 : decode cX9_pass 33 = .ok (.dup, 1) := by decide +kernel
theorem dX9_pass_34 : decode cX9_pass 34 = .ok (.getfield 155, 3) := by decide +kernel
theorem dX9_pass_37 : decode cX9_pass 37 = .ok (.iconst 1, 1) := by decide +kernel
theorem dX9_pass_38 : decode cX9_pass 38 = .ok (.iadd, 1) := by decide +kernel
theorem dX9_pass_39 : decode cX9_pass 39 = .ok (.putfield 155, 3) := by decide +kernel
theorem dX9_pass_42 : decode cX9_pass 42 = .ok (.iconst 0, 1) := by decide +kernel
theorem dX9_pass_43 : decode cX9_pass 43 = .ok (.istore_n 3, 1) := by decide +kernel
theorem dX9_pass_44 : decode cX9_pass 44 = .ok (.iload_n 3, 1) := by decide +kernel
theorem dX9_pass_45 : decode cX9_pass 45 = .ok (.aload_n 0, 1) := by decide +kernel
theorem dX9_pass_46 : decode cX9_pass 46 = .ok (.getfield 148, 3) := by decide +kernel
theorem dX9_pass_49 : decode cX9_pass 49 = .ok (.if_icmp .ge 45, 3) := by decide +kernel
theorem dX9_pass_52 : decode cX9_pass 52 = .ok (.aload_n 0, 1) := by decide +kernel
theorem dX9_pass_53 : decode cX9_pass 53 = .ok (.getfield 92, 3) := by decide +kernel
theorem dX9_pass_56 : decode cX9_pass 56 = .ok (.iload_n 3, 1) := by decide +kernel
theorem dX9_pass_57 : decode cX9_pass 57 = .ok (.iaload, 1) := by decide +kernel
theorem dX9_pass_58 : decode cX9_pass 58 = .ok (.ifCond .ne 30, 3) := by decide +kernel
theorem dX9_pass_61 : decode cX9_pass 61 = .ok (.aload_n 0, 1) := by decide +kernel
theorem dX9_pass_62 : decode cX9_pass 62 = .ok (.getfield 155, 3) := by decide +kernel
theorem dX9_pass_65 : decode cX9_pass 65 = .ok (.aload_n 0, 1) := by decide +kernel
theorem dX9_pass_66 : decode cX9_pass 66 = .ok (.getfield 89, 3) := by decide +kernel
theorem dX9_pass_69 : decode cX9_pass 69 = .ok (.iload_n 3, 1) := by decide +kernel
theorem dX9_pass_70 : decode cX9_pass 70 = .ok (.iaload, 1) := by decide +kernel
theorem dX9_pass_71 : decode cX9_pass 71 = .ok (.isub, 1) := by decide +kernel
theorem dX9_pass_72 : decode cX9_pass 72 = .ok (.aload_n 0, 1) := by decide +kernel
theorem dX9_pass_73 : decode cX9_pass 73 = .ok (.getfield 86, 3) := by decide +kernel
theorem dX9_pass_76 : decode cX9_pass 76 = .ok (.iload_n 3, 1) := by decide +kernel
theorem dX9_pass_77 : decode cX9_pass 77 = .ok (.iaload, 1) := by decide +kernel
theorem dX9_pass_78 : decode cX9_pass 78 = .ok (.if_icmp .lt 10, 3) := by decide +kernel
theorem dX9_pass_81 : decode cX9_pass 81 = .ok (.aload_n 0, 1) := by decide +kernel
theorem dX9_pass_82 : decode cX9_pass 82 = .ok (.iload_n 3, 1) := by decide +kernel
theorem dX9_pass_83 : decode cX9_pass 83 = .ok (.invokevirtual 281, 3) := by decide +kernel
theorem dX9_pass_86 : decode cX9_pass 86 = .ok (.istore 4, 2) := by decide +kernel
theorem dX9_pass_88 : decode cX9_pass 88 = .ok (.iinc 3 1, 3) := by decide +kernel
theorem dX9_pass_91 : decode cX9_pass 91 = .ok (.goto (-47), 3) := by decide +kernel
theorem dX9_pass_94 : decode cX9_pass 94 = .ok (.iconst 0, 1) := by decide +kernel
theorem dX9_pass_95 : decode cX9_pass 95 = .ok (.istore_n 3, 1) := by decide +kernel
theorem dX9_pass_96 : decode cX9_pass 96 = .ok (.iload_n 3, 1) := by decide +kernel
theorem dX9_pass_97 : decode cX9_pass 97 = .ok (.aload_n 0, 1) := by decide +kernel
theorem dX9_pass_98 : decode cX9_pass 98 = .ok (.getfield 284, 3) := by decide +kernel
theorem dX9_pass_101 : decode cX9_pass 101 = .ok (.if_icmp .ge 53, 3) := by decide +kernel
theorem dX9_pass_104 : decode cX9_pass 104 = .ok (.aload_n 0, 1) := by decide +kernel
theorem dX9_pass_105 : decode cX9_pass 105 = .ok (.getfield 138, 3) := by decide +kernel
theorem dX9_pass_108 : decode cX9_pass 108 = .ok (.iload_n 3, 1) := by decide +kernel
theorem dX9_pass_109 : decode cX9_pass 109 = .ok (.iaload, 1) := by decide +kernel
theorem dX9_pass_110 : decode cX9_pass 110 = .ok (.ifCond .ne 38, 3) := by decide +kernel
theorem dX9_pass_113 : decode cX9_pass 113 = .ok (.aload_n 0, 1) := by decide +kernel
theorem dX9_pass_114 : decode cX9_pass 114 = .ok (.getfield 155, 3) := by decide +kernel
theorem dX9_pass_117 : decode cX9_pass 117 = .ok (.aload_n 0, 1) := by decide +kernel
theorem dX9_pass_118 : decode cX9_pass 118 = .ok (.getfield 135, 3) := by decide +kernel
theorem dX9_pass_121 : decode cX9_pass 121 = .ok (.iload_n 3, 1) := by decide +kernel
theorem dX9_pass_122 : decode cX9_pass 122 = .ok (.iaload, 1) := by decide +kernel
theorem dX9_pass_123 : decode cX9_pass 123 = .ok (.isub, 1) := by decide +kernel
theorem dX9_pass_124 : decode cX9_pass 124 = .ok (.aload_n 0, 1) := by decide +kernel
theorem dX9_pass_125 : decode cX9_pass 125 = .ok (.getfield 132, 3) := by decide +kernel
theorem dX9_pass_128 : decode cX9_pass 128 = .ok (.iload_n 3, 1) := by decide +kernel
theorem dX9_pass_129 : decode cX9_pass 129 = .ok (.iaload, 1) := by decide +kernel
theorem dX9_pass_130 : decode cX9_pass 130 = .ok (.if_icmp .lt 18, 3) := by decide +kernel
theorem dX9_pass_133 : decode cX9_pass 133 = .ok (.aload_n 0, 1) := by decide +kernel
theorem dX9_pass_134 : decode cX9_pass 134 = .ok (.getfield 138, 3) := by decide +kernel
theorem dX9_pass_137 : decode cX9_pass 137 = .ok (.iload_n 3, 1) := by decide +kernel
theorem dX9_pass_138 : decode cX9_pass 138 = .ok (.iconst 1, 1) := by decide +kernel
theorem dX9_pass_139 : decode cX9_pass 139 = .ok (.iastore, 1) := by decide +kernel
theorem dX9_pass_140 : decode cX9_pass 140 = .ok (.aload_n 0, 1) := by decide +kernel
theorem dX9_pass_141 : decode cX9_pass 141 = .ok (.iconst 2, 1) := by decide +kernel
theorem dX9_pass_142 : decode cX9_pass 142 = .ok (.iload_n 3, 1) := by decide +kernel
theorem dX9_pass_143 : decode cX9_pass 143 = .ok (.invokevirtual 275, 3) := by decide +kernel
theorem dX9_pass_146 : decode cX9_pass 146 = .ok (.istore 4, 2) := by decide +kernel
theorem dX9_pass_148 : decode cX9_pass 148 = .ok (.iinc 3 1, 3) := by decide +kernel
theorem dX9_pass_151 : decode cX9_pass 151 = .ok (.goto (-55), 3) := by decide +kernel
theorem dX9_pass_154 : decode cX9_pass 154 = .ok (.iinc 2 1, 3) := by decide +kernel
theorem dX9_pass_157 : decode cX9_pass 157 = .ok (.goto (-130), 3) := by decide +kernel
theorem dX9_pass_160 : decode cX9_pass 160 = .ok (.aload_n 0, 1) := by decide +kernel
theorem dX9_pass_161 : decode cX9_pass 161 = .ok (.getfield 155, 3) := by decide +kernel
theorem dX9_pass_164 : decode cX9_pass 164 = .ok (.ireturn, 1) := by decide +kernel
theorem dX9_lease_0 : decode cX9_lease 0 = .ok (.aload_n 0, 1) := by decide +kernel
theorem dX9_lease_1 : decode cX9_lease 1 = .ok (.aload_n 0, 1) := by decide +kernel
theorem dX9_lease_2 : decode cX9_lease 2 = .ok (.iload_n 1, 1) := by decide +kernel
theorem dX9_lease_3 : decode cX9_lease 3 = .ok (.iconst 1, 1) := by decide +kernel
theorem dX9_lease_4 : decode cX9_lease 4 = .ok (.bipush 50, 2) := by decide +kernel
theorem dX9_lease_6 : decode cX9_lease 6 = .ok (.invokevirtual 151, 3) := by decide +kernel
theorem dX9_lease_9 : decode cX9_lease 9 = .ok (.ifCond .ne 7, 3) := by decide +kernel
theorem dX9_lease_12 : decode cX9_lease 12 = .ok (.iconst 1, 1) := by decide +kernel
theorem dX9_lease_13 : decode cX9_lease 13 = .ok (.goto 17, 3) := by decide +kernel
theorem dX9_lease_16 : decode cX9_lease 16 = .ok (.aload_n 0, 1) := by decide +kernel
theorem dX9_lease_17 : decode cX9_lease 17 = .ok (.getfield 284, 3) := by decide +kernel
theorem dX9_lease_20 : decode cX9_lease 20 = .ok (.bipush 10, 2) := by decide +kernel
theorem dX9_lease_22 : decode cX9_lease 22 = .ok (.if_icmp .ne 7, 3) := by decide +kernel
theorem dX9_lease_25 : decode cX9_lease 25 = .ok (.iconst 2, 1) := by decide +kernel
theorem dX9_lease_26 : decode cX9_lease 26 = .ok (.goto 4, 3) := by decide +kernel
theorem dX9_lease_29 : decode cX9_lease 29 = .ok (.iconst 0, 1) := by decide +kernel
theorem dX9_lease_30 : decode cX9_lease 30 = .ok (.invokevirtual 272, 3) := by decide +kernel
theorem dX9_lease_33 : decode cX9_lease 33 = .ok (.ifCond .eq 5, 3) := by decide +kernel
theorem dX9_lease_36 : decode cX9_lease 36 = .ok (.iconst (-1), 1) := by decide +kernel
theorem dX9_lease_37 : decode cX9_lease 37 = .ok (.ireturn, 1) := by decide +kernel
theorem dX9_lease_38 : decode cX9_lease 38 = .ok (.aload_n 0, 1) := by decide +kernel
theorem dX9_lease_39 : decode cX9_lease 39 = .ok (.getfield 132, 3) := by decide +kernel
theorem dX9_lease_42 : decode cX9_lease 42 = .ok (.aload_n 0, 1) := by decide +kernel
theorem dX9_lease_43 : decode cX9_lease 43 = .ok (.getfield 284, 3) := by decide +kernel
theorem dX9_lease_46 : decode cX9_lease 46 = .ok (.iload_n 1, 1) := by decide +kernel
theorem dX9_lease_47 : decode cX9_lease 47 = .ok (.iastore, 1) := by decide +kernel
theorem dX9_lease_48 : decode cX9_lease 48 = .ok (.aload_n 0, 1) := by decide +kernel
theorem dX9_lease_49 : decode cX9_lease 49 = .ok (.getfield 135, 3) := by decide +kernel
theorem dX9_lease_52 : decode cX9_lease 52 = .ok (.aload_n 0, 1) := by decide +kernel
theorem dX9_lease_53 : decode cX9_lease 53 = .ok (.getfield 284, 3) := by decide +kernel
theorem dX9_lease_56 : decode cX9_lease 56 = .ok (.aload_n 0, 1) := by decide +kernel
theorem dX9_lease_57 : decode cX9_lease 57 = .ok (.getfield 155, 3) := by decide +kernel
theorem dX9_lease_60 : decode cX9_lease 60 = .ok (.iastore, 1) := by decide +kernel
theorem dX9_lease_61 : decode cX9_lease 61 = .ok (.aload_n 0, 1) := by decide +kernel
theorem dX9_lease_62 : decode cX9_lease 62 = .ok (.dup, 1) := by decide +kernel
theorem dX9_lease_63 : decode cX9_lease 63 = .ok (.getfield 284, 3) := by decide +kernel
theorem dX9_lease_66 : decode cX9_lease 66 = .ok (.iconst 1, 1) := by decide +kernel
theorem dX9_lease_67 : decode cX9_lease 67 = .ok (.iadd, 1) := by decide +kernel
theorem dX9_lease_68 : decode cX9_lease 68 = .ok (.putfield 284, 3) := by decide +kernel
theorem dX9_lease_71 : decode cX9_lease 71 = .ok (.aload_n 0, 1) := by decide +kernel
theorem dX9_lease_72 : decode cX9_lease 72 = .ok (.getfield 284, 3) := by decide +kernel
theorem dX9_lease_75 : decode cX9_lease 75 = .ok (.iconst 1, 1) := by decide +kernel
theorem dX9_lease_76 : decode cX9_lease 76 = .ok (.isub, 1) := by decide +kernel
theorem dX9_lease_77 : decode cX9_lease 77 = .ok (.ireturn, 1) := by decide +kernel
theorem dX9_renew_0 : decode cX9_renew 0 = .ok (.aload_n 0, 1) := by decide +kernel
theorem dX9_renew_1 : decode cX9_renew 1 = .ok (.aload_n 0, 1) := by decide +kernel
theorem dX9_renew_2 : decode cX9_renew 2 = .ok (.iload_n 1, 1) := by decide +kernel
theorem dX9_renew_3 : decode cX9_renew 3 = .ok (.iconst 0, 1) := by decide +kernel
theorem dX9_renew_4 : decode cX9_renew 4 = .ok (.aload_n 0, 1) := by decide +kernel
theorem dX9_renew_5 : decode cX9_renew 5 = .ok (.getfield 284, 3) := by decide +kernel
theorem dX9_renew_8 : decode cX9_renew 8 = .ok (.iconst 1, 1) := by decide +kernel
theorem dX9_renew_9 : decode cX9_renew 9 = .ok (.isub, 1) := by decide +kernel
theorem dX9_renew_10 : decode cX9_renew 10 = .ok (.invokevirtual 151, 3) := by decide +kernel
theorem dX9_renew_13 : decode cX9_renew 13 = .ok (.ifCond .ne 7, 3) := by decide +kernel
theorem dX9_renew_16 : decode cX9_renew 16 = .ok (.iconst 1, 1) := by decide +kernel
theorem dX9_renew_17 : decode cX9_renew 17 = .ok (.goto 18, 3) := by decide +kernel
theorem dX9_renew_20 : decode cX9_renew 20 = .ok (.aload_n 0, 1) := by decide +kernel
theorem dX9_renew_21 : decode cX9_renew 21 = .ok (.getfield 138, 3) := by decide +kernel
theorem dX9_renew_24 : decode cX9_renew 24 = .ok (.iload_n 1, 1) := by decide +kernel
theorem dX9_renew_25 : decode cX9_renew 25 = .ok (.iaload, 1) := by decide +kernel
theorem dX9_renew_26 : decode cX9_renew 26 = .ok (.iconst 1, 1) := by decide +kernel
theorem dX9_renew_27 : decode cX9_renew 27 = .ok (.if_icmp .ne 7, 3) := by decide +kernel
theorem dX9_renew_30 : decode cX9_renew 30 = .ok (.iconst 2, 1) := by decide +kernel
theorem dX9_renew_31 : decode cX9_renew 31 = .ok (.goto 4, 3) := by decide +kernel
theorem dX9_renew_34 : decode cX9_renew 34 = .ok (.iconst 0, 1) := by decide +kernel
theorem dX9_renew_35 : decode cX9_renew 35 = .ok (.invokevirtual 272, 3) := by decide +kernel
theorem dX9_renew_38 : decode cX9_renew 38 = .ok (.ifCond .eq 5, 3) := by decide +kernel
theorem dX9_renew_41 : decode cX9_renew 41 = .ok (.iconst (-1), 1) := by decide +kernel
theorem dX9_renew_42 : decode cX9_renew 42 = .ok (.ireturn, 1) := by decide +kernel
theorem dX9_renew_43 : decode cX9_renew 43 = .ok (.aload_n 0, 1) := by decide +kernel
theorem dX9_renew_44 : decode cX9_renew 44 = .ok (.getfield 135, 3) := by decide +kernel
theorem dX9_renew_47 : decode cX9_renew 47 = .ok (.iload_n 1, 1) := by decide +kernel
theorem dX9_renew_48 : decode cX9_renew 48 = .ok (.aload_n 0, 1) := by decide +kernel
theorem dX9_renew_49 : decode cX9_renew 49 = .ok (.getfield 155, 3) := by decide +kernel
theorem dX9_renew_52 : decode cX9_renew 52 = .ok (.iastore, 1) := by decide +kernel
theorem dX9_renew_53 : decode cX9_renew 53 = .ok (.aload_n 0, 1) := by decide +kernel
theorem dX9_renew_54 : decode cX9_renew 54 = .ok (.getfield 155, 3) := by decide +kernel
theorem dX9_renew_57 : decode cX9_renew 57 = .ok (.aload_n 0, 1) := by decide +kernel
theorem dX9_renew_58 : decode cX9_renew 58 = .ok (.getfield 132, 3) := by decide +kernel
theorem dX9_renew_61 : decode cX9_renew 61 = .ok (.iload_n 1, 1) := by decide +kernel
theorem dX9_renew_62 : decode cX9_renew 62 = .ok (.iaload, 1) := by decide +kernel
theorem dX9_renew_63 : decode cX9_renew 63 = .ok (.iadd, 1) := by decide +kernel
theorem dX9_renew_64 : decode cX9_renew 64 = .ok (.ireturn, 1) := by decide +kernel
theorem dX9_make_0 : decode cX9_make 0 = .ok (.iload 4, 2) := by decide +kernel
theorem dX9_make_2 : decode cX9_make 2 = .ok (.ifCond .ne 14, 3) := by decide +kernel
theorem dX9_make_5 : decode cX9_make 5 = .ok (.aload_n 0, 1) := by decide +kernel
theorem dX9_make_6 : decode cX9_make 6 = .ok (.iload_n 3, 1) := by decide +kernel
theorem dX9_make_7 : decode cX9_make 7 = .ok (.iconst 0, 1) := by decide +kernel
theorem dX9_make_8 : decode cX9_make 8 = .ok (.bipush 99, 2) := by decide +kernel
theorem dX9_make_10 : decode cX9_make 10 = .ok (.invokevirtual 151, 3) := by decide +kernel
theorem dX9_make_13 : decode cX9_make 13 = .ok (.ifCond .eq 33, 3) := by decide +kernel
theorem dX9_make_16 : decode cX9_make 16 = .ok (.aload_n 0, 1) := by decide +kernel
theorem dX9_make_17 : decode cX9_make 17 = .ok (.iload 5, 2) := by decide +kernel
theorem dX9_make_19 : decode cX9_make 19 = .ok (.sipush (-1000), 3) := by decide +kernel
theorem dX9_make_22 : decode cX9_make 22 = .ok (.sipush 1000, 3) := by decide +kernel
theorem dX9_make_25 : decode cX9_make 25 = .ok (.invokevirtual 151, 3) := by decide +kernel
theorem dX9_make_28 : decode cX9_make 28 = .ok (.ifCond .eq 18, 3) := by decide +kernel
theorem dX9_make_31 : decode cX9_make 31 = .ok (.aload_n 0, 1) := by decide +kernel
theorem dX9_make_32 : decode cX9_make 32 = .ok (.iload 6, 2) := by decide +kernel
theorem dX9_make_34 : decode cX9_make 34 = .ok (.iconst 0, 1) := by decide +kernel
theorem dX9_make_35 : decode cX9_make 35 = .ok (.iconst 3, 1) := by decide +kernel
theorem dX9_make_36 : decode cX9_make 36 = .ok (.invokevirtual 151, 3) := by decide +kernel
theorem dX9_make_39 : decode cX9_make 39 = .ok (.ifCond .eq 7, 3) := by decide +kernel
theorem dX9_make_42 : decode cX9_make 42 = .ok (.iconst 1, 1) := by decide +kernel
theorem dX9_make_43 : decode cX9_make 43 = .ok (.goto 4, 3) := by decide +kernel
theorem dX9_make_46 : decode cX9_make 46 = .ok (.iconst 0, 1) := by decide +kernel
theorem dX9_make_47 : decode cX9_make 47 = .ok (.istore 8, 2) := by decide +kernel
theorem dX9_make_49 : decode cX9_make 49 = .ok (.aload_n 0, 1) := by decide +kernel
theorem dX9_make_50 : decode cX9_make 50 = .ok (.iload_n 1, 1) := by decide +kernel
theorem dX9_make_51 : decode cX9_make 51 = .ok (.invokevirtual 278, 3) := by decide +kernel
theorem dX9_make_54 : decode cX9_make 54 = .ok (.ifCond .ne 7, 3) := by decide +kernel
theorem dX9_make_57 : decode cX9_make 57 = .ok (.iconst 1, 1) := by decide +kernel
theorem dX9_make_58 : decode cX9_make 58 = .ok (.goto 68, 3) := by decide +kernel
theorem dX9_make_61 : decode cX9_make 61 = .ok (.iload 8, 2) := by decide +kernel
theorem dX9_make_63 : decode cX9_make 63 = .ok (.ifCond .ne 7, 3) := by decide +kernel
theorem dX9_make_66 : decode cX9_make 66 = .ok (.iconst 2, 1) := by decide +kernel
theorem dX9_make_67 : decode cX9_make 67 = .ok (.goto 59, 3) := by decide +kernel
theorem dX9_make_70 : decode cX9_make 70 = .ok (.iload 6, 2) := by decide +kernel
theorem dX9_make_72 : decode cX9_make 72 = .ok (.iconst 2, 1) := by decide +kernel
theorem dX9_make_73 : decode cX9_make 73 = .ok (.if_icmp .ne 23, 3) := by decide +kernel
theorem dX9_make_76 : decode cX9_make 76 = .ok (.aload_n 0, 1) := by decide +kernel
theorem dX9_make_77 : decode cX9_make 77 = .ok (.iload 7, 2) := by decide +kernel
theorem dX9_make_79 : decode cX9_make 79 = .ok (.iconst 0, 1) := by decide +kernel
theorem dX9_make_80 : decode cX9_make 80 = .ok (.aload_n 0, 1) := by decide +kernel
theorem dX9_make_81 : decode cX9_make 81 = .ok (.getfield 284, 3) := by decide +kernel
theorem dX9_make_84 : decode cX9_make 84 = .ok (.iconst 1, 1) := by decide +kernel
theorem dX9_make_85 : decode cX9_make 85 = .ok (.isub, 1) := by decide +kernel
theorem dX9_make_86 : decode cX9_make 86 = .ok (.invokevirtual 151, 3) := by decide +kernel
theorem dX9_make_89 : decode cX9_make 89 = .ok (.ifCond .ne 7, 3) := by decide +kernel
theorem dX9_make_92 : decode cX9_make 92 = .ok (.iconst 1, 1) := by decide +kernel
theorem dX9_make_93 : decode cX9_make 93 = .ok (.goto 33, 3) := by decide +kernel
theorem dX9_make_96 : decode cX9_make 96 = .ok (.aload_n 0, 1) := by decide +kernel
theorem dX9_make_97 : decode cX9_make 97 = .ok (.iload_n 1, 1) := by decide +kernel
theorem dX9_make_98 : decode cX9_make 98 = .ok (.invokevirtual 287, 3) := by decide +kernel
theorem dX9_make_101 : decode cX9_make 101 = .ok (.ifCond .ne 20, 3) := by decide +kernel
theorem dX9_make_104 : decode cX9_make 104 = .ok (.iload 6, 2) := by decide +kernel
theorem dX9_make_106 : decode cX9_make 106 = .ok (.iconst 2, 1) := by decide +kernel
theorem dX9_make_107 : decode cX9_make 107 = .ok (.if_icmp .ne 18, 3) := by decide +kernel
theorem dX9_make_110 : decode cX9_make 110 = .ok (.aload_n 0, 1) := by decide +kernel
theorem dX9_make_111 : decode cX9_make 111 = .ok (.getfield 138, 3) := by decide +kernel
theorem dX9_make_114 : decode cX9_make 114 = .ok (.iload 7, 2) := by decide +kernel
theorem dX9_make_116 : decode cX9_make 116 = .ok (.iaload, 1) := by decide +kernel
theorem dX9_make_117 : decode cX9_make 117 = .ok (.iconst 1, 1) := by decide +kernel
theorem dX9_make_118 : decode cX9_make 118 = .ok (.if_icmp .ne 7, 3) := by decide +kernel
theorem dX9_make_121 : decode cX9_make 121 = .ok (.iconst 3, 1) := by decide +kernel
theorem dX9_make_122 : decode cX9_make 122 = .ok (.goto 4, 3) := by decide +kernel
theorem dX9_make_125 : decode cX9_make 125 = .ok (.iconst 0, 1) := by decide +kernel
theorem dX9_make_126 : decode cX9_make 126 = .ok (.istore 9, 2) := by decide +kernel
theorem dX9_make_128 : decode cX9_make 128 = .ok (.aload_n 0, 1) := by decide +kernel
theorem dX9_make_129 : decode cX9_make 129 = .ok (.iload 9, 2) := by decide +kernel
theorem dX9_make_131 : decode cX9_make 131 = .ok (.invokevirtual 272, 3) := by decide +kernel
theorem dX9_make_134 : decode cX9_make 134 = .ok (.ifCond .eq 7, 3) := by decide +kernel
theorem dX9_make_137 : decode cX9_make 137 = .ok (.iconst (-1), 1) := by decide +kernel
theorem dX9_make_138 : decode cX9_make 138 = .ok (.goto 27, 3) := by decide +kernel
theorem dX9_make_141 : decode cX9_make 141 = .ok (.aload_n 0, 1) := by decide +kernel
theorem dX9_make_142 : decode cX9_make 142 = .ok (.iload_n 1, 1) := by decide +kernel
theorem dX9_make_143 : decode cX9_make 143 = .ok (.iconst 0, 1) := by decide +kernel
theorem dX9_make_144 : decode cX9_make 144 = .ok (.iload_n 2, 1) := by decide +kernel
theorem dX9_make_145 : decode cX9_make 145 = .ok (.iload_n 3, 1) := by decide +kernel
theorem dX9_make_146 : decode cX9_make 146 = .ok (.iload 4, 2) := by decide +kernel
theorem dX9_make_148 : decode cX9_make 148 = .ok (.ifCond .eq 7, 3) := by decide +kernel
theorem dX9_make_151 : decode cX9_make 151 = .ok (.iconst 1, 1) := by decide +kernel
theorem dX9_make_152 : decode cX9_make 152 = .ok (.goto 4, 3) := by decide +kernel
theorem dX9_make_155 : decode cX9_make 155 = .ok (.iconst 0, 1) := by decide +kernel
theorem dX9_make_156 : decode cX9_make 156 = .ok (.iload 5, 2) := by decide +kernel
theorem dX9_make_158 : decode cX9_make 158 = .ok (.iload 6, 2) := by decide +kernel
theorem dX9_make_160 : decode cX9_make 160 = .ok (.iload 7, 2) := by decide +kernel
theorem dX9_make_162 : decode cX9_make 162 = .ok (.invokevirtual 290, 3) := by decide +kernel
theorem dX9_make_165 : decode cX9_make 165 = .ok (.ireturn, 1) := by decide +kernel
theorem dX9_set_0 : decode cX9_set 0 = .ok (.aload_n 0, 1) := by decide +kernel
theorem dX9_set_1 : decode cX9_set 1 = .ok (.aload_n 0, 1) := by decide +kernel
theorem dX9_set_2 : decode cX9_set 2 = .ok (.iload_n 1, 1) := by decide +kernel
theorem dX9_set_3 : decode cX9_set 3 = .ok (.invokevirtual 278, 3) := by decide +kernel
theorem dX9_set_6 : decode cX9_set 6 = .ok (.ifCond .ne 7, 3) := by decide +kernel
theorem dX9_set_9 : decode cX9_set 9 = .ok (.iconst 1, 1) := by decide +kernel
theorem dX9_set_10 : decode cX9_set 10 = .ok (.goto 34, 3) := by decide +kernel
theorem dX9_set_13 : decode cX9_set 13 = .ok (.aload_n 0, 1) := by decide +kernel
theorem dX9_set_14 : decode cX9_set 14 = .ok (.iload_n 3, 1) := by decide +kernel
theorem dX9_set_15 : decode cX9_set 15 = .ok (.sipush (-1000), 3) := by decide +kernel
theorem dX9_set_18 : decode cX9_set 18 = .ok (.sipush 1000, 3) := by decide +kernel
theorem dX9_set_21 : decode cX9_set 21 = .ok (.invokevirtual 151, 3) := by decide +kernel
theorem dX9_set_24 : decode cX9_set 24 = .ok (.ifCond .ne 7, 3) := by decide +kernel
theorem dX9_set_27 : decode cX9_set 27 = .ok (.iconst 2, 1) := by decide +kernel
theorem dX9_set_28 : decode cX9_set 28 = .ok (.goto 16, 3) := by decide +kernel
theorem dX9_set_31 : decode cX9_set 31 = .ok (.aload_n 0, 1) := by decide +kernel
theorem dX9_set_32 : decode cX9_set 32 = .ok (.iload_n 1, 1) := by decide +kernel
theorem dX9_set_33 : decode cX9_set 33 = .ok (.invokevirtual 287, 3) := by decide +kernel
theorem dX9_set_36 : decode cX9_set 36 = .ok (.ifCond .eq 7, 3) := by decide +kernel
theorem dX9_set_39 : decode cX9_set 39 = .ok (.iconst 3, 1) := by decide +kernel
theorem dX9_set_40 : decode cX9_set 40 = .ok (.goto 4, 3) := by decide +kernel
theorem dX9_set_43 : decode cX9_set 43 = .ok (.iconst 0, 1) := by decide +kernel
theorem dX9_set_44 : decode cX9_set 44 = .ok (.invokevirtual 272, 3) := by decide +kernel
theorem dX9_set_47 : decode cX9_set 47 = .ok (.ifCond .eq 7, 3) := by decide +kernel
theorem dX9_set_50 : decode cX9_set 50 = .ok (.iconst (-1), 1) := by decide +kernel
theorem dX9_set_51 : decode cX9_set 51 = .ok (.goto 16, 3) := by decide +kernel
theorem dX9_set_54 : decode cX9_set 54 = .ok (.aload_n 0, 1) := by decide +kernel
theorem dX9_set_55 : decode cX9_set 55 = .ok (.iload_n 1, 1) := by decide +kernel
theorem dX9_set_56 : decode cX9_set 56 = .ok (.iconst 1, 1) := by decide +kernel
theorem dX9_set_57 : decode cX9_set 57 = .ok (.iload_n 2, 1) := by decide +kernel
theorem dX9_set_58 : decode cX9_set 58 = .ok (.iload_n 3, 1) := by decide +kernel
theorem dX9_set_59 : decode cX9_set 59 = .ok (.iload 4, 2) := by decide +kernel
theorem dX9_set_61 : decode cX9_set 61 = .ok (.iconst 0, 1) := by decide +kernel
theorem dX9_set_62 : decode cX9_set 62 = .ok (.iconst 0, 1) := by decide +kernel
theorem dX9_set_63 : decode cX9_set 63 = .ok (.iconst 0, 1) := by decide +kernel
theorem dX9_set_64 : decode cX9_set 64 = .ok (.invokevirtual 290, 3) := by decide +kernel
theorem dX9_set_67 : decode cX9_set 67 = .ok (.ireturn, 1) := by decide +kernel
theorem dX9_delete_0 : decode cX9_delete 0 = .ok (.aload_n 0, 1) := by decide +kernel
theorem dX9_delete_1 : decode cX9_delete 1 = .ok (.aload_n 0, 1) := by decide +kernel
theorem dX9_delete_2 : decode cX9_delete 2 = .ok (.iload_n 1, 1) := by decide +kernel
theorem dX9_delete_3 : decode cX9_delete 3 = .ok (.invokevirtual 278, 3) := by decide +kernel
theorem dX9_delete_6 : decode cX9_delete 6 = .ok (.ifCond .ne 7, 3) := by decide +kernel
theorem dX9_delete_9 : decode cX9_delete 9 = .ok (.iconst 1, 1) := by decide +kernel
theorem dX9_delete_10 : decode cX9_delete 10 = .ok (.goto 16, 3) := by decide +kernel
theorem dX9_delete_13 : decode cX9_delete 13 = .ok (.aload_n 0, 1) := by decide +kernel
theorem dX9_delete_14 : decode cX9_delete 14 = .ok (.iload_n 1, 1) := by decide +kernel
theorem dX9_delete_15 : decode cX9_delete 15 = .ok (.invokevirtual 287, 3) := by decide +kernel
theorem dX9_delete_18 : decode cX9_delete 18 = .ok (.ifCond .eq 7, 3) := by decide +kernel
theorem dX9_delete_21 : decode cX9_delete 21 = .ok (.iconst 2, 1) := by decide +kernel
theorem dX9_delete_22 : decode cX9_delete 22 = .ok (.goto 4, 3) := by decide +kernel
theorem dX9_delete_25 : decode cX9_delete 25 = .ok (.iconst 0, 1) := by decide +kernel
theorem dX9_delete_26 : decode cX9_delete 26 = .ok (.invokevirtual 272, 3) := by decide +kernel
theorem dX9_delete_29 : decode cX9_delete 29 = .ok (.ifCond .eq 7, 3) := by decide +kernel
theorem dX9_delete_32 : decode cX9_delete 32 = .ok (.iconst (-1), 1) := by decide +kernel
theorem dX9_delete_33 : decode cX9_delete 33 = .ok (.goto 15, 3) := by decide +kernel
theorem dX9_delete_36 : decode cX9_delete 36 = .ok (.aload_n 0, 1) := by decide +kernel
theorem dX9_delete_37 : decode cX9_delete 37 = .ok (.iload_n 1, 1) := by decide +kernel
theorem dX9_delete_38 : decode cX9_delete 38 = .ok (.iconst 2, 1) := by decide +kernel
theorem dX9_delete_39 : decode cX9_delete 39 = .ok (.iload_n 2, 1) := by decide +kernel
theorem dX9_delete_40 : decode cX9_delete 40 = .ok (.iload_n 3, 1) := by decide +kernel
theorem dX9_delete_41 : decode cX9_delete 41 = .ok (.iconst 0, 1) := by decide +kernel
theorem dX9_delete_42 : decode cX9_delete 42 = .ok (.iconst 0, 1) := by decide +kernel
theorem dX9_delete_43 : decode cX9_delete 43 = .ok (.iconst 0, 1) := by decide +kernel
theorem dX9_delete_44 : decode cX9_delete 44 = .ok (.iconst 0, 1) := by decide +kernel
theorem dX9_delete_45 : decode cX9_delete 45 = .ok (.invokevirtual 290, 3) := by decide +kernel
theorem dX9_delete_48 : decode cX9_delete 48 = .ok (.ireturn, 1) := by decide +kernel
theorem dX9_rights_0 : decode cX9_rights 0 = .ok (.aload_n 0, 1) := by decide +kernel
theorem dX9_rights_1 : decode cX9_rights 1 = .ok (.iload_n 3, 1) := by decide +kernel
theorem dX9_rights_2 : decode cX9_rights 2 = .ok (.iconst 0, 1) := by decide +kernel
theorem dX9_rights_3 : decode cX9_rights 3 = .ok (.bipush 15, 2) := by decide +kernel
theorem dX9_rights_5 : decode cX9_rights 5 = .ok (.invokevirtual 151, 3) := by decide +kernel
theorem dX9_rights_8 : decode cX9_rights 8 = .ok (.ifCond .eq 19, 3) := by decide +kernel
theorem dX9_rights_11 : decode cX9_rights 11 = .ok (.aload_n 0, 1) := by decide +kernel
theorem dX9_rights_12 : decode cX9_rights 12 = .ok (.iload 4, 2) := by decide +kernel
theorem dX9_rights_14 : decode cX9_rights 14 = .ok (.iconst 0, 1) := by decide +kernel
theorem dX9_rights_15 : decode cX9_rights 15 = .ok (.bipush 15, 2) := by decide +kernel
theorem dX9_rights_17 : decode cX9_rights 17 = .ok (.invokevirtual 151, 3) := by decide +kernel
theorem dX9_rights_20 : decode cX9_rights 20 = .ok (.ifCond .eq 7, 3) := by decide +kernel
theorem dX9_rights_23 : decode cX9_rights 23 = .ok (.iconst 1, 1) := by decide +kernel
theorem dX9_rights_24 : decode cX9_rights 24 = .ok (.goto 4, 3) := by decide +kernel
theorem dX9_rights_27 : decode cX9_rights 27 = .ok (.iconst 0, 1) := by decide +kernel
theorem dX9_rights_28 : decode cX9_rights 28 = .ok (.istore 6, 2) := by decide +kernel
theorem dX9_rights_30 : decode cX9_rights 30 = .ok (.aload_n 0, 1) := by decide +kernel
theorem dX9_rights_31 : decode cX9_rights 31 = .ok (.aload_n 0, 1) := by decide +kernel
theorem dX9_rights_32 : decode cX9_rights 32 = .ok (.iload_n 1, 1) := by decide +kernel
theorem dX9_rights_33 : decode cX9_rights 33 = .ok (.invokevirtual 278, 3) := by decide +kernel
theorem dX9_rights_36 : decode cX9_rights 36 = .ok (.ifCond .ne 7, 3) := by decide +kernel
theorem dX9_rights_39 : decode cX9_rights 39 = .ok (.iconst 1, 1) := by decide +kernel
theorem dX9_rights_40 : decode cX9_rights 40 = .ok (.goto 25, 3) := by decide +kernel
theorem dX9_rights_43 : decode cX9_rights 43 = .ok (.iload 6, 2) := by decide +kernel
theorem dX9_rights_45 : decode cX9_rights 45 = .ok (.ifCond .ne 7, 3) := by decide +kernel
theorem dX9_rights_48 : decode cX9_rights 48 = .ok (.iconst 2, 1) := by decide +kernel
theorem dX9_rights_49 : decode cX9_rights 49 = .ok (.goto 16, 3) := by decide +kernel
theorem dX9_rights_52 : decode cX9_rights 52 = .ok (.aload_n 0, 1) := by decide +kernel
theorem dX9_rights_53 : decode cX9_rights 53 = .ok (.iload_n 1, 1) := by decide +kernel
theorem dX9_rights_54 : decode cX9_rights 54 = .ok (.invokevirtual 287, 3) := by decide +kernel
theorem dX9_rights_57 : decode cX9_rights 57 = .ok (.ifCond .eq 7, 3) := by decide +kernel
theorem dX9_rights_60 : decode cX9_rights 60 = .ok (.iconst 3, 1) := by decide +kernel
theorem dX9_rights_61 : decode cX9_rights 61 = .ok (.goto 4, 3) := by decide +kernel
theorem dX9_rights_64 : decode cX9_rights 64 = .ok (.iconst 0, 1) := by decide +kernel
theorem dX9_rights_65 : decode cX9_rights 65 = .ok (.invokevirtual 272, 3) := by decide +kernel
theorem dX9_rights_68 : decode cX9_rights 68 = .ok (.ifCond .eq 7, 3) := by decide +kernel
theorem dX9_rights_71 : decode cX9_rights 71 = .ok (.iconst (-1), 1) := by decide +kernel
theorem dX9_rights_72 : decode cX9_rights 72 = .ok (.goto 25, 3) := by decide +kernel
theorem dX9_rights_75 : decode cX9_rights 75 = .ok (.aload_n 0, 1) := by decide +kernel
theorem dX9_rights_76 : decode cX9_rights 76 = .ok (.iload_n 1, 1) := by decide +kernel
theorem dX9_rights_77 : decode cX9_rights 77 = .ok (.iconst 3, 1) := by decide +kernel
theorem dX9_rights_78 : decode cX9_rights 78 = .ok (.iload_n 2, 1) := by decide +kernel
theorem dX9_rights_79 : decode cX9_rights 79 = .ok (.iload_n 3, 1) := by decide +kernel
theorem dX9_rights_80 : decode cX9_rights 80 = .ok (.iload 4, 2) := by decide +kernel
theorem dX9_rights_82 : decode cX9_rights 82 = .ok (.iload 5, 2) := by decide +kernel
theorem dX9_rights_84 : decode cX9_rights 84 = .ok (.ifCond .eq 7, 3) := by decide +kernel
theorem dX9_rights_87 : decode cX9_rights 87 = .ok (.iconst 1, 1) := by decide +kernel
theorem dX9_rights_88 : decode cX9_rights 88 = .ok (.goto 4, 3) := by decide +kernel
theorem dX9_rights_91 : decode cX9_rights 91 = .ok (.iconst 0, 1) := by decide +kernel
theorem dX9_rights_92 : decode cX9_rights 92 = .ok (.iconst 0, 1) := by decide +kernel
theorem dX9_rights_93 : decode cX9_rights 93 = .ok (.iconst 0, 1) := by decide +kernel
theorem dX9_rights_94 : decode cX9_rights 94 = .ok (.invokevirtual 290, 3) := by decide +kernel
theorem dX9_rights_97 : decode cX9_rights 97 = .ok (.ireturn, 1) := by decide +kernel
theorem dX9_check_0 : decode cX9_check 0 = .ok (.aload_n 0, 1) := by decide +kernel
theorem dX9_check_1 : decode cX9_check 1 = .ok (.aload_n 0, 1) := by decide +kernel
theorem dX9_check_2 : decode cX9_check 2 = .ok (.iload_n 1, 1) := by decide +kernel
theorem dX9_check_3 : decode cX9_check 3 = .ok (.invokevirtual 278, 3) := by decide +kernel
theorem dX9_check_6 : decode cX9_check 6 = .ok (.ifCond .ne 7, 3) := by decide +kernel
theorem dX9_check_9 : decode cX9_check 9 = .ok (.iconst 1, 1) := by decide +kernel
theorem dX9_check_10 : decode cX9_check 10 = .ok (.goto 16, 3) := by decide +kernel
theorem dX9_check_13 : decode cX9_check 13 = .ok (.aload_n 0, 1) := by decide +kernel
theorem dX9_check_14 : decode cX9_check 14 = .ok (.iload_n 1, 1) := by decide +kernel
theorem dX9_check_15 : decode cX9_check 15 = .ok (.invokevirtual 287, 3) := by decide +kernel
theorem dX9_check_18 : decode cX9_check 18 = .ok (.ifCond .eq 7, 3) := by decide +kernel
theorem dX9_check_21 : decode cX9_check 21 = .ok (.iconst 2, 1) := by decide +kernel
theorem dX9_check_22 : decode cX9_check 22 = .ok (.goto 4, 3) := by decide +kernel
theorem dX9_check_25 : decode cX9_check 25 = .ok (.iconst 0, 1) := by decide +kernel
theorem dX9_check_26 : decode cX9_check 26 = .ok (.invokevirtual 272, 3) := by decide +kernel
theorem dX9_check_29 : decode cX9_check 29 = .ok (.ifCond .eq 7, 3) := by decide +kernel
theorem dX9_check_32 : decode cX9_check 32 = .ok (.iconst (-1), 1) := by decide +kernel
theorem dX9_check_33 : decode cX9_check 33 = .ok (.goto 15, 3) := by decide +kernel
theorem dX9_check_36 : decode cX9_check 36 = .ok (.aload_n 0, 1) := by decide +kernel
theorem dX9_check_37 : decode cX9_check 37 = .ok (.iload_n 1, 1) := by decide +kernel
theorem dX9_check_38 : decode cX9_check 38 = .ok (.iconst 4, 1) := by decide +kernel
theorem dX9_check_39 : decode cX9_check 39 = .ok (.iload_n 2, 1) := by decide +kernel
theorem dX9_check_40 : decode cX9_check 40 = .ok (.iload_n 3, 1) := by decide +kernel
theorem dX9_check_41 : decode cX9_check 41 = .ok (.iconst 0, 1) := by decide +kernel
theorem dX9_check_42 : decode cX9_check 42 = .ok (.iconst 0, 1) := by decide +kernel
theorem dX9_check_43 : decode cX9_check 43 = .ok (.iconst 0, 1) := by decide +kernel
theorem dX9_check_44 : decode cX9_check 44 = .ok (.iconst 0, 1) := by decide +kernel
theorem dX9_check_45 : decode cX9_check 45 = .ok (.invokevirtual 290, 3) := by decide +kernel
theorem dX9_check_48 : decode cX9_check 48 = .ok (.ireturn, 1) := by decide +kernel
theorem dX9_gather_0 : decode cX9_gather 0 = .ok (.aload_n 0, 1) := by decide +kernel
theorem dX9_gather_1 : decode cX9_gather 1 = .ok (.aload_n 0, 1) := by decide +kernel
theorem dX9_gather_2 : decode cX9_gather 2 = .ok (.iload_n 1, 1) := by decide +kernel
theorem dX9_gather_3 : decode cX9_gather 3 = .ok (.invokevirtual 278, 3) := by decide +kernel
theorem dX9_gather_6 : decode cX9_gather 6 = .ok (.ifCond .ne 7, 3) := by decide +kernel
theorem dX9_gather_9 : decode cX9_gather 9 = .ok (.iconst 1, 1) := by decide +kernel
theorem dX9_gather_10 : decode cX9_gather 10 = .ok (.goto 26, 3) := by decide +kernel
theorem dX9_gather_13 : decode cX9_gather 13 = .ok (.aload_n 0, 1) := by decide +kernel
theorem dX9_gather_14 : decode cX9_gather 14 = .ok (.iload_n 1, 1) := by decide +kernel
theorem dX9_gather_15 : decode cX9_gather 15 = .ok (.invokevirtual 269, 3) := by decide +kernel
theorem dX9_gather_18 : decode cX9_gather 18 = .ok (.ifCond .ne 13, 3) := by decide +kernel
theorem dX9_gather_21 : decode cX9_gather 21 = .ok (.aload_n 0, 1) := by decide +kernel
theorem dX9_gather_22 : decode cX9_gather 22 = .ok (.getfield 95, 3) := by decide +kernel
theorem dX9_gather_25 : decode cX9_gather 25 = .ok (.iload_n 1, 1) := by decide +kernel
theorem dX9_gather_26 : decode cX9_gather 26 = .ok (.iaload, 1) := by decide +kernel
theorem dX9_gather_27 : decode cX9_gather 27 = .ok (.iconst 1, 1) := by decide +kernel
theorem dX9_gather_28 : decode cX9_gather 28 = .ok (.if_icmp .ne 7, 3) := by decide +kernel
theorem dX9_gather_31 : decode cX9_gather 31 = .ok (.iconst 2, 1) := by decide +kernel
theorem dX9_gather_32 : decode cX9_gather 32 = .ok (.goto 4, 3) := by decide +kernel
theorem dX9_gather_35 : decode cX9_gather 35 = .ok (.iconst 0, 1) := by decide +kernel
theorem dX9_gather_36 : decode cX9_gather 36 = .ok (.invokevirtual 272, 3) := by decide +kernel
theorem dX9_gather_39 : decode cX9_gather 39 = .ok (.ifCond .ne 22, 3) := by decide +kernel
theorem dX9_gather_42 : decode cX9_gather 42 = .ok (.aload_n 0, 1) := by decide +kernel
theorem dX9_gather_43 : decode cX9_gather 43 = .ok (.iload_n 1, 1) := by decide +kernel
theorem dX9_gather_44 : decode cX9_gather 44 = .ok (.invokevirtual 255, 3) := by decide +kernel
theorem dX9_gather_47 : decode cX9_gather 47 = .ok (.aload_n 0, 1) := by decide +kernel
theorem dX9_gather_48 : decode cX9_gather 48 = .ok (.getfield 95, 3) := by decide +kernel
theorem dX9_gather_51 : decode cX9_gather 51 = .ok (.iload_n 1, 1) := by decide +kernel
theorem dX9_gather_52 : decode cX9_gather 52 = .ok (.iconst 1, 1) := by decide +kernel
theorem dX9_gather_53 : decode cX9_gather 53 = .ok (.iastore, 1) := by decide +kernel
theorem dX9_gather_54 : decode cX9_gather 54 = .ok (.aload_n 0, 1) := by decide +kernel
theorem dX9_gather_55 : decode cX9_gather 55 = .ok (.getfield 98, 3) := by decide +kernel
theorem dX9_gather_58 : decode cX9_gather 58 = .ok (.iload_n 1, 1) := by decide +kernel
theorem dX9_gather_59 : decode cX9_gather 59 = .ok (.iconst 0, 1) := by decide +kernel
theorem dX9_gather_60 : decode cX9_gather 60 = .ok (.iastore, 1) := by decide +kernel
theorem dX9_gather_61 : decode cX9_gather 61 = .ok (.return_, 1) := by decide +kernel
theorem dX9_done_0 : decode cX9_done 0 = .ok (.aload_n 0, 1) := by decide +kernel
theorem dX9_done_1 : decode cX9_done 1 = .ok (.aload_n 0, 1) := by decide +kernel
theorem dX9_done_2 : decode cX9_done 2 = .ok (.iload_n 1, 1) := by decide +kernel
theorem dX9_done_3 : decode cX9_done 3 = .ok (.invokevirtual 278, 3) := by decide +kernel
theorem dX9_done_6 : decode cX9_done 6 = .ok (.ifCond .ne 7, 3) := by decide +kernel
theorem dX9_done_9 : decode cX9_done 9 = .ok (.iconst 1, 1) := by decide +kernel
theorem dX9_done_10 : decode cX9_done 10 = .ok (.goto 25, 3) := by decide +kernel
theorem dX9_done_13 : decode cX9_done 13 = .ok (.aload_n 0, 1) := by decide +kernel
theorem dX9_done_14 : decode cX9_done 14 = .ok (.iload_n 1, 1) := by decide +kernel
theorem dX9_done_15 : decode cX9_done 15 = .ok (.invokevirtual 269, 3) := by decide +kernel
theorem dX9_done_18 : decode cX9_done 18 = .ok (.ifCond .ne 12, 3) := by decide +kernel
theorem dX9_done_21 : decode cX9_done 21 = .ok (.aload_n 0, 1) := by decide +kernel
theorem dX9_done_22 : decode cX9_done 22 = .ok (.getfield 95, 3) := by decide +kernel
theorem dX9_done_25 : decode cX9_done 25 = .ok (.iload_n 1, 1) := by decide +kernel
theorem dX9_done_26 : decode cX9_done 26 = .ok (.iaload, 1) := by decide +kernel
theorem dX9_done_27 : decode cX9_done 27 = .ok (.ifCond .ne 7, 3) := by decide +kernel
theorem dX9_done_30 : decode cX9_done 30 = .ok (.iconst 2, 1) := by decide +kernel
theorem dX9_done_31 : decode cX9_done 31 = .ok (.goto 4, 3) := by decide +kernel
theorem dX9_done_34 : decode cX9_done 34 = .ok (.iconst 0, 1) := by decide +kernel
theorem dX9_done_35 : decode cX9_done 35 = .ok (.invokevirtual 272, 3) := by decide +kernel
theorem dX9_done_38 : decode cX9_done 38 = .ok (.ifCond .eq 5, 3) := by decide +kernel
theorem dX9_done_41 : decode cX9_done 41 = .ok (.iconst (-1), 1) := by decide +kernel
theorem dX9_done_42 : decode cX9_done 42 = .ok (.ireturn, 1) := by decide +kernel
theorem dX9_done_43 : decode cX9_done 43 = .ok (.aload_n 0, 1) := by decide +kernel
theorem dX9_done_44 : decode cX9_done 44 = .ok (.iload_n 1, 1) := by decide +kernel
theorem dX9_done_45 : decode cX9_done 45 = .ok (.invokevirtual 255, 3) := by decide +kernel
theorem dX9_done_48 : decode cX9_done 48 = .ok (.aload_n 0, 1) := by decide +kernel
theorem dX9_done_49 : decode cX9_done 49 = .ok (.getfield 95, 3) := by decide +kernel
theorem dX9_done_52 : decode cX9_done 52 = .ok (.iload_n 1, 1) := by decide +kernel
theorem dX9_done_53 : decode cX9_done 53 = .ok (.iconst 0, 1) := by decide +kernel
theorem dX9_done_54 : decode cX9_done 54 = .ok (.iastore, 1) := by decide +kernel
theorem dX9_done_55 : decode cX9_done 55 = .ok (.aload_n 0, 1) := by decide +kernel
theorem dX9_done_56 : decode cX9_done 56 = .ok (.getfield 107, 3) := by decide +kernel
theorem dX9_done_59 : decode cX9_done 59 = .ok (.iload_n 1, 1) := by decide +kernel
theorem dX9_done_60 : decode cX9_done 60 = .ok (.aload_n 0, 1) := by decide +kernel
theorem dX9_done_61 : decode cX9_done 61 = .ok (.getfield 98, 3) := by decide +kernel
theorem dX9_done_64 : decode cX9_done 64 = .ok (.iload_n 1, 1) := by decide +kernel
theorem dX9_done_65 : decode cX9_done 65 = .ok (.iaload, 1) := by decide +kernel
theorem dX9_done_66 : decode cX9_done 66 = .ok (.iastore, 1) := by decide +kernel
theorem dX9_done_67 : decode cX9_done 67 = .ok (.aload_n 0, 1) := by decide +kernel
theorem dX9_done_68 : decode cX9_done 68 = .ok (.invokevirtual 259, 3) := by decide +kernel
theorem dX9_done_71 : decode cX9_done 71 = .ok (.iconst (-1), 1) := by decide +kernel
theorem dX9_done_72 : decode cX9_done 72 = .ok (.istore_n 2, 1) := by decide +kernel
theorem dX9_done_73 : decode cX9_done 73 = .ok (.iconst 0, 1) := by decide +kernel
theorem dX9_done_74 : decode cX9_done 74 = .ok (.istore_n 3, 1) := by decide +kernel
theorem dX9_done_75 : decode cX9_done 75 = .ok (.iload_n 3, 1) := by decide +kernel
theorem dX9_done_76 : decode cX9_done 76 = .ok (.aload_n 0, 1) := by decide +kernel
theorem dX9_done_77 : decode cX9_done 77 = .ok (.getfield 98, 3) := by decide +kernel
theorem dX9_done_80 : decode cX9_done 80 = .ok (.iload_n 1, 1) := by decide +kernel
theorem dX9_done_81 : decode cX9_done 81 = .ok (.iaload, 1) := by decide +kernel
theorem dX9_done_82 : decode cX9_done 82 = .ok (.if_icmp .ge 126, 3) := by decide +kernel
theorem dX9_done_85 : decode cX9_done 85 = .ok (.bipush 42, 2) := by decide +kernel
theorem dX9_done_87 : decode cX9_done 87 = .ok (.iload_n 1, 1) := by decide +kernel
theorem dX9_done_88 : decode cX9_done 88 = .ok (.imul, 1) := by decide +kernel
theorem dX9_done_89 : decode cX9_done 89 = .ok (.bipush 7, 2) := by decide +kernel
theorem dX9_done_91 : decode cX9_done 91 = .ok (.iload_n 3, 1) := by decide +kernel
theorem dX9_done_92 : decode cX9_done 92 = .ok (.imul, 1) := by decide +kernel
theorem dX9_done_93 : decode cX9_done 93 = .ok (.iadd, 1) := by decide +kernel
theorem dX9_done_94 : decode cX9_done 94 = .ok (.istore 4, 2) := by decide +kernel
theorem dX9_done_96 : decode cX9_done 96 = .ok (.iload_n 2, 1) := by decide +kernel
theorem dX9_done_97 : decode cX9_done 97 = .ok (.ifCond .lt 8, 3) := by decide +kernel
theorem dX9_done_100 : decode cX9_done 100 = .ok (.bipush (-10), 2) := by decide +kernel
theorem dX9_done_102 : decode cX9_done 102 = .ok (.goto 70, 3) := by decide +kernel
theorem dX9_done_105 : decode cX9_done 105 = .ok (.aload_n 0, 1) := by decide +kernel
theorem dX9_done_106 : decode cX9_done 106 = .ok (.iload_n 1, 1) := by decide +kernel
theorem dX9_done_107 : decode cX9_done 107 = .ok (.aload_n 0, 1) := by decide +kernel
theorem dX9_done_108 : decode cX9_done 108 = .ok (.getfield 101, 3) := by decide +kernel
theorem dX9_done_111 : decode cX9_done 111 = .ok (.iload 4, 2) := by decide +kernel
theorem dX9_done_113 : decode cX9_done 113 = .ok (.iaload, 1) := by decide +kernel
theorem dX9_done_114 : decode cX9_done 114 = .ok (.aload_n 0, 1) := by decide +kernel
theorem dX9_done_115 : decode cX9_done 115 = .ok (.getfield 101, 3) := by decide +kernel
theorem dX9_done_118 : decode cX9_done 118 = .ok (.iload 4, 2) := by decide +kernel
theorem dX9_done_120 : decode cX9_done 120 = .ok (.iconst 1, 1) := by decide +kernel
theorem dX9_done_121 : decode cX9_done 121 = .ok (.iadd, 1) := by decide +kernel
theorem dX9_done_122 : decode cX9_done 122 = .ok (.iaload, 1) := by decide +kernel
theorem dX9_done_123 : decode cX9_done 123 = .ok (.aload_n 0, 1) := by decide +kernel
theorem dX9_done_124 : decode cX9_done 124 = .ok (.getfield 101, 3) := by decide +kernel
theorem dX9_done_127 : decode cX9_done 127 = .ok (.iload 4, 2) := by decide +kernel
theorem dX9_done_129 : decode cX9_done 129 = .ok (.iconst 2, 1) := by decide +kernel
theorem dX9_done_130 : decode cX9_done 130 = .ok (.iadd, 1) := by decide +kernel
theorem dX9_done_131 : decode cX9_done 131 = .ok (.iaload, 1) := by decide +kernel
theorem dX9_done_132 : decode cX9_done 132 = .ok (.aload_n 0, 1) := by decide +kernel
theorem dX9_done_133 : decode cX9_done 133 = .ok (.getfield 101, 3) := by decide +kernel
theorem dX9_done_136 : decode cX9_done 136 = .ok (.iload 4, 2) := by decide +kernel
theorem dX9_done_138 : decode cX9_done 138 = .ok (.iconst 3, 1) := by decide +kernel
theorem dX9_done_139 : decode cX9_done 139 = .ok (.iadd, 1) := by decide +kernel
theorem dX9_done_140 : decode cX9_done 140 = .ok (.iaload, 1) := by decide +kernel
theorem dX9_done_141 : decode cX9_done 141 = .ok (.aload_n 0, 1) := by decide +kernel
theorem dX9_done_142 : decode cX9_done 142 = .ok (.getfield 101, 3) := by decide +kernel
theorem dX9_done_145 : decode cX9_done 145 = .ok (.iload 4, 2) := by decide +kernel
theorem dX9_done_147 : decode cX9_done 147 = .ok (.iconst 4, 1) := by decide +kernel
theorem dX9_done_148 : decode cX9_done 148 = .ok (.iadd, 1) := by decide +kernel
theorem dX9_done_149 : decode cX9_done 149 = .ok (.iaload, 1) := by decide +kernel
theorem dX9_done_150 : decode cX9_done 150 = .ok (.aload_n 0, 1) := by decide +kernel
theorem dX9_done_151 : decode cX9_done 151 = .ok (.getfield 101, 3) := by decide +kernel
theorem dX9_done_154 : decode cX9_done 154 = .ok (.iload 4, 2) := by decide +kernel
theorem dX9_done_156 : decode cX9_done 156 = .ok (.iconst 5, 1) := by decide +kernel
theorem dX9_done_157 : decode cX9_done 157 = .ok (.iadd, 1) := by decide +kernel
theorem dX9_done_158 : decode cX9_done 158 = .ok (.iaload, 1) := by decide +kernel
theorem dX9_done_159 : decode cX9_done 159 = .ok (.aload_n 0, 1) := by decide +kernel
theorem dX9_done_160 : decode cX9_done 160 = .ok (.getfield 101, 3) := by decide +kernel
theorem dX9_done_163 : decode cX9_done 163 = .ok (.iload 4, 2) := by decide +kernel
theorem dX9_done_165 : decode cX9_done 165 = .ok (.bipush 6, 2) := by decide +kernel
theorem dX9_done_167 : decode cX9_done 167 = .ok (.iadd, 1) := by decide +kernel
theorem dX9_done_168 : decode cX9_done 168 = .ok (.iaload, 1) := by decide +kernel
theorem dX9_done_169 : decode cX9_done 169 = .ok (.invokevirtual 262, 3) := by decide +kernel
theorem dX9_done_172 : decode cX9_done 172 = .ok (.istore 5, 2) := by decide +kernel
theorem dX9_done_174 : decode cX9_done 174 = .ok (.aload_n 0, 1) := by decide +kernel
theorem dX9_done_175 : decode cX9_done 175 = .ok (.getfield 104, 3) := by decide +kernel
theorem dX9_done_178 : decode cX9_done 178 = .ok (.bipush 6, 2) := by decide +kernel
theorem dX9_done_180 : decode cX9_done 180 = .ok (.iload_n 1, 1) := by decide +kernel
theorem dX9_done_181 : decode cX9_done 181 = .ok (.imul, 1) := by decide +kernel
theorem dX9_done_182 : decode cX9_done 182 = .ok (.iload_n 3, 1) := by decide +kernel
theorem dX9_done_183 : decode cX9_done 183 = .ok (.iadd, 1) := by decide +kernel
theorem dX9_done_184 : decode cX9_done 184 = .ok (.iload 5, 2) := by decide +kernel
theorem dX9_done_186 : decode cX9_done 186 = .ok (.iastore, 1) := by decide +kernel
theorem dX9_done_187 : decode cX9_done 187 = .ok (.iload_n 2, 1) := by decide +kernel
theorem dX9_done_188 : decode cX9_done 188 = .ok (.ifCond .ge 12, 3) := by decide +kernel
theorem dX9_done_191 : decode cX9_done 191 = .ok (.iload 5, 2) := by decide +kernel
theorem dX9_done_193 : decode cX9_done 193 = .ok (.ifCond .ge 7, 3) := by decide +kernel
theorem dX9_done_196 : decode cX9_done 196 = .ok (.iload_n 3, 1) := by decide +kernel
theorem dX9_done_197 : decode cX9_done 197 = .ok (.goto 4, 3) := by decide +kernel
theorem dX9_done_200 : decode cX9_done 200 = .ok (.iload_n 2, 1) := by decide +kernel
theorem dX9_done_201 : decode cX9_done 201 = .ok (.istore_n 2, 1) := by decide +kernel
theorem dX9_done_202 : decode cX9_done 202 = .ok (.iinc 3 1, 3) := by decide +kernel
theorem dX9_done_205 : decode cX9_done 205 = .ok (.goto (-130), 3) := by decide +kernel
theorem dX9_done_208 : decode cX9_done 208 = .ok (.iload_n 2, 1) := by decide +kernel
theorem dX9_done_209 : decode cX9_done 209 = .ok (.ifCond .lt 11, 3) := by decide +kernel
theorem dX9_done_212 : decode cX9_done 212 = .ok (.aload_n 0, 1) := by decide +kernel
theorem dX9_done_213 : decode cX9_done 213 = .ok (.invokevirtual 249, 3) := by decide +kernel
theorem dX9_done_216 : decode cX9_done 216 = .ok (.iconst (-1), 1) := by decide +kernel
theorem dX9_done_217 : decode cX9_done 217 = .ok (.iload_n 2, 1) := by decide +kernel
theorem dX9_done_218 : decode cX9_done 218 = .ok (.isub, 1) := by decide +kernel
theorem dX9_done_219 : decode cX9_done 219 = .ok (.ireturn, 1) := by decide +kernel
theorem dX9_done_220 : decode cX9_done 220 = .ok (.aload_n 0, 1) := by decide +kernel
theorem dX9_done_221 : decode cX9_done 221 = .ok (.getfield 98, 3) := by decide +kernel
theorem dX9_done_224 : decode cX9_done 224 = .ok (.iload_n 1, 1) := by decide +kernel
theorem dX9_done_225 : decode cX9_done 225 = .ok (.iaload, 1) := by decide +kernel
theorem dX9_done_226 : decode cX9_done 226 = .ok (.ifCond .ne 22, 3) := by decide +kernel
theorem dX9_done_229 : decode cX9_done 229 = .ok (.aload_n 0, 1) := by decide +kernel
theorem dX9_done_230 : decode cX9_done 230 = .ok (.aload_n 0, 1) := by decide +kernel
theorem dX9_done_231 : decode cX9_done 231 = .ok (.getfield 83, 3) := by decide +kernel
theorem dX9_done_234 : decode cX9_done 234 = .ok (.iload_n 1, 1) := by decide +kernel
theorem dX9_done_235 : decode cX9_done 235 = .ok (.iaload, 1) := by decide +kernel
theorem dX9_done_236 : decode cX9_done 236 = .ok (.aload_n 0, 1) := by decide +kernel
theorem dX9_done_237 : decode cX9_done 237 = .ok (.getfield 181, 3) := by decide +kernel
theorem dX9_done_240 : decode cX9_done 240 = .ok (.invokevirtual 197, 3) := by decide +kernel
theorem dX9_done_243 : decode cX9_done 243 = .ok (.aload_n 0, 1) := by decide +kernel
theorem dX9_done_244 : decode cX9_done 244 = .ok (.getfield 181, 3) := by decide +kernel
theorem dX9_done_247 : decode cX9_done 247 = .ok (.ireturn, 1) := by decide +kernel
theorem dX9_done_248 : decode cX9_done 248 = .ok (.aload_n 0, 1) := by decide +kernel
theorem dX9_done_249 : decode cX9_done 249 = .ok (.iload_n 1, 1) := by decide +kernel
theorem dX9_done_250 : decode cX9_done 250 = .ok (.invokevirtual 266, 3) := by decide +kernel
theorem dX9_done_253 : decode cX9_done 253 = .ok (.ifCond .eq 8, 3) := by decide +kernel
theorem dX9_done_256 : decode cX9_done 256 = .ok (.bipush (-100), 2) := by decide +kernel
theorem dX9_done_258 : decode cX9_done 258 = .ok (.goto 7, 3) := by decide +kernel
theorem dX9_done_261 : decode cX9_done 261 = .ok (.aload_n 0, 1) := by decide +kernel
theorem dX9_done_262 : decode cX9_done 262 = .ok (.getfield 181, 3) := by decide +kernel
theorem dX9_done_265 : decode cX9_done 265 = .ok (.ireturn, 1) := by decide +kernel
theorem dX9_answer_0 : decode cX9_answer 0 = .ok (.aload_n 0, 1) := by decide +kernel
theorem dX9_answer_1 : decode cX9_answer 1 = .ok (.aload_n 0, 1) := by decide +kernel
theorem dX9_answer_2 : decode cX9_answer 2 = .ok (.iload_n 1, 1) := by decide +kernel
theorem dX9_answer_3 : decode cX9_answer 3 = .ok (.invokevirtual 278, 3) := by decide +kernel
theorem dX9_answer_6 : decode cX9_answer 6 = .ok (.ifCond .eq 11, 3) := by decide +kernel
theorem dX9_answer_9 : decode cX9_answer 9 = .ok (.iload_n 2, 1) := by decide +kernel
theorem dX9_answer_10 : decode cX9_answer 10 = .ok (.ifCond .lt 7, 3) := by decide +kernel
theorem dX9_answer_13 : decode cX9_answer 13 = .ok (.iconst 0, 1) := by decide +kernel
theorem dX9_answer_14 : decode cX9_answer 14 = .ok (.goto 4, 3) := by decide +kernel
theorem dX9_answer_17 : decode cX9_answer 17 = .ok (.iconst 1, 1) := by decide +kernel
theorem dX9_answer_18 : decode cX9_answer 18 = .ok (.invokevirtual 272, 3) := by decide +kernel
theorem dX9_answer_21 : decode cX9_answer 21 = .ok (.ifCond .eq 5, 3) := by decide +kernel
theorem dX9_answer_24 : decode cX9_answer 24 = .ok (.iconst (-1), 1) := by decide +kernel
theorem dX9_answer_25 : decode cX9_answer 25 = .ok (.ireturn, 1) := by decide +kernel
theorem dX9_answer_26 : decode cX9_answer 26 = .ok (.iload_n 2, 1) := by decide +kernel
theorem dX9_answer_27 : decode cX9_answer 27 = .ok (.aload_n 0, 1) := by decide +kernel
theorem dX9_answer_28 : decode cX9_answer 28 = .ok (.getfield 107, 3) := by decide +kernel
theorem dX9_answer_31 : decode cX9_answer 31 = .ok (.iload_n 1, 1) := by decide +kernel
theorem dX9_answer_32 : decode cX9_answer 32 = .ok (.iaload, 1) := by decide +kernel
theorem dX9_answer_33 : decode cX9_answer 33 = .ok (.if_icmp .ge 17, 3) := by decide +kernel
theorem dX9_answer_36 : decode cX9_answer 36 = .ok (.aload_n 0, 1) := by decide +kernel
theorem dX9_answer_37 : decode cX9_answer 37 = .ok (.getfield 104, 3) := by decide +kernel
theorem dX9_answer_40 : decode cX9_answer 40 = .ok (.bipush 6, 2) := by decide +kernel
theorem dX9_answer_42 : decode cX9_answer 42 = .ok (.iload_n 1, 1) := by decide +kernel
theorem dX9_answer_43 : decode cX9_answer 43 = .ok (.imul, 1) := by decide +kernel
theorem dX9_answer_44 : decode cX9_answer 44 = .ok (.iload_n 2, 1) := by decide +kernel
theorem dX9_answer_45 : decode cX9_answer 45 = .ok (.iadd, 1) := by decide +kernel
theorem dX9_answer_46 : decode cX9_answer 46 = .ok (.iaload, 1) := by decide +kernel
theorem dX9_answer_47 : decode cX9_answer 47 = .ok (.goto 5, 3) := by decide +kernel
theorem dX9_answer_50 : decode cX9_answer 50 = .ok (.bipush (-100), 2) := by decide +kernel
theorem dX9_answer_52 : decode cX9_answer 52 = .ok (.ireturn, 1) := by decide +kernel
theorem dX9_lose_0 : decode cX9_lose 0 = .ok (.aload_n 0, 1) := by decide +kernel
theorem dX9_lose_1 : decode cX9_lose 1 = .ok (.iconst 0, 1) := by decide +kernel
theorem dX9_lose_2 : decode cX9_lose 2 = .ok (.invokevirtual 272, 3) := by decide +kernel
theorem dX9_lose_5 : decode cX9_lose 5 = .ok (.pop, 1) := by decide +kernel
theorem dX9_lose_6 : decode cX9_lose 6 = .ok (.aload_n 0, 1) := by decide +kernel
theorem dX9_lose_7 : decode cX9_lose 7 = .ok (.iload_n 1, 1) := by decide +kernel
theorem dX9_lose_8 : decode cX9_lose 8 = .ok (.ifCond .eq 7, 3) := by decide +kernel
theorem dX9_lose_11 : decode cX9_lose 11 = .ok (.iconst 2, 1) := by decide +kernel
theorem dX9_lose_12 : decode cX9_lose 12 = .ok (.goto 4, 3) := by decide +kernel
theorem dX9_lose_15 : decode cX9_lose 15 = .ok (.iconst 1, 1) := by decide +kernel
theorem dX9_lose_16 : decode cX9_lose 16 = .ok (.putfield 246, 3) := by decide +kernel
theorem dX9_lose_19 : decode cX9_lose 19 = .ok (.return_, 1) := by decide +kernel
theorem dX9_quota_0 : decode cX9_quota 0 = .ok (.aload_n 0, 1) := by decide +kernel
theorem dX9_quota_1 : decode cX9_quota 1 = .ok (.aload_n 0, 1) := by decide +kernel
theorem dX9_quota_2 : decode cX9_quota 2 = .ok (.iload_n 2, 1) := by decide +kernel
theorem dX9_quota_3 : decode cX9_quota 3 = .ok (.iconst 0, 1) := by decide +kernel
theorem dX9_quota_4 : decode cX9_quota 4 = .ok (.bipush 80, 2) := by decide +kernel
theorem dX9_quota_6 : decode cX9_quota 6 = .ok (.invokevirtual 151, 3) := by decide +kernel
theorem dX9_quota_9 : decode cX9_quota 9 = .ok (.ifCond .eq 7, 3) := by decide +kernel
theorem dX9_quota_12 : decode cX9_quota 12 = .ok (.iconst 0, 1) := by decide +kernel
theorem dX9_quota_13 : decode cX9_quota 13 = .ok (.goto 4, 3) := by decide +kernel
theorem dX9_quota_16 : decode cX9_quota 16 = .ok (.iconst 1, 1) := by decide +kernel
theorem dX9_quota_17 : decode cX9_quota 17 = .ok (.invokevirtual 272, 3) := by decide +kernel
theorem dX9_quota_20 : decode cX9_quota 20 = .ok (.ifCond .eq 5, 3) := by decide +kernel
theorem dX9_quota_23 : decode cX9_quota 23 = .ok (.iconst (-1), 1) := by decide +kernel
theorem dX9_quota_24 : decode cX9_quota 24 = .ok (.ireturn, 1) := by decide +kernel
theorem dX9_quota_25 : decode cX9_quota 25 = .ok (.aload_n 0, 1) := by decide +kernel
theorem dX9_quota_26 : decode cX9_quota 26 = .ok (.iconst 0, 1) := by decide +kernel
theorem dX9_quota_27 : decode cX9_quota 27 = .ok (.iload_n 1, 1) := by decide +kernel
theorem dX9_quota_28 : decode cX9_quota 28 = .ok (.invokevirtual 204, 3) := by decide +kernel
theorem dX9_quota_31 : decode cX9_quota 31 = .ok (.ifCond .ne 5, 3) := by decide +kernel
theorem dX9_quota_34 : decode cX9_quota 34 = .ok (.iconst (-1), 1) := by decide +kernel
theorem dX9_quota_35 : decode cX9_quota 35 = .ok (.ireturn, 1) := by decide +kernel
theorem dX9_quota_36 : decode cX9_quota 36 = .ok (.aload_n 0, 1) := by decide +kernel
theorem dX9_quota_37 : decode cX9_quota 37 = .ok (.getfield 28, 3) := by decide +kernel
theorem dX9_quota_40 : decode cX9_quota 40 = .ok (.iload_n 1, 1) := by decide +kernel
theorem dX9_quota_41 : decode cX9_quota 41 = .ok (.iload_n 2, 1) := by decide +kernel
theorem dX9_quota_42 : decode cX9_quota 42 = .ok (.iastore, 1) := by decide +kernel
theorem dX9_quota_43 : decode cX9_quota 43 = .ok (.aload_n 0, 1) := by decide +kernel
theorem dX9_quota_44 : decode cX9_quota 44 = .ok (.iload_n 1, 1) := by decide +kernel
theorem dX9_quota_45 : decode cX9_quota 45 = .ok (.invokevirtual 200, 3) := by decide +kernel
theorem dX9_quota_48 : decode cX9_quota 48 = .ok (.ireturn, 1) := by decide +kernel
theorem dX9_sees_0 : decode cX9_sees 0 = .ok (.aload_n 0, 1) := by decide +kernel
theorem dX9_sees_1 : decode cX9_sees 1 = .ok (.getfield 83, 3) := by decide +kernel
theorem dX9_sees_4 : decode cX9_sees 4 = .ok (.iload_n 1, 1) := by decide +kernel
theorem dX9_sees_5 : decode cX9_sees 5 = .ok (.iaload, 1) := by decide +kernel
theorem dX9_sees_6 : decode cX9_sees 6 = .ok (.istore_n 3, 1) := by decide +kernel
theorem dX9_sees_7 : decode cX9_sees 7 = .ok (.aload_n 0, 1) := by decide +kernel
theorem dX9_sees_8 : decode cX9_sees 8 = .ok (.iload_n 3, 1) := by decide +kernel
theorem dX9_sees_9 : decode cX9_sees 9 = .ok (.iload_n 2, 1) := by decide +kernel
theorem dX9_sees_10 : decode cX9_sees 10 = .ok (.invokevirtual 204, 3) := by decide +kernel
theorem dX9_sees_13 : decode cX9_sees 13 = .ok (.ifCond .ne 7, 3) := by decide +kernel
theorem dX9_sees_16 : decode cX9_sees 16 = .ok (.iconst (-1), 1) := by decide +kernel
theorem dX9_sees_17 : decode cX9_sees 17 = .ok (.goto 33, 3) := by decide +kernel
theorem dX9_sees_20 : decode cX9_sees 20 = .ok (.aload_n 0, 1) := by decide +kernel
theorem dX9_sees_21 : decode cX9_sees 21 = .ok (.aload_n 0, 1) := by decide +kernel
theorem dX9_sees_22 : decode cX9_sees 22 = .ok (.getfield 46, 3) := by decide +kernel
theorem dX9_sees_25 : decode cX9_sees 25 = .ok (.bipush 80, 2) := by decide +kernel
theorem dX9_sees_27 : decode cX9_sees 27 = .ok (.iload_n 3, 1) := by decide +kernel
theorem dX9_sees_28 : decode cX9_sees 28 = .ok (.imul, 1) := by decide +kernel
theorem dX9_sees_29 : decode cX9_sees 29 = .ok (.iload_n 2, 1) := by decide +kernel
theorem dX9_sees_30 : decode cX9_sees 30 = .ok (.iadd, 1) := by decide +kernel
theorem dX9_sees_31 : decode cX9_sees 31 = .ok (.iaload, 1) := by decide +kernel
theorem dX9_sees_32 : decode cX9_sees 32 = .ok (.aload_n 0, 1) := by decide +kernel
theorem dX9_sees_33 : decode cX9_sees 33 = .ok (.getfield 80, 3) := by decide +kernel
theorem dX9_sees_36 : decode cX9_sees 36 = .ok (.iload_n 1, 1) := by decide +kernel
theorem dX9_sees_37 : decode cX9_sees 37 = .ok (.iaload, 1) := by decide +kernel
theorem dX9_sees_38 : decode cX9_sees 38 = .ok (.invokevirtual 207, 3) := by decide +kernel
theorem dX9_sees_41 : decode cX9_sees 41 = .ok (.ifCond .eq 7, 3) := by decide +kernel
theorem dX9_sees_44 : decode cX9_sees 44 = .ok (.iconst 0, 1) := by decide +kernel
theorem dX9_sees_45 : decode cX9_sees 45 = .ok (.goto 5, 3) := by decide +kernel
theorem dX9_sees_48 : decode cX9_sees 48 = .ok (.bipush (-2), 2) := by decide +kernel
theorem dX9_sees_50 : decode cX9_sees 50 = .ok (.ireturn, 1) := by decide +kernel
theorem dX9_read_0 : decode cX9_read 0 = .ok (.aload_n 0, 1) := by decide +kernel
theorem dX9_read_1 : decode cX9_read 1 = .ok (.aload_n 0, 1) := by decide +kernel
theorem dX9_read_2 : decode cX9_read 2 = .ok (.iload_n 1, 1) := by decide +kernel
theorem dX9_read_3 : decode cX9_read 3 = .ok (.invokevirtual 278, 3) := by decide +kernel
theorem dX9_read_6 : decode cX9_read 6 = .ok (.ifCond .ne 7, 3) := by decide +kernel
theorem dX9_read_9 : decode cX9_read 9 = .ok (.iconst 1, 1) := by decide +kernel
theorem dX9_read_10 : decode cX9_read 10 = .ok (.goto 31, 3) := by decide +kernel
theorem dX9_read_13 : decode cX9_read 13 = .ok (.aload_n 0, 1) := by decide +kernel
theorem dX9_read_14 : decode cX9_read 14 = .ok (.iload_n 3, 1) := by decide +kernel
theorem dX9_read_15 : decode cX9_read 15 = .ok (.iconst 0, 1) := by decide +kernel
theorem dX9_read_16 : decode cX9_read 16 = .ok (.bipush 9, 2) := by decide +kernel
theorem dX9_read_18 : decode cX9_read 18 = .ok (.invokevirtual 151, 3) := by decide +kernel
theorem dX9_read_21 : decode cX9_read 21 = .ok (.ifCond .ne 7, 3) := by decide +kernel
theorem dX9_read_24 : decode cX9_read 24 = .ok (.iconst 2, 1) := by decide +kernel
theorem dX9_read_25 : decode cX9_read 25 = .ok (.goto 16, 3) := by decide +kernel
theorem dX9_read_28 : decode cX9_read 28 = .ok (.aload_n 0, 1) := by decide +kernel
theorem dX9_read_29 : decode cX9_read 29 = .ok (.iload_n 1, 1) := by decide +kernel
theorem dX9_read_30 : decode cX9_read 30 = .ok (.invokevirtual 269, 3) := by decide +kernel
theorem dX9_read_33 : decode cX9_read 33 = .ok (.ifCond .eq 7, 3) := by decide +kernel
theorem dX9_read_36 : decode cX9_read 36 = .ok (.iconst 3, 1) := by decide +kernel
theorem dX9_read_37 : decode cX9_read 37 = .ok (.goto 4, 3) := by decide +kernel
theorem dX9_read_40 : decode cX9_read 40 = .ok (.iconst 0, 1) := by decide +kernel
theorem dX9_read_41 : decode cX9_read 41 = .ok (.invokevirtual 272, 3) := by decide +kernel
theorem dX9_read_44 : decode cX9_read 44 = .ok (.ifCond .eq 5, 3) := by decide +kernel
theorem dX9_read_47 : decode cX9_read 47 = .ok (.iconst (-1), 1) := by decide +kernel
theorem dX9_read_48 : decode cX9_read 48 = .ok (.ireturn, 1) := by decide +kernel
theorem dX9_read_49 : decode cX9_read 49 = .ok (.aload_n 0, 1) := by decide +kernel
theorem dX9_read_50 : decode cX9_read 50 = .ok (.iload_n 1, 1) := by decide +kernel
theorem dX9_read_51 : decode cX9_read 51 = .ok (.invokevirtual 255, 3) := by decide +kernel
theorem dX9_read_54 : decode cX9_read 54 = .ok (.aload_n 0, 1) := by decide +kernel
theorem dX9_read_55 : decode cX9_read 55 = .ok (.iload_n 1, 1) := by decide +kernel
theorem dX9_read_56 : decode cX9_read 56 = .ok (.iload_n 2, 1) := by decide +kernel
theorem dX9_read_57 : decode cX9_read 57 = .ok (.invokevirtual 293, 3) := by decide +kernel
theorem dX9_read_60 : decode cX9_read 60 = .ok (.istore 4, 2) := by decide +kernel
theorem dX9_read_62 : decode cX9_read 62 = .ok (.iload 4, 2) := by decide +kernel
theorem dX9_read_64 : decode cX9_read 64 = .ok (.ifCond .ge 6, 3) := by decide +kernel
theorem dX9_read_67 : decode cX9_read 67 = .ok (.iload 4, 2) := by decide +kernel
theorem dX9_read_69 : decode cX9_read 69 = .ok (.ireturn, 1) := by decide +kernel
theorem dX9_read_70 : decode cX9_read 70 = .ok (.bipush 80, 2) := by decide +kernel
theorem dX9_read_72 : decode cX9_read 72 = .ok (.aload_n 0, 1) := by decide +kernel
theorem dX9_read_73 : decode cX9_read 73 = .ok (.getfield 83, 3) := by decide +kernel
theorem dX9_read_76 : decode cX9_read 76 = .ok (.iload_n 1, 1) := by decide +kernel
theorem dX9_read_77 : decode cX9_read 77 = .ok (.iaload, 1) := by decide +kernel
theorem dX9_read_78 : decode cX9_read 78 = .ok (.imul, 1) := by decide +kernel
theorem dX9_read_79 : decode cX9_read 79 = .ok (.iload_n 2, 1) := by decide +kernel
theorem dX9_read_80 : decode cX9_read 80 = .ok (.iadd, 1) := by decide +kernel
theorem dX9_read_81 : decode cX9_read 81 = .ok (.istore 5, 2) := by decide +kernel
theorem dX9_read_83 : decode cX9_read 83 = .ok (.iload_n 3, 1) := by decide +kernel
theorem dX9_read_84 : decode cX9_read 84 = .ok (.tableswitch 124 0 8 #[52, 60, 68, 76, 84, 91, 98, 110, 117], 52) := by decide +kernel
theorem dX9_read_136 : decode cX9_read 136 = .ok (.aload_n 0, 1) := by decide +kernel
theorem dX9_read_137 : decode cX9_read 137 = .ok (.getfield 34, 3) := by decide +kernel
theorem dX9_read_140 : decode cX9_read 140 = .ok (.iload 5, 2) := by decide +kernel
theorem dX9_read_142 : decode cX9_read 142 = .ok (.iaload, 1) := by decide +kernel
theorem dX9_read_143 : decode cX9_read 143 = .ok (.ireturn, 1) := by decide +kernel
theorem dX9_read_144 : decode cX9_read 144 = .ok (.aload_n 0, 1) := by decide +kernel
theorem dX9_read_145 : decode cX9_read 145 = .ok (.getfield 37, 3) := by decide +kernel
theorem dX9_read_148 : decode cX9_read 148 = .ok (.iload 5, 2) := by decide +kernel
theorem dX9_read_150 : decode cX9_read 150 = .ok (.iaload, 1) := by decide +kernel
theorem dX9_read_151 : decode cX9_read 151 = .ok (.ireturn, 1) := by decide +kernel
theorem dX9_read_152 : decode cX9_read 152 = .ok (.aload_n 0, 1) := by decide +kernel
theorem dX9_read_153 : decode cX9_read 153 = .ok (.getfield 40, 3) := by decide +kernel
theorem dX9_read_156 : decode cX9_read 156 = .ok (.iload 5, 2) := by decide +kernel
theorem dX9_read_158 : decode cX9_read 158 = .ok (.iaload, 1) := by decide +kernel
theorem dX9_read_159 : decode cX9_read 159 = .ok (.ireturn, 1) := by decide +kernel
theorem dX9_read_160 : decode cX9_read 160 = .ok (.aload_n 0, 1) := by decide +kernel
theorem dX9_read_161 : decode cX9_read 161 = .ok (.getfield 43, 3) := by decide +kernel
theorem dX9_read_164 : decode cX9_read 164 = .ok (.iload 5, 2) := by decide +kernel
theorem dX9_read_166 : decode cX9_read 166 = .ok (.iaload, 1) := by decide +kernel
theorem dX9_read_167 : decode cX9_read 167 = .ok (.ireturn, 1) := by decide +kernel
theorem dX9_read_168 : decode cX9_read 168 = .ok (.aload_n 0, 1) := by decide +kernel
theorem dX9_read_169 : decode cX9_read 169 = .ok (.getfield 7, 3) := by decide +kernel
theorem dX9_read_172 : decode cX9_read 172 = .ok (.iload_n 2, 1) := by decide +kernel
theorem dX9_read_173 : decode cX9_read 173 = .ok (.iaload, 1) := by decide +kernel
theorem dX9_read_174 : decode cX9_read 174 = .ok (.ireturn, 1) := by decide +kernel
theorem dX9_read_175 : decode cX9_read 175 = .ok (.aload_n 0, 1) := by decide +kernel
theorem dX9_read_176 : decode cX9_read 176 = .ok (.getfield 13, 3) := by decide +kernel
theorem dX9_read_179 : decode cX9_read 179 = .ok (.iload_n 2, 1) := by decide +kernel
theorem dX9_read_180 : decode cX9_read 180 = .ok (.iaload, 1) := by decide +kernel
theorem dX9_read_181 : decode cX9_read 181 = .ok (.ireturn, 1) := by decide +kernel
theorem dX9_read_182 : decode cX9_read 182 = .ok (.aload_n 0, 1) := by decide +kernel
theorem dX9_read_183 : decode cX9_read 183 = .ok (.aload_n 0, 1) := by decide +kernel
