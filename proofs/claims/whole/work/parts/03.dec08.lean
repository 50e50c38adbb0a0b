theorem dX9_changedAt_72 : decode cX9_changedAt 72 = .ok (.iload_n 1, 1) := by decide +kernel
theorem dX9_changedAt_73 : decode cX9_changedAt 73 = .ok (.if_icmp .ne 46, 3) := by decide +kernel
theorem dX9_changedAt_76 : decode cX9_changedAt 76 = .ok (.aload_n 0, 1) := by decide +kernel
theorem dX9_changedAt_77 : decode cX9_changedAt 77 = .ok (.getfield 62, 3) := by decide +kernel
theorem dX9_changedAt_80 : decode cX9_changedAt 80 = .ok (.iload 6, 2) := by decide +kernel
theorem dX9_changedAt_82 : decode cX9_changedAt 82 = .ok (.iaload, 1) := by decide +kernel
theorem dX9_changedAt_83 : decode cX9_changedAt 83 = .ok (.iconst 3, 1) := by decide +kernel
theorem dX9_changedAt_84 : decode cX9_changedAt 84 = .ok (.if_icmp .ge 35, 3) := by decide +kernel
theorem dX9_changedAt_87 : decode cX9_changedAt 87 = .ok (.aload_n 0, 1) := by decide +kernel
theorem dX9_changedAt_88 : decode cX9_changedAt 88 = .ok (.getfield 59, 3) := by decide +kernel
theorem dX9_changedAt_91 : decode cX9_changedAt 91 = .ok (.iload 6, 2) := by decide +kernel
theorem dX9_changedAt_93 : decode cX9_changedAt 93 = .ok (.iaload, 1) := by decide +kernel
theorem dX9_changedAt_94 : decode cX9_changedAt 94 = .ok (.iload 5, 2) := by decide +kernel
theorem dX9_changedAt_96 : decode cX9_changedAt 96 = .ok (.if_icmp .le 23, 3) := by decide +kernel
theorem dX9_changedAt_99 : decode cX9_changedAt 99 = .ok (.aload_n 0, 1) := by decide +kernel
theorem dX9_changedAt_100 : decode cX9_changedAt 100 = .ok (.getfield 59, 3) := by decide +kernel
theorem dX9_changedAt_103 : decode cX9_changedAt 103 = .ok (.iload 6, 2) := by decide +kernel
theorem dX9_changedAt_105 : decode cX9_changedAt 105 = .ok (.iaload, 1) := by decide +kernel
theorem dX9_changedAt_106 : decode cX9_changedAt 106 = .ok (.istore 5, 2) := by decide +kernel
theorem dX9_changedAt_108 : decode cX9_changedAt 108 = .ok (.iload 4, 2) := by decide +kernel
theorem dX9_changedAt_110 : decode cX9_changedAt 110 = .ok (.ifCond .ne 6, 3) := by decide +kernel
theorem dX9_changedAt_113 : decode cX9_changedAt 113 = .ok (.iload 5, 2) := by decide +kernel
theorem dX9_changedAt_115 : decode cX9_changedAt 115 = .ok (.ireturn, 1) := by decide +kernel
theorem dX9_changedAt_116 : decode cX9_changedAt 116 = .ok (.iinc 4 (-1), 3) := by decide +kernel
theorem dX9_changedAt_119 : decode cX9_changedAt 119 = .ok (.iinc 6 1, 3) := by decide +kernel
theorem dX9_changedAt_122 : decode cX9_changedAt 122 = .ok (.goto (-66), 3) := by decide +kernel
theorem dX9_changedAt_125 : decode cX9_changedAt 125 = .ok (.bipush (-100), 2) := by decide +kernel
theorem dX9_changedAt_127 : decode cX9_changedAt 127 = .ok (.ireturn, 1) := by decide +kernel
theorem dX9_compact_0 : decode cX9_compact 0 = .ok (.aload_n 0, 1) := by decide +kernel
theorem dX9_compact_1 : decode cX9_compact 1 = .ok (.aload_n 0, 1) := by decide +kernel
theorem dX9_compact_2 : decode cX9_compact 2 = .ok (.iload_n 1, 1) := by decide +kernel
theorem dX9_compact_3 : decode cX9_compact 3 = .ok (.iconst 0, 1) := by decide +kernel
theorem dX9_compact_4 : decode cX9_compact 4 = .ok (.aload_n 0, 1) := by decide +kernel
theorem dX9_compact_5 : decode cX9_compact 5 = .ok (.getfield 181, 3) := by decide +kernel
theorem dX9_compact_8 : decode cX9_compact 8 = .ok (.invokevirtual 151, 3) := by decide +kernel
theorem dX9_compact_11 : decode cX9_compact 11 = .ok (.ifCond .eq 7, 3) := by decide +kernel
theorem dX9_compact_14 : decode cX9_compact 14 = .ok (.iconst 0, 1) := by decide +kernel
theorem dX9_compact_15 : decode cX9_compact 15 = .ok (.goto 4, 3) := by decide +kernel
theorem dX9_compact_18 : decode cX9_compact 18 = .ok (.iconst 1, 1) := by decide +kernel
theorem dX9_compact_19 : decode cX9_compact 19 = .ok (.invokevirtual 272, 3) := by decide +kernel
theorem dX9_compact_22 : decode cX9_compact 22 = .ok (.ifCond .eq 5, 3) := by decide +kernel
theorem dX9_compact_25 : decode cX9_compact 25 = .ok (.iconst (-1), 1) := by decide +kernel
theorem dX9_compact_26 : decode cX9_compact 26 = .ok (.ireturn, 1) := by decide +kernel
theorem dX9_compact_27 : decode cX9_compact 27 = .ok (.aload_n 0, 1) := by decide +kernel
theorem dX9_compact_28 : decode cX9_compact 28 = .ok (.iload_n 1, 1) := by decide +kernel
theorem dX9_compact_29 : decode cX9_compact 29 = .ok (.aload_n 0, 1) := by decide +kernel
theorem dX9_compact_30 : decode cX9_compact 30 = .ok (.getfield 305, 3) := by decide +kernel
theorem dX9_compact_33 : decode cX9_compact 33 = .ok (.if_icmp .le 7, 3) := by decide +kernel
theorem dX9_compact_36 : decode cX9_compact 36 = .ok (.iload_n 1, 1) := by decide +kernel
theorem dX9_compact_37 : decode cX9_compact 37 = .ok (.goto 7, 3) := by decide +kernel
theorem dX9_compact_40 : decode cX9_compact 40 = .ok (.aload_n 0, 1) := by decide +kernel
theorem dX9_compact_41 : decode cX9_compact 41 = .ok (.getfield 305, 3) := by decide +kernel
theorem dX9_compact_44 : decode cX9_compact 44 = .ok (.putfield 305, 3) := by decide +kernel
theorem dX9_compact_47 : decode cX9_compact 47 = .ok (.aload_n 0, 1) := by decide +kernel
theorem dX9_compact_48 : decode cX9_compact 48 = .ok (.getfield 305, 3) := by decide +kernel
theorem dX9_compact_51 : decode cX9_compact 51 = .ok (.ireturn, 1) := by decide +kernel
theorem dX9_snapshot_0 : decode cX9_snapshot 0 = .ok (.aload_n 0, 1) := by decide +kernel
theorem dX9_snapshot_1 : decode cX9_snapshot 1 = .ok (.iconst 0, 1) := by decide +kernel
theorem dX9_snapshot_2 : decode cX9_snapshot 2 = .ok (.invokevirtual 272, 3) := by decide +kernel
theorem dX9_snapshot_5 : decode cX9_snapshot 5 = .ok (.pop, 1) := by decide +kernel
theorem dX9_snapshot_6 : decode cX9_snapshot 6 = .ok (.aload_n 0, 1) := by decide +kernel
theorem dX9_snapshot_7 : decode cX9_snapshot 7 = .ok (.iconst 0, 1) := by decide +kernel
theorem dX9_snapshot_8 : decode cX9_snapshot 8 = .ok (.iconst 3, 1) := by decide +kernel
theorem dX9_snapshot_9 : decode cX9_snapshot 9 = .ok (.invokevirtual 172, 3) := by decide +kernel
theorem dX9_snapshot_12 : decode cX9_snapshot 12 = .ok (.iconst 0, 1) := by decide +kernel
theorem dX9_snapshot_13 : decode cX9_snapshot 13 = .ok (.istore_n 1, 1) := by decide +kernel
theorem dX9_snapshot_14 : decode cX9_snapshot 14 = .ok (.iconst 0, 1) := by decide +kernel
theorem dX9_snapshot_15 : decode cX9_snapshot 15 = .ok (.istore_n 2, 1) := by decide +kernel
theorem dX9_snapshot_16 : decode cX9_snapshot 16 = .ok (.iload_n 2, 1) := by decide +kernel
theorem dX9_snapshot_17 : decode cX9_snapshot 17 = .ok (.bipush 80, 2) := by decide +kernel
theorem dX9_snapshot_19 : decode cX9_snapshot 19 = .ok (.if_icmp .ge 30, 3) := by decide +kernel
theorem dX9_snapshot_22 : decode cX9_snapshot 22 = .ok (.aload_n 0, 1) := by decide +kernel
theorem dX9_snapshot_23 : decode cX9_snapshot 23 = .ok (.getfield 52, 3) := by decide +kernel
theorem dX9_snapshot_26 : decode cX9_snapshot 26 = .ok (.iload_n 2, 1) := by decide +kernel
theorem dX9_snapshot_27 : decode cX9_snapshot 27 = .ok (.aload_n 0, 1) := by decide +kernel
theorem dX9_snapshot_28 : decode cX9_snapshot 28 = .ok (.getfield 25, 3) := by decide +kernel
theorem dX9_snapshot_31 : decode cX9_snapshot 31 = .ok (.iload_n 2, 1) := by decide +kernel
theorem dX9_snapshot_32 : decode cX9_snapshot 32 = .ok (.iaload, 1) := by decide +kernel
theorem dX9_snapshot_33 : decode cX9_snapshot 33 = .ok (.iastore, 1) := by decide +kernel
theorem dX9_snapshot_34 : decode cX9_snapshot 34 = .ok (.iload_n 1, 1) := by decide +kernel
theorem dX9_snapshot_35 : decode cX9_snapshot 35 = .ok (.aload_n 0, 1) := by decide +kernel
theorem dX9_snapshot_36 : decode cX9_snapshot 36 = .ok (.getfield 31, 3) := by decide +kernel
theorem dX9_snapshot_39 : decode cX9_snapshot 39 = .ok (.iload_n 2, 1) := by decide +kernel
theorem dX9_snapshot_40 : decode cX9_snapshot 40 = .ok (.iaload, 1) := by decide +kernel
theorem dX9_snapshot_41 : decode cX9_snapshot 41 = .ok (.iadd, 1) := by decide +kernel
theorem dX9_snapshot_42 : decode cX9_snapshot 42 = .ok (.istore_n 1, 1) := by decide +kernel
theorem dX9_snapshot_43 : decode cX9_snapshot 43 = .ok (.iinc 2 1, 3) := by decide +kernel
theorem dX9_snapshot_46 : decode cX9_snapshot 46 = .ok (.goto (-30), 3) := by decide +kernel
theorem dX9_snapshot_49 : decode cX9_snapshot 49 = .ok (.aload_n 0, 1) := by decide +kernel
theorem dX9_snapshot_50 : decode cX9_snapshot 50 = .ok (.iconst 1, 1) := by decide +kernel
theorem dX9_snapshot_51 : decode cX9_snapshot 51 = .ok (.putfield 308, 3) := by decide +kernel
theorem dX9_snapshot_54 : decode cX9_snapshot 54 = .ok (.iload_n 1, 1) := by decide +kernel
theorem dX9_snapshot_55 : decode cX9_snapshot 55 = .ok (.ireturn, 1) := by decide +kernel
theorem dX9_restore_0 : decode cX9_restore 0 = .ok (.aload_n 0, 1) := by decide +kernel
theorem dX9_restore_1 : decode cX9_restore 1 = .ok (.aload_n 0, 1) := by decide +kernel
theorem dX9_restore_2 : decode cX9_restore 2 = .ok (.getfield 308, 3) := by decide +kernel
theorem dX9_restore_5 : decode cX9_restore 5 = .ok (.ifCond .eq 7, 3) := by decide +kernel
theorem dX9_restore_8 : decode cX9_restore 8 = .ok (.iconst 0, 1) := by decide +kernel
theorem dX9_restore_9 : decode cX9_restore 9 = .ok (.goto 4, 3) := by decide +kernel
theorem dX9_restore_12 : decode cX9_restore 12 = .ok (.iconst 1, 1) := by decide +kernel
theorem dX9_restore_13 : decode cX9_restore 13 = .ok (.invokevirtual 272, 3) := by decide +kernel
theorem dX9_restore_16 : decode cX9_restore 16 = .ok (.ifCond .eq 5, 3) := by decide +kernel
theorem dX9_restore_19 : decode cX9_restore 19 = .ok (.iconst (-1), 1) := by decide +kernel
theorem dX9_restore_20 : decode cX9_restore 20 = .ok (.ireturn, 1) := by decide +kernel
theorem dX9_restore_21 : decode cX9_restore 21 = .ok (.aload_n 0, 1) := by decide +kernel
theorem dX9_restore_22 : decode cX9_restore 22 = .ok (.dup, 1) := by decide +kernel
theorem dX9_restore_23 : decode cX9_restore 23 = .ok (.getfield 181, 3) := by decide +kernel
theorem dX9_restore_26 : decode cX9_restore 26 = .ok (.iconst 1, 1) := by decide +kernel
theorem dX9_restore_27 : decode cX9_restore 27 = .ok (.iadd, 1) := by decide +kernel
theorem dX9_restore_28 : decode cX9_restore 28 = .ok (.putfield 181, 3) := by decide +kernel
theorem dX9_restore_31 : decode cX9_restore 31 = .ok (.aload_n 0, 1) := by decide +kernel
theorem dX9_restore_32 : decode cX9_restore 32 = .ok (.aload_n 0, 1) := by decide +kernel
theorem dX9_restore_33 : decode cX9_restore 33 = .ok (.getfield 181, 3) := by decide +kernel
theorem dX9_restore_36 : decode cX9_restore 36 = .ok (.putfield 161, 3) := by decide +kernel
theorem dX9_restore_39 : decode cX9_restore 39 = .ok (.aload_n 0, 1) := by decide +kernel
theorem dX9_restore_40 : decode cX9_restore 40 = .ok (.iconst 3, 1) := by decide +kernel
theorem dX9_restore_41 : decode cX9_restore 41 = .ok (.iconst 0, 1) := by decide +kernel
theorem dX9_restore_42 : decode cX9_restore 42 = .ok (.invokevirtual 172, 3) := by decide +kernel
theorem dX9_restore_45 : decode cX9_restore 45 = .ok (.aload_n 0, 1) := by decide +kernel
theorem dX9_restore_46 : decode cX9_restore 46 = .ok (.iconst 4, 1) := by decide +kernel
theorem dX9_restore_47 : decode cX9_restore 47 = .ok (.iconst (-1), 1) := by decide +kernel
theorem dX9_restore_48 : decode cX9_restore 48 = .ok (.iconst 0, 1) := by decide +kernel
theorem dX9_restore_49 : decode cX9_restore 49 = .ok (.iconst 0, 1) := by decide +kernel
theorem dX9_restore_50 : decode cX9_restore 50 = .ok (.invokevirtual 164, 3) := by decide +kernel
theorem dX9_restore_53 : decode cX9_restore 53 = .ok (.iconst 0, 1) := by decide +kernel
theorem dX9_restore_54 : decode cX9_restore 54 = .ok (.istore_n 1, 1) := by decide +kernel
theorem dX9_restore_55 : decode cX9_restore 55 = .ok (.iload_n 1, 1) := by decide +kernel
theorem dX9_restore_56 : decode cX9_restore 56 = .ok (.aload_n 0, 1) := by decide +kernel
theorem dX9_restore_57 : decode cX9_restore 57 = .ok (.getfield 141, 3) := by decide +kernel
theorem dX9_restore_60 : decode cX9_restore 60 = .ok (.if_icmp .ge 99, 3) := by decide +kernel
theorem dX9_restore_63 : decode cX9_restore 63 = .ok (.aload_n 0, 1) := by decide +kernel
theorem dX9_restore_64 : decode cX9_restore 64 = .ok (.getfield 31, 3) := by decide +kernel
theorem dX9_restore_67 : decode cX9_restore 67 = .ok (.iload_n 1, 1) := by decide +kernel
theorem dX9_restore_68 : decode cX9_restore 68 = .ok (.aload_n 0, 1) := by decide +kernel
theorem dX9_restore_69 : decode cX9_restore 69 = .ok (.getfield 16, 3) := by decide +kernel
theorem dX9_restore_72 : decode cX9_restore 72 = .ok (.iload_n 1, 1) := by decide +kernel
theorem dX9_restore_73 : decode cX9_restore 73 = .ok (.iaload, 1) := by decide +kernel
theorem dX9_restore_74 : decode cX9_restore 74 = .ok (.iconst 1, 1) := by decide +kernel
theorem dX9_restore_75 : decode cX9_restore 75 = .ok (.if_icmp .eq 13, 3) := by decide +kernel
theorem dX9_restore_78 : decode cX9_restore 78 = .ok (.aload_n 0, 1) := by decide +kernel
theorem dX9_restore_79 : decode cX9_restore 79 = .ok (.getfield 16, 3) := by decide +kernel
theorem dX9_restore_82 : decode cX9_restore 82 = .ok (.iload_n 1, 1) := by decide +kernel
theorem dX9_restore_83 : decode cX9_restore 83 = .ok (.iaload, 1) := by decide +kernel
theorem dX9_restore_84 : decode cX9_restore 84 = .ok (.iconst 2, 1) := by decide +kernel
theorem dX9_restore_85 : decode cX9_restore 85 = .ok (.if_icmp .ne 7, 3) := by decide +kernel
theorem dX9_restore_88 : decode cX9_restore 88 = .ok (.iconst 0, 1) := by decide +kernel
theorem dX9_restore_89 : decode cX9_restore 89 = .ok (.goto 9, 3) := by decide +kernel
theorem dX9_restore_92 : decode cX9_restore 92 = .ok (.aload_n 0, 1) := by decide +kernel
theorem dX9_restore_93 : decode cX9_restore 93 = .ok (.getfield 31, 3) := by decide +kernel
theorem dX9_restore_96 : decode cX9_restore 96 = .ok (.iload_n 1, 1) := by decide +kernel
theorem dX9_restore_97 : decode cX9_restore 97 = .ok (.iaload, 1) := by decide +kernel
theorem dX9_restore_98 : decode cX9_restore 98 = .ok (.iastore, 1) := by decide +kernel
theorem dX9_restore_99 : decode cX9_restore 99 = .ok (.aload_n 0, 1) := by decide +kernel
theorem dX9_restore_100 : decode cX9_restore 100 = .ok (.getfield 25, 3) := by decide +kernel
theorem dX9_restore_103 : decode cX9_restore 103 = .ok (.iload_n 1, 1) := by decide +kernel
theorem dX9_restore_104 : decode cX9_restore 104 = .ok (.aload_n 0, 1) := by decide +kernel
theorem dX9_restore_105 : decode cX9_restore 105 = .ok (.getfield 31, 3) := by decide +kernel
theorem dX9_restore_108 : decode cX9_restore 108 = .ok (.iload_n 1, 1) := by decide +kernel
theorem dX9_restore_109 : decode cX9_restore 109 = .ok (.iaload, 1) := by decide +kernel
theorem dX9_restore_110 : decode cX9_restore 110 = .ok (.iconst 1, 1) := by decide +kernel
theorem dX9_restore_111 : decode cX9_restore 111 = .ok (.if_icmp .ne 12, 3) := by decide +kernel
theorem dX9_restore_114 : decode cX9_restore 114 = .ok (.aload_n 0, 1) := by decide +kernel
theorem dX9_restore_115 : decode cX9_restore 115 = .ok (.getfield 52, 3) := by decide +kernel
theorem dX9_restore_118 : decode cX9_restore 118 = .ok (.iload_n 1, 1) := by decide +kernel
theorem dX9_restore_119 : decode cX9_restore 119 = .ok (.iaload, 1) := by decide +kernel
theorem dX9_restore_120 : decode cX9_restore 120 = .ok (.goto 9, 3) := by decide +kernel
theorem dX9_restore_123 : decode cX9_restore 123 = .ok (.aload_n 0, 1) := by decide +kernel
theorem dX9_restore_124 : decode cX9_restore 124 = .ok (.getfield 25, 3) := by decide +kernel
theorem dX9_restore_127 : decode cX9_restore 127 = .ok (.iload_n 1, 1) := by decide +kernel
theorem dX9_restore_128 : decode cX9_restore 128 = .ok (.iaload, 1) := by decide +kernel
theorem dX9_restore_129 : decode cX9_restore 129 = .ok (.iastore, 1) := by decide +kernel
theorem dX9_restore_130 : decode cX9_restore 130 = .ok (.aload_n 0, 1) := by decide +kernel
theorem dX9_restore_131 : decode cX9_restore 131 = .ok (.getfield 31, 3) := by decide +kernel
theorem dX9_restore_134 : decode cX9_restore 134 = .ok (.iload_n 1, 1) := by decide +kernel
theorem dX9_restore_135 : decode cX9_restore 135 = .ok (.iaload, 1) := by decide +kernel
theorem dX9_restore_136 : decode cX9_restore 136 = .ok (.iconst 1, 1) := by decide +kernel
theorem dX9_restore_137 : decode cX9_restore 137 = .ok (.if_icmp .ne 16, 3) := by decide +kernel
theorem dX9_restore_140 : decode cX9_restore 140 = .ok (.aload_n 0, 1) := by decide +kernel
theorem dX9_restore_141 : decode cX9_restore 141 = .ok (.iconst 5, 1) := by decide +kernel
theorem dX9_restore_142 : decode cX9_restore 142 = .ok (.iload_n 1, 1) := by decide +kernel
theorem dX9_restore_143 : decode cX9_restore 143 = .ok (.aload_n 0, 1) := by decide +kernel
theorem dX9_restore_144 : decode cX9_restore 144 = .ok (.getfield 34, 3) := by decide +kernel
theorem dX9_restore_147 : decode cX9_restore 147 = .ok (.iload_n 1, 1) := by decide +kernel
theorem dX9_restore_148 : decode cX9_restore 148 = .ok (.iaload, 1) := by decide +kernel
theorem dX9_restore_149 : decode cX9_restore 149 = .ok (.iconst 0, 1) := by decide +kernel
theorem dX9_restore_150 : decode cX9_restore 150 = .ok (.invokevirtual 164, 3) := by decide +kernel
theorem dX9_restore_153 : decode cX9_restore 153 = .ok (.iinc 1 1, 3) := by decide +kernel
theorem dX9_restore_156 : decode cX9_restore 156 = .ok (.goto (-101), 3) := by decide +kernel
theorem dX9_restore_159 : decode cX9_restore 159 = .ok (.iconst 0, 1) := by decide +kernel
theorem dX9_restore_160 : decode cX9_restore 160 = .ok (.istore_n 1, 1) := by decide +kernel
theorem dX9_restore_161 : decode cX9_restore 161 = .ok (.iload_n 1, 1) := by decide +kernel
theorem dX9_restore_162 : decode cX9_restore 162 = .ok (.iconst 3, 1) := by decide +kernel
theorem dX9_restore_163 : decode cX9_restore 163 = .ok (.if_icmp .ge 39, 3) := by decide +kernel
theorem dX9_restore_166 : decode cX9_restore 166 = .ok (.iload_n 1, 1) := by decide +kernel
theorem dX9_restore_167 : decode cX9_restore 167 = .ok (.ifCond .le 9, 3) := by decide +kernel
theorem dX9_restore_170 : decode cX9_restore 170 = .ok (.aload_n 0, 1) := by decide +kernel
theorem dX9_restore_171 : decode cX9_restore 171 = .ok (.iconst 0, 1) := by decide +kernel
theorem dX9_restore_172 : decode cX9_restore 172 = .ok (.iload_n 1, 1) := by decide +kernel
theorem dX9_restore_173 : decode cX9_restore 173 = .ok (.invokevirtual 172, 3) := by decide +kernel
theorem dX9_restore_176 : decode cX9_restore 176 = .ok (.aload_n 0, 1) := by decide +kernel
theorem dX9_restore_177 : decode cX9_restore 177 = .ok (.getfield 74, 3) := by decide +kernel
theorem dX9_restore_180 : decode cX9_restore 180 = .ok (.iload_n 1, 1) := by decide +kernel
theorem dX9_restore_181 : decode cX9_restore 181 = .ok (.aload_n 0, 1) := by decide +kernel
theorem dX9_restore_182 : decode cX9_restore 182 = .ok (.getfield 158, 3) := by decide +kernel
theorem dX9_restore_185 : decode cX9_restore 185 = .ok (.iastore, 1) := by decide +kernel
theorem dX9_restore_186 : decode cX9_restore 186 = .ok (.aload_n 0, 1) := by decide +kernel
theorem dX9_restore_187 : decode cX9_restore 187 = .ok (.getfield 77, 3) := by decide +kernel
theorem dX9_restore_190 : decode cX9_restore 190 = .ok (.iload_n 1, 1) := by decide +kernel
theorem dX9_restore_191 : decode cX9_restore 191 = .ok (.aload_n 0, 1) := by decide +kernel
theorem dX9_restore_192 : decode cX9_restore 192 = .ok (.getfield 181, 3) := by decide +kernel
theorem dX9_restore_195 : decode cX9_restore 195 = .ok (.iastore, 1) := by decide +kernel
theorem dX9_restore_196 : decode cX9_restore 196 = .ok (.iinc 1 1, 3) := by decide +kernel
theorem dX9_restore_199 : decode cX9_restore 199 = .ok (.goto (-38), 3) := by decide +kernel
theorem dX9_restore_202 : decode cX9_restore 202 = .ok (.iconst 0, 1) := by decide +kernel
theorem dX9_restore_203 : decode cX9_restore 203 = .ok (.istore_n 1, 1) := by decide +kernel
theorem dX9_restore_204 : decode cX9_restore 204 = .ok (.iload_n 1, 1) := by decide +kernel
theorem dX9_restore_205 : decode cX9_restore 205 = .ok (.aload_n 0, 1) := by decide +kernel
theorem dX9_restore_206 : decode cX9_restore 206 = .ok (.getfield 148, 3) := by decide +kernel
theorem dX9_restore_209 : decode cX9_restore 209 = .ok (.if_icmp .ge 44, 3) := by decide +kernel
theorem dX9_restore_212 : decode cX9_restore 212 = .ok (.aload_n 0, 1) := by decide +kernel
theorem dX9_restore_213 : decode cX9_restore 213 = .ok (.getfield 92, 3) := by decide +kernel
theorem dX9_restore_216 : decode cX9_restore 216 = .ok (.iload_n 1, 1) := by decide +kernel
theorem dX9_restore_217 : decode cX9_restore 217 = .ok (.iconst 1, 1) := by decide +kernel
theorem dX9_restore_218 : decode cX9_restore 218 = .ok (.iastore, 1) := by decide +kernel
theorem dX9_restore_219 : decode cX9_restore 219 = .ok (.aload_n 0, 1) := by decide +kernel
theorem dX9_restore_220 : decode cX9_restore 220 = .ok (.getfield 95, 3) := by decide +kernel
theorem dX9_restore_223 : decode cX9_restore 223 = .ok (.iload_n 1, 1) := by decide +kernel
theorem dX9_restore_224 : decode cX9_restore 224 = .ok (.iconst 0, 1) := by decide +kernel
theorem dX9_restore_225 : decode cX9_restore 225 = .ok (.iastore, 1) := by decide +kernel
theorem dX9_restore_226 : decode cX9_restore 226 = .ok (.aload_n 0, 1) := by decide +kernel
theorem dX9_restore_227 : decode cX9_restore 227 = .ok (.getfield 116, 3) := by decide +kernel
theorem dX9_restore_230 : decode cX9_restore 230 = .ok (.iload_n 1, 1) := by decide +kernel
theorem dX9_restore_231 : decode cX9_restore 231 = .ok (.iconst 0, 1) := by decide +kernel
theorem dX9_restore_232 : decode cX9_restore 232 = .ok (.iastore, 1) := by decide +kernel
theorem dX9_restore_233 : decode cX9_restore 233 = .ok (.aload_n 0, 1) := by decide +kernel
theorem dX9_restore_234 : decode cX9_restore 234 = .ok (.getfield 126, 3) := by decide +kernel
theorem dX9_restore_237 : decode cX9_restore 237 = .ok (.iload_n 1, 1) := by decide +kernel
theorem dX9_restore_238 : decode cX9_restore 238 = .ok (.iconst 0, 1) := by decide +kernel
theorem dX9_restore_239 : decode cX9_restore 239 = .ok (.iastore, 1) := by decide +kernel
theorem dX9_restore_240 : decode cX9_restore 240 = .ok (.aload_n 0, 1) := by decide +kernel
theorem dX9_restore_241 : decode cX9_restore 241 = .ok (.getfield 123, 3) := by decide +kernel
theorem dX9_restore_244 : decode cX9_restore 244 = .ok (.iload_n 1, 1) := by decide +kernel
theorem dX9_restore_245 : decode cX9_restore 245 = .ok (.iconst 0, 1) := by decide +kernel
theorem dX9_restore_246 : decode cX9_restore 246 = .ok (.iastore, 1) := by decide +kernel
theorem dX9_restore_247 : decode cX9_restore 247 = .ok (.iinc 1 1, 3) := by decide +kernel
theorem dX9_restore_250 : decode cX9_restore 250 = .ok (.goto (-46), 3) := by decide +kernel
theorem dX9_restore_253 : decode cX9_restore 253 = .ok (.iconst 0, 1) := by decide +kernel
theorem dX9_restore_254 : decode cX9_restore 254 = .ok (.istore_n 1, 1) := by decide +kernel
theorem dX9_restore_255 : decode cX9_restore 255 = .ok (.iload_n 1, 1) := by decide +kernel
theorem dX9_restore_256 : decode cX9_restore 256 = .ok (.aload_n 0, 1) := by decide +kernel
theorem dX9_restore_257 : decode cX9_restore 257 = .ok (.getfield 284, 3) := by decide +kernel
theorem dX9_restore_260 : decode cX9_restore 260 = .ok (.if_icmp .ge 16, 3) := by decide +kernel
theorem dX9_restore_263 : decode cX9_restore 263 = .ok (.aload_n 0, 1) := by decide +kernel
theorem dX9_restore_264 : decode cX9_restore 264 = .ok (.getfield 138, 3) := by decide +kernel
theorem dX9_restore_267 : decode cX9_restore 267 = .ok (.iload_n 1, 1) := by decide +kernel
theorem dX9_restore_268 : decode cX9_restore 268 = .ok (.iconst 1, 1) := by decide +kernel
theorem dX9_restore_269 : decode cX9_restore 269 = .ok (.iastore, 1) := by decide +kernel
theorem dX9_restore_270 : decode cX9_restore 270 = .ok (.iinc 1 1, 3) := by decide +kernel
theorem dX9_restore_273 : decode cX9_restore 273 = .ok (.goto (-18), 3) := by decide +kernel
theorem dX9_restore_276 : decode cX9_restore 276 = .ok (.aload_n 0, 1) := by decide +kernel
theorem dX9_restore_277 : decode cX9_restore 277 = .ok (.aload_n 0, 1) := by decide +kernel
theorem dX9_restore_278 : decode cX9_restore 278 = .ok (.getfield 181, 3) := by decide +kernel
theorem dX9_restore_281 : decode cX9_restore 281 = .ok (.putfield 305, 3) := by decide +kernel
theorem dX9_restore_284 : decode cX9_restore 284 = .ok (.aload_n 0, 1) := by decide +kernel
theorem dX9_restore_285 : decode cX9_restore 285 = .ok (.getfield 181, 3) := by decide +kernel
theorem dX9_restore_288 : decode cX9_restore 288 = .ok (.ireturn, 1) := by decide +kernel
theorem dX9_changes_0 : decode cX9_changes 0 = .ok (.aload_n 0, 1) := by decide +kernel
theorem dX9_changes_1 : decode cX9_changes 1 = .ok (.iconst 0, 1) := by decide +kernel
theorem dX9_changes_2 : decode cX9_changes 2 = .ok (.invokevirtual 272, 3) := by decide +kernel
theorem dX9_changes_5 : decode cX9_changes 5 = .ok (.pop, 1) := by decide +kernel
theorem dX9_changes_6 : decode cX9_changes 6 = .ok (.aload_n 0, 1) := by decide +kernel
theorem dX9_changes_7 : decode cX9_changes 7 = .ok (.getfield 181, 3) := by decide +kernel
theorem dX9_changes_10 : decode cX9_changes 10 = .ok (.ireturn, 1) := by decide +kernel
theorem dJ9_max_7cf53_0 : decode cJ9_max_7cf53 0 = .ok (.iload_n 0, 1) := by decide +kernel
theorem dJ9_max_7cf53_1 : decode cJ9_max_7cf53 1 = .ok (.iload_n 1, 1) := by decide +kernel
theorem dJ9_max_7cf53_2 : decode cJ9_max_7cf53 2 = .ok (.if_icmp .lt 7, 3) := by decide +kernel
theorem dJ9_max_7cf53_5 : decode cJ9_max_7cf53 5 = .ok (.iload_n 0, 1) := by decide +kernel
theorem dJ9_max_7cf53_6 : decode cJ9_max_7cf53 6 = .ok (.goto 4, 3) := by decide +kernel
theorem dJ9_max_7cf53_9 : decode cJ9_max_7cf53 9 = .ok (.iload_n 1, 1) := by decide +kernel
theorem dJ9_max_7cf53_10 : decode cJ9_max_7cf53 10 = .ok (.ireturn, 1) := by decide +kernel
theorem dJ9_min_7cf53_0 : decode cJ9_min_7cf53 0 = .ok (.iload_n 0, 1) := by decide +kernel
theorem dJ9_min_7cf53_1 : decode cJ9_min_7cf53 1 = .ok (.iload_n 1, 1) := by decide +kernel
theorem dJ9_min_7cf53_2 : decode cJ9_min_7cf53 2 = .ok (.if_icmp .gt 7, 3) := by decide +kernel
theorem dJ9_min_7cf53_5 : decode cJ9_min_7cf53 5 = .ok (.iload_n 0, 1) := by decide +kernel
theorem dJ9_min_7cf53_6 : decode cJ9_min_7cf53 6 = .ok (.goto 4, 3) := by decide +kernel
theorem dJ9_min_7cf53_9 : decode cJ9_min_7cf53 9 = .ok (.iload_n 1, 1) := by decide +kernel
theorem dJ9_min_7cf53_10 : decode cJ9_min_7cf53 10 = .ok (.ireturn, 1) := by decide +kernel
theorem dJxa1e45_init_da8c8_0 : decode cJxa1e45_init_da8c8 0 = .ok (.aload_n 0, 1) := by decide +kernel
theorem dJxa1e45_init_da8c8_1 : decode cJxa1e45_init_da8c8 1 = .ok (.invokespecial 1, 3) := by decide +kernel
theorem dJxa1e45_init_da8c8_4 : decode cJxa1e45_init_da8c8 4 = .ok (.return_, 1) := by decide +kernel
theorem dJxc12de_init_da8c8_0 : decode cJxc12de_init_da8c8 0 = .ok (.aload_n 0, 1) := by decide +kernel
theorem dJxc12de_init_da8c8_1 : decode cJxc12de_init_da8c8 1 = .ok (.invokespecial 1, 3) := by decide +kernel
theorem dJxc12de_init_da8c8_4 : decode cJxc12de_init_da8c8 4 = .ok (.aload_n 0, 1) := by decide +kernel
theorem dJxc12de_init_da8c8_5 : decode cJxc12de_init_da8c8 5 = .ok (.iconst 0, 1) := by decide +kernel
theorem dJxc12de_init_da8c8_6 : decode cJxc12de_init_da8c8 6 = .ok (.putfield 7, 3) := by decide +kernel
theorem dJxc12de_init_da8c8_9 : decode cJxc12de_init_da8c8 9 = .ok (.return_, 1) := by decide +kernel
theorem dJx4a65c_init_da8c8_0 : decode cJx4a65c_init_da8c8 0 = .ok (.aload_n 0, 1) := by decide +kernel
theorem dJx4a65c_init_da8c8_1 : decode cJx4a65c_init_da8c8 1 = .ok (.invokespecial 1, 3) := by decide +kernel
theorem dJx4a65c_init_da8c8_4 : decode cJx4a65c_init_da8c8 4 = .ok (.aload_n 0, 1) := by decide +kernel
theorem dJx4a65c_init_da8c8_5 : decode cJx4a65c_init_da8c8 5 = .ok (.getstatic 39, 3) := by decide +kernel
theorem dJx4a65c_init_da8c8_8 : decode cJx4a65c_init_da8c8 8 = .ok (.putfield 9, 3) := by decide +kernel
theorem dJx4a65c_init_da8c8_11 : decode cJx4a65c_init_da8c8 11 = .ok (.return_, 1) := by decide +kernel
theorem dJx4a65c_grow_92f84_0 : decode cJx4a65c_grow_92f84 0 = .ok (.aload_n 0, 1) := by decide +kernel
theorem dJx4a65c_grow_92f84_1 : decode cJx4a65c_grow_92f84 1 = .ok (.getfield 9, 3) := by decide +kernel
theorem dJx4a65c_grow_92f84_4 : decode cJx4a65c_grow_92f84 4 = .ok (.arraylength, 1) := by decide +kernel
theorem dJx4a65c_grow_92f84_5 : decode cJx4a65c_grow_92f84 5 = .ok (.istore_n 2, 1) := by decide +kernel
theorem dJx4a65c_grow_92f84_6 : decode cJx4a65c_grow_92f84 6 = .ok (.iload_n 2, 1) := by decide +kernel
theorem dJx4a65c_grow_92f84_7 : decode cJx4a65c_grow_92f84 7 = .ok (.ifCond .gt 13, 3) := by decide +kernel
theorem dJx4a65c_grow_92f84_10 : decode cJx4a65c_grow_92f84 10 = .ok (.aload_n 0, 1) := by decide +kernel
theorem dJx4a65c_grow_92f84_11 : decode cJx4a65c_grow_92f84 11 = .ok (.getfield 9, 3) := by decide +kernel
theorem dJx4a65c_grow_92f84_14 : decode cJx4a65c_grow_92f84 14 = .ok (.getstatic 39, 3) := by decide +kernel
theorem dJx4a65c_grow_92f84_17 : decode cJx4a65c_grow_92f84 17 = .ok (.if_acmp .eq 28, 3) := by decide +kernel
theorem dJx4a65c_grow_92f84_20 : decode cJx4a65c_grow_92f84 20 = .ok (.iload_n 2, 1) := by decide +kernel
theorem dJx4a65c_grow_92f84_21 : decode cJx4a65c_grow_92f84 21 = .ok (.iload_n 1, 1) := by decide +kernel
theorem dJx4a65c_grow_92f84_22 : decode cJx4a65c_grow_92f84 22 = .ok (.iload_n 2, 1) := by decide +kernel
theorem dJx4a65c_grow_92f84_23 : decode cJx4a65c_grow_92f84 23 = .ok (.isub, 1) := by decide +kernel
theorem dJx4a65c_grow_92f84_24 : decode cJx4a65c_grow_92f84 24 = .ok (.iload_n 2, 1) := by decide +kernel
theorem dJx4a65c_grow_92f84_25 : decode cJx4a65c_grow_92f84 25 = .ok (.iconst 1, 1) := by decide +kernel
theorem dJx4a65c_grow_92f84_26 : decode cJx4a65c_grow_92f84 26 = .ok (.ishr, 1) := by decide +kernel
theorem dJx4a65c_grow_92f84_27 : decode cJx4a65c_grow_92f84 27 = .ok (.invokestatic 73, 3) := by decide +kernel
theorem dJx4a65c_grow_92f84_30 : decode cJx4a65c_grow_92f84 30 = .ok (.istore_n 3, 1) := by decide +kernel
theorem dJx4a65c_grow_92f84_31 : decode cJx4a65c_grow_92f84 31 = .ok (.aload_n 0, 1) := by decide +kernel
theorem dJx4a65c_grow_92f84_32 : decode cJx4a65c_grow_92f84 32 = .ok (.aload_n 0, 1) := by decide +kernel
theorem dJx4a65c_grow_92f84_33 : decode cJx4a65c_grow_92f84 33 = .ok (.getfield 9, 3) := by decide +kernel
theorem dJx4a65c_grow_92f84_36 : decode cJx4a65c_grow_92f84 36 = .ok (.iload_n 3, 1) := by decide +kernel
theorem dJx4a65c_grow_92f84_37 : decode cJx4a65c_grow_92f84 37 = .ok (.invokestatic 66, 3) := by decide +kernel
theorem dJx4a65c_grow_92f84_40 : decode cJx4a65c_grow_92f84 40 = .ok (.dup_x1, 1) := by decide +kernel
theorem dJx4a65c_grow_92f84_41 : decode cJx4a65c_grow_92f84 41 = .ok (.putfield 9, 3) := by decide +kernel
theorem dJx4a65c_grow_92f84_44 : decode cJx4a65c_grow_92f84 44 = .ok (.areturn, 1) := by decide +kernel
theorem dJx4a65c_grow_92f84_45 : decode cJx4a65c_grow_92f84 45 = .ok (.aload_n 0, 1) := by decide +kernel
theorem dJx4a65c_grow_92f84_46 : decode cJx4a65c_grow_92f84 46 = .ok (.bipush 10, 2) := by decide +kernel
theorem dJx4a65c_grow_92f84_48 : decode cJx4a65c_grow_92f84 48 = .ok (.iload_n 1, 1) := by decide +kernel
theorem dJx4a65c_grow_92f84_49 : decode cJx4a65c_grow_92f84 49 = .ok (.invokestatic 79, 3) := by decide +kernel
theorem dJx4a65c_grow_92f84_52 : decode cJx4a65c_grow_92f84 52 = .ok (.anewarray 7, 3) := by decide +kernel
theorem dJx4a65c_grow_92f84_55 : decode cJx4a65c_grow_92f84 55 = .ok (.dup_x1, 1) := by decide +kernel
theorem dJx4a65c_grow_92f84_56 : decode cJx4a65c_grow_92f84 56 = .ok (.putfield 9, 3) := by decide +kernel
theorem dJx4a65c_grow_92f84_59 : decode cJx4a65c_grow_92f84 59 = .ok (.areturn, 1) := by decide +kernel
theorem dJx4a65c_grow_d5877_0 : decode cJx4a65c_grow_d5877 0 = .ok (.aload_n 0, 1) := by decide +kernel
theorem dJx4a65c_grow_d5877_1 : decode cJx4a65c_grow_d5877 1 = .ok (.aload_n 0, 1) := by decide +kernel
theorem dJx4a65c_grow_d5877_2 : decode cJx4a65c_grow_d5877 2 = .ok (.getfield 48, 3) := by decide +kernel
theorem dJx4a65c_grow_d5877_5 : decode cJx4a65c_grow_d5877 5 = .ok (.iconst 1, 1) := by decide +kernel
theorem dJx4a65c_grow_d5877_6 : decode cJx4a65c_grow_d5877 6 = .ok (.iadd, 1) := by decide +kernel
theorem dJx4a65c_grow_d5877_7 : decode cJx4a65c_grow_d5877 7 = .ok (.invokevirtual 69, 3) := by decide +kernel
theorem dJx4a65c_grow_d5877_10 : decode cJx4a65c_grow_d5877 10 = .ok (.areturn, 1) := by decide +kernel
theorem dJx4a65c_size_8abf5_0 : decode cJx4a65c_size_8abf5 0 = .ok (.aload_n 0, 1) := by decide +kernel
theorem dJx4a65c_size_8abf5_1 : decode cJx4a65c_size_8abf5 1 = .ok (.getfield 48, 3) := by decide +kernel
theorem dJx4a65c_size_8abf5_4 : decode cJx4a65c_size_8abf5 4 = .ok (.ireturn, 1) := by decide +kernel
theorem dJx4a65c_elementData_915e3_0 : decode cJx4a65c_elementData_915e3 0 = .ok (.aload_n 0, 1) := by decide +kernel
theorem dJx4a65c_elementData_915e3_1 : decode cJx4a65c_elementData_915e3 1 = .ok (.getfield 9, 3) := by decide +kernel
theorem dJx4a65c_elementData_915e3_4 : decode cJx4a65c_elementData_915e3 4 = .ok (.iload_n 1, 1) := by decide +kernel
theorem dJx4a65c_elementData_915e3_5 : decode cJx4a65c_elementData_915e3 5 = .ok (.aaload, 1) := by decide +kernel
theorem dJx4a65c_elementData_915e3_6 : decode cJx4a65c_elementData_915e3 6 = .ok (.areturn, 1) := by decide +kernel
theorem dJx4a65c_get_915e3_0 : decode cJx4a65c_get_915e3 0 = .ok (.iload_n 1, 1) := by decide +kernel
theorem dJx4a65c_get_915e3_1 : decode cJx4a65c_get_915e3 1 = .ok (.aload_n 0, 1) := by decide +kernel
theorem dJx4a65c_get_915e3_2 : decode cJx4a65c_get_915e3 2 = .ok (.getfield 48, 3) := by decide +kernel
theorem dJx4a65c_get_915e3_5 : decode cJx4a65c_get_915e3 5 = .ok (.invokestatic 118, 3) := by decide +kernel
theorem dJx4a65c_get_915e3_8 : decode cJx4a65c_get_915e3 8 = .ok (.pop, 1) := by decide +kernel
theorem dJx4a65c_get_915e3_9 : decode cJx4a65c_get_915e3 9 = .ok (.aload_n 0, 1) := by decide +kernel
theorem dJx4a65c_get_915e3_10 : decode cJx4a65c_get_915e3 10 = .ok (.iload_n 1, 1) := by decide +kernel
theorem dJx4a65c_get_915e3_11 : decode cJx4a65c_get_915e3 11 = .ok (.invokevirtual 123, 3) := by decide +kernel
theorem dJx4a65c_get_915e3_14 : decode cJx4a65c_get_915e3 14 = .ok (.areturn, 1) := by decide +kernel
theorem dJx4a65c_add_72be8_0 : decode cJx4a65c_add_72be8 0 = .ok (.iload_n 3, 1) := by decide +kernel
theorem dJx4a65c_add_72be8_1 : decode cJx4a65c_add_72be8 1 = .ok (.aload_n 2, 1) := by decide +kernel
theorem dJx4a65c_add_72be8_2 : decode cJx4a65c_add_72be8 2 = .ok (.arraylength, 1) := by decide +kernel
theorem dJx4a65c_add_72be8_3 : decode cJx4a65c_add_72be8 3 = .ok (.if_icmp .ne 8, 3) := by decide +kernel
theorem dJx4a65c_add_72be8_6 : decode cJx4a65c_add_72be8 6 = .ok (.aload_n 0, 1) := by decide +kernel
theorem dJx4a65c_add_72be8_7 : decode cJx4a65c_add_72be8 7 = .ok (.invokevirtual 129, 3) := by decide +kernel
theorem dJx4a65c_add_72be8_10 : decode cJx4a65c_add_72be8 10 = .ok (.astore_n 2, 1) := by decide +kernel
theorem dJx4a65c_add_72be8_11 : decode cJx4a65c_add_72be8 11 = .ok (.aload_n 2, 1) := by decide +kernel
theorem dJx4a65c_add_72be8_12 : decode cJx4a65c_add_72be8 12 = .ok (.iload_n 3, 1) := by decide +kernel
theorem dJx4a65c_add_72be8_13 : decode cJx4a65c_add_72be8 13 = .ok (.aload_n 1, 1) := by decide +kernel
theorem dJx4a65c_add_72be8_14 : decode cJx4a65c_add_72be8 14 = .ok (.aastore, 1) := by decide +kernel
theorem dJx4a65c_add_72be8_15 : decode cJx4a65c_add_72be8 15 = .ok (.aload_n 0, 1) := by decide +kernel
theorem dJx4a65c_add_72be8_16 : decode cJx4a65c_add_72be8 16 = .ok (.iload_n 3, 1) := by decide +kernel
theorem dJx4a65c_add_72be8_17 : decode cJx4a65c_add_72be8 17 = .ok (.iconst 1, 1) := by decide +kernel
theorem dJx4a65c_add_72be8_18 : decode cJx4a65c_add_72be8 18 = .ok (.iadd, 1) := by decide +kernel
theorem dJx4a65c_add_72be8_19 : decode cJx4a65c_add_72be8 19 = .ok (.putfield 48, 3) := by decide +kernel
theorem dJx4a65c_add_72be8_22 : decode cJx4a65c_add_72be8 22 = .ok (.return_, 1) := by decide +kernel
theorem dJx4a65c_add_9ea2d_0 : decode cJx4a65c_add_9ea2d 0 = .ok (.aload_n 0, 1) := by decide +kernel
theorem dJx4a65c_add_9ea2d_1 : decode cJx4a65c_add_9ea2d 1 = .ok (.dup, 1) := by decide +kernel
theorem dJx4a65c_add_9ea2d_2 : decode cJx4a65c_add_9ea2d 2 = .ok (.getfield 63, 3) := by decide +kernel
theorem dJx4a65c_add_9ea2d_5 : decode cJx4a65c_add_9ea2d 5 = .ok (.iconst 1, 1) := by decide +kernel
theorem dJx4a65c_add_9ea2d_6 : decode cJx4a65c_add_9ea2d 6 = .ok (.iadd, 1) := by decide +kernel
theorem dJx4a65c_add_9ea2d_7 : decode cJx4a65c_add_9ea2d 7 = .ok (.putfield 63, 3) := by decide +kernel
theorem dJx4a65c_add_9ea2d_10 : decode cJx4a65c_add_9ea2d 10 = .ok (.aload_n 0, 1) := by decide +kernel
theorem dJx4a65c_add_9ea2d_11 : decode cJx4a65c_add_9ea2d 11 = .ok (.aload_n 1, 1) := by decide +kernel
theorem dJx4a65c_add_9ea2d_12 : decode cJx4a65c_add_9ea2d 12 = .ok (.aload_n 0, 1) := by decide +kernel
theorem dJx4a65c_add_9ea2d_13 : decode cJx4a65c_add_9ea2d 13 = .ok (.getfield 9, 3) := by decide +kernel
theorem dJx4a65c_add_9ea2d_16 : decode cJx4a65c_add_9ea2d 16 = .ok (.aload_n 0, 1) := by decide +kernel
theorem dJx4a65c_add_9ea2d_17 : decode cJx4a65c_add_9ea2d 17 = .ok (.getfield 48, 3) := by decide +kernel
theorem dJx4a65c_add_9ea2d_20 : decode cJx4a65c_add_9ea2d 20 = .ok (.invokevirtual 131, 3) := by decide +kernel
theorem dJx4a65c_add_9ea2d_23 : decode cJx4a65c_add_9ea2d 23 = .ok (.iconst 1, 1) := by decide +kernel
theorem dJx4a65c_add_9ea2d_24 : decode cJx4a65c_add_9ea2d 24 = .ok (.ireturn, 1) := by decide +kernel
theorem dJ7_fill_53178_0 : decode cJ7_fill_53178 0 = .ok (.iconst 0, 1) := by decide +kernel
theorem dJ7_fill_53178_1 : decode cJ7_fill_53178 1 = .ok (.istore_n 2, 1) := by decide +kernel
theorem dJ7_fill_53178_2 : decode cJ7_fill_53178 2 = .ok (.aload_n 0, 1) := by decide +kernel
theorem dJ7_fill_53178_3 : decode cJ7_fill_53178 3 = .ok (.arraylength, 1) := by decide +kernel
theorem dJ7_fill_53178_4 : decode cJ7_fill_53178 4 = .ok (.istore_n 3, 1) := by decide +kernel
theorem dJ7_fill_53178_5 : decode cJ7_fill_53178 5 = .ok (.iload_n 2, 1) := by decide +kernel
theorem dJ7_fill_53178_6 : decode cJ7_fill_53178 6 = .ok (.iload_n 3, 1) := by decide +kernel
theorem dJ7_fill_53178_7 : decode cJ7_fill_53178 7 = .ok (.if_icmp .ge 13, 3) := by decide +kernel
theorem dJ7_fill_53178_10 : decode cJ7_fill_53178 10 = .ok (.aload_n 0, 1) := by decide +kernel
theorem dJ7_fill_53178_11 : decode cJ7_fill_53178 11 = .ok (.iload_n 2, 1) := by decide +kernel
theorem dJ7_fill_53178_12 : decode cJ7_fill_53178 12 = .ok (.iload_n 1, 1) := by decide +kernel
theorem dJ7_fill_53178_13 : decode cJ7_fill_53178 13 = .ok (.iastore, 1) := by decide +kernel
theorem dJ7_fill_53178_14 : decode cJ7_fill_53178 14 = .ok (.iinc 2 1, 3) := by decide +kernel
theorem dJ7_fill_53178_17 : decode cJ7_fill_53178 17 = .ok (.goto (-12), 3) := by decide +kernel
theorem dJ7_fill_53178_20 : decode cJ7_fill_53178 20 = .ok (.return_, 1) := by decide +kernel
theorem dJ7_copyOf_1904c_0 : decode cJ7_copyOf_1904c 0 = .ok (.aload_n 0, 1) := by decide +kernel
theorem dJ7_copyOf_1904c_1 : decode cJ7_copyOf_1904c 1 = .ok (.iload_n 1, 1) := by decide +kernel
theorem dJ7_copyOf_1904c_2 : decode cJ7_copyOf_1904c 2 = .ok (.aload_n 0, 1) := by decide +kernel
theorem dJ7_copyOf_1904c_3 : decode cJ7_copyOf_1904c 3 = .ok (.invokevirtual 86, 3) := by decide +kernel
theorem dJ7_copyOf_1904c_6 : decode cJ7_copyOf_1904c 6 = .ok (.invokestatic 300, 3) := by decide +kernel
theorem dJ7_copyOf_1904c_9 : decode cJ7_copyOf_1904c 9 = .ok (.areturn, 1) := by decide +kernel
theorem dJ7_copyOf_6403c_0 : decode cJ7_copyOf_6403c 0 = .ok (.aload_n 2, 1) := by decide +kernel
theorem dJ7_copyOf_6403c_1 : decode cJ7_copyOf_6403c 1 = .ok (.ldc 110, 2) := by decide +kernel
theorem dJ7_copyOf_6403c_3 : decode cJ7_copyOf_6403c 3 = .ok (.if_acmp .ne 10, 3) := by decide +kernel
theorem dJ7_copyOf_6403c_6 : decode cJ7_copyOf_6403c 6 = .ok (.iload_n 1, 1) := by decide +kernel
theorem dJ7_copyOf_6403c_7 : decode cJ7_copyOf_6403c 7 = .ok (.anewarray 2, 3) := by decide +kernel
theorem dJ7_copyOf_6403c_10 : decode cJ7_copyOf_6403c 10 = .ok (.goto 14, 3) := by decide +kernel
theorem dJ7_copyOf_6403c_13 : decode cJ7_copyOf_6403c 13 = .ok (.aload_n 2, 1) := by decide +kernel
theorem dJ7_copyOf_6403c_14 : decode cJ7_copyOf_6403c 14 = .ok (.invokevirtual 90, 3) := by decide +kernel
theorem dJ7_copyOf_6403c_17 : decode cJ7_copyOf_6403c 17 = .ok (.iload_n 1, 1) := by decide +kernel
theorem dJ7_copyOf_6403c_18 : decode cJ7_copyOf_6403c 18 = .ok (.invokestatic 95, 3) := by decide +kernel
theorem dJ7_copyOf_6403c_21 : decode cJ7_copyOf_6403c 21 = .ok (.checkcast 110, 3) := by decide +kernel
theorem dJ7_copyOf_6403c_24 : decode cJ7_copyOf_6403c 24 = .ok (.astore_n 3, 1) := by decide +kernel
theorem dJ7_copyOf_6403c_25 : decode cJ7_copyOf_6403c 25 = .ok (.aload_n 0, 1) := by decide +kernel
theorem dJ7_copyOf_6403c_26 : decode cJ7_copyOf_6403c 26 = .ok (.iconst 0, 1) := by decide +kernel
theorem dJ7_copyOf_6403c_27 : decode cJ7_copyOf_6403c 27 = .ok (.aload_n 3, 1) := by decide +kernel
theorem dJ7_copyOf_6403c_28 : decode cJ7_copyOf_6403c 28 = .ok (.iconst 0, 1) := by decide +kernel
theorem dJ7_copyOf_6403c_29 : decode cJ7_copyOf_6403c 29 = .ok (.aload_n 0, 1) := by decide +kernel
theorem dJ7_copyOf_6403c_30 : decode cJ7_copyOf_6403c 30 = .ok (.arraylength, 1) := by decide +kernel
theorem dJ7_copyOf_6403c_31 : decode cJ7_copyOf_6403c 31 = .ok (.iload_n 1, 1) := by decide +kernel
theorem dJ7_copyOf_6403c_32 : decode cJ7_copyOf_6403c 32 = .ok (.invokestatic 304, 3) := by decide +kernel
theorem dJ7_copyOf_6403c_35 : decode cJ7_copyOf_6403c 35 = .ok (.invokestatic 150, 3) := by decide +kernel
theorem dJ7_copyOf_6403c_38 : decode cJ7_copyOf_6403c 38 = .ok (.aload_n 3, 1) := by decide +kernel
theorem dJ7_copyOf_6403c_39 : decode cJ7_copyOf_6403c 39 = .ok (.areturn, 1) := by decide +kernel
theorem dJ7_copyOf_59c91_0 : decode cJ7_copyOf_59c91 0 = .ok (.iload_n 1, 1) := by decide +kernel
theorem dJ7_copyOf_59c91_1 : decode cJ7_copyOf_59c91 1 = .ok (.aload_n 0, 1) := by decide +kernel
theorem dJ7_copyOf_59c91_2 : decode cJ7_copyOf_59c91 2 = .ok (.arraylength, 1) := by decide +kernel
theorem dJ7_copyOf_59c91_3 : decode cJ7_copyOf_59c91 3 = .ok (.if_icmp .ne 11, 3) := by decide +kernel
theorem dJ7_copyOf_59c91_6 : decode cJ7_copyOf_59c91 6 = .ok (.aload_n 0, 1) := by decide +kernel
theorem dJ7_copyOf_59c91_7 : decode cJ7_copyOf_59c91 7 = .ok (.invokevirtual 316, 3) := by decide +kernel
theorem dJ7_copyOf_59c91_10 : decode cJ7_copyOf_59c91 10 = .ok (.checkcast 317, 3) := by decide +kernel
theorem dJ7_copyOf_59c91_13 : decode cJ7_copyOf_59c91 13 = .ok (.areturn, 1) := by decide +kernel
theorem dJ7_copyOf_59c91_14 : decode cJ7_copyOf_59c91 14 = .ok (.iload_n 1, 1) := by decide +kernel
theorem dJ7_copyOf_59c91_15 : decode cJ7_copyOf_59c91 15 = .ok (.newarray .int, 2) := by decide +kernel
theorem dJ7_copyOf_59c91_17 : decode cJ7_copyOf_59c91 17 = .ok (.astore_n 2, 1) := by decide +kernel
theorem dJ7_copyOf_59c91_18 : decode cJ7_copyOf_59c91 18 = .ok (.aload_n 0, 1) := by decide +kernel
theorem dJ7_copyOf_59c91_19 : decode cJ7_copyOf_59c91 19 = .ok (.iconst 0, 1) := by decide +kernel
theorem dJ7_copyOf_59c91_20 : decode cJ7_copyOf_59c91 20 = .ok (.aload_n 2, 1) := by decide +kernel
theorem dJ7_copyOf_59c91_21 : decode cJ7_copyOf_59c91 21 = .ok (.iconst 0, 1) := by decide +kernel
theorem dJ7_copyOf_59c91_22 : decode cJ7_copyOf_59c91 22 = .ok (.aload_n 0, 1) := by decide +kernel
theorem dJ7_copyOf_59c91_23 : decode cJ7_copyOf_59c91 23 = .ok (.arraylength, 1) := by decide +kernel
theorem dJ7_copyOf_59c91_24 : decode cJ7_copyOf_59c91 24 = .ok (.iload_n 1, 1) := by decide +kernel
theorem dJ7_copyOf_59c91_25 : decode cJ7_copyOf_59c91 25 = .ok (.invokestatic 304, 3) := by decide +kernel
theorem dJ7_copyOf_59c91_28 : decode cJ7_copyOf_59c91 28 = .ok (.invokestatic 150, 3) := by decide +kernel
theorem dJ7_copyOf_59c91_31 : decode cJ7_copyOf_59c91 31 = .ok (.aload_n 2, 1) := by decide +kernel
theorem dJ7_copyOf_59c91_32 : decode cJ7_copyOf_59c91 32 = .ok (.areturn, 1) := by decide +kernel
theorem dJ15_checkIndex_7cf53_0 : decode cJ15_checkIndex_7cf53 0 = .ok (.iload_n 0, 1) := by decide +kernel
theorem dJ15_checkIndex_7cf53_1 : decode cJ15_checkIndex_7cf53 1 = .ok (.iload_n 1, 1) := by decide +kernel
theorem dJ15_checkIndex_7cf53_2 : decode cJ15_checkIndex_7cf53 2 = .ok (.aconst_null, 1) := by decide +kernel
theorem dJ15_checkIndex_7cf53_3 : decode cJ15_checkIndex_7cf53 3 = .ok (.invokestatic 105, 3) := by decide +kernel
theorem dJ15_checkIndex_7cf53_6 : decode cJ15_checkIndex_7cf53 6 = .ok (.ireturn, 1) := by decide +kernel
theorem dJ8_newLength_cabcc_0 : decode cJ8_newLength_cabcc 0 = .ok (.iload_n 0, 1) := by decide +kernel
theorem dJ8_newLength_cabcc_1 : decode cJ8_newLength_cabcc 1 = .ok (.iload_n 1, 1) := by decide +kernel
theorem dJ8_newLength_cabcc_2 : decode cJ8_newLength_cabcc 2 = .ok (.iload_n 2, 1) := by decide +kernel
theorem dJ8_newLength_cabcc_3 : decode cJ8_newLength_cabcc 3 = .ok (.invokestatic 194, 3) := by decide +kernel
theorem dJ8_newLength_cabcc_6 : decode cJ8_newLength_cabcc 6 = .ok (.iadd, 1) := by decide +kernel
theorem dJ8_newLength_cabcc_7 : decode cJ8_newLength_cabcc 7 = .ok (.istore_n 3, 1) := by decide +kernel
theorem dJ8_newLength_cabcc_8 : decode cJ8_newLength_cabcc 8 = .ok (.iconst 0, 1) := by decide +kernel
theorem dJ8_newLength_cabcc_9 : decode cJ8_newLength_cabcc 9 = .ok (.iload_n 3, 1) := by decide +kernel
theorem dJ8_newLength_cabcc_10 : decode cJ8_newLength_cabcc 10 = .ok (.if_icmp .ge 11, 3) := by decide +kernel
theorem dJ8_newLength_cabcc_13 : decode cJ8_newLength_cabcc 13 = .ok (.iload_n 3, 1) := by decide +kernel
theorem dJ8_newLength_cabcc_14 : decode cJ8_newLength_cabcc 14 = .ok (.ldc 200, 2) := by decide +kernel
theorem dJ8_newLength_cabcc_16 : decode cJ8_newLength_cabcc 16 = .ok (.if_icmp .gt 5, 3) := by decide +kernel
theorem dJ8_newLength_cabcc_19 : decode cJ8_newLength_cabcc 19 = .ok (.iload_n 3, 1) := by decide +kernel
theorem dJ8_newLength_cabcc_20 : decode cJ8_newLength_cabcc 20 = .ok (.ireturn, 1) := by decide +kernel
theorem dJ8_newLength_cabcc_21 : decode cJ8_newLength_cabcc 21 = .ok (.iload_n 0, 1) := by decide +kernel
theorem dJ8_newLength_cabcc_22 : decode cJ8_newLength_cabcc 22 = .ok (.iload_n 1, 1) := by decide +kernel
theorem dJ8_newLength_cabcc_23 : decode cJ8_newLength_cabcc 23 = .ok (.invokestatic 201, 3) := by decide +kernel
theorem dJ8_newLength_cabcc_26 : decode cJ8_newLength_cabcc 26 = .ok (.ireturn, 1) := by decide +kernel
theorem dJ8_hugeLength_7cf53_0 : decode cJ8_hugeLength_7cf53 0 = .ok (.iload_n 0, 1) := by decide +kernel
theorem dJ8_hugeLength_7cf53_1 : decode cJ8_hugeLength_7cf53 1 = .ok (.iload_n 1, 1) := by decide +kernel
theorem dJ8_hugeLength_7cf53_2 : decode cJ8_hugeLength_7cf53 2 = .ok (.iadd, 1) := by decide +kernel
theorem dJ8_hugeLength_7cf53_3 : decode cJ8_hugeLength_7cf53 3 = .ok (.istore_n 2, 1) := by decide +kernel
theorem dJ8_hugeLength_7cf53_4 : decode cJ8_hugeLength_7cf53 4 = .ok (.iload_n 2, 1) := by decide +kernel
theorem dJ8_hugeLength_7cf53_5 : decode cJ8_hugeLength_7cf53 5 = .ok (.ifCond .ge 44, 3) := by decide +kernel
theorem dJ8_hugeLength_7cf53_8 : decode cJ8_hugeLength_7cf53 8 = .ok (.new 204, 3) := by decide +kernel
theorem dJ8_hugeLength_7cf53_11 : decode cJ8_hugeLength_7cf53 11 = .ok (.dup, 1) := by decide +kernel
theorem dJ8_hugeLength_7cf53_12 : decode cJ8_hugeLength_7cf53 12 = .ok (.new 89, 3) := by decide +kernel
theorem dJ8_hugeLength_7cf53_15 : decode cJ8_hugeLength_7cf53 15 = .ok (.dup, 1) := by decide +kernel
theorem dJ8_hugeLength_7cf53_16 : decode cJ8_hugeLength_7cf53 16 = .ok (.invokespecial 91, 3) := by decide +kernel
theorem dJ8_hugeLength_7cf53_19 : decode cJ8_hugeLength_7cf53 19 = .ok (.ldc 206, 2) := by decide +kernel
theorem dJ8_hugeLength_7cf53_21 : decode cJ8_hugeLength_7cf53 21 = .ok (.invokevirtual 94, 3) := by decide +kernel
theorem dJ8_hugeLength_7cf53_24 : decode cJ8_hugeLength_7cf53 24 = .ok (.iload_n 0, 1) := by decide +kernel
theorem dJ8_hugeLength_7cf53_25 : decode cJ8_hugeLength_7cf53 25 = .ok (.invokevirtual 98, 3) := by decide +kernel
theorem dJ8_hugeLength_7cf53_28 : decode cJ8_hugeLength_7cf53 28 = .ok (.ldc 208, 2) := by decide +kernel
theorem dJ8_hugeLength_7cf53_30 : decode cJ8_hugeLength_7cf53 30 = .ok (.invokevirtual 94, 3) := by decide +kernel
theorem dJ8_hugeLength_7cf53_33 : decode cJ8_hugeLength_7cf53 33 = .ok (.iload_n 1, 1) := by decide +kernel
theorem dJ8_hugeLength_7cf53_34 : decode cJ8_hugeLength_7cf53 34 = .ok (.invokevirtual 98, 3) := by decide +kernel
theorem dJ8_hugeLength_7cf53_37 : decode cJ8_hugeLength_7cf53 37 = .ok (.ldc 210, 2) := by decide +kernel
theorem dJ8_hugeLength_7cf53_39 : decode cJ8_hugeLength_7cf53 39 = .ok (.invokevirtual 94, 3) := by decide +kernel
theorem dJ8_hugeLength_7cf53_42 : decode cJ8_hugeLength_7cf53 42 = .ok (.invokevirtual 101, 3) := by decide +kernel
theorem dJ8_hugeLength_7cf53_45 : decode cJ8_hugeLength_7cf53 45 = .ok (.invokespecial 212, 3) := by decide +kernel
theorem dJ8_hugeLength_7cf53_48 : decode cJ8_hugeLength_7cf53 48 = .ok (.athrow, 1) := by decide +kernel
theorem dJ8_hugeLength_7cf53_49 : decode cJ8_hugeLength_7cf53 49 = .ok (.iload_n 2, 1) := by decide +kernel
theorem dJ8_hugeLength_7cf53_50 : decode cJ8_hugeLength_7cf53 50 = .ok (.ldc 200, 2) := by decide +kernel
theorem dJ8_hugeLength_7cf53_52 : decode cJ8_hugeLength_7cf53 52 = .ok (.if_icmp .gt 6, 3) := by decide +kernel
theorem dJ8_hugeLength_7cf53_55 : decode cJ8_hugeLength_7cf53 55 = .ok (.ldc 200, 2) := by decide +kernel
theorem dJ8_hugeLength_7cf53_57 : decode cJ8_hugeLength_7cf53 57 = .ok (.ireturn, 1) := by decide +kernel
theorem dJ8_hugeLength_7cf53_58 : decode cJ8_hugeLength_7cf53 58 = .ok (.iload_n 2, 1) := by decide +kernel
theorem dJ8_hugeLength_7cf53_59 : decode cJ8_hugeLength_7cf53 59 = .ok (.ireturn, 1) := by decide +kernel
theorem dJ3_checkIndex_8e157_0 : decode cJ3_checkIndex_8e157 0 = .ok (.iload_n 0, 1) := by decide +kernel
theorem dJ3_checkIndex_8e157_1 : decode cJ3_checkIndex_8e157 1 = .ok (.ifCond .lt 8, 3) := by decide +kernel
theorem dJ3_checkIndex_8e157_4 : decode cJ3_checkIndex_8e157 4 = .ok (.iload_n 0, 1) := by decide +kernel
theorem dJ3_checkIndex_8e157_5 : decode cJ3_checkIndex_8e157 5 = .ok (.iload_n 1, 1) := by decide +kernel
theorem dJ3_checkIndex_8e157_6 : decode cJ3_checkIndex_8e157 6 = .ok (.if_icmp .lt 10, 3) := by decide +kernel
theorem dJ3_checkIndex_8e157_9 : decode cJ3_checkIndex_8e157 9 = .ok (.aload_n 2, 1) := by decide +kernel
theorem dJ3_checkIndex_8e157_10 : decode cJ3_checkIndex_8e157 10 = .ok (.iload_n 0, 1) := by decide +kernel
theorem dJ3_checkIndex_8e157_11 : decode cJ3_checkIndex_8e157 11 = .ok (.iload_n 1, 1) := by decide +kernel
theorem dJ3_checkIndex_8e157_12 : decode cJ3_checkIndex_8e157 12 = .ok (.invokestatic 95, 3) := by decide +kernel
theorem dJ3_checkIndex_8e157_15 : decode cJ3_checkIndex_8e157 15 = .ok (.athrow, 1) := by decide +kernel
theorem dJ3_checkIndex_8e157_16 : decode cJ3_checkIndex_8e157 16 = .ok (.iload_n 0, 1) := by decide +kernel
theorem dJ3_checkIndex_8e157_17 : decode cJ3_checkIndex_8e157 17 = .ok (.ireturn, 1) := by decide +kernel
theorem dL_open_0 : decode cL_open 0 = .ok (.aload 4, 2) := by decide +kernel
theorem dL_open_2 : decode cL_open 2 = .ok (.iconst 0, 1) := by decide +kernel
theorem dL_open_3 : decode cL_open 3 = .ok (.aload_n 0, 1) := by decide +kernel
theorem dL_open_4 : decode cL_open 4 = .ok (.iload_n 1, 1) := by decide +kernel
theorem dL_open_5 : decode cL_open 5 = .ok (.iload_n 2, 1) := by decide +kernel
theorem dL_open_6 : decode cL_open 6 = .ok (.iload_n 3, 1) := by decide +kernel
theorem dL_open_7 : decode cL_open 7 = .ok (.invokevirtual 7, 3) := by decide +kernel
theorem dL_open_10 : decode cL_open 10 = .ok (.i2l, 1) := by decide +kernel
theorem dL_open_11 : decode cL_open 11 = .ok (.lastore, 1) := by decide +kernel
theorem dL_open_12 : decode cL_open 12 = .ok (.goto 15, 3) := by decide +kernel
theorem dL_open_15 : decode cL_open 15 = .ok (.astore 5, 2) := by decide +kernel
theorem dL_open_17 : decode cL_open 17 = .ok (.iconst 1, 1) := by decide +kernel
theorem dL_open_18 : decode cL_open 18 = .ok (.ireturn, 1) := by decide +kernel
theorem dL_open_19 : decode cL_open 19 = .ok (.astore 5, 2) := by decide +kernel
theorem dL_open_21 : decode cL_open 21 = .ok (.iconst 2, 1) := by decide +kernel
theorem dL_open_22 : decode cL_open 22 = .ok (.ireturn, 1) := by decide +kernel
theorem dL_open_23 : decode cL_open 23 = .ok (.astore 5, 2) := by decide +kernel
theorem dL_open_25 : decode cL_open 25 = .ok (.iconst 3, 1) := by decide +kernel
theorem dL_open_26 : decode cL_open 26 = .ok (.ireturn, 1) := by decide +kernel
theorem dL_open_27 : decode cL_open 27 = .ok (.iconst 0, 1) := by decide +kernel
theorem dL_open_28 : decode cL_open 28 = .ok (.ireturn, 1) := by decide +kernel
theorem dL_close_0 : decode cL_close 0 = .ok (.aload_n 2, 1) := by decide +kernel
theorem dL_close_1 : decode cL_close 1 = .ok (.iconst 0, 1) := by decide +kernel
theorem dL_close_2 : decode cL_close 2 = .ok (.aload_n 0, 1) := by decide +kernel
theorem dL_close_3 : decode cL_close 3 = .ok (.iload_n 1, 1) := by decide +kernel
theorem dL_close_4 : decode cL_close 4 = .ok (.invokevirtual 19, 3) := by decide +kernel
theorem dL_close_7 : decode cL_close 7 = .ok (.i2l, 1) := by decide +kernel
theorem dL_close_8 : decode cL_close 8 = .ok (.lastore, 1) := by decide +kernel
theorem dL_close_9 : decode cL_close 9 = .ok (.goto 9, 3) := by decide +kernel
theorem dL_close_12 : decode cL_close 12 = .ok (.astore_n 3, 1) := by decide +kernel
theorem dL_close_13 : decode cL_close 13 = .ok (.iconst 1, 1) := by decide +kernel
theorem dL_close_14 : decode cL_close 14 = .ok (.ireturn, 1) := by decide +kernel
theorem dL_close_15 : decode cL_close 15 = .ok (.astore_n 3, 1) := by decide +kernel
theorem dL_close_16 : decode cL_close 16 = .ok (.iconst 2, 1) := by decide +kernel
theorem dL_close_17 : decode cL_close 17 = .ok (.ireturn, 1) := by decide +kernel
theorem dL_close_18 : decode cL_close 18 = .ok (.iconst 0, 1) := by decide +kernel
theorem dL_close_19 : decode cL_close 19 = .ok (.ireturn, 1) := by decide +kernel
theorem dL_ping_0 : decode cL_ping 0 = .ok (.aload_n 2, 1) := by decide +kernel
theorem dL_ping_1 : decode cL_ping 1 = .ok (.iconst 0, 1) := by decide +kernel
theorem dL_ping_2 : decode cL_ping 2 = .ok (.aload_n 0, 1) := by decide +kernel
theorem dL_ping_3 : decode cL_ping 3 = .ok (.iload_n 1, 1) := by decide +kernel
theorem dL_ping_4 : decode cL_ping 4 = .ok (.invokevirtual 23, 3) := by decide +kernel
theorem dL_ping_7 : decode cL_ping 7 = .ok (.i2l, 1) := by decide +kernel
theorem dL_ping_8 : decode cL_ping 8 = .ok (.lastore, 1) := by decide +kernel
theorem dL_ping_9 : decode cL_ping 9 = .ok (.goto 9, 3) := by decide +kernel
theorem dL_ping_12 : decode cL_ping 12 = .ok (.astore_n 3, 1) := by decide +kernel
theorem dL_ping_13 : decode cL_ping 13 = .ok (.iconst 1, 1) := by decide +kernel
theorem dL_ping_14 : decode cL_ping 14 = .ok (.ireturn, 1) := by decide +kernel
theorem dL_ping_15 : decode cL_ping 15 = .ok (.astore_n 3, 1) := by decide +kernel
theorem dL_ping_16 : decode cL_ping 16 = .ok (.iconst 2, 1) := by decide +kernel
theorem dL_ping_17 : decode cL_ping 17 = .ok (.ireturn, 1) := by decide +kernel
theorem dL_ping_18 : decode cL_ping 18 = .ok (.iconst 0, 1) := by decide +kernel
theorem dL_ping_19 : decode cL_ping 19 = .ok (.ireturn, 1) := by decide +kernel
theorem dL_move_0 : decode cL_move 0 = .ok (.aload_n 3, 1) := by decide +kernel
theorem dL_move_1 : decode cL_move 1 = .ok (.iconst 0, 1) := by decide +kernel
theorem dL_move_2 : decode cL_move 2 = .ok (.aload_n 0, 1) := by decide +kernel
theorem dL_move_3 : decode cL_move 3 = .ok (.iload_n 1, 1) := by decide +kernel
theorem dL_move_4 : decode cL_move 4 = .ok (.iload_n 2, 1) := by decide +kernel
theorem dL_move_5 : decode cL_move 5 = .ok (.invokevirtual 26, 3) := by decide +kernel
theorem dL_move_8 : decode cL_move 8 = .ok (.ifCond .eq 7, 3) := by decide +kernel
theorem dL_move_11 : decode cL_move 11 = .ok (.lconst 1, 1) := by decide +kernel
theorem dL_move_12 : decode cL_move 12 = .ok (.goto 4, 3) := by decide +kernel
theorem dL_move_15 : decode cL_move 15 = .ok (.lconst 0, 1) := by decide +kernel
theorem dL_move_16 : decode cL_move 16 = .ok (.lastore, 1) := by decide +kernel
theorem dL_move_17 : decode cL_move 17 = .ok (.goto 11, 3) := by decide +kernel
theorem dL_move_20 : decode cL_move 20 = .ok (.astore 4, 2) := by decide +kernel
theorem dL_move_22 : decode cL_move 22 = .ok (.iconst 1, 1) := by decide +kernel
theorem dL_move_23 : decode cL_move 23 = .ok (.ireturn, 1) := by decide +kernel
theorem dL_move_24 : decode cL_move 24 = .ok (.astore 4, 2) := by decide +kernel
theorem dL_move_26 : decode cL_move 26 = .ok (.iconst 2, 1) := by decide +kernel
theorem dL_move_27 : decode cL_move 27 = .ok (.ireturn, 1) := by decide +kernel
theorem dL_move_28 : decode cL_move 28 = .ok (.iconst 0, 1) := by decide +kernel
theorem dL_move_29 : decode cL_move 29 = .ok (.ireturn, 1) := by decide +kernel
theorem dL_sync_0 : decode cL_sync 0 = .ok (.aload_n 2, 1) := by decide +kernel
theorem dL_sync_1 : decode cL_sync 1 = .ok (.iconst 0, 1) := by decide +kernel
theorem dL_sync_2 : decode cL_sync 2 = .ok (.aload_n 0, 1) := by decide +kernel
theorem dL_sync_3 : decode cL_sync 3 = .ok (.iload_n 1, 1) := by decide +kernel
theorem dL_sync_4 : decode cL_sync 4 = .ok (.invokevirtual 30, 3) := by decide +kernel
theorem dL_sync_7 : decode cL_sync 7 = .ok (.i2l, 1) := by decide +kernel
theorem dL_sync_8 : decode cL_sync 8 = .ok (.lastore, 1) := by decide +kernel
theorem dL_sync_9 : decode cL_sync 9 = .ok (.goto 9, 3) := by decide +kernel
theorem dL_sync_12 : decode cL_sync 12 = .ok (.astore_n 3, 1) := by decide +kernel
theorem dL_sync_13 : decode cL_sync 13 = .ok (.iconst 1, 1) := by decide +kernel
theorem dL_sync_14 : decode cL_sync 14 = .ok (.ireturn, 1) := by decide +kernel
theorem dL_sync_15 : decode cL_sync 15 = .ok (.astore_n 3, 1) := by decide +kernel
theorem dL_sync_16 : decode cL_sync 16 = .ok (.iconst 2, 1) := by decide +kernel
theorem dL_sync_17 : decode cL_sync 17 = .ok (.ireturn, 1) := by decide +kernel
theorem dL_sync_18 : decode cL_sync 18 = .ok (.iconst 0, 1) := by decide +kernel
theorem dL_sync_19 : decode cL_sync 19 = .ok (.ireturn, 1) := by decide +kernel
theorem dL_follow_0 : decode cL_follow 0 = .ok (.aload_n 3, 1) := by decide +kernel
theorem dL_follow_1 : decode cL_follow 1 = .ok (.iconst 0, 1) := by decide +kernel
theorem dL_follow_2 : decode cL_follow 2 = .ok (.aload_n 0, 1) := by decide +kernel
theorem dL_follow_3 : decode cL_follow 3 = .ok (.iload_n 1, 1) := by decide +kernel
theorem dL_follow_4 : decode cL_follow 4 = .ok (.iload_n 2, 1) := by decide +kernel
theorem dL_follow_5 : decode cL_follow 5 = .ok (.invokevirtual 33, 3) := by decide +kernel
theorem dL_follow_8 : decode cL_follow 8 = .ok (.i2l, 1) := by decide +kernel
theorem dL_follow_9 : decode cL_follow 9 = .ok (.lastore, 1) := by decide +kernel
theorem dL_follow_10 : decode cL_follow 10 = .ok (.goto 11, 3) := by decide +kernel
theorem dL_follow_13 : decode cL_follow 13 = .ok (.astore 4, 2) := by decide +kernel
theorem dL_follow_15 : decode cL_follow 15 = .ok (.iconst 1, 1) := by decide +kernel
theorem dL_follow_16 : decode cL_follow 16 = .ok (.ireturn, 1) := by decide +kernel
theorem dL_follow_17 : decode cL_follow 17 = .ok (.astore 4, 2) := by decide +kernel
theorem dL_follow_19 : decode cL_follow 19 = .ok (.iconst 2, 1) := by decide +kernel
theorem dL_follow_20 : decode cL_follow 20 = .ok (.ireturn, 1) := by decide +kernel
theorem dL_follow_21 : decode cL_follow 21 = .ok (.iconst 0, 1) := by decide +kernel
theorem dL_follow_22 : decode cL_follow 22 = .ok (.ireturn, 1) := by decide +kernel
theorem dL_pass_0 : decode cL_pass 0 = .ok (.aload_n 2, 1) := by decide +kernel
theorem dL_pass_1 : decode cL_pass 1 = .ok (.iconst 0, 1) := by decide +kernel
theorem dL_pass_2 : decode cL_pass 2 = .ok (.aload_n 0, 1) := by decide +kernel
theorem dL_pass_3 : decode cL_pass 3 = .ok (.iload_n 1, 1) := by decide +kernel
theorem dL_pass_4 : decode cL_pass 4 = .ok (.invokevirtual 37, 3) := by decide +kernel
theorem dL_pass_7 : decode cL_pass 7 = .ok (.i2l, 1) := by decide +kernel
theorem dL_pass_8 : decode cL_pass 8 = .ok (.lastore, 1) := by decide +kernel
theorem dL_pass_9 : decode cL_pass 9 = .ok (.goto 6, 3) := by decide +kernel
theorem dL_pass_12 : decode cL_pass 12 = .ok (.astore_n 3, 1) := by decide +kernel
theorem dL_pass_13 : decode cL_pass 13 = .ok (.iconst 1, 1) := by decide +kernel
theorem dL_pass_14 : decode cL_pass 14 = .ok (.ireturn, 1) := by decide +kernel
theorem dL_pass_15 : decode cL_pass 15 = .ok (.iconst 0, 1) := by decide +kernel
theorem dL_pass_16 : decode cL_pass 16 = .ok (.ireturn, 1) := by decide +kernel
theorem dL_lease_0 : decode cL_lease 0 = .ok (.aload_n 2, 1) := by decide +kernel
theorem dL_lease_1 : decode cL_lease 1 = .ok (.iconst 0, 1) := by decide +kernel
theorem dL_lease_2 : decode cL_lease 2 = .ok (.aload_n 0, 1) := by decide +kernel
theorem dL_lease_3 : decode cL_lease 3 = .ok (.iload_n 1, 1) := by decide +kernel
theorem dL_lease_4 : decode cL_lease 4 = .ok (.invokevirtual 40, 3) := by decide +kernel
theorem dL_lease_7 : decode cL_lease 7 = .ok (.i2l, 1) := by decide +kernel
theorem dL_lease_8 : decode cL_lease 8 = .ok (.lastore, 1) := by decide +kernel
theorem dL_lease_9 : decode cL_lease 9 = .ok (.goto 9, 3) := by decide +kernel
theorem dL_lease_12 : decode cL_lease 12 = .ok (.astore_n 3, 1) := by decide +kernel
theorem dL_lease_13 : decode cL_lease 13 = .ok (.iconst 1, 1) := by decide +kernel
theorem dL_lease_14 : decode cL_lease 14 = .ok (.ireturn, 1) := by decide +kernel
theorem dL_lease_15 : decode cL_lease 15 = .ok (.astore_n 3, 1) := by decide +kernel
theorem dL_lease_16 : decode cL_lease 16 = .ok (.iconst 2, 1) := by decide +kernel
theorem dL_lease_17 : decode cL_lease 17 = .ok (.ireturn, 1) := by decide +kernel
theorem dL_lease_18 : decode cL_lease 18 = .ok (.iconst 0, 1) := by decide +kernel
theorem dL_lease_19 : decode cL_lease 19 = .ok (.ireturn, 1) := by decide +kernel
theorem dL_renew_0 : decode cL_renew 0 = .ok (.aload_n 2, 1) := by decide +kernel
theorem dL_renew_1 : decode cL_renew 1 = .ok (.iconst 0, 1) := by decide +kernel
theorem dL_renew_2 : decode cL_renew 2 = .ok (.aload_n 0, 1) := by decide +kernel
theorem dL_renew_3 : decode cL_renew 3 = .ok (.iload_n 1, 1) := by decide +kernel
theorem dL_renew_4 : decode cL_renew 4 = .ok (.invokevirtual 43, 3) := by decide +kernel
theorem dL_renew_7 : decode cL_renew 7 = .ok (.i2l, 1) := by decide +kernel
theorem dL_renew_8 : decode cL_renew 8 = .ok (.lastore, 1) := by decide +kernel
theorem dL_renew_9 : decode cL_renew 9 = .ok (.goto 9, 3) := by decide +kernel
theorem dL_renew_12 : decode cL_renew 12 = .ok (.astore_n 3, 1) := by decide +kernel
theorem dL_renew_13 : decode cL_renew 13 = .ok (.iconst 1, 1) := by decide +kernel
theorem dL_renew_14 : decode cL_renew 14 = .ok (.ireturn, 1) := by decide +kernel
theorem dL_renew_15 : decode cL_renew 15 = .ok (.astore_n 3, 1) := by decide +kernel
theorem dL_renew_16 : decode cL_renew 16 = .ok (.iconst 2, 1) := by decide +kernel
theorem dL_renew_17 : decode cL_renew 17 = .ok (.ireturn, 1) := by decide +kernel
theorem dL_renew_18 : decode cL_renew 18 = .ok (.iconst 0, 1) := by decide +kernel
theorem dL_renew_19 : decode cL_renew 19 = .ok (.ireturn, 1) := by decide +kernel
theorem dL_make_0 : decode cL_make 0 = .ok (.aload 8, 2) := by decide +kernel
theorem dL_make_2 : decode cL_make 2 = .ok (.iconst 0, 1) := by decide +kernel
theorem dL_make_3 : decode cL_make 3 = .ok (.aload_n 0, 1) := by decide +kernel
theorem dL_make_4 : decode cL_make 4 = .ok (.iload_n 1, 1) := by decide +kernel
theorem dL_make_5 : decode cL_make 5 = .ok (.iload_n 2, 1) := by decide +kernel
theorem dL_make_6 : decode cL_make 6 = .ok (.iload_n 3, 1) := by decide +kernel
theorem dL_make_7 : decode cL_make 7 = .ok (.iload 4, 2) := by decide +kernel
theorem dL_make_9 : decode cL_make 9 = .ok (.iload 5, 2) := by decide +kernel
theorem dL_make_11 : decode cL_make 11 = .ok (.iload 6, 2) := by decide +kernel
theorem dL_make_13 : decode cL_make 13 = .ok (.iload 7, 2) := by decide +kernel
theorem dL_make_15 : decode cL_make 15 = .ok (.invokevirtual 46, 3) := by decide +kernel
theorem dL_make_18 : decode cL_make 18 = .ok (.i2l, 1) := by decide +kernel
theorem dL_make_19 : decode cL_make 19 = .ok (.lastore, 1) := by decide +kernel
theorem dL_make_20 : decode cL_make 20 = .ok (.goto 15, 3) := by decide +kernel
theorem dL_make_23 : decode cL_make 23 = .ok (.astore 9, 2) := by decide +kernel
theorem dL_make_25 : decode cL_make 25 = .ok (.iconst 1, 1) := by decide +kernel
theorem dL_make_26 : decode cL_make 26 = .ok (.ireturn, 1) := by decide +kernel
theorem dL_make_27 : decode cL_make 27 = .ok (.astore 9, 2) := by decide +kernel
theorem dL_make_29 : decode cL_make 29 = .ok (.iconst 2, 1) := by decide +kernel
theorem dL_make_30 : decode cL_make 30 = .ok (.ireturn, 1) := by decide +kernel
theorem dL_make_31 : decode cL_make 31 = .ok (.astore 9, 2) := by decide +kernel
theorem dL_make_33 : decode cL_make 33 = .ok (.iconst 3, 1) := by decide +kernel
theorem dL_make_34 : decode cL_make 34 = .ok (.ireturn, 1) := by decide +kernel
theorem dL_make_35 : decode cL_make 35 = .ok (.iconst 0, 1) := by decide +kernel
theorem dL_make_36 : decode cL_make 36 = .ok (.ireturn, 1) := by decide +kernel
theorem dL_set_0 : decode cL_set 0 = .ok (.aload 5, 2) := by decide +kernel
theorem dL_set_2 : decode cL_set 2 = .ok (.iconst 0, 1) := by decide +kernel
theorem dL_set_3 : decode cL_set 3 = .ok (.aload_n 0, 1) := by decide +kernel
theorem dL_set_4 : decode cL_set 4 = .ok (.iload_n 1, 1) := by decide +kernel
theorem dL_set_5 : decode cL_set 5 = .ok (.iload_n 2, 1) := by decide +kernel
theorem dL_set_6 : decode cL_set 6 = .ok (.iload_n 3, 1) := by decide +kernel
theorem dL_set_7 : decode cL_set 7 = .ok (.iload 4, 2) := by decide +kernel
theorem dL_set_9 : decode cL_set 9 = .ok (.invokevirtual 50, 3) := by decide +kernel
theorem dL_set_12 : decode cL_set 12 = .ok (.i2l, 1) := by decide +kernel
theorem dL_set_13 : decode cL_set 13 = .ok (.lastore, 1) := by decide +kernel
theorem dL_set_14 : decode cL_set 14 = .ok (.goto 15, 3) := by decide +kernel
theorem dL_set_17 : decode cL_set 17 = .ok (.astore 6, 2) := by decide +kernel
theorem dL_set_19 : decode cL_set 19 = .ok (.iconst 1, 1) := by decide +kernel
theorem dL_set_20 : decode cL_set 20 = .ok (.ireturn, 1) := by decide +kernel
theorem dL_set_21 : decode cL_set 21 = .ok (.astore 6, 2) := by decide +kernel
theorem dL_set_23 : decode cL_set 23 = .ok (.iconst 2, 1) := by decide +kernel
theorem dL_set_24 : decode cL_set 24 = .ok (.ireturn, 1) := by decide +kernel
theorem dL_set_25 : decode cL_set 25 = .ok (.astore 6, 2) := by decide +kernel
theorem dL_set_27 : decode cL_set 27 = .ok (.iconst 3, 1) := by decide +kernel
theorem dL_set_28 : decode cL_set 28 = .ok (.ireturn, 1) := by decide +kernel
theorem dL_set_29 : decode cL_set 29 = .ok (.iconst 0, 1) := by decide +kernel
theorem dL_set_30 : decode cL_set 30 = .ok (.ireturn, 1) := by decide +kernel
theorem dL_delete_0 : decode cL_delete 0 = .ok (.aload 4, 2) := by decide +kernel
theorem dL_delete_2 : decode cL_delete 2 = .ok (.iconst 0, 1) := by decide +kernel
theorem dL_delete_3 : decode cL_delete 3 = .ok (.aload_n 0, 1) := by decide +kernel
theorem dL_delete_4 : decode cL_delete 4 = .ok (.iload_n 1, 1) := by decide +kernel
theorem dL_delete_5 : decode cL_delete 5 = .ok (.iload_n 2, 1) := by decide +kernel
theorem dL_delete_6 : decode cL_delete 6 = .ok (.iload_n 3, 1) := by decide +kernel
theorem dL_delete_7 : decode cL_delete 7 = .ok (.invokevirtual 54, 3) := by decide +kernel
theorem dL_delete_10 : decode cL_delete 10 = .ok (.i2l, 1) := by decide +kernel
theorem dL_delete_11 : decode cL_delete 11 = .ok (.lastore, 1) := by decide +kernel
theorem dL_delete_12 : decode cL_delete 12 = .ok (.goto 11, 3) := by decide +kernel
theorem dL_delete_15 : decode cL_delete 15 = .ok (.astore 5, 2) := by decide +kernel
theorem dL_delete_17 : decode cL_delete 17 = .ok (.iconst 1, 1) := by decide +kernel
theorem dL_delete_18 : decode cL_delete 18 = .ok (.ireturn, 1) := by decide +kernel
theorem dL_delete_19 : decode cL_delete 19 = .ok (.astore 5, 2) := by decide +kernel
theorem dL_delete_21 : decode cL_delete 21 = .ok (.iconst 2, 1) := by decide +kernel
theorem dL_delete_22 : decode cL_delete 22 = .ok (.ireturn, 1) := by decide +kernel
theorem dL_delete_23 : decode cL_delete 23 = .ok (.iconst 0, 1) := by decide +kernel
theorem dL_delete_24 : decode cL_delete 24 = .ok (.ireturn, 1) := by decide +kernel
theorem dL_rights_0 : decode cL_rights 0 = .ok (.aload 6, 2) := by decide +kernel
theorem dL_rights_2 : decode cL_rights 2 = .ok (.iconst 0, 1) := by decide +kernel
theorem dL_rights_3 : decode cL_rights 3 = .ok (.aload_n 0, 1) := by decide +kernel
theorem dL_rights_4 : decode cL_rights 4 = .ok (.iload_n 1, 1) := by decide +kernel
theorem dL_rights_5 : decode cL_rights 5 = .ok (.iload_n 2, 1) := by decide +kernel
theorem dL_rights_6 : decode cL_rights 6 = .ok (.iload_n 3, 1) := by decide +kernel
theorem dL_rights_7 : decode cL_rights 7 = .ok (.iload 4, 2) := by decide +kernel
theorem dL_rights_9 : decode cL_rights 9 = .ok (.iload 5, 2) := by decide +kernel
theorem dL_rights_11 : decode cL_rights 11 = .ok (.invokevirtual 57, 3) := by decide +kernel
theorem dL_rights_14 : decode cL_rights 14 = .ok (.i2l, 1) := by decide +kernel
theorem dL_rights_15 : decode cL_rights 15 = .ok (.lastore, 1) := by decide +kernel
theorem dL_rights_16 : decode cL_rights 16 = .ok (.goto 15, 3) := by decide +kernel
theorem dL_rights_19 : decode cL_rights 19 = .ok (.astore 7, 2) := by decide +kernel
theorem dL_rights_21 : decode cL_rights 21 = .ok (.iconst 1, 1) := by decide +kernel
theorem dL_rights_22 : decode cL_rights 22 = .ok (.ireturn, 1) := by decide +kernel
theorem dL_rights_23 : decode cL_rights 23 = .ok (.astore 7, 2) := by decide +kernel
theorem dL_rights_25 : decode cL_rights 25 = .ok (.iconst 2, 1) := by decide +kernel
theorem dL_rights_26 : decode cL_rights 26 = .ok (.ireturn, 1) := by decide +kernel
theorem dL_rights_27 : decode cL_rights 27 = .ok (.astore 7, 2) := by decide +kernel
theorem dL_rights_29 : decode cL_rights 29 = .ok (.iconst 3, 1) := by decide +kernel
theorem dL_rights_30 : decode cL_rights 30 = .ok (.ireturn, 1) := by decide +kernel
theorem dL_rights_31 : decode cL_rights 31 = .ok (.iconst 0, 1) := by decide +kernel
theorem dL_rights_32 : decode cL_rights 32 = .ok (.ireturn, 1) := by decide +kernel
theorem dL_check_0 : decode cL_check 0 = .ok (.aload 4, 2) := by decide +kernel
theorem dL_check_2 : decode cL_check 2 = .ok (.iconst 0, 1) := by decide +kernel
theorem dL_check_3 : decode cL_check 3 = .ok (.aload_n 0, 1) := by decide +kernel
theorem dL_check_4 : decode cL_check 4 = .ok (.iload_n 1, 1) := by decide +kernel
theorem dL_check_5 : decode cL_check 5 = .ok (.iload_n 2, 1) := by decide +kernel
theorem dL_check_6 : decode cL_check 6 = .ok (.iload_n 3, 1) := by decide +kernel
theorem dL_check_7 : decode cL_check 7 = .ok (.invokevirtual 61, 3) := by decide +kernel
theorem dL_check_10 : decode cL_check 10 = .ok (.i2l, 1) := by decide +kernel
theorem dL_check_11 : decode cL_check 11 = .ok (.lastore, 1) := by decide +kernel
theorem dL_check_12 : decode cL_check 12 = .ok (.goto 11, 3) := by decide +kernel
theorem dL_check_15 : decode cL_check 15 = .ok (.astore 5, 2) := by decide +kernel
theorem dL_check_17 : decode cL_check 17 = .ok (.iconst 1, 1) := by decide +kernel
theorem dL_check_18 : decode cL_check 18 = .ok (.ireturn, 1) := by decide +kernel
theorem dL_check_19 : decode cL_check 19 = .ok (.astore 5, 2) := by decide +kernel
theorem dL_check_21 : decode cL_check 21 = .ok (.iconst 2, 1) := by decide +kernel
theorem dL_check_22 : decode cL_check 22 = .ok (.ireturn, 1) := by decide +kernel
theorem dL_check_23 : decode cL_check 23 = .ok (.iconst 0, 1) := by decide +kernel
theorem dL_check_24 : decode cL_check 24 = .ok (.ireturn, 1) := by decide +kernel
theorem dL_gather_0 : decode cL_gather 0 = .ok (.aload_n 0, 1) := by decide +kernel
theorem dL_gather_1 : decode cL_gather 1 = .ok (.iload_n 1, 1) := by decide +kernel
theorem dL_gather_2 : decode cL_gather 2 = .ok (.invokevirtual 64, 3) := by decide +kernel
theorem dL_gather_5 : decode cL_gather 5 = .ok (.goto 9, 3) := by decide +kernel
theorem dL_gather_8 : decode cL_gather 8 = .ok (.astore_n 2, 1) := by decide +kernel
theorem dL_gather_9 : decode cL_gather 9 = .ok (.iconst 1, 1) := by decide +kernel
theorem dL_gather_10 : decode cL_gather 10 = .ok (.ireturn, 1) := by decide +kernel
theorem dL_gather_11 : decode cL_gather 11 = .ok (.astore_n 2, 1) := by decide +kernel
theorem dL_gather_12 : decode cL_gather 12 = .ok (.iconst 2, 1) := by decide +kernel
theorem dL_gather_13 : decode cL_gather 13 = .ok (.ireturn, 1) := by decide +kernel
theorem dL_gather_14 : decode cL_gather 14 = .ok (.iconst 0, 1) := by decide +kernel
theorem dL_gather_15 : decode cL_gather 15 = .ok (.ireturn, 1) := by decide +kernel
theorem dL_done_0 : decode cL_done 0 = .ok (.aload_n 2, 1) := by decide +kernel
theorem dL_done_1 : decode cL_done 1 = .ok (.iconst 0, 1) := by decide +kernel
theorem dL_done_2 : decode cL_done 2 = .ok (.aload_n 0, 1) := by decide +kernel
theorem dL_done_3 : decode cL_done 3 = .ok (.iload_n 1, 1) := by decide +kernel
theorem dL_done_4 : decode cL_done 4 = .ok (.invokevirtual 68, 3) := by decide +kernel
theorem dL_done_7 : decode cL_done 7 = .ok (.i2l, 1) := by decide +kernel
theorem dL_done_8 : decode cL_done 8 = .ok (.lastore, 1) := by decide +kernel
theorem dL_done_9 : decode cL_done 9 = .ok (.goto 9, 3) := by decide +kernel
theorem dL_done_12 : decode cL_done 12 = .ok (.astore_n 3, 1) := by decide +kernel
theorem dL_done_13 : decode cL_done 13 = .ok (.iconst 1, 1) := by decide +kernel
theorem dL_done_14 : decode cL_done 14 = .ok (.ireturn, 1) := by decide +kernel
theorem dL_done_15 : decode cL_done 15 = .ok (.astore_n 3, 1) := by decide +kernel
theorem dL_done_16 : decode cL_done 16 = .ok (.iconst 2, 1) := by decide +kernel
theorem dL_done_17 : decode cL_done 17 = .ok (.ireturn, 1) := by decide +kernel
theorem dL_done_18 : decode cL_done 18 = .ok (.iconst 0, 1) := by decide +kernel
theorem dL_done_19 : decode cL_done 19 = .ok (.ireturn, 1) := by decide +kernel
theorem dL_answer_0 : decode cL_answer 0 = .ok (.aload_n 3, 1) := by decide +kernel
theorem dL_answer_1 : decode cL_answer 1 = .ok (.iconst 0, 1) := by decide +kernel
theorem dL_answer_2 : decode cL_answer 2 = .ok (.aload_n 0, 1) := by decide +kernel
theorem dL_answer_3 : decode cL_answer 3 = .ok (.iload_n 1, 1) := by decide +kernel
theorem dL_answer_4 : decode cL_answer 4 = .ok (.iload_n 2, 1) := by decide +kernel
theorem dL_answer_5 : decode cL_answer 5 = .ok (.invokevirtual 71, 3) := by decide +kernel
theorem dL_answer_8 : decode cL_answer 8 = .ok (.i2l, 1) := by decide +kernel
theorem dL_answer_9 : decode cL_answer 9 = .ok (.lastore, 1) := by decide +kernel
theorem dL_answer_10 : decode cL_answer 10 = .ok (.goto 7, 3) := by decide +kernel
theorem dL_answer_13 : decode cL_answer 13 = .ok (.astore 4, 2) := by decide +kernel
theorem dL_answer_15 : decode cL_answer 15 = .ok (.iconst 1, 1) := by decide +kernel
theorem dL_answer_16 : decode cL_answer 16 = .ok (.ireturn, 1) := by decide +kernel
theorem dL_answer_17 : decode cL_answer 17 = .ok (.iconst 0, 1) := by decide +kernel
theorem dL_answer_18 : decode cL_answer 18 = .ok (.ireturn, 1) := by decide +kernel
theorem dL_quota_0 : decode cL_quota 0 = .ok (.aload_n 3, 1) := by decide +kernel
theorem dL_quota_1 : decode cL_quota 1 = .ok (.iconst 0, 1) := by decide +kernel
theorem dL_quota_2 : decode cL_quota 2 = .ok (.aload_n 0, 1) := by decide +kernel
theorem dL_quota_3 : decode cL_quota 3 = .ok (.iload_n 1, 1) := by decide +kernel
theorem dL_quota_4 : decode cL_quota 4 = .ok (.iload_n 2, 1) := by decide +kernel
theorem dL_quota_5 : decode cL_quota 5 = .ok (.invokevirtual 74, 3) := by decide +kernel
theorem dL_quota_8 : decode cL_quota 8 = .ok (.i2l, 1) := by decide +kernel
theorem dL_quota_9 : decode cL_quota 9 = .ok (.lastore, 1) := by decide +kernel
theorem dL_quota_10 : decode cL_quota 10 = .ok (.goto 7, 3) := by decide +kernel
theorem dL_quota_13 : decode cL_quota 13 = .ok (.astore 4, 2) := by decide +kernel
theorem dL_quota_15 : decode cL_quota 15 = .ok (.iconst 1, 1) := by decide +kernel
theorem dL_quota_16 : decode cL_quota 16 = .ok (.ireturn, 1) := by decide +kernel
theorem dL_quota_17 : decode cL_quota 17 = .ok (.iconst 0, 1) := by decide +kernel
theorem dL_quota_18 : decode cL_quota 18 = .ok (.ireturn, 1) := by decide +kernel
theorem dL_read_0 : decode cL_read 0 = .ok (.aload 4, 2) := by decide +kernel
theorem dL_read_2 : decode cL_read 2 = .ok (.iconst 0, 1) := by decide +kernel
theorem dL_read_3 : decode cL_read 3 = .ok (.aload_n 0, 1) := by decide +kernel
theorem dL_read_4 : decode cL_read 4 = .ok (.iload_n 1, 1) := by decide +kernel
theorem dL_read_5 : decode cL_read 5 = .ok (.iload_n 2, 1) := by decide +kernel
theorem dL_read_6 : decode cL_read 6 = .ok (.iload_n 3, 1) := by decide +kernel
theorem dL_read_7 : decode cL_read 7 = .ok (.invokevirtual 77, 3) := by decide +kernel
theorem dL_read_10 : decode cL_read 10 = .ok (.i2l, 1) := by decide +kernel
theorem dL_read_11 : decode cL_read 11 = .ok (.lastore, 1) := by decide +kernel
theorem dL_read_12 : decode cL_read 12 = .ok (.goto 15, 3) := by decide +kernel
theorem dL_read_15 : decode cL_read 15 = .ok (.astore 5, 2) := by decide +kernel
theorem dL_read_17 : decode cL_read 17 = .ok (.iconst 1, 1) := by decide +kernel
theorem dL_read_18 : decode cL_read 18 = .ok (.ireturn, 1) := by decide +kernel
theorem dL_read_19 : decode cL_read 19 = .ok (.astore 5, 2) := by decide +kernel
theorem dL_read_21 : decode cL_read 21 = .ok (.iconst 2, 1) := by decide +kernel
theorem dL_read_22 : decode cL_read 22 = .ok (.ireturn, 1) := by decide +kernel
theorem dL_read_23 : decode cL_read 23 = .ok (.astore 5, 2) := by decide +kernel
theorem dL_read_25 : decode cL_read 25 = .ok (.iconst 3, 1) := by decide +kernel
theorem dL_read_26 : decode cL_read 26 = .ok (.ireturn, 1) := by decide +kernel
theorem dL_read_27 : decode cL_read 27 = .ok (.iconst 0, 1) := by decide +kernel
theorem dL_read_28 : decode cL_read 28 = .ok (.ireturn, 1) := by decide +kernel
theorem dL_child_0 : decode cL_child 0 = .ok (.aload 4, 2) := by decide +kernel
theorem dL_child_2 : decode cL_child 2 = .ok (.iconst 0, 1) := by decide +kernel
theorem dL_child_3 : decode cL_child 3 = .ok (.aload_n 0, 1) := by decide +kernel
theorem dL_child_4 : decode cL_child 4 = .ok (.iload_n 1, 1) := by decide +kernel
theorem dL_child_5 : decode cL_child 5 = .ok (.iload_n 2, 1) := by decide +kernel
theorem dL_child_6 : decode cL_child 6 = .ok (.iload_n 3, 1) := by decide +kernel
theorem dL_child_7 : decode cL_child 7 = .ok (.invokevirtual 80, 3) := by decide +kernel
theorem dL_child_10 : decode cL_child 10 = .ok (.i2l, 1) := by decide +kernel
theorem dL_child_11 : decode cL_child 11 = .ok (.lastore, 1) := by decide +kernel
theorem dL_child_12 : decode cL_child 12 = .ok (.goto 11, 3) := by decide +kernel
theorem dL_child_15 : decode cL_child 15 = .ok (.astore 5, 2) := by decide +kernel
theorem dL_child_17 : decode cL_child 17 = .ok (.iconst 1, 1) := by decide +kernel
theorem dL_child_18 : decode cL_child 18 = .ok (.ireturn, 1) := by decide +kernel
theorem dL_child_19 : decode cL_child 19 = .ok (.astore 5, 2) := by decide +kernel
theorem dL_child_21 : decode cL_child 21 = .ok (.iconst 2, 1) := by decide +kernel
theorem dL_child_22 : decode cL_child 22 = .ok (.ireturn, 1) := by decide +kernel
theorem dL_child_23 : decode cL_child 23 = .ok (.iconst 0, 1) := by decide +kernel
theorem dL_child_24 : decode cL_child 24 = .ok (.ireturn, 1) := by decide +kernel
theorem dL_watch_0 : decode cL_watch 0 = .ok (.aload 4, 2) := by decide +kernel
theorem dL_watch_2 : decode cL_watch 2 = .ok (.iconst 0, 1) := by decide +kernel
theorem dL_watch_3 : decode cL_watch 3 = .ok (.aload_n 0, 1) := by decide +kernel
theorem dL_watch_4 : decode cL_watch 4 = .ok (.iload_n 1, 1) := by decide +kernel
theorem dL_watch_5 : decode cL_watch 5 = .ok (.iload_n 2, 1) := by decide +kernel
theorem dL_watch_6 : decode cL_watch 6 = .ok (.iload_n 3, 1) := by decide +kernel
theorem dL_watch_7 : decode cL_watch 7 = .ok (.invokevirtual 83, 3) := by decide +kernel
theorem dL_watch_10 : decode cL_watch 10 = .ok (.i2l, 1) := by decide +kernel
theorem dL_watch_11 : decode cL_watch 11 = .ok (.lastore, 1) := by decide +kernel
theorem dL_watch_12 : decode cL_watch 12 = .ok (.goto 15, 3) := by decide +kernel
theorem dL_watch_15 : decode cL_watch 15 = .ok (.astore 5, 2) := by decide +kernel
theorem dL_watch_17 : decode cL_watch 17 = .ok (.iconst 1, 1) := by decide +kernel
theorem dL_watch_18 : decode cL_watch 18 = .ok (.ireturn, 1) := by decide +kernel
theorem dL_watch_19 : decode cL_watch 19 = .ok (.astore 5, 2) := by decide +kernel
theorem dL_watch_21 : decode cL_watch 21 = .ok (.iconst 2, 1) := by decide +kernel
theorem dL_watch_22 : decode cL_watch 22 = .ok (.ireturn, 1) := by decide +kernel
theorem dL_watch_23 : decode cL_watch 23 = .ok (.astore 5, 2) := by decide +kernel
theorem dL_watch_25 : decode cL_watch 25 = .ok (.iconst 3, 1) := by decide +kernel
theorem dL_watch_26 : decode cL_watch 26 = .ok (.ireturn, 1) := by decide +kernel
theorem dL_watch_27 : decode cL_watch 27 = .ok (.iconst 0, 1) := by decide +kernel
theorem dL_watch_28 : decode cL_watch 28 = .ok (.ireturn, 1) := by decide +kernel
theorem dL_hear_0 : decode cL_hear 0 = .ok (.aload_n 2, 1) := by decide +kernel
theorem dL_hear_1 : decode cL_hear 1 = .ok (.iconst 0, 1) := by decide +kernel
