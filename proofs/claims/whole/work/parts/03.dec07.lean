theorem dX9_read_184 : decode cX9_read 184 = .ok (.getfield 83, 3) := by decide +kernel
theorem dX9_read_187 : decode cX9_read 187 = .ok (.iload_n 1, 1) := by decide +kernel
theorem dX9_read_188 : decode cX9_read 188 = .ok (.iaload, 1) := by decide +kernel
theorem dX9_read_189 : decode cX9_read 189 = .ok (.iload_n 2, 1) := by decide +kernel
theorem dX9_read_190 : decode cX9_read 190 = .ok (.invokevirtual 221, 3) := by decide +kernel
theorem dX9_read_193 : decode cX9_read 193 = .ok (.ireturn, 1) := by decide +kernel
theorem dX9_read_194 : decode cX9_read 194 = .ok (.aload_n 0, 1) := by decide +kernel
theorem dX9_read_195 : decode cX9_read 195 = .ok (.getfield 16, 3) := by decide +kernel
theorem dX9_read_198 : decode cX9_read 198 = .ok (.iload_n 2, 1) := by decide +kernel
theorem dX9_read_199 : decode cX9_read 199 = .ok (.iaload, 1) := by decide +kernel
theorem dX9_read_200 : decode cX9_read 200 = .ok (.ireturn, 1) := by decide +kernel
theorem dX9_read_201 : decode cX9_read 201 = .ok (.aload_n 0, 1) := by decide +kernel
theorem dX9_read_202 : decode cX9_read 202 = .ok (.getfield 22, 3) := by decide +kernel
theorem dX9_read_205 : decode cX9_read 205 = .ok (.iload_n 2, 1) := by decide +kernel
theorem dX9_read_206 : decode cX9_read 206 = .ok (.iaload, 1) := by decide +kernel
theorem dX9_read_207 : decode cX9_read 207 = .ok (.ireturn, 1) := by decide +kernel
theorem dX9_read_208 : decode cX9_read 208 = .ok (.aload_n 0, 1) := by decide +kernel
theorem dX9_read_209 : decode cX9_read 209 = .ok (.getfield 46, 3) := by decide +kernel
theorem dX9_read_212 : decode cX9_read 212 = .ok (.iload 5, 2) := by decide +kernel
theorem dX9_read_214 : decode cX9_read 214 = .ok (.iaload, 1) := by decide +kernel
theorem dX9_read_215 : decode cX9_read 215 = .ok (.bipush 16, 2) := by decide +kernel
theorem dX9_read_217 : decode cX9_read 217 = .ok (.aload_n 0, 1) := by decide +kernel
theorem dX9_read_218 : decode cX9_read 218 = .ok (.getfield 49, 3) := by decide +kernel
theorem dX9_read_221 : decode cX9_read 221 = .ok (.iload 5, 2) := by decide +kernel
theorem dX9_read_223 : decode cX9_read 223 = .ok (.iaload, 1) := by decide +kernel
theorem dX9_read_224 : decode cX9_read 224 = .ok (.imul, 1) := by decide +kernel
theorem dX9_read_225 : decode cX9_read 225 = .ok (.iadd, 1) := by decide +kernel
theorem dX9_read_226 : decode cX9_read 226 = .ok (.ireturn, 1) := by decide +kernel
theorem dX9_childAt_0 : decode cX9_childAt 0 = .ok (.iconst (-1), 1) := by decide +kernel
theorem dX9_childAt_1 : decode cX9_childAt 1 = .ok (.istore 5, 2) := by decide +kernel
theorem dX9_childAt_3 : decode cX9_childAt 3 = .ok (.bipush (-100), 2) := by decide +kernel
theorem dX9_childAt_5 : decode cX9_childAt 5 = .ok (.istore 6, 2) := by decide +kernel
theorem dX9_childAt_7 : decode cX9_childAt 7 = .ok (.iconst 0, 1) := by decide +kernel
theorem dX9_childAt_8 : decode cX9_childAt 8 = .ok (.istore 7, 2) := by decide +kernel
theorem dX9_childAt_10 : decode cX9_childAt 10 = .ok (.iload 7, 2) := by decide +kernel
theorem dX9_childAt_12 : decode cX9_childAt 12 = .ok (.iload_n 3, 1) := by decide +kernel
theorem dX9_childAt_13 : decode cX9_childAt 13 = .ok (.if_icmp .gt 158, 3) := by decide +kernel
theorem dX9_childAt_16 : decode cX9_childAt 16 = .ok (.bipush (-100), 2) := by decide +kernel
theorem dX9_childAt_18 : decode cX9_childAt 18 = .ok (.istore 6, 2) := by decide +kernel
theorem dX9_childAt_20 : decode cX9_childAt 20 = .ok (.iconst 1, 1) := by decide +kernel
theorem dX9_childAt_21 : decode cX9_childAt 21 = .ok (.istore 8, 2) := by decide +kernel
theorem dX9_childAt_23 : decode cX9_childAt 23 = .ok (.iload 8, 2) := by decide +kernel
theorem dX9_childAt_25 : decode cX9_childAt 25 = .ok (.aload_n 0, 1) := by decide +kernel
theorem dX9_childAt_26 : decode cX9_childAt 26 = .ok (.getfield 141, 3) := by decide +kernel
theorem dX9_childAt_29 : decode cX9_childAt 29 = .ok (.if_icmp .ge 119, 3) := by decide +kernel
theorem dX9_childAt_32 : decode cX9_childAt 32 = .ok (.aload_n 0, 1) := by decide +kernel
theorem dX9_childAt_33 : decode cX9_childAt 33 = .ok (.getfield 31, 3) := by decide +kernel
theorem dX9_childAt_36 : decode cX9_childAt 36 = .ok (.bipush 80, 2) := by decide +kernel
theorem dX9_childAt_38 : decode cX9_childAt 38 = .ok (.iload_n 1, 1) := by decide +kernel
theorem dX9_childAt_39 : decode cX9_childAt 39 = .ok (.imul, 1) := by decide +kernel
theorem dX9_childAt_40 : decode cX9_childAt 40 = .ok (.iload 8, 2) := by decide +kernel
theorem dX9_childAt_42 : decode cX9_childAt 42 = .ok (.iadd, 1) := by decide +kernel
theorem dX9_childAt_43 : decode cX9_childAt 43 = .ok (.iaload, 1) := by decide +kernel
theorem dX9_childAt_44 : decode cX9_childAt 44 = .ok (.iconst 1, 1) := by decide +kernel
theorem dX9_childAt_45 : decode cX9_childAt 45 = .ok (.if_icmp .ne 58, 3) := by decide +kernel
theorem dX9_childAt_48 : decode cX9_childAt 48 = .ok (.aload_n 0, 1) := by decide +kernel
theorem dX9_childAt_49 : decode cX9_childAt 49 = .ok (.getfield 7, 3) := by decide +kernel
theorem dX9_childAt_52 : decode cX9_childAt 52 = .ok (.iload 8, 2) := by decide +kernel
theorem dX9_childAt_54 : decode cX9_childAt 54 = .ok (.iaload, 1) := by decide +kernel
theorem dX9_childAt_55 : decode cX9_childAt 55 = .ok (.iload_n 2, 1) := by decide +kernel
theorem dX9_childAt_56 : decode cX9_childAt 56 = .ok (.if_icmp .ne 47, 3) := by decide +kernel
theorem dX9_childAt_59 : decode cX9_childAt 59 = .ok (.aload_n 0, 1) := by decide +kernel
theorem dX9_childAt_60 : decode cX9_childAt 60 = .ok (.getfield 13, 3) := by decide +kernel
theorem dX9_childAt_63 : decode cX9_childAt 63 = .ok (.iload 8, 2) := by decide +kernel
theorem dX9_childAt_65 : decode cX9_childAt 65 = .ok (.iaload, 1) := by decide +kernel
theorem dX9_childAt_66 : decode cX9_childAt 66 = .ok (.iload 5, 2) := by decide +kernel
theorem dX9_childAt_68 : decode cX9_childAt 68 = .ok (.if_icmp .le 35, 3) := by decide +kernel
theorem dX9_childAt_71 : decode cX9_childAt 71 = .ok (.iload 4, 2) := by decide +kernel
theorem dX9_childAt_73 : decode cX9_childAt 73 = .ok (.ifCond .lt 26, 3) := by decide +kernel
theorem dX9_childAt_76 : decode cX9_childAt 76 = .ok (.aload_n 0, 1) := by decide +kernel
theorem dX9_childAt_77 : decode cX9_childAt 77 = .ok (.getfield 16, 3) := by decide +kernel
theorem dX9_childAt_80 : decode cX9_childAt 80 = .ok (.iload 8, 2) := by decide +kernel
theorem dX9_childAt_82 : decode cX9_childAt 82 = .ok (.iaload, 1) := by decide +kernel
theorem dX9_childAt_83 : decode cX9_childAt 83 = .ok (.iconst 1, 1) := by decide +kernel
theorem dX9_childAt_84 : decode cX9_childAt 84 = .ok (.if_icmp .ne 19, 3) := by decide +kernel
theorem dX9_childAt_87 : decode cX9_childAt 87 = .ok (.aload_n 0, 1) := by decide +kernel
theorem dX9_childAt_88 : decode cX9_childAt 88 = .ok (.getfield 19, 3) := by decide +kernel
theorem dX9_childAt_91 : decode cX9_childAt 91 = .ok (.iload 8, 2) := by decide +kernel
theorem dX9_childAt_93 : decode cX9_childAt 93 = .ok (.iaload, 1) := by decide +kernel
theorem dX9_childAt_94 : decode cX9_childAt 94 = .ok (.iload 4, 2) := by decide +kernel
theorem dX9_childAt_96 : decode cX9_childAt 96 = .ok (.if_icmp .ne 7, 3) := by decide +kernel
theorem dX9_childAt_99 : decode cX9_childAt 99 = .ok (.iconst 1, 1) := by decide +kernel
theorem dX9_childAt_100 : decode cX9_childAt 100 = .ok (.goto 4, 3) := by decide +kernel
theorem dX9_childAt_103 : decode cX9_childAt 103 = .ok (.iconst 0, 1) := by decide +kernel
theorem dX9_childAt_104 : decode cX9_childAt 104 = .ok (.istore 9, 2) := by decide +kernel
theorem dX9_childAt_106 : decode cX9_childAt 106 = .ok (.iload 9, 2) := by decide +kernel
theorem dX9_childAt_108 : decode cX9_childAt 108 = .ok (.ifCond .eq 30, 3) := by decide +kernel
theorem dX9_childAt_111 : decode cX9_childAt 111 = .ok (.iload 6, 2) := by decide +kernel
theorem dX9_childAt_113 : decode cX9_childAt 113 = .ok (.ifCond .lt 20, 3) := by decide +kernel
theorem dX9_childAt_116 : decode cX9_childAt 116 = .ok (.aload_n 0, 1) := by decide +kernel
theorem dX9_childAt_117 : decode cX9_childAt 117 = .ok (.getfield 13, 3) := by decide +kernel
theorem dX9_childAt_120 : decode cX9_childAt 120 = .ok (.iload 8, 2) := by decide +kernel
theorem dX9_childAt_122 : decode cX9_childAt 122 = .ok (.iaload, 1) := by decide +kernel
theorem dX9_childAt_123 : decode cX9_childAt 123 = .ok (.aload_n 0, 1) := by decide +kernel
theorem dX9_childAt_124 : decode cX9_childAt 124 = .ok (.getfield 13, 3) := by decide +kernel
theorem dX9_childAt_127 : decode cX9_childAt 127 = .ok (.iload 6, 2) := by decide +kernel
theorem dX9_childAt_129 : decode cX9_childAt 129 = .ok (.iaload, 1) := by decide +kernel
theorem dX9_childAt_130 : decode cX9_childAt 130 = .ok (.if_icmp .ge 8, 3) := by decide +kernel
theorem dX9_childAt_133 : decode cX9_childAt 133 = .ok (.iload 8, 2) := by decide +kernel
theorem dX9_childAt_135 : decode cX9_childAt 135 = .ok (.goto 5, 3) := by decide +kernel
theorem dX9_childAt_138 : decode cX9_childAt 138 = .ok (.iload 6, 2) := by decide +kernel
theorem dX9_childAt_140 : decode cX9_childAt 140 = .ok (.istore 6, 2) := by decide +kernel
theorem dX9_childAt_142 : decode cX9_childAt 142 = .ok (.iinc 8 1, 3) := by decide +kernel
theorem dX9_childAt_145 : decode cX9_childAt 145 = .ok (.goto (-122), 3) := by decide +kernel
theorem dX9_childAt_148 : decode cX9_childAt 148 = .ok (.iload 6, 2) := by decide +kernel
theorem dX9_childAt_150 : decode cX9_childAt 150 = .ok (.ifCond .ge 6, 3) := by decide +kernel
theorem dX9_childAt_153 : decode cX9_childAt 153 = .ok (.bipush (-100), 2) := by decide +kernel
theorem dX9_childAt_155 : decode cX9_childAt 155 = .ok (.ireturn, 1) := by decide +kernel
theorem dX9_childAt_156 : decode cX9_childAt 156 = .ok (.aload_n 0, 1) := by decide +kernel
theorem dX9_childAt_157 : decode cX9_childAt 157 = .ok (.getfield 13, 3) := by decide +kernel
theorem dX9_childAt_160 : decode cX9_childAt 160 = .ok (.iload 6, 2) := by decide +kernel
theorem dX9_childAt_162 : decode cX9_childAt 162 = .ok (.iaload, 1) := by decide +kernel
theorem dX9_childAt_163 : decode cX9_childAt 163 = .ok (.istore 5, 2) := by decide +kernel
theorem dX9_childAt_165 : decode cX9_childAt 165 = .ok (.iinc 7 1, 3) := by decide +kernel
theorem dX9_childAt_168 : decode cX9_childAt 168 = .ok (.goto (-158), 3) := by decide +kernel
theorem dX9_childAt_171 : decode cX9_childAt 171 = .ok (.iload 6, 2) := by decide +kernel
theorem dX9_childAt_173 : decode cX9_childAt 173 = .ok (.ireturn, 1) := by decide +kernel
theorem dX9_child_0 : decode cX9_child 0 = .ok (.aload_n 0, 1) := by decide +kernel
theorem dX9_child_1 : decode cX9_child 1 = .ok (.aload_n 0, 1) := by decide +kernel
theorem dX9_child_2 : decode cX9_child 2 = .ok (.iload_n 1, 1) := by decide +kernel
theorem dX9_child_3 : decode cX9_child 3 = .ok (.invokevirtual 278, 3) := by decide +kernel
theorem dX9_child_6 : decode cX9_child 6 = .ok (.ifCond .eq 7, 3) := by decide +kernel
theorem dX9_child_9 : decode cX9_child 9 = .ok (.iload_n 3, 1) := by decide +kernel
theorem dX9_child_10 : decode cX9_child 10 = .ok (.ifCond .ge 7, 3) := by decide +kernel
theorem dX9_child_13 : decode cX9_child 13 = .ok (.iconst 1, 1) := by decide +kernel
theorem dX9_child_14 : decode cX9_child 14 = .ok (.goto 16, 3) := by decide +kernel
theorem dX9_child_17 : decode cX9_child 17 = .ok (.aload_n 0, 1) := by decide +kernel
theorem dX9_child_18 : decode cX9_child 18 = .ok (.iload_n 1, 1) := by decide +kernel
theorem dX9_child_19 : decode cX9_child 19 = .ok (.invokevirtual 269, 3) := by decide +kernel
theorem dX9_child_22 : decode cX9_child 22 = .ok (.ifCond .eq 7, 3) := by decide +kernel
theorem dX9_child_25 : decode cX9_child 25 = .ok (.iconst 2, 1) := by decide +kernel
theorem dX9_child_26 : decode cX9_child 26 = .ok (.goto 4, 3) := by decide +kernel
theorem dX9_child_29 : decode cX9_child 29 = .ok (.iconst 0, 1) := by decide +kernel
theorem dX9_child_30 : decode cX9_child 30 = .ok (.invokevirtual 272, 3) := by decide +kernel
theorem dX9_child_33 : decode cX9_child 33 = .ok (.ifCond .eq 5, 3) := by decide +kernel
theorem dX9_child_36 : decode cX9_child 36 = .ok (.iconst (-1), 1) := by decide +kernel
theorem dX9_child_37 : decode cX9_child 37 = .ok (.ireturn, 1) := by decide +kernel
theorem dX9_child_38 : decode cX9_child 38 = .ok (.aload_n 0, 1) := by decide +kernel
theorem dX9_child_39 : decode cX9_child 39 = .ok (.iload_n 1, 1) := by decide +kernel
theorem dX9_child_40 : decode cX9_child 40 = .ok (.invokevirtual 255, 3) := by decide +kernel
theorem dX9_child_43 : decode cX9_child 43 = .ok (.aload_n 0, 1) := by decide +kernel
theorem dX9_child_44 : decode cX9_child 44 = .ok (.iload_n 1, 1) := by decide +kernel
theorem dX9_child_45 : decode cX9_child 45 = .ok (.iload_n 2, 1) := by decide +kernel
theorem dX9_child_46 : decode cX9_child 46 = .ok (.invokevirtual 293, 3) := by decide +kernel
theorem dX9_child_49 : decode cX9_child 49 = .ok (.istore 4, 2) := by decide +kernel
theorem dX9_child_51 : decode cX9_child 51 = .ok (.iload 4, 2) := by decide +kernel
theorem dX9_child_53 : decode cX9_child 53 = .ok (.ifCond .ge 8, 3) := by decide +kernel
theorem dX9_child_56 : decode cX9_child 56 = .ok (.iload 4, 2) := by decide +kernel
theorem dX9_child_58 : decode cX9_child 58 = .ok (.goto 16, 3) := by decide +kernel
theorem dX9_child_61 : decode cX9_child 61 = .ok (.aload_n 0, 1) := by decide +kernel
theorem dX9_child_62 : decode cX9_child 62 = .ok (.aload_n 0, 1) := by decide +kernel
theorem dX9_child_63 : decode cX9_child 63 = .ok (.getfield 83, 3) := by decide +kernel
theorem dX9_child_66 : decode cX9_child 66 = .ok (.iload_n 1, 1) := by decide +kernel
theorem dX9_child_67 : decode cX9_child 67 = .ok (.iaload, 1) := by decide +kernel
theorem dX9_child_68 : decode cX9_child 68 = .ok (.iload_n 2, 1) := by decide +kernel
theorem dX9_child_69 : decode cX9_child 69 = .ok (.iload_n 3, 1) := by decide +kernel
theorem dX9_child_70 : decode cX9_child 70 = .ok (.iconst (-1), 1) := by decide +kernel
theorem dX9_child_71 : decode cX9_child 71 = .ok (.invokevirtual 296, 3) := by decide +kernel
theorem dX9_child_74 : decode cX9_child 74 = .ok (.ireturn, 1) := by decide +kernel
theorem dX9_watch_0 : decode cX9_watch 0 = .ok (.aload_n 0, 1) := by decide +kernel
theorem dX9_watch_1 : decode cX9_watch 1 = .ok (.aload_n 0, 1) := by decide +kernel
theorem dX9_watch_2 : decode cX9_watch 2 = .ok (.iload_n 1, 1) := by decide +kernel
theorem dX9_watch_3 : decode cX9_watch 3 = .ok (.invokevirtual 278, 3) := by decide +kernel
theorem dX9_watch_6 : decode cX9_watch 6 = .ok (.ifCond .ne 7, 3) := by decide +kernel
theorem dX9_watch_9 : decode cX9_watch 9 = .ok (.iconst 1, 1) := by decide +kernel
theorem dX9_watch_10 : decode cX9_watch 10 = .ok (.goto 41, 3) := by decide +kernel
theorem dX9_watch_13 : decode cX9_watch 13 = .ok (.aload_n 0, 1) := by decide +kernel
theorem dX9_watch_14 : decode cX9_watch 14 = .ok (.iload_n 3, 1) := by decide +kernel
theorem dX9_watch_15 : decode cX9_watch 15 = .ok (.iconst 0, 1) := by decide +kernel
theorem dX9_watch_16 : decode cX9_watch 16 = .ok (.iconst 2, 1) := by decide +kernel
theorem dX9_watch_17 : decode cX9_watch 17 = .ok (.invokevirtual 151, 3) := by decide +kernel
theorem dX9_watch_20 : decode cX9_watch 20 = .ok (.ifCond .ne 7, 3) := by decide +kernel
theorem dX9_watch_23 : decode cX9_watch 23 = .ok (.iconst 2, 1) := by decide +kernel
theorem dX9_watch_24 : decode cX9_watch 24 = .ok (.goto 27, 3) := by decide +kernel
theorem dX9_watch_27 : decode cX9_watch 27 = .ok (.aload_n 0, 1) := by decide +kernel
theorem dX9_watch_28 : decode cX9_watch 28 = .ok (.iload_n 1, 1) := by decide +kernel
theorem dX9_watch_29 : decode cX9_watch 29 = .ok (.invokevirtual 269, 3) := by decide +kernel
theorem dX9_watch_32 : decode cX9_watch 32 = .ok (.ifCond .ne 14, 3) := by decide +kernel
theorem dX9_watch_35 : decode cX9_watch 35 = .ok (.aload_n 0, 1) := by decide +kernel
theorem dX9_watch_36 : decode cX9_watch 36 = .ok (.getfield 116, 3) := by decide +kernel
theorem dX9_watch_39 : decode cX9_watch 39 = .ok (.iload_n 1, 1) := by decide +kernel
theorem dX9_watch_40 : decode cX9_watch 40 = .ok (.iaload, 1) := by decide +kernel
theorem dX9_watch_41 : decode cX9_watch 41 = .ok (.bipush 8, 2) := by decide +kernel
theorem dX9_watch_43 : decode cX9_watch 43 = .ok (.if_icmp .ne 7, 3) := by decide +kernel
theorem dX9_watch_46 : decode cX9_watch 46 = .ok (.iconst 3, 1) := by decide +kernel
theorem dX9_watch_47 : decode cX9_watch 47 = .ok (.goto 4, 3) := by decide +kernel
theorem dX9_watch_50 : decode cX9_watch 50 = .ok (.iconst 0, 1) := by decide +kernel
theorem dX9_watch_51 : decode cX9_watch 51 = .ok (.invokevirtual 272, 3) := by decide +kernel
theorem dX9_watch_54 : decode cX9_watch 54 = .ok (.ifCond .eq 5, 3) := by decide +kernel
theorem dX9_watch_57 : decode cX9_watch 57 = .ok (.iconst (-1), 1) := by decide +kernel
theorem dX9_watch_58 : decode cX9_watch 58 = .ok (.ireturn, 1) := by decide +kernel
theorem dX9_watch_59 : decode cX9_watch 59 = .ok (.aload_n 0, 1) := by decide +kernel
theorem dX9_watch_60 : decode cX9_watch 60 = .ok (.iload_n 1, 1) := by decide +kernel
theorem dX9_watch_61 : decode cX9_watch 61 = .ok (.invokevirtual 255, 3) := by decide +kernel
theorem dX9_watch_64 : decode cX9_watch 64 = .ok (.aload_n 0, 1) := by decide +kernel
theorem dX9_watch_65 : decode cX9_watch 65 = .ok (.iload_n 1, 1) := by decide +kernel
theorem dX9_watch_66 : decode cX9_watch 66 = .ok (.iload_n 2, 1) := by decide +kernel
theorem dX9_watch_67 : decode cX9_watch 67 = .ok (.invokevirtual 293, 3) := by decide +kernel
theorem dX9_watch_70 : decode cX9_watch 70 = .ok (.istore 4, 2) := by decide +kernel
theorem dX9_watch_72 : decode cX9_watch 72 = .ok (.iload 4, 2) := by decide +kernel
theorem dX9_watch_74 : decode cX9_watch 74 = .ok (.ifCond .ge 6, 3) := by decide +kernel
theorem dX9_watch_77 : decode cX9_watch 77 = .ok (.iload 4, 2) := by decide +kernel
theorem dX9_watch_79 : decode cX9_watch 79 = .ok (.ireturn, 1) := by decide +kernel
theorem dX9_watch_80 : decode cX9_watch 80 = .ok (.aload_n 0, 1) := by decide +kernel
theorem dX9_watch_81 : decode cX9_watch 81 = .ok (.getfield 110, 3) := by decide +kernel
theorem dX9_watch_84 : decode cX9_watch 84 = .ok (.bipush 8, 2) := by decide +kernel
theorem dX9_watch_86 : decode cX9_watch 86 = .ok (.iload_n 1, 1) := by decide +kernel
theorem dX9_watch_87 : decode cX9_watch 87 = .ok (.imul, 1) := by decide +kernel
theorem dX9_watch_88 : decode cX9_watch 88 = .ok (.aload_n 0, 1) := by decide +kernel
theorem dX9_watch_89 : decode cX9_watch 89 = .ok (.getfield 116, 3) := by decide +kernel
theorem dX9_watch_92 : decode cX9_watch 92 = .ok (.iload_n 1, 1) := by decide +kernel
theorem dX9_watch_93 : decode cX9_watch 93 = .ok (.iaload, 1) := by decide +kernel
theorem dX9_watch_94 : decode cX9_watch 94 = .ok (.iadd, 1) := by decide +kernel
theorem dX9_watch_95 : decode cX9_watch 95 = .ok (.iload_n 2, 1) := by decide +kernel
theorem dX9_watch_96 : decode cX9_watch 96 = .ok (.iastore, 1) := by decide +kernel
theorem dX9_watch_97 : decode cX9_watch 97 = .ok (.aload_n 0, 1) := by decide +kernel
theorem dX9_watch_98 : decode cX9_watch 98 = .ok (.getfield 113, 3) := by decide +kernel
theorem dX9_watch_101 : decode cX9_watch 101 = .ok (.bipush 8, 2) := by decide +kernel
theorem dX9_watch_103 : decode cX9_watch 103 = .ok (.iload_n 1, 1) := by decide +kernel
theorem dX9_watch_104 : decode cX9_watch 104 = .ok (.imul, 1) := by decide +kernel
theorem dX9_watch_105 : decode cX9_watch 105 = .ok (.aload_n 0, 1) := by decide +kernel
theorem dX9_watch_106 : decode cX9_watch 106 = .ok (.getfield 116, 3) := by decide +kernel
theorem dX9_watch_109 : decode cX9_watch 109 = .ok (.iload_n 1, 1) := by decide +kernel
theorem dX9_watch_110 : decode cX9_watch 110 = .ok (.iaload, 1) := by decide +kernel
theorem dX9_watch_111 : decode cX9_watch 111 = .ok (.iadd, 1) := by decide +kernel
theorem dX9_watch_112 : decode cX9_watch 112 = .ok (.iload_n 3, 1) := by decide +kernel
theorem dX9_watch_113 : decode cX9_watch 113 = .ok (.iastore, 1) := by decide +kernel
theorem dX9_watch_114 : decode cX9_watch 114 = .ok (.aload_n 0, 1) := by decide +kernel
theorem dX9_watch_115 : decode cX9_watch 115 = .ok (.getfield 116, 3) := by decide +kernel
theorem dX9_watch_118 : decode cX9_watch 118 = .ok (.iload_n 1, 1) := by decide +kernel
theorem dX9_watch_119 : decode cX9_watch 119 = .ok (.dup2, 1) := by decide +kernel
theorem dX9_watch_120 : decode cX9_watch 120 = .ok (.iaload, 1) := by decide +kernel
theorem dX9_watch_121 : decode cX9_watch 121 = .ok (.iconst 1, 1) := by decide +kernel
theorem dX9_watch_122 : decode cX9_watch 122 = .ok (.iadd, 1) := by decide +kernel
theorem dX9_watch_123 : decode cX9_watch 123 = .ok (.iastore, 1) := by decide +kernel
theorem dX9_watch_124 : decode cX9_watch 124 = .ok (.aload_n 0, 1) := by decide +kernel
theorem dX9_watch_125 : decode cX9_watch 125 = .ok (.getfield 116, 3) := by decide +kernel
theorem dX9_watch_128 : decode cX9_watch 128 = .ok (.iload_n 1, 1) := by decide +kernel
theorem dX9_watch_129 : decode cX9_watch 129 = .ok (.iaload, 1) := by decide +kernel
theorem dX9_watch_130 : decode cX9_watch 130 = .ok (.ireturn, 1) := by decide +kernel
theorem dX9_hear_0 : decode cX9_hear 0 = .ok (.aload_n 0, 1) := by decide +kernel
theorem dX9_hear_1 : decode cX9_hear 1 = .ok (.aload_n 0, 1) := by decide +kernel
theorem dX9_hear_2 : decode cX9_hear 2 = .ok (.iload_n 1, 1) := by decide +kernel
theorem dX9_hear_3 : decode cX9_hear 3 = .ok (.invokevirtual 278, 3) := by decide +kernel
theorem dX9_hear_6 : decode cX9_hear 6 = .ok (.ifCond .ne 7, 3) := by decide +kernel
theorem dX9_hear_9 : decode cX9_hear 9 = .ok (.iconst 1, 1) := by decide +kernel
theorem dX9_hear_10 : decode cX9_hear 10 = .ok (.goto 16, 3) := by decide +kernel
theorem dX9_hear_13 : decode cX9_hear 13 = .ok (.aload_n 0, 1) := by decide +kernel
theorem dX9_hear_14 : decode cX9_hear 14 = .ok (.iload_n 1, 1) := by decide +kernel
theorem dX9_hear_15 : decode cX9_hear 15 = .ok (.invokevirtual 269, 3) := by decide +kernel
theorem dX9_hear_18 : decode cX9_hear 18 = .ok (.ifCond .eq 7, 3) := by decide +kernel
theorem dX9_hear_21 : decode cX9_hear 21 = .ok (.iconst 2, 1) := by decide +kernel
theorem dX9_hear_22 : decode cX9_hear 22 = .ok (.goto 4, 3) := by decide +kernel
theorem dX9_hear_25 : decode cX9_hear 25 = .ok (.iconst 0, 1) := by decide +kernel
theorem dX9_hear_26 : decode cX9_hear 26 = .ok (.invokevirtual 272, 3) := by decide +kernel
theorem dX9_hear_29 : decode cX9_hear 29 = .ok (.ifCond .eq 5, 3) := by decide +kernel
theorem dX9_hear_32 : decode cX9_hear 32 = .ok (.iconst (-1), 1) := by decide +kernel
theorem dX9_hear_33 : decode cX9_hear 33 = .ok (.ireturn, 1) := by decide +kernel
theorem dX9_hear_34 : decode cX9_hear 34 = .ok (.aload_n 0, 1) := by decide +kernel
theorem dX9_hear_35 : decode cX9_hear 35 = .ok (.iload_n 1, 1) := by decide +kernel
theorem dX9_hear_36 : decode cX9_hear 36 = .ok (.invokevirtual 255, 3) := by decide +kernel
theorem dX9_hear_39 : decode cX9_hear 39 = .ok (.aload_n 0, 1) := by decide +kernel
theorem dX9_hear_40 : decode cX9_hear 40 = .ok (.getfield 123, 3) := by decide +kernel
theorem dX9_hear_43 : decode cX9_hear 43 = .ok (.iload_n 1, 1) := by decide +kernel
theorem dX9_hear_44 : decode cX9_hear 44 = .ok (.iaload, 1) := by decide +kernel
theorem dX9_hear_45 : decode cX9_hear 45 = .ok (.aload_n 0, 1) := by decide +kernel
theorem dX9_hear_46 : decode cX9_hear 46 = .ok (.getfield 126, 3) := by decide +kernel
theorem dX9_hear_49 : decode cX9_hear 49 = .ok (.iload_n 1, 1) := by decide +kernel
theorem dX9_hear_50 : decode cX9_hear 50 = .ok (.iaload, 1) := by decide +kernel
theorem dX9_hear_51 : decode cX9_hear 51 = .ok (.if_icmp .ne 6, 3) := by decide +kernel
theorem dX9_hear_54 : decode cX9_hear 54 = .ok (.bipush (-100), 2) := by decide +kernel
theorem dX9_hear_56 : decode cX9_hear 56 = .ok (.ireturn, 1) := by decide +kernel
theorem dX9_hear_57 : decode cX9_hear 57 = .ok (.aload_n 0, 1) := by decide +kernel
theorem dX9_hear_58 : decode cX9_hear 58 = .ok (.getfield 123, 3) := by decide +kernel
theorem dX9_hear_61 : decode cX9_hear 61 = .ok (.iload_n 1, 1) := by decide +kernel
theorem dX9_hear_62 : decode cX9_hear 62 = .ok (.dup2, 1) := by decide +kernel
theorem dX9_hear_63 : decode cX9_hear 63 = .ok (.iaload, 1) := by decide +kernel
theorem dX9_hear_64 : decode cX9_hear 64 = .ok (.iconst 1, 1) := by decide +kernel
theorem dX9_hear_65 : decode cX9_hear 65 = .ok (.iadd, 1) := by decide +kernel
theorem dX9_hear_66 : decode cX9_hear 66 = .ok (.iastore, 1) := by decide +kernel
theorem dX9_hear_67 : decode cX9_hear 67 = .ok (.aload_n 0, 1) := by decide +kernel
theorem dX9_hear_68 : decode cX9_hear 68 = .ok (.getfield 120, 3) := by decide +kernel
theorem dX9_hear_71 : decode cX9_hear 71 = .ok (.sipush 8000, 3) := by decide +kernel
theorem dX9_hear_74 : decode cX9_hear 74 = .ok (.iload_n 1, 1) := by decide +kernel
theorem dX9_hear_75 : decode cX9_hear 75 = .ok (.imul, 1) := by decide +kernel
theorem dX9_hear_76 : decode cX9_hear 76 = .ok (.aload_n 0, 1) := by decide +kernel
theorem dX9_hear_77 : decode cX9_hear 77 = .ok (.getfield 123, 3) := by decide +kernel
theorem dX9_hear_80 : decode cX9_hear 80 = .ok (.iload_n 1, 1) := by decide +kernel
theorem dX9_hear_81 : decode cX9_hear 81 = .ok (.iaload, 1) := by decide +kernel
theorem dX9_hear_82 : decode cX9_hear 82 = .ok (.iadd, 1) := by decide +kernel
theorem dX9_hear_83 : decode cX9_hear 83 = .ok (.iconst 1, 1) := by decide +kernel
theorem dX9_hear_84 : decode cX9_hear 84 = .ok (.isub, 1) := by decide +kernel
theorem dX9_hear_85 : decode cX9_hear 85 = .ok (.iaload, 1) := by decide +kernel
theorem dX9_hear_86 : decode cX9_hear 86 = .ok (.ireturn, 1) := by decide +kernel
theorem dX9_want_0 : decode cX9_want 0 = .ok (.aload_n 0, 1) := by decide +kernel
theorem dX9_want_1 : decode cX9_want 1 = .ok (.aload_n 0, 1) := by decide +kernel
theorem dX9_want_2 : decode cX9_want 2 = .ok (.iload_n 1, 1) := by decide +kernel
theorem dX9_want_3 : decode cX9_want 3 = .ok (.invokevirtual 278, 3) := by decide +kernel
theorem dX9_want_6 : decode cX9_want 6 = .ok (.ifCond .ne 7, 3) := by decide +kernel
theorem dX9_want_9 : decode cX9_want 9 = .ok (.iconst 1, 1) := by decide +kernel
theorem dX9_want_10 : decode cX9_want 10 = .ok (.goto 26, 3) := by decide +kernel
theorem dX9_want_13 : decode cX9_want 13 = .ok (.aload_n 0, 1) := by decide +kernel
theorem dX9_want_14 : decode cX9_want 14 = .ok (.iload_n 1, 1) := by decide +kernel
theorem dX9_want_15 : decode cX9_want 15 = .ok (.invokevirtual 269, 3) := by decide +kernel
theorem dX9_want_18 : decode cX9_want 18 = .ok (.ifCond .ne 13, 3) := by decide +kernel
theorem dX9_want_21 : decode cX9_want 21 = .ok (.aload_n 0, 1) := by decide +kernel
theorem dX9_want_22 : decode cX9_want 22 = .ok (.getfield 95, 3) := by decide +kernel
theorem dX9_want_25 : decode cX9_want 25 = .ok (.iload_n 1, 1) := by decide +kernel
theorem dX9_want_26 : decode cX9_want 26 = .ok (.iaload, 1) := by decide +kernel
theorem dX9_want_27 : decode cX9_want 27 = .ok (.iconst 1, 1) := by decide +kernel
theorem dX9_want_28 : decode cX9_want 28 = .ok (.if_icmp .ne 7, 3) := by decide +kernel
theorem dX9_want_31 : decode cX9_want 31 = .ok (.iconst 2, 1) := by decide +kernel
theorem dX9_want_32 : decode cX9_want 32 = .ok (.goto 4, 3) := by decide +kernel
theorem dX9_want_35 : decode cX9_want 35 = .ok (.iconst 0, 1) := by decide +kernel
theorem dX9_want_36 : decode cX9_want 36 = .ok (.invokevirtual 272, 3) := by decide +kernel
theorem dX9_want_39 : decode cX9_want 39 = .ok (.ifCond .eq 7, 3) := by decide +kernel
theorem dX9_want_42 : decode cX9_want 42 = .ok (.iconst (-1), 1) := by decide +kernel
theorem dX9_want_43 : decode cX9_want 43 = .ok (.goto 23, 3) := by decide +kernel
theorem dX9_want_46 : decode cX9_want 46 = .ok (.aload_n 0, 1) := by decide +kernel
theorem dX9_want_47 : decode cX9_want 47 = .ok (.iload_n 1, 1) := by decide +kernel
theorem dX9_want_48 : decode cX9_want 48 = .ok (.iconst 0, 1) := by decide +kernel
theorem dX9_want_49 : decode cX9_want 49 = .ok (.iload_n 2, 1) := by decide +kernel
theorem dX9_want_50 : decode cX9_want 50 = .ok (.iconst 0, 1) := by decide +kernel
theorem dX9_want_51 : decode cX9_want 51 = .ok (.iconst 1, 1) := by decide +kernel
theorem dX9_want_52 : decode cX9_want 52 = .ok (.iload_n 3, 1) := by decide +kernel
theorem dX9_want_53 : decode cX9_want 53 = .ok (.ifCond .eq 7, 3) := by decide +kernel
theorem dX9_want_56 : decode cX9_want 56 = .ok (.iconst 1, 1) := by decide +kernel
theorem dX9_want_57 : decode cX9_want 57 = .ok (.goto 4, 3) := by decide +kernel
theorem dX9_want_60 : decode cX9_want 60 = .ok (.iconst 0, 1) := by decide +kernel
theorem dX9_want_61 : decode cX9_want 61 = .ok (.iconst 1, 1) := by decide +kernel
theorem dX9_want_62 : decode cX9_want 62 = .ok (.iconst (-1), 1) := by decide +kernel
theorem dX9_want_63 : decode cX9_want 63 = .ok (.invokevirtual 290, 3) := by decide +kernel
theorem dX9_want_66 : decode cX9_want 66 = .ok (.ireturn, 1) := by decide +kernel
theorem dX9_has_0 : decode cX9_has 0 = .ok (.aload_n 0, 1) := by decide +kernel
theorem dX9_has_1 : decode cX9_has 1 = .ok (.aload_n 0, 1) := by decide +kernel
theorem dX9_has_2 : decode cX9_has 2 = .ok (.iload_n 1, 1) := by decide +kernel
theorem dX9_has_3 : decode cX9_has 3 = .ok (.invokevirtual 278, 3) := by decide +kernel
theorem dX9_has_6 : decode cX9_has 6 = .ok (.ifCond .ne 7, 3) := by decide +kernel
theorem dX9_has_9 : decode cX9_has 9 = .ok (.iconst 1, 1) := by decide +kernel
theorem dX9_has_10 : decode cX9_has 10 = .ok (.goto 16, 3) := by decide +kernel
theorem dX9_has_13 : decode cX9_has 13 = .ok (.aload_n 0, 1) := by decide +kernel
theorem dX9_has_14 : decode cX9_has 14 = .ok (.iload_n 1, 1) := by decide +kernel
theorem dX9_has_15 : decode cX9_has 15 = .ok (.invokevirtual 269, 3) := by decide +kernel
theorem dX9_has_18 : decode cX9_has 18 = .ok (.ifCond .eq 7, 3) := by decide +kernel
theorem dX9_has_21 : decode cX9_has 21 = .ok (.iconst 2, 1) := by decide +kernel
theorem dX9_has_22 : decode cX9_has 22 = .ok (.goto 4, 3) := by decide +kernel
theorem dX9_has_25 : decode cX9_has 25 = .ok (.iconst 0, 1) := by decide +kernel
theorem dX9_has_26 : decode cX9_has 26 = .ok (.invokevirtual 272, 3) := by decide +kernel
theorem dX9_has_29 : decode cX9_has 29 = .ok (.ifCond .eq 5, 3) := by decide +kernel
theorem dX9_has_32 : decode cX9_has 32 = .ok (.iconst (-1), 1) := by decide +kernel
theorem dX9_has_33 : decode cX9_has 33 = .ok (.ireturn, 1) := by decide +kernel
theorem dX9_has_34 : decode cX9_has 34 = .ok (.aload_n 0, 1) := by decide +kernel
theorem dX9_has_35 : decode cX9_has 35 = .ok (.iload_n 1, 1) := by decide +kernel
theorem dX9_has_36 : decode cX9_has 36 = .ok (.invokevirtual 255, 3) := by decide +kernel
theorem dX9_has_39 : decode cX9_has 39 = .ok (.aload_n 0, 1) := by decide +kernel
theorem dX9_has_40 : decode cX9_has 40 = .ok (.getfield 83, 3) := by decide +kernel
theorem dX9_has_43 : decode cX9_has 43 = .ok (.iload_n 1, 1) := by decide +kernel
theorem dX9_has_44 : decode cX9_has 44 = .ok (.iaload, 1) := by decide +kernel
theorem dX9_has_45 : decode cX9_has 45 = .ok (.istore_n 3, 1) := by decide +kernel
theorem dX9_has_46 : decode cX9_has 46 = .ok (.aload_n 0, 1) := by decide +kernel
theorem dX9_has_47 : decode cX9_has 47 = .ok (.iload_n 3, 1) := by decide +kernel
theorem dX9_has_48 : decode cX9_has 48 = .ok (.iload_n 2, 1) := by decide +kernel
theorem dX9_has_49 : decode cX9_has 49 = .ok (.invokevirtual 204, 3) := by decide +kernel
theorem dX9_has_52 : decode cX9_has 52 = .ok (.ifCond .eq 14, 3) := by decide +kernel
theorem dX9_has_55 : decode cX9_has 55 = .ok (.aload_n 0, 1) := by decide +kernel
theorem dX9_has_56 : decode cX9_has 56 = .ok (.iload_n 3, 1) := by decide +kernel
theorem dX9_has_57 : decode cX9_has 57 = .ok (.iload_n 2, 1) := by decide +kernel
theorem dX9_has_58 : decode cX9_has 58 = .ok (.iconst 0, 1) := by decide +kernel
theorem dX9_has_59 : decode cX9_has 59 = .ok (.iload_n 1, 1) := by decide +kernel
theorem dX9_has_60 : decode cX9_has 60 = .ok (.invokevirtual 296, 3) := by decide +kernel
theorem dX9_has_63 : decode cX9_has 63 = .ok (.goto 5, 3) := by decide +kernel
theorem dX9_has_66 : decode cX9_has 66 = .ok (.bipush (-100), 2) := by decide +kernel
theorem dX9_has_68 : decode cX9_has 68 = .ok (.istore 4, 2) := by decide +kernel
theorem dX9_has_70 : decode cX9_has 70 = .ok (.iload 4, 2) := by decide +kernel
theorem dX9_has_72 : decode cX9_has 72 = .ok (.ifCond .lt 7, 3) := by decide +kernel
theorem dX9_has_75 : decode cX9_has 75 = .ok (.iconst 1, 1) := by decide +kernel
theorem dX9_has_76 : decode cX9_has 76 = .ok (.goto 4, 3) := by decide +kernel
theorem dX9_has_79 : decode cX9_has 79 = .ok (.iconst 0, 1) := by decide +kernel
theorem dX9_has_80 : decode cX9_has 80 = .ok (.istore 5, 2) := by decide +kernel
theorem dX9_has_82 : decode cX9_has 82 = .ok (.iconst 1, 1) := by decide +kernel
theorem dX9_has_83 : decode cX9_has 83 = .ok (.istore 6, 2) := by decide +kernel
theorem dX9_has_85 : decode cX9_has 85 = .ok (.iload 6, 2) := by decide +kernel
theorem dX9_has_87 : decode cX9_has 87 = .ok (.aload_n 0, 1) := by decide +kernel
theorem dX9_has_88 : decode cX9_has 88 = .ok (.getfield 141, 3) := by decide +kernel
theorem dX9_has_91 : decode cX9_has 91 = .ok (.if_icmp .ge 108, 3) := by decide +kernel
theorem dX9_has_94 : decode cX9_has 94 = .ok (.iload 5, 2) := by decide +kernel
theorem dX9_has_96 : decode cX9_has 96 = .ok (.ifCond .eq 103, 3) := by decide +kernel
theorem dX9_has_99 : decode cX9_has 99 = .ok (.aload_n 0, 1) := by decide +kernel
theorem dX9_has_100 : decode cX9_has 100 = .ok (.getfield 31, 3) := by decide +kernel
theorem dX9_has_103 : decode cX9_has 103 = .ok (.bipush 80, 2) := by decide +kernel
theorem dX9_has_105 : decode cX9_has 105 = .ok (.iload_n 3, 1) := by decide +kernel
theorem dX9_has_106 : decode cX9_has 106 = .ok (.imul, 1) := by decide +kernel
theorem dX9_has_107 : decode cX9_has 107 = .ok (.iload 6, 2) := by decide +kernel
theorem dX9_has_109 : decode cX9_has 109 = .ok (.iadd, 1) := by decide +kernel
theorem dX9_has_110 : decode cX9_has 110 = .ok (.iaload, 1) := by decide +kernel
theorem dX9_has_111 : decode cX9_has 111 = .ok (.iconst 1, 1) := by decide +kernel
theorem dX9_has_112 : decode cX9_has 112 = .ok (.if_icmp .ne 35, 3) := by decide +kernel
theorem dX9_has_115 : decode cX9_has 115 = .ok (.aload_n 0, 1) := by decide +kernel
theorem dX9_has_116 : decode cX9_has 116 = .ok (.getfield 7, 3) := by decide +kernel
theorem dX9_has_119 : decode cX9_has 119 = .ok (.iload 6, 2) := by decide +kernel
theorem dX9_has_121 : decode cX9_has 121 = .ok (.iaload, 1) := by decide +kernel
theorem dX9_has_122 : decode cX9_has 122 = .ok (.iload_n 2, 1) := by decide +kernel
theorem dX9_has_123 : decode cX9_has 123 = .ok (.if_icmp .ne 24, 3) := by decide +kernel
theorem dX9_has_126 : decode cX9_has 126 = .ok (.aload_n 0, 1) := by decide +kernel
theorem dX9_has_127 : decode cX9_has 127 = .ok (.getfield 13, 3) := by decide +kernel
theorem dX9_has_130 : decode cX9_has 130 = .ok (.iload 6, 2) := by decide +kernel
theorem dX9_has_132 : decode cX9_has 132 = .ok (.iaload, 1) := by decide +kernel
theorem dX9_has_133 : decode cX9_has 133 = .ok (.aload_n 0, 1) := by decide +kernel
theorem dX9_has_134 : decode cX9_has 134 = .ok (.getfield 13, 3) := by decide +kernel
theorem dX9_has_137 : decode cX9_has 137 = .ok (.iload 4, 2) := by decide +kernel
theorem dX9_has_139 : decode cX9_has 139 = .ok (.iaload, 1) := by decide +kernel
theorem dX9_has_140 : decode cX9_has 140 = .ok (.if_icmp .ge 7, 3) := by decide +kernel
theorem dX9_has_143 : decode cX9_has 143 = .ok (.iconst 1, 1) := by decide +kernel
theorem dX9_has_144 : decode cX9_has 144 = .ok (.goto 4, 3) := by decide +kernel
theorem dX9_has_147 : decode cX9_has 147 = .ok (.iconst 0, 1) := by decide +kernel
theorem dX9_has_148 : decode cX9_has 148 = .ok (.istore 7, 2) := by decide +kernel
theorem dX9_has_150 : decode cX9_has 150 = .ok (.iload 7, 2) := by decide +kernel
theorem dX9_has_152 : decode cX9_has 152 = .ok (.ifCond .eq 34, 3) := by decide +kernel
theorem dX9_has_155 : decode cX9_has 155 = .ok (.aload_n 0, 1) := by decide +kernel
theorem dX9_has_156 : decode cX9_has 156 = .ok (.getfield 34, 3) := by decide +kernel
theorem dX9_has_159 : decode cX9_has 159 = .ok (.bipush 80, 2) := by decide +kernel
theorem dX9_has_161 : decode cX9_has 161 = .ok (.iload_n 3, 1) := by decide +kernel
theorem dX9_has_162 : decode cX9_has 162 = .ok (.imul, 1) := by decide +kernel
theorem dX9_has_163 : decode cX9_has 163 = .ok (.iload 4, 2) := by decide +kernel
theorem dX9_has_165 : decode cX9_has 165 = .ok (.iadd, 1) := by decide +kernel
theorem dX9_has_166 : decode cX9_has 166 = .ok (.iaload, 1) := by decide +kernel
theorem dX9_has_167 : decode cX9_has 167 = .ok (.iconst 1, 1) := by decide +kernel
theorem dX9_has_168 : decode cX9_has 168 = .ok (.if_icmp .ne 22, 3) := by decide +kernel
theorem dX9_has_171 : decode cX9_has 171 = .ok (.aload_n 0, 1) := by decide +kernel
theorem dX9_has_172 : decode cX9_has 172 = .ok (.getfield 34, 3) := by decide +kernel
theorem dX9_has_175 : decode cX9_has 175 = .ok (.bipush 80, 2) := by decide +kernel
theorem dX9_has_177 : decode cX9_has 177 = .ok (.iload_n 3, 1) := by decide +kernel
theorem dX9_has_178 : decode cX9_has 178 = .ok (.imul, 1) := by decide +kernel
theorem dX9_has_179 : decode cX9_has 179 = .ok (.iload 6, 2) := by decide +kernel
theorem dX9_has_181 : decode cX9_has 181 = .ok (.iadd, 1) := by decide +kernel
theorem dX9_has_182 : decode cX9_has 182 = .ok (.iaload, 1) := by decide +kernel
theorem dX9_has_183 : decode cX9_has 183 = .ok (.ifCond .eq 7, 3) := by decide +kernel
theorem dX9_has_186 : decode cX9_has 186 = .ok (.iconst 1, 1) := by decide +kernel
theorem dX9_has_187 : decode cX9_has 187 = .ok (.goto 4, 3) := by decide +kernel
theorem dX9_has_190 : decode cX9_has 190 = .ok (.iconst 0, 1) := by decide +kernel
theorem dX9_has_191 : decode cX9_has 191 = .ok (.istore 5, 2) := by decide +kernel
theorem dX9_has_193 : decode cX9_has 193 = .ok (.iinc 6 1, 3) := by decide +kernel
theorem dX9_has_196 : decode cX9_has 196 = .ok (.goto (-111), 3) := by decide +kernel
theorem dX9_has_199 : decode cX9_has 199 = .ok (.aload_n 0, 1) := by decide +kernel
theorem dX9_has_200 : decode cX9_has 200 = .ok (.iload_n 2, 1) := by decide +kernel
theorem dX9_has_201 : decode cX9_has 201 = .ok (.iconst 0, 1) := by decide +kernel
theorem dX9_has_202 : decode cX9_has 202 = .ok (.bipush 79, 2) := by decide +kernel
theorem dX9_has_204 : decode cX9_has 204 = .ok (.invokevirtual 151, 3) := by decide +kernel
theorem dX9_has_207 : decode cX9_has 207 = .ok (.ifCond .eq 24, 3) := by decide +kernel
theorem dX9_has_210 : decode cX9_has 210 = .ok (.aload_n 0, 1) := by decide +kernel
theorem dX9_has_211 : decode cX9_has 211 = .ok (.getfield 129, 3) := by decide +kernel
theorem dX9_has_214 : decode cX9_has 214 = .ok (.bipush 80, 2) := by decide +kernel
theorem dX9_has_216 : decode cX9_has 216 = .ok (.iload_n 1, 1) := by decide +kernel
theorem dX9_has_217 : decode cX9_has 217 = .ok (.imul, 1) := by decide +kernel
theorem dX9_has_218 : decode cX9_has 218 = .ok (.iload_n 2, 1) := by decide +kernel
theorem dX9_has_219 : decode cX9_has 219 = .ok (.iadd, 1) := by decide +kernel
theorem dX9_has_220 : decode cX9_has 220 = .ok (.iload 5, 2) := by decide +kernel
theorem dX9_has_222 : decode cX9_has 222 = .ok (.ifCond .eq 7, 3) := by decide +kernel
theorem dX9_has_225 : decode cX9_has 225 = .ok (.iconst 1, 1) := by decide +kernel
theorem dX9_has_226 : decode cX9_has 226 = .ok (.goto 4, 3) := by decide +kernel
theorem dX9_has_229 : decode cX9_has 229 = .ok (.iconst 0, 1) := by decide +kernel
theorem dX9_has_230 : decode cX9_has 230 = .ok (.iastore, 1) := by decide +kernel
theorem dX9_has_231 : decode cX9_has 231 = .ok (.iload 5, 2) := by decide +kernel
theorem dX9_has_233 : decode cX9_has 233 = .ok (.ifCond .eq 13, 3) := by decide +kernel
theorem dX9_has_236 : decode cX9_has 236 = .ok (.aload_n 0, 1) := by decide +kernel
theorem dX9_has_237 : decode cX9_has 237 = .ok (.getfield 22, 3) := by decide +kernel
theorem dX9_has_240 : decode cX9_has 240 = .ok (.iload 4, 2) := by decide +kernel
theorem dX9_has_242 : decode cX9_has 242 = .ok (.iaload, 1) := by decide +kernel
theorem dX9_has_243 : decode cX9_has 243 = .ok (.goto 5, 3) := by decide +kernel
theorem dX9_has_246 : decode cX9_has 246 = .ok (.bipush (-100), 2) := by decide +kernel
theorem dX9_has_248 : decode cX9_has 248 = .ok (.ireturn, 1) := by decide +kernel
theorem dX9_giveUp_0 : decode cX9_giveUp 0 = .ok (.aload_n 0, 1) := by decide +kernel
theorem dX9_giveUp_1 : decode cX9_giveUp 1 = .ok (.aload_n 0, 1) := by decide +kernel
theorem dX9_giveUp_2 : decode cX9_giveUp 2 = .ok (.iload_n 1, 1) := by decide +kernel
theorem dX9_giveUp_3 : decode cX9_giveUp 3 = .ok (.invokevirtual 278, 3) := by decide +kernel
theorem dX9_giveUp_6 : decode cX9_giveUp 6 = .ok (.ifCond .ne 7, 3) := by decide +kernel
theorem dX9_giveUp_9 : decode cX9_giveUp 9 = .ok (.iconst 1, 1) := by decide +kernel
theorem dX9_giveUp_10 : decode cX9_giveUp 10 = .ok (.goto 16, 3) := by decide +kernel
theorem dX9_giveUp_13 : decode cX9_giveUp 13 = .ok (.aload_n 0, 1) := by decide +kernel
theorem dX9_giveUp_14 : decode cX9_giveUp 14 = .ok (.iload_n 1, 1) := by decide +kernel
theorem dX9_giveUp_15 : decode cX9_giveUp 15 = .ok (.invokevirtual 269, 3) := by decide +kernel
theorem dX9_giveUp_18 : decode cX9_giveUp 18 = .ok (.ifCond .eq 7, 3) := by decide +kernel
theorem dX9_giveUp_21 : decode cX9_giveUp 21 = .ok (.iconst 2, 1) := by decide +kernel
theorem dX9_giveUp_22 : decode cX9_giveUp 22 = .ok (.goto 4, 3) := by decide +kernel
theorem dX9_giveUp_25 : decode cX9_giveUp 25 = .ok (.iconst 0, 1) := by decide +kernel
theorem dX9_giveUp_26 : decode cX9_giveUp 26 = .ok (.invokevirtual 272, 3) := by decide +kernel
theorem dX9_giveUp_29 : decode cX9_giveUp 29 = .ok (.ifCond .eq 5, 3) := by decide +kernel
theorem dX9_giveUp_32 : decode cX9_giveUp 32 = .ok (.iconst (-1), 1) := by decide +kernel
theorem dX9_giveUp_33 : decode cX9_giveUp 33 = .ok (.ireturn, 1) := by decide +kernel
theorem dX9_giveUp_34 : decode cX9_giveUp 34 = .ok (.aload_n 0, 1) := by decide +kernel
theorem dX9_giveUp_35 : decode cX9_giveUp 35 = .ok (.iload_n 1, 1) := by decide +kernel
theorem dX9_giveUp_36 : decode cX9_giveUp 36 = .ok (.invokevirtual 255, 3) := by decide +kernel
theorem dX9_giveUp_39 : decode cX9_giveUp 39 = .ok (.aload_n 0, 1) := by decide +kernel
theorem dX9_giveUp_40 : decode cX9_giveUp 40 = .ok (.iload_n 2, 1) := by decide +kernel
theorem dX9_giveUp_41 : decode cX9_giveUp 41 = .ok (.iconst 0, 1) := by decide +kernel
theorem dX9_giveUp_42 : decode cX9_giveUp 42 = .ok (.bipush 79, 2) := by decide +kernel
theorem dX9_giveUp_44 : decode cX9_giveUp 44 = .ok (.invokevirtual 151, 3) := by decide +kernel
theorem dX9_giveUp_47 : decode cX9_giveUp 47 = .ok (.ifCond .eq 15, 3) := by decide +kernel
theorem dX9_giveUp_50 : decode cX9_giveUp 50 = .ok (.aload_n 0, 1) := by decide +kernel
theorem dX9_giveUp_51 : decode cX9_giveUp 51 = .ok (.getfield 129, 3) := by decide +kernel
theorem dX9_giveUp_54 : decode cX9_giveUp 54 = .ok (.bipush 80, 2) := by decide +kernel
theorem dX9_giveUp_56 : decode cX9_giveUp 56 = .ok (.iload_n 1, 1) := by decide +kernel
theorem dX9_giveUp_57 : decode cX9_giveUp 57 = .ok (.imul, 1) := by decide +kernel
theorem dX9_giveUp_58 : decode cX9_giveUp 58 = .ok (.iload_n 2, 1) := by decide +kernel
theorem dX9_giveUp_59 : decode cX9_giveUp 59 = .ok (.iadd, 1) := by decide +kernel
theorem dX9_giveUp_60 : decode cX9_giveUp 60 = .ok (.iconst 0, 1) := by decide +kernel
theorem dX9_giveUp_61 : decode cX9_giveUp 61 = .ok (.iastore, 1) := by decide +kernel
theorem dX9_giveUp_62 : decode cX9_giveUp 62 = .ok (.aload_n 0, 1) := by decide +kernel
theorem dX9_giveUp_63 : decode cX9_giveUp 63 = .ok (.iconst 0, 1) := by decide +kernel
theorem dX9_giveUp_64 : decode cX9_giveUp 64 = .ok (.iload_n 2, 1) := by decide +kernel
theorem dX9_giveUp_65 : decode cX9_giveUp 65 = .ok (.invokevirtual 204, 3) := by decide +kernel
theorem dX9_giveUp_68 : decode cX9_giveUp 68 = .ok (.ifCond .eq 14, 3) := by decide +kernel
theorem dX9_giveUp_71 : decode cX9_giveUp 71 = .ok (.aload_n 0, 1) := by decide +kernel
theorem dX9_giveUp_72 : decode cX9_giveUp 72 = .ok (.iconst 0, 1) := by decide +kernel
theorem dX9_giveUp_73 : decode cX9_giveUp 73 = .ok (.iload_n 2, 1) := by decide +kernel
theorem dX9_giveUp_74 : decode cX9_giveUp 74 = .ok (.iconst 0, 1) := by decide +kernel
theorem dX9_giveUp_75 : decode cX9_giveUp 75 = .ok (.iload_n 1, 1) := by decide +kernel
theorem dX9_giveUp_76 : decode cX9_giveUp 76 = .ok (.invokevirtual 296, 3) := by decide +kernel
theorem dX9_giveUp_79 : decode cX9_giveUp 79 = .ok (.goto 5, 3) := by decide +kernel
theorem dX9_giveUp_82 : decode cX9_giveUp 82 = .ok (.bipush (-100), 2) := by decide +kernel
theorem dX9_giveUp_84 : decode cX9_giveUp 84 = .ok (.istore_n 3, 1) := by decide +kernel
theorem dX9_giveUp_85 : decode cX9_giveUp 85 = .ok (.iload_n 3, 1) := by decide +kernel
theorem dX9_giveUp_86 : decode cX9_giveUp 86 = .ok (.ifCond .ge 5, 3) := by decide +kernel
theorem dX9_giveUp_89 : decode cX9_giveUp 89 = .ok (.iconst 0, 1) := by decide +kernel
theorem dX9_giveUp_90 : decode cX9_giveUp 90 = .ok (.ireturn, 1) := by decide +kernel
theorem dX9_giveUp_91 : decode cX9_giveUp 91 = .ok (.aload_n 0, 1) := by decide +kernel
theorem dX9_giveUp_92 : decode cX9_giveUp 92 = .ok (.invokevirtual 259, 3) := by decide +kernel
theorem dX9_giveUp_95 : decode cX9_giveUp 95 = .ok (.aload_n 0, 1) := by decide +kernel
theorem dX9_giveUp_96 : decode cX9_giveUp 96 = .ok (.iload_n 3, 1) := by decide +kernel
theorem dX9_giveUp_97 : decode cX9_giveUp 97 = .ok (.invokevirtual 224, 3) := by decide +kernel
theorem dX9_giveUp_100 : decode cX9_giveUp 100 = .ok (.istore 4, 2) := by decide +kernel
theorem dX9_giveUp_102 : decode cX9_giveUp 102 = .ok (.aload_n 0, 1) := by decide +kernel
theorem dX9_giveUp_103 : decode cX9_giveUp 103 = .ok (.invokevirtual 252, 3) := by decide +kernel
theorem dX9_giveUp_106 : decode cX9_giveUp 106 = .ok (.aload_n 0, 1) := by decide +kernel
theorem dX9_giveUp_107 : decode cX9_giveUp 107 = .ok (.aload_n 0, 1) := by decide +kernel
theorem dX9_giveUp_108 : decode cX9_giveUp 108 = .ok (.getfield 83, 3) := by decide +kernel
theorem dX9_giveUp_111 : decode cX9_giveUp 111 = .ok (.iload_n 1, 1) := by decide +kernel
theorem dX9_giveUp_112 : decode cX9_giveUp 112 = .ok (.iaload, 1) := by decide +kernel
theorem dX9_giveUp_113 : decode cX9_giveUp 113 = .ok (.aload_n 0, 1) := by decide +kernel
theorem dX9_giveUp_114 : decode cX9_giveUp 114 = .ok (.getfield 181, 3) := by decide +kernel
theorem dX9_giveUp_117 : decode cX9_giveUp 117 = .ok (.invokevirtual 197, 3) := by decide +kernel
theorem dX9_giveUp_120 : decode cX9_giveUp 120 = .ok (.iload 4, 2) := by decide +kernel
theorem dX9_giveUp_122 : decode cX9_giveUp 122 = .ok (.ireturn, 1) := by decide +kernel
theorem dX9_believers_0 : decode cX9_believers 0 = .ok (.aload_n 0, 1) := by decide +kernel
theorem dX9_believers_1 : decode cX9_believers 1 = .ok (.iconst 0, 1) := by decide +kernel
theorem dX9_believers_2 : decode cX9_believers 2 = .ok (.invokevirtual 272, 3) := by decide +kernel
theorem dX9_believers_5 : decode cX9_believers 5 = .ok (.pop, 1) := by decide +kernel
theorem dX9_believers_6 : decode cX9_believers 6 = .ok (.iconst 0, 1) := by decide +kernel
theorem dX9_believers_7 : decode cX9_believers 7 = .ok (.istore_n 2, 1) := by decide +kernel
theorem dX9_believers_8 : decode cX9_believers 8 = .ok (.iconst 0, 1) := by decide +kernel
theorem dX9_believers_9 : decode cX9_believers 9 = .ok (.istore_n 3, 1) := by decide +kernel
theorem dX9_believers_10 : decode cX9_believers 10 = .ok (.iload_n 3, 1) := by decide +kernel
theorem dX9_believers_11 : decode cX9_believers 11 = .ok (.aload_n 0, 1) := by decide +kernel
theorem dX9_believers_12 : decode cX9_believers 12 = .ok (.getfield 148, 3) := by decide +kernel
theorem dX9_believers_15 : decode cX9_believers 15 = .ok (.if_icmp .ge 45, 3) := by decide +kernel
theorem dX9_believers_18 : decode cX9_believers 18 = .ok (.aload_n 0, 1) := by decide +kernel
theorem dX9_believers_19 : decode cX9_believers 19 = .ok (.iload_n 1, 1) := by decide +kernel
theorem dX9_believers_20 : decode cX9_believers 20 = .ok (.iconst 0, 1) := by decide +kernel
theorem dX9_believers_21 : decode cX9_believers 21 = .ok (.bipush 79, 2) := by decide +kernel
theorem dX9_believers_23 : decode cX9_believers 23 = .ok (.invokevirtual 151, 3) := by decide +kernel
theorem dX9_believers_26 : decode cX9_believers 26 = .ok (.ifCond .eq 34, 3) := by decide +kernel
theorem dX9_believers_29 : decode cX9_believers 29 = .ok (.iload_n 2, 1) := by decide +kernel
theorem dX9_believers_30 : decode cX9_believers 30 = .ok (.aload_n 0, 1) := by decide +kernel
theorem dX9_believers_31 : decode cX9_believers 31 = .ok (.getfield 129, 3) := by decide +kernel
theorem dX9_believers_34 : decode cX9_believers 34 = .ok (.bipush 80, 2) := by decide +kernel
theorem dX9_believers_36 : decode cX9_believers 36 = .ok (.iload_n 3, 1) := by decide +kernel
theorem dX9_believers_37 : decode cX9_believers 37 = .ok (.imul, 1) := by decide +kernel
theorem dX9_believers_38 : decode cX9_believers 38 = .ok (.iload_n 1, 1) := by decide +kernel
theorem dX9_believers_39 : decode cX9_believers 39 = .ok (.iadd, 1) := by decide +kernel
theorem dX9_believers_40 : decode cX9_believers 40 = .ok (.iaload, 1) := by decide +kernel
theorem dX9_believers_41 : decode cX9_believers 41 = .ok (.iconst 1, 1) := by decide +kernel
theorem dX9_believers_42 : decode cX9_believers 42 = .ok (.if_icmp .ne 9, 3) := by decide +kernel
theorem dX9_believers_45 : decode cX9_believers 45 = .ok (.iconst 1, 1) := by decide +kernel
theorem dX9_believers_46 : decode cX9_believers 46 = .ok (.iload_n 3, 1) := by decide +kernel
theorem dX9_believers_47 : decode cX9_believers 47 = .ok (.ishl, 1) := by decide +kernel
theorem dX9_believers_48 : decode cX9_believers 48 = .ok (.goto 4, 3) := by decide +kernel
theorem dX9_believers_51 : decode cX9_believers 51 = .ok (.iconst 0, 1) := by decide +kernel
theorem dX9_believers_52 : decode cX9_believers 52 = .ok (.ior, 1) := by decide +kernel
theorem dX9_believers_53 : decode cX9_believers 53 = .ok (.istore_n 2, 1) := by decide +kernel
theorem dX9_believers_54 : decode cX9_believers 54 = .ok (.iinc 3 1, 3) := by decide +kernel
theorem dX9_believers_57 : decode cX9_believers 57 = .ok (.goto (-47), 3) := by decide +kernel
theorem dX9_believers_60 : decode cX9_believers 60 = .ok (.iload_n 2, 1) := by decide +kernel
theorem dX9_believers_61 : decode cX9_believers 61 = .ok (.ireturn, 1) := by decide +kernel
theorem dX9_isOpen_0 : decode cX9_isOpen 0 = .ok (.aload_n 0, 1) := by decide +kernel
theorem dX9_isOpen_1 : decode cX9_isOpen 1 = .ok (.aload_n 0, 1) := by decide +kernel
theorem dX9_isOpen_2 : decode cX9_isOpen 2 = .ok (.iload_n 1, 1) := by decide +kernel
theorem dX9_isOpen_3 : decode cX9_isOpen 3 = .ok (.invokevirtual 278, 3) := by decide +kernel
theorem dX9_isOpen_6 : decode cX9_isOpen 6 = .ok (.ifCond .ne 7, 3) := by decide +kernel
theorem dX9_isOpen_9 : decode cX9_isOpen 9 = .ok (.iconst 1, 1) := by decide +kernel
theorem dX9_isOpen_10 : decode cX9_isOpen 10 = .ok (.goto 31, 3) := by decide +kernel
theorem dX9_isOpen_13 : decode cX9_isOpen 13 = .ok (.aload_n 0, 1) := by decide +kernel
theorem dX9_isOpen_14 : decode cX9_isOpen 14 = .ok (.iload_n 3, 1) := by decide +kernel
theorem dX9_isOpen_15 : decode cX9_isOpen 15 = .ok (.iconst 1, 1) := by decide +kernel
theorem dX9_isOpen_16 : decode cX9_isOpen 16 = .ok (.bipush 80, 2) := by decide +kernel
theorem dX9_isOpen_18 : decode cX9_isOpen 18 = .ok (.invokevirtual 151, 3) := by decide +kernel
theorem dX9_isOpen_21 : decode cX9_isOpen 21 = .ok (.ifCond .ne 7, 3) := by decide +kernel
theorem dX9_isOpen_24 : decode cX9_isOpen 24 = .ok (.iconst 2, 1) := by decide +kernel
theorem dX9_isOpen_25 : decode cX9_isOpen 25 = .ok (.goto 16, 3) := by decide +kernel
theorem dX9_isOpen_28 : decode cX9_isOpen 28 = .ok (.aload_n 0, 1) := by decide +kernel
theorem dX9_isOpen_29 : decode cX9_isOpen 29 = .ok (.iload_n 1, 1) := by decide +kernel
theorem dX9_isOpen_30 : decode cX9_isOpen 30 = .ok (.invokevirtual 269, 3) := by decide +kernel
theorem dX9_isOpen_33 : decode cX9_isOpen 33 = .ok (.ifCond .eq 7, 3) := by decide +kernel
theorem dX9_isOpen_36 : decode cX9_isOpen 36 = .ok (.iconst 3, 1) := by decide +kernel
theorem dX9_isOpen_37 : decode cX9_isOpen 37 = .ok (.goto 4, 3) := by decide +kernel
theorem dX9_isOpen_40 : decode cX9_isOpen 40 = .ok (.iconst 0, 1) := by decide +kernel
theorem dX9_isOpen_41 : decode cX9_isOpen 41 = .ok (.invokevirtual 272, 3) := by decide +kernel
theorem dX9_isOpen_44 : decode cX9_isOpen 44 = .ok (.ifCond .eq 5, 3) := by decide +kernel
theorem dX9_isOpen_47 : decode cX9_isOpen 47 = .ok (.iconst 0, 1) := by decide +kernel
theorem dX9_isOpen_48 : decode cX9_isOpen 48 = .ok (.ireturn, 1) := by decide +kernel
theorem dX9_isOpen_49 : decode cX9_isOpen 49 = .ok (.aload_n 0, 1) := by decide +kernel
theorem dX9_isOpen_50 : decode cX9_isOpen 50 = .ok (.iload_n 1, 1) := by decide +kernel
theorem dX9_isOpen_51 : decode cX9_isOpen 51 = .ok (.invokevirtual 255, 3) := by decide +kernel
theorem dX9_isOpen_54 : decode cX9_isOpen 54 = .ok (.aload_n 0, 1) := by decide +kernel
theorem dX9_isOpen_55 : decode cX9_isOpen 55 = .ok (.aload_n 0, 1) := by decide +kernel
theorem dX9_isOpen_56 : decode cX9_isOpen 56 = .ok (.getfield 83, 3) := by decide +kernel
theorem dX9_isOpen_59 : decode cX9_isOpen 59 = .ok (.iload_n 1, 1) := by decide +kernel
theorem dX9_isOpen_60 : decode cX9_isOpen 60 = .ok (.iaload, 1) := by decide +kernel
theorem dX9_isOpen_61 : decode cX9_isOpen 61 = .ok (.iload_n 2, 1) := by decide +kernel
theorem dX9_isOpen_62 : decode cX9_isOpen 62 = .ok (.invokevirtual 204, 3) := by decide +kernel
theorem dX9_isOpen_65 : decode cX9_isOpen 65 = .ok (.ifCond .eq 22, 3) := by decide +kernel
theorem dX9_isOpen_68 : decode cX9_isOpen 68 = .ok (.aload_n 0, 1) := by decide +kernel
theorem dX9_isOpen_69 : decode cX9_isOpen 69 = .ok (.aload_n 0, 1) := by decide +kernel
theorem dX9_isOpen_70 : decode cX9_isOpen 70 = .ok (.getfield 83, 3) := by decide +kernel
theorem dX9_isOpen_73 : decode cX9_isOpen 73 = .ok (.iload_n 1, 1) := by decide +kernel
theorem dX9_isOpen_74 : decode cX9_isOpen 74 = .ok (.iaload, 1) := by decide +kernel
theorem dX9_isOpen_75 : decode cX9_isOpen 75 = .ok (.iload_n 2, 1) := by decide +kernel
theorem dX9_isOpen_76 : decode cX9_isOpen 76 = .ok (.invokevirtual 221, 3) := by decide +kernel
theorem dX9_isOpen_79 : decode cX9_isOpen 79 = .ok (.iload_n 3, 1) := by decide +kernel
theorem dX9_isOpen_80 : decode cX9_isOpen 80 = .ok (.if_icmp .lt 7, 3) := by decide +kernel
theorem dX9_isOpen_83 : decode cX9_isOpen 83 = .ok (.iconst 1, 1) := by decide +kernel
theorem dX9_isOpen_84 : decode cX9_isOpen 84 = .ok (.goto 4, 3) := by decide +kernel
theorem dX9_isOpen_87 : decode cX9_isOpen 87 = .ok (.iconst 0, 1) := by decide +kernel
theorem dX9_isOpen_88 : decode cX9_isOpen 88 = .ok (.ireturn, 1) := by decide +kernel
theorem dX9_takeFirst_0 : decode cX9_takeFirst 0 = .ok (.aload_n 0, 1) := by decide +kernel
theorem dX9_takeFirst_1 : decode cX9_takeFirst 1 = .ok (.aload_n 0, 1) := by decide +kernel
theorem dX9_takeFirst_2 : decode cX9_takeFirst 2 = .ok (.iload_n 1, 1) := by decide +kernel
theorem dX9_takeFirst_3 : decode cX9_takeFirst 3 = .ok (.invokevirtual 278, 3) := by decide +kernel
theorem dX9_takeFirst_6 : decode cX9_takeFirst 6 = .ok (.ifCond .ne 7, 3) := by decide +kernel
theorem dX9_takeFirst_9 : decode cX9_takeFirst 9 = .ok (.iconst 1, 1) := by decide +kernel
theorem dX9_takeFirst_10 : decode cX9_takeFirst 10 = .ok (.goto 26, 3) := by decide +kernel
theorem dX9_takeFirst_13 : decode cX9_takeFirst 13 = .ok (.aload_n 0, 1) := by decide +kernel
theorem dX9_takeFirst_14 : decode cX9_takeFirst 14 = .ok (.iload_n 1, 1) := by decide +kernel
theorem dX9_takeFirst_15 : decode cX9_takeFirst 15 = .ok (.invokevirtual 269, 3) := by decide +kernel
theorem dX9_takeFirst_18 : decode cX9_takeFirst 18 = .ok (.ifCond .ne 13, 3) := by decide +kernel
theorem dX9_takeFirst_21 : decode cX9_takeFirst 21 = .ok (.aload_n 0, 1) := by decide +kernel
theorem dX9_takeFirst_22 : decode cX9_takeFirst 22 = .ok (.getfield 95, 3) := by decide +kernel
theorem dX9_takeFirst_25 : decode cX9_takeFirst 25 = .ok (.iload_n 1, 1) := by decide +kernel
theorem dX9_takeFirst_26 : decode cX9_takeFirst 26 = .ok (.iaload, 1) := by decide +kernel
theorem dX9_takeFirst_27 : decode cX9_takeFirst 27 = .ok (.iconst 1, 1) := by decide +kernel
theorem dX9_takeFirst_28 : decode cX9_takeFirst 28 = .ok (.if_icmp .ne 7, 3) := by decide +kernel
theorem dX9_takeFirst_31 : decode cX9_takeFirst 31 = .ok (.iconst 2, 1) := by decide +kernel
theorem dX9_takeFirst_32 : decode cX9_takeFirst 32 = .ok (.goto 4, 3) := by decide +kernel
theorem dX9_takeFirst_35 : decode cX9_takeFirst 35 = .ok (.iconst 0, 1) := by decide +kernel
theorem dX9_takeFirst_36 : decode cX9_takeFirst 36 = .ok (.invokevirtual 272, 3) := by decide +kernel
theorem dX9_takeFirst_39 : decode cX9_takeFirst 39 = .ok (.ifCond .eq 5, 3) := by decide +kernel
theorem dX9_takeFirst_42 : decode cX9_takeFirst 42 = .ok (.iconst (-1), 1) := by decide +kernel
theorem dX9_takeFirst_43 : decode cX9_takeFirst 43 = .ok (.ireturn, 1) := by decide +kernel
theorem dX9_takeFirst_44 : decode cX9_takeFirst 44 = .ok (.aload_n 0, 1) := by decide +kernel
theorem dX9_takeFirst_45 : decode cX9_takeFirst 45 = .ok (.iload_n 1, 1) := by decide +kernel
theorem dX9_takeFirst_46 : decode cX9_takeFirst 46 = .ok (.invokevirtual 255, 3) := by decide +kernel
theorem dX9_takeFirst_49 : decode cX9_takeFirst 49 = .ok (.aload_n 0, 1) := by decide +kernel
theorem dX9_takeFirst_50 : decode cX9_takeFirst 50 = .ok (.iconst 0, 1) := by decide +kernel
theorem dX9_takeFirst_51 : decode cX9_takeFirst 51 = .ok (.iload_n 2, 1) := by decide +kernel
theorem dX9_takeFirst_52 : decode cX9_takeFirst 52 = .ok (.invokevirtual 204, 3) := by decide +kernel
theorem dX9_takeFirst_55 : decode cX9_takeFirst 55 = .ok (.ifCond .ne 5, 3) := by decide +kernel
theorem dX9_takeFirst_58 : decode cX9_takeFirst 58 = .ok (.iconst (-1), 1) := by decide +kernel
theorem dX9_takeFirst_59 : decode cX9_takeFirst 59 = .ok (.ireturn, 1) := by decide +kernel
theorem dX9_takeFirst_60 : decode cX9_takeFirst 60 = .ok (.aload_n 0, 1) := by decide +kernel
theorem dX9_takeFirst_61 : decode cX9_takeFirst 61 = .ok (.aload_n 0, 1) := by decide +kernel
theorem dX9_takeFirst_62 : decode cX9_takeFirst 62 = .ok (.getfield 49, 3) := by decide +kernel
theorem dX9_takeFirst_65 : decode cX9_takeFirst 65 = .ok (.iload_n 2, 1) := by decide +kernel
theorem dX9_takeFirst_66 : decode cX9_takeFirst 66 = .ok (.iaload, 1) := by decide +kernel
theorem dX9_takeFirst_67 : decode cX9_takeFirst 67 = .ok (.aload_n 0, 1) := by decide +kernel
theorem dX9_takeFirst_68 : decode cX9_takeFirst 68 = .ok (.getfield 80, 3) := by decide +kernel
theorem dX9_takeFirst_71 : decode cX9_takeFirst 71 = .ok (.iload_n 1, 1) := by decide +kernel
theorem dX9_takeFirst_72 : decode cX9_takeFirst 72 = .ok (.iaload, 1) := by decide +kernel
theorem dX9_takeFirst_73 : decode cX9_takeFirst 73 = .ok (.invokevirtual 207, 3) := by decide +kernel
theorem dX9_takeFirst_76 : decode cX9_takeFirst 76 = .ok (.ifCond .ne 6, 3) := by decide +kernel
theorem dX9_takeFirst_79 : decode cX9_takeFirst 79 = .ok (.bipush (-2), 2) := by decide +kernel
theorem dX9_takeFirst_81 : decode cX9_takeFirst 81 = .ok (.ireturn, 1) := by decide +kernel
theorem dX9_takeFirst_82 : decode cX9_takeFirst 82 = .ok (.bipush (-100), 2) := by decide +kernel
theorem dX9_takeFirst_84 : decode cX9_takeFirst 84 = .ok (.istore_n 3, 1) := by decide +kernel
theorem dX9_takeFirst_85 : decode cX9_takeFirst 85 = .ok (.iconst 1, 1) := by decide +kernel
theorem dX9_takeFirst_86 : decode cX9_takeFirst 86 = .ok (.istore 4, 2) := by decide +kernel
theorem dX9_takeFirst_88 : decode cX9_takeFirst 88 = .ok (.iload 4, 2) := by decide +kernel
theorem dX9_takeFirst_90 : decode cX9_takeFirst 90 = .ok (.aload_n 0, 1) := by decide +kernel
theorem dX9_takeFirst_91 : decode cX9_takeFirst 91 = .ok (.getfield 141, 3) := by decide +kernel
theorem dX9_takeFirst_94 : decode cX9_takeFirst 94 = .ok (.if_icmp .ge 80, 3) := by decide +kernel
theorem dX9_takeFirst_97 : decode cX9_takeFirst 97 = .ok (.aload_n 0, 1) := by decide +kernel
theorem dX9_takeFirst_98 : decode cX9_takeFirst 98 = .ok (.getfield 31, 3) := by decide +kernel
theorem dX9_takeFirst_101 : decode cX9_takeFirst 101 = .ok (.iload 4, 2) := by decide +kernel
theorem dX9_takeFirst_103 : decode cX9_takeFirst 103 = .ok (.iaload, 1) := by decide +kernel
theorem dX9_takeFirst_104 : decode cX9_takeFirst 104 = .ok (.iconst 1, 1) := by decide +kernel
theorem dX9_takeFirst_105 : decode cX9_takeFirst 105 = .ok (.if_icmp .ne 28, 3) := by decide +kernel
theorem dX9_takeFirst_108 : decode cX9_takeFirst 108 = .ok (.aload_n 0, 1) := by decide +kernel
theorem dX9_takeFirst_109 : decode cX9_takeFirst 109 = .ok (.getfield 7, 3) := by decide +kernel
theorem dX9_takeFirst_112 : decode cX9_takeFirst 112 = .ok (.iload 4, 2) := by decide +kernel
theorem dX9_takeFirst_114 : decode cX9_takeFirst 114 = .ok (.iaload, 1) := by decide +kernel
theorem dX9_takeFirst_115 : decode cX9_takeFirst 115 = .ok (.iload_n 2, 1) := by decide +kernel
theorem dX9_takeFirst_116 : decode cX9_takeFirst 116 = .ok (.if_icmp .ne 17, 3) := by decide +kernel
theorem dX9_takeFirst_119 : decode cX9_takeFirst 119 = .ok (.aload_n 0, 1) := by decide +kernel
theorem dX9_takeFirst_120 : decode cX9_takeFirst 120 = .ok (.iconst 0, 1) := by decide +kernel
theorem dX9_takeFirst_121 : decode cX9_takeFirst 121 = .ok (.iload 4, 2) := by decide +kernel
theorem dX9_takeFirst_123 : decode cX9_takeFirst 123 = .ok (.invokevirtual 221, 3) := by decide +kernel
theorem dX9_takeFirst_126 : decode cX9_takeFirst 126 = .ok (.ifCond .ne 7, 3) := by decide +kernel
theorem dX9_takeFirst_129 : decode cX9_takeFirst 129 = .ok (.iconst 1, 1) := by decide +kernel
theorem dX9_takeFirst_130 : decode cX9_takeFirst 130 = .ok (.goto 4, 3) := by decide +kernel
theorem dX9_takeFirst_133 : decode cX9_takeFirst 133 = .ok (.iconst 0, 1) := by decide +kernel
theorem dX9_takeFirst_134 : decode cX9_takeFirst 134 = .ok (.istore 5, 2) := by decide +kernel
theorem dX9_takeFirst_136 : decode cX9_takeFirst 136 = .ok (.iload 5, 2) := by decide +kernel
theorem dX9_takeFirst_138 : decode cX9_takeFirst 138 = .ok (.ifCond .eq 28, 3) := by decide +kernel
theorem dX9_takeFirst_141 : decode cX9_takeFirst 141 = .ok (.iload_n 3, 1) := by decide +kernel
theorem dX9_takeFirst_142 : decode cX9_takeFirst 142 = .ok (.ifCond .lt 19, 3) := by decide +kernel
theorem dX9_takeFirst_145 : decode cX9_takeFirst 145 = .ok (.aload_n 0, 1) := by decide +kernel
theorem dX9_takeFirst_146 : decode cX9_takeFirst 146 = .ok (.getfield 13, 3) := by decide +kernel
theorem dX9_takeFirst_149 : decode cX9_takeFirst 149 = .ok (.iload 4, 2) := by decide +kernel
theorem dX9_takeFirst_151 : decode cX9_takeFirst 151 = .ok (.iaload, 1) := by decide +kernel
theorem dX9_takeFirst_152 : decode cX9_takeFirst 152 = .ok (.aload_n 0, 1) := by decide +kernel
theorem dX9_takeFirst_153 : decode cX9_takeFirst 153 = .ok (.getfield 13, 3) := by decide +kernel
theorem dX9_takeFirst_156 : decode cX9_takeFirst 156 = .ok (.iload_n 3, 1) := by decide +kernel
theorem dX9_takeFirst_157 : decode cX9_takeFirst 157 = .ok (.iaload, 1) := by decide +kernel
theorem dX9_takeFirst_158 : decode cX9_takeFirst 158 = .ok (.if_icmp .ge 8, 3) := by decide +kernel
theorem dX9_takeFirst_161 : decode cX9_takeFirst 161 = .ok (.iload 4, 2) := by decide +kernel
theorem dX9_takeFirst_163 : decode cX9_takeFirst 163 = .ok (.goto 4, 3) := by decide +kernel
theorem dX9_takeFirst_166 : decode cX9_takeFirst 166 = .ok (.iload_n 3, 1) := by decide +kernel
theorem dX9_takeFirst_167 : decode cX9_takeFirst 167 = .ok (.istore_n 3, 1) := by decide +kernel
theorem dX9_takeFirst_168 : decode cX9_takeFirst 168 = .ok (.iinc 4 1, 3) := by decide +kernel
theorem dX9_takeFirst_171 : decode cX9_takeFirst 171 = .ok (.goto (-83), 3) := by decide +kernel
theorem dX9_takeFirst_174 : decode cX9_takeFirst 174 = .ok (.iload_n 3, 1) := by decide +kernel
theorem dX9_takeFirst_175 : decode cX9_takeFirst 175 = .ok (.ifCond .ge 6, 3) := by decide +kernel
theorem dX9_takeFirst_178 : decode cX9_takeFirst 178 = .ok (.bipush (-100), 2) := by decide +kernel
theorem dX9_takeFirst_180 : decode cX9_takeFirst 180 = .ok (.ireturn, 1) := by decide +kernel
theorem dX9_takeFirst_181 : decode cX9_takeFirst 181 = .ok (.aload_n 0, 1) := by decide +kernel
theorem dX9_takeFirst_182 : decode cX9_takeFirst 182 = .ok (.getfield 34, 3) := by decide +kernel
theorem dX9_takeFirst_185 : decode cX9_takeFirst 185 = .ok (.iload_n 3, 1) := by decide +kernel
theorem dX9_takeFirst_186 : decode cX9_takeFirst 186 = .ok (.iaload, 1) := by decide +kernel
theorem dX9_takeFirst_187 : decode cX9_takeFirst 187 = .ok (.istore 4, 2) := by decide +kernel
theorem dX9_takeFirst_189 : decode cX9_takeFirst 189 = .ok (.aload_n 0, 1) := by decide +kernel
theorem dX9_takeFirst_190 : decode cX9_takeFirst 190 = .ok (.invokevirtual 259, 3) := by decide +kernel
theorem dX9_takeFirst_193 : decode cX9_takeFirst 193 = .ok (.aload_n 0, 1) := by decide +kernel
theorem dX9_takeFirst_194 : decode cX9_takeFirst 194 = .ok (.iload_n 3, 1) := by decide +kernel
theorem dX9_takeFirst_195 : decode cX9_takeFirst 195 = .ok (.invokevirtual 224, 3) := by decide +kernel
theorem dX9_takeFirst_198 : decode cX9_takeFirst 198 = .ok (.istore 5, 2) := by decide +kernel
theorem dX9_takeFirst_200 : decode cX9_takeFirst 200 = .ok (.aload_n 0, 1) := by decide +kernel
theorem dX9_takeFirst_201 : decode cX9_takeFirst 201 = .ok (.iload_n 1, 1) := by decide +kernel
theorem dX9_takeFirst_202 : decode cX9_takeFirst 202 = .ok (.invokevirtual 266, 3) := by decide +kernel
theorem dX9_takeFirst_205 : decode cX9_takeFirst 205 = .ok (.ifCond .eq 8, 3) := by decide +kernel
theorem dX9_takeFirst_208 : decode cX9_takeFirst 208 = .ok (.bipush (-9), 2) := by decide +kernel
theorem dX9_takeFirst_210 : decode cX9_takeFirst 210 = .ok (.goto 5, 3) := by decide +kernel
theorem dX9_takeFirst_213 : decode cX9_takeFirst 213 = .ok (.iload 4, 2) := by decide +kernel
theorem dX9_takeFirst_215 : decode cX9_takeFirst 215 = .ok (.ireturn, 1) := by decide +kernel
theorem dX9_store_0 : decode cX9_store 0 = .ok (.aload_n 0, 1) := by decide +kernel
theorem dX9_store_1 : decode cX9_store 1 = .ok (.aload_n 0, 1) := by decide +kernel
theorem dX9_store_2 : decode cX9_store 2 = .ok (.iload_n 1, 1) := by decide +kernel
theorem dX9_store_3 : decode cX9_store 3 = .ok (.iconst 0, 1) := by decide +kernel
theorem dX9_store_4 : decode cX9_store 4 = .ok (.sipush 10000, 3) := by decide +kernel
theorem dX9_store_7 : decode cX9_store 7 = .ok (.invokevirtual 151, 3) := by decide +kernel
theorem dX9_store_10 : decode cX9_store 10 = .ok (.ifCond .eq 7, 3) := by decide +kernel
theorem dX9_store_13 : decode cX9_store 13 = .ok (.iconst 0, 1) := by decide +kernel
theorem dX9_store_14 : decode cX9_store 14 = .ok (.goto 4, 3) := by decide +kernel
theorem dX9_store_17 : decode cX9_store 17 = .ok (.iconst 1, 1) := by decide +kernel
theorem dX9_store_18 : decode cX9_store 18 = .ok (.invokevirtual 272, 3) := by decide +kernel
theorem dX9_store_21 : decode cX9_store 21 = .ok (.ifCond .ne 11, 3) := by decide +kernel
theorem dX9_store_24 : decode cX9_store 24 = .ok (.iload_n 1, 1) := by decide +kernel
theorem dX9_store_25 : decode cX9_store 25 = .ok (.aload_n 0, 1) := by decide +kernel
theorem dX9_store_26 : decode cX9_store 26 = .ok (.getfield 299, 3) := by decide +kernel
theorem dX9_store_29 : decode cX9_store 29 = .ok (.if_icmp .ge 5, 3) := by decide +kernel
theorem dX9_store_32 : decode cX9_store 32 = .ok (.iconst 0, 1) := by decide +kernel
theorem dX9_store_33 : decode cX9_store 33 = .ok (.ireturn, 1) := by decide +kernel
theorem dX9_store_34 : decode cX9_store 34 = .ok (.aload_n 0, 1) := by decide +kernel
theorem dX9_store_35 : decode cX9_store 35 = .ok (.iload_n 1, 1) := by decide +kernel
theorem dX9_store_36 : decode cX9_store 36 = .ok (.putfield 299, 3) := by decide +kernel
theorem dX9_store_39 : decode cX9_store 39 = .ok (.aload_n 0, 1) := by decide +kernel
theorem dX9_store_40 : decode cX9_store 40 = .ok (.iload_n 2, 1) := by decide +kernel
theorem dX9_store_41 : decode cX9_store 41 = .ok (.putfield 302, 3) := by decide +kernel
theorem dX9_store_44 : decode cX9_store 44 = .ok (.iconst 1, 1) := by decide +kernel
theorem dX9_store_45 : decode cX9_store 45 = .ok (.ireturn, 1) := by decide +kernel
theorem dX9_stored_0 : decode cX9_stored 0 = .ok (.aload_n 0, 1) := by decide +kernel
theorem dX9_stored_1 : decode cX9_stored 1 = .ok (.iconst 0, 1) := by decide +kernel
theorem dX9_stored_2 : decode cX9_stored 2 = .ok (.invokevirtual 272, 3) := by decide +kernel
theorem dX9_stored_5 : decode cX9_stored 5 = .ok (.pop, 1) := by decide +kernel
theorem dX9_stored_6 : decode cX9_stored 6 = .ok (.aload_n 0, 1) := by decide +kernel
theorem dX9_stored_7 : decode cX9_stored 7 = .ok (.getfield 302, 3) := by decide +kernel
theorem dX9_stored_10 : decode cX9_stored 10 = .ok (.ireturn, 1) := by decide +kernel
theorem dX9_valueAt_0 : decode cX9_valueAt 0 = .ok (.aload_n 0, 1) := by decide +kernel
theorem dX9_valueAt_1 : decode cX9_valueAt 1 = .ok (.aload_n 0, 1) := by decide +kernel
theorem dX9_valueAt_2 : decode cX9_valueAt 2 = .ok (.iload_n 2, 1) := by decide +kernel
theorem dX9_valueAt_3 : decode cX9_valueAt 3 = .ok (.iconst 0, 1) := by decide +kernel
theorem dX9_valueAt_4 : decode cX9_valueAt 4 = .ok (.aload_n 0, 1) := by decide +kernel
theorem dX9_valueAt_5 : decode cX9_valueAt 5 = .ok (.getfield 181, 3) := by decide +kernel
theorem dX9_valueAt_8 : decode cX9_valueAt 8 = .ok (.invokevirtual 151, 3) := by decide +kernel
theorem dX9_valueAt_11 : decode cX9_valueAt 11 = .ok (.ifCond .ne 7, 3) := by decide +kernel
theorem dX9_valueAt_14 : decode cX9_valueAt 14 = .ok (.iconst 1, 1) := by decide +kernel
theorem dX9_valueAt_15 : decode cX9_valueAt 15 = .ok (.goto 16, 3) := by decide +kernel
theorem dX9_valueAt_18 : decode cX9_valueAt 18 = .ok (.iload_n 2, 1) := by decide +kernel
theorem dX9_valueAt_19 : decode cX9_valueAt 19 = .ok (.aload_n 0, 1) := by decide +kernel
theorem dX9_valueAt_20 : decode cX9_valueAt 20 = .ok (.getfield 305, 3) := by decide +kernel
theorem dX9_valueAt_23 : decode cX9_valueAt 23 = .ok (.if_icmp .ge 7, 3) := by decide +kernel
theorem dX9_valueAt_26 : decode cX9_valueAt 26 = .ok (.iconst 2, 1) := by decide +kernel
theorem dX9_valueAt_27 : decode cX9_valueAt 27 = .ok (.goto 4, 3) := by decide +kernel
theorem dX9_valueAt_30 : decode cX9_valueAt 30 = .ok (.iconst 0, 1) := by decide +kernel
theorem dX9_valueAt_31 : decode cX9_valueAt 31 = .ok (.invokevirtual 272, 3) := by decide +kernel
theorem dX9_valueAt_34 : decode cX9_valueAt 34 = .ok (.ifCond .eq 5, 3) := by decide +kernel
theorem dX9_valueAt_37 : decode cX9_valueAt 37 = .ok (.iconst (-1), 1) := by decide +kernel
theorem dX9_valueAt_38 : decode cX9_valueAt 38 = .ok (.ireturn, 1) := by decide +kernel
theorem dX9_valueAt_39 : decode cX9_valueAt 39 = .ok (.iload_n 1, 1) := by decide +kernel
theorem dX9_valueAt_40 : decode cX9_valueAt 40 = .ok (.ifCond .ne 7, 3) := by decide +kernel
theorem dX9_valueAt_43 : decode cX9_valueAt 43 = .ok (.iconst 0, 1) := by decide +kernel
theorem dX9_valueAt_44 : decode cX9_valueAt 44 = .ok (.goto 5, 3) := by decide +kernel
theorem dX9_valueAt_47 : decode cX9_valueAt 47 = .ok (.bipush (-100), 2) := by decide +kernel
theorem dX9_valueAt_49 : decode cX9_valueAt 49 = .ok (.istore_n 3, 1) := by decide +kernel
theorem dX9_valueAt_50 : decode cX9_valueAt 50 = .ok (.iconst 0, 1) := by decide +kernel
theorem dX9_valueAt_51 : decode cX9_valueAt 51 = .ok (.istore 4, 2) := by decide +kernel
theorem dX9_valueAt_53 : decode cX9_valueAt 53 = .ok (.iload 4, 2) := by decide +kernel
theorem dX9_valueAt_55 : decode cX9_valueAt 55 = .ok (.aload_n 0, 1) := by decide +kernel
theorem dX9_valueAt_56 : decode cX9_valueAt 56 = .ok (.getfield 158, 3) := by decide +kernel
theorem dX9_valueAt_59 : decode cX9_valueAt 59 = .ok (.if_icmp .ge 83, 3) := by decide +kernel
theorem dX9_valueAt_62 : decode cX9_valueAt 62 = .ok (.aload_n 0, 1) := by decide +kernel
theorem dX9_valueAt_63 : decode cX9_valueAt 63 = .ok (.getfield 59, 3) := by decide +kernel
theorem dX9_valueAt_66 : decode cX9_valueAt 66 = .ok (.iload 4, 2) := by decide +kernel
theorem dX9_valueAt_68 : decode cX9_valueAt 68 = .ok (.iaload, 1) := by decide +kernel
theorem dX9_valueAt_69 : decode cX9_valueAt 69 = .ok (.iload_n 2, 1) := by decide +kernel
theorem dX9_valueAt_70 : decode cX9_valueAt 70 = .ok (.if_icmp .gt 72, 3) := by decide +kernel
theorem dX9_valueAt_73 : decode cX9_valueAt 73 = .ok (.aload_n 0, 1) := by decide +kernel
theorem dX9_valueAt_74 : decode cX9_valueAt 74 = .ok (.getfield 62, 3) := by decide +kernel
theorem dX9_valueAt_77 : decode cX9_valueAt 77 = .ok (.iload 4, 2) := by decide +kernel
theorem dX9_valueAt_79 : decode cX9_valueAt 79 = .ok (.iaload, 1) := by decide +kernel
theorem dX9_valueAt_80 : decode cX9_valueAt 80 = .ok (.iconst 4, 1) := by decide +kernel
theorem dX9_valueAt_81 : decode cX9_valueAt 81 = .ok (.if_icmp .ne 9, 3) := by decide +kernel
theorem dX9_valueAt_84 : decode cX9_valueAt 84 = .ok (.bipush (-100), 2) := by decide +kernel
theorem dX9_valueAt_86 : decode cX9_valueAt 86 = .ok (.istore_n 3, 1) := by decide +kernel
theorem dX9_valueAt_87 : decode cX9_valueAt 87 = .ok (.goto 49, 3) := by decide +kernel
theorem dX9_valueAt_90 : decode cX9_valueAt 90 = .ok (.aload_n 0, 1) := by decide +kernel
theorem dX9_valueAt_91 : decode cX9_valueAt 91 = .ok (.getfield 65, 3) := by decide +kernel
theorem dX9_valueAt_94 : decode cX9_valueAt 94 = .ok (.iload 4, 2) := by decide +kernel
theorem dX9_valueAt_96 : decode cX9_valueAt 96 = .ok (.iaload, 1) := by decide +kernel
theorem dX9_valueAt_97 : decode cX9_valueAt 97 = .ok (.iload_n 1, 1) := by decide +kernel
theorem dX9_valueAt_98 : decode cX9_valueAt 98 = .ok (.if_icmp .ne 38, 3) := by decide +kernel
theorem dX9_valueAt_101 : decode cX9_valueAt 101 = .ok (.aload_n 0, 1) := by decide +kernel
theorem dX9_valueAt_102 : decode cX9_valueAt 102 = .ok (.getfield 62, 3) := by decide +kernel
theorem dX9_valueAt_105 : decode cX9_valueAt 105 = .ok (.iload 4, 2) := by decide +kernel
theorem dX9_valueAt_107 : decode cX9_valueAt 107 = .ok (.iaload, 1) := by decide +kernel
theorem dX9_valueAt_108 : decode cX9_valueAt 108 = .ok (.iconst 3, 1) := by decide +kernel
theorem dX9_valueAt_109 : decode cX9_valueAt 109 = .ok (.if_icmp .eq 27, 3) := by decide +kernel
theorem dX9_valueAt_112 : decode cX9_valueAt 112 = .ok (.aload_n 0, 1) := by decide +kernel
theorem dX9_valueAt_113 : decode cX9_valueAt 113 = .ok (.getfield 62, 3) := by decide +kernel
theorem dX9_valueAt_116 : decode cX9_valueAt 116 = .ok (.iload 4, 2) := by decide +kernel
theorem dX9_valueAt_118 : decode cX9_valueAt 118 = .ok (.iaload, 1) := by decide +kernel
theorem dX9_valueAt_119 : decode cX9_valueAt 119 = .ok (.iconst 2, 1) := by decide +kernel
theorem dX9_valueAt_120 : decode cX9_valueAt 120 = .ok (.if_icmp .ne 8, 3) := by decide +kernel
theorem dX9_valueAt_123 : decode cX9_valueAt 123 = .ok (.bipush (-100), 2) := by decide +kernel
theorem dX9_valueAt_125 : decode cX9_valueAt 125 = .ok (.goto 10, 3) := by decide +kernel
theorem dX9_valueAt_128 : decode cX9_valueAt 128 = .ok (.aload_n 0, 1) := by decide +kernel
theorem dX9_valueAt_129 : decode cX9_valueAt 129 = .ok (.getfield 68, 3) := by decide +kernel
theorem dX9_valueAt_132 : decode cX9_valueAt 132 = .ok (.iload 4, 2) := by decide +kernel
theorem dX9_valueAt_134 : decode cX9_valueAt 134 = .ok (.iaload, 1) := by decide +kernel
theorem dX9_valueAt_135 : decode cX9_valueAt 135 = .ok (.istore_n 3, 1) := by decide +kernel
theorem dX9_valueAt_136 : decode cX9_valueAt 136 = .ok (.iinc 4 1, 3) := by decide +kernel
theorem dX9_valueAt_139 : decode cX9_valueAt 139 = .ok (.goto (-86), 3) := by decide +kernel
theorem dX9_valueAt_142 : decode cX9_valueAt 142 = .ok (.iload_n 3, 1) := by decide +kernel
theorem dX9_valueAt_143 : decode cX9_valueAt 143 = .ok (.ireturn, 1) := by decide +kernel
theorem dX9_changedAt_0 : decode cX9_changedAt 0 = .ok (.aload_n 0, 1) := by decide +kernel
theorem dX9_changedAt_1 : decode cX9_changedAt 1 = .ok (.iload_n 3, 1) := by decide +kernel
theorem dX9_changedAt_2 : decode cX9_changedAt 2 = .ok (.ifCond .ge 7, 3) := by decide +kernel
theorem dX9_changedAt_5 : decode cX9_changedAt 5 = .ok (.iconst 1, 1) := by decide +kernel
theorem dX9_changedAt_6 : decode cX9_changedAt 6 = .ok (.goto 33, 3) := by decide +kernel
theorem dX9_changedAt_9 : decode cX9_changedAt 9 = .ok (.aload_n 0, 1) := by decide +kernel
theorem dX9_changedAt_10 : decode cX9_changedAt 10 = .ok (.iload_n 2, 1) := by decide +kernel
theorem dX9_changedAt_11 : decode cX9_changedAt 11 = .ok (.iconst 0, 1) := by decide +kernel
theorem dX9_changedAt_12 : decode cX9_changedAt 12 = .ok (.aload_n 0, 1) := by decide +kernel
theorem dX9_changedAt_13 : decode cX9_changedAt 13 = .ok (.getfield 181, 3) := by decide +kernel
theorem dX9_changedAt_16 : decode cX9_changedAt 16 = .ok (.invokevirtual 151, 3) := by decide +kernel
theorem dX9_changedAt_19 : decode cX9_changedAt 19 = .ok (.ifCond .ne 7, 3) := by decide +kernel
theorem dX9_changedAt_22 : decode cX9_changedAt 22 = .ok (.iconst 2, 1) := by decide +kernel
theorem dX9_changedAt_23 : decode cX9_changedAt 23 = .ok (.goto 16, 3) := by decide +kernel
theorem dX9_changedAt_26 : decode cX9_changedAt 26 = .ok (.iload_n 2, 1) := by decide +kernel
theorem dX9_changedAt_27 : decode cX9_changedAt 27 = .ok (.aload_n 0, 1) := by decide +kernel
theorem dX9_changedAt_28 : decode cX9_changedAt 28 = .ok (.getfield 305, 3) := by decide +kernel
theorem dX9_changedAt_31 : decode cX9_changedAt 31 = .ok (.if_icmp .ge 7, 3) := by decide +kernel
theorem dX9_changedAt_34 : decode cX9_changedAt 34 = .ok (.iconst 3, 1) := by decide +kernel
theorem dX9_changedAt_35 : decode cX9_changedAt 35 = .ok (.goto 4, 3) := by decide +kernel
theorem dX9_changedAt_38 : decode cX9_changedAt 38 = .ok (.iconst 0, 1) := by decide +kernel
theorem dX9_changedAt_39 : decode cX9_changedAt 39 = .ok (.invokevirtual 272, 3) := by decide +kernel
theorem dX9_changedAt_42 : decode cX9_changedAt 42 = .ok (.ifCond .eq 5, 3) := by decide +kernel
theorem dX9_changedAt_45 : decode cX9_changedAt 45 = .ok (.iconst (-1), 1) := by decide +kernel
theorem dX9_changedAt_46 : decode cX9_changedAt 46 = .ok (.ireturn, 1) := by decide +kernel
theorem dX9_changedAt_47 : decode cX9_changedAt 47 = .ok (.iload_n 3, 1) := by decide +kernel
theorem dX9_changedAt_48 : decode cX9_changedAt 48 = .ok (.istore 4, 2) := by decide +kernel
theorem dX9_changedAt_50 : decode cX9_changedAt 50 = .ok (.iload_n 2, 1) := by decide +kernel
theorem dX9_changedAt_51 : decode cX9_changedAt 51 = .ok (.istore 5, 2) := by decide +kernel
theorem dX9_changedAt_53 : decode cX9_changedAt 53 = .ok (.iconst 0, 1) := by decide +kernel
theorem dX9_changedAt_54 : decode cX9_changedAt 54 = .ok (.istore 6, 2) := by decide +kernel
theorem dX9_changedAt_56 : decode cX9_changedAt 56 = .ok (.iload 6, 2) := by decide +kernel
theorem dX9_changedAt_58 : decode cX9_changedAt 58 = .ok (.aload_n 0, 1) := by decide +kernel
theorem dX9_changedAt_59 : decode cX9_changedAt 59 = .ok (.getfield 158, 3) := by decide +kernel
theorem dX9_changedAt_62 : decode cX9_changedAt 62 = .ok (.if_icmp .ge 63, 3) := by decide +kernel
theorem dX9_changedAt_65 : decode cX9_changedAt 65 = .ok (.aload_n 0, 1) := by decide +kernel
theorem dX9_changedAt_66 : decode cX9_changedAt 66 = .ok (.getfield 65, 3) := by decide +kernel
theorem dX9_changedAt_69 : decode cX9_changedAt 69 = .ok (.iload 6, 2) := by decide +kernel
theorem dX9_changedAt_71 : decode cX9_changedAt 71 = .ok (.iaload, 1) := by decide +kernel
