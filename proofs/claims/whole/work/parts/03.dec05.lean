theorem dX9_below_31 : decode cX9_below 31 = .ok (.invokevirtual 184, 3) := by decide +kernel
theorem dX9_below_34 : decode cX9_below 34 = .ok (.ifCond .eq 7, 3) := by decide +kernel
theorem dX9_below_37 : decode cX9_below 37 = .ok (.iconst 1, 1) := by decide +kernel
theorem dX9_below_38 : decode cX9_below 38 = .ok (.goto 4, 3) := by decide +kernel
theorem dX9_below_41 : decode cX9_below 41 = .ok (.iconst 0, 1) := by decide +kernel
theorem dX9_below_42 : decode cX9_below 42 = .ok (.iadd, 1) := by decide +kernel
theorem dX9_below_43 : decode cX9_below 43 = .ok (.istore_n 2, 1) := by decide +kernel
theorem dX9_below_44 : decode cX9_below 44 = .ok (.iinc 3 1, 3) := by decide +kernel
theorem dX9_below_47 : decode cX9_below 47 = .ok (.goto (-43), 3) := by decide +kernel
theorem dX9_below_50 : decode cX9_below 50 = .ok (.iload_n 2, 1) := by decide +kernel
theorem dX9_below_51 : decode cX9_below 51 = .ok (.ireturn, 1) := by decide +kernel
theorem dX9_named_0 : decode cX9_named 0 = .ok (.iconst (-1), 1) := by decide +kernel
theorem dX9_named_1 : decode cX9_named 1 = .ok (.istore_n 3, 1) := by decide +kernel
theorem dX9_named_2 : decode cX9_named 2 = .ok (.iconst 1, 1) := by decide +kernel
theorem dX9_named_3 : decode cX9_named 3 = .ok (.istore 4, 2) := by decide +kernel
theorem dX9_named_5 : decode cX9_named 5 = .ok (.iload 4, 2) := by decide +kernel
theorem dX9_named_7 : decode cX9_named 7 = .ok (.aload_n 0, 1) := by decide +kernel
theorem dX9_named_8 : decode cX9_named 8 = .ok (.getfield 141, 3) := by decide +kernel
theorem dX9_named_11 : decode cX9_named 11 = .ok (.if_icmp .ge 49, 3) := by decide +kernel
theorem dX9_named_14 : decode cX9_named 14 = .ok (.aload_n 0, 1) := by decide +kernel
theorem dX9_named_15 : decode cX9_named 15 = .ok (.getfield 31, 3) := by decide +kernel
theorem dX9_named_18 : decode cX9_named 18 = .ok (.iload 4, 2) := by decide +kernel
theorem dX9_named_20 : decode cX9_named 20 = .ok (.iaload, 1) := by decide +kernel
theorem dX9_named_21 : decode cX9_named 21 = .ok (.iconst 1, 1) := by decide +kernel
theorem dX9_named_22 : decode cX9_named 22 = .ok (.if_icmp .ne 30, 3) := by decide +kernel
theorem dX9_named_25 : decode cX9_named 25 = .ok (.aload_n 0, 1) := by decide +kernel
theorem dX9_named_26 : decode cX9_named 26 = .ok (.getfield 7, 3) := by decide +kernel
theorem dX9_named_29 : decode cX9_named 29 = .ok (.iload 4, 2) := by decide +kernel
theorem dX9_named_31 : decode cX9_named 31 = .ok (.iaload, 1) := by decide +kernel
theorem dX9_named_32 : decode cX9_named 32 = .ok (.iload_n 1, 1) := by decide +kernel
theorem dX9_named_33 : decode cX9_named 33 = .ok (.if_icmp .ne 19, 3) := by decide +kernel
theorem dX9_named_36 : decode cX9_named 36 = .ok (.aload_n 0, 1) := by decide +kernel
theorem dX9_named_37 : decode cX9_named 37 = .ok (.getfield 13, 3) := by decide +kernel
theorem dX9_named_40 : decode cX9_named 40 = .ok (.iload 4, 2) := by decide +kernel
theorem dX9_named_42 : decode cX9_named 42 = .ok (.iaload, 1) := by decide +kernel
theorem dX9_named_43 : decode cX9_named 43 = .ok (.iload_n 2, 1) := by decide +kernel
theorem dX9_named_44 : decode cX9_named 44 = .ok (.if_icmp .ne 8, 3) := by decide +kernel
theorem dX9_named_47 : decode cX9_named 47 = .ok (.iload 4, 2) := by decide +kernel
theorem dX9_named_49 : decode cX9_named 49 = .ok (.goto 4, 3) := by decide +kernel
theorem dX9_named_52 : decode cX9_named 52 = .ok (.iload_n 3, 1) := by decide +kernel
theorem dX9_named_53 : decode cX9_named 53 = .ok (.istore_n 3, 1) := by decide +kernel
theorem dX9_named_54 : decode cX9_named 54 = .ok (.iinc 4 1, 3) := by decide +kernel
theorem dX9_named_57 : decode cX9_named 57 = .ok (.goto (-52), 3) := by decide +kernel
theorem dX9_named_60 : decode cX9_named 60 = .ok (.iload_n 3, 1) := by decide +kernel
theorem dX9_named_61 : decode cX9_named 61 = .ok (.ireturn, 1) := by decide +kernel
theorem dX9_fills_0 : decode cX9_fills 0 = .ok (.iconst 0, 1) := by decide +kernel
theorem dX9_fills_1 : decode cX9_fills 1 = .ok (.istore_n 2, 1) := by decide +kernel
theorem dX9_fills_2 : decode cX9_fills 2 = .ok (.iload_n 1, 1) := by decide +kernel
theorem dX9_fills_3 : decode cX9_fills 3 = .ok (.istore_n 3, 1) := by decide +kernel
theorem dX9_fills_4 : decode cX9_fills 4 = .ok (.iload_n 3, 1) := by decide +kernel
theorem dX9_fills_5 : decode cX9_fills 5 = .ok (.ifCond .lt 46, 3) := by decide +kernel
theorem dX9_fills_8 : decode cX9_fills 8 = .ok (.iload_n 2, 1) := by decide +kernel
theorem dX9_fills_9 : decode cX9_fills 9 = .ok (.aload_n 0, 1) := by decide +kernel
theorem dX9_fills_10 : decode cX9_fills 10 = .ok (.getfield 28, 3) := by decide +kernel
theorem dX9_fills_13 : decode cX9_fills 13 = .ok (.iload_n 3, 1) := by decide +kernel
theorem dX9_fills_14 : decode cX9_fills 14 = .ok (.iaload, 1) := by decide +kernel
theorem dX9_fills_15 : decode cX9_fills 15 = .ok (.ifCond .lt 23, 3) := by decide +kernel
theorem dX9_fills_18 : decode cX9_fills 18 = .ok (.aload_n 0, 1) := by decide +kernel
theorem dX9_fills_19 : decode cX9_fills 19 = .ok (.iload_n 3, 1) := by decide +kernel
theorem dX9_fills_20 : decode cX9_fills 20 = .ok (.invokevirtual 200, 3) := by decide +kernel
theorem dX9_fills_23 : decode cX9_fills 23 = .ok (.iconst 1, 1) := by decide +kernel
theorem dX9_fills_24 : decode cX9_fills 24 = .ok (.iadd, 1) := by decide +kernel
theorem dX9_fills_25 : decode cX9_fills 25 = .ok (.aload_n 0, 1) := by decide +kernel
theorem dX9_fills_26 : decode cX9_fills 26 = .ok (.getfield 28, 3) := by decide +kernel
theorem dX9_fills_29 : decode cX9_fills 29 = .ok (.iload_n 3, 1) := by decide +kernel
theorem dX9_fills_30 : decode cX9_fills 30 = .ok (.iaload, 1) := by decide +kernel
theorem dX9_fills_31 : decode cX9_fills 31 = .ok (.if_icmp .le 7, 3) := by decide +kernel
theorem dX9_fills_34 : decode cX9_fills 34 = .ok (.iconst 1, 1) := by decide +kernel
theorem dX9_fills_35 : decode cX9_fills 35 = .ok (.goto 4, 3) := by decide +kernel
theorem dX9_fills_38 : decode cX9_fills 38 = .ok (.iconst 0, 1) := by decide +kernel
theorem dX9_fills_39 : decode cX9_fills 39 = .ok (.ior, 1) := by decide +kernel
theorem dX9_fills_40 : decode cX9_fills 40 = .ok (.istore_n 2, 1) := by decide +kernel
theorem dX9_fills_41 : decode cX9_fills 41 = .ok (.aload_n 0, 1) := by decide +kernel
theorem dX9_fills_42 : decode cX9_fills 42 = .ok (.getfield 7, 3) := by decide +kernel
theorem dX9_fills_45 : decode cX9_fills 45 = .ok (.iload_n 3, 1) := by decide +kernel
theorem dX9_fills_46 : decode cX9_fills 46 = .ok (.iaload, 1) := by decide +kernel
theorem dX9_fills_47 : decode cX9_fills 47 = .ok (.istore_n 3, 1) := by decide +kernel
theorem dX9_fills_48 : decode cX9_fills 48 = .ok (.goto (-44), 3) := by decide +kernel
theorem dX9_fills_51 : decode cX9_fills 51 = .ok (.iload_n 2, 1) := by decide +kernel
theorem dX9_fills_52 : decode cX9_fills 52 = .ok (.ireturn, 1) := by decide +kernel
theorem dX9_may_0 : decode cX9_may 0 = .ok (.iload_n 1, 1) := by decide +kernel
theorem dX9_may_1 : decode cX9_may 1 = .ok (.iload_n 2, 1) := by decide +kernel
theorem dX9_may_2 : decode cX9_may 2 = .ok (.ishr, 1) := by decide +kernel
theorem dX9_may_3 : decode cX9_may 3 = .ok (.iconst 1, 1) := by decide +kernel
theorem dX9_may_4 : decode cX9_may 4 = .ok (.iand, 1) := by decide +kernel
theorem dX9_may_5 : decode cX9_may 5 = .ok (.iconst 1, 1) := by decide +kernel
theorem dX9_may_6 : decode cX9_may 6 = .ok (.if_icmp .ne 7, 3) := by decide +kernel
theorem dX9_may_9 : decode cX9_may 9 = .ok (.iconst 1, 1) := by decide +kernel
theorem dX9_may_10 : decode cX9_may 10 = .ok (.goto 4, 3) := by decide +kernel
theorem dX9_may_13 : decode cX9_may 13 = .ok (.iconst 0, 1) := by decide +kernel
theorem dX9_may_14 : decode cX9_may 14 = .ok (.ireturn, 1) := by decide +kernel
theorem dX9_makes_0 : decode cX9_makes 0 = .ok (.aload_n 0, 1) := by decide +kernel
theorem dX9_makes_1 : decode cX9_makes 1 = .ok (.iconst 0, 1) := by decide +kernel
theorem dX9_makes_2 : decode cX9_makes 2 = .ok (.iload_n 2, 1) := by decide +kernel
theorem dX9_makes_3 : decode cX9_makes 3 = .ok (.invokevirtual 204, 3) := by decide +kernel
theorem dX9_makes_6 : decode cX9_makes 6 = .ok (.ifCond .ne 5, 3) := by decide +kernel
theorem dX9_makes_9 : decode cX9_makes 9 = .ok (.iconst (-1), 1) := by decide +kernel
theorem dX9_makes_10 : decode cX9_makes 10 = .ok (.ireturn, 1) := by decide +kernel
theorem dX9_makes_11 : decode cX9_makes 11 = .ok (.aload_n 0, 1) := by decide +kernel
theorem dX9_makes_12 : decode cX9_makes 12 = .ok (.aload_n 0, 1) := by decide +kernel
theorem dX9_makes_13 : decode cX9_makes 13 = .ok (.getfield 49, 3) := by decide +kernel
theorem dX9_makes_16 : decode cX9_makes 16 = .ok (.iload_n 2, 1) := by decide +kernel
theorem dX9_makes_17 : decode cX9_makes 17 = .ok (.iaload, 1) := by decide +kernel
theorem dX9_makes_18 : decode cX9_makes 18 = .ok (.aload_n 0, 1) := by decide +kernel
theorem dX9_makes_19 : decode cX9_makes 19 = .ok (.getfield 80, 3) := by decide +kernel
theorem dX9_makes_22 : decode cX9_makes 22 = .ok (.iload_n 1, 1) := by decide +kernel
theorem dX9_makes_23 : decode cX9_makes 23 = .ok (.iaload, 1) := by decide +kernel
theorem dX9_makes_24 : decode cX9_makes 24 = .ok (.invokevirtual 207, 3) := by decide +kernel
theorem dX9_makes_27 : decode cX9_makes 27 = .ok (.ifCond .ne 6, 3) := by decide +kernel
theorem dX9_makes_30 : decode cX9_makes 30 = .ok (.bipush (-2), 2) := by decide +kernel
theorem dX9_makes_32 : decode cX9_makes 32 = .ok (.ireturn, 1) := by decide +kernel
theorem dX9_makes_33 : decode cX9_makes 33 = .ok (.iload 4, 2) := by decide +kernel
theorem dX9_makes_35 : decode cX9_makes 35 = .ok (.ifCond .ne 15, 3) := by decide +kernel
theorem dX9_makes_38 : decode cX9_makes 38 = .ok (.aload_n 0, 1) := by decide +kernel
theorem dX9_makes_39 : decode cX9_makes 39 = .ok (.iload_n 2, 1) := by decide +kernel
theorem dX9_makes_40 : decode cX9_makes 40 = .ok (.iload_n 3, 1) := by decide +kernel
theorem dX9_makes_41 : decode cX9_makes 41 = .ok (.invokevirtual 210, 3) := by decide +kernel
theorem dX9_makes_44 : decode cX9_makes 44 = .ok (.ifCond .lt 6, 3) := by decide +kernel
theorem dX9_makes_47 : decode cX9_makes 47 = .ok (.bipush (-4), 2) := by decide +kernel
theorem dX9_makes_49 : decode cX9_makes 49 = .ok (.ireturn, 1) := by decide +kernel
theorem dX9_makes_50 : decode cX9_makes 50 = .ok (.aload_n 0, 1) := by decide +kernel
theorem dX9_makes_51 : decode cX9_makes 51 = .ok (.getfield 16, 3) := by decide +kernel
theorem dX9_makes_54 : decode cX9_makes 54 = .ok (.iload_n 2, 1) := by decide +kernel
theorem dX9_makes_55 : decode cX9_makes 55 = .ok (.iaload, 1) := by decide +kernel
theorem dX9_makes_56 : decode cX9_makes 56 = .ok (.iconst 1, 1) := by decide +kernel
theorem dX9_makes_57 : decode cX9_makes 57 = .ok (.if_icmp .eq 13, 3) := by decide +kernel
theorem dX9_makes_60 : decode cX9_makes 60 = .ok (.aload_n 0, 1) := by decide +kernel
theorem dX9_makes_61 : decode cX9_makes 61 = .ok (.getfield 16, 3) := by decide +kernel
theorem dX9_makes_64 : decode cX9_makes 64 = .ok (.iload_n 2, 1) := by decide +kernel
theorem dX9_makes_65 : decode cX9_makes 65 = .ok (.iaload, 1) := by decide +kernel
theorem dX9_makes_66 : decode cX9_makes 66 = .ok (.iconst 2, 1) := by decide +kernel
theorem dX9_makes_67 : decode cX9_makes 67 = .ok (.if_icmp .ne 6, 3) := by decide +kernel
theorem dX9_makes_70 : decode cX9_makes 70 = .ok (.bipush (-5), 2) := by decide +kernel
theorem dX9_makes_72 : decode cX9_makes 72 = .ok (.ireturn, 1) := by decide +kernel
theorem dX9_makes_73 : decode cX9_makes 73 = .ok (.aload_n 0, 1) := by decide +kernel
theorem dX9_makes_74 : decode cX9_makes 74 = .ok (.iload_n 2, 1) := by decide +kernel
theorem dX9_makes_75 : decode cX9_makes 75 = .ok (.invokevirtual 214, 3) := by decide +kernel
theorem dX9_makes_78 : decode cX9_makes 78 = .ok (.ifCond .eq 6, 3) := by decide +kernel
theorem dX9_makes_81 : decode cX9_makes 81 = .ok (.bipush (-7), 2) := by decide +kernel
theorem dX9_makes_83 : decode cX9_makes 83 = .ok (.ireturn, 1) := by decide +kernel
theorem dX9_makes_84 : decode cX9_makes 84 = .ok (.aload_n 0, 1) := by decide +kernel
theorem dX9_makes_85 : decode cX9_makes 85 = .ok (.getfield 141, 3) := by decide +kernel
theorem dX9_makes_88 : decode cX9_makes 88 = .ok (.bipush 80, 2) := by decide +kernel
theorem dX9_makes_90 : decode cX9_makes 90 = .ok (.if_icmp .ne 6, 3) := by decide +kernel
theorem dX9_makes_93 : decode cX9_makes 93 = .ok (.bipush (-8), 2) := by decide +kernel
theorem dX9_makes_95 : decode cX9_makes 95 = .ok (.ireturn, 1) := by decide +kernel
theorem dX9_makes_96 : decode cX9_makes 96 = .ok (.aload_n 0, 1) := by decide +kernel
theorem dX9_makes_97 : decode cX9_makes 97 = .ok (.getfield 141, 3) := by decide +kernel
theorem dX9_makes_100 : decode cX9_makes 100 = .ok (.istore 8, 2) := by decide +kernel
theorem dX9_makes_102 : decode cX9_makes 102 = .ok (.aload_n 0, 1) := by decide +kernel
theorem dX9_makes_103 : decode cX9_makes 103 = .ok (.dup, 1) := by decide +kernel
theorem dX9_makes_104 : decode cX9_makes 104 = .ok (.getfield 141, 3) := by decide +kernel
theorem dX9_makes_107 : decode cX9_makes 107 = .ok (.iconst 1, 1) := by decide +kernel
theorem dX9_makes_108 : decode cX9_makes 108 = .ok (.iadd, 1) := by decide +kernel
theorem dX9_makes_109 : decode cX9_makes 109 = .ok (.putfield 141, 3) := by decide +kernel
theorem dX9_makes_112 : decode cX9_makes 112 = .ok (.aload_n 0, 1) := by decide +kernel
theorem dX9_makes_113 : decode cX9_makes 113 = .ok (.getfield 7, 3) := by decide +kernel
theorem dX9_makes_116 : decode cX9_makes 116 = .ok (.iload 8, 2) := by decide +kernel
theorem dX9_makes_118 : decode cX9_makes 118 = .ok (.iload_n 2, 1) := by decide +kernel
theorem dX9_makes_119 : decode cX9_makes 119 = .ok (.iastore, 1) := by decide +kernel
theorem dX9_makes_120 : decode cX9_makes 120 = .ok (.aload_n 0, 1) := by decide +kernel
theorem dX9_makes_121 : decode cX9_makes 121 = .ok (.getfield 13, 3) := by decide +kernel
theorem dX9_makes_124 : decode cX9_makes 124 = .ok (.iload 8, 2) := by decide +kernel
theorem dX9_makes_126 : decode cX9_makes 126 = .ok (.iload 4, 2) := by decide +kernel
theorem dX9_makes_128 : decode cX9_makes 128 = .ok (.iconst 1, 1) := by decide +kernel
theorem dX9_makes_129 : decode cX9_makes 129 = .ok (.if_icmp .ne 16, 3) := by decide +kernel
theorem dX9_makes_132 : decode cX9_makes 132 = .ok (.sipush 1000, 3) := by decide +kernel
theorem dX9_makes_135 : decode cX9_makes 135 = .ok (.aload_n 0, 1) := by decide +kernel
theorem dX9_makes_136 : decode cX9_makes 136 = .ok (.getfield 25, 3) := by decide +kernel
theorem dX9_makes_139 : decode cX9_makes 139 = .ok (.iload_n 2, 1) := by decide +kernel
theorem dX9_makes_140 : decode cX9_makes 140 = .ok (.iaload, 1) := by decide +kernel
theorem dX9_makes_141 : decode cX9_makes 141 = .ok (.iadd, 1) := by decide +kernel
theorem dX9_makes_142 : decode cX9_makes 142 = .ok (.goto 4, 3) := by decide +kernel
theorem dX9_makes_145 : decode cX9_makes 145 = .ok (.iload_n 3, 1) := by decide +kernel
theorem dX9_makes_146 : decode cX9_makes 146 = .ok (.iastore, 1) := by decide +kernel
theorem dX9_makes_147 : decode cX9_makes 147 = .ok (.aload_n 0, 1) := by decide +kernel
theorem dX9_makes_148 : decode cX9_makes 148 = .ok (.getfield 25, 3) := by decide +kernel
theorem dX9_makes_151 : decode cX9_makes 151 = .ok (.iload_n 2, 1) := by decide +kernel
theorem dX9_makes_152 : decode cX9_makes 152 = .ok (.dup2, 1) := by decide +kernel
theorem dX9_makes_153 : decode cX9_makes 153 = .ok (.iaload, 1) := by decide +kernel
theorem dX9_makes_154 : decode cX9_makes 154 = .ok (.iload 4, 2) := by decide +kernel
theorem dX9_makes_156 : decode cX9_makes 156 = .ok (.iadd, 1) := by decide +kernel
theorem dX9_makes_157 : decode cX9_makes 157 = .ok (.iastore, 1) := by decide +kernel
theorem dX9_makes_158 : decode cX9_makes 158 = .ok (.aload_n 0, 1) := by decide +kernel
theorem dX9_makes_159 : decode cX9_makes 159 = .ok (.getfield 25, 3) := by decide +kernel
theorem dX9_makes_162 : decode cX9_makes 162 = .ok (.iload 8, 2) := by decide +kernel
theorem dX9_makes_164 : decode cX9_makes 164 = .ok (.iconst 0, 1) := by decide +kernel
theorem dX9_makes_165 : decode cX9_makes 165 = .ok (.iastore, 1) := by decide +kernel
theorem dX9_makes_166 : decode cX9_makes 166 = .ok (.aload_n 0, 1) := by decide +kernel
theorem dX9_makes_167 : decode cX9_makes 167 = .ok (.getfield 28, 3) := by decide +kernel
theorem dX9_makes_170 : decode cX9_makes 170 = .ok (.iload 8, 2) := by decide +kernel
theorem dX9_makes_172 : decode cX9_makes 172 = .ok (.iconst (-1), 1) := by decide +kernel
theorem dX9_makes_173 : decode cX9_makes 173 = .ok (.iastore, 1) := by decide +kernel
theorem dX9_makes_174 : decode cX9_makes 174 = .ok (.aload_n 0, 1) := by decide +kernel
theorem dX9_makes_175 : decode cX9_makes 175 = .ok (.getfield 16, 3) := by decide +kernel
theorem dX9_makes_178 : decode cX9_makes 178 = .ok (.iload 8, 2) := by decide +kernel
theorem dX9_makes_180 : decode cX9_makes 180 = .ok (.iload 6, 2) := by decide +kernel
theorem dX9_makes_182 : decode cX9_makes 182 = .ok (.iastore, 1) := by decide +kernel
theorem dX9_makes_183 : decode cX9_makes 183 = .ok (.aload_n 0, 1) := by decide +kernel
theorem dX9_makes_184 : decode cX9_makes 184 = .ok (.getfield 19, 3) := by decide +kernel
theorem dX9_makes_187 : decode cX9_makes 187 = .ok (.iload 8, 2) := by decide +kernel
theorem dX9_makes_189 : decode cX9_makes 189 = .ok (.iload 6, 2) := by decide +kernel
theorem dX9_makes_191 : decode cX9_makes 191 = .ok (.iconst 1, 1) := by decide +kernel
theorem dX9_makes_192 : decode cX9_makes 192 = .ok (.if_icmp .ne 7, 3) := by decide +kernel
theorem dX9_makes_195 : decode cX9_makes 195 = .ok (.iload_n 1, 1) := by decide +kernel
theorem dX9_makes_196 : decode cX9_makes 196 = .ok (.goto 15, 3) := by decide +kernel
theorem dX9_makes_199 : decode cX9_makes 199 = .ok (.iload 6, 2) := by decide +kernel
theorem dX9_makes_201 : decode cX9_makes 201 = .ok (.iconst 2, 1) := by decide +kernel
theorem dX9_makes_202 : decode cX9_makes 202 = .ok (.if_icmp .ne 8, 3) := by decide +kernel
theorem dX9_makes_205 : decode cX9_makes 205 = .ok (.iload 7, 2) := by decide +kernel
theorem dX9_makes_207 : decode cX9_makes 207 = .ok (.goto 4, 3) := by decide +kernel
theorem dX9_makes_210 : decode cX9_makes 210 = .ok (.iconst (-1), 1) := by decide +kernel
theorem dX9_makes_211 : decode cX9_makes 211 = .ok (.iastore, 1) := by decide +kernel
theorem dX9_makes_212 : decode cX9_makes 212 = .ok (.aload_n 0, 1) := by decide +kernel
theorem dX9_makes_213 : decode cX9_makes 213 = .ok (.getfield 22, 3) := by decide +kernel
theorem dX9_makes_216 : decode cX9_makes 216 = .ok (.iload 8, 2) := by decide +kernel
theorem dX9_makes_218 : decode cX9_makes 218 = .ok (.aload_n 0, 1) := by decide +kernel
theorem dX9_makes_219 : decode cX9_makes 219 = .ok (.getfield 161, 3) := by decide +kernel
theorem dX9_makes_222 : decode cX9_makes 222 = .ok (.iastore, 1) := by decide +kernel
theorem dX9_makes_223 : decode cX9_makes 223 = .ok (.aload_n 0, 1) := by decide +kernel
theorem dX9_makes_224 : decode cX9_makes 224 = .ok (.iconst 0, 1) := by decide +kernel
theorem dX9_makes_225 : decode cX9_makes 225 = .ok (.iload 8, 2) := by decide +kernel
theorem dX9_makes_227 : decode cX9_makes 227 = .ok (.iload 5, 2) := by decide +kernel
theorem dX9_makes_229 : decode cX9_makes 229 = .ok (.iconst 0, 1) := by decide +kernel
theorem dX9_makes_230 : decode cX9_makes 230 = .ok (.invokevirtual 218, 3) := by decide +kernel
theorem dX9_makes_233 : decode cX9_makes 233 = .ok (.iload 8, 2) := by decide +kernel
theorem dX9_makes_235 : decode cX9_makes 235 = .ok (.ireturn, 1) := by decide +kernel
theorem dX9_sets_0 : decode cX9_sets 0 = .ok (.aload_n 0, 1) := by decide +kernel
theorem dX9_sets_1 : decode cX9_sets 1 = .ok (.iconst 0, 1) := by decide +kernel
theorem dX9_sets_2 : decode cX9_sets 2 = .ok (.iload_n 2, 1) := by decide +kernel
theorem dX9_sets_3 : decode cX9_sets 3 = .ok (.invokevirtual 204, 3) := by decide +kernel
theorem dX9_sets_6 : decode cX9_sets 6 = .ok (.ifCond .ne 5, 3) := by decide +kernel
theorem dX9_sets_9 : decode cX9_sets 9 = .ok (.iconst (-1), 1) := by decide +kernel
theorem dX9_sets_10 : decode cX9_sets 10 = .ok (.ireturn, 1) := by decide +kernel
theorem dX9_sets_11 : decode cX9_sets 11 = .ok (.aload_n 0, 1) := by decide +kernel
theorem dX9_sets_12 : decode cX9_sets 12 = .ok (.aload_n 0, 1) := by decide +kernel
theorem dX9_sets_13 : decode cX9_sets 13 = .ok (.getfield 49, 3) := by decide +kernel
theorem dX9_sets_16 : decode cX9_sets 16 = .ok (.iload_n 2, 1) := by decide +kernel
theorem dX9_sets_17 : decode cX9_sets 17 = .ok (.iaload, 1) := by decide +kernel
theorem dX9_sets_18 : decode cX9_sets 18 = .ok (.iload_n 1, 1) := by decide +kernel
theorem dX9_sets_19 : decode cX9_sets 19 = .ok (.invokevirtual 207, 3) := by decide +kernel
theorem dX9_sets_22 : decode cX9_sets 22 = .ok (.ifCond .ne 6, 3) := by decide +kernel
theorem dX9_sets_25 : decode cX9_sets 25 = .ok (.bipush (-2), 2) := by decide +kernel
theorem dX9_sets_27 : decode cX9_sets 27 = .ok (.ireturn, 1) := by decide +kernel
theorem dX9_sets_28 : decode cX9_sets 28 = .ok (.iload 4, 2) := by decide +kernel
theorem dX9_sets_30 : decode cX9_sets 30 = .ok (.iconst (-1), 1) := by decide +kernel
theorem dX9_sets_31 : decode cX9_sets 31 = .ok (.if_icmp .eq 17, 3) := by decide +kernel
theorem dX9_sets_34 : decode cX9_sets 34 = .ok (.iload 4, 2) := by decide +kernel
theorem dX9_sets_36 : decode cX9_sets 36 = .ok (.aload_n 0, 1) := by decide +kernel
theorem dX9_sets_37 : decode cX9_sets 37 = .ok (.getfield 37, 3) := by decide +kernel
theorem dX9_sets_40 : decode cX9_sets 40 = .ok (.iload_n 2, 1) := by decide +kernel
theorem dX9_sets_41 : decode cX9_sets 41 = .ok (.iaload, 1) := by decide +kernel
theorem dX9_sets_42 : decode cX9_sets 42 = .ok (.if_icmp .eq 6, 3) := by decide +kernel
theorem dX9_sets_45 : decode cX9_sets 45 = .ok (.bipush (-3), 2) := by decide +kernel
theorem dX9_sets_47 : decode cX9_sets 47 = .ok (.ireturn, 1) := by decide +kernel
theorem dX9_sets_48 : decode cX9_sets 48 = .ok (.aload_n 0, 1) := by decide +kernel
theorem dX9_sets_49 : decode cX9_sets 49 = .ok (.iconst 1, 1) := by decide +kernel
theorem dX9_sets_50 : decode cX9_sets 50 = .ok (.iload_n 2, 1) := by decide +kernel
theorem dX9_sets_51 : decode cX9_sets 51 = .ok (.iload_n 3, 1) := by decide +kernel
theorem dX9_sets_52 : decode cX9_sets 52 = .ok (.iconst 0, 1) := by decide +kernel
theorem dX9_sets_53 : decode cX9_sets 53 = .ok (.invokevirtual 218, 3) := by decide +kernel
theorem dX9_sets_56 : decode cX9_sets 56 = .ok (.aload_n 0, 1) := by decide +kernel
theorem dX9_sets_57 : decode cX9_sets 57 = .ok (.getfield 37, 3) := by decide +kernel
theorem dX9_sets_60 : decode cX9_sets 60 = .ok (.iload_n 2, 1) := by decide +kernel
theorem dX9_sets_61 : decode cX9_sets 61 = .ok (.iaload, 1) := by decide +kernel
theorem dX9_sets_62 : decode cX9_sets 62 = .ok (.ireturn, 1) := by decide +kernel
theorem dX9_goes_0 : decode cX9_goes 0 = .ok (.iconst 0, 1) := by decide +kernel
theorem dX9_goes_1 : decode cX9_goes 1 = .ok (.istore_n 2, 1) := by decide +kernel
theorem dX9_goes_2 : decode cX9_goes 2 = .ok (.iload_n 1, 1) := by decide +kernel
theorem dX9_goes_3 : decode cX9_goes 3 = .ok (.istore_n 3, 1) := by decide +kernel
theorem dX9_goes_4 : decode cX9_goes 4 = .ok (.iconst 1, 1) := by decide +kernel
theorem dX9_goes_5 : decode cX9_goes 5 = .ok (.istore 4, 2) := by decide +kernel
theorem dX9_goes_7 : decode cX9_goes 7 = .ok (.iload 4, 2) := by decide +kernel
theorem dX9_goes_9 : decode cX9_goes 9 = .ok (.ifCond .eq 54, 3) := by decide +kernel
theorem dX9_goes_12 : decode cX9_goes 12 = .ok (.aload_n 0, 1) := by decide +kernel
theorem dX9_goes_13 : decode cX9_goes 13 = .ok (.iconst 2, 1) := by decide +kernel
theorem dX9_goes_14 : decode cX9_goes 14 = .ok (.iload_n 3, 1) := by decide +kernel
theorem dX9_goes_15 : decode cX9_goes 15 = .ok (.iconst 0, 1) := by decide +kernel
theorem dX9_goes_16 : decode cX9_goes 16 = .ok (.iconst 0, 1) := by decide +kernel
theorem dX9_goes_17 : decode cX9_goes 17 = .ok (.invokevirtual 218, 3) := by decide +kernel
theorem dX9_goes_20 : decode cX9_goes 20 = .ok (.iinc 2 1, 3) := by decide +kernel
theorem dX9_goes_23 : decode cX9_goes 23 = .ok (.aload_n 0, 1) := by decide +kernel
theorem dX9_goes_24 : decode cX9_goes 24 = .ok (.getfield 7, 3) := by decide +kernel
theorem dX9_goes_27 : decode cX9_goes 27 = .ok (.iload_n 3, 1) := by decide +kernel
theorem dX9_goes_28 : decode cX9_goes 28 = .ok (.iaload, 1) := by decide +kernel
theorem dX9_goes_29 : decode cX9_goes 29 = .ok (.istore_n 3, 1) := by decide +kernel
theorem dX9_goes_30 : decode cX9_goes 30 = .ok (.iload_n 3, 1) := by decide +kernel
theorem dX9_goes_31 : decode cX9_goes 31 = .ok (.ifCond .le 26, 3) := by decide +kernel
theorem dX9_goes_34 : decode cX9_goes 34 = .ok (.aload_n 0, 1) := by decide +kernel
theorem dX9_goes_35 : decode cX9_goes 35 = .ok (.getfield 16, 3) := by decide +kernel
theorem dX9_goes_38 : decode cX9_goes 38 = .ok (.iload_n 3, 1) := by decide +kernel
theorem dX9_goes_39 : decode cX9_goes 39 = .ok (.iaload, 1) := by decide +kernel
theorem dX9_goes_40 : decode cX9_goes 40 = .ok (.iconst 3, 1) := by decide +kernel
theorem dX9_goes_41 : decode cX9_goes 41 = .ok (.if_icmp .ne 16, 3) := by decide +kernel
theorem dX9_goes_44 : decode cX9_goes 44 = .ok (.aload_n 0, 1) := by decide +kernel
theorem dX9_goes_45 : decode cX9_goes 45 = .ok (.iconst 0, 1) := by decide +kernel
theorem dX9_goes_46 : decode cX9_goes 46 = .ok (.iload_n 3, 1) := by decide +kernel
theorem dX9_goes_47 : decode cX9_goes 47 = .ok (.invokevirtual 221, 3) := by decide +kernel
theorem dX9_goes_50 : decode cX9_goes 50 = .ok (.ifCond .ne 7, 3) := by decide +kernel
theorem dX9_goes_53 : decode cX9_goes 53 = .ok (.iconst 1, 1) := by decide +kernel
theorem dX9_goes_54 : decode cX9_goes 54 = .ok (.goto 4, 3) := by decide +kernel
theorem dX9_goes_57 : decode cX9_goes 57 = .ok (.iconst 0, 1) := by decide +kernel
theorem dX9_goes_58 : decode cX9_goes 58 = .ok (.istore 4, 2) := by decide +kernel
theorem dX9_goes_60 : decode cX9_goes 60 = .ok (.goto (-53), 3) := by decide +kernel
theorem dX9_goes_63 : decode cX9_goes 63 = .ok (.iload_n 2, 1) := by decide +kernel
theorem dX9_goes_64 : decode cX9_goes 64 = .ok (.ireturn, 1) := by decide +kernel
theorem dX9_deletes_0 : decode cX9_deletes 0 = .ok (.aload_n 0, 1) := by decide +kernel
theorem dX9_deletes_1 : decode cX9_deletes 1 = .ok (.iconst 0, 1) := by decide +kernel
theorem dX9_deletes_2 : decode cX9_deletes 2 = .ok (.iload_n 2, 1) := by decide +kernel
theorem dX9_deletes_3 : decode cX9_deletes 3 = .ok (.invokevirtual 204, 3) := by decide +kernel
theorem dX9_deletes_6 : decode cX9_deletes 6 = .ok (.ifCond .ne 5, 3) := by decide +kernel
theorem dX9_deletes_9 : decode cX9_deletes 9 = .ok (.iconst (-1), 1) := by decide +kernel
theorem dX9_deletes_10 : decode cX9_deletes 10 = .ok (.ireturn, 1) := by decide +kernel
theorem dX9_deletes_11 : decode cX9_deletes 11 = .ok (.iload_n 2, 1) := by decide +kernel
theorem dX9_deletes_12 : decode cX9_deletes 12 = .ok (.ifCond .le 25, 3) := by decide +kernel
theorem dX9_deletes_15 : decode cX9_deletes 15 = .ok (.aload_n 0, 1) := by decide +kernel
theorem dX9_deletes_16 : decode cX9_deletes 16 = .ok (.aload_n 0, 1) := by decide +kernel
theorem dX9_deletes_17 : decode cX9_deletes 17 = .ok (.getfield 49, 3) := by decide +kernel
theorem dX9_deletes_20 : decode cX9_deletes 20 = .ok (.aload_n 0, 1) := by decide +kernel
theorem dX9_deletes_21 : decode cX9_deletes 21 = .ok (.getfield 7, 3) := by decide +kernel
theorem dX9_deletes_24 : decode cX9_deletes 24 = .ok (.iload_n 2, 1) := by decide +kernel
theorem dX9_deletes_25 : decode cX9_deletes 25 = .ok (.iaload, 1) := by decide +kernel
theorem dX9_deletes_26 : decode cX9_deletes 26 = .ok (.iaload, 1) := by decide +kernel
theorem dX9_deletes_27 : decode cX9_deletes 27 = .ok (.iload_n 1, 1) := by decide +kernel
theorem dX9_deletes_28 : decode cX9_deletes 28 = .ok (.invokevirtual 207, 3) := by decide +kernel
theorem dX9_deletes_31 : decode cX9_deletes 31 = .ok (.ifCond .ne 6, 3) := by decide +kernel
theorem dX9_deletes_34 : decode cX9_deletes 34 = .ok (.bipush (-2), 2) := by decide +kernel
theorem dX9_deletes_36 : decode cX9_deletes 36 = .ok (.ireturn, 1) := by decide +kernel
theorem dX9_deletes_37 : decode cX9_deletes 37 = .ok (.iload_n 3, 1) := by decide +kernel
theorem dX9_deletes_38 : decode cX9_deletes 38 = .ok (.iconst (-1), 1) := by decide +kernel
theorem dX9_deletes_39 : decode cX9_deletes 39 = .ok (.if_icmp .eq 16, 3) := by decide +kernel
theorem dX9_deletes_42 : decode cX9_deletes 42 = .ok (.iload_n 3, 1) := by decide +kernel
theorem dX9_deletes_43 : decode cX9_deletes 43 = .ok (.aload_n 0, 1) := by decide +kernel
theorem dX9_deletes_44 : decode cX9_deletes 44 = .ok (.getfield 37, 3) := by decide +kernel
theorem dX9_deletes_47 : decode cX9_deletes 47 = .ok (.iload_n 2, 1) := by decide +kernel
theorem dX9_deletes_48 : decode cX9_deletes 48 = .ok (.iaload, 1) := by decide +kernel
theorem dX9_deletes_49 : decode cX9_deletes 49 = .ok (.if_icmp .eq 6, 3) := by decide +kernel
theorem dX9_deletes_52 : decode cX9_deletes 52 = .ok (.bipush (-3), 2) := by decide +kernel
theorem dX9_deletes_54 : decode cX9_deletes 54 = .ok (.ireturn, 1) := by decide +kernel
theorem dX9_deletes_55 : decode cX9_deletes 55 = .ok (.iload_n 2, 1) := by decide +kernel
theorem dX9_deletes_56 : decode cX9_deletes 56 = .ok (.ifCond .eq 12, 3) := by decide +kernel
theorem dX9_deletes_59 : decode cX9_deletes 59 = .ok (.aload_n 0, 1) := by decide +kernel
theorem dX9_deletes_60 : decode cX9_deletes 60 = .ok (.iconst 0, 1) := by decide +kernel
theorem dX9_deletes_61 : decode cX9_deletes 61 = .ok (.iload_n 2, 1) := by decide +kernel
theorem dX9_deletes_62 : decode cX9_deletes 62 = .ok (.invokevirtual 221, 3) := by decide +kernel
theorem dX9_deletes_65 : decode cX9_deletes 65 = .ok (.ifCond .le 8, 3) := by decide +kernel
theorem dX9_deletes_68 : decode cX9_deletes 68 = .ok (.bipush (-6), 2) := by decide +kernel
theorem dX9_deletes_70 : decode cX9_deletes 70 = .ok (.goto 8, 3) := by decide +kernel
theorem dX9_deletes_73 : decode cX9_deletes 73 = .ok (.aload_n 0, 1) := by decide +kernel
theorem dX9_deletes_74 : decode cX9_deletes 74 = .ok (.iload_n 2, 1) := by decide +kernel
theorem dX9_deletes_75 : decode cX9_deletes 75 = .ok (.invokevirtual 224, 3) := by decide +kernel
theorem dX9_deletes_78 : decode cX9_deletes 78 = .ok (.ireturn, 1) := by decide +kernel
theorem dX9_gives_0 : decode cX9_gives 0 = .ok (.aload_n 0, 1) := by decide +kernel
theorem dX9_gives_1 : decode cX9_gives 1 = .ok (.iconst 0, 1) := by decide +kernel
theorem dX9_gives_2 : decode cX9_gives 2 = .ok (.iload_n 2, 1) := by decide +kernel
theorem dX9_gives_3 : decode cX9_gives 3 = .ok (.invokevirtual 204, 3) := by decide +kernel
theorem dX9_gives_6 : decode cX9_gives 6 = .ok (.ifCond .ne 5, 3) := by decide +kernel
theorem dX9_gives_9 : decode cX9_gives 9 = .ok (.iconst (-1), 1) := by decide +kernel
theorem dX9_gives_10 : decode cX9_gives 10 = .ok (.ireturn, 1) := by decide +kernel
theorem dX9_gives_11 : decode cX9_gives 11 = .ok (.aload_n 0, 1) := by decide +kernel
theorem dX9_gives_12 : decode cX9_gives 12 = .ok (.aload_n 0, 1) := by decide +kernel
theorem dX9_gives_13 : decode cX9_gives 13 = .ok (.getfield 49, 3) := by decide +kernel
theorem dX9_gives_16 : decode cX9_gives 16 = .ok (.iload_n 2, 1) := by decide +kernel
theorem dX9_gives_17 : decode cX9_gives 17 = .ok (.iaload, 1) := by decide +kernel
theorem dX9_gives_18 : decode cX9_gives 18 = .ok (.iload_n 1, 1) := by decide +kernel
theorem dX9_gives_19 : decode cX9_gives 19 = .ok (.invokevirtual 207, 3) := by decide +kernel
theorem dX9_gives_22 : decode cX9_gives 22 = .ok (.ifCond .ne 6, 3) := by decide +kernel
theorem dX9_gives_25 : decode cX9_gives 25 = .ok (.bipush (-2), 2) := by decide +kernel
theorem dX9_gives_27 : decode cX9_gives 27 = .ok (.ireturn, 1) := by decide +kernel
theorem dX9_gives_28 : decode cX9_gives 28 = .ok (.iconst 0, 1) := by decide +kernel
theorem dX9_gives_29 : decode cX9_gives 29 = .ok (.istore 6, 2) := by decide +kernel
theorem dX9_gives_31 : decode cX9_gives 31 = .ok (.iconst 0, 1) := by decide +kernel
theorem dX9_gives_32 : decode cX9_gives 32 = .ok (.istore 7, 2) := by decide +kernel
theorem dX9_gives_34 : decode cX9_gives 34 = .ok (.iload 7, 2) := by decide +kernel
theorem dX9_gives_36 : decode cX9_gives 36 = .ok (.aload_n 0, 1) := by decide +kernel
theorem dX9_gives_37 : decode cX9_gives 37 = .ok (.getfield 141, 3) := by decide +kernel
theorem dX9_gives_40 : decode cX9_gives 40 = .ok (.if_icmp .ge 55, 3) := by decide +kernel
theorem dX9_gives_43 : decode cX9_gives 43 = .ok (.iload 7, 2) := by decide +kernel
theorem dX9_gives_45 : decode cX9_gives 45 = .ok (.iload_n 2, 1) := by decide +kernel
theorem dX9_gives_46 : decode cX9_gives 46 = .ok (.if_icmp .eq 30, 3) := by decide +kernel
theorem dX9_gives_49 : decode cX9_gives 49 = .ok (.iload 5, 2) := by decide +kernel
theorem dX9_gives_51 : decode cX9_gives 51 = .ok (.iconst 1, 1) := by decide +kernel
theorem dX9_gives_52 : decode cX9_gives 52 = .ok (.if_icmp .ne 37, 3) := by decide +kernel
theorem dX9_gives_55 : decode cX9_gives 55 = .ok (.aload_n 0, 1) := by decide +kernel
theorem dX9_gives_56 : decode cX9_gives 56 = .ok (.getfield 31, 3) := by decide +kernel
theorem dX9_gives_59 : decode cX9_gives 59 = .ok (.iload 7, 2) := by decide +kernel
theorem dX9_gives_61 : decode cX9_gives 61 = .ok (.iaload, 1) := by decide +kernel
theorem dX9_gives_62 : decode cX9_gives 62 = .ok (.iconst 1, 1) := by decide +kernel
theorem dX9_gives_63 : decode cX9_gives 63 = .ok (.if_icmp .ne 26, 3) := by decide +kernel
theorem dX9_gives_66 : decode cX9_gives 66 = .ok (.aload_n 0, 1) := by decide +kernel
theorem dX9_gives_67 : decode cX9_gives 67 = .ok (.iload 7, 2) := by decide +kernel
theorem dX9_gives_69 : decode cX9_gives 69 = .ok (.iload_n 2, 1) := by decide +kernel
theorem dX9_gives_70 : decode cX9_gives 70 = .ok (.invokevirtual 184, 3) := by decide +kernel
theorem dX9_gives_73 : decode cX9_gives 73 = .ok (.ifCond .eq 16, 3) := by decide +kernel
theorem dX9_gives_76 : decode cX9_gives 76 = .ok (.aload_n 0, 1) := by decide +kernel
theorem dX9_gives_77 : decode cX9_gives 77 = .ok (.iconst 3, 1) := by decide +kernel
theorem dX9_gives_78 : decode cX9_gives 78 = .ok (.iload 7, 2) := by decide +kernel
theorem dX9_gives_80 : decode cX9_gives 80 = .ok (.iload_n 3, 1) := by decide +kernel
theorem dX9_gives_81 : decode cX9_gives 81 = .ok (.iload 4, 2) := by decide +kernel
theorem dX9_gives_83 : decode cX9_gives 83 = .ok (.invokevirtual 218, 3) := by decide +kernel
theorem dX9_gives_86 : decode cX9_gives 86 = .ok (.iinc 6 1, 3) := by decide +kernel
theorem dX9_gives_89 : decode cX9_gives 89 = .ok (.iinc 7 1, 3) := by decide +kernel
theorem dX9_gives_92 : decode cX9_gives 92 = .ok (.goto (-58), 3) := by decide +kernel
theorem dX9_gives_95 : decode cX9_gives 95 = .ok (.iload 6, 2) := by decide +kernel
theorem dX9_gives_97 : decode cX9_gives 97 = .ok (.ireturn, 1) := by decide +kernel
theorem dX9_checks_0 : decode cX9_checks 0 = .ok (.aload_n 0, 1) := by decide +kernel
theorem dX9_checks_1 : decode cX9_checks 1 = .ok (.iconst 0, 1) := by decide +kernel
theorem dX9_checks_2 : decode cX9_checks 2 = .ok (.iload_n 2, 1) := by decide +kernel
theorem dX9_checks_3 : decode cX9_checks 3 = .ok (.invokevirtual 204, 3) := by decide +kernel
theorem dX9_checks_6 : decode cX9_checks 6 = .ok (.ifCond .ne 5, 3) := by decide +kernel
theorem dX9_checks_9 : decode cX9_checks 9 = .ok (.iconst (-1), 1) := by decide +kernel
theorem dX9_checks_10 : decode cX9_checks 10 = .ok (.ireturn, 1) := by decide +kernel
theorem dX9_checks_11 : decode cX9_checks 11 = .ok (.aload_n 0, 1) := by decide +kernel
theorem dX9_checks_12 : decode cX9_checks 12 = .ok (.aload_n 0, 1) := by decide +kernel
theorem dX9_checks_13 : decode cX9_checks 13 = .ok (.getfield 46, 3) := by decide +kernel
theorem dX9_checks_16 : decode cX9_checks 16 = .ok (.iload_n 2, 1) := by decide +kernel
theorem dX9_checks_17 : decode cX9_checks 17 = .ok (.iaload, 1) := by decide +kernel
theorem dX9_checks_18 : decode cX9_checks 18 = .ok (.iload_n 1, 1) := by decide +kernel
theorem dX9_checks_19 : decode cX9_checks 19 = .ok (.invokevirtual 207, 3) := by decide +kernel
theorem dX9_checks_22 : decode cX9_checks 22 = .ok (.ifCond .ne 6, 3) := by decide +kernel
theorem dX9_checks_25 : decode cX9_checks 25 = .ok (.bipush (-2), 2) := by decide +kernel
theorem dX9_checks_27 : decode cX9_checks 27 = .ok (.ireturn, 1) := by decide +kernel
theorem dX9_checks_28 : decode cX9_checks 28 = .ok (.iload_n 3, 1) := by decide +kernel
theorem dX9_checks_29 : decode cX9_checks 29 = .ok (.iconst (-1), 1) := by decide +kernel
theorem dX9_checks_30 : decode cX9_checks 30 = .ok (.if_icmp .eq 18, 3) := by decide +kernel
theorem dX9_checks_33 : decode cX9_checks 33 = .ok (.iload_n 3, 1) := by decide +kernel
theorem dX9_checks_34 : decode cX9_checks 34 = .ok (.aload_n 0, 1) := by decide +kernel
theorem dX9_checks_35 : decode cX9_checks 35 = .ok (.getfield 37, 3) := by decide +kernel
theorem dX9_checks_38 : decode cX9_checks 38 = .ok (.iload_n 2, 1) := by decide +kernel
theorem dX9_checks_39 : decode cX9_checks 39 = .ok (.iaload, 1) := by decide +kernel
theorem dX9_checks_40 : decode cX9_checks 40 = .ok (.if_icmp .eq 8, 3) := by decide +kernel
theorem dX9_checks_43 : decode cX9_checks 43 = .ok (.bipush (-3), 2) := by decide +kernel
theorem dX9_checks_45 : decode cX9_checks 45 = .ok (.goto 9, 3) := by decide +kernel
theorem dX9_checks_48 : decode cX9_checks 48 = .ok (.aload_n 0, 1) := by decide +kernel
theorem dX9_checks_49 : decode cX9_checks 49 = .ok (.getfield 37, 3) := by decide +kernel
theorem dX9_checks_52 : decode cX9_checks 52 = .ok (.iload_n 2, 1) := by decide +kernel
theorem dX9_checks_53 : decode cX9_checks 53 = .ok (.iaload, 1) := by decide +kernel
theorem dX9_checks_54 : decode cX9_checks 54 = .ok (.ireturn, 1) := by decide +kernel
theorem dX9_acts_0 : decode cX9_acts 0 = .ok (.iload_n 2, 1) := by decide +kernel
theorem dX9_acts_1 : decode cX9_acts 1 = .ok (.tableswitch 96 0 3 #[31, 48, 64, 78], 31) := by decide +kernel
theorem dX9_acts_32 : decode cX9_acts 32 = .ok (.aload_n 0, 1) := by decide +kernel
theorem dX9_acts_33 : decode cX9_acts 33 = .ok (.iload_n 1, 1) := by decide +kernel
theorem dX9_acts_34 : decode cX9_acts 34 = .ok (.iload_n 3, 1) := by decide +kernel
theorem dX9_acts_35 : decode cX9_acts 35 = .ok (.iload 4, 2) := by decide +kernel
theorem dX9_acts_37 : decode cX9_acts 37 = .ok (.iload 5, 2) := by decide +kernel
theorem dX9_acts_39 : decode cX9_acts 39 = .ok (.iload 6, 2) := by decide +kernel
theorem dX9_acts_41 : decode cX9_acts 41 = .ok (.iload 7, 2) := by decide +kernel
theorem dX9_acts_43 : decode cX9_acts 43 = .ok (.iload 8, 2) := by decide +kernel
theorem dX9_acts_45 : decode cX9_acts 45 = .ok (.invokevirtual 227, 3) := by decide +kernel
theorem dX9_acts_48 : decode cX9_acts 48 = .ok (.ireturn, 1) := by decide +kernel
theorem dX9_acts_49 : decode cX9_acts 49 = .ok (.aload_n 0, 1) := by decide +kernel
theorem dX9_acts_50 : decode cX9_acts 50 = .ok (.aload_n 0, 1) := by decide +kernel
theorem dX9_acts_51 : decode cX9_acts 51 = .ok (.getfield 80, 3) := by decide +kernel
theorem dX9_acts_54 : decode cX9_acts 54 = .ok (.iload_n 1, 1) := by decide +kernel
theorem dX9_acts_55 : decode cX9_acts 55 = .ok (.iaload, 1) := by decide +kernel
theorem dX9_acts_56 : decode cX9_acts 56 = .ok (.iload_n 3, 1) := by decide +kernel
theorem dX9_acts_57 : decode cX9_acts 57 = .ok (.iload 4, 2) := by decide +kernel
theorem dX9_acts_59 : decode cX9_acts 59 = .ok (.iload 5, 2) := by decide +kernel
theorem dX9_acts_61 : decode cX9_acts 61 = .ok (.invokevirtual 231, 3) := by decide +kernel
theorem dX9_acts_64 : decode cX9_acts 64 = .ok (.ireturn, 1) := by decide +kernel
theorem dX9_acts_65 : decode cX9_acts 65 = .ok (.aload_n 0, 1) := by decide +kernel
theorem dX9_acts_66 : decode cX9_acts 66 = .ok (.aload_n 0, 1) := by decide +kernel
theorem dX9_acts_67 : decode cX9_acts 67 = .ok (.getfield 80, 3) := by decide +kernel
theorem dX9_acts_70 : decode cX9_acts 70 = .ok (.iload_n 1, 1) := by decide +kernel
theorem dX9_acts_71 : decode cX9_acts 71 = .ok (.iaload, 1) := by decide +kernel
theorem dX9_acts_72 : decode cX9_acts 72 = .ok (.iload_n 3, 1) := by decide +kernel
theorem dX9_acts_73 : decode cX9_acts 73 = .ok (.iload 4, 2) := by decide +kernel
theorem dX9_acts_75 : decode cX9_acts 75 = .ok (.invokevirtual 235, 3) := by decide +kernel
theorem dX9_acts_78 : decode cX9_acts 78 = .ok (.ireturn, 1) := by decide +kernel
theorem dX9_acts_79 : decode cX9_acts 79 = .ok (.aload_n 0, 1) := by decide +kernel
theorem dX9_acts_80 : decode cX9_acts 80 = .ok (.aload_n 0, 1) := by decide +kernel
theorem dX9_acts_81 : decode cX9_acts 81 = .ok (.getfield 80, 3) := by decide +kernel
theorem dX9_acts_84 : decode cX9_acts 84 = .ok (.iload_n 1, 1) := by decide +kernel
theorem dX9_acts_85 : decode cX9_acts 85 = .ok (.iaload, 1) := by decide +kernel
theorem dX9_acts_86 : decode cX9_acts 86 = .ok (.iload_n 3, 1) := by decide +kernel
theorem dX9_acts_87 : decode cX9_acts 87 = .ok (.iload 4, 2) := by decide +kernel
theorem dX9_acts_89 : decode cX9_acts 89 = .ok (.iload 5, 2) := by decide +kernel
theorem dX9_acts_91 : decode cX9_acts 91 = .ok (.iload 6, 2) := by decide +kernel
theorem dX9_acts_93 : decode cX9_acts 93 = .ok (.invokevirtual 239, 3) := by decide +kernel
theorem dX9_acts_96 : decode cX9_acts 96 = .ok (.ireturn, 1) := by decide +kernel
theorem dX9_acts_97 : decode cX9_acts 97 = .ok (.aload_n 0, 1) := by decide +kernel
theorem dX9_acts_98 : decode cX9_acts 98 = .ok (.aload_n 0, 1) := by decide +kernel
theorem dX9_acts_99 : decode cX9_acts 99 = .ok (.getfield 80, 3) := by decide +kernel
theorem dX9_acts_102 : decode cX9_acts 102 = .ok (.iload_n 1, 1) := by decide +kernel
theorem dX9_acts_103 : decode cX9_acts 103 = .ok (.iaload, 1) := by decide +kernel
theorem dX9_acts_104 : decode cX9_acts 104 = .ok (.iload_n 3, 1) := by decide +kernel
theorem dX9_acts_105 : decode cX9_acts 105 = .ok (.iload 4, 2) := by decide +kernel
theorem dX9_acts_107 : decode cX9_acts 107 = .ok (.invokevirtual 243, 3) := by decide +kernel
theorem dX9_acts_110 : decode cX9_acts 110 = .ok (.ireturn, 1) := by decide +kernel
theorem dX9_settles_0 : decode cX9_settles 0 = .ok (.aload_n 0, 1) := by decide +kernel
theorem dX9_settles_1 : decode cX9_settles 1 = .ok (.getfield 246, 3) := by decide +kernel
theorem dX9_settles_4 : decode cX9_settles 4 = .ok (.ifCond .le 7, 3) := by decide +kernel
theorem dX9_settles_7 : decode cX9_settles 7 = .ok (.iconst 1, 1) := by decide +kernel
theorem dX9_settles_8 : decode cX9_settles 8 = .ok (.goto 4, 3) := by decide +kernel
theorem dX9_settles_11 : decode cX9_settles 11 = .ok (.iconst 0, 1) := by decide +kernel
theorem dX9_settles_12 : decode cX9_settles 12 = .ok (.istore_n 2, 1) := by decide +kernel
theorem dX9_settles_13 : decode cX9_settles 13 = .ok (.aload_n 0, 1) := by decide +kernel
theorem dX9_settles_14 : decode cX9_settles 14 = .ok (.getfield 246, 3) := by decide +kernel
theorem dX9_settles_17 : decode cX9_settles 17 = .ok (.iconst 1, 1) := by decide +kernel
theorem dX9_settles_18 : decode cX9_settles 18 = .ok (.if_icmp .ne 10, 3) := by decide +kernel
theorem dX9_settles_21 : decode cX9_settles 21 = .ok (.aload_n 0, 1) := by decide +kernel
theorem dX9_settles_22 : decode cX9_settles 22 = .ok (.invokevirtual 249, 3) := by decide +kernel
theorem dX9_settles_25 : decode cX9_settles 25 = .ok (.goto 21, 3) := by decide +kernel
theorem dX9_settles_28 : decode cX9_settles 28 = .ok (.aload_n 0, 1) := by decide +kernel
theorem dX9_settles_29 : decode cX9_settles 29 = .ok (.invokevirtual 252, 3) := by decide +kernel
theorem dX9_settles_32 : decode cX9_settles 32 = .ok (.aload_n 0, 1) := by decide +kernel
theorem dX9_settles_33 : decode cX9_settles 33 = .ok (.aload_n 0, 1) := by decide +kernel
theorem dX9_settles_34 : decode cX9_settles 34 = .ok (.getfield 83, 3) := by decide +kernel
theorem dX9_settles_37 : decode cX9_settles 37 = .ok (.iload_n 1, 1) := by decide +kernel
theorem dX9_settles_38 : decode cX9_settles 38 = .ok (.iaload, 1) := by decide +kernel
theorem dX9_settles_39 : decode cX9_settles 39 = .ok (.aload_n 0, 1) := by decide +kernel
theorem dX9_settles_40 : decode cX9_settles 40 = .ok (.getfield 181, 3) := by decide +kernel
theorem dX9_settles_43 : decode cX9_settles 43 = .ok (.invokevirtual 197, 3) := by decide +kernel
theorem dX9_settles_46 : decode cX9_settles 46 = .ok (.aload_n 0, 1) := by decide +kernel
theorem dX9_settles_47 : decode cX9_settles 47 = .ok (.iconst 0, 1) := by decide +kernel
theorem dX9_settles_48 : decode cX9_settles 48 = .ok (.putfield 246, 3) := by decide +kernel
theorem dX9_settles_51 : decode cX9_settles 51 = .ok (.iload_n 2, 1) := by decide +kernel
theorem dX9_settles_52 : decode cX9_settles 52 = .ok (.ireturn, 1) := by decide +kernel
theorem dX9_act_0 : decode cX9_act 0 = .ok (.aload_n 0, 1) := by decide +kernel
theorem dX9_act_1 : decode cX9_act 1 = .ok (.iload_n 1, 1) := by decide +kernel
theorem dX9_act_2 : decode cX9_act 2 = .ok (.invokevirtual 255, 3) := by decide +kernel
theorem dX9_act_5 : decode cX9_act 5 = .ok (.aload_n 0, 1) := by decide +kernel
theorem dX9_act_6 : decode cX9_act 6 = .ok (.getfield 95, 3) := by decide +kernel
theorem dX9_act_9 : decode cX9_act 9 = .ok (.iload_n 1, 1) := by decide +kernel
theorem dX9_act_10 : decode cX9_act 10 = .ok (.iaload, 1) := by decide +kernel
theorem dX9_act_11 : decode cX9_act 11 = .ok (.iconst 1, 1) := by decide +kernel
theorem dX9_act_12 : decode cX9_act 12 = .ok (.if_icmp .ne 106, 3) := by decide +kernel
theorem dX9_act_15 : decode cX9_act 15 = .ok (.bipush 42, 2) := by decide +kernel
theorem dX9_act_17 : decode cX9_act 17 = .ok (.iload_n 1, 1) := by decide +kernel
theorem dX9_act_18 : decode cX9_act 18 = .ok (.imul, 1) := by decide +kernel
theorem dX9_act_19 : decode cX9_act 19 = .ok (.bipush 7, 2) := by decide +kernel
theorem dX9_act_21 : decode cX9_act 21 = .ok (.aload_n 0, 1) := by decide +kernel
theorem dX9_act_22 : decode cX9_act 22 = .ok (.getfield 98, 3) := by decide +kernel
theorem dX9_act_25 : decode cX9_act 25 = .ok (.iload_n 1, 1) := by decide +kernel
theorem dX9_act_26 : decode cX9_act 26 = .ok (.iaload, 1) := by decide +kernel
theorem dX9_act_27 : decode cX9_act 27 = .ok (.imul, 1) := by decide +kernel
theorem dX9_act_28 : decode cX9_act 28 = .ok (.iadd, 1) := by decide +kernel
theorem dX9_act_29 : decode cX9_act 29 = .ok (.istore 9, 2) := by decide +kernel
theorem dX9_act_31 : decode cX9_act 31 = .ok (.aload_n 0, 1) := by decide +kernel
theorem dX9_act_32 : decode cX9_act 32 = .ok (.getfield 101, 3) := by decide +kernel
theorem dX9_act_35 : decode cX9_act 35 = .ok (.iload 9, 2) := by decide +kernel
theorem dX9_act_37 : decode cX9_act 37 = .ok (.iload_n 2, 1) := by decide +kernel
theorem dX9_act_38 : decode cX9_act 38 = .ok (.iastore, 1) := by decide +kernel
theorem dX9_act_39 : decode cX9_act 39 = .ok (.aload_n 0, 1) := by decide +kernel
theorem dX9_act_40 : decode cX9_act 40 = .ok (.getfield 101, 3) := by decide +kernel
theorem dX9_act_43 : decode cX9_act 43 = .ok (.iload 9, 2) := by decide +kernel
theorem dX9_act_45 : decode cX9_act 45 = .ok (.iconst 1, 1) := by decide +kernel
theorem dX9_act_46 : decode cX9_act 46 = .ok (.iadd, 1) := by decide +kernel
theorem dX9_act_47 : decode cX9_act 47 = .ok (.iload_n 3, 1) := by decide +kernel
theorem dX9_act_48 : decode cX9_act 48 = .ok (.iastore, 1) := by decide +kernel
theorem dX9_act_49 : decode cX9_act 49 = .ok (.aload_n 0, 1) := by decide +kernel
theorem dX9_act_50 : decode cX9_act 50 = .ok (.getfield 101, 3) := by decide +kernel
theorem dX9_act_53 : decode cX9_act 53 = .ok (.iload 9, 2) := by decide +kernel
theorem dX9_act_55 : decode cX9_act 55 = .ok (.iconst 2, 1) := by decide +kernel
theorem dX9_act_56 : decode cX9_act 56 = .ok (.iadd, 1) := by decide +kernel
theorem dX9_act_57 : decode cX9_act 57 = .ok (.iload 4, 2) := by decide +kernel
theorem dX9_act_59 : decode cX9_act 59 = .ok (.iastore, 1) := by decide +kernel
theorem dX9_act_60 : decode cX9_act 60 = .ok (.aload_n 0, 1) := by decide +kernel
theorem dX9_act_61 : decode cX9_act 61 = .ok (.getfield 101, 3) := by decide +kernel
theorem dX9_act_64 : decode cX9_act 64 = .ok (.iload 9, 2) := by decide +kernel
theorem dX9_act_66 : decode cX9_act 66 = .ok (.iconst 3, 1) := by decide +kernel
theorem dX9_act_67 : decode cX9_act 67 = .ok (.iadd, 1) := by decide +kernel
theorem dX9_act_68 : decode cX9_act 68 = .ok (.iload 5, 2) := by decide +kernel
theorem dX9_act_70 : decode cX9_act 70 = .ok (.iastore, 1) := by decide +kernel
theorem dX9_act_71 : decode cX9_act 71 = .ok (.aload_n 0, 1) := by decide +kernel
theorem dX9_act_72 : decode cX9_act 72 = .ok (.getfield 101, 3) := by decide +kernel
theorem dX9_act_75 : decode cX9_act 75 = .ok (.iload 9, 2) := by decide +kernel
theorem dX9_act_77 : decode cX9_act 77 = .ok (.iconst 4, 1) := by decide +kernel
theorem dX9_act_78 : decode cX9_act 78 = .ok (.iadd, 1) := by decide +kernel
theorem dX9_act_79 : decode cX9_act 79 = .ok (.iload 6, 2) := by decide +kernel
theorem dX9_act_81 : decode cX9_act 81 = .ok (.iastore, 1) := by decide +kernel
theorem dX9_act_82 : decode cX9_act 82 = .ok (.aload_n 0, 1) := by decide +kernel
theorem dX9_act_83 : decode cX9_act 83 = .ok (.getfield 101, 3) := by decide +kernel
theorem dX9_act_86 : decode cX9_act 86 = .ok (.iload 9, 2) := by decide +kernel
theorem dX9_act_88 : decode cX9_act 88 = .ok (.iconst 5, 1) := by decide +kernel
theorem dX9_act_89 : decode cX9_act 89 = .ok (.iadd, 1) := by decide +kernel
theorem dX9_act_90 : decode cX9_act 90 = .ok (.iload 7, 2) := by decide +kernel
theorem dX9_act_92 : decode cX9_act 92 = .ok (.iastore, 1) := by decide +kernel
theorem dX9_act_93 : decode cX9_act 93 = .ok (.aload_n 0, 1) := by decide +kernel
theorem dX9_act_94 : decode cX9_act 94 = .ok (.getfield 101, 3) := by decide +kernel
theorem dX9_act_97 : decode cX9_act 97 = .ok (.iload 9, 2) := by decide +kernel
theorem dX9_act_99 : decode cX9_act 99 = .ok (.bipush 6, 2) := by decide +kernel
theorem dX9_act_101 : decode cX9_act 101 = .ok (.iadd, 1) := by decide +kernel
theorem dX9_act_102 : decode cX9_act 102 = .ok (.iload 8, 2) := by decide +kernel
theorem dX9_act_104 : decode cX9_act 104 = .ok (.iastore, 1) := by decide +kernel
theorem dX9_act_105 : decode cX9_act 105 = .ok (.aload_n 0, 1) := by decide +kernel
theorem dX9_act_106 : decode cX9_act 106 = .ok (.getfield 98, 3) := by decide +kernel
theorem dX9_act_109 : decode cX9_act 109 = .ok (.iload_n 1, 1) := by decide +kernel
theorem dX9_act_110 : decode cX9_act 110 = .ok (.dup2, 1) := by decide +kernel
theorem dX9_act_111 : decode cX9_act 111 = .ok (.iaload, 1) := by decide +kernel
theorem dX9_act_112 : decode cX9_act 112 = .ok (.iconst 1, 1) := by decide +kernel
theorem dX9_act_113 : decode cX9_act 113 = .ok (.iadd, 1) := by decide +kernel
theorem dX9_act_114 : decode cX9_act 114 = .ok (.iastore, 1) := by decide +kernel
theorem dX9_act_115 : decode cX9_act 115 = .ok (.bipush (-11), 2) := by decide +kernel
theorem dX9_act_117 : decode cX9_act 117 = .ok (.ireturn, 1) := by decide +kernel
theorem dX9_act_118 : decode cX9_act 118 = .ok (.aload_n 0, 1) := by decide +kernel
theorem dX9_act_119 : decode cX9_act 119 = .ok (.invokevirtual 259, 3) := by decide +kernel
theorem dX9_act_122 : decode cX9_act 122 = .ok (.aload_n 0, 1) := by decide +kernel
theorem dX9_act_123 : decode cX9_act 123 = .ok (.iload_n 1, 1) := by decide +kernel
theorem dX9_act_124 : decode cX9_act 124 = .ok (.iload_n 2, 1) := by decide +kernel
theorem dX9_act_125 : decode cX9_act 125 = .ok (.iload_n 3, 1) := by decide +kernel
theorem dX9_act_126 : decode cX9_act 126 = .ok (.iload 4, 2) := by decide +kernel
theorem dX9_act_128 : decode cX9_act 128 = .ok (.iload 5, 2) := by decide +kernel
theorem dX9_act_130 : decode cX9_act 130 = .ok (.iload 6, 2) := by decide +kernel
theorem dX9_act_132 : decode cX9_act 132 = .ok (.iload 7, 2) := by decide +kernel
theorem dX9_act_134 : decode cX9_act 134 = .ok (.iload 8, 2) := by decide +kernel
theorem dX9_act_136 : decode cX9_act 136 = .ok (.invokevirtual 262, 3) := by decide +kernel
theorem dX9_act_139 : decode cX9_act 139 = .ok (.istore 9, 2) := by decide +kernel
theorem dX9_act_141 : decode cX9_act 141 = .ok (.iload 9, 2) := by decide +kernel
theorem dX9_act_143 : decode cX9_act 143 = .ok (.ifCond .ge 6, 3) := by decide +kernel
theorem dX9_act_146 : decode cX9_act 146 = .ok (.iload 9, 2) := by decide +kernel
theorem dX9_act_148 : decode cX9_act 148 = .ok (.ireturn, 1) := by decide +kernel
theorem dX9_act_149 : decode cX9_act 149 = .ok (.aload_n 0, 1) := by decide +kernel
theorem dX9_act_150 : decode cX9_act 150 = .ok (.iload_n 1, 1) := by decide +kernel
theorem dX9_act_151 : decode cX9_act 151 = .ok (.invokevirtual 266, 3) := by decide +kernel
theorem dX9_act_154 : decode cX9_act 154 = .ok (.ifCond .eq 8, 3) := by decide +kernel
theorem dX9_act_157 : decode cX9_act 157 = .ok (.bipush (-9), 2) := by decide +kernel
theorem dX9_act_159 : decode cX9_act 159 = .ok (.goto 5, 3) := by decide +kernel
theorem dX9_act_162 : decode cX9_act 162 = .ok (.iload 9, 2) := by decide +kernel
theorem dX9_act_164 : decode cX9_act 164 = .ok (.ireturn, 1) := by decide +kernel
theorem dX9_barred_0 : decode cX9_barred 0 = .ok (.aload_n 0, 1) := by decide +kernel
theorem dX9_barred_1 : decode cX9_barred 1 = .ok (.iload_n 1, 1) := by decide +kernel
theorem dX9_barred_2 : decode cX9_barred 2 = .ok (.invokevirtual 269, 3) := by decide +kernel
theorem dX9_barred_5 : decode cX9_barred 5 = .ok (.ifCond .ne 24, 3) := by decide +kernel
theorem dX9_barred_8 : decode cX9_barred 8 = .ok (.aload_n 0, 1) := by decide +kernel
theorem dX9_barred_9 : decode cX9_barred 9 = .ok (.getfield 95, 3) := by decide +kernel
theorem dX9_barred_12 : decode cX9_barred 12 = .ok (.iload_n 1, 1) := by decide +kernel
theorem dX9_barred_13 : decode cX9_barred 13 = .ok (.iaload, 1) := by decide +kernel
theorem dX9_barred_14 : decode cX9_barred 14 = .ok (.iconst 1, 1) := by decide +kernel
theorem dX9_barred_15 : decode cX9_barred 15 = .ok (.if_icmp .ne 18, 3) := by decide +kernel
theorem dX9_barred_18 : decode cX9_barred 18 = .ok (.aload_n 0, 1) := by decide +kernel
theorem dX9_barred_19 : decode cX9_barred 19 = .ok (.getfield 98, 3) := by decide +kernel
theorem dX9_barred_22 : decode cX9_barred 22 = .ok (.iload_n 1, 1) := by decide +kernel
theorem dX9_barred_23 : decode cX9_barred 23 = .ok (.iaload, 1) := by decide +kernel
theorem dX9_barred_24 : decode cX9_barred 24 = .ok (.bipush 6, 2) := by decide +kernel
theorem dX9_barred_26 : decode cX9_barred 26 = .ok (.if_icmp .ne 7, 3) := by decide +kernel
theorem dX9_barred_29 : decode cX9_barred 29 = .ok (.iconst 1, 1) := by decide +kernel
theorem dX9_barred_30 : decode cX9_barred 30 = .ok (.goto 4, 3) := by decide +kernel
theorem dX9_barred_33 : decode cX9_barred 33 = .ok (.iconst 0, 1) := by decide +kernel
theorem dX9_barred_34 : decode cX9_barred 34 = .ok (.ireturn, 1) := by decide +kernel
theorem dX9_open_0 : decode cX9_open 0 = .ok (.aload_n 0, 1) := by decide +kernel
theorem dX9_open_1 : decode cX9_open 1 = .ok (.aload_n 0, 1) := by decide +kernel
theorem dX9_open_2 : decode cX9_open 2 = .ok (.iload_n 1, 1) := by decide +kernel
theorem dX9_open_3 : decode cX9_open 3 = .ok (.iconst 0, 1) := by decide +kernel
theorem dX9_open_4 : decode cX9_open 4 = .ok (.iconst 3, 1) := by decide +kernel
theorem dX9_open_5 : decode cX9_open 5 = .ok (.invokevirtual 151, 3) := by decide +kernel
theorem dX9_open_8 : decode cX9_open 8 = .ok (.ifCond .eq 13, 3) := by decide +kernel
theorem dX9_open_11 : decode cX9_open 11 = .ok (.aload_n 0, 1) := by decide +kernel
theorem dX9_open_12 : decode cX9_open 12 = .ok (.iload_n 2, 1) := by decide +kernel
theorem dX9_open_13 : decode cX9_open 13 = .ok (.iconst 0, 1) := by decide +kernel
theorem dX9_open_14 : decode cX9_open 14 = .ok (.iconst 2, 1) := by decide +kernel
theorem dX9_open_15 : decode cX9_open 15 = .ok (.invokevirtual 151, 3) := by decide +kernel
theorem dX9_open_18 : decode cX9_open 18 = .ok (.ifCond .ne 7, 3) := by decide +kernel
theorem dX9_open_21 : decode cX9_open 21 = .ok (.iconst 1, 1) := by decide +kernel
theorem dX9_open_22 : decode cX9_open 22 = .ok (.goto 32, 3) := by decide +kernel
theorem dX9_open_25 : decode cX9_open 25 = .ok (.aload_n 0, 1) := by decide +kernel
theorem dX9_open_26 : decode cX9_open 26 = .ok (.iload_n 3, 1) := by decide +kernel
theorem dX9_open_27 : decode cX9_open 27 = .ok (.iconst 1, 1) := by decide +kernel
theorem dX9_open_28 : decode cX9_open 28 = .ok (.bipush 50, 2) := by decide +kernel
theorem dX9_open_30 : decode cX9_open 30 = .ok (.invokevirtual 151, 3) := by decide +kernel
theorem dX9_open_33 : decode cX9_open 33 = .ok (.ifCond .ne 7, 3) := by decide +kernel
theorem dX9_open_36 : decode cX9_open 36 = .ok (.iconst 2, 1) := by decide +kernel
theorem dX9_open_37 : decode cX9_open 37 = .ok (.goto 17, 3) := by decide +kernel
theorem dX9_open_40 : decode cX9_open 40 = .ok (.aload_n 0, 1) := by decide +kernel
theorem dX9_open_41 : decode cX9_open 41 = .ok (.getfield 148, 3) := by decide +kernel
theorem dX9_open_44 : decode cX9_open 44 = .ok (.bipush 10, 2) := by decide +kernel
theorem dX9_open_46 : decode cX9_open 46 = .ok (.if_icmp .ne 7, 3) := by decide +kernel
theorem dX9_open_49 : decode cX9_open 49 = .ok (.iconst 3, 1) := by decide +kernel
theorem dX9_open_50 : decode cX9_open 50 = .ok (.goto 4, 3) := by decide +kernel
theorem dX9_open_53 : decode cX9_open 53 = .ok (.iconst 0, 1) := by decide +kernel
theorem dX9_open_54 : decode cX9_open 54 = .ok (.invokevirtual 272, 3) := by decide +kernel
theorem dX9_open_57 : decode cX9_open 57 = .ok (.ifCond .eq 5, 3) := by decide +kernel
theorem dX9_open_60 : decode cX9_open 60 = .ok (.iconst (-1), 1) := by decide +kernel
theorem dX9_open_61 : decode cX9_open 61 = .ok (.ireturn, 1) := by decide +kernel
theorem dX9_open_62 : decode cX9_open 62 = .ok (.aload_n 0, 1) := by decide +kernel
theorem dX9_open_63 : decode cX9_open 63 = .ok (.getfield 80, 3) := by decide +kernel
theorem dX9_open_66 : decode cX9_open 66 = .ok (.aload_n 0, 1) := by decide +kernel
theorem dX9_open_67 : decode cX9_open 67 = .ok (.getfield 148, 3) := by decide +kernel
theorem dX9_open_70 : decode cX9_open 70 = .ok (.iload_n 1, 1) := by decide +kernel
theorem dX9_open_71 : decode cX9_open 71 = .ok (.iastore, 1) := by decide +kernel
theorem dX9_open_72 : decode cX9_open 72 = .ok (.aload_n 0, 1) := by decide +kernel
theorem dX9_open_73 : decode cX9_open 73 = .ok (.getfield 83, 3) := by decide +kernel
theorem dX9_open_76 : decode cX9_open 76 = .ok (.aload_n 0, 1) := by decide +kernel
theorem dX9_open_77 : decode cX9_open 77 = .ok (.getfield 148, 3) := by decide +kernel
theorem dX9_open_80 : decode cX9_open 80 = .ok (.iload_n 2, 1) := by decide +kernel
theorem dX9_open_81 : decode cX9_open 81 = .ok (.iastore, 1) := by decide +kernel
theorem dX9_open_82 : decode cX9_open 82 = .ok (.aload_n 0, 1) := by decide +kernel
theorem dX9_open_83 : decode cX9_open 83 = .ok (.getfield 86, 3) := by decide +kernel
theorem dX9_open_86 : decode cX9_open 86 = .ok (.aload_n 0, 1) := by decide +kernel
theorem dX9_open_87 : decode cX9_open 87 = .ok (.getfield 148, 3) := by decide +kernel
theorem dX9_open_90 : decode cX9_open 90 = .ok (.iload_n 3, 1) := by decide +kernel
theorem dX9_open_91 : decode cX9_open 91 = .ok (.iastore, 1) := by decide +kernel
theorem dX9_open_92 : decode cX9_open 92 = .ok (.aload_n 0, 1) := by decide +kernel
theorem dX9_open_93 : decode cX9_open 93 = .ok (.getfield 89, 3) := by decide +kernel
theorem dX9_open_96 : decode cX9_open 96 = .ok (.aload_n 0, 1) := by decide +kernel
theorem dX9_open_97 : decode cX9_open 97 = .ok (.getfield 148, 3) := by decide +kernel
theorem dX9_open_100 : decode cX9_open 100 = .ok (.aload_n 0, 1) := by decide +kernel
theorem dX9_open_101 : decode cX9_open 101 = .ok (.getfield 155, 3) := by decide +kernel
theorem dX9_open_104 : decode cX9_open 104 = .ok (.iastore, 1) := by decide +kernel
theorem dX9_open_105 : decode cX9_open 105 = .ok (.aload_n 0, 1) := by decide +kernel
theorem dX9_open_106 : decode cX9_open 106 = .ok (.dup, 1) := by decide +kernel
theorem dX9_open_107 : decode cX9_open 107 = .ok (.getfield 148, 3) := by decide +kernel
theorem dX9_open_110 : decode cX9_open 110 = .ok (.iconst 1, 1) := by decide +kernel
theorem dX9_open_111 : decode cX9_open 111 = .ok (.iadd, 1) := by decide +kernel
theorem dX9_open_112 : decode cX9_open 112 = .ok (.putfield 148, 3) := by decide +kernel
theorem dX9_open_115 : decode cX9_open 115 = .ok (.aload_n 0, 1) := by decide +kernel
theorem dX9_open_116 : decode cX9_open 116 = .ok (.getfield 148, 3) := by decide +kernel
theorem dX9_open_119 : decode cX9_open 119 = .ok (.iconst 1, 1) := by decide +kernel
theorem dX9_open_120 : decode cX9_open 120 = .ok (.isub, 1) := by decide +kernel
theorem dX9_open_121 : decode cX9_open 121 = .ok (.ireturn, 1) := by decide +kernel
theorem dX9_ends_0 : decode cX9_ends 0 = .ok (.aload_n 0, 1) := by decide +kernel
theorem dX9_ends_1 : decode cX9_ends 1 = .ok (.invokevirtual 259, 3) := by decide +kernel
theorem dX9_ends_4 : decode cX9_ends 4 = .ok (.iconst 0, 1) := by decide +kernel
theorem dX9_ends_5 : decode cX9_ends 5 = .ok (.istore_n 3, 1) := by decide +kernel
theorem dX9_ends_6 : decode cX9_ends 6 = .ok (.iconst 1, 1) := by decide +kernel
theorem dX9_ends_7 : decode cX9_ends 7 = .ok (.istore 4, 2) := by decide +kernel
theorem dX9_ends_9 : decode cX9_ends 9 = .ok (.iload 4, 2) := by decide +kernel
theorem dX9_ends_11 : decode cX9_ends 11 = .ok (.aload_n 0, 1) := by decide +kernel
theorem dX9_ends_12 : decode cX9_ends 12 = .ok (.getfield 141, 3) := by decide +kernel
theorem dX9_ends_15 : decode cX9_ends 15 = .ok (.if_icmp .ge 55, 3) := by decide +kernel
theorem dX9_ends_18 : decode cX9_ends 18 = .ok (.iload_n 3, 1) := by decide +kernel
theorem dX9_ends_19 : decode cX9_ends 19 = .ok (.aload_n 0, 1) := by decide +kernel
theorem dX9_ends_20 : decode cX9_ends 20 = .ok (.getfield 31, 3) := by decide +kernel
theorem dX9_ends_23 : decode cX9_ends 23 = .ok (.iload 4, 2) := by decide +kernel
theorem dX9_ends_25 : decode cX9_ends 25 = .ok (.iaload, 1) := by decide +kernel
theorem dX9_ends_26 : decode cX9_ends 26 = .ok (.iconst 1, 1) := by decide +kernel
theorem dX9_ends_27 : decode cX9_ends 27 = .ok (.if_icmp .ne 34, 3) := by decide +kernel
theorem dX9_ends_30 : decode cX9_ends 30 = .ok (.aload_n 0, 1) := by decide +kernel
theorem dX9_ends_31 : decode cX9_ends 31 = .ok (.getfield 16, 3) := by decide +kernel
theorem dX9_ends_34 : decode cX9_ends 34 = .ok (.iload 4, 2) := by decide +kernel
theorem dX9_ends_36 : decode cX9_ends 36 = .ok (.iaload, 1) := by decide +kernel
theorem dX9_ends_37 : decode cX9_ends 37 = .ok (.iload_n 1, 1) := by decide +kernel
theorem dX9_ends_38 : decode cX9_ends 38 = .ok (.if_icmp .ne 23, 3) := by decide +kernel
theorem dX9_ends_41 : decode cX9_ends 41 = .ok (.aload_n 0, 1) := by decide +kernel
theorem dX9_ends_42 : decode cX9_ends 42 = .ok (.getfield 19, 3) := by decide +kernel
theorem dX9_ends_45 : decode cX9_ends 45 = .ok (.iload 4, 2) := by decide +kernel
theorem dX9_ends_47 : decode cX9_ends 47 = .ok (.iaload, 1) := by decide +kernel
theorem dX9_ends_48 : decode cX9_ends 48 = .ok (.iload_n 2, 1) := by decide +kernel
theorem dX9_ends_49 : decode cX9_ends 49 = .ok (.if_icmp .ne 12, 3) := by decide +kernel
theorem dX9_ends_52 : decode cX9_ends 52 = .ok (.aload_n 0, 1) := by decide +kernel
theorem dX9_ends_53 : decode cX9_ends 53 = .ok (.iload 4, 2) := by decide +kernel
theorem dX9_ends_55 : decode cX9_ends 55 = .ok (.invokevirtual 224, 3) := by decide +kernel
theorem dX9_ends_58 : decode cX9_ends 58 = .ok (.goto 4, 3) := by decide +kernel
theorem dX9_ends_61 : decode cX9_ends 61 = .ok (.iconst 0, 1) := by decide +kernel
theorem dX9_ends_62 : decode cX9_ends 62 = .ok (.iadd, 1) := by decide +kernel
theorem dX9_ends_63 : decode cX9_ends 63 = .ok (.istore_n 3, 1) := by decide +kernel
theorem dX9_ends_64 : decode cX9_ends 64 = .ok (.iinc 4 1, 3) := by decide +kernel
theorem dX9_ends_67 : decode cX9_ends 67 = .ok (.goto (-58), 3) := by decide +kernel
theorem dX9_ends_70 : decode cX9_ends 70 = .ok (.aload_n 0, 1) := by decide +kernel
theorem dX9_ends_71 : decode cX9_ends 71 = .ok (.invokevirtual 252, 3) := by decide +kernel
theorem dX9_ends_74 : decode cX9_ends 74 = .ok (.iload_n 3, 1) := by decide +kernel
theorem dX9_ends_75 : decode cX9_ends 75 = .ok (.ireturn, 1) := by decide +kernel
theorem dX9_stop_0 : decode cX9_stop 0 = .ok (.aload_n 0, 1) := by decide +kernel
theorem dX9_stop_1 : decode cX9_stop 1 = .ok (.getfield 92, 3) := by decide +kernel
theorem dX9_stop_4 : decode cX9_stop 4 = .ok (.iload_n 1, 1) := by decide +kernel
theorem dX9_stop_5 : decode cX9_stop 5 = .ok (.iconst 1, 1) := by decide +kernel
theorem dX9_stop_6 : decode cX9_stop 6 = .ok (.iastore, 1) := by decide +kernel
theorem dX9_stop_7 : decode cX9_stop 7 = .ok (.aload_n 0, 1) := by decide +kernel
theorem dX9_stop_8 : decode cX9_stop 8 = .ok (.getfield 95, 3) := by decide +kernel
theorem dX9_stop_11 : decode cX9_stop 11 = .ok (.iload_n 1, 1) := by decide +kernel
theorem dX9_stop_12 : decode cX9_stop 12 = .ok (.iconst 0, 1) := by decide +kernel
theorem dX9_stop_13 : decode cX9_stop 13 = .ok (.iastore, 1) := by decide +kernel
theorem dX9_stop_14 : decode cX9_stop 14 = .ok (.aload_n 0, 1) := by decide +kernel
theorem dX9_stop_15 : decode cX9_stop 15 = .ok (.getfield 116, 3) := by decide +kernel
theorem dX9_stop_18 : decode cX9_stop 18 = .ok (.iload_n 1, 1) := by decide +kernel
theorem dX9_stop_19 : decode cX9_stop 19 = .ok (.iconst 0, 1) := by decide +kernel
theorem dX9_stop_20 : decode cX9_stop 20 = .ok (.iastore, 1) := by decide +kernel
theorem dX9_stop_21 : decode cX9_stop 21 = .ok (.aload_n 0, 1) := by decide +kernel
theorem dX9_stop_22 : decode cX9_stop 22 = .ok (.getfield 126, 3) := by decide +kernel
theorem dX9_stop_25 : decode cX9_stop 25 = .ok (.iload_n 1, 1) := by decide +kernel
theorem dX9_stop_26 : decode cX9_stop 26 = .ok (.iconst 0, 1) := by decide +kernel
theorem dX9_stop_27 : decode cX9_stop 27 = .ok (.iastore, 1) := by decide +kernel
theorem dX9_stop_28 : decode cX9_stop 28 = .ok (.aload_n 0, 1) := by decide +kernel
theorem dX9_stop_29 : decode cX9_stop 29 = .ok (.getfield 123, 3) := by decide +kernel
theorem dX9_stop_32 : decode cX9_stop 32 = .ok (.iload_n 1, 1) := by decide +kernel
theorem dX9_stop_33 : decode cX9_stop 33 = .ok (.iconst 0, 1) := by decide +kernel
theorem dX9_stop_34 : decode cX9_stop 34 = .ok (.iastore, 1) := by decide +kernel
theorem dX9_stop_35 : decode cX9_stop 35 = .ok (.aload_n 0, 1) := by decide +kernel
theorem dX9_stop_36 : decode cX9_stop 36 = .ok (.iconst 1, 1) := by decide +kernel
theorem dX9_stop_37 : decode cX9_stop 37 = .ok (.iload_n 1, 1) := by decide +kernel
theorem dX9_stop_38 : decode cX9_stop 38 = .ok (.invokevirtual 275, 3) := by decide +kernel
theorem dX9_stop_41 : decode cX9_stop 41 = .ok (.ireturn, 1) := by decide +kernel
theorem dX9_close_0 : decode cX9_close 0 = .ok (.aload_n 0, 1) := by decide +kernel
theorem dX9_close_1 : decode cX9_close 1 = .ok (.aload_n 0, 1) := by decide +kernel
theorem dX9_close_2 : decode cX9_close 2 = .ok (.iload_n 1, 1) := by decide +kernel
theorem dX9_close_3 : decode cX9_close 3 = .ok (.invokevirtual 278, 3) := by decide +kernel
theorem dX9_close_6 : decode cX9_close 6 = .ok (.ifCond .ne 7, 3) := by decide +kernel
theorem dX9_close_9 : decode cX9_close 9 = .ok (.iconst 1, 1) := by decide +kernel
theorem dX9_close_10 : decode cX9_close 10 = .ok (.goto 16, 3) := by decide +kernel
theorem dX9_close_13 : decode cX9_close 13 = .ok (.aload_n 0, 1) := by decide +kernel
theorem dX9_close_14 : decode cX9_close 14 = .ok (.iload_n 1, 1) := by decide +kernel
theorem dX9_close_15 : decode cX9_close 15 = .ok (.invokevirtual 269, 3) := by decide +kernel
theorem dX9_close_18 : decode cX9_close 18 = .ok (.ifCond .eq 7, 3) := by decide +kernel
theorem dX9_close_21 : decode cX9_close 21 = .ok (.iconst 2, 1) := by decide +kernel
theorem dX9_close_22 : decode cX9_close 22 = .ok (.goto 4, 3) := by decide +kernel
theorem dX9_close_25 : decode cX9_close 25 = .ok (.iconst 0, 1) := by decide +kernel
theorem dX9_close_26 : decode cX9_close 26 = .ok (.invokevirtual 272, 3) := by decide +kernel
theorem dX9_close_29 : decode cX9_close 29 = .ok (.ifCond .eq 5, 3) := by decide +kernel
theorem dX9_close_32 : decode cX9_close 32 = .ok (.iconst (-1), 1) := by decide +kernel
theorem dX9_close_33 : decode cX9_close 33 = .ok (.ireturn, 1) := by decide +kernel
theorem dX9_close_34 : decode cX9_close 34 = .ok (.iconst 0, 1) := by decide +kernel
theorem dX9_close_35 : decode cX9_close 35 = .ok (.istore_n 2, 1) := by decide +kernel
theorem dX9_close_36 : decode cX9_close 36 = .ok (.iload_n 2, 1) := by decide +kernel
theorem dX9_close_37 : decode cX9_close 37 = .ok (.bipush 80, 2) := by decide +kernel
theorem dX9_close_39 : decode cX9_close 39 = .ok (.if_icmp .ge 21, 3) := by decide +kernel
theorem dX9_close_42 : decode cX9_close 42 = .ok (.aload_n 0, 1) := by decide +kernel
theorem dX9_close_43 : decode cX9_close 43 = .ok (.getfield 129, 3) := by decide +kernel
theorem dX9_close_46 : decode cX9_close 46 = .ok (.bipush 80, 2) := by decide +kernel
theorem dX9_close_48 : decode cX9_close 48 = .ok (.iload_n 1, 1) := by decide +kernel
theorem dX9_close_49 : decode cX9_close 49 = .ok (.imul, 1) := by decide +kernel
theorem dX9_close_50 : decode cX9_close 50 = .ok (.iload_n 2, 1) := by decide +kernel
theorem dX9_close_51 : decode cX9_close 51 = .ok (.iadd, 1) := by decide +kernel
theorem dX9_close_52 : decode cX9_close 52 = .ok (.iconst 0, 1) := by decide +kernel
theorem dX9_close_53 : decode cX9_close 53 = .ok (.iastore, 1) := by decide +kernel
theorem dX9_close_54 : decode cX9_close 54 = .ok (.iinc 2 1, 3) := by decide +kernel
theorem dX9_close_57 : decode cX9_close 57 = .ok (.goto (-21), 3) := by decide +kernel
theorem dX9_close_60 : decode cX9_close 60 = .ok (.aload_n 0, 1) := by decide +kernel
theorem dX9_close_61 : decode cX9_close 61 = .ok (.iload_n 1, 1) := by decide +kernel
theorem dX9_close_62 : decode cX9_close 62 = .ok (.invokevirtual 281, 3) := by decide +kernel
theorem dX9_close_65 : decode cX9_close 65 = .ok (.ireturn, 1) := by decide +kernel
theorem dX9_ping_0 : decode cX9_ping 0 = .ok (.aload_n 0, 1) := by decide +kernel
theorem dX9_ping_1 : decode cX9_ping 1 = .ok (.aload_n 0, 1) := by decide +kernel
theorem dX9_ping_2 : decode cX9_ping 2 = .ok (.iload_n 1, 1) := by decide +kernel
theorem dX9_ping_3 : decode cX9_ping 3 = .ok (.invokevirtual 278, 3) := by decide +kernel
theorem dX9_ping_6 : decode cX9_ping 6 = .ok (.ifCond .ne 7, 3) := by decide +kernel
theorem dX9_ping_9 : decode cX9_ping 9 = .ok (.iconst 1, 1) := by decide +kernel
theorem dX9_ping_10 : decode cX9_ping 10 = .ok (.goto 16, 3) := by decide +kernel
theorem dX9_ping_13 : decode cX9_ping 13 = .ok (.aload_n 0, 1) := by decide +kernel
theorem dX9_ping_14 : decode cX9_ping 14 = .ok (.iload_n 1, 1) := by decide +kernel
theorem dX9_ping_15 : decode cX9_ping 15 = .ok (.invokevirtual 269, 3) := by decide +kernel
theorem dX9_ping_18 : decode cX9_ping 18 = .ok (.ifCond .eq 7, 3) := by decide +kernel
theorem dX9_ping_21 : decode cX9_ping 21 = .ok (.iconst 2, 1) := by decide +kernel
theorem dX9_ping_22 : decode cX9_ping 22 = .ok (.goto 4, 3) := by decide +kernel
theorem dX9_ping_25 : decode cX9_ping 25 = .ok (.iconst 0, 1) := by decide +kernel
theorem dX9_ping_26 : decode cX9_ping 26 = .ok (.invokevirtual 272, 3) := by decide +kernel
theorem dX9_ping_29 : decode cX9_ping 29 = .ok (.ifCond .eq 5, 3) := by decide +kernel
theorem dX9_ping_32 : decode cX9_ping 32 = .ok (.iconst (-1), 1) := by decide +kernel
theorem dX9_ping_33 : decode cX9_ping 33 = .ok (.ireturn, 1) := by decide +kernel
theorem dX9_ping_34 : decode cX9_ping 34 = .ok (.aload_n 0, 1) := by decide +kernel
theorem dX9_ping_35 : decode cX9_ping 35 = .ok (.iload_n 1, 1) := by decide +kernel
theorem dX9_ping_36 : decode cX9_ping 36 = .ok (.invokevirtual 255, 3) := by decide +kernel
theorem dX9_ping_39 : decode cX9_ping 39 = .ok (.aload_n 0, 1) := by decide +kernel
theorem dX9_ping_40 : decode cX9_ping 40 = .ok (.getfield 77, 3) := by decide +kernel
theorem dX9_ping_43 : decode cX9_ping 43 = .ok (.aload_n 0, 1) := by decide +kernel
theorem dX9_ping_44 : decode cX9_ping 44 = .ok (.getfield 83, 3) := by decide +kernel
theorem dX9_ping_47 : decode cX9_ping 47 = .ok (.iload_n 1, 1) := by decide +kernel
theorem dX9_ping_48 : decode cX9_ping 48 = .ok (.iaload, 1) := by decide +kernel
theorem dX9_ping_49 : decode cX9_ping 49 = .ok (.iaload, 1) := by decide +kernel
theorem dX9_ping_50 : decode cX9_ping 50 = .ok (.ireturn, 1) := by decide +kernel
theorem dX9_move_0 : decode cX9_move 0 = .ok (.aload_n 0, 1) := by decide +kernel
theorem dX9_move_1 : decode cX9_move 1 = .ok (.aload_n 0, 1) := by decide +kernel
theorem dX9_move_2 : decode cX9_move 2 = .ok (.iload_n 1, 1) := by decide +kernel
theorem dX9_move_3 : decode cX9_move 3 = .ok (.invokevirtual 278, 3) := by decide +kernel
theorem dX9_move_6 : decode cX9_move 6 = .ok (.ifCond .eq 13, 3) := by decide +kernel
theorem dX9_move_9 : decode cX9_move 9 = .ok (.aload_n 0, 1) := by decide +kernel
theorem dX9_move_10 : decode cX9_move 10 = .ok (.iload_n 2, 1) := by decide +kernel
theorem dX9_move_11 : decode cX9_move 11 = .ok (.iconst 0, 1) := by decide +kernel
theorem dX9_move_12 : decode cX9_move 12 = .ok (.iconst 2, 1) := by decide +kernel
theorem dX9_move_13 : decode cX9_move 13 = .ok (.invokevirtual 151, 3) := by decide +kernel
theorem dX9_move_16 : decode cX9_move 16 = .ok (.ifCond .ne 7, 3) := by decide +kernel
theorem dX9_move_19 : decode cX9_move 19 = .ok (.iconst 1, 1) := by decide +kernel
theorem dX9_move_20 : decode cX9_move 20 = .ok (.goto 16, 3) := by decide +kernel
theorem dX9_move_23 : decode cX9_move 23 = .ok (.aload_n 0, 1) := by decide +kernel
theorem dX9_move_24 : decode cX9_move 24 = .ok (.iload_n 1, 1) := by decide +kernel
theorem dX9_move_25 : decode cX9_move 25 = .ok (.invokevirtual 269, 3) := by decide +kernel
theorem dX9_move_28 : decode cX9_move 28 = .ok (.ifCond .eq 7, 3) := by decide +kernel
theorem dX9_move_31 : decode cX9_move 31 = .ok (.iconst 2, 1) := by decide +kernel
theorem dX9_move_32 : decode cX9_move 32 = .ok (.goto 4, 3) := by decide +kernel
theorem dX9_move_35 : decode cX9_move 35 = .ok (.iconst 0, 1) := by decide +kernel
theorem dX9_move_36 : decode cX9_move 36 = .ok (.invokevirtual 272, 3) := by decide +kernel
theorem dX9_move_39 : decode cX9_move 39 = .ok (.ifCond .eq 5, 3) := by decide +kernel
theorem dX9_move_42 : decode cX9_move 42 = .ok (.iconst 0, 1) := by decide +kernel
theorem dX9_move_43 : decode cX9_move 43 = .ok (.ireturn, 1) := by decide +kernel
theorem dX9_move_44 : decode cX9_move 44 = .ok (.aload_n 0, 1) := by decide +kernel
theorem dX9_move_45 : decode cX9_move 45 = .ok (.iload_n 1, 1) := by decide +kernel
theorem dX9_move_46 : decode cX9_move 46 = .ok (.invokevirtual 255, 3) := by decide +kernel
theorem dX9_move_49 : decode cX9_move 49 = .ok (.aload_n 0, 1) := by decide +kernel
theorem dX9_move_50 : decode cX9_move 50 = .ok (.getfield 77, 3) := by decide +kernel
theorem dX9_move_53 : decode cX9_move 53 = .ok (.iload_n 2, 1) := by decide +kernel
theorem dX9_move_54 : decode cX9_move 54 = .ok (.iaload, 1) := by decide +kernel
theorem dX9_move_55 : decode cX9_move 55 = .ok (.aload_n 0, 1) := by decide +kernel
theorem dX9_move_56 : decode cX9_move 56 = .ok (.getfield 77, 3) := by decide +kernel
theorem dX9_move_59 : decode cX9_move 59 = .ok (.aload_n 0, 1) := by decide +kernel
theorem dX9_move_60 : decode cX9_move 60 = .ok (.getfield 83, 3) := by decide +kernel
theorem dX9_move_63 : decode cX9_move 63 = .ok (.iload_n 1, 1) := by decide +kernel
theorem dX9_move_64 : decode cX9_move 64 = .ok (.iaload, 1) := by decide +kernel
theorem dX9_move_65 : decode cX9_move 65 = .ok (.iaload, 1) := by decide +kernel
theorem dX9_move_66 : decode cX9_move 66 = .ok (.if_icmp .ge 5, 3) := by decide +kernel
theorem dX9_move_69 : decode cX9_move 69 = .ok (.iconst 0, 1) := by decide +kernel
theorem dX9_move_70 : decode cX9_move 70 = .ok (.ireturn, 1) := by decide +kernel
theorem dX9_move_71 : decode cX9_move 71 = .ok (.aload_n 0, 1) := by decide +kernel
theorem dX9_move_72 : decode cX9_move 72 = .ok (.getfield 74, 3) := by decide +kernel
theorem dX9_move_75 : decode cX9_move 75 = .ok (.aload_n 0, 1) := by decide +kernel
theorem dX9_move_76 : decode cX9_move 76 = .ok (.getfield 83, 3) := by decide +kernel
theorem dX9_move_79 : decode cX9_move 79 = .ok (.iload_n 1, 1) := by decide +kernel
theorem dX9_move_80 : decode cX9_move 80 = .ok (.iaload, 1) := by decide +kernel
theorem dX9_move_81 : decode cX9_move 81 = .ok (.iaload, 1) := by decide +kernel
theorem dX9_move_82 : decode cX9_move 82 = .ok (.istore_n 3, 1) := by decide +kernel
theorem dX9_move_83 : decode cX9_move 83 = .ok (.iload_n 3, 1) := by decide +kernel
theorem dX9_move_84 : decode cX9_move 84 = .ok (.istore 4, 2) := by decide +kernel
