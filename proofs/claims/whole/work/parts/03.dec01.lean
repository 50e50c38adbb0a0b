theorem dX7_hasVersion_6 : decode cX7_hasVersion 6 = .ok (.aload_n 0, 1) := by decide +kernel
theorem dX7_hasVersion_7 : decode cX7_hasVersion 7 = .ok (.getfield 19, 3) := by decide +kernel
theorem dX7_hasVersion_10 : decode cX7_hasVersion 10 = .ok (.iload_n 1, 1) := by decide +kernel
theorem dX7_hasVersion_11 : decode cX7_hasVersion 11 = .ok (.iaload, 1) := by decide +kernel
theorem dX7_hasVersion_12 : decode cX7_hasVersion 12 = .ok (.if_icmp .ne 7, 3) := by decide +kernel
theorem dX7_hasVersion_15 : decode cX7_hasVersion 15 = .ok (.iconst 1, 1) := by decide +kernel
theorem dX7_hasVersion_16 : decode cX7_hasVersion 16 = .ok (.goto 4, 3) := by decide +kernel
theorem dX7_hasVersion_19 : decode cX7_hasVersion 19 = .ok (.iconst 0, 1) := by decide +kernel
theorem dX7_hasVersion_20 : decode cX7_hasVersion 20 = .ok (.ireturn, 1) := by decide +kernel
theorem dX7_readingRefused_0 : decode cX7_readingRefused 0 = .ok (.aload_n 0, 1) := by decide +kernel
theorem dX7_readingRefused_1 : decode cX7_readingRefused 1 = .ok (.iload_n 1, 1) := by decide +kernel
theorem dX7_readingRefused_2 : decode cX7_readingRefused 2 = .ok (.invokevirtual 64, 3) := by decide +kernel
theorem dX7_readingRefused_5 : decode cX7_readingRefused 5 = .ok (.ifCond .ne 5, 3) := by decide +kernel
theorem dX7_readingRefused_8 : decode cX7_readingRefused 8 = .ok (.iconst (-1), 1) := by decide +kernel
theorem dX7_readingRefused_9 : decode cX7_readingRefused 9 = .ok (.ireturn, 1) := by decide +kernel
theorem dX7_readingRefused_10 : decode cX7_readingRefused 10 = .ok (.aload_n 0, 1) := by decide +kernel
theorem dX7_readingRefused_11 : decode cX7_readingRefused 11 = .ok (.getfield 28, 3) := by decide +kernel
theorem dX7_readingRefused_14 : decode cX7_readingRefused 14 = .ok (.iload_n 1, 1) := by decide +kernel
theorem dX7_readingRefused_15 : decode cX7_readingRefused 15 = .ok (.iaload, 1) := by decide +kernel
theorem dX7_readingRefused_16 : decode cX7_readingRefused 16 = .ok (.iload_n 2, 1) := by decide +kernel
theorem dX7_readingRefused_17 : decode cX7_readingRefused 17 = .ok (.ishr, 1) := by decide +kernel
theorem dX7_readingRefused_18 : decode cX7_readingRefused 18 = .ok (.iconst 1, 1) := by decide +kernel
theorem dX7_readingRefused_19 : decode cX7_readingRefused 19 = .ok (.iand, 1) := by decide +kernel
theorem dX7_readingRefused_20 : decode cX7_readingRefused 20 = .ok (.iconst 1, 1) := by decide +kernel
theorem dX7_readingRefused_21 : decode cX7_readingRefused 21 = .ok (.if_icmp .ne 7, 3) := by decide +kernel
theorem dX7_readingRefused_24 : decode cX7_readingRefused 24 = .ok (.iconst 0, 1) := by decide +kernel
theorem dX7_readingRefused_25 : decode cX7_readingRefused 25 = .ok (.goto 5, 3) := by decide +kernel
theorem dX7_readingRefused_28 : decode cX7_readingRefused 28 = .ok (.bipush (-2), 2) := by decide +kernel
theorem dX7_readingRefused_30 : decode cX7_readingRefused 30 = .ok (.ireturn, 1) := by decide +kernel
theorem dX7_told_0 : decode cX7_told 0 = .ok (.iload_n 2, 1) := by decide +kernel
theorem dX7_told_1 : decode cX7_told 1 = .ok (.tableswitch 125 0 8 #[51, 58, 65, 72, 79, 89, 99, 105, 115], 51) := by decide +kernel
theorem dX7_told_52 : decode cX7_told 52 = .ok (.aload_n 0, 1) := by decide +kernel
theorem dX7_told_53 : decode cX7_told 53 = .ok (.getfield 15, 3) := by decide +kernel
theorem dX7_told_56 : decode cX7_told 56 = .ok (.iload_n 1, 1) := by decide +kernel
theorem dX7_told_57 : decode cX7_told 57 = .ok (.iaload, 1) := by decide +kernel
theorem dX7_told_58 : decode cX7_told 58 = .ok (.ireturn, 1) := by decide +kernel
theorem dX7_told_59 : decode cX7_told 59 = .ok (.aload_n 0, 1) := by decide +kernel
theorem dX7_told_60 : decode cX7_told 60 = .ok (.getfield 19, 3) := by decide +kernel
theorem dX7_told_63 : decode cX7_told 63 = .ok (.iload_n 1, 1) := by decide +kernel
theorem dX7_told_64 : decode cX7_told 64 = .ok (.iaload, 1) := by decide +kernel
theorem dX7_told_65 : decode cX7_told 65 = .ok (.ireturn, 1) := by decide +kernel
theorem dX7_told_66 : decode cX7_told 66 = .ok (.aload_n 0, 1) := by decide +kernel
theorem dX7_told_67 : decode cX7_told 67 = .ok (.getfield 22, 3) := by decide +kernel
theorem dX7_told_70 : decode cX7_told 70 = .ok (.iload_n 1, 1) := by decide +kernel
theorem dX7_told_71 : decode cX7_told 71 = .ok (.iaload, 1) := by decide +kernel
theorem dX7_told_72 : decode cX7_told 72 = .ok (.ireturn, 1) := by decide +kernel
theorem dX7_told_73 : decode cX7_told 73 = .ok (.aload_n 0, 1) := by decide +kernel
theorem dX7_told_74 : decode cX7_told 74 = .ok (.getfield 25, 3) := by decide +kernel
theorem dX7_told_77 : decode cX7_told 77 = .ok (.iload_n 1, 1) := by decide +kernel
theorem dX7_told_78 : decode cX7_told 78 = .ok (.iaload, 1) := by decide +kernel
theorem dX7_told_79 : decode cX7_told 79 = .ok (.ireturn, 1) := by decide +kernel
theorem dX7_told_80 : decode cX7_told 80 = .ok (.aload_n 0, 1) := by decide +kernel
theorem dX7_told_81 : decode cX7_told 81 = .ok (.getfield 40, 3) := by decide +kernel
theorem dX7_told_84 : decode cX7_told 84 = .ok (.getfield 50, 3) := by decide +kernel
theorem dX7_told_87 : decode cX7_told 87 = .ok (.iload_n 1, 1) := by decide +kernel
theorem dX7_told_88 : decode cX7_told 88 = .ok (.iaload, 1) := by decide +kernel
theorem dX7_told_89 : decode cX7_told 89 = .ok (.ireturn, 1) := by decide +kernel
theorem dX7_told_90 : decode cX7_told 90 = .ok (.aload_n 0, 1) := by decide +kernel
theorem dX7_told_91 : decode cX7_told 91 = .ok (.getfield 40, 3) := by decide +kernel
theorem dX7_told_94 : decode cX7_told 94 = .ok (.getfield 61, 3) := by decide +kernel
theorem dX7_told_97 : decode cX7_told 97 = .ok (.iload_n 1, 1) := by decide +kernel
theorem dX7_told_98 : decode cX7_told 98 = .ok (.iaload, 1) := by decide +kernel
theorem dX7_told_99 : decode cX7_told 99 = .ok (.ireturn, 1) := by decide +kernel
theorem dX7_told_100 : decode cX7_told 100 = .ok (.aload_n 0, 1) := by decide +kernel
theorem dX7_told_101 : decode cX7_told 101 = .ok (.iload_n 1, 1) := by decide +kernel
theorem dX7_told_102 : decode cX7_told 102 = .ok (.invokevirtual 67, 3) := by decide +kernel
theorem dX7_told_105 : decode cX7_told 105 = .ok (.ireturn, 1) := by decide +kernel
theorem dX7_told_106 : decode cX7_told 106 = .ok (.aload_n 0, 1) := by decide +kernel
theorem dX7_told_107 : decode cX7_told 107 = .ok (.getfield 40, 3) := by decide +kernel
theorem dX7_told_110 : decode cX7_told 110 = .ok (.getfield 71, 3) := by decide +kernel
theorem dX7_told_113 : decode cX7_told 113 = .ok (.iload_n 1, 1) := by decide +kernel
theorem dX7_told_114 : decode cX7_told 114 = .ok (.iaload, 1) := by decide +kernel
theorem dX7_told_115 : decode cX7_told 115 = .ok (.ireturn, 1) := by decide +kernel
theorem dX7_told_116 : decode cX7_told 116 = .ok (.aload_n 0, 1) := by decide +kernel
theorem dX7_told_117 : decode cX7_told 117 = .ok (.getfield 40, 3) := by decide +kernel
theorem dX7_told_120 : decode cX7_told 120 = .ok (.getfield 74, 3) := by decide +kernel
theorem dX7_told_123 : decode cX7_told 123 = .ok (.iload_n 1, 1) := by decide +kernel
theorem dX7_told_124 : decode cX7_told 124 = .ok (.iaload, 1) := by decide +kernel
theorem dX7_told_125 : decode cX7_told 125 = .ok (.ireturn, 1) := by decide +kernel
theorem dX7_told_126 : decode cX7_told 126 = .ok (.aload_n 0, 1) := by decide +kernel
theorem dX7_told_127 : decode cX7_told 127 = .ok (.getfield 28, 3) := by decide +kernel
theorem dX7_told_130 : decode cX7_told 130 = .ok (.iload_n 1, 1) := by decide +kernel
theorem dX7_told_131 : decode cX7_told 131 = .ok (.iaload, 1) := by decide +kernel
theorem dX7_told_132 : decode cX7_told 132 = .ok (.ireturn, 1) := by decide +kernel
theorem dX7_isChild_0 : decode cX7_isChild 0 = .ok (.aload_n 0, 1) := by decide +kernel
theorem dX7_isChild_1 : decode cX7_isChild 1 = .ok (.getfield 9, 3) := by decide +kernel
theorem dX7_isChild_4 : decode cX7_isChild 4 = .ok (.iload_n 1, 1) := by decide +kernel
theorem dX7_isChild_5 : decode cX7_isChild 5 = .ok (.baload, 1) := by decide +kernel
theorem dX7_isChild_6 : decode cX7_isChild 6 = .ok (.ifCond .eq 20, 3) := by decide +kernel
theorem dX7_isChild_9 : decode cX7_isChild 9 = .ok (.aload_n 0, 1) := by decide +kernel
theorem dX7_isChild_10 : decode cX7_isChild 10 = .ok (.getfield 40, 3) := by decide +kernel
theorem dX7_isChild_13 : decode cX7_isChild 13 = .ok (.getfield 50, 3) := by decide +kernel
theorem dX7_isChild_16 : decode cX7_isChild 16 = .ok (.iload_n 1, 1) := by decide +kernel
theorem dX7_isChild_17 : decode cX7_isChild 17 = .ok (.iaload, 1) := by decide +kernel
theorem dX7_isChild_18 : decode cX7_isChild 18 = .ok (.iload_n 2, 1) := by decide +kernel
theorem dX7_isChild_19 : decode cX7_isChild 19 = .ok (.if_icmp .ne 7, 3) := by decide +kernel
theorem dX7_isChild_22 : decode cX7_isChild 22 = .ok (.iconst 1, 1) := by decide +kernel
theorem dX7_isChild_23 : decode cX7_isChild 23 = .ok (.goto 4, 3) := by decide +kernel
theorem dX7_isChild_26 : decode cX7_isChild 26 = .ok (.iconst 0, 1) := by decide +kernel
theorem dX7_isChild_27 : decode cX7_isChild 27 = .ok (.ireturn, 1) := by decide +kernel
theorem dX7_childrenOf_0 : decode cX7_childrenOf 0 = .ok (.iconst 0, 1) := by decide +kernel
theorem dX7_childrenOf_1 : decode cX7_childrenOf 1 = .ok (.istore_n 2, 1) := by decide +kernel
theorem dX7_childrenOf_2 : decode cX7_childrenOf 2 = .ok (.iconst 1, 1) := by decide +kernel
theorem dX7_childrenOf_3 : decode cX7_childrenOf 3 = .ok (.istore_n 3, 1) := by decide +kernel
theorem dX7_childrenOf_4 : decode cX7_childrenOf 4 = .ok (.iload_n 3, 1) := by decide +kernel
theorem dX7_childrenOf_5 : decode cX7_childrenOf 5 = .ok (.bipush 80, 2) := by decide +kernel
theorem dX7_childrenOf_7 : decode cX7_childrenOf 7 = .ok (.if_icmp .ge 21, 3) := by decide +kernel
theorem dX7_childrenOf_10 : decode cX7_childrenOf 10 = .ok (.aload_n 0, 1) := by decide +kernel
theorem dX7_childrenOf_11 : decode cX7_childrenOf 11 = .ok (.iload_n 3, 1) := by decide +kernel
theorem dX7_childrenOf_12 : decode cX7_childrenOf 12 = .ok (.iload_n 1, 1) := by decide +kernel
theorem dX7_childrenOf_13 : decode cX7_childrenOf 13 = .ok (.invokevirtual 77, 3) := by decide +kernel
theorem dX7_childrenOf_16 : decode cX7_childrenOf 16 = .ok (.ifCond .eq 6, 3) := by decide +kernel
theorem dX7_childrenOf_19 : decode cX7_childrenOf 19 = .ok (.iinc 2 1, 3) := by decide +kernel
theorem dX7_childrenOf_22 : decode cX7_childrenOf 22 = .ok (.iinc 3 1, 3) := by decide +kernel
theorem dX7_childrenOf_25 : decode cX7_childrenOf 25 = .ok (.goto (-21), 3) := by decide +kernel
theorem dX7_childrenOf_28 : decode cX7_childrenOf 28 = .ok (.iload_n 2, 1) := by decide +kernel
theorem dX7_childrenOf_29 : decode cX7_childrenOf 29 = .ok (.ireturn, 1) := by decide +kernel
theorem dX7_hasChildNamed_0 : decode cX7_hasChildNamed 0 = .ok (.iconst 1, 1) := by decide +kernel
theorem dX7_hasChildNamed_1 : decode cX7_hasChildNamed 1 = .ok (.istore_n 3, 1) := by decide +kernel
theorem dX7_hasChildNamed_2 : decode cX7_hasChildNamed 2 = .ok (.iload_n 3, 1) := by decide +kernel
theorem dX7_hasChildNamed_3 : decode cX7_hasChildNamed 3 = .ok (.bipush 80, 2) := by decide +kernel
theorem dX7_hasChildNamed_5 : decode cX7_hasChildNamed 5 = .ok (.if_icmp .ge 33, 3) := by decide +kernel
theorem dX7_hasChildNamed_8 : decode cX7_hasChildNamed 8 = .ok (.aload_n 0, 1) := by decide +kernel
theorem dX7_hasChildNamed_9 : decode cX7_hasChildNamed 9 = .ok (.iload_n 3, 1) := by decide +kernel
theorem dX7_hasChildNamed_10 : decode cX7_hasChildNamed 10 = .ok (.iload_n 1, 1) := by decide +kernel
theorem dX7_hasChildNamed_11 : decode cX7_hasChildNamed 11 = .ok (.invokevirtual 77, 3) := by decide +kernel
theorem dX7_hasChildNamed_14 : decode cX7_hasChildNamed 14 = .ok (.ifCond .eq 18, 3) := by decide +kernel
theorem dX7_hasChildNamed_17 : decode cX7_hasChildNamed 17 = .ok (.aload_n 0, 1) := by decide +kernel
theorem dX7_hasChildNamed_18 : decode cX7_hasChildNamed 18 = .ok (.getfield 40, 3) := by decide +kernel
theorem dX7_hasChildNamed_21 : decode cX7_hasChildNamed 21 = .ok (.getfield 61, 3) := by decide +kernel
theorem dX7_hasChildNamed_24 : decode cX7_hasChildNamed 24 = .ok (.iload_n 3, 1) := by decide +kernel
theorem dX7_hasChildNamed_25 : decode cX7_hasChildNamed 25 = .ok (.iaload, 1) := by decide +kernel
theorem dX7_hasChildNamed_26 : decode cX7_hasChildNamed 26 = .ok (.iload_n 2, 1) := by decide +kernel
theorem dX7_hasChildNamed_27 : decode cX7_hasChildNamed 27 = .ok (.if_icmp .ne 5, 3) := by decide +kernel
theorem dX7_hasChildNamed_30 : decode cX7_hasChildNamed 30 = .ok (.iconst 1, 1) := by decide +kernel
theorem dX7_hasChildNamed_31 : decode cX7_hasChildNamed 31 = .ok (.ireturn, 1) := by decide +kernel
theorem dX7_hasChildNamed_32 : decode cX7_hasChildNamed 32 = .ok (.iinc 3 1, 3) := by decide +kernel
theorem dX7_hasChildNamed_35 : decode cX7_hasChildNamed 35 = .ok (.goto (-33), 3) := by decide +kernel
theorem dX7_hasChildNamed_38 : decode cX7_hasChildNamed 38 = .ok (.iconst 0, 1) := by decide +kernel
theorem dX7_hasChildNamed_39 : decode cX7_hasChildNamed 39 = .ok (.ireturn, 1) := by decide +kernel
theorem dX7_nextChild_0 : decode cX7_nextChild 0 = .ok (.bipush (-100), 2) := by decide +kernel
theorem dX7_nextChild_2 : decode cX7_nextChild 2 = .ok (.istore_n 3, 1) := by decide +kernel
theorem dX7_nextChild_3 : decode cX7_nextChild 3 = .ok (.iconst 1, 1) := by decide +kernel
theorem dX7_nextChild_4 : decode cX7_nextChild 4 = .ok (.istore 4, 2) := by decide +kernel
theorem dX7_nextChild_6 : decode cX7_nextChild 6 = .ok (.iload 4, 2) := by decide +kernel
theorem dX7_nextChild_8 : decode cX7_nextChild 8 = .ok (.bipush 80, 2) := by decide +kernel
theorem dX7_nextChild_10 : decode cX7_nextChild 10 = .ok (.if_icmp .ge 62, 3) := by decide +kernel
theorem dX7_nextChild_13 : decode cX7_nextChild 13 = .ok (.aload_n 0, 1) := by decide +kernel
theorem dX7_nextChild_14 : decode cX7_nextChild 14 = .ok (.iload 4, 2) := by decide +kernel
theorem dX7_nextChild_16 : decode cX7_nextChild 16 = .ok (.iload_n 1, 1) := by decide +kernel
theorem dX7_nextChild_17 : decode cX7_nextChild 17 = .ok (.invokevirtual 77, 3) := by decide +kernel
theorem dX7_nextChild_20 : decode cX7_nextChild 20 = .ok (.ifCond .eq 46, 3) := by decide +kernel
theorem dX7_nextChild_23 : decode cX7_nextChild 23 = .ok (.aload_n 0, 1) := by decide +kernel
theorem dX7_nextChild_24 : decode cX7_nextChild 24 = .ok (.getfield 40, 3) := by decide +kernel
theorem dX7_nextChild_27 : decode cX7_nextChild 27 = .ok (.getfield 61, 3) := by decide +kernel
theorem dX7_nextChild_30 : decode cX7_nextChild 30 = .ok (.iload 4, 2) := by decide +kernel
theorem dX7_nextChild_32 : decode cX7_nextChild 32 = .ok (.iaload, 1) := by decide +kernel
theorem dX7_nextChild_33 : decode cX7_nextChild 33 = .ok (.iload_n 2, 1) := by decide +kernel
theorem dX7_nextChild_34 : decode cX7_nextChild 34 = .ok (.if_icmp .le 32, 3) := by decide +kernel
theorem dX7_nextChild_37 : decode cX7_nextChild 37 = .ok (.iload_n 3, 1) := by decide +kernel
theorem dX7_nextChild_38 : decode cX7_nextChild 38 = .ok (.ifCond .lt 25, 3) := by decide +kernel
theorem dX7_nextChild_41 : decode cX7_nextChild 41 = .ok (.aload_n 0, 1) := by decide +kernel
theorem dX7_nextChild_42 : decode cX7_nextChild 42 = .ok (.getfield 40, 3) := by decide +kernel
theorem dX7_nextChild_45 : decode cX7_nextChild 45 = .ok (.getfield 61, 3) := by decide +kernel
theorem dX7_nextChild_48 : decode cX7_nextChild 48 = .ok (.iload 4, 2) := by decide +kernel
theorem dX7_nextChild_50 : decode cX7_nextChild 50 = .ok (.iaload, 1) := by decide +kernel
theorem dX7_nextChild_51 : decode cX7_nextChild 51 = .ok (.aload_n 0, 1) := by decide +kernel
theorem dX7_nextChild_52 : decode cX7_nextChild 52 = .ok (.getfield 40, 3) := by decide +kernel
theorem dX7_nextChild_55 : decode cX7_nextChild 55 = .ok (.getfield 61, 3) := by decide +kernel
theorem dX7_nextChild_58 : decode cX7_nextChild 58 = .ok (.iload_n 3, 1) := by decide +kernel
theorem dX7_nextChild_59 : decode cX7_nextChild 59 = .ok (.iaload, 1) := by decide +kernel
theorem dX7_nextChild_60 : decode cX7_nextChild 60 = .ok (.if_icmp .ge 6, 3) := by decide +kernel
theorem dX7_nextChild_63 : decode cX7_nextChild 63 = .ok (.iload 4, 2) := by decide +kernel
theorem dX7_nextChild_65 : decode cX7_nextChild 65 = .ok (.istore_n 3, 1) := by decide +kernel
theorem dX7_nextChild_66 : decode cX7_nextChild 66 = .ok (.iinc 4 1, 3) := by decide +kernel
theorem dX7_nextChild_69 : decode cX7_nextChild 69 = .ok (.goto (-63), 3) := by decide +kernel
theorem dX7_nextChild_72 : decode cX7_nextChild 72 = .ok (.iload_n 3, 1) := by decide +kernel
theorem dX7_nextChild_73 : decode cX7_nextChild 73 = .ok (.ireturn, 1) := by decide +kernel
theorem dX7_firstChild_0 : decode cX7_firstChild 0 = .ok (.aload_n 0, 1) := by decide +kernel
theorem dX7_firstChild_1 : decode cX7_firstChild 1 = .ok (.iload_n 1, 1) := by decide +kernel
theorem dX7_firstChild_2 : decode cX7_firstChild 2 = .ok (.iconst (-1), 1) := by decide +kernel
theorem dX7_firstChild_3 : decode cX7_firstChild 3 = .ok (.invokevirtual 81, 3) := by decide +kernel
theorem dX7_firstChild_6 : decode cX7_firstChild 6 = .ok (.ireturn, 1) := by decide +kernel
theorem dX7_childAt_0 : decode cX7_childAt 0 = .ok (.aload_n 0, 1) := by decide +kernel
theorem dX7_childAt_1 : decode cX7_childAt 1 = .ok (.iload_n 1, 1) := by decide +kernel
theorem dX7_childAt_2 : decode cX7_childAt 2 = .ok (.invokevirtual 85, 3) := by decide +kernel
theorem dX7_childAt_5 : decode cX7_childAt 5 = .ok (.istore_n 3, 1) := by decide +kernel
theorem dX7_childAt_6 : decode cX7_childAt 6 = .ok (.iconst 0, 1) := by decide +kernel
theorem dX7_childAt_7 : decode cX7_childAt 7 = .ok (.istore 4, 2) := by decide +kernel
theorem dX7_childAt_9 : decode cX7_childAt 9 = .ok (.iload 4, 2) := by decide +kernel
theorem dX7_childAt_11 : decode cX7_childAt 11 = .ok (.iload_n 2, 1) := by decide +kernel
theorem dX7_childAt_12 : decode cX7_childAt 12 = .ok (.if_icmp .ge 35, 3) := by decide +kernel
theorem dX7_childAt_15 : decode cX7_childAt 15 = .ok (.iload 4, 2) := by decide +kernel
theorem dX7_childAt_17 : decode cX7_childAt 17 = .ok (.bipush 80, 2) := by decide +kernel
theorem dX7_childAt_19 : decode cX7_childAt 19 = .ok (.if_icmp .ge 28, 3) := by decide +kernel
theorem dX7_childAt_22 : decode cX7_childAt 22 = .ok (.iload_n 3, 1) := by decide +kernel
theorem dX7_childAt_23 : decode cX7_childAt 23 = .ok (.ifCond .le 24, 3) := by decide +kernel
theorem dX7_childAt_26 : decode cX7_childAt 26 = .ok (.aload_n 0, 1) := by decide +kernel
theorem dX7_childAt_27 : decode cX7_childAt 27 = .ok (.iload_n 1, 1) := by decide +kernel
theorem dX7_childAt_28 : decode cX7_childAt 28 = .ok (.aload_n 0, 1) := by decide +kernel
theorem dX7_childAt_29 : decode cX7_childAt 29 = .ok (.getfield 40, 3) := by decide +kernel
theorem dX7_childAt_32 : decode cX7_childAt 32 = .ok (.getfield 61, 3) := by decide +kernel
theorem dX7_childAt_35 : decode cX7_childAt 35 = .ok (.iload_n 3, 1) := by decide +kernel
theorem dX7_childAt_36 : decode cX7_childAt 36 = .ok (.iaload, 1) := by decide +kernel
theorem dX7_childAt_37 : decode cX7_childAt 37 = .ok (.invokevirtual 81, 3) := by decide +kernel
theorem dX7_childAt_40 : decode cX7_childAt 40 = .ok (.istore_n 3, 1) := by decide +kernel
theorem dX7_childAt_41 : decode cX7_childAt 41 = .ok (.iinc 4 1, 3) := by decide +kernel
theorem dX7_childAt_44 : decode cX7_childAt 44 = .ok (.goto (-35), 3) := by decide +kernel
theorem dX7_childAt_47 : decode cX7_childAt 47 = .ok (.iload_n 3, 1) := by decide +kernel
theorem dX7_childAt_48 : decode cX7_childAt 48 = .ok (.ireturn, 1) := by decide +kernel
theorem dX7_firstWithoutChildren_0 : decode cX7_firstWithoutChildren 0 = .ok (.aload_n 0, 1) := by decide +kernel
theorem dX7_firstWithoutChildren_1 : decode cX7_firstWithoutChildren 1 = .ok (.iload_n 1, 1) := by decide +kernel
theorem dX7_firstWithoutChildren_2 : decode cX7_firstWithoutChildren 2 = .ok (.invokevirtual 85, 3) := by decide +kernel
theorem dX7_firstWithoutChildren_5 : decode cX7_firstWithoutChildren 5 = .ok (.istore_n 2, 1) := by decide +kernel
theorem dX7_firstWithoutChildren_6 : decode cX7_firstWithoutChildren 6 = .ok (.iconst 0, 1) := by decide +kernel
theorem dX7_firstWithoutChildren_7 : decode cX7_firstWithoutChildren 7 = .ok (.istore_n 3, 1) := by decide +kernel
theorem dX7_firstWithoutChildren_8 : decode cX7_firstWithoutChildren 8 = .ok (.iload_n 3, 1) := by decide +kernel
theorem dX7_firstWithoutChildren_9 : decode cX7_firstWithoutChildren 9 = .ok (.bipush 80, 2) := by decide +kernel
theorem dX7_firstWithoutChildren_11 : decode cX7_firstWithoutChildren 11 = .ok (.if_icmp .ge 36, 3) := by decide +kernel
theorem dX7_firstWithoutChildren_14 : decode cX7_firstWithoutChildren 14 = .ok (.iload_n 2, 1) := by decide +kernel
theorem dX7_firstWithoutChildren_15 : decode cX7_firstWithoutChildren 15 = .ok (.ifCond .le 32, 3) := by decide +kernel
theorem dX7_firstWithoutChildren_18 : decode cX7_firstWithoutChildren 18 = .ok (.aload_n 0, 1) := by decide +kernel
theorem dX7_firstWithoutChildren_19 : decode cX7_firstWithoutChildren 19 = .ok (.iload_n 2, 1) := by decide +kernel
theorem dX7_firstWithoutChildren_20 : decode cX7_firstWithoutChildren 20 = .ok (.invokevirtual 67, 3) := by decide +kernel
theorem dX7_firstWithoutChildren_23 : decode cX7_firstWithoutChildren 23 = .ok (.ifCond .le 24, 3) := by decide +kernel
theorem dX7_firstWithoutChildren_26 : decode cX7_firstWithoutChildren 26 = .ok (.aload_n 0, 1) := by decide +kernel
theorem dX7_firstWithoutChildren_27 : decode cX7_firstWithoutChildren 27 = .ok (.iload_n 1, 1) := by decide +kernel
theorem dX7_firstWithoutChildren_28 : decode cX7_firstWithoutChildren 28 = .ok (.aload_n 0, 1) := by decide +kernel
theorem dX7_firstWithoutChildren_29 : decode cX7_firstWithoutChildren 29 = .ok (.getfield 40, 3) := by decide +kernel
theorem dX7_firstWithoutChildren_32 : decode cX7_firstWithoutChildren 32 = .ok (.getfield 61, 3) := by decide +kernel
theorem dX7_firstWithoutChildren_35 : decode cX7_firstWithoutChildren 35 = .ok (.iload_n 2, 1) := by decide +kernel
theorem dX7_firstWithoutChildren_36 : decode cX7_firstWithoutChildren 36 = .ok (.iaload, 1) := by decide +kernel
theorem dX7_firstWithoutChildren_37 : decode cX7_firstWithoutChildren 37 = .ok (.invokevirtual 81, 3) := by decide +kernel
theorem dX7_firstWithoutChildren_40 : decode cX7_firstWithoutChildren 40 = .ok (.istore_n 2, 1) := by decide +kernel
theorem dX7_firstWithoutChildren_41 : decode cX7_firstWithoutChildren 41 = .ok (.iinc 3 1, 3) := by decide +kernel
theorem dX7_firstWithoutChildren_44 : decode cX7_firstWithoutChildren 44 = .ok (.goto (-36), 3) := by decide +kernel
theorem dX7_firstWithoutChildren_47 : decode cX7_firstWithoutChildren 47 = .ok (.iload_n 2, 1) := by decide +kernel
theorem dX7_firstWithoutChildren_48 : decode cX7_firstWithoutChildren 48 = .ok (.ireturn, 1) := by decide +kernel
theorem dX7_isOfSession_0 : decode cX7_isOfSession 0 = .ok (.aload_n 0, 1) := by decide +kernel
theorem dX7_isOfSession_1 : decode cX7_isOfSession 1 = .ok (.getfield 40, 3) := by decide +kernel
theorem dX7_isOfSession_4 : decode cX7_isOfSession 4 = .ok (.getfield 71, 3) := by decide +kernel
theorem dX7_isOfSession_7 : decode cX7_isOfSession 7 = .ok (.iload_n 1, 1) := by decide +kernel
theorem dX7_isOfSession_8 : decode cX7_isOfSession 8 = .ok (.iaload, 1) := by decide +kernel
theorem dX7_isOfSession_9 : decode cX7_isOfSession 9 = .ok (.iconst 1, 1) := by decide +kernel
theorem dX7_isOfSession_10 : decode cX7_isOfSession 10 = .ok (.if_icmp .ne 20, 3) := by decide +kernel
theorem dX7_isOfSession_13 : decode cX7_isOfSession 13 = .ok (.aload_n 0, 1) := by decide +kernel
theorem dX7_isOfSession_14 : decode cX7_isOfSession 14 = .ok (.getfield 40, 3) := by decide +kernel
theorem dX7_isOfSession_17 : decode cX7_isOfSession 17 = .ok (.getfield 88, 3) := by decide +kernel
theorem dX7_isOfSession_20 : decode cX7_isOfSession 20 = .ok (.iload_n 1, 1) := by decide +kernel
theorem dX7_isOfSession_21 : decode cX7_isOfSession 21 = .ok (.iaload, 1) := by decide +kernel
theorem dX7_isOfSession_22 : decode cX7_isOfSession 22 = .ok (.iload_n 2, 1) := by decide +kernel
theorem dX7_isOfSession_23 : decode cX7_isOfSession 23 = .ok (.if_icmp .ne 7, 3) := by decide +kernel
theorem dX7_isOfSession_26 : decode cX7_isOfSession 26 = .ok (.iconst 1, 1) := by decide +kernel
theorem dX7_isOfSession_27 : decode cX7_isOfSession 27 = .ok (.goto 4, 3) := by decide +kernel
theorem dX7_isOfSession_30 : decode cX7_isOfSession 30 = .ok (.iconst 0, 1) := by decide +kernel
theorem dX7_isOfSession_31 : decode cX7_isOfSession 31 = .ok (.ireturn, 1) := by decide +kernel
theorem dX7_firstOf_0 : decode cX7_firstOf 0 = .ok (.aload_n 0, 1) := by decide +kernel
theorem dX7_firstOf_1 : decode cX7_firstOf 1 = .ok (.iload_n 2, 1) := by decide +kernel
theorem dX7_firstOf_2 : decode cX7_firstOf 2 = .ok (.invokevirtual 85, 3) := by decide +kernel
theorem dX7_firstOf_5 : decode cX7_firstOf 5 = .ok (.istore_n 3, 1) := by decide +kernel
theorem dX7_firstOf_6 : decode cX7_firstOf 6 = .ok (.iconst 0, 1) := by decide +kernel
theorem dX7_firstOf_7 : decode cX7_firstOf 7 = .ok (.istore 4, 2) := by decide +kernel
theorem dX7_firstOf_9 : decode cX7_firstOf 9 = .ok (.iload 4, 2) := by decide +kernel
theorem dX7_firstOf_11 : decode cX7_firstOf 11 = .ok (.bipush 80, 2) := by decide +kernel
theorem dX7_firstOf_13 : decode cX7_firstOf 13 = .ok (.if_icmp .ge 37, 3) := by decide +kernel
theorem dX7_firstOf_16 : decode cX7_firstOf 16 = .ok (.iload_n 3, 1) := by decide +kernel
theorem dX7_firstOf_17 : decode cX7_firstOf 17 = .ok (.ifCond .le 33, 3) := by decide +kernel
theorem dX7_firstOf_20 : decode cX7_firstOf 20 = .ok (.aload_n 0, 1) := by decide +kernel
theorem dX7_firstOf_21 : decode cX7_firstOf 21 = .ok (.iload_n 3, 1) := by decide +kernel
theorem dX7_firstOf_22 : decode cX7_firstOf 22 = .ok (.iload_n 1, 1) := by decide +kernel
theorem dX7_firstOf_23 : decode cX7_firstOf 23 = .ok (.invokevirtual 91, 3) := by decide +kernel
theorem dX7_firstOf_26 : decode cX7_firstOf 26 = .ok (.ifCond .ne 24, 3) := by decide +kernel
theorem dX7_firstOf_29 : decode cX7_firstOf 29 = .ok (.aload_n 0, 1) := by decide +kernel
theorem dX7_firstOf_30 : decode cX7_firstOf 30 = .ok (.iload_n 2, 1) := by decide +kernel
theorem dX7_firstOf_31 : decode cX7_firstOf 31 = .ok (.aload_n 0, 1) := by decide +kernel
theorem dX7_firstOf_32 : decode cX7_firstOf 32 = .ok (.getfield 40, 3) := by decide +kernel
theorem dX7_firstOf_35 : decode cX7_firstOf 35 = .ok (.getfield 61, 3) := by decide +kernel
theorem dX7_firstOf_38 : decode cX7_firstOf 38 = .ok (.iload_n 3, 1) := by decide +kernel
theorem dX7_firstOf_39 : decode cX7_firstOf 39 = .ok (.iaload, 1) := by decide +kernel
theorem dX7_firstOf_40 : decode cX7_firstOf 40 = .ok (.invokevirtual 81, 3) := by decide +kernel
theorem dX7_firstOf_43 : decode cX7_firstOf 43 = .ok (.istore_n 3, 1) := by decide +kernel
theorem dX7_firstOf_44 : decode cX7_firstOf 44 = .ok (.iinc 4 1, 3) := by decide +kernel
theorem dX7_firstOf_47 : decode cX7_firstOf 47 = .ok (.goto (-38), 3) := by decide +kernel
theorem dX7_firstOf_50 : decode cX7_firstOf 50 = .ok (.iload_n 3, 1) := by decide +kernel
theorem dX7_firstOf_51 : decode cX7_firstOf 51 = .ok (.ireturn, 1) := by decide +kernel
theorem dX7_fenceOf_0 : decode cX7_fenceOf 0 = .ok (.aload_n 0, 1) := by decide +kernel
theorem dX7_fenceOf_1 : decode cX7_fenceOf 1 = .ok (.iload_n 1, 1) := by decide +kernel
theorem dX7_fenceOf_2 : decode cX7_fenceOf 2 = .ok (.iload_n 2, 1) := by decide +kernel
theorem dX7_fenceOf_3 : decode cX7_fenceOf 3 = .ok (.invokevirtual 94, 3) := by decide +kernel
theorem dX7_fenceOf_6 : decode cX7_fenceOf 6 = .ok (.istore_n 3, 1) := by decide +kernel
theorem dX7_fenceOf_7 : decode cX7_fenceOf 7 = .ok (.aload_n 0, 1) := by decide +kernel
theorem dX7_fenceOf_8 : decode cX7_fenceOf 8 = .ok (.iload_n 3, 1) := by decide +kernel
theorem dX7_fenceOf_9 : decode cX7_fenceOf 9 = .ok (.invokevirtual 64, 3) := by decide +kernel
theorem dX7_fenceOf_12 : decode cX7_fenceOf 12 = .ok (.ifCond .ne 6, 3) := by decide +kernel
theorem dX7_fenceOf_15 : decode cX7_fenceOf 15 = .ok (.bipush (-100), 2) := by decide +kernel
theorem dX7_fenceOf_17 : decode cX7_fenceOf 17 = .ok (.ireturn, 1) := by decide +kernel
theorem dX7_fenceOf_18 : decode cX7_fenceOf 18 = .ok (.aload_n 0, 1) := by decide +kernel
theorem dX7_fenceOf_19 : decode cX7_fenceOf 19 = .ok (.getfield 15, 3) := by decide +kernel
theorem dX7_fenceOf_22 : decode cX7_fenceOf 22 = .ok (.iload_n 3, 1) := by decide +kernel
theorem dX7_fenceOf_23 : decode cX7_fenceOf 23 = .ok (.iaload, 1) := by decide +kernel
theorem dX7_fenceOf_24 : decode cX7_fenceOf 24 = .ok (.iconst 1, 1) := by decide +kernel
theorem dX7_fenceOf_25 : decode cX7_fenceOf 25 = .ok (.if_icmp .ne 7, 3) := by decide +kernel
theorem dX7_fenceOf_28 : decode cX7_fenceOf 28 = .ok (.iconst 1, 1) := by decide +kernel
theorem dX7_fenceOf_29 : decode cX7_fenceOf 29 = .ok (.goto 4, 3) := by decide +kernel
theorem dX7_fenceOf_32 : decode cX7_fenceOf 32 = .ok (.iconst 0, 1) := by decide +kernel
theorem dX7_fenceOf_33 : decode cX7_fenceOf 33 = .ok (.istore 4, 2) := by decide +kernel
theorem dX7_fenceOf_35 : decode cX7_fenceOf 35 = .ok (.iconst 1, 1) := by decide +kernel
theorem dX7_fenceOf_36 : decode cX7_fenceOf 36 = .ok (.istore 5, 2) := by decide +kernel
theorem dX7_fenceOf_38 : decode cX7_fenceOf 38 = .ok (.iload 5, 2) := by decide +kernel
theorem dX7_fenceOf_40 : decode cX7_fenceOf 40 = .ok (.bipush 80, 2) := by decide +kernel
theorem dX7_fenceOf_42 : decode cX7_fenceOf 42 = .ok (.if_icmp .ge 71, 3) := by decide +kernel
theorem dX7_fenceOf_45 : decode cX7_fenceOf 45 = .ok (.aload_n 0, 1) := by decide +kernel
theorem dX7_fenceOf_46 : decode cX7_fenceOf 46 = .ok (.iload 5, 2) := by decide +kernel
theorem dX7_fenceOf_48 : decode cX7_fenceOf 48 = .ok (.iload_n 2, 1) := by decide +kernel
theorem dX7_fenceOf_49 : decode cX7_fenceOf 49 = .ok (.invokevirtual 77, 3) := by decide +kernel
theorem dX7_fenceOf_52 : decode cX7_fenceOf 52 = .ok (.ifCond .eq 29, 3) := by decide +kernel
theorem dX7_fenceOf_55 : decode cX7_fenceOf 55 = .ok (.aload_n 0, 1) := by decide +kernel
theorem dX7_fenceOf_56 : decode cX7_fenceOf 56 = .ok (.getfield 40, 3) := by decide +kernel
theorem dX7_fenceOf_59 : decode cX7_fenceOf 59 = .ok (.getfield 61, 3) := by decide +kernel
theorem dX7_fenceOf_62 : decode cX7_fenceOf 62 = .ok (.iload 5, 2) := by decide +kernel
theorem dX7_fenceOf_64 : decode cX7_fenceOf 64 = .ok (.iaload, 1) := by decide +kernel
theorem dX7_fenceOf_65 : decode cX7_fenceOf 65 = .ok (.aload_n 0, 1) := by decide +kernel
theorem dX7_fenceOf_66 : decode cX7_fenceOf 66 = .ok (.getfield 40, 3) := by decide +kernel
theorem dX7_fenceOf_69 : decode cX7_fenceOf 69 = .ok (.getfield 61, 3) := by decide +kernel
theorem dX7_fenceOf_72 : decode cX7_fenceOf 72 = .ok (.iload_n 3, 1) := by decide +kernel
theorem dX7_fenceOf_73 : decode cX7_fenceOf 73 = .ok (.iaload, 1) := by decide +kernel
theorem dX7_fenceOf_74 : decode cX7_fenceOf 74 = .ok (.if_icmp .ge 7, 3) := by decide +kernel
theorem dX7_fenceOf_77 : decode cX7_fenceOf 77 = .ok (.iconst 1, 1) := by decide +kernel
theorem dX7_fenceOf_78 : decode cX7_fenceOf 78 = .ok (.goto 4, 3) := by decide +kernel
theorem dX7_fenceOf_81 : decode cX7_fenceOf 81 = .ok (.iconst 0, 1) := by decide +kernel
theorem dX7_fenceOf_82 : decode cX7_fenceOf 82 = .ok (.istore 6, 2) := by decide +kernel
theorem dX7_fenceOf_84 : decode cX7_fenceOf 84 = .ok (.iload 6, 2) := by decide +kernel
theorem dX7_fenceOf_86 : decode cX7_fenceOf 86 = .ok (.ifCond .eq 21, 3) := by decide +kernel
theorem dX7_fenceOf_89 : decode cX7_fenceOf 89 = .ok (.iload 4, 2) := by decide +kernel
theorem dX7_fenceOf_91 : decode cX7_fenceOf 91 = .ok (.ifCond .eq 13, 3) := by decide +kernel
theorem dX7_fenceOf_94 : decode cX7_fenceOf 94 = .ok (.aload_n 0, 1) := by decide +kernel
theorem dX7_fenceOf_95 : decode cX7_fenceOf 95 = .ok (.getfield 15, 3) := by decide +kernel
theorem dX7_fenceOf_98 : decode cX7_fenceOf 98 = .ok (.iload 5, 2) := by decide +kernel
theorem dX7_fenceOf_100 : decode cX7_fenceOf 100 = .ok (.iaload, 1) := by decide +kernel
theorem dX7_fenceOf_101 : decode cX7_fenceOf 101 = .ok (.ifCond .ne 6, 3) := by decide +kernel
theorem dX7_fenceOf_104 : decode cX7_fenceOf 104 = .ok (.bipush (-100), 2) := by decide +kernel
theorem dX7_fenceOf_106 : decode cX7_fenceOf 106 = .ok (.ireturn, 1) := by decide +kernel
theorem dX7_fenceOf_107 : decode cX7_fenceOf 107 = .ok (.iinc 5 1, 3) := by decide +kernel
theorem dX7_fenceOf_110 : decode cX7_fenceOf 110 = .ok (.goto (-72), 3) := by decide +kernel
theorem dX7_fenceOf_113 : decode cX7_fenceOf 113 = .ok (.aload_n 0, 1) := by decide +kernel
theorem dX7_fenceOf_114 : decode cX7_fenceOf 114 = .ok (.getfield 40, 3) := by decide +kernel
theorem dX7_fenceOf_117 : decode cX7_fenceOf 117 = .ok (.getfield 74, 3) := by decide +kernel
theorem dX7_fenceOf_120 : decode cX7_fenceOf 120 = .ok (.iload_n 3, 1) := by decide +kernel
theorem dX7_fenceOf_121 : decode cX7_fenceOf 121 = .ok (.iaload, 1) := by decide +kernel
theorem dX7_fenceOf_122 : decode cX7_fenceOf 122 = .ok (.ireturn, 1) := by decide +kernel
theorem dX7_countBelow_0 : decode cX7_countBelow 0 = .ok (.aload_n 0, 1) := by decide +kernel
theorem dX7_countBelow_1 : decode cX7_countBelow 1 = .ok (.getfield 34, 3) := by decide +kernel
theorem dX7_countBelow_4 : decode cX7_countBelow 4 = .ok (.iconst 0, 1) := by decide +kernel
theorem dX7_countBelow_5 : decode cX7_countBelow 5 = .ok (.invokestatic 97, 3) := by decide +kernel
theorem dX7_countBelow_8 : decode cX7_countBelow 8 = .ok (.bipush 79, 2) := by decide +kernel
theorem dX7_countBelow_10 : decode cX7_countBelow 10 = .ok (.istore_n 1, 1) := by decide +kernel
theorem dX7_countBelow_11 : decode cX7_countBelow 11 = .ok (.iload_n 1, 1) := by decide +kernel
theorem dX7_countBelow_12 : decode cX7_countBelow 12 = .ok (.ifCond .le 43, 3) := by decide +kernel
theorem dX7_countBelow_15 : decode cX7_countBelow 15 = .ok (.aload_n 0, 1) := by decide +kernel
theorem dX7_countBelow_16 : decode cX7_countBelow 16 = .ok (.getfield 9, 3) := by decide +kernel
theorem dX7_countBelow_19 : decode cX7_countBelow 19 = .ok (.iload_n 1, 1) := by decide +kernel
theorem dX7_countBelow_20 : decode cX7_countBelow 20 = .ok (.baload, 1) := by decide +kernel
theorem dX7_countBelow_21 : decode cX7_countBelow 21 = .ok (.ifCond .eq 28, 3) := by decide +kernel
theorem dX7_countBelow_24 : decode cX7_countBelow 24 = .ok (.aload_n 0, 1) := by decide +kernel
theorem dX7_countBelow_25 : decode cX7_countBelow 25 = .ok (.getfield 34, 3) := by decide +kernel
theorem dX7_countBelow_28 : decode cX7_countBelow 28 = .ok (.aload_n 0, 1) := by decide +kernel
theorem dX7_countBelow_29 : decode cX7_countBelow 29 = .ok (.getfield 40, 3) := by decide +kernel
theorem dX7_countBelow_32 : decode cX7_countBelow 32 = .ok (.getfield 50, 3) := by decide +kernel
theorem dX7_countBelow_35 : decode cX7_countBelow 35 = .ok (.iload_n 1, 1) := by decide +kernel
theorem dX7_countBelow_36 : decode cX7_countBelow 36 = .ok (.iaload, 1) := by decide +kernel
theorem dX7_countBelow_37 : decode cX7_countBelow 37 = .ok (.dup2, 1) := by decide +kernel
theorem dX7_countBelow_38 : decode cX7_countBelow 38 = .ok (.iaload, 1) := by decide +kernel
theorem dX7_countBelow_39 : decode cX7_countBelow 39 = .ok (.iconst 1, 1) := by decide +kernel
theorem dX7_countBelow_40 : decode cX7_countBelow 40 = .ok (.aload_n 0, 1) := by decide +kernel
theorem dX7_countBelow_41 : decode cX7_countBelow 41 = .ok (.getfield 34, 3) := by decide +kernel
theorem dX7_countBelow_44 : decode cX7_countBelow 44 = .ok (.iload_n 1, 1) := by decide +kernel
theorem dX7_countBelow_45 : decode cX7_countBelow 45 = .ok (.iaload, 1) := by decide +kernel
theorem dX7_countBelow_46 : decode cX7_countBelow 46 = .ok (.iadd, 1) := by decide +kernel
theorem dX7_countBelow_47 : decode cX7_countBelow 47 = .ok (.iadd, 1) := by decide +kernel
theorem dX7_countBelow_48 : decode cX7_countBelow 48 = .ok (.iastore, 1) := by decide +kernel
theorem dX7_countBelow_49 : decode cX7_countBelow 49 = .ok (.iinc 1 (-1), 3) := by decide +kernel
theorem dX7_countBelow_52 : decode cX7_countBelow 52 = .ok (.goto (-41), 3) := by decide +kernel
theorem dX7_countBelow_55 : decode cX7_countBelow 55 = .ok (.return_, 1) := by decide +kernel
theorem dX7_belowOf_0 : decode cX7_belowOf 0 = .ok (.aload_n 0, 1) := by decide +kernel
theorem dX7_belowOf_1 : decode cX7_belowOf 1 = .ok (.invokevirtual 103, 3) := by decide +kernel
theorem dX7_belowOf_4 : decode cX7_belowOf 4 = .ok (.aload_n 0, 1) := by decide +kernel
theorem dX7_belowOf_5 : decode cX7_belowOf 5 = .ok (.getfield 34, 3) := by decide +kernel
theorem dX7_belowOf_8 : decode cX7_belowOf 8 = .ok (.iload_n 1, 1) := by decide +kernel
theorem dX7_belowOf_9 : decode cX7_belowOf 9 = .ok (.iaload, 1) := by decide +kernel
theorem dX7_belowOf_10 : decode cX7_belowOf 10 = .ok (.ireturn, 1) := by decide +kernel
theorem dX8_init_0 : decode cX8_init 0 = .ok (.aload_n 0, 1) := by decide +kernel
theorem dX8_init_1 : decode cX8_init 1 = .ok (.invokespecial 1, 3) := by decide +kernel
theorem dX8_init_4 : decode cX8_init 4 = .ok (.aload_n 0, 1) := by decide +kernel
theorem dX8_init_5 : decode cX8_init 5 = .ok (.new 7, 3) := by decide +kernel
theorem dX8_init_8 : decode cX8_init 8 = .ok (.dup, 1) := by decide +kernel
theorem dX8_init_9 : decode cX8_init 9 = .ok (.invokespecial 9, 3) := by decide +kernel
theorem dX8_init_12 : decode cX8_init 12 = .ok (.putfield 10, 3) := by decide +kernel
theorem dX8_init_15 : decode cX8_init 15 = .ok (.aload_n 0, 1) := by decide +kernel
theorem dX8_init_16 : decode cX8_init 16 = .ok (.iconst 3, 1) := by decide +kernel
theorem dX8_init_17 : decode cX8_init 17 = .ok (.anewarray 16, 3) := by decide +kernel
theorem dX8_init_20 : decode cX8_init 20 = .ok (.putfield 18, 3) := by decide +kernel
theorem dX8_init_23 : decode cX8_init 23 = .ok (.aload_n 0, 1) := by decide +kernel
theorem dX8_init_24 : decode cX8_init 24 = .ok (.new 22, 3) := by decide +kernel
theorem dX8_init_27 : decode cX8_init 27 = .ok (.dup, 1) := by decide +kernel
theorem dX8_init_28 : decode cX8_init 28 = .ok (.aload_n 0, 1) := by decide +kernel
theorem dX8_init_29 : decode cX8_init 29 = .ok (.getfield 10, 3) := by decide +kernel
theorem dX8_init_32 : decode cX8_init 32 = .ok (.invokespecial 24, 3) := by decide +kernel
theorem dX8_init_35 : decode cX8_init 35 = .ok (.putfield 27, 3) := by decide +kernel
theorem dX8_init_38 : decode cX8_init 38 = .ok (.aload_n 0, 1) := by decide +kernel
theorem dX8_init_39 : decode cX8_init 39 = .ok (.new 22, 3) := by decide +kernel
theorem dX8_init_42 : decode cX8_init 42 = .ok (.dup, 1) := by decide +kernel
theorem dX8_init_43 : decode cX8_init 43 = .ok (.aload_n 0, 1) := by decide +kernel
theorem dX8_init_44 : decode cX8_init 44 = .ok (.getfield 10, 3) := by decide +kernel
theorem dX8_init_47 : decode cX8_init 47 = .ok (.invokespecial 24, 3) := by decide +kernel
theorem dX8_init_50 : decode cX8_init 50 = .ok (.putfield 31, 3) := by decide +kernel
theorem dX8_init_53 : decode cX8_init 53 = .ok (.aload_n 0, 1) := by decide +kernel
theorem dX8_init_54 : decode cX8_init 54 = .ok (.new 22, 3) := by decide +kernel
theorem dX8_init_57 : decode cX8_init 57 = .ok (.dup, 1) := by decide +kernel
theorem dX8_init_58 : decode cX8_init 58 = .ok (.aload_n 0, 1) := by decide +kernel
theorem dX8_init_59 : decode cX8_init 59 = .ok (.getfield 10, 3) := by decide +kernel
theorem dX8_init_62 : decode cX8_init 62 = .ok (.invokespecial 24, 3) := by decide +kernel
theorem dX8_init_65 : decode cX8_init 65 = .ok (.putfield 34, 3) := by decide +kernel
theorem dX8_init_68 : decode cX8_init 68 = .ok (.aload_n 0, 1) := by decide +kernel
theorem dX8_init_69 : decode cX8_init 69 = .ok (.new 37, 3) := by decide +kernel
theorem dX8_init_72 : decode cX8_init 72 = .ok (.dup, 1) := by decide +kernel
theorem dX8_init_73 : decode cX8_init 73 = .ok (.invokespecial 39, 3) := by decide +kernel
theorem dX8_init_76 : decode cX8_init 76 = .ok (.putfield 40, 3) := by decide +kernel
theorem dX8_init_79 : decode cX8_init 79 = .ok (.aload_n 0, 1) := by decide +kernel
theorem dX8_init_80 : decode cX8_init 80 = .ok (.new 22, 3) := by decide +kernel
theorem dX8_init_83 : decode cX8_init 83 = .ok (.dup, 1) := by decide +kernel
theorem dX8_init_84 : decode cX8_init 84 = .ok (.aload_n 0, 1) := by decide +kernel
theorem dX8_init_85 : decode cX8_init 85 = .ok (.getfield 10, 3) := by decide +kernel
theorem dX8_init_88 : decode cX8_init 88 = .ok (.invokespecial 24, 3) := by decide +kernel
theorem dX8_init_91 : decode cX8_init 91 = .ok (.putfield 44, 3) := by decide +kernel
theorem dX8_init_94 : decode cX8_init 94 = .ok (.aload_n 0, 1) := by decide +kernel
theorem dX8_init_95 : decode cX8_init 95 = .ok (.new 47, 3) := by decide +kernel
theorem dX8_init_98 : decode cX8_init 98 = .ok (.dup, 1) := by decide +kernel
theorem dX8_init_99 : decode cX8_init 99 = .ok (.invokespecial 49, 3) := by decide +kernel
theorem dX8_init_102 : decode cX8_init 102 = .ok (.putfield 50, 3) := by decide +kernel
theorem dX8_init_105 : decode cX8_init 105 = .ok (.aload_n 0, 1) := by decide +kernel
theorem dX8_init_106 : decode cX8_init 106 = .ok (.new 47, 3) := by decide +kernel
theorem dX8_init_109 : decode cX8_init 109 = .ok (.dup, 1) := by decide +kernel
theorem dX8_init_110 : decode cX8_init 110 = .ok (.invokespecial 49, 3) := by decide +kernel
theorem dX8_init_113 : decode cX8_init 113 = .ok (.putfield 54, 3) := by decide +kernel
theorem dX8_init_116 : decode cX8_init 116 = .ok (.aload_n 0, 1) := by decide +kernel
theorem dX8_init_117 : decode cX8_init 117 = .ok (.new 57, 3) := by decide +kernel
theorem dX8_init_120 : decode cX8_init 120 = .ok (.dup, 1) := by decide +kernel
theorem dX8_init_121 : decode cX8_init 121 = .ok (.invokespecial 59, 3) := by decide +kernel
theorem dX8_init_124 : decode cX8_init 124 = .ok (.putfield 60, 3) := by decide +kernel
theorem dX8_init_127 : decode cX8_init 127 = .ok (.aload_n 0, 1) := by decide +kernel
theorem dX8_init_128 : decode cX8_init 128 = .ok (.bipush 80, 2) := by decide +kernel
theorem dX8_init_130 : decode cX8_init 130 = .ok (.newarray .int, 2) := by decide +kernel
theorem dX8_init_132 : decode cX8_init 132 = .ok (.putfield 64, 3) := by decide +kernel
theorem dX8_init_135 : decode cX8_init 135 = .ok (.aload_n 0, 1) := by decide +kernel
theorem dX8_init_136 : decode cX8_init 136 = .ok (.bipush 80, 2) := by decide +kernel
theorem dX8_init_138 : decode cX8_init 138 = .ok (.newarray .int, 2) := by decide +kernel
theorem dX8_init_140 : decode cX8_init 140 = .ok (.putfield 68, 3) := by decide +kernel
theorem dX8_init_143 : decode cX8_init 143 = .ok (.aload_n 0, 1) := by decide +kernel
theorem dX8_init_144 : decode cX8_init 144 = .ok (.iconst 0, 1) := by decide +kernel
theorem dX8_init_145 : decode cX8_init 145 = .ok (.putfield 71, 3) := by decide +kernel
theorem dX8_init_148 : decode cX8_init 148 = .ok (.aload_n 0, 1) := by decide +kernel
theorem dX8_init_149 : decode cX8_init 149 = .ok (.iconst 1, 1) := by decide +kernel
theorem dX8_init_150 : decode cX8_init 150 = .ok (.putfield 75, 3) := by decide +kernel
theorem dX8_init_153 : decode cX8_init 153 = .ok (.aload_n 0, 1) := by decide +kernel
theorem dX8_init_154 : decode cX8_init 154 = .ok (.iconst 0, 1) := by decide +kernel
theorem dX8_init_155 : decode cX8_init 155 = .ok (.putfield 79, 3) := by decide +kernel
theorem dX8_init_158 : decode cX8_init 158 = .ok (.aload_n 0, 1) := by decide +kernel
theorem dX8_init_159 : decode cX8_init 159 = .ok (.iconst 0, 1) := by decide +kernel
theorem dX8_init_160 : decode cX8_init 160 = .ok (.putfield 82, 3) := by decide +kernel
theorem dX8_init_163 : decode cX8_init 163 = .ok (.aload_n 0, 1) := by decide +kernel
theorem dX8_init_164 : decode cX8_init 164 = .ok (.iconst 0, 1) := by decide +kernel
theorem dX8_init_165 : decode cX8_init 165 = .ok (.putfield 85, 3) := by decide +kernel
theorem dX8_init_168 : decode cX8_init 168 = .ok (.aload_n 0, 1) := by decide +kernel
theorem dX8_init_169 : decode cX8_init 169 = .ok (.iconst 0, 1) := by decide +kernel
theorem dX8_init_170 : decode cX8_init 170 = .ok (.putfield 88, 3) := by decide +kernel
theorem dX8_init_173 : decode cX8_init 173 = .ok (.aload_n 0, 1) := by decide +kernel
theorem dX8_init_174 : decode cX8_init 174 = .ok (.iconst 0, 1) := by decide +kernel
theorem dX8_init_175 : decode cX8_init 175 = .ok (.putfield 91, 3) := by decide +kernel
theorem dX8_init_178 : decode cX8_init 178 = .ok (.aload_n 0, 1) := by decide +kernel
theorem dX8_init_179 : decode cX8_init 179 = .ok (.iconst 0, 1) := by decide +kernel
theorem dX8_init_180 : decode cX8_init 180 = .ok (.putfield 94, 3) := by decide +kernel
theorem dX8_init_183 : decode cX8_init 183 = .ok (.aload_n 0, 1) := by decide +kernel
theorem dX8_init_184 : decode cX8_init 184 = .ok (.getfield 18, 3) := by decide +kernel
theorem dX8_init_187 : decode cX8_init 187 = .ok (.iconst 0, 1) := by decide +kernel
theorem dX8_init_188 : decode cX8_init 188 = .ok (.new 16, 3) := by decide +kernel
theorem dX8_init_191 : decode cX8_init 191 = .ok (.dup, 1) := by decide +kernel
theorem dX8_init_192 : decode cX8_init 192 = .ok (.aload_n 0, 1) := by decide +kernel
theorem dX8_init_193 : decode cX8_init 193 = .ok (.getfield 27, 3) := by decide +kernel
theorem dX8_init_196 : decode cX8_init 196 = .ok (.invokespecial 97, 3) := by decide +kernel
theorem dX8_init_199 : decode cX8_init 199 = .ok (.aastore, 1) := by decide +kernel
theorem dX8_init_200 : decode cX8_init 200 = .ok (.iconst 1, 1) := by decide +kernel
theorem dX8_init_201 : decode cX8_init 201 = .ok (.istore_n 1, 1) := by decide +kernel
theorem dX8_init_202 : decode cX8_init 202 = .ok (.iload_n 1, 1) := by decide +kernel
theorem dX8_init_203 : decode cX8_init 203 = .ok (.iconst 3, 1) := by decide +kernel
theorem dX8_init_204 : decode cX8_init 204 = .ok (.if_icmp .ge 33, 3) := by decide +kernel
theorem dX8_init_207 : decode cX8_init 207 = .ok (.aload_n 0, 1) := by decide +kernel
theorem dX8_init_208 : decode cX8_init 208 = .ok (.getfield 18, 3) := by decide +kernel
theorem dX8_init_211 : decode cX8_init 211 = .ok (.iload_n 1, 1) := by decide +kernel
theorem dX8_init_212 : decode cX8_init 212 = .ok (.new 16, 3) := by decide +kernel
theorem dX8_init_215 : decode cX8_init 215 = .ok (.dup, 1) := by decide +kernel
theorem dX8_init_216 : decode cX8_init 216 = .ok (.new 22, 3) := by decide +kernel
theorem dX8_init_219 : decode cX8_init 219 = .ok (.dup, 1) := by decide +kernel
theorem dX8_init_220 : decode cX8_init 220 = .ok (.aload_n 0, 1) := by decide +kernel
theorem dX8_init_221 : decode cX8_init 221 = .ok (.getfield 10, 3) := by decide +kernel
theorem dX8_init_224 : decode cX8_init 224 = .ok (.invokespecial 24, 3) := by decide +kernel
theorem dX8_init_227 : decode cX8_init 227 = .ok (.invokespecial 97, 3) := by decide +kernel
theorem dX8_init_230 : decode cX8_init 230 = .ok (.aastore, 1) := by decide +kernel
theorem dX8_init_231 : decode cX8_init 231 = .ok (.iinc 1 1, 3) := by decide +kernel
theorem dX8_init_234 : decode cX8_init 234 = .ok (.goto (-32), 3) := by decide +kernel
theorem dX8_init_237 : decode cX8_init 237 = .ok (.aload_n 0, 1) := by decide +kernel
theorem dX8_init_238 : decode cX8_init 238 = .ok (.getfield 64, 3) := by decide +kernel
theorem dX8_init_241 : decode cX8_init 241 = .ok (.bipush 80, 2) := by decide +kernel
theorem dX8_init_243 : decode cX8_init 243 = .ok (.invokestatic 100, 3) := by decide +kernel
theorem dX8_init_246 : decode cX8_init 246 = .ok (.return_, 1) := by decide +kernel
theorem dX8_open_0 : decode cX8_open 0 = .ok (.iload_n 1, 1) := by decide +kernel
theorem dX8_open_1 : decode cX8_open 1 = .ok (.iconst 0, 1) := by decide +kernel
theorem dX8_open_2 : decode cX8_open 2 = .ok (.iconst 3, 1) := by decide +kernel
theorem dX8_open_3 : decode cX8_open 3 = .ok (.invokestatic 106, 3) := by decide +kernel
theorem dX8_open_6 : decode cX8_open 6 = .ok (.ifCond .ne 13, 3) := by decide +kernel
theorem dX8_open_9 : decode cX8_open 9 = .ok (.new 110, 3) := by decide +kernel
theorem dX8_open_12 : decode cX8_open 12 = .ok (.dup, 1) := by decide +kernel
theorem dX8_open_13 : decode cX8_open 13 = .ok (.ldc 112, 2) := by decide +kernel
theorem dX8_open_15 : decode cX8_open 15 = .ok (.invokespecial 114, 3) := by decide +kernel
theorem dX8_open_18 : decode cX8_open 18 = .ok (.athrow, 1) := by decide +kernel
theorem dX8_open_19 : decode cX8_open 19 = .ok (.aload_n 0, 1) := by decide +kernel
theorem dX8_open_20 : decode cX8_open 20 = .ok (.iload_n 2, 1) := by decide +kernel
theorem dX8_open_21 : decode cX8_open 21 = .ok (.invokevirtual 117, 3) := by decide +kernel
theorem dX8_open_24 : decode cX8_open 24 = .ok (.astore 4, 2) := by decide +kernel
theorem dX8_open_26 : decode cX8_open 26 = .ok (.iload_n 3, 1) := by decide +kernel
theorem dX8_open_27 : decode cX8_open 27 = .ok (.iconst 1, 1) := by decide +kernel
theorem dX8_open_28 : decode cX8_open 28 = .ok (.bipush 50, 2) := by decide +kernel
theorem dX8_open_30 : decode cX8_open 30 = .ok (.invokestatic 106, 3) := by decide +kernel
theorem dX8_open_33 : decode cX8_open 33 = .ok (.ifCond .ne 13, 3) := by decide +kernel
theorem dX8_open_36 : decode cX8_open 36 = .ok (.new 121, 3) := by decide +kernel
theorem dX8_open_39 : decode cX8_open 39 = .ok (.dup, 1) := by decide +kernel
theorem dX8_open_40 : decode cX8_open 40 = .ok (.ldc 123, 2) := by decide +kernel
theorem dX8_open_42 : decode cX8_open 42 = .ok (.invokespecial 125, 3) := by decide +kernel
theorem dX8_open_45 : decode cX8_open 45 = .ok (.athrow, 1) := by decide +kernel
theorem dX8_open_46 : decode cX8_open 46 = .ok (.aload_n 0, 1) := by decide +kernel
theorem dX8_open_47 : decode cX8_open 47 = .ok (.getfield 50, 3) := by decide +kernel
theorem dX8_open_50 : decode cX8_open 50 = .ok (.invokevirtual 126, 3) := by decide +kernel
theorem dX8_open_53 : decode cX8_open 53 = .ok (.bipush 10, 2) := by decide +kernel
theorem dX8_open_55 : decode cX8_open 55 = .ok (.if_icmp .lt 13, 3) := by decide +kernel
theorem dX8_open_58 : decode cX8_open 58 = .ok (.new 130, 3) := by decide +kernel
theorem dX8_open_61 : decode cX8_open 61 = .ok (.dup, 1) := by decide +kernel
theorem dX8_open_62 : decode cX8_open 62 = .ok (.ldc 132, 2) := by decide +kernel
theorem dX8_open_64 : decode cX8_open 64 = .ok (.invokespecial 134, 3) := by decide +kernel
theorem dX8_open_67 : decode cX8_open 67 = .ok (.athrow, 1) := by decide +kernel
theorem dX8_open_68 : decode cX8_open 68 = .ok (.aload_n 0, 1) := by decide +kernel
theorem dX8_open_69 : decode cX8_open 69 = .ok (.getfield 50, 3) := by decide +kernel
theorem dX8_open_72 : decode cX8_open 72 = .ok (.invokevirtual 126, 3) := by decide +kernel
theorem dX8_open_75 : decode cX8_open 75 = .ok (.istore 5, 2) := by decide +kernel
theorem dX8_open_77 : decode cX8_open 77 = .ok (.aload_n 0, 1) := by decide +kernel
theorem dX8_open_78 : decode cX8_open 78 = .ok (.getfield 50, 3) := by decide +kernel
theorem dX8_open_81 : decode cX8_open 81 = .ok (.new 135, 3) := by decide +kernel
theorem dX8_open_84 : decode cX8_open 84 = .ok (.dup, 1) := by decide +kernel
theorem dX8_open_85 : decode cX8_open 85 = .ok (.iload 5, 2) := by decide +kernel
theorem dX8_open_87 : decode cX8_open 87 = .ok (.iload_n 1, 1) := by decide +kernel
theorem dX8_open_88 : decode cX8_open 88 = .ok (.aload 4, 2) := by decide +kernel
theorem dX8_open_90 : decode cX8_open 90 = .ok (.iload_n 3, 1) := by decide +kernel
theorem dX8_open_91 : decode cX8_open 91 = .ok (.aload_n 0, 1) := by decide +kernel
theorem dX8_open_92 : decode cX8_open 92 = .ok (.getfield 79, 3) := by decide +kernel
theorem dX8_open_95 : decode cX8_open 95 = .ok (.invokespecial 137, 3) := by decide +kernel
theorem dX8_open_98 : decode cX8_open 98 = .ok (.invokevirtual 140, 3) := by decide +kernel
theorem dX8_open_101 : decode cX8_open 101 = .ok (.pop, 1) := by decide +kernel
theorem dX8_open_102 : decode cX8_open 102 = .ok (.iload 5, 2) := by decide +kernel
theorem dX8_open_104 : decode cX8_open 104 = .ok (.ireturn, 1) := by decide +kernel
theorem dX8_close_0 : decode cX8_close 0 = .ok (.aload_n 0, 1) := by decide +kernel
theorem dX8_close_1 : decode cX8_close 1 = .ok (.iload_n 1, 1) := by decide +kernel
theorem dX8_close_2 : decode cX8_close 2 = .ok (.invokevirtual 144, 3) := by decide +kernel
theorem dX8_close_5 : decode cX8_close 5 = .ok (.astore_n 2, 1) := by decide +kernel
theorem dX8_close_6 : decode cX8_close 6 = .ok (.aload_n 0, 1) := by decide +kernel
theorem dX8_close_7 : decode cX8_close 7 = .ok (.aload_n 2, 1) := by decide +kernel
theorem dX8_close_8 : decode cX8_close 8 = .ok (.invokevirtual 148, 3) := by decide +kernel
theorem dX8_close_11 : decode cX8_close 11 = .ok (.aload_n 0, 1) := by decide +kernel
theorem dX8_close_12 : decode cX8_close 12 = .ok (.aload_n 2, 1) := by decide +kernel
theorem dX8_close_13 : decode cX8_close 13 = .ok (.invokevirtual 152, 3) := by decide +kernel
theorem dX8_close_16 : decode cX8_close 16 = .ok (.aload_n 0, 1) := by decide +kernel
theorem dX8_close_17 : decode cX8_close 17 = .ok (.aload_n 2, 1) := by decide +kernel
theorem dX8_close_18 : decode cX8_close 18 = .ok (.invokevirtual 155, 3) := by decide +kernel
theorem dX8_close_21 : decode cX8_close 21 = .ok (.ireturn, 1) := by decide +kernel
theorem dX8_ping_0 : decode cX8_ping 0 = .ok (.aload_n 0, 1) := by decide +kernel
theorem dX8_ping_1 : decode cX8_ping 1 = .ok (.iload_n 1, 1) := by decide +kernel
theorem dX8_ping_2 : decode cX8_ping 2 = .ok (.invokevirtual 144, 3) := by decide +kernel
theorem dX8_ping_5 : decode cX8_ping 5 = .ok (.astore_n 2, 1) := by decide +kernel
theorem dX8_ping_6 : decode cX8_ping 6 = .ok (.aload_n 0, 1) := by decide +kernel
theorem dX8_ping_7 : decode cX8_ping 7 = .ok (.aload_n 2, 1) := by decide +kernel
theorem dX8_ping_8 : decode cX8_ping 8 = .ok (.invokevirtual 159, 3) := by decide +kernel
theorem dX8_ping_11 : decode cX8_ping 11 = .ok (.aload_n 2, 1) := by decide +kernel
theorem dX8_ping_12 : decode cX8_ping 12 = .ok (.getfield 162, 3) := by decide +kernel
theorem dX8_ping_15 : decode cX8_ping 15 = .ok (.getfield 166, 3) := by decide +kernel
theorem dX8_ping_18 : decode cX8_ping 18 = .ok (.ireturn, 1) := by decide +kernel
theorem dX8_move_0 : decode cX8_move 0 = .ok (.aload_n 0, 1) := by decide +kernel
theorem dX8_move_1 : decode cX8_move 1 = .ok (.iload_n 1, 1) := by decide +kernel
theorem dX8_move_2 : decode cX8_move 2 = .ok (.invokevirtual 144, 3) := by decide +kernel
theorem dX8_move_5 : decode cX8_move 5 = .ok (.astore_n 3, 1) := by decide +kernel
theorem dX8_move_6 : decode cX8_move 6 = .ok (.aload_n 0, 1) := by decide +kernel
theorem dX8_move_7 : decode cX8_move 7 = .ok (.iload_n 2, 1) := by decide +kernel
theorem dX8_move_8 : decode cX8_move 8 = .ok (.invokevirtual 117, 3) := by decide +kernel
theorem dX8_move_11 : decode cX8_move 11 = .ok (.astore 4, 2) := by decide +kernel
theorem dX8_move_13 : decode cX8_move 13 = .ok (.aload_n 0, 1) := by decide +kernel
theorem dX8_move_14 : decode cX8_move 14 = .ok (.aload_n 3, 1) := by decide +kernel
theorem dX8_move_15 : decode cX8_move 15 = .ok (.invokevirtual 159, 3) := by decide +kernel
theorem dX8_move_18 : decode cX8_move 18 = .ok (.aload 4, 2) := by decide +kernel
theorem dX8_move_20 : decode cX8_move 20 = .ok (.getfield 166, 3) := by decide +kernel
theorem dX8_move_23 : decode cX8_move 23 = .ok (.aload_n 3, 1) := by decide +kernel
theorem dX8_move_24 : decode cX8_move 24 = .ok (.getfield 162, 3) := by decide +kernel
theorem dX8_move_27 : decode cX8_move 27 = .ok (.getfield 166, 3) := by decide +kernel
theorem dX8_move_30 : decode cX8_move 30 = .ok (.if_icmp .ge 5, 3) := by decide +kernel
theorem dX8_move_33 : decode cX8_move 33 = .ok (.iconst 0, 1) := by decide +kernel
theorem dX8_move_34 : decode cX8_move 34 = .ok (.ireturn, 1) := by decide +kernel
theorem dX8_move_35 : decode cX8_move 35 = .ok (.aload_n 3, 1) := by decide +kernel
theorem dX8_move_36 : decode cX8_move 36 = .ok (.aload 4, 2) := by decide +kernel
theorem dX8_move_38 : decode cX8_move 38 = .ok (.putfield 162, 3) := by decide +kernel
theorem dX8_move_41 : decode cX8_move 41 = .ok (.iconst 1, 1) := by decide +kernel
theorem dX8_move_42 : decode cX8_move 42 = .ok (.ireturn, 1) := by decide +kernel
theorem dX8_sync_0 : decode cX8_sync 0 = .ok (.aload_n 0, 1) := by decide +kernel
theorem dX8_sync_1 : decode cX8_sync 1 = .ok (.iload_n 1, 1) := by decide +kernel
theorem dX8_sync_2 : decode cX8_sync 2 = .ok (.invokevirtual 144, 3) := by decide +kernel
theorem dX8_sync_5 : decode cX8_sync 5 = .ok (.astore_n 2, 1) := by decide +kernel
theorem dX8_sync_6 : decode cX8_sync 6 = .ok (.aload_n 0, 1) := by decide +kernel
theorem dX8_sync_7 : decode cX8_sync 7 = .ok (.aload_n 2, 1) := by decide +kernel
theorem dX8_sync_8 : decode cX8_sync 8 = .ok (.invokevirtual 159, 3) := by decide +kernel
theorem dX8_sync_11 : decode cX8_sync 11 = .ok (.aload_n 0, 1) := by decide +kernel
theorem dX8_sync_12 : decode cX8_sync 12 = .ok (.aload_n 2, 1) := by decide +kernel
theorem dX8_sync_13 : decode cX8_sync 13 = .ok (.getfield 162, 3) := by decide +kernel
theorem dX8_sync_16 : decode cX8_sync 16 = .ok (.aload_n 0, 1) := by decide +kernel
theorem dX8_sync_17 : decode cX8_sync 17 = .ok (.getfield 82, 3) := by decide +kernel
theorem dX8_sync_20 : decode cX8_sync 20 = .ok (.invokevirtual 169, 3) := by decide +kernel
theorem dX8_sync_23 : decode cX8_sync 23 = .ok (.ireturn, 1) := by decide +kernel
theorem dX8_follow_0 : decode cX8_follow 0 = .ok (.aload_n 0, 1) := by decide +kernel
theorem dX8_follow_1 : decode cX8_follow 1 = .ok (.iload_n 1, 1) := by decide +kernel
theorem dX8_follow_2 : decode cX8_follow 2 = .ok (.invokevirtual 117, 3) := by decide +kernel
theorem dX8_follow_5 : decode cX8_follow 5 = .ok (.astore_n 3, 1) := by decide +kernel
theorem dX8_follow_6 : decode cX8_follow 6 = .ok (.iload_n 2, 1) := by decide +kernel
theorem dX8_follow_7 : decode cX8_follow 7 = .ok (.iconst 1, 1) := by decide +kernel
theorem dX8_follow_8 : decode cX8_follow 8 = .ok (.bipush 20, 2) := by decide +kernel
theorem dX8_follow_10 : decode cX8_follow 10 = .ok (.invokestatic 106, 3) := by decide +kernel
theorem dX8_follow_13 : decode cX8_follow 13 = .ok (.ifCond .ne 13, 3) := by decide +kernel
theorem dX8_follow_16 : decode cX8_follow 16 = .ok (.new 121, 3) := by decide +kernel
theorem dX8_follow_19 : decode cX8_follow 19 = .ok (.dup, 1) := by decide +kernel
theorem dX8_follow_20 : decode cX8_follow 20 = .ok (.ldc 173, 2) := by decide +kernel
theorem dX8_follow_22 : decode cX8_follow 22 = .ok (.invokespecial 125, 3) := by decide +kernel
theorem dX8_follow_25 : decode cX8_follow 25 = .ok (.athrow, 1) := by decide +kernel
theorem dX8_follow_26 : decode cX8_follow 26 = .ok (.aload_n 0, 1) := by decide +kernel
theorem dX8_follow_27 : decode cX8_follow 27 = .ok (.aload_n 3, 1) := by decide +kernel
theorem dX8_follow_28 : decode cX8_follow 28 = .ok (.iload_n 2, 1) := by decide +kernel
theorem dX8_follow_29 : decode cX8_follow 29 = .ok (.invokevirtual 169, 3) := by decide +kernel
theorem dX8_follow_32 : decode cX8_follow 32 = .ok (.ireturn, 1) := by decide +kernel
theorem dX8_pass_0 : decode cX8_pass 0 = .ok (.iload_n 1, 1) := by decide +kernel
theorem dX8_pass_1 : decode cX8_pass 1 = .ok (.iconst 1, 1) := by decide +kernel
theorem dX8_pass_2 : decode cX8_pass 2 = .ok (.bipush 50, 2) := by decide +kernel
theorem dX8_pass_4 : decode cX8_pass 4 = .ok (.invokestatic 106, 3) := by decide +kernel
theorem dX8_pass_7 : decode cX8_pass 7 = .ok (.ifCond .ne 13, 3) := by decide +kernel
theorem dX8_pass_10 : decode cX8_pass 10 = .ok (.new 121, 3) := by decide +kernel
theorem dX8_pass_13 : decode cX8_pass 13 = .ok (.dup, 1) := by decide +kernel
theorem dX8_pass_14 : decode cX8_pass 14 = .ok (.ldc 175, 2) := by decide +kernel
theorem dX8_pass_16 : decode cX8_pass 16 = .ok (.invokespecial 125, 3) := by decide +kernel
theorem dX8_pass_19 : decode cX8_pass 19 = .ok (.athrow, 1) := by decide +kernel
theorem dX8_pass_20 : decode cX8_pass 20 = .ok (.iconst 0, 1) := by decide +kernel
theorem dX8_pass_21 : decode cX8_pass 21 = .ok (.istore_n 2, 1) := by decide +kernel
theorem dX8_pass_22 : decode cX8_pass 22 = .ok (.iload_n 2, 1) := by decide +kernel
theorem dX8_pass_23 : decode cX8_pass 23 = .ok (.iload_n 1, 1) := by decide +kernel
theorem dX8_pass_24 : decode cX8_pass 24 = .ok (.if_icmp .ge 27, 3) := by decide +kernel
theorem dX8_pass_27 : decode cX8_pass 27 = .ok (.aload_n 0, 1) := by decide +kernel
theorem dX8_pass_28 : decode cX8_pass 28 = .ok (.dup, 1) := by decide +kernel
theorem dX8_pass_29 : decode cX8_pass 29 = .ok (.getfield 79, 3) := by decide +kernel
theorem dX8_pass_32 : decode cX8_pass 32 = .ok (.iconst 1, 1) := by decide +kernel
theorem dX8_pass_33 : decode cX8_pass 33 = .ok (.iadd, 1) := by decide +kernel
theorem dX8_pass_34 : decode cX8_pass 34 = .ok (.putfield 79, 3) := by decide +kernel
theorem dX8_pass_37 : decode cX8_pass 37 = .ok (.aload_n 0, 1) := by decide +kernel
theorem dX8_pass_38 : decode cX8_pass 38 = .ok (.invokevirtual 177, 3) := by decide +kernel
theorem dX8_pass_41 : decode cX8_pass 41 = .ok (.aload_n 0, 1) := by decide +kernel
theorem dX8_pass_42 : decode cX8_pass 42 = .ok (.invokevirtual 180, 3) := by decide +kernel
theorem dX8_pass_45 : decode cX8_pass 45 = .ok (.iinc 2 1, 3) := by decide +kernel
theorem dX8_pass_48 : decode cX8_pass 48 = .ok (.goto (-26), 3) := by decide +kernel
theorem dX8_pass_51 : decode cX8_pass 51 = .ok (.aload_n 0, 1) := by decide +kernel
theorem dX8_pass_52 : decode cX8_pass 52 = .ok (.getfield 79, 3) := by decide +kernel
theorem dX8_pass_55 : decode cX8_pass 55 = .ok (.ireturn, 1) := by decide +kernel
theorem dX8_lease_0 : decode cX8_lease 0 = .ok (.iload_n 1, 1) := by decide +kernel
theorem dX8_lease_1 : decode cX8_lease 1 = .ok (.iconst 1, 1) := by decide +kernel
theorem dX8_lease_2 : decode cX8_lease 2 = .ok (.bipush 50, 2) := by decide +kernel
theorem dX8_lease_4 : decode cX8_lease 4 = .ok (.invokestatic 106, 3) := by decide +kernel
theorem dX8_lease_7 : decode cX8_lease 7 = .ok (.ifCond .ne 13, 3) := by decide +kernel
theorem dX8_lease_10 : decode cX8_lease 10 = .ok (.new 121, 3) := by decide +kernel
theorem dX8_lease_13 : decode cX8_lease 13 = .ok (.dup, 1) := by decide +kernel
theorem dX8_lease_14 : decode cX8_lease 14 = .ok (.ldc 175, 2) := by decide +kernel
theorem dX8_lease_16 : decode cX8_lease 16 = .ok (.invokespecial 125, 3) := by decide +kernel
theorem dX8_lease_19 : decode cX8_lease 19 = .ok (.athrow, 1) := by decide +kernel
theorem dX8_lease_20 : decode cX8_lease 20 = .ok (.aload_n 0, 1) := by decide +kernel
theorem dX8_lease_21 : decode cX8_lease 21 = .ok (.getfield 54, 3) := by decide +kernel
theorem dX8_lease_24 : decode cX8_lease 24 = .ok (.invokevirtual 126, 3) := by decide +kernel
theorem dX8_lease_27 : decode cX8_lease 27 = .ok (.bipush 10, 2) := by decide +kernel
theorem dX8_lease_29 : decode cX8_lease 29 = .ok (.if_icmp .lt 13, 3) := by decide +kernel
theorem dX8_lease_32 : decode cX8_lease 32 = .ok (.new 130, 3) := by decide +kernel
theorem dX8_lease_35 : decode cX8_lease 35 = .ok (.dup, 1) := by decide +kernel
theorem dX8_lease_36 : decode cX8_lease 36 = .ok (.ldc 183, 2) := by decide +kernel
theorem dX8_lease_38 : decode cX8_lease 38 = .ok (.invokespecial 134, 3) := by decide +kernel
theorem dX8_lease_41 : decode cX8_lease 41 = .ok (.athrow, 1) := by decide +kernel
theorem dX8_lease_42 : decode cX8_lease 42 = .ok (.aload_n 0, 1) := by decide +kernel
theorem dX8_lease_43 : decode cX8_lease 43 = .ok (.getfield 54, 3) := by decide +kernel
theorem dX8_lease_46 : decode cX8_lease 46 = .ok (.new 185, 3) := by decide +kernel
theorem dX8_lease_49 : decode cX8_lease 49 = .ok (.dup, 1) := by decide +kernel
theorem dX8_lease_50 : decode cX8_lease 50 = .ok (.iload_n 1, 1) := by decide +kernel
theorem dX8_lease_51 : decode cX8_lease 51 = .ok (.aload_n 0, 1) := by decide +kernel
theorem dX8_lease_52 : decode cX8_lease 52 = .ok (.getfield 79, 3) := by decide +kernel
theorem dX8_lease_55 : decode cX8_lease 55 = .ok (.iload_n 1, 1) := by decide +kernel
theorem dX8_lease_56 : decode cX8_lease 56 = .ok (.iadd, 1) := by decide +kernel
theorem dX8_lease_57 : decode cX8_lease 57 = .ok (.invokespecial 187, 3) := by decide +kernel
theorem dX8_lease_60 : decode cX8_lease 60 = .ok (.invokevirtual 140, 3) := by decide +kernel
theorem dX8_lease_63 : decode cX8_lease 63 = .ok (.pop, 1) := by decide +kernel
theorem dX8_lease_64 : decode cX8_lease 64 = .ok (.aload_n 0, 1) := by decide +kernel
theorem dX8_lease_65 : decode cX8_lease 65 = .ok (.getfield 54, 3) := by decide +kernel
theorem dX8_lease_68 : decode cX8_lease 68 = .ok (.invokevirtual 126, 3) := by decide +kernel
theorem dX8_lease_71 : decode cX8_lease 71 = .ok (.iconst 1, 1) := by decide +kernel
theorem dX8_lease_72 : decode cX8_lease 72 = .ok (.isub, 1) := by decide +kernel
theorem dX8_lease_73 : decode cX8_lease 73 = .ok (.ireturn, 1) := by decide +kernel
theorem dX8_renew_0 : decode cX8_renew 0 = .ok (.aload_n 0, 1) := by decide +kernel
theorem dX8_renew_1 : decode cX8_renew 1 = .ok (.iload_n 1, 1) := by decide +kernel
theorem dX8_renew_2 : decode cX8_renew 2 = .ok (.invokevirtual 190, 3) := by decide +kernel
theorem dX8_renew_5 : decode cX8_renew 5 = .ok (.astore_n 2, 1) := by decide +kernel
theorem dX8_renew_6 : decode cX8_renew 6 = .ok (.aload_n 2, 1) := by decide +kernel
theorem dX8_renew_7 : decode cX8_renew 7 = .ok (.getfield 194, 3) := by decide +kernel
theorem dX8_renew_10 : decode cX8_renew 10 = .ok (.ifCond .eq 13, 3) := by decide +kernel
theorem dX8_renew_13 : decode cX8_renew 13 = .ok (.new 130, 3) := by decide +kernel
theorem dX8_renew_16 : decode cX8_renew 16 = .ok (.dup, 1) := by decide +kernel
theorem dX8_renew_17 : decode cX8_renew 17 = .ok (.ldc 197, 2) := by decide +kernel
theorem dX8_renew_19 : decode cX8_renew 19 = .ok (.invokespecial 134, 3) := by decide +kernel
theorem dX8_renew_22 : decode cX8_renew 22 = .ok (.athrow, 1) := by decide +kernel
theorem dX8_renew_23 : decode cX8_renew 23 = .ok (.aload_n 2, 1) := by decide +kernel
theorem dX8_renew_24 : decode cX8_renew 24 = .ok (.aload_n 0, 1) := by decide +kernel
theorem dX8_renew_25 : decode cX8_renew 25 = .ok (.getfield 79, 3) := by decide +kernel
theorem dX8_renew_28 : decode cX8_renew 28 = .ok (.aload_n 2, 1) := by decide +kernel
theorem dX8_renew_29 : decode cX8_renew 29 = .ok (.getfield 199, 3) := by decide +kernel
theorem dX8_renew_32 : decode cX8_renew 32 = .ok (.iadd, 1) := by decide +kernel
theorem dX8_renew_33 : decode cX8_renew 33 = .ok (.putfield 202, 3) := by decide +kernel
theorem dX8_renew_36 : decode cX8_renew 36 = .ok (.aload_n 2, 1) := by decide +kernel
theorem dX8_renew_37 : decode cX8_renew 37 = .ok (.getfield 202, 3) := by decide +kernel
theorem dX8_renew_40 : decode cX8_renew 40 = .ok (.ireturn, 1) := by decide +kernel
theorem dX8_make_0 : decode cX8_make 0 = .ok (.aload_n 0, 1) := by decide +kernel
theorem dX8_make_1 : decode cX8_make 1 = .ok (.iload_n 1, 1) := by decide +kernel
theorem dX8_make_2 : decode cX8_make 2 = .ok (.invokevirtual 144, 3) := by decide +kernel
theorem dX8_make_5 : decode cX8_make 5 = .ok (.astore 8, 2) := by decide +kernel
theorem dX8_make_7 : decode cX8_make 7 = .ok (.iload_n 3, 1) := by decide +kernel
theorem dX8_make_8 : decode cX8_make 8 = .ok (.iload 4, 2) := by decide +kernel
theorem dX8_make_10 : decode cX8_make 10 = .ok (.invokestatic 205, 3) := by decide +kernel
theorem dX8_make_13 : decode cX8_make 13 = .ok (.iload 5, 2) := by decide +kernel
theorem dX8_make_15 : decode cX8_make 15 = .ok (.invokestatic 209, 3) := by decide +kernel
theorem dX8_make_18 : decode cX8_make 18 = .ok (.iload 6, 2) := by decide +kernel
theorem dX8_make_20 : decode cX8_make 20 = .ok (.iconst 0, 1) := by decide +kernel
theorem dX8_make_21 : decode cX8_make 21 = .ok (.iconst 3, 1) := by decide +kernel
theorem dX8_make_22 : decode cX8_make 22 = .ok (.invokestatic 106, 3) := by decide +kernel
theorem dX8_make_25 : decode cX8_make 25 = .ok (.ifCond .ne 13, 3) := by decide +kernel
theorem dX8_make_28 : decode cX8_make 28 = .ok (.new 121, 3) := by decide +kernel
theorem dX8_make_31 : decode cX8_make 31 = .ok (.dup, 1) := by decide +kernel
theorem dX8_make_32 : decode cX8_make 32 = .ok (.ldc 213, 2) := by decide +kernel
theorem dX8_make_34 : decode cX8_make 34 = .ok (.invokespecial 125, 3) := by decide +kernel
theorem dX8_make_37 : decode cX8_make 37 = .ok (.athrow, 1) := by decide +kernel
theorem dX8_make_38 : decode cX8_make 38 = .ok (.iload 6, 2) := by decide +kernel
theorem dX8_make_40 : decode cX8_make 40 = .ok (.iconst 2, 1) := by decide +kernel
theorem dX8_make_41 : decode cX8_make 41 = .ok (.if_icmp .ne 12, 3) := by decide +kernel
theorem dX8_make_44 : decode cX8_make 44 = .ok (.aload_n 0, 1) := by decide +kernel
theorem dX8_make_45 : decode cX8_make 45 = .ok (.iload 7, 2) := by decide +kernel
theorem dX8_make_47 : decode cX8_make 47 = .ok (.invokevirtual 190, 3) := by decide +kernel
theorem dX8_make_50 : decode cX8_make 50 = .ok (.goto 4, 3) := by decide +kernel
theorem dX8_make_53 : decode cX8_make 53 = .ok (.aconst_null, 1) := by decide +kernel
theorem dX8_make_54 : decode cX8_make 54 = .ok (.astore 9, 2) := by decide +kernel
theorem dX8_make_56 : decode cX8_make 56 = .ok (.aload_n 0, 1) := by decide +kernel
theorem dX8_make_57 : decode cX8_make 57 = .ok (.aload 8, 2) := by decide +kernel
theorem dX8_make_59 : decode cX8_make 59 = .ok (.invokevirtual 148, 3) := by decide +kernel
theorem dX8_make_62 : decode cX8_make 62 = .ok (.aload 9, 2) := by decide +kernel
theorem dX8_make_64 : decode cX8_make 64 = .ok (.ifnull 21, 3) := by decide +kernel
theorem dX8_make_67 : decode cX8_make 67 = .ok (.aload 9, 2) := by decide +kernel
theorem dX8_make_69 : decode cX8_make 69 = .ok (.getfield 194, 3) := by decide +kernel
theorem dX8_make_72 : decode cX8_make 72 = .ok (.ifCond .eq 13, 3) := by decide +kernel
theorem dX8_make_75 : decode cX8_make 75 = .ok (.new 130, 3) := by decide +kernel
theorem dX8_make_78 : decode cX8_make 78 = .ok (.dup, 1) := by decide +kernel
theorem dX8_make_79 : decode cX8_make 79 = .ok (.ldc 197, 2) := by decide +kernel
theorem dX8_make_81 : decode cX8_make 81 = .ok (.invokespecial 134, 3) := by decide +kernel
theorem dX8_make_84 : decode cX8_make 84 = .ok (.athrow, 1) := by decide +kernel
theorem dX8_make_85 : decode cX8_make 85 = .ok (.aload_n 0, 1) := by decide +kernel
theorem dX8_make_86 : decode cX8_make 86 = .ok (.aload 8, 2) := by decide +kernel
theorem dX8_make_88 : decode cX8_make 88 = .ok (.invokevirtual 215, 3) := by decide +kernel
theorem dX8_make_91 : decode cX8_make 91 = .ok (.astore 10, 2) := by decide +kernel
theorem dX8_make_93 : decode cX8_make 93 = .ok (.aload 10, 2) := by decide +kernel
theorem dX8_make_95 : decode cX8_make 95 = .ok (.iload_n 2, 1) := by decide +kernel
theorem dX8_make_96 : decode cX8_make 96 = .ok (.iload 4, 2) := by decide +kernel
theorem dX8_make_98 : decode cX8_make 98 = .ok (.ifCond .eq 9, 3) := by decide +kernel
theorem dX8_make_101 : decode cX8_make 101 = .ok (.sipush 1000, 3) := by decide +kernel
theorem dX8_make_104 : decode cX8_make 104 = .ok (.goto 4, 3) := by decide +kernel
theorem dX8_make_107 : decode cX8_make 107 = .ok (.iload_n 3, 1) := by decide +kernel
theorem dX8_make_108 : decode cX8_make 108 = .ok (.iload 5, 2) := by decide +kernel
theorem dX8_make_110 : decode cX8_make 110 = .ok (.iload 6, 2) := by decide +kernel
theorem dX8_make_112 : decode cX8_make 112 = .ok (.invokevirtual 219, 3) := by decide +kernel
theorem dX8_make_115 : decode cX8_make 115 = .ok (.aload 10, 2) := by decide +kernel
theorem dX8_make_117 : decode cX8_make 117 = .ok (.iload 6, 2) := by decide +kernel
theorem dX8_make_119 : decode cX8_make 119 = .ok (.iconst 2, 1) := by decide +kernel
theorem dX8_make_120 : decode cX8_make 120 = .ok (.if_icmp .ne 8, 3) := by decide +kernel
theorem dX8_make_123 : decode cX8_make 123 = .ok (.iload 7, 2) := by decide +kernel
theorem dX8_make_125 : decode cX8_make 125 = .ok (.goto 4, 3) := by decide +kernel
theorem dX8_make_128 : decode cX8_make 128 = .ok (.iload_n 1, 1) := by decide +kernel
theorem dX8_make_129 : decode cX8_make 129 = .ok (.putfield 223, 3) := by decide +kernel
theorem dX8_make_132 : decode cX8_make 132 = .ok (.aload_n 0, 1) := by decide +kernel
theorem dX8_make_133 : decode cX8_make 133 = .ok (.aload 8, 2) := by decide +kernel
theorem dX8_make_135 : decode cX8_make 135 = .ok (.aload 10, 2) := by decide +kernel
theorem dX8_make_137 : decode cX8_make 137 = .ok (.invokevirtual 226, 3) := by decide +kernel
theorem dX8_make_140 : decode cX8_make 140 = .ok (.ireturn, 1) := by decide +kernel
theorem dX8_set_0 : decode cX8_set 0 = .ok (.aload_n 0, 1) := by decide +kernel
theorem dX8_set_1 : decode cX8_set 1 = .ok (.iload_n 1, 1) := by decide +kernel
theorem dX8_set_2 : decode cX8_set 2 = .ok (.invokevirtual 144, 3) := by decide +kernel
theorem dX8_set_5 : decode cX8_set 5 = .ok (.astore 5, 2) := by decide +kernel
theorem dX8_set_7 : decode cX8_set 7 = .ok (.iload_n 3, 1) := by decide +kernel
theorem dX8_set_8 : decode cX8_set 8 = .ok (.invokestatic 209, 3) := by decide +kernel
theorem dX8_set_11 : decode cX8_set 11 = .ok (.aload_n 0, 1) := by decide +kernel
theorem dX8_set_12 : decode cX8_set 12 = .ok (.aload 5, 2) := by decide +kernel
theorem dX8_set_14 : decode cX8_set 14 = .ok (.invokevirtual 215, 3) := by decide +kernel
theorem dX8_set_17 : decode cX8_set 17 = .ok (.astore 6, 2) := by decide +kernel
theorem dX8_set_19 : decode cX8_set 19 = .ok (.aload 6, 2) := by decide +kernel
theorem dX8_set_21 : decode cX8_set 21 = .ok (.iconst 1, 1) := by decide +kernel
theorem dX8_set_22 : decode cX8_set 22 = .ok (.iload_n 2, 1) := by decide +kernel
theorem dX8_set_23 : decode cX8_set 23 = .ok (.iload_n 3, 1) := by decide +kernel
theorem dX8_set_24 : decode cX8_set 24 = .ok (.iload 4, 2) := by decide +kernel
theorem dX8_set_26 : decode cX8_set 26 = .ok (.invokevirtual 230, 3) := by decide +kernel
theorem dX8_set_29 : decode cX8_set 29 = .ok (.aload_n 0, 1) := by decide +kernel
theorem dX8_set_30 : decode cX8_set 30 = .ok (.aload 5, 2) := by decide +kernel
theorem dX8_set_32 : decode cX8_set 32 = .ok (.aload 6, 2) := by decide +kernel
theorem dX8_set_34 : decode cX8_set 34 = .ok (.invokevirtual 226, 3) := by decide +kernel
theorem dX8_set_37 : decode cX8_set 37 = .ok (.ireturn, 1) := by decide +kernel
theorem dX8_delete_0 : decode cX8_delete 0 = .ok (.aload_n 0, 1) := by decide +kernel
theorem dX8_delete_1 : decode cX8_delete 1 = .ok (.iload_n 1, 1) := by decide +kernel
theorem dX8_delete_2 : decode cX8_delete 2 = .ok (.invokevirtual 144, 3) := by decide +kernel
theorem dX8_delete_5 : decode cX8_delete 5 = .ok (.astore 4, 2) := by decide +kernel
theorem dX8_delete_7 : decode cX8_delete 7 = .ok (.aload_n 0, 1) := by decide +kernel
theorem dX8_delete_8 : decode cX8_delete 8 = .ok (.aload 4, 2) := by decide +kernel
theorem dX8_delete_10 : decode cX8_delete 10 = .ok (.invokevirtual 215, 3) := by decide +kernel
theorem dX8_delete_13 : decode cX8_delete 13 = .ok (.astore 5, 2) := by decide +kernel
theorem dX8_delete_15 : decode cX8_delete 15 = .ok (.aload 5, 2) := by decide +kernel
theorem dX8_delete_17 : decode cX8_delete 17 = .ok (.iconst 2, 1) := by decide +kernel
theorem dX8_delete_18 : decode cX8_delete 18 = .ok (.iload_n 2, 1) := by decide +kernel
theorem dX8_delete_19 : decode cX8_delete 19 = .ok (.iconst 0, 1) := by decide +kernel
theorem dX8_delete_20 : decode cX8_delete 20 = .ok (.iload_n 3, 1) := by decide +kernel
theorem dX8_delete_21 : decode cX8_delete 21 = .ok (.invokevirtual 230, 3) := by decide +kernel
theorem dX8_delete_24 : decode cX8_delete 24 = .ok (.aload_n 0, 1) := by decide +kernel
theorem dX8_delete_25 : decode cX8_delete 25 = .ok (.aload 4, 2) := by decide +kernel
theorem dX8_delete_27 : decode cX8_delete 27 = .ok (.aload 5, 2) := by decide +kernel
theorem dX8_delete_29 : decode cX8_delete 29 = .ok (.invokevirtual 226, 3) := by decide +kernel
theorem dX8_delete_32 : decode cX8_delete 32 = .ok (.ireturn, 1) := by decide +kernel
theorem dX8_rights_0 : decode cX8_rights 0 = .ok (.aload_n 0, 1) := by decide +kernel
theorem dX8_rights_1 : decode cX8_rights 1 = .ok (.iload_n 1, 1) := by decide +kernel
theorem dX8_rights_2 : decode cX8_rights 2 = .ok (.invokevirtual 144, 3) := by decide +kernel
theorem dX8_rights_5 : decode cX8_rights 5 = .ok (.astore 6, 2) := by decide +kernel
theorem dX8_rights_7 : decode cX8_rights 7 = .ok (.iload_n 3, 1) := by decide +kernel
theorem dX8_rights_8 : decode cX8_rights 8 = .ok (.iconst 0, 1) := by decide +kernel
theorem dX8_rights_9 : decode cX8_rights 9 = .ok (.bipush 15, 2) := by decide +kernel
theorem dX8_rights_11 : decode cX8_rights 11 = .ok (.invokestatic 106, 3) := by decide +kernel
theorem dX8_rights_14 : decode cX8_rights 14 = .ok (.ifCond .eq 14, 3) := by decide +kernel
theorem dX8_rights_17 : decode cX8_rights 17 = .ok (.iload 4, 2) := by decide +kernel
theorem dX8_rights_19 : decode cX8_rights 19 = .ok (.iconst 0, 1) := by decide +kernel
theorem dX8_rights_20 : decode cX8_rights 20 = .ok (.bipush 15, 2) := by decide +kernel
theorem dX8_rights_22 : decode cX8_rights 22 = .ok (.invokestatic 106, 3) := by decide +kernel
theorem dX8_rights_25 : decode cX8_rights 25 = .ok (.ifCond .ne 13, 3) := by decide +kernel
theorem dX8_rights_28 : decode cX8_rights 28 = .ok (.new 121, 3) := by decide +kernel
theorem dX8_rights_31 : decode cX8_rights 31 = .ok (.dup, 1) := by decide +kernel
theorem dX8_rights_32 : decode cX8_rights 32 = .ok (.ldc 233, 2) := by decide +kernel
theorem dX8_rights_34 : decode cX8_rights 34 = .ok (.invokespecial 125, 3) := by decide +kernel
theorem dX8_rights_37 : decode cX8_rights 37 = .ok (.athrow, 1) := by decide +kernel
theorem dX8_rights_38 : decode cX8_rights 38 = .ok (.aload_n 0, 1) := by decide +kernel
theorem dX8_rights_39 : decode cX8_rights 39 = .ok (.aload 6, 2) := by decide +kernel
theorem dX8_rights_41 : decode cX8_rights 41 = .ok (.invokevirtual 215, 3) := by decide +kernel
theorem dX8_rights_44 : decode cX8_rights 44 = .ok (.astore 7, 2) := by decide +kernel
theorem dX8_rights_46 : decode cX8_rights 46 = .ok (.aload 7, 2) := by decide +kernel
theorem dX8_rights_48 : decode cX8_rights 48 = .ok (.iload 5, 2) := by decide +kernel
theorem dX8_rights_50 : decode cX8_rights 50 = .ok (.ifCond .eq 7, 3) := by decide +kernel
theorem dX8_rights_53 : decode cX8_rights 53 = .ok (.iconst 4, 1) := by decide +kernel
theorem dX8_rights_54 : decode cX8_rights 54 = .ok (.goto 4, 3) := by decide +kernel
theorem dX8_rights_57 : decode cX8_rights 57 = .ok (.iconst 3, 1) := by decide +kernel
theorem dX8_rights_58 : decode cX8_rights 58 = .ok (.iload_n 2, 1) := by decide +kernel
theorem dX8_rights_59 : decode cX8_rights 59 = .ok (.iload_n 3, 1) := by decide +kernel
theorem dX8_rights_60 : decode cX8_rights 60 = .ok (.bipush 16, 2) := by decide +kernel
theorem dX8_rights_62 : decode cX8_rights 62 = .ok (.iload 4, 2) := by decide +kernel
theorem dX8_rights_64 : decode cX8_rights 64 = .ok (.imul, 1) := by decide +kernel
theorem dX8_rights_65 : decode cX8_rights 65 = .ok (.iadd, 1) := by decide +kernel
theorem dX8_rights_66 : decode cX8_rights 66 = .ok (.iconst (-1), 1) := by decide +kernel
theorem dX8_rights_67 : decode cX8_rights 67 = .ok (.invokevirtual 230, 3) := by decide +kernel
theorem dX8_rights_70 : decode cX8_rights 70 = .ok (.aload_n 0, 1) := by decide +kernel
theorem dX8_rights_71 : decode cX8_rights 71 = .ok (.aload 6, 2) := by decide +kernel
theorem dX8_rights_73 : decode cX8_rights 73 = .ok (.aload 7, 2) := by decide +kernel
theorem dX8_rights_75 : decode cX8_rights 75 = .ok (.invokevirtual 226, 3) := by decide +kernel
theorem dX8_rights_78 : decode cX8_rights 78 = .ok (.ireturn, 1) := by decide +kernel
theorem dX8_check_0 : decode cX8_check 0 = .ok (.aload_n 0, 1) := by decide +kernel
theorem dX8_check_1 : decode cX8_check 1 = .ok (.iload_n 1, 1) := by decide +kernel
theorem dX8_check_2 : decode cX8_check 2 = .ok (.invokevirtual 144, 3) := by decide +kernel
theorem dX8_check_5 : decode cX8_check 5 = .ok (.astore 4, 2) := by decide +kernel
theorem dX8_check_7 : decode cX8_check 7 = .ok (.aload_n 0, 1) := by decide +kernel
theorem dX8_check_8 : decode cX8_check 8 = .ok (.aload 4, 2) := by decide +kernel
theorem dX8_check_10 : decode cX8_check 10 = .ok (.invokevirtual 215, 3) := by decide +kernel
theorem dX8_check_13 : decode cX8_check 13 = .ok (.astore 5, 2) := by decide +kernel
theorem dX8_check_15 : decode cX8_check 15 = .ok (.aload 5, 2) := by decide +kernel
theorem dX8_check_17 : decode cX8_check 17 = .ok (.iconst 5, 1) := by decide +kernel
theorem dX8_check_18 : decode cX8_check 18 = .ok (.iload_n 2, 1) := by decide +kernel
