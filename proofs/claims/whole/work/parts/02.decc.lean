theorem dX9_of_89 : decode cX9_of 89 = .ok (.ireturn, 1) := by decide +kernel
theorem dX9_of_90 : decode cX9_of 90 = .ok (.aload_n 0, 1) := by decide +kernel
theorem dX9_of_91 : decode cX9_of 91 = .ok (.getfield 25, 3) := by decide +kernel
theorem dX9_of_94 : decode cX9_of 94 = .ok (.iload_n 1, 1) := by decide +kernel
theorem dX9_of_95 : decode cX9_of 95 = .ok (.iaload, 1) := by decide +kernel
theorem dX9_of_96 : decode cX9_of 96 = .ok (.ireturn, 1) := by decide +kernel
theorem dX9_of_97 : decode cX9_of 97 = .ok (.aload_n 0, 1) := by decide +kernel
theorem dX9_of_98 : decode cX9_of 98 = .ok (.iload_n 1, 1) := by decide +kernel
theorem dX9_of_99 : decode cX9_of 99 = .ok (.iload_n 2, 1) := by decide +kernel
theorem dX9_of_100 : decode cX9_of 100 = .ok (.iconst 4, 1) := by decide +kernel
theorem dX9_of_101 : decode cX9_of 101 = .ok (.if_icmp .ne 7, 3) := by decide +kernel
theorem dX9_of_104 : decode cX9_of 104 = .ok (.iconst 3, 1) := by decide +kernel
theorem dX9_of_105 : decode cX9_of 105 = .ok (.goto 4, 3) := by decide +kernel
theorem dX9_of_108 : decode cX9_of 108 = .ok (.iconst 4, 1) := by decide +kernel
theorem dX9_of_109 : decode cX9_of 109 = .ok (.invokevirtual 129, 3) := by decide +kernel
theorem dX9_of_112 : decode cX9_of 112 = .ok (.ireturn, 1) := by decide +kernel
theorem dX9_item_0 : decode cX9_item 0 = .ok (.aload_n 0, 1) := by decide +kernel
theorem dX9_item_1 : decode cX9_item 1 = .ok (.iload_n 1, 1) := by decide +kernel
theorem dX9_item_2 : decode cX9_item 2 = .ok (.invokevirtual 122, 3) := by decide +kernel
theorem dX9_item_5 : decode cX9_item 5 = .ok (.ifCond .eq 43, 3) := by decide +kernel
theorem dX9_item_8 : decode cX9_item 8 = .ok (.aload_n 0, 1) := by decide +kernel
theorem dX9_item_9 : decode cX9_item 9 = .ok (.getfield 7, 3) := by decide +kernel
theorem dX9_item_12 : decode cX9_item 12 = .ok (.iload_n 1, 1) := by decide +kernel
theorem dX9_item_13 : decode cX9_item 13 = .ok (.iaload, 1) := by decide +kernel
theorem dX9_item_14 : decode cX9_item 14 = .ok (.iconst 3, 1) := by decide +kernel
theorem dX9_item_15 : decode cX9_item 15 = .ok (.if_icmp .le 33, 3) := by decide +kernel
theorem dX9_item_18 : decode cX9_item 18 = .ok (.iload_n 2, 1) := by decide +kernel
theorem dX9_item_19 : decode cX9_item 19 = .ok (.iconst 0, 1) := by decide +kernel
theorem dX9_item_20 : decode cX9_item 20 = .ok (.aload_n 0, 1) := by decide +kernel
theorem dX9_item_21 : decode cX9_item 21 = .ok (.getfield 16, 3) := by decide +kernel
theorem dX9_item_24 : decode cX9_item 24 = .ok (.iload_n 1, 1) := by decide +kernel
theorem dX9_item_25 : decode cX9_item 25 = .ok (.iaload, 1) := by decide +kernel
theorem dX9_item_26 : decode cX9_item 26 = .ok (.iconst 1, 1) := by decide +kernel
theorem dX9_item_27 : decode cX9_item 27 = .ok (.isub, 1) := by decide +kernel
theorem dX9_item_28 : decode cX9_item 28 = .ok (.invokestatic 114, 3) := by decide +kernel
theorem dX9_item_31 : decode cX9_item 31 = .ok (.ifCond .eq 17, 3) := by decide +kernel
theorem dX9_item_34 : decode cX9_item 34 = .ok (.aload_n 0, 1) := by decide +kernel
theorem dX9_item_35 : decode cX9_item 35 = .ok (.getfield 19, 3) := by decide +kernel
theorem dX9_item_38 : decode cX9_item 38 = .ok (.bipush 12, 2) := by decide +kernel
theorem dX9_item_40 : decode cX9_item 40 = .ok (.iload_n 1, 1) := by decide +kernel
theorem dX9_item_41 : decode cX9_item 41 = .ok (.imul, 1) := by decide +kernel
theorem dX9_item_42 : decode cX9_item 42 = .ok (.iload_n 2, 1) := by decide +kernel
theorem dX9_item_43 : decode cX9_item 43 = .ok (.iadd, 1) := by decide +kernel
theorem dX9_item_44 : decode cX9_item 44 = .ok (.iaload, 1) := by decide +kernel
theorem dX9_item_45 : decode cX9_item 45 = .ok (.goto 4, 3) := by decide +kernel
theorem dX9_item_48 : decode cX9_item 48 = .ok (.iconst (-1), 1) := by decide +kernel
theorem dX9_item_49 : decode cX9_item 49 = .ok (.ireturn, 1) := by decide +kernel
theorem dX9_leaves_0 : decode cX9_leaves 0 = .ok (.aload_n 0, 1) := by decide +kernel
theorem dX9_leaves_1 : decode cX9_leaves 1 = .ok (.getfield 28, 3) := by decide +kernel
theorem dX9_leaves_4 : decode cX9_leaves 4 = .ok (.aload_n 0, 1) := by decide +kernel
theorem dX9_leaves_5 : decode cX9_leaves 5 = .ok (.getfield 132, 3) := by decide +kernel
theorem dX9_leaves_8 : decode cX9_leaves 8 = .ok (.iload_n 1, 1) := by decide +kernel
theorem dX9_leaves_9 : decode cX9_leaves 9 = .ok (.iastore, 1) := by decide +kernel
theorem dX9_leaves_10 : decode cX9_leaves 10 = .ok (.aload_n 0, 1) := by decide +kernel
theorem dX9_leaves_11 : decode cX9_leaves 11 = .ok (.dup, 1) := by decide +kernel
theorem dX9_leaves_12 : decode cX9_leaves 12 = .ok (.getfield 132, 3) := by decide +kernel
theorem dX9_leaves_15 : decode cX9_leaves 15 = .ok (.iconst 1, 1) := by decide +kernel
theorem dX9_leaves_16 : decode cX9_leaves 16 = .ok (.iadd, 1) := by decide +kernel
theorem dX9_leaves_17 : decode cX9_leaves 17 = .ok (.putfield 132, 3) := by decide +kernel
theorem dX9_leaves_20 : decode cX9_leaves 20 = .ok (.return_, 1) := by decide +kernel
theorem dX9_weighs_0 : decode cX9_weighs 0 = .ok (.aload_n 0, 1) := by decide +kernel
theorem dX9_weighs_1 : decode cX9_weighs 1 = .ok (.iconst 0, 1) := by decide +kernel
theorem dX9_weighs_2 : decode cX9_weighs 2 = .ok (.putfield 132, 3) := by decide +kernel
theorem dX9_weighs_5 : decode cX9_weighs 5 = .ok (.aload_n 0, 1) := by decide +kernel
theorem dX9_weighs_6 : decode cX9_weighs 6 = .ok (.getfield 7, 3) := by decide +kernel
theorem dX9_weighs_9 : decode cX9_weighs 9 = .ok (.iload_n 1, 1) := by decide +kernel
theorem dX9_weighs_10 : decode cX9_weighs 10 = .ok (.iaload, 1) := by decide +kernel
theorem dX9_weighs_11 : decode cX9_weighs 11 = .ok (.istore_n 2, 1) := by decide +kernel
theorem dX9_weighs_12 : decode cX9_weighs 12 = .ok (.iload_n 2, 1) := by decide +kernel
theorem dX9_weighs_13 : decode cX9_weighs 13 = .ok (.ifCond .eq 8, 3) := by decide +kernel
theorem dX9_weighs_16 : decode cX9_weighs 16 = .ok (.iload_n 2, 1) := by decide +kernel
theorem dX9_weighs_17 : decode cX9_weighs 17 = .ok (.iconst 3, 1) := by decide +kernel
theorem dX9_weighs_18 : decode cX9_weighs 18 = .ok (.if_icmp .le 31, 3) := by decide +kernel
theorem dX9_weighs_21 : decode cX9_weighs 21 = .ok (.aload_n 0, 1) := by decide +kernel
theorem dX9_weighs_22 : decode cX9_weighs 22 = .ok (.iload_n 2, 1) := by decide +kernel
theorem dX9_weighs_23 : decode cX9_weighs 23 = .ok (.ifCond .ne 7, 3) := by decide +kernel
theorem dX9_weighs_26 : decode cX9_weighs 26 = .ok (.iconst 1, 1) := by decide +kernel
theorem dX9_weighs_27 : decode cX9_weighs 27 = .ok (.goto 4, 3) := by decide +kernel
theorem dX9_weighs_30 : decode cX9_weighs 30 = .ok (.iconst 5, 1) := by decide +kernel
theorem dX9_weighs_31 : decode cX9_weighs 31 = .ok (.invokevirtual 135, 3) := by decide +kernel
theorem dX9_weighs_34 : decode cX9_weighs 34 = .ok (.iload_n 2, 1) := by decide +kernel
theorem dX9_weighs_35 : decode cX9_weighs 35 = .ok (.ifCond .ne 7, 3) := by decide +kernel
theorem dX9_weighs_38 : decode cX9_weighs 38 = .ok (.iconst 1, 1) := by decide +kernel
theorem dX9_weighs_39 : decode cX9_weighs 39 = .ok (.goto 9, 3) := by decide +kernel
theorem dX9_weighs_42 : decode cX9_weighs 42 = .ok (.aload_n 0, 1) := by decide +kernel
theorem dX9_weighs_43 : decode cX9_weighs 43 = .ok (.getfield 16, 3) := by decide +kernel
theorem dX9_weighs_46 : decode cX9_weighs 46 = .ok (.iload_n 1, 1) := by decide +kernel
theorem dX9_weighs_47 : decode cX9_weighs 47 = .ok (.iaload, 1) := by decide +kernel
theorem dX9_weighs_48 : decode cX9_weighs 48 = .ok (.ireturn, 1) := by decide +kernel
theorem dX9_weighs_49 : decode cX9_weighs 49 = .ok (.iload_n 2, 1) := by decide +kernel
theorem dX9_weighs_50 : decode cX9_weighs 50 = .ok (.iconst 3, 1) := by decide +kernel
theorem dX9_weighs_51 : decode cX9_weighs 51 = .ok (.if_icmp .ne 8, 3) := by decide +kernel
theorem dX9_weighs_54 : decode cX9_weighs 54 = .ok (.aload_n 0, 1) := by decide +kernel
theorem dX9_weighs_55 : decode cX9_weighs 55 = .ok (.iconst 4, 1) := by decide +kernel
theorem dX9_weighs_56 : decode cX9_weighs 56 = .ok (.invokevirtual 135, 3) := by decide +kernel
theorem dX9_weighs_59 : decode cX9_weighs 59 = .ok (.iload_n 2, 1) := by decide +kernel
theorem dX9_weighs_60 : decode cX9_weighs 60 = .ok (.iconst 1, 1) := by decide +kernel
theorem dX9_weighs_61 : decode cX9_weighs 61 = .ok (.if_icmp .le 8, 3) := by decide +kernel
theorem dX9_weighs_64 : decode cX9_weighs 64 = .ok (.aload_n 0, 1) := by decide +kernel
theorem dX9_weighs_65 : decode cX9_weighs 65 = .ok (.iconst 3, 1) := by decide +kernel
theorem dX9_weighs_66 : decode cX9_weighs 66 = .ok (.invokevirtual 135, 3) := by decide +kernel
theorem dX9_weighs_69 : decode cX9_weighs 69 = .ok (.aload_n 0, 1) := by decide +kernel
theorem dX9_weighs_70 : decode cX9_weighs 70 = .ok (.iconst 2, 1) := by decide +kernel
theorem dX9_weighs_71 : decode cX9_weighs 71 = .ok (.invokevirtual 135, 3) := by decide +kernel
theorem dX9_weighs_74 : decode cX9_weighs 74 = .ok (.aload_n 0, 1) := by decide +kernel
theorem dX9_weighs_75 : decode cX9_weighs 75 = .ok (.iload_n 2, 1) := by decide +kernel
theorem dX9_weighs_76 : decode cX9_weighs 76 = .ok (.iconst 3, 1) := by decide +kernel
theorem dX9_weighs_77 : decode cX9_weighs 77 = .ok (.if_icmp .ne 8, 3) := by decide +kernel
theorem dX9_weighs_80 : decode cX9_weighs 80 = .ok (.bipush 7, 2) := by decide +kernel
theorem dX9_weighs_82 : decode cX9_weighs 82 = .ok (.goto 5, 3) := by decide +kernel
theorem dX9_weighs_85 : decode cX9_weighs 85 = .ok (.bipush 6, 2) := by decide +kernel
theorem dX9_weighs_87 : decode cX9_weighs 87 = .ok (.invokevirtual 135, 3) := by decide +kernel
theorem dX9_weighs_90 : decode cX9_weighs 90 = .ok (.aload_n 0, 1) := by decide +kernel
theorem dX9_weighs_91 : decode cX9_weighs 91 = .ok (.iload_n 2, 1) := by decide +kernel
theorem dX9_weighs_92 : decode cX9_weighs 92 = .ok (.iconst 1, 1) := by decide +kernel
theorem dX9_weighs_93 : decode cX9_weighs 93 = .ok (.if_icmp .ne 8, 3) := by decide +kernel
theorem dX9_weighs_96 : decode cX9_weighs 96 = .ok (.bipush 8, 2) := by decide +kernel
theorem dX9_weighs_98 : decode cX9_weighs 98 = .ok (.goto 5, 3) := by decide +kernel
theorem dX9_weighs_101 : decode cX9_weighs 101 = .ok (.bipush 9, 2) := by decide +kernel
theorem dX9_weighs_103 : decode cX9_weighs 103 = .ok (.invokevirtual 135, 3) := by decide +kernel
theorem dX9_weighs_106 : decode cX9_weighs 106 = .ok (.iload_n 2, 1) := by decide +kernel
theorem dX9_weighs_107 : decode cX9_weighs 107 = .ok (.iconst 1, 1) := by decide +kernel
theorem dX9_weighs_108 : decode cX9_weighs 108 = .ok (.if_icmp .ne 7, 3) := by decide +kernel
theorem dX9_weighs_111 : decode cX9_weighs 111 = .ok (.iconst 3, 1) := by decide +kernel
theorem dX9_weighs_112 : decode cX9_weighs 112 = .ok (.goto 5, 3) := by decide +kernel
theorem dX9_weighs_115 : decode cX9_weighs 115 = .ok (.bipush 8, 2) := by decide +kernel
theorem dX9_weighs_117 : decode cX9_weighs 117 = .ok (.istore_n 3, 1) := by decide +kernel
theorem dX9_weighs_118 : decode cX9_weighs 118 = .ok (.aload_n 0, 1) := by decide +kernel
theorem dX9_weighs_119 : decode cX9_weighs 119 = .ok (.getfield 13, 3) := by decide +kernel
theorem dX9_weighs_122 : decode cX9_weighs 122 = .ok (.iload_n 1, 1) := by decide +kernel
theorem dX9_weighs_123 : decode cX9_weighs 123 = .ok (.iaload, 1) := by decide +kernel
theorem dX9_weighs_124 : decode cX9_weighs 124 = .ok (.iload_n 2, 1) := by decide +kernel
theorem dX9_weighs_125 : decode cX9_weighs 125 = .ok (.iconst 3, 1) := by decide +kernel
theorem dX9_weighs_126 : decode cX9_weighs 126 = .ok (.if_icmp .ne 10, 3) := by decide +kernel
theorem dX9_weighs_129 : decode cX9_weighs 129 = .ok (.bipush 10, 2) := by decide +kernel
theorem dX9_weighs_131 : decode cX9_weighs 131 = .ok (.iload_n 3, 1) := by decide +kernel
theorem dX9_weighs_132 : decode cX9_weighs 132 = .ok (.imul, 1) := by decide +kernel
theorem dX9_weighs_133 : decode cX9_weighs 133 = .ok (.goto 6, 3) := by decide +kernel
theorem dX9_weighs_136 : decode cX9_weighs 136 = .ok (.iload_n 3, 1) := by decide +kernel
theorem dX9_weighs_137 : decode cX9_weighs 137 = .ok (.iconst 1, 1) := by decide +kernel
theorem dX9_weighs_138 : decode cX9_weighs 138 = .ok (.iadd, 1) := by decide +kernel
theorem dX9_weighs_139 : decode cX9_weighs 139 = .ok (.iadd, 1) := by decide +kernel
theorem dX9_weighs_140 : decode cX9_weighs 140 = .ok (.istore 4, 2) := by decide +kernel
theorem dX9_weighs_142 : decode cX9_weighs 142 = .ok (.iload_n 2, 1) := by decide +kernel
theorem dX9_weighs_143 : decode cX9_weighs 143 = .ok (.iconst 1, 1) := by decide +kernel
theorem dX9_weighs_144 : decode cX9_weighs 144 = .ok (.if_icmp .ne 8, 3) := by decide +kernel
theorem dX9_weighs_147 : decode cX9_weighs 147 = .ok (.iload 4, 2) := by decide +kernel
theorem dX9_weighs_149 : decode cX9_weighs 149 = .ok (.goto 21, 3) := by decide +kernel
theorem dX9_weighs_152 : decode cX9_weighs 152 = .ok (.iload_n 2, 1) := by decide +kernel
theorem dX9_weighs_153 : decode cX9_weighs 153 = .ok (.iconst 2, 1) := by decide +kernel
theorem dX9_weighs_154 : decode cX9_weighs 154 = .ok (.if_icmp .ne 10, 3) := by decide +kernel
theorem dX9_weighs_157 : decode cX9_weighs 157 = .ok (.iconst 2, 1) := by decide +kernel
theorem dX9_weighs_158 : decode cX9_weighs 158 = .ok (.iload 4, 2) := by decide +kernel
theorem dX9_weighs_160 : decode cX9_weighs 160 = .ok (.imul, 1) := by decide +kernel
theorem dX9_weighs_161 : decode cX9_weighs 161 = .ok (.goto 9, 3) := by decide +kernel
theorem dX9_weighs_164 : decode cX9_weighs 164 = .ok (.iconst 2, 1) := by decide +kernel
theorem dX9_weighs_165 : decode cX9_weighs 165 = .ok (.iload 4, 2) := by decide +kernel
theorem dX9_weighs_167 : decode cX9_weighs 167 = .ok (.imul, 1) := by decide +kernel
theorem dX9_weighs_168 : decode cX9_weighs 168 = .ok (.iconst 1, 1) := by decide +kernel
theorem dX9_weighs_169 : decode cX9_weighs 169 = .ok (.isub, 1) := by decide +kernel
theorem dX9_weighs_170 : decode cX9_weighs 170 = .ok (.ireturn, 1) := by decide +kernel
theorem dX9_weigh_0 : decode cX9_weigh 0 = .ok (.aload_n 0, 1) := by decide +kernel
theorem dX9_weigh_1 : decode cX9_weigh 1 = .ok (.iload_n 1, 1) := by decide +kernel
theorem dX9_weigh_2 : decode cX9_weigh 2 = .ok (.invokevirtual 122, 3) := by decide +kernel
theorem dX9_weigh_5 : decode cX9_weigh 5 = .ok (.ifCond .eq 11, 3) := by decide +kernel
theorem dX9_weigh_8 : decode cX9_weigh 8 = .ok (.aload_n 0, 1) := by decide +kernel
theorem dX9_weigh_9 : decode cX9_weigh 9 = .ok (.iload_n 1, 1) := by decide +kernel
theorem dX9_weigh_10 : decode cX9_weigh 10 = .ok (.invokevirtual 139, 3) := by decide +kernel
theorem dX9_weigh_13 : decode cX9_weigh 13 = .ok (.goto 4, 3) := by decide +kernel
theorem dX9_weigh_16 : decode cX9_weigh 16 = .ok (.iconst (-1), 1) := by decide +kernel
theorem dX9_weigh_17 : decode cX9_weigh 17 = .ok (.ireturn, 1) := by decide +kernel
theorem dX9_trace_0 : decode cX9_trace 0 = .ok (.iload_n 1, 1) := by decide +kernel
theorem dX9_trace_1 : decode cX9_trace 1 = .ok (.iconst 0, 1) := by decide +kernel
theorem dX9_trace_2 : decode cX9_trace 2 = .ok (.aload_n 0, 1) := by decide +kernel
theorem dX9_trace_3 : decode cX9_trace 3 = .ok (.getfield 132, 3) := by decide +kernel
theorem dX9_trace_6 : decode cX9_trace 6 = .ok (.iconst 1, 1) := by decide +kernel
theorem dX9_trace_7 : decode cX9_trace 7 = .ok (.isub, 1) := by decide +kernel
theorem dX9_trace_8 : decode cX9_trace 8 = .ok (.invokestatic 114, 3) := by decide +kernel
theorem dX9_trace_11 : decode cX9_trace 11 = .ok (.ifCond .eq 12, 3) := by decide +kernel
theorem dX9_trace_14 : decode cX9_trace 14 = .ok (.aload_n 0, 1) := by decide +kernel
theorem dX9_trace_15 : decode cX9_trace 15 = .ok (.getfield 28, 3) := by decide +kernel
theorem dX9_trace_18 : decode cX9_trace 18 = .ok (.iload_n 1, 1) := by decide +kernel
theorem dX9_trace_19 : decode cX9_trace 19 = .ok (.iaload, 1) := by decide +kernel
theorem dX9_trace_20 : decode cX9_trace 20 = .ok (.goto 5, 3) := by decide +kernel
theorem dX9_trace_23 : decode cX9_trace 23 = .ok (.bipush (-4), 2) := by decide +kernel
theorem dX9_trace_25 : decode cX9_trace 25 = .ok (.ireturn, 1) := by decide +kernel
theorem dX9_isUnderWay_0 : decode cX9_isUnderWay 0 = .ok (.aload_n 0, 1) := by decide +kernel
theorem dX9_isUnderWay_1 : decode cX9_isUnderWay 1 = .ok (.getfield 40, 3) := by decide +kernel
theorem dX9_isUnderWay_4 : decode cX9_isUnderWay 4 = .ok (.iload_n 1, 1) := by decide +kernel
theorem dX9_isUnderWay_5 : decode cX9_isUnderWay 5 = .ok (.iaload, 1) := by decide +kernel
theorem dX9_isUnderWay_6 : decode cX9_isUnderWay 6 = .ok (.iconst 2, 1) := by decide +kernel
theorem dX9_isUnderWay_7 : decode cX9_isUnderWay 7 = .ok (.bipush 6, 2) := by decide +kernel
theorem dX9_isUnderWay_9 : decode cX9_isUnderWay 9 = .ok (.invokestatic 114, 3) := by decide +kernel
theorem dX9_isUnderWay_12 : decode cX9_isUnderWay 12 = .ok (.ireturn, 1) := by decide +kernel
theorem dX9_isInUse_0 : decode cX9_isInUse 0 = .ok (.iconst 0, 1) := by decide +kernel
theorem dX9_isInUse_1 : decode cX9_isInUse 1 = .ok (.istore_n 2, 1) := by decide +kernel
theorem dX9_isInUse_2 : decode cX9_isInUse 2 = .ok (.iconst 0, 1) := by decide +kernel
theorem dX9_isInUse_3 : decode cX9_isInUse 3 = .ok (.istore_n 3, 1) := by decide +kernel
theorem dX9_isInUse_4 : decode cX9_isInUse 4 = .ok (.iload_n 3, 1) := by decide +kernel
theorem dX9_isInUse_5 : decode cX9_isInUse 5 = .ok (.bipush 6, 2) := by decide +kernel
theorem dX9_isInUse_7 : decode cX9_isInUse 7 = .ok (.if_icmp .ge 37, 3) := by decide +kernel
theorem dX9_isInUse_10 : decode cX9_isInUse 10 = .ok (.iload_n 2, 1) := by decide +kernel
theorem dX9_isInUse_11 : decode cX9_isInUse 11 = .ok (.ifCond .ne 21, 3) := by decide +kernel
theorem dX9_isInUse_14 : decode cX9_isInUse 14 = .ok (.aload_n 0, 1) := by decide +kernel
theorem dX9_isInUse_15 : decode cX9_isInUse 15 = .ok (.iload_n 3, 1) := by decide +kernel
theorem dX9_isInUse_16 : decode cX9_isInUse 16 = .ok (.invokevirtual 143, 3) := by decide +kernel
theorem dX9_isInUse_19 : decode cX9_isInUse 19 = .ok (.ifCond .eq 17, 3) := by decide +kernel
theorem dX9_isInUse_22 : decode cX9_isInUse 22 = .ok (.aload_n 0, 1) := by decide +kernel
theorem dX9_isInUse_23 : decode cX9_isInUse 23 = .ok (.getfield 43, 3) := by decide +kernel
theorem dX9_isInUse_26 : decode cX9_isInUse 26 = .ok (.iload_n 3, 1) := by decide +kernel
theorem dX9_isInUse_27 : decode cX9_isInUse 27 = .ok (.iaload, 1) := by decide +kernel
theorem dX9_isInUse_28 : decode cX9_isInUse 28 = .ok (.iload_n 1, 1) := by decide +kernel
theorem dX9_isInUse_29 : decode cX9_isInUse 29 = .ok (.if_icmp .ne 7, 3) := by decide +kernel
theorem dX9_isInUse_32 : decode cX9_isInUse 32 = .ok (.iconst 1, 1) := by decide +kernel
theorem dX9_isInUse_33 : decode cX9_isInUse 33 = .ok (.goto 4, 3) := by decide +kernel
theorem dX9_isInUse_36 : decode cX9_isInUse 36 = .ok (.iconst 0, 1) := by decide +kernel
theorem dX9_isInUse_37 : decode cX9_isInUse 37 = .ok (.istore_n 2, 1) := by decide +kernel
theorem dX9_isInUse_38 : decode cX9_isInUse 38 = .ok (.iinc 3 1, 3) := by decide +kernel
theorem dX9_isInUse_41 : decode cX9_isInUse 41 = .ok (.goto (-37), 3) := by decide +kernel
theorem dX9_isInUse_44 : decode cX9_isInUse 44 = .ok (.iload_n 2, 1) := by decide +kernel
theorem dX9_isInUse_45 : decode cX9_isInUse 45 = .ok (.ireturn, 1) := by decide +kernel
theorem dX9_isWell_0 : decode cX9_isWell 0 = .ok (.iload_n 0, 1) := by decide +kernel
theorem dX9_isWell_1 : decode cX9_isWell 1 = .ok (.ifCond .eq 43, 3) := by decide +kernel
theorem dX9_isWell_4 : decode cX9_isWell 4 = .ok (.iload_n 1, 1) := by decide +kernel
theorem dX9_isWell_5 : decode cX9_isWell 5 = .ok (.iconst 0, 1) := by decide +kernel
theorem dX9_isWell_6 : decode cX9_isWell 6 = .ok (.iload_n 0, 1) := by decide +kernel
theorem dX9_isWell_7 : decode cX9_isWell 7 = .ok (.iconst 1, 1) := by decide +kernel
theorem dX9_isWell_8 : decode cX9_isWell 8 = .ok (.if_icmp .ne 7, 3) := by decide +kernel
theorem dX9_isWell_11 : decode cX9_isWell 11 = .ok (.iconst 5, 1) := by decide +kernel
theorem dX9_isWell_12 : decode cX9_isWell 12 = .ok (.goto 26, 3) := by decide +kernel
theorem dX9_isWell_15 : decode cX9_isWell 15 = .ok (.iload_n 0, 1) := by decide +kernel
theorem dX9_isWell_16 : decode cX9_isWell 16 = .ok (.iconst 2, 1) := by decide +kernel
theorem dX9_isWell_17 : decode cX9_isWell 17 = .ok (.if_icmp .ne 8, 3) := by decide +kernel
theorem dX9_isWell_20 : decode cX9_isWell 20 = .ok (.bipush 40, 2) := by decide +kernel
theorem dX9_isWell_22 : decode cX9_isWell 22 = .ok (.goto 16, 3) := by decide +kernel
theorem dX9_isWell_25 : decode cX9_isWell 25 = .ok (.iload_n 0, 1) := by decide +kernel
theorem dX9_isWell_26 : decode cX9_isWell 26 = .ok (.iconst 3, 1) := by decide +kernel
theorem dX9_isWell_27 : decode cX9_isWell 27 = .ok (.if_icmp .ne 8, 3) := by decide +kernel
theorem dX9_isWell_30 : decode cX9_isWell 30 = .ok (.bipush 7, 2) := by decide +kernel
theorem dX9_isWell_32 : decode cX9_isWell 32 = .ok (.goto 6, 3) := by decide +kernel
theorem dX9_isWell_35 : decode cX9_isWell 35 = .ok (.sipush 4095, 3) := by decide +kernel
theorem dX9_isWell_38 : decode cX9_isWell 38 = .ok (.invokestatic 114, 3) := by decide +kernel
theorem dX9_isWell_41 : decode cX9_isWell 41 = .ok (.ifCond .eq 7, 3) := by decide +kernel
theorem dX9_isWell_44 : decode cX9_isWell 44 = .ok (.iconst 1, 1) := by decide +kernel
theorem dX9_isWell_45 : decode cX9_isWell 45 = .ok (.goto 4, 3) := by decide +kernel
theorem dX9_isWell_48 : decode cX9_isWell 48 = .ok (.iconst 0, 1) := by decide +kernel
theorem dX9_isWell_49 : decode cX9_isWell 49 = .ok (.ireturn, 1) := by decide +kernel
theorem dX9_act_0 : decode cX9_act 0 = .ok (.iload_n 1, 1) := by decide +kernel
theorem dX9_act_1 : decode cX9_act 1 = .ok (.iconst 0, 1) := by decide +kernel
theorem dX9_act_2 : decode cX9_act 2 = .ok (.bipush 7, 2) := by decide +kernel
theorem dX9_act_4 : decode cX9_act 4 = .ok (.invokestatic 114, 3) := by decide +kernel
theorem dX9_act_7 : decode cX9_act 7 = .ok (.ifCond .eq 13, 3) := by decide +kernel
theorem dX9_act_10 : decode cX9_act 10 = .ok (.iload_n 2, 1) := by decide +kernel
theorem dX9_act_11 : decode cX9_act 11 = .ok (.iconst 0, 1) := by decide +kernel
theorem dX9_act_12 : decode cX9_act 12 = .ok (.bipush 36, 2) := by decide +kernel
theorem dX9_act_14 : decode cX9_act 14 = .ok (.invokestatic 114, 3) := by decide +kernel
theorem dX9_act_17 : decode cX9_act 17 = .ok (.ifCond .ne 5, 3) := by decide +kernel
theorem dX9_act_20 : decode cX9_act 20 = .ok (.iconst (-1), 1) := by decide +kernel
theorem dX9_act_21 : decode cX9_act 21 = .ok (.ireturn, 1) := by decide +kernel
theorem dX9_act_22 : decode cX9_act 22 = .ok (.aload_n 0, 1) := by decide +kernel
theorem dX9_act_23 : decode cX9_act 23 = .ok (.getfield 37, 3) := by decide +kernel
theorem dX9_act_26 : decode cX9_act 26 = .ok (.iload_n 2, 1) := by decide +kernel
theorem dX9_act_27 : decode cX9_act 27 = .ok (.iaload, 1) := by decide +kernel
theorem dX9_act_28 : decode cX9_act 28 = .ok (.bipush 100, 2) := by decide +kernel
theorem dX9_act_30 : decode cX9_act 30 = .ok (.idiv, 1) := by decide +kernel
theorem dX9_act_31 : decode cX9_act 31 = .ok (.iload_n 3, 1) := by decide +kernel
theorem dX9_act_32 : decode cX9_act 32 = .ok (.invokestatic 146, 3) := by decide +kernel
theorem dX9_act_35 : decode cX9_act 35 = .ok (.ifCond .eq 40, 3) := by decide +kernel
theorem dX9_act_38 : decode cX9_act 38 = .ok (.aload_n 0, 1) := by decide +kernel
theorem dX9_act_39 : decode cX9_act 39 = .ok (.getfield 37, 3) := by decide +kernel
theorem dX9_act_42 : decode cX9_act 42 = .ok (.iload_n 2, 1) := by decide +kernel
theorem dX9_act_43 : decode cX9_act 43 = .ok (.iaload, 1) := by decide +kernel
theorem dX9_act_44 : decode cX9_act 44 = .ok (.bipush 10, 2) := by decide +kernel
theorem dX9_act_46 : decode cX9_act 46 = .ok (.idiv, 1) := by decide +kernel
theorem dX9_act_47 : decode cX9_act 47 = .ok (.bipush 10, 2) := by decide +kernel
theorem dX9_act_49 : decode cX9_act 49 = .ok (.irem, 1) := by decide +kernel
theorem dX9_act_50 : decode cX9_act 50 = .ok (.iload 4, 2) := by decide +kernel
theorem dX9_act_52 : decode cX9_act 52 = .ok (.invokestatic 146, 3) := by decide +kernel
theorem dX9_act_55 : decode cX9_act 55 = .ok (.ifCond .eq 20, 3) := by decide +kernel
theorem dX9_act_58 : decode cX9_act 58 = .ok (.aload_n 0, 1) := by decide +kernel
theorem dX9_act_59 : decode cX9_act 59 = .ok (.getfield 37, 3) := by decide +kernel
theorem dX9_act_62 : decode cX9_act 62 = .ok (.iload_n 2, 1) := by decide +kernel
theorem dX9_act_63 : decode cX9_act 63 = .ok (.iaload, 1) := by decide +kernel
theorem dX9_act_64 : decode cX9_act 64 = .ok (.bipush 10, 2) := by decide +kernel
theorem dX9_act_66 : decode cX9_act 66 = .ok (.irem, 1) := by decide +kernel
theorem dX9_act_67 : decode cX9_act 67 = .ok (.iload 5, 2) := by decide +kernel
theorem dX9_act_69 : decode cX9_act 69 = .ok (.invokestatic 146, 3) := by decide +kernel
theorem dX9_act_72 : decode cX9_act 72 = .ok (.ifCond .ne 5, 3) := by decide +kernel
theorem dX9_act_75 : decode cX9_act 75 = .ok (.iconst (-1), 1) := by decide +kernel
theorem dX9_act_76 : decode cX9_act 76 = .ok (.ireturn, 1) := by decide +kernel
theorem dX9_act_77 : decode cX9_act 77 = .ok (.aload_n 0, 1) := by decide +kernel
theorem dX9_act_78 : decode cX9_act 78 = .ok (.iload_n 1, 1) := by decide +kernel
theorem dX9_act_79 : decode cX9_act 79 = .ok (.invokevirtual 150, 3) := by decide +kernel
theorem dX9_act_82 : decode cX9_act 82 = .ok (.ifCond .eq 6, 3) := by decide +kernel
theorem dX9_act_85 : decode cX9_act 85 = .ok (.bipush (-2), 2) := by decide +kernel
theorem dX9_act_87 : decode cX9_act 87 = .ok (.ireturn, 1) := by decide +kernel
theorem dX9_act_88 : decode cX9_act 88 = .ok (.aload_n 0, 1) := by decide +kernel
theorem dX9_act_89 : decode cX9_act 89 = .ok (.getfield 34, 3) := by decide +kernel
theorem dX9_act_92 : decode cX9_act 92 = .ok (.iload_n 1, 1) := by decide +kernel
theorem dX9_act_93 : decode cX9_act 93 = .ok (.iaload, 1) := by decide +kernel
theorem dX9_act_94 : decode cX9_act 94 = .ok (.bipush 40, 2) := by decide +kernel
theorem dX9_act_96 : decode cX9_act 96 = .ok (.if_icmp .ne 6, 3) := by decide +kernel
theorem dX9_act_99 : decode cX9_act 99 = .ok (.bipush (-3), 2) := by decide +kernel
theorem dX9_act_101 : decode cX9_act 101 = .ok (.ireturn, 1) := by decide +kernel
theorem dX9_act_102 : decode cX9_act 102 = .ok (.iconst 4, 1) := by decide +kernel
theorem dX9_act_103 : decode cX9_act 103 = .ok (.bipush 40, 2) := by decide +kernel
theorem dX9_act_105 : decode cX9_act 105 = .ok (.iload_n 1, 1) := by decide +kernel
theorem dX9_act_106 : decode cX9_act 106 = .ok (.imul, 1) := by decide +kernel
theorem dX9_act_107 : decode cX9_act 107 = .ok (.aload_n 0, 1) := by decide +kernel
theorem dX9_act_108 : decode cX9_act 108 = .ok (.getfield 34, 3) := by decide +kernel
theorem dX9_act_111 : decode cX9_act 111 = .ok (.iload_n 1, 1) := by decide +kernel
theorem dX9_act_112 : decode cX9_act 112 = .ok (.iaload, 1) := by decide +kernel
theorem dX9_act_113 : decode cX9_act 113 = .ok (.iadd, 1) := by decide +kernel
theorem dX9_act_114 : decode cX9_act 114 = .ok (.imul, 1) := by decide +kernel
theorem dX9_act_115 : decode cX9_act 115 = .ok (.istore 6, 2) := by decide +kernel
theorem dX9_act_117 : decode cX9_act 117 = .ok (.aload_n 0, 1) := by decide +kernel
theorem dX9_act_118 : decode cX9_act 118 = .ok (.getfield 31, 3) := by decide +kernel
theorem dX9_act_121 : decode cX9_act 121 = .ok (.iload 6, 2) := by decide +kernel
theorem dX9_act_123 : decode cX9_act 123 = .ok (.iload_n 2, 1) := by decide +kernel
theorem dX9_act_124 : decode cX9_act 124 = .ok (.iastore, 1) := by decide +kernel
theorem dX9_act_125 : decode cX9_act 125 = .ok (.aload_n 0, 1) := by decide +kernel
theorem dX9_act_126 : decode cX9_act 126 = .ok (.getfield 31, 3) := by decide +kernel
theorem dX9_act_129 : decode cX9_act 129 = .ok (.iload 6, 2) := by decide +kernel
theorem dX9_act_131 : decode cX9_act 131 = .ok (.iconst 1, 1) := by decide +kernel
theorem dX9_act_132 : decode cX9_act 132 = .ok (.iadd, 1) := by decide +kernel
theorem dX9_act_133 : decode cX9_act 133 = .ok (.iload_n 3, 1) := by decide +kernel
theorem dX9_act_134 : decode cX9_act 134 = .ok (.iastore, 1) := by decide +kernel
theorem dX9_act_135 : decode cX9_act 135 = .ok (.aload_n 0, 1) := by decide +kernel
theorem dX9_act_136 : decode cX9_act 136 = .ok (.getfield 31, 3) := by decide +kernel
theorem dX9_act_139 : decode cX9_act 139 = .ok (.iload 6, 2) := by decide +kernel
theorem dX9_act_141 : decode cX9_act 141 = .ok (.iconst 2, 1) := by decide +kernel
theorem dX9_act_142 : decode cX9_act 142 = .ok (.iadd, 1) := by decide +kernel
theorem dX9_act_143 : decode cX9_act 143 = .ok (.iload 4, 2) := by decide +kernel
theorem dX9_act_145 : decode cX9_act 145 = .ok (.iastore, 1) := by decide +kernel
theorem dX9_act_146 : decode cX9_act 146 = .ok (.aload_n 0, 1) := by decide +kernel
theorem dX9_act_147 : decode cX9_act 147 = .ok (.getfield 31, 3) := by decide +kernel
theorem dX9_act_150 : decode cX9_act 150 = .ok (.iload 6, 2) := by decide +kernel
theorem dX9_act_152 : decode cX9_act 152 = .ok (.iconst 3, 1) := by decide +kernel
theorem dX9_act_153 : decode cX9_act 153 = .ok (.iadd, 1) := by decide +kernel
theorem dX9_act_154 : decode cX9_act 154 = .ok (.iload 5, 2) := by decide +kernel
theorem dX9_act_156 : decode cX9_act 156 = .ok (.iastore, 1) := by decide +kernel
theorem dX9_act_157 : decode cX9_act 157 = .ok (.aload_n 0, 1) := by decide +kernel
theorem dX9_act_158 : decode cX9_act 158 = .ok (.getfield 34, 3) := by decide +kernel
theorem dX9_act_161 : decode cX9_act 161 = .ok (.iload_n 1, 1) := by decide +kernel
theorem dX9_act_162 : decode cX9_act 162 = .ok (.dup2, 1) := by decide +kernel
theorem dX9_act_163 : decode cX9_act 163 = .ok (.iaload, 1) := by decide +kernel
theorem dX9_act_164 : decode cX9_act 164 = .ok (.iconst 1, 1) := by decide +kernel
theorem dX9_act_165 : decode cX9_act 165 = .ok (.iadd, 1) := by decide +kernel
theorem dX9_act_166 : decode cX9_act 166 = .ok (.iastore, 1) := by decide +kernel
theorem dX9_act_167 : decode cX9_act 167 = .ok (.aload_n 0, 1) := by decide +kernel
theorem dX9_act_168 : decode cX9_act 168 = .ok (.getfield 34, 3) := by decide +kernel
theorem dX9_act_171 : decode cX9_act 171 = .ok (.iload_n 1, 1) := by decide +kernel
theorem dX9_act_172 : decode cX9_act 172 = .ok (.iaload, 1) := by decide +kernel
theorem dX9_act_173 : decode cX9_act 173 = .ok (.ireturn, 1) := by decide +kernel
theorem dX9_wipe_0 : decode cX9_wipe 0 = .ok (.iload_n 1, 1) := by decide +kernel
theorem dX9_wipe_1 : decode cX9_wipe 1 = .ok (.iconst 0, 1) := by decide +kernel
theorem dX9_wipe_2 : decode cX9_wipe 2 = .ok (.bipush 7, 2) := by decide +kernel
theorem dX9_wipe_4 : decode cX9_wipe 4 = .ok (.invokestatic 114, 3) := by decide +kernel
theorem dX9_wipe_7 : decode cX9_wipe 7 = .ok (.ifCond .ne 5, 3) := by decide +kernel
theorem dX9_wipe_10 : decode cX9_wipe 10 = .ok (.iconst (-1), 1) := by decide +kernel
theorem dX9_wipe_11 : decode cX9_wipe 11 = .ok (.ireturn, 1) := by decide +kernel
theorem dX9_wipe_12 : decode cX9_wipe 12 = .ok (.aload_n 0, 1) := by decide +kernel
theorem dX9_wipe_13 : decode cX9_wipe 13 = .ok (.iload_n 1, 1) := by decide +kernel
theorem dX9_wipe_14 : decode cX9_wipe 14 = .ok (.invokevirtual 150, 3) := by decide +kernel
theorem dX9_wipe_17 : decode cX9_wipe 17 = .ok (.ifCond .eq 6, 3) := by decide +kernel
theorem dX9_wipe_20 : decode cX9_wipe 20 = .ok (.bipush (-2), 2) := by decide +kernel
theorem dX9_wipe_22 : decode cX9_wipe 22 = .ok (.ireturn, 1) := by decide +kernel
theorem dX9_wipe_23 : decode cX9_wipe 23 = .ok (.aload_n 0, 1) := by decide +kernel
theorem dX9_wipe_24 : decode cX9_wipe 24 = .ok (.getfield 34, 3) := by decide +kernel
theorem dX9_wipe_27 : decode cX9_wipe 27 = .ok (.iload_n 1, 1) := by decide +kernel
theorem dX9_wipe_28 : decode cX9_wipe 28 = .ok (.iaload, 1) := by decide +kernel
theorem dX9_wipe_29 : decode cX9_wipe 29 = .ok (.istore_n 2, 1) := by decide +kernel
theorem dX9_wipe_30 : decode cX9_wipe 30 = .ok (.aload_n 0, 1) := by decide +kernel
theorem dX9_wipe_31 : decode cX9_wipe 31 = .ok (.getfield 34, 3) := by decide +kernel
theorem dX9_wipe_34 : decode cX9_wipe 34 = .ok (.iload_n 1, 1) := by decide +kernel
theorem dX9_wipe_35 : decode cX9_wipe 35 = .ok (.iconst 0, 1) := by decide +kernel
theorem dX9_wipe_36 : decode cX9_wipe 36 = .ok (.iastore, 1) := by decide +kernel
theorem dX9_wipe_37 : decode cX9_wipe 37 = .ok (.iload_n 2, 1) := by decide +kernel
theorem dX9_wipe_38 : decode cX9_wipe 38 = .ok (.ireturn, 1) := by decide +kernel
theorem dX9_thread_0 : decode cX9_thread 0 = .ok (.iload_n 1, 1) := by decide +kernel
theorem dX9_thread_1 : decode cX9_thread 1 = .ok (.iconst 0, 1) := by decide +kernel
theorem dX9_thread_2 : decode cX9_thread 2 = .ok (.iconst 5, 1) := by decide +kernel
theorem dX9_thread_3 : decode cX9_thread 3 = .ok (.invokestatic 114, 3) := by decide +kernel
theorem dX9_thread_6 : decode cX9_thread 6 = .ok (.ifCond .eq 23, 3) := by decide +kernel
theorem dX9_thread_9 : decode cX9_thread 9 = .ok (.iload_n 2, 1) := by decide +kernel
theorem dX9_thread_10 : decode cX9_thread 10 = .ok (.iconst 0, 1) := by decide +kernel
theorem dX9_thread_11 : decode cX9_thread 11 = .ok (.bipush 7, 2) := by decide +kernel
theorem dX9_thread_13 : decode cX9_thread 13 = .ok (.invokestatic 114, 3) := by decide +kernel
theorem dX9_thread_16 : decode cX9_thread 16 = .ok (.ifCond .eq 13, 3) := by decide +kernel
theorem dX9_thread_19 : decode cX9_thread 19 = .ok (.iload_n 3, 1) := by decide +kernel
theorem dX9_thread_20 : decode cX9_thread 20 = .ok (.iconst 0, 1) := by decide +kernel
theorem dX9_thread_21 : decode cX9_thread 21 = .ok (.bipush 9, 2) := by decide +kernel
theorem dX9_thread_23 : decode cX9_thread 23 = .ok (.invokestatic 114, 3) := by decide +kernel
theorem dX9_thread_26 : decode cX9_thread 26 = .ok (.ifCond .ne 5, 3) := by decide +kernel
theorem dX9_thread_29 : decode cX9_thread 29 = .ok (.iconst (-1), 1) := by decide +kernel
theorem dX9_thread_30 : decode cX9_thread 30 = .ok (.ireturn, 1) := by decide +kernel
theorem dX9_thread_31 : decode cX9_thread 31 = .ok (.aload_n 0, 1) := by decide +kernel
theorem dX9_thread_32 : decode cX9_thread 32 = .ok (.iload_n 1, 1) := by decide +kernel
theorem dX9_thread_33 : decode cX9_thread 33 = .ok (.invokevirtual 143, 3) := by decide +kernel
theorem dX9_thread_36 : decode cX9_thread 36 = .ok (.ifCond .eq 6, 3) := by decide +kernel
theorem dX9_thread_39 : decode cX9_thread 39 = .ok (.bipush (-2), 2) := by decide +kernel
theorem dX9_thread_41 : decode cX9_thread 41 = .ok (.ireturn, 1) := by decide +kernel
theorem dX9_thread_42 : decode cX9_thread 42 = .ok (.aload_n 0, 1) := by decide +kernel
theorem dX9_thread_43 : decode cX9_thread 43 = .ok (.getfield 40, 3) := by decide +kernel
theorem dX9_thread_46 : decode cX9_thread 46 = .ok (.iload_n 1, 1) := by decide +kernel
theorem dX9_thread_47 : decode cX9_thread 47 = .ok (.iconst 1, 1) := by decide +kernel
theorem dX9_thread_48 : decode cX9_thread 48 = .ok (.iastore, 1) := by decide +kernel
theorem dX9_thread_49 : decode cX9_thread 49 = .ok (.aload_n 0, 1) := by decide +kernel
theorem dX9_thread_50 : decode cX9_thread 50 = .ok (.getfield 43, 3) := by decide +kernel
theorem dX9_thread_53 : decode cX9_thread 53 = .ok (.iload_n 1, 1) := by decide +kernel
theorem dX9_thread_54 : decode cX9_thread 54 = .ok (.iload_n 2, 1) := by decide +kernel
theorem dX9_thread_55 : decode cX9_thread 55 = .ok (.iastore, 1) := by decide +kernel
theorem dX9_thread_56 : decode cX9_thread 56 = .ok (.aload_n 0, 1) := by decide +kernel
theorem dX9_thread_57 : decode cX9_thread 57 = .ok (.getfield 46, 3) := by decide +kernel
theorem dX9_thread_60 : decode cX9_thread 60 = .ok (.iload_n 1, 1) := by decide +kernel
theorem dX9_thread_61 : decode cX9_thread 61 = .ok (.iload_n 3, 1) := by decide +kernel
theorem dX9_thread_62 : decode cX9_thread 62 = .ok (.iastore, 1) := by decide +kernel
theorem dX9_thread_63 : decode cX9_thread 63 = .ok (.aload_n 0, 1) := by decide +kernel
theorem dX9_thread_64 : decode cX9_thread 64 = .ok (.getfield 49, 3) := by decide +kernel
theorem dX9_thread_67 : decode cX9_thread 67 = .ok (.iload_n 1, 1) := by decide +kernel
theorem dX9_thread_68 : decode cX9_thread 68 = .ok (.iconst 0, 1) := by decide +kernel
theorem dX9_thread_69 : decode cX9_thread 69 = .ok (.iastore, 1) := by decide +kernel
theorem dX9_thread_70 : decode cX9_thread 70 = .ok (.aload_n 0, 1) := by decide +kernel
theorem dX9_thread_71 : decode cX9_thread 71 = .ok (.getfield 52, 3) := by decide +kernel
theorem dX9_thread_74 : decode cX9_thread 74 = .ok (.iload_n 1, 1) := by decide +kernel
theorem dX9_thread_75 : decode cX9_thread 75 = .ok (.iconst 0, 1) := by decide +kernel
theorem dX9_thread_76 : decode cX9_thread 76 = .ok (.bastore, 1) := by decide +kernel
theorem dX9_thread_77 : decode cX9_thread 77 = .ok (.aload_n 0, 1) := by decide +kernel
theorem dX9_thread_78 : decode cX9_thread 78 = .ok (.getfield 56, 3) := by decide +kernel
theorem dX9_thread_81 : decode cX9_thread 81 = .ok (.iload_n 1, 1) := by decide +kernel
theorem dX9_thread_82 : decode cX9_thread 82 = .ok (.iconst 0, 1) := by decide +kernel
theorem dX9_thread_83 : decode cX9_thread 83 = .ok (.bastore, 1) := by decide +kernel
theorem dX9_thread_84 : decode cX9_thread 84 = .ok (.aload_n 0, 1) := by decide +kernel
theorem dX9_thread_85 : decode cX9_thread 85 = .ok (.getfield 59, 3) := by decide +kernel
theorem dX9_thread_88 : decode cX9_thread 88 = .ok (.iload_n 1, 1) := by decide +kernel
theorem dX9_thread_89 : decode cX9_thread 89 = .ok (.iconst 0, 1) := by decide +kernel
theorem dX9_thread_90 : decode cX9_thread 90 = .ok (.iastore, 1) := by decide +kernel
theorem dX9_thread_91 : decode cX9_thread 91 = .ok (.aload_n 0, 1) := by decide +kernel
theorem dX9_thread_92 : decode cX9_thread 92 = .ok (.getfield 62, 3) := by decide +kernel
theorem dX9_thread_95 : decode cX9_thread 95 = .ok (.iload_n 1, 1) := by decide +kernel
theorem dX9_thread_96 : decode cX9_thread 96 = .ok (.iconst 0, 1) := by decide +kernel
theorem dX9_thread_97 : decode cX9_thread 97 = .ok (.iastore, 1) := by decide +kernel
theorem dX9_thread_98 : decode cX9_thread 98 = .ok (.aload_n 0, 1) := by decide +kernel
theorem dX9_thread_99 : decode cX9_thread 99 = .ok (.getfield 65, 3) := by decide +kernel
theorem dX9_thread_102 : decode cX9_thread 102 = .ok (.iload_n 1, 1) := by decide +kernel
theorem dX9_thread_103 : decode cX9_thread 103 = .ok (.bipush (-4), 2) := by decide +kernel
theorem dX9_thread_105 : decode cX9_thread 105 = .ok (.iastore, 1) := by decide +kernel
theorem dX9_thread_106 : decode cX9_thread 106 = .ok (.aload_n 0, 1) := by decide +kernel
theorem dX9_thread_107 : decode cX9_thread 107 = .ok (.getfield 68, 3) := by decide +kernel
theorem dX9_thread_110 : decode cX9_thread 110 = .ok (.iload_n 1, 1) := by decide +kernel
theorem dX9_thread_111 : decode cX9_thread 111 = .ok (.bipush (-4), 2) := by decide +kernel
theorem dX9_thread_113 : decode cX9_thread 113 = .ok (.iastore, 1) := by decide +kernel
theorem dX9_thread_114 : decode cX9_thread 114 = .ok (.aload_n 0, 1) := by decide +kernel
theorem dX9_thread_115 : decode cX9_thread 115 = .ok (.getfield 77, 3) := by decide +kernel
theorem dX9_thread_118 : decode cX9_thread 118 = .ok (.iload_n 1, 1) := by decide +kernel
theorem dX9_thread_119 : decode cX9_thread 119 = .ok (.iconst 0, 1) := by decide +kernel
theorem dX9_thread_120 : decode cX9_thread 120 = .ok (.iastore, 1) := by decide +kernel
theorem dX9_thread_121 : decode cX9_thread 121 = .ok (.aload_n 0, 1) := by decide +kernel
theorem dX9_thread_122 : decode cX9_thread 122 = .ok (.getfield 80, 3) := by decide +kernel
theorem dX9_thread_125 : decode cX9_thread 125 = .ok (.iload_n 1, 1) := by decide +kernel
theorem dX9_thread_126 : decode cX9_thread 126 = .ok (.iconst 0, 1) := by decide +kernel
theorem dX9_thread_127 : decode cX9_thread 127 = .ok (.iastore, 1) := by decide +kernel
theorem dX9_thread_128 : decode cX9_thread 128 = .ok (.aload_n 0, 1) := by decide +kernel
theorem dX9_thread_129 : decode cX9_thread 129 = .ok (.getfield 83, 3) := by decide +kernel
theorem dX9_thread_132 : decode cX9_thread 132 = .ok (.iload_n 1, 1) := by decide +kernel
theorem dX9_thread_133 : decode cX9_thread 133 = .ok (.iconst 0, 1) := by decide +kernel
theorem dX9_thread_134 : decode cX9_thread 134 = .ok (.iastore, 1) := by decide +kernel
theorem dX9_thread_135 : decode cX9_thread 135 = .ok (.aload_n 0, 1) := by decide +kernel
theorem dX9_thread_136 : decode cX9_thread 136 = .ok (.getfield 86, 3) := by decide +kernel
theorem dX9_thread_139 : decode cX9_thread 139 = .ok (.iload_n 1, 1) := by decide +kernel
theorem dX9_thread_140 : decode cX9_thread 140 = .ok (.iconst 0, 1) := by decide +kernel
theorem dX9_thread_141 : decode cX9_thread 141 = .ok (.iastore, 1) := by decide +kernel
theorem dX9_thread_142 : decode cX9_thread 142 = .ok (.iconst 0, 1) := by decide +kernel
theorem dX9_thread_143 : decode cX9_thread 143 = .ok (.istore 4, 2) := by decide +kernel
theorem dX9_thread_145 : decode cX9_thread 145 = .ok (.iload 4, 2) := by decide +kernel
theorem dX9_thread_147 : decode cX9_thread 147 = .ok (.bipush 6, 2) := by decide +kernel
theorem dX9_thread_149 : decode cX9_thread 149 = .ok (.if_icmp .ge 36, 3) := by decide +kernel
theorem dX9_thread_152 : decode cX9_thread 152 = .ok (.aload_n 0, 1) := by decide +kernel
theorem dX9_thread_153 : decode cX9_thread 153 = .ok (.getfield 95, 3) := by decide +kernel
theorem dX9_thread_156 : decode cX9_thread 156 = .ok (.bipush 6, 2) := by decide +kernel
theorem dX9_thread_158 : decode cX9_thread 158 = .ok (.iload_n 1, 1) := by decide +kernel
theorem dX9_thread_159 : decode cX9_thread 159 = .ok (.imul, 1) := by decide +kernel
theorem dX9_thread_160 : decode cX9_thread 160 = .ok (.iload 4, 2) := by decide +kernel
theorem dX9_thread_162 : decode cX9_thread 162 = .ok (.iadd, 1) := by decide +kernel
theorem dX9_thread_163 : decode cX9_thread 163 = .ok (.iconst 0, 1) := by decide +kernel
theorem dX9_thread_164 : decode cX9_thread 164 = .ok (.iastore, 1) := by decide +kernel
theorem dX9_thread_165 : decode cX9_thread 165 = .ok (.aload_n 0, 1) := by decide +kernel
theorem dX9_thread_166 : decode cX9_thread 166 = .ok (.getfield 98, 3) := by decide +kernel
theorem dX9_thread_169 : decode cX9_thread 169 = .ok (.bipush 6, 2) := by decide +kernel
theorem dX9_thread_171 : decode cX9_thread 171 = .ok (.iload_n 1, 1) := by decide +kernel
theorem dX9_thread_172 : decode cX9_thread 172 = .ok (.imul, 1) := by decide +kernel
theorem dX9_thread_173 : decode cX9_thread 173 = .ok (.iload 4, 2) := by decide +kernel
theorem dX9_thread_175 : decode cX9_thread 175 = .ok (.iadd, 1) := by decide +kernel
theorem dX9_thread_176 : decode cX9_thread 176 = .ok (.bipush (-4), 2) := by decide +kernel
theorem dX9_thread_178 : decode cX9_thread 178 = .ok (.iastore, 1) := by decide +kernel
theorem dX9_thread_179 : decode cX9_thread 179 = .ok (.iinc 4 1, 3) := by decide +kernel
theorem dX9_thread_182 : decode cX9_thread 182 = .ok (.goto (-37), 3) := by decide +kernel
theorem dX9_thread_185 : decode cX9_thread 185 = .ok (.iconst 1, 1) := by decide +kernel
theorem dX9_thread_186 : decode cX9_thread 186 = .ok (.ireturn, 1) := by decide +kernel
theorem dX9_isThread_0 : decode cX9_isThread 0 = .ok (.iload_n 1, 1) := by decide +kernel
theorem dX9_isThread_1 : decode cX9_isThread 1 = .ok (.iconst 0, 1) := by decide +kernel
theorem dX9_isThread_2 : decode cX9_isThread 2 = .ok (.iconst 5, 1) := by decide +kernel
theorem dX9_isThread_3 : decode cX9_isThread 3 = .ok (.invokestatic 114, 3) := by decide +kernel
theorem dX9_isThread_6 : decode cX9_isThread 6 = .ok (.ifCond .eq 16, 3) := by decide +kernel
theorem dX9_isThread_9 : decode cX9_isThread 9 = .ok (.aload_n 0, 1) := by decide +kernel
theorem dX9_isThread_10 : decode cX9_isThread 10 = .ok (.getfield 40, 3) := by decide +kernel
theorem dX9_isThread_13 : decode cX9_isThread 13 = .ok (.iload_n 1, 1) := by decide +kernel
theorem dX9_isThread_14 : decode cX9_isThread 14 = .ok (.iaload, 1) := by decide +kernel
theorem dX9_isThread_15 : decode cX9_isThread 15 = .ok (.ifCond .eq 7, 3) := by decide +kernel
theorem dX9_isThread_18 : decode cX9_isThread 18 = .ok (.iconst 1, 1) := by decide +kernel
theorem dX9_isThread_19 : decode cX9_isThread 19 = .ok (.goto 4, 3) := by decide +kernel
theorem dX9_isThread_22 : decode cX9_isThread 22 = .ok (.iconst 0, 1) := by decide +kernel
theorem dX9_isThread_23 : decode cX9_isThread 23 = .ok (.ireturn, 1) := by decide +kernel
theorem dX9_set_0 : decode cX9_set 0 = .ok (.aload_n 0, 1) := by decide +kernel
theorem dX9_set_1 : decode cX9_set 1 = .ok (.iload_n 1, 1) := by decide +kernel
theorem dX9_set_2 : decode cX9_set 2 = .ok (.invokevirtual 153, 3) := by decide +kernel
theorem dX9_set_5 : decode cX9_set 5 = .ok (.ifCond .eq 12, 3) := by decide +kernel
theorem dX9_set_8 : decode cX9_set 8 = .ok (.iload_n 2, 1) := by decide +kernel
theorem dX9_set_9 : decode cX9_set 9 = .ok (.iconst 0, 1) := by decide +kernel
theorem dX9_set_10 : decode cX9_set 10 = .ok (.iconst 5, 1) := by decide +kernel
theorem dX9_set_11 : decode cX9_set 11 = .ok (.invokestatic 114, 3) := by decide +kernel
theorem dX9_set_14 : decode cX9_set 14 = .ok (.ifCond .ne 5, 3) := by decide +kernel
theorem dX9_set_17 : decode cX9_set 17 = .ok (.iconst (-1), 1) := by decide +kernel
theorem dX9_set_18 : decode cX9_set 18 = .ok (.ireturn, 1) := by decide +kernel
theorem dX9_set_19 : decode cX9_set 19 = .ok (.aload_n 0, 1) := by decide +kernel
theorem dX9_set_20 : decode cX9_set 20 = .ok (.getfield 95, 3) := by decide +kernel
theorem dX9_set_23 : decode cX9_set 23 = .ok (.bipush 6, 2) := by decide +kernel
theorem dX9_set_25 : decode cX9_set 25 = .ok (.iload_n 1, 1) := by decide +kernel
theorem dX9_set_26 : decode cX9_set 26 = .ok (.imul, 1) := by decide +kernel
theorem dX9_set_27 : decode cX9_set 27 = .ok (.iload_n 2, 1) := by decide +kernel
theorem dX9_set_28 : decode cX9_set 28 = .ok (.iadd, 1) := by decide +kernel
theorem dX9_set_29 : decode cX9_set 29 = .ok (.iload_n 3, 1) := by decide +kernel
theorem dX9_set_30 : decode cX9_set 30 = .ok (.iastore, 1) := by decide +kernel
theorem dX9_set_31 : decode cX9_set 31 = .ok (.iconst 1, 1) := by decide +kernel
theorem dX9_set_32 : decode cX9_set 32 = .ok (.ireturn, 1) := by decide +kernel
theorem dX9_give_0 : decode cX9_give 0 = .ok (.aload_n 0, 1) := by decide +kernel
theorem dX9_give_1 : decode cX9_give 1 = .ok (.iload_n 1, 1) := by decide +kernel
theorem dX9_give_2 : decode cX9_give 2 = .ok (.invokevirtual 153, 3) := by decide +kernel
theorem dX9_give_5 : decode cX9_give 5 = .ok (.ifCond .eq 26, 3) := by decide +kernel
theorem dX9_give_8 : decode cX9_give 8 = .ok (.iload_n 2, 1) := by decide +kernel
theorem dX9_give_9 : decode cX9_give 9 = .ok (.iconst 0, 1) := by decide +kernel
theorem dX9_give_10 : decode cX9_give 10 = .ok (.iconst 5, 1) := by decide +kernel
theorem dX9_give_11 : decode cX9_give 11 = .ok (.invokestatic 114, 3) := by decide +kernel
theorem dX9_give_14 : decode cX9_give 14 = .ok (.ifCond .eq 17, 3) := by decide +kernel
theorem dX9_give_17 : decode cX9_give 17 = .ok (.iload_n 3, 1) := by decide +kernel
theorem dX9_give_18 : decode cX9_give 18 = .ok (.bipush (-4), 2) := by decide +kernel
theorem dX9_give_20 : decode cX9_give 20 = .ok (.if_icmp .eq 13, 3) := by decide +kernel
theorem dX9_give_23 : decode cX9_give 23 = .ok (.aload_n 0, 1) := by decide +kernel
theorem dX9_give_24 : decode cX9_give 24 = .ok (.iload_n 3, 1) := by decide +kernel
theorem dX9_give_25 : decode cX9_give 25 = .ok (.invokevirtual 122, 3) := by decide +kernel
theorem dX9_give_28 : decode cX9_give 28 = .ok (.ifCond .ne 5, 3) := by decide +kernel
theorem dX9_give_31 : decode cX9_give 31 = .ok (.iconst (-1), 1) := by decide +kernel
theorem dX9_give_32 : decode cX9_give 32 = .ok (.ireturn, 1) := by decide +kernel
theorem dX9_give_33 : decode cX9_give 33 = .ok (.aload_n 0, 1) := by decide +kernel
theorem dX9_give_34 : decode cX9_give 34 = .ok (.getfield 98, 3) := by decide +kernel
theorem dX9_give_37 : decode cX9_give 37 = .ok (.bipush 6, 2) := by decide +kernel
theorem dX9_give_39 : decode cX9_give 39 = .ok (.iload_n 1, 1) := by decide +kernel
theorem dX9_give_40 : decode cX9_give 40 = .ok (.imul, 1) := by decide +kernel
theorem dX9_give_41 : decode cX9_give 41 = .ok (.iload_n 2, 1) := by decide +kernel
theorem dX9_give_42 : decode cX9_give 42 = .ok (.iadd, 1) := by decide +kernel
theorem dX9_give_43 : decode cX9_give 43 = .ok (.iload_n 3, 1) := by decide +kernel
theorem dX9_give_44 : decode cX9_give 44 = .ok (.iastore, 1) := by decide +kernel
theorem dX9_give_45 : decode cX9_give 45 = .ok (.iconst 1, 1) := by decide +kernel
theorem dX9_give_46 : decode cX9_give 46 = .ok (.ireturn, 1) := by decide +kernel
theorem dX9_start_0 : decode cX9_start 0 = .ok (.iload_n 1, 1) := by decide +kernel
theorem dX9_start_1 : decode cX9_start 1 = .ok (.iconst 0, 1) := by decide +kernel
theorem dX9_start_2 : decode cX9_start 2 = .ok (.iconst 5, 1) := by decide +kernel
theorem dX9_start_3 : decode cX9_start 3 = .ok (.invokestatic 114, 3) := by decide +kernel
theorem dX9_start_6 : decode cX9_start 6 = .ok (.ifCond .ne 5, 3) := by decide +kernel
theorem dX9_start_9 : decode cX9_start 9 = .ok (.iconst (-1), 1) := by decide +kernel
theorem dX9_start_10 : decode cX9_start 10 = .ok (.ireturn, 1) := by decide +kernel
theorem dX9_start_11 : decode cX9_start 11 = .ok (.aload_n 0, 1) := by decide +kernel
theorem dX9_start_12 : decode cX9_start 12 = .ok (.getfield 40, 3) := by decide +kernel
theorem dX9_start_15 : decode cX9_start 15 = .ok (.iload_n 1, 1) := by decide +kernel
theorem dX9_start_16 : decode cX9_start 16 = .ok (.iaload, 1) := by decide +kernel
theorem dX9_start_17 : decode cX9_start 17 = .ok (.iconst 1, 1) := by decide +kernel
theorem dX9_start_18 : decode cX9_start 18 = .ok (.if_icmp .eq 6, 3) := by decide +kernel
theorem dX9_start_21 : decode cX9_start 21 = .ok (.bipush (-2), 2) := by decide +kernel
theorem dX9_start_23 : decode cX9_start 23 = .ok (.ireturn, 1) := by decide +kernel
theorem dX9_start_24 : decode cX9_start 24 = .ok (.aload_n 0, 1) := by decide +kernel
theorem dX9_start_25 : decode cX9_start 25 = .ok (.getfield 40, 3) := by decide +kernel
theorem dX9_start_28 : decode cX9_start 28 = .ok (.iload_n 1, 1) := by decide +kernel
theorem dX9_start_29 : decode cX9_start 29 = .ok (.iconst 2, 1) := by decide +kernel
theorem dX9_start_30 : decode cX9_start 30 = .ok (.iastore, 1) := by decide +kernel
theorem dX9_start_31 : decode cX9_start 31 = .ok (.iconst 1, 1) := by decide +kernel
theorem dX9_start_32 : decode cX9_start 32 = .ok (.ireturn, 1) := by decide +kernel
theorem dX9_broken_0 : decode cX9_broken 0 = .ok (.iload_n 1, 1) := by decide +kernel
theorem dX9_broken_1 : decode cX9_broken 1 = .ok (.iconst 0, 1) := by decide +kernel
theorem dX9_broken_2 : decode cX9_broken 2 = .ok (.iconst 5, 1) := by decide +kernel
theorem dX9_broken_3 : decode cX9_broken 3 = .ok (.invokestatic 114, 3) := by decide +kernel
theorem dX9_broken_6 : decode cX9_broken 6 = .ok (.ifCond .ne 5, 3) := by decide +kernel
theorem dX9_broken_9 : decode cX9_broken 9 = .ok (.iconst (-1), 1) := by decide +kernel
theorem dX9_broken_10 : decode cX9_broken 10 = .ok (.ireturn, 1) := by decide +kernel
theorem dX9_broken_11 : decode cX9_broken 11 = .ok (.aload_n 0, 1) := by decide +kernel
theorem dX9_broken_12 : decode cX9_broken 12 = .ok (.iload_n 1, 1) := by decide +kernel
theorem dX9_broken_13 : decode cX9_broken 13 = .ok (.invokevirtual 143, 3) := by decide +kernel
theorem dX9_broken_16 : decode cX9_broken 16 = .ok (.ifCond .ne 5, 3) := by decide +kernel
theorem dX9_broken_19 : decode cX9_broken 19 = .ok (.iconst 0, 1) := by decide +kernel
theorem dX9_broken_20 : decode cX9_broken 20 = .ok (.ireturn, 1) := by decide +kernel
theorem dX9_broken_21 : decode cX9_broken 21 = .ok (.aload_n 0, 1) := by decide +kernel
theorem dX9_broken_22 : decode cX9_broken 22 = .ok (.getfield 40, 3) := by decide +kernel
theorem dX9_broken_25 : decode cX9_broken 25 = .ok (.iload_n 1, 1) := by decide +kernel
theorem dX9_broken_26 : decode cX9_broken 26 = .ok (.iaload, 1) := by decide +kernel
theorem dX9_broken_27 : decode cX9_broken 27 = .ok (.iconst 2, 1) := by decide +kernel
theorem dX9_broken_28 : decode cX9_broken 28 = .ok (.if_icmp .eq 13, 3) := by decide +kernel
theorem dX9_broken_31 : decode cX9_broken 31 = .ok (.aload_n 0, 1) := by decide +kernel
theorem dX9_broken_32 : decode cX9_broken 32 = .ok (.getfield 40, 3) := by decide +kernel
theorem dX9_broken_35 : decode cX9_broken 35 = .ok (.iload_n 1, 1) := by decide +kernel
theorem dX9_broken_36 : decode cX9_broken 36 = .ok (.iaload, 1) := by decide +kernel
theorem dX9_broken_37 : decode cX9_broken 37 = .ok (.iconst 3, 1) := by decide +kernel
theorem dX9_broken_38 : decode cX9_broken 38 = .ok (.if_icmp .ne 12, 3) := by decide +kernel
theorem dX9_broken_41 : decode cX9_broken 41 = .ok (.aload_n 0, 1) := by decide +kernel
theorem dX9_broken_42 : decode cX9_broken 42 = .ok (.getfield 52, 3) := by decide +kernel
theorem dX9_broken_45 : decode cX9_broken 45 = .ok (.iload_n 1, 1) := by decide +kernel
theorem dX9_broken_46 : decode cX9_broken 46 = .ok (.iconst 1, 1) := by decide +kernel
theorem dX9_broken_47 : decode cX9_broken 47 = .ok (.bastore, 1) := by decide +kernel
theorem dX9_broken_48 : decode cX9_broken 48 = .ok (.iconst 1, 1) := by decide +kernel
theorem dX9_broken_49 : decode cX9_broken 49 = .ok (.ireturn, 1) := by decide +kernel
theorem dX9_broken_50 : decode cX9_broken 50 = .ok (.aload_n 0, 1) := by decide +kernel
theorem dX9_broken_51 : decode cX9_broken 51 = .ok (.getfield 56, 3) := by decide +kernel
theorem dX9_broken_54 : decode cX9_broken 54 = .ok (.iload_n 1, 1) := by decide +kernel
theorem dX9_broken_55 : decode cX9_broken 55 = .ok (.iconst 1, 1) := by decide +kernel
theorem dX9_broken_56 : decode cX9_broken 56 = .ok (.bastore, 1) := by decide +kernel
theorem dX9_broken_57 : decode cX9_broken 57 = .ok (.aload_n 0, 1) := by decide +kernel
theorem dX9_broken_58 : decode cX9_broken 58 = .ok (.getfield 68, 3) := by decide +kernel
theorem dX9_broken_61 : decode cX9_broken 61 = .ok (.iload_n 1, 1) := by decide +kernel
theorem dX9_broken_62 : decode cX9_broken 62 = .ok (.bipush (-4), 2) := by decide +kernel
theorem dX9_broken_64 : decode cX9_broken 64 = .ok (.iastore, 1) := by decide +kernel
theorem dX9_broken_65 : decode cX9_broken 65 = .ok (.aload_n 0, 1) := by decide +kernel
theorem dX9_broken_66 : decode cX9_broken 66 = .ok (.getfield 40, 3) := by decide +kernel
theorem dX9_broken_69 : decode cX9_broken 69 = .ok (.iload_n 1, 1) := by decide +kernel
theorem dX9_broken_70 : decode cX9_broken 70 = .ok (.iaload, 1) := by decide +kernel
theorem dX9_broken_71 : decode cX9_broken 71 = .ok (.iconst 4, 1) := by decide +kernel
theorem dX9_broken_72 : decode cX9_broken 72 = .ok (.if_icmp .ne 11, 3) := by decide +kernel
theorem dX9_broken_75 : decode cX9_broken 75 = .ok (.aload_n 0, 1) := by decide +kernel
theorem dX9_broken_76 : decode cX9_broken 76 = .ok (.iload_n 1, 1) := by decide +kernel
theorem dX9_broken_77 : decode cX9_broken 77 = .ok (.invokevirtual 156, 3) := by decide +kernel
theorem dX9_broken_80 : decode cX9_broken 80 = .ok (.goto 18, 3) := by decide +kernel
theorem dX9_broken_83 : decode cX9_broken 83 = .ok (.aload_n 0, 1) := by decide +kernel
theorem dX9_broken_84 : decode cX9_broken 84 = .ok (.getfield 40, 3) := by decide +kernel
theorem dX9_broken_87 : decode cX9_broken 87 = .ok (.iload_n 1, 1) := by decide +kernel
theorem dX9_broken_88 : decode cX9_broken 88 = .ok (.iconst 2, 1) := by decide +kernel
theorem dX9_broken_89 : decode cX9_broken 89 = .ok (.iastore, 1) := by decide +kernel
theorem dX9_broken_90 : decode cX9_broken 90 = .ok (.aload_n 0, 1) := by decide +kernel
theorem dX9_broken_91 : decode cX9_broken 91 = .ok (.getfield 65, 3) := by decide +kernel
theorem dX9_broken_94 : decode cX9_broken 94 = .ok (.iload_n 1, 1) := by decide +kernel
theorem dX9_broken_95 : decode cX9_broken 95 = .ok (.bipush (-4), 2) := by decide +kernel
theorem dX9_broken_97 : decode cX9_broken 97 = .ok (.iastore, 1) := by decide +kernel
theorem dX9_broken_98 : decode cX9_broken 98 = .ok (.iconst 1, 1) := by decide +kernel
theorem dX9_broken_99 : decode cX9_broken 99 = .ok (.ireturn, 1) := by decide +kernel
theorem dX9_getIn_0 : decode cX9_getIn 0 = .ok (.aload_n 0, 1) := by decide +kernel
theorem dX9_getIn_1 : decode cX9_getIn 1 = .ok (.getfield 65, 3) := by decide +kernel
theorem dX9_getIn_4 : decode cX9_getIn 4 = .ok (.iload_n 1, 1) := by decide +kernel
theorem dX9_getIn_5 : decode cX9_getIn 5 = .ok (.iaload, 1) := by decide +kernel
theorem dX9_getIn_6 : decode cX9_getIn 6 = .ok (.istore_n 2, 1) := by decide +kernel
theorem dX9_getIn_7 : decode cX9_getIn 7 = .ok (.aload_n 0, 1) := by decide +kernel
theorem dX9_getIn_8 : decode cX9_getIn 8 = .ok (.getfield 22, 3) := by decide +kernel
theorem dX9_getIn_11 : decode cX9_getIn 11 = .ok (.iload_n 2, 1) := by decide +kernel
theorem dX9_getIn_12 : decode cX9_getIn 12 = .ok (.iaload, 1) := by decide +kernel
theorem dX9_getIn_13 : decode cX9_getIn 13 = .ok (.bipush (-4), 2) := by decide +kernel
theorem dX9_getIn_15 : decode cX9_getIn 15 = .ok (.if_icmp .ne 38, 3) := by decide +kernel
theorem dX9_getIn_18 : decode cX9_getIn 18 = .ok (.aload_n 0, 1) := by decide +kernel
theorem dX9_getIn_19 : decode cX9_getIn 19 = .ok (.getfield 22, 3) := by decide +kernel
theorem dX9_getIn_22 : decode cX9_getIn 22 = .ok (.iload_n 2, 1) := by decide +kernel
theorem dX9_getIn_23 : decode cX9_getIn 23 = .ok (.iload_n 1, 1) := by decide +kernel
theorem dX9_getIn_24 : decode cX9_getIn 24 = .ok (.iastore, 1) := by decide +kernel
theorem dX9_getIn_25 : decode cX9_getIn 25 = .ok (.aload_n 0, 1) := by decide +kernel
theorem dX9_getIn_26 : decode cX9_getIn 26 = .ok (.getfield 25, 3) := by decide +kernel
theorem dX9_getIn_29 : decode cX9_getIn 29 = .ok (.iload_n 2, 1) := by decide +kernel
theorem dX9_getIn_30 : decode cX9_getIn 30 = .ok (.aload_n 0, 1) := by decide +kernel
theorem dX9_getIn_31 : decode cX9_getIn 31 = .ok (.getfield 71, 3) := by decide +kernel
theorem dX9_getIn_34 : decode cX9_getIn 34 = .ok (.iload_n 1, 1) := by decide +kernel
theorem dX9_getIn_35 : decode cX9_getIn 35 = .ok (.iaload, 1) := by decide +kernel
theorem dX9_getIn_36 : decode cX9_getIn 36 = .ok (.iastore, 1) := by decide +kernel
theorem dX9_getIn_37 : decode cX9_getIn 37 = .ok (.aload_n 0, 1) := by decide +kernel
theorem dX9_getIn_38 : decode cX9_getIn 38 = .ok (.getfield 40, 3) := by decide +kernel
theorem dX9_getIn_41 : decode cX9_getIn 41 = .ok (.iload_n 1, 1) := by decide +kernel
theorem dX9_getIn_42 : decode cX9_getIn 42 = .ok (.iconst 2, 1) := by decide +kernel
theorem dX9_getIn_43 : decode cX9_getIn 43 = .ok (.iastore, 1) := by decide +kernel
theorem dX9_getIn_44 : decode cX9_getIn 44 = .ok (.aload_n 0, 1) := by decide +kernel
theorem dX9_getIn_45 : decode cX9_getIn 45 = .ok (.getfield 65, 3) := by decide +kernel
theorem dX9_getIn_48 : decode cX9_getIn 48 = .ok (.iload_n 1, 1) := by decide +kernel
theorem dX9_getIn_49 : decode cX9_getIn 49 = .ok (.bipush (-4), 2) := by decide +kernel
theorem dX9_getIn_51 : decode cX9_getIn 51 = .ok (.iastore, 1) := by decide +kernel
theorem dX9_getIn_52 : decode cX9_getIn 52 = .ok (.return_, 1) := by decide +kernel
theorem dX9_getIn_53 : decode cX9_getIn 53 = .ok (.aload_n 0, 1) := by decide +kernel
theorem dX9_getIn_54 : decode cX9_getIn 54 = .ok (.getfield 40, 3) := by decide +kernel
theorem dX9_getIn_57 : decode cX9_getIn 57 = .ok (.iload_n 1, 1) := by decide +kernel
theorem dX9_getIn_58 : decode cX9_getIn 58 = .ok (.iconst 3, 1) := by decide +kernel
theorem dX9_getIn_59 : decode cX9_getIn 59 = .ok (.iastore, 1) := by decide +kernel
theorem dX9_getIn_60 : decode cX9_getIn 60 = .ok (.aload_n 0, 1) := by decide +kernel
theorem dX9_getIn_61 : decode cX9_getIn 61 = .ok (.getfield 74, 3) := by decide +kernel
theorem dX9_getIn_64 : decode cX9_getIn 64 = .ok (.iload_n 1, 1) := by decide +kernel
theorem dX9_getIn_65 : decode cX9_getIn 65 = .ok (.aload_n 0, 1) := by decide +kernel
theorem dX9_getIn_66 : decode cX9_getIn 66 = .ok (.getfield 159, 3) := by decide +kernel
theorem dX9_getIn_69 : decode cX9_getIn 69 = .ok (.iastore, 1) := by decide +kernel
theorem dX9_getIn_70 : decode cX9_getIn 70 = .ok (.aload_n 0, 1) := by decide +kernel
theorem dX9_getIn_71 : decode cX9_getIn 71 = .ok (.dup, 1) := by decide +kernel
theorem dX9_getIn_72 : decode cX9_getIn 72 = .ok (.getfield 159, 3) := by decide +kernel
theorem dX9_getIn_75 : decode cX9_getIn 75 = .ok (.iconst 1, 1) := by decide +kernel
theorem dX9_getIn_76 : decode cX9_getIn 76 = .ok (.iadd, 1) := by decide +kernel
theorem dX9_getIn_77 : decode cX9_getIn 77 = .ok (.putfield 159, 3) := by decide +kernel
theorem dX9_getIn_80 : decode cX9_getIn 80 = .ok (.return_, 1) := by decide +kernel
theorem dX9_next_0 : decode cX9_next 0 = .ok (.bipush (-4), 2) := by decide +kernel
theorem dX9_next_2 : decode cX9_next 2 = .ok (.istore_n 3, 1) := by decide +kernel
theorem dX9_next_3 : decode cX9_next 3 = .ok (.iconst 0, 1) := by decide +kernel
theorem dX9_next_4 : decode cX9_next 4 = .ok (.istore 4, 2) := by decide +kernel
theorem dX9_next_6 : decode cX9_next 6 = .ok (.iload 4, 2) := by decide +kernel
theorem dX9_next_8 : decode cX9_next 8 = .ok (.bipush 6, 2) := by decide +kernel
theorem dX9_next_10 : decode cX9_next 10 = .ok (.if_icmp .ge 103, 3) := by decide +kernel
theorem dX9_next_13 : decode cX9_next 13 = .ok (.aload_n 0, 1) := by decide +kernel
theorem dX9_next_14 : decode cX9_next 14 = .ok (.getfield 40, 3) := by decide +kernel
theorem dX9_next_17 : decode cX9_next 17 = .ok (.iload 4, 2) := by decide +kernel
theorem dX9_next_19 : decode cX9_next 19 = .ok (.iaload, 1) := by decide +kernel
theorem dX9_next_20 : decode cX9_next 20 = .ok (.iload_n 1, 1) := by decide +kernel
theorem dX9_next_21 : decode cX9_next 21 = .ok (.if_icmp .ne 86, 3) := by decide +kernel
theorem dX9_next_24 : decode cX9_next 24 = .ok (.aload_n 0, 1) := by decide +kernel
theorem dX9_next_25 : decode cX9_next 25 = .ok (.getfield 65, 3) := by decide +kernel
theorem dX9_next_28 : decode cX9_next 28 = .ok (.iload 4, 2) := by decide +kernel
theorem dX9_next_30 : decode cX9_next 30 = .ok (.iaload, 1) := by decide +kernel
theorem dX9_next_31 : decode cX9_next 31 = .ok (.iload_n 2, 1) := by decide +kernel
theorem dX9_next_32 : decode cX9_next 32 = .ok (.if_icmp .ne 75, 3) := by decide +kernel
theorem dX9_next_35 : decode cX9_next 35 = .ok (.iload_n 3, 1) := by decide +kernel
theorem dX9_next_36 : decode cX9_next 36 = .ok (.bipush (-4), 2) := by decide +kernel
theorem dX9_next_38 : decode cX9_next 38 = .ok (.if_icmp .eq 50, 3) := by decide +kernel
theorem dX9_next_41 : decode cX9_next 41 = .ok (.aload_n 0, 1) := by decide +kernel
theorem dX9_next_42 : decode cX9_next 42 = .ok (.getfield 162, 3) := by decide +kernel
theorem dX9_next_45 : decode cX9_next 45 = .ok (.ifCond .ne 19, 3) := by decide +kernel
theorem dX9_next_48 : decode cX9_next 48 = .ok (.aload_n 0, 1) := by decide +kernel
theorem dX9_next_49 : decode cX9_next 49 = .ok (.getfield 74, 3) := by decide +kernel
theorem dX9_next_52 : decode cX9_next 52 = .ok (.iload 4, 2) := by decide +kernel
theorem dX9_next_54 : decode cX9_next 54 = .ok (.iaload, 1) := by decide +kernel
theorem dX9_next_55 : decode cX9_next 55 = .ok (.aload_n 0, 1) := by decide +kernel
theorem dX9_next_56 : decode cX9_next 56 = .ok (.getfield 74, 3) := by decide +kernel
theorem dX9_next_59 : decode cX9_next 59 = .ok (.iload_n 3, 1) := by decide +kernel
theorem dX9_next_60 : decode cX9_next 60 = .ok (.iaload, 1) := by decide +kernel
theorem dX9_next_61 : decode cX9_next 61 = .ok (.if_icmp .lt 27, 3) := by decide +kernel
theorem dX9_next_64 : decode cX9_next 64 = .ok (.aload_n 0, 1) := by decide +kernel
theorem dX9_next_65 : decode cX9_next 65 = .ok (.getfield 162, 3) := by decide +kernel
theorem dX9_next_68 : decode cX9_next 68 = .ok (.iconst 1, 1) := by decide +kernel
theorem dX9_next_69 : decode cX9_next 69 = .ok (.if_icmp .ne 23, 3) := by decide +kernel
theorem dX9_next_72 : decode cX9_next 72 = .ok (.aload_n 0, 1) := by decide +kernel
theorem dX9_next_73 : decode cX9_next 73 = .ok (.getfield 74, 3) := by decide +kernel
theorem dX9_next_76 : decode cX9_next 76 = .ok (.iload 4, 2) := by decide +kernel
theorem dX9_next_78 : decode cX9_next 78 = .ok (.iaload, 1) := by decide +kernel
theorem dX9_next_79 : decode cX9_next 79 = .ok (.aload_n 0, 1) := by decide +kernel
theorem dX9_next_80 : decode cX9_next 80 = .ok (.getfield 74, 3) := by decide +kernel
theorem dX9_next_83 : decode cX9_next 83 = .ok (.iload_n 3, 1) := by decide +kernel
theorem dX9_next_84 : decode cX9_next 84 = .ok (.iaload, 1) := by decide +kernel
theorem dX9_next_85 : decode cX9_next 85 = .ok (.if_icmp .le 7, 3) := by decide +kernel
theorem dX9_next_88 : decode cX9_next 88 = .ok (.iconst 1, 1) := by decide +kernel
theorem dX9_next_89 : decode cX9_next 89 = .ok (.goto 4, 3) := by decide +kernel
theorem dX9_next_92 : decode cX9_next 92 = .ok (.iconst 0, 1) := by decide +kernel
theorem dX9_next_93 : decode cX9_next 93 = .ok (.istore 5, 2) := by decide +kernel
theorem dX9_next_95 : decode cX9_next 95 = .ok (.iload 5, 2) := by decide +kernel
theorem dX9_next_97 : decode cX9_next 97 = .ok (.ifCond .eq 8, 3) := by decide +kernel
theorem dX9_next_100 : decode cX9_next 100 = .ok (.iload 4, 2) := by decide +kernel
theorem dX9_next_102 : decode cX9_next 102 = .ok (.goto 4, 3) := by decide +kernel
theorem dX9_next_105 : decode cX9_next 105 = .ok (.iload_n 3, 1) := by decide +kernel
theorem dX9_next_106 : decode cX9_next 106 = .ok (.istore_n 3, 1) := by decide +kernel
theorem dX9_next_107 : decode cX9_next 107 = .ok (.iinc 4 1, 3) := by decide +kernel
theorem dX9_next_110 : decode cX9_next 110 = .ok (.goto (-104), 3) := by decide +kernel
theorem dX9_next_113 : decode cX9_next 113 = .ok (.iload_n 3, 1) := by decide +kernel
theorem dX9_next_114 : decode cX9_next 114 = .ok (.ireturn, 1) := by decide +kernel
theorem dX9_isLeft_0 : decode cX9_isLeft 0 = .ok (.aload_n 0, 1) := by decide +kernel
theorem dX9_isLeft_1 : decode cX9_isLeft 1 = .ok (.getfield 22, 3) := by decide +kernel
theorem dX9_isLeft_4 : decode cX9_isLeft 4 = .ok (.iload_n 1, 1) := by decide +kernel
theorem dX9_isLeft_5 : decode cX9_isLeft 5 = .ok (.bipush (-4), 2) := by decide +kernel
theorem dX9_isLeft_7 : decode cX9_isLeft 7 = .ok (.iastore, 1) := by decide +kernel
theorem dX9_isLeft_8 : decode cX9_isLeft 8 = .ok (.aload_n 0, 1) := by decide +kernel
theorem dX9_isLeft_9 : decode cX9_isLeft 9 = .ok (.getfield 25, 3) := by decide +kernel
theorem dX9_isLeft_12 : decode cX9_isLeft 12 = .ok (.iload_n 1, 1) := by decide +kernel
theorem dX9_isLeft_13 : decode cX9_isLeft 13 = .ok (.iconst 0, 1) := by decide +kernel
theorem dX9_isLeft_14 : decode cX9_isLeft 14 = .ok (.iastore, 1) := by decide +kernel
theorem dX9_isLeft_15 : decode cX9_isLeft 15 = .ok (.aload_n 0, 1) := by decide +kernel
theorem dX9_isLeft_16 : decode cX9_isLeft 16 = .ok (.iconst 3, 1) := by decide +kernel
theorem dX9_isLeft_17 : decode cX9_isLeft 17 = .ok (.iload_n 1, 1) := by decide +kernel
theorem dX9_isLeft_18 : decode cX9_isLeft 18 = .ok (.invokevirtual 165, 3) := by decide +kernel
theorem dX9_isLeft_21 : decode cX9_isLeft 21 = .ok (.istore_n 2, 1) := by decide +kernel
theorem dX9_isLeft_22 : decode cX9_isLeft 22 = .ok (.iload_n 2, 1) := by decide +kernel
theorem dX9_isLeft_23 : decode cX9_isLeft 23 = .ok (.bipush (-4), 2) := by decide +kernel
theorem dX9_isLeft_25 : decode cX9_isLeft 25 = .ok (.if_icmp .eq 8, 3) := by decide +kernel
theorem dX9_isLeft_28 : decode cX9_isLeft 28 = .ok (.aload_n 0, 1) := by decide +kernel
theorem dX9_isLeft_29 : decode cX9_isLeft 29 = .ok (.iload_n 2, 1) := by decide +kernel
theorem dX9_isLeft_30 : decode cX9_isLeft 30 = .ok (.invokevirtual 156, 3) := by decide +kernel
theorem dX9_isLeft_33 : decode cX9_isLeft 33 = .ok (.return_, 1) := by decide +kernel
theorem dX9_isTold_0 : decode cX9_isTold 0 = .ok (.aload_n 0, 1) := by decide +kernel
theorem dX9_isTold_1 : decode cX9_isTold 1 = .ok (.getfield 68, 3) := by decide +kernel
theorem dX9_isTold_4 : decode cX9_isTold 4 = .ok (.iload_n 1, 1) := by decide +kernel
theorem dX9_isTold_5 : decode cX9_isTold 5 = .ok (.bipush (-4), 2) := by decide +kernel
theorem dX9_isTold_7 : decode cX9_isTold 7 = .ok (.iastore, 1) := by decide +kernel
theorem dX9_isTold_8 : decode cX9_isTold 8 = .ok (.aload_n 0, 1) := by decide +kernel
theorem dX9_isTold_9 : decode cX9_isTold 9 = .ok (.iload_n 1, 1) := by decide +kernel
theorem dX9_isTold_10 : decode cX9_isTold 10 = .ok (.invokevirtual 156, 3) := by decide +kernel
theorem dX9_isTold_13 : decode cX9_isTold 13 = .ok (.return_, 1) := by decide +kernel
theorem dX9_ends_0 : decode cX9_ends 0 = .ok (.aload_n 0, 1) := by decide +kernel
theorem dX9_ends_1 : decode cX9_ends 1 = .ok (.getfield 40, 3) := by decide +kernel
theorem dX9_ends_4 : decode cX9_ends 4 = .ok (.iload_n 1, 1) := by decide +kernel
theorem dX9_ends_5 : decode cX9_ends 5 = .ok (.bipush 7, 2) := by decide +kernel
theorem dX9_ends_7 : decode cX9_ends 7 = .ok (.iastore, 1) := by decide +kernel
theorem dX9_ends_8 : decode cX9_ends 8 = .ok (.aload_n 0, 1) := by decide +kernel
theorem dX9_ends_9 : decode cX9_ends 9 = .ok (.getfield 59, 3) := by decide +kernel
theorem dX9_ends_12 : decode cX9_ends 12 = .ok (.iload_n 1, 1) := by decide +kernel
theorem dX9_ends_13 : decode cX9_ends 13 = .ok (.iload_n 2, 1) := by decide +kernel
theorem dX9_ends_14 : decode cX9_ends 14 = .ok (.iastore, 1) := by decide +kernel
theorem dX9_ends_15 : decode cX9_ends 15 = .ok (.aload_n 0, 1) := by decide +kernel
theorem dX9_ends_16 : decode cX9_ends 16 = .ok (.getfield 62, 3) := by decide +kernel
theorem dX9_ends_19 : decode cX9_ends 19 = .ok (.iload_n 1, 1) := by decide +kernel
theorem dX9_ends_20 : decode cX9_ends 20 = .ok (.iload_n 3, 1) := by decide +kernel
theorem dX9_ends_21 : decode cX9_ends 21 = .ok (.iastore, 1) := by decide +kernel
theorem dX9_ends_22 : decode cX9_ends 22 = .ok (.iconst 0, 1) := by decide +kernel
theorem dX9_ends_23 : decode cX9_ends 23 = .ok (.istore 4, 2) := by decide +kernel
theorem dX9_ends_25 : decode cX9_ends 25 = .ok (.iload 4, 2) := by decide +kernel
theorem dX9_ends_27 : decode cX9_ends 27 = .ok (.aload_n 0, 1) := by decide +kernel
theorem dX9_ends_28 : decode cX9_ends 28 = .ok (.getfield 111, 3) := by decide +kernel
theorem dX9_ends_31 : decode cX9_ends 31 = .ok (.if_icmp .ge 26, 3) := by decide +kernel
theorem dX9_ends_34 : decode cX9_ends 34 = .ok (.aload_n 0, 1) := by decide +kernel
theorem dX9_ends_35 : decode cX9_ends 35 = .ok (.getfield 22, 3) := by decide +kernel
theorem dX9_ends_38 : decode cX9_ends 38 = .ok (.iload 4, 2) := by decide +kernel
theorem dX9_ends_40 : decode cX9_ends 40 = .ok (.iaload, 1) := by decide +kernel
theorem dX9_ends_41 : decode cX9_ends 41 = .ok (.iload_n 1, 1) := by decide +kernel
theorem dX9_ends_42 : decode cX9_ends 42 = .ok (.if_icmp .ne 9, 3) := by decide +kernel
theorem dX9_ends_45 : decode cX9_ends 45 = .ok (.aload_n 0, 1) := by decide +kernel
theorem dX9_ends_46 : decode cX9_ends 46 = .ok (.iload 4, 2) := by decide +kernel
theorem dX9_ends_48 : decode cX9_ends 48 = .ok (.invokevirtual 168, 3) := by decide +kernel
theorem dX9_ends_51 : decode cX9_ends 51 = .ok (.iinc 4 1, 3) := by decide +kernel
theorem dX9_ends_54 : decode cX9_ends 54 = .ok (.goto (-29), 3) := by decide +kernel
theorem dX9_ends_57 : decode cX9_ends 57 = .ok (.iconst 0, 1) := by decide +kernel
theorem dX9_ends_58 : decode cX9_ends 58 = .ok (.istore 4, 2) := by decide +kernel
theorem dX9_ends_60 : decode cX9_ends 60 = .ok (.iload 4, 2) := by decide +kernel
theorem dX9_ends_62 : decode cX9_ends 62 = .ok (.bipush 6, 2) := by decide +kernel
theorem dX9_ends_64 : decode cX9_ends 64 = .ok (.if_icmp .ge 49, 3) := by decide +kernel
theorem dX9_ends_67 : decode cX9_ends 67 = .ok (.aload_n 0, 1) := by decide +kernel
theorem dX9_ends_68 : decode cX9_ends 68 = .ok (.getfield 40, 3) := by decide +kernel
theorem dX9_ends_71 : decode cX9_ends 71 = .ok (.iload 4, 2) := by decide +kernel
theorem dX9_ends_73 : decode cX9_ends 73 = .ok (.iaload, 1) := by decide +kernel
theorem dX9_ends_74 : decode cX9_ends 74 = .ok (.bipush 6, 2) := by decide +kernel
theorem dX9_ends_76 : decode cX9_ends 76 = .ok (.if_icmp .ne 31, 3) := by decide +kernel
theorem dX9_ends_79 : decode cX9_ends 79 = .ok (.aload_n 0, 1) := by decide +kernel
theorem dX9_ends_80 : decode cX9_ends 80 = .ok (.getfield 65, 3) := by decide +kernel
theorem dX9_ends_83 : decode cX9_ends 83 = .ok (.iload 4, 2) := by decide +kernel
theorem dX9_ends_85 : decode cX9_ends 85 = .ok (.iaload, 1) := by decide +kernel
theorem dX9_ends_86 : decode cX9_ends 86 = .ok (.iload_n 1, 1) := by decide +kernel
theorem dX9_ends_87 : decode cX9_ends 87 = .ok (.if_icmp .ne 20, 3) := by decide +kernel
theorem dX9_ends_90 : decode cX9_ends 90 = .ok (.aload_n 0, 1) := by decide +kernel
theorem dX9_ends_91 : decode cX9_ends 91 = .ok (.getfield 40, 3) := by decide +kernel
theorem dX9_ends_94 : decode cX9_ends 94 = .ok (.iload 4, 2) := by decide +kernel
theorem dX9_ends_96 : decode cX9_ends 96 = .ok (.iconst 2, 1) := by decide +kernel
theorem dX9_ends_97 : decode cX9_ends 97 = .ok (.iastore, 1) := by decide +kernel
theorem dX9_ends_98 : decode cX9_ends 98 = .ok (.aload_n 0, 1) := by decide +kernel
theorem dX9_ends_99 : decode cX9_ends 99 = .ok (.getfield 65, 3) := by decide +kernel
theorem dX9_ends_102 : decode cX9_ends 102 = .ok (.iload 4, 2) := by decide +kernel
theorem dX9_ends_104 : decode cX9_ends 104 = .ok (.bipush (-4), 2) := by decide +kernel
theorem dX9_ends_106 : decode cX9_ends 106 = .ok (.iastore, 1) := by decide +kernel
theorem dX9_ends_107 : decode cX9_ends 107 = .ok (.iinc 4 1, 3) := by decide +kernel
theorem dX9_ends_110 : decode cX9_ends 110 = .ok (.goto (-50), 3) := by decide +kernel
theorem dX9_ends_113 : decode cX9_ends 113 = .ok (.return_, 1) := by decide +kernel
theorem dX9_rule_0 : decode cX9_rule 0 = .ok (.iload_n 1, 1) := by decide +kernel
theorem dX9_rule_1 : decode cX9_rule 1 = .ok (.iconst 0, 1) := by decide +kernel
theorem dX9_rule_2 : decode cX9_rule 2 = .ok (.iconst 1, 1) := by decide +kernel
theorem dX9_rule_3 : decode cX9_rule 3 = .ok (.invokestatic 114, 3) := by decide +kernel
theorem dX9_rule_6 : decode cX9_rule 6 = .ok (.ifCond .ne 5, 3) := by decide +kernel
theorem dX9_rule_9 : decode cX9_rule 9 = .ok (.iconst (-1), 1) := by decide +kernel
theorem dX9_rule_10 : decode cX9_rule 10 = .ok (.ireturn, 1) := by decide +kernel
theorem dX9_rule_11 : decode cX9_rule 11 = .ok (.aload_n 0, 1) := by decide +kernel
theorem dX9_rule_12 : decode cX9_rule 12 = .ok (.getfield 171, 3) := by decide +kernel
theorem dX9_rule_15 : decode cX9_rule 15 = .ok (.istore_n 2, 1) := by decide +kernel
theorem dX9_rule_16 : decode cX9_rule 16 = .ok (.aload_n 0, 1) := by decide +kernel
theorem dX9_rule_17 : decode cX9_rule 17 = .ok (.iload_n 1, 1) := by decide +kernel
theorem dX9_rule_18 : decode cX9_rule 18 = .ok (.putfield 171, 3) := by decide +kernel
theorem dX9_rule_21 : decode cX9_rule 21 = .ok (.iload_n 2, 1) := by decide +kernel
theorem dX9_rule_22 : decode cX9_rule 22 = .ok (.ireturn, 1) := by decide +kernel
theorem dX9_order_0 : decode cX9_order 0 = .ok (.iload_n 1, 1) := by decide +kernel
theorem dX9_order_1 : decode cX9_order 1 = .ok (.iconst 0, 1) := by decide +kernel
theorem dX9_order_2 : decode cX9_order 2 = .ok (.iconst 2, 1) := by decide +kernel
theorem dX9_order_3 : decode cX9_order 3 = .ok (.invokestatic 114, 3) := by decide +kernel
theorem dX9_order_6 : decode cX9_order 6 = .ok (.ifCond .ne 5, 3) := by decide +kernel
theorem dX9_order_9 : decode cX9_order 9 = .ok (.iconst (-1), 1) := by decide +kernel
theorem dX9_order_10 : decode cX9_order 10 = .ok (.ireturn, 1) := by decide +kernel
theorem dX9_order_11 : decode cX9_order 11 = .ok (.aload_n 0, 1) := by decide +kernel
theorem dX9_order_12 : decode cX9_order 12 = .ok (.getfield 162, 3) := by decide +kernel
theorem dX9_order_15 : decode cX9_order 15 = .ok (.istore_n 2, 1) := by decide +kernel
theorem dX9_order_16 : decode cX9_order 16 = .ok (.aload_n 0, 1) := by decide +kernel
theorem dX9_order_17 : decode cX9_order 17 = .ok (.iload_n 1, 1) := by decide +kernel
theorem dX9_order_18 : decode cX9_order 18 = .ok (.putfield 162, 3) := by decide +kernel
theorem dX9_order_21 : decode cX9_order 21 = .ok (.iload_n 2, 1) := by decide +kernel
theorem dX9_order_22 : decode cX9_order 22 = .ok (.ireturn, 1) := by decide +kernel
theorem dX9_still_0 : decode cX9_still 0 = .ok (.iconst 0, 1) := by decide +kernel
theorem dX9_still_1 : decode cX9_still 1 = .ok (.istore_n 1, 1) := by decide +kernel
theorem dX9_still_2 : decode cX9_still 2 = .ok (.iconst 0, 1) := by decide +kernel
theorem dX9_still_3 : decode cX9_still 3 = .ok (.istore_n 2, 1) := by decide +kernel
theorem dX9_still_4 : decode cX9_still 4 = .ok (.iconst 0, 1) := by decide +kernel
theorem dX9_still_5 : decode cX9_still 5 = .ok (.istore_n 3, 1) := by decide +kernel
theorem dX9_still_6 : decode cX9_still 6 = .ok (.iload_n 3, 1) := by decide +kernel
theorem dX9_still_7 : decode cX9_still 7 = .ok (.bipush 6, 2) := by decide +kernel
theorem dX9_still_9 : decode cX9_still 9 = .ok (.if_icmp .ge 66, 3) := by decide +kernel
theorem dX9_still_12 : decode cX9_still 12 = .ok (.iload_n 1, 1) := by decide +kernel
theorem dX9_still_13 : decode cX9_still 13 = .ok (.ifCond .ne 11, 3) := by decide +kernel
theorem dX9_still_16 : decode cX9_still 16 = .ok (.aload_n 0, 1) := by decide +kernel
theorem dX9_still_17 : decode cX9_still 17 = .ok (.iload_n 3, 1) := by decide +kernel
theorem dX9_still_18 : decode cX9_still 18 = .ok (.invokevirtual 143, 3) := by decide +kernel
theorem dX9_still_21 : decode cX9_still 21 = .ok (.ifCond .eq 7, 3) := by decide +kernel
theorem dX9_still_24 : decode cX9_still 24 = .ok (.iconst 1, 1) := by decide +kernel
theorem dX9_still_25 : decode cX9_still 25 = .ok (.goto 4, 3) := by decide +kernel
theorem dX9_still_28 : decode cX9_still 28 = .ok (.iconst 0, 1) := by decide +kernel
theorem dX9_still_29 : decode cX9_still 29 = .ok (.istore_n 1, 1) := by decide +kernel
theorem dX9_still_30 : decode cX9_still 30 = .ok (.iload_n 2, 1) := by decide +kernel
theorem dX9_still_31 : decode cX9_still 31 = .ok (.ifCond .ne 32, 3) := by decide +kernel
theorem dX9_still_34 : decode cX9_still 34 = .ok (.aload_n 0, 1) := by decide +kernel
theorem dX9_still_35 : decode cX9_still 35 = .ok (.getfield 40, 3) := by decide +kernel
theorem dX9_still_38 : decode cX9_still 38 = .ok (.iload_n 3, 1) := by decide +kernel
theorem dX9_still_39 : decode cX9_still 39 = .ok (.iaload, 1) := by decide +kernel
theorem dX9_still_40 : decode cX9_still 40 = .ok (.iconst 2, 1) := by decide +kernel
theorem dX9_still_41 : decode cX9_still 41 = .ok (.if_icmp .eq 22, 3) := by decide +kernel
theorem dX9_still_44 : decode cX9_still 44 = .ok (.aload_n 0, 1) := by decide +kernel
theorem dX9_still_45 : decode cX9_still 45 = .ok (.iload_n 3, 1) := by decide +kernel
theorem dX9_still_46 : decode cX9_still 46 = .ok (.invokevirtual 143, 3) := by decide +kernel
theorem dX9_still_49 : decode cX9_still 49 = .ok (.ifCond .eq 18, 3) := by decide +kernel
theorem dX9_still_52 : decode cX9_still 52 = .ok (.aload_n 0, 1) := by decide +kernel
theorem dX9_still_53 : decode cX9_still 53 = .ok (.getfield 68, 3) := by decide +kernel
theorem dX9_still_56 : decode cX9_still 56 = .ok (.iload_n 3, 1) := by decide +kernel
theorem dX9_still_57 : decode cX9_still 57 = .ok (.iaload, 1) := by decide +kernel
theorem dX9_still_58 : decode cX9_still 58 = .ok (.bipush (-4), 2) := by decide +kernel
theorem dX9_still_60 : decode cX9_still 60 = .ok (.if_icmp .eq 7, 3) := by decide +kernel
theorem dX9_still_63 : decode cX9_still 63 = .ok (.iconst 1, 1) := by decide +kernel
theorem dX9_still_64 : decode cX9_still 64 = .ok (.goto 4, 3) := by decide +kernel
theorem dX9_still_67 : decode cX9_still 67 = .ok (.iconst 0, 1) := by decide +kernel
theorem dX9_still_68 : decode cX9_still 68 = .ok (.istore_n 2, 1) := by decide +kernel
theorem dX9_still_69 : decode cX9_still 69 = .ok (.iinc 3 1, 3) := by decide +kernel
theorem dX9_still_72 : decode cX9_still 72 = .ok (.goto (-66), 3) := by decide +kernel
theorem dX9_still_75 : decode cX9_still 75 = .ok (.iload_n 1, 1) := by decide +kernel
theorem dX9_still_76 : decode cX9_still 76 = .ok (.ifCond .ne 8, 3) := by decide +kernel
theorem dX9_still_79 : decode cX9_still 79 = .ok (.bipush (-7), 2) := by decide +kernel
theorem dX9_still_81 : decode cX9_still 81 = .ok (.goto 13, 3) := by decide +kernel
theorem dX9_still_84 : decode cX9_still 84 = .ok (.iload_n 2, 1) := by decide +kernel
theorem dX9_still_85 : decode cX9_still 85 = .ok (.ifCond .eq 7, 3) := by decide +kernel
theorem dX9_still_88 : decode cX9_still 88 = .ok (.iconst 0, 1) := by decide +kernel
theorem dX9_still_89 : decode cX9_still 89 = .ok (.goto 5, 3) := by decide +kernel
theorem dX9_still_92 : decode cX9_still 92 = .ok (.bipush (-6), 2) := by decide +kernel
theorem dX9_still_94 : decode cX9_still 94 = .ok (.ireturn, 1) := by decide +kernel
theorem dX9_chosen_0 : decode cX9_chosen 0 = .ok (.bipush (-4), 2) := by decide +kernel
theorem dX9_chosen_2 : decode cX9_chosen 2 = .ok (.istore_n 1, 1) := by decide +kernel
theorem dX9_chosen_3 : decode cX9_chosen 3 = .ok (.iconst 1, 1) := by decide +kernel
theorem dX9_chosen_4 : decode cX9_chosen 4 = .ok (.istore_n 2, 1) := by decide +kernel
theorem dX9_chosen_5 : decode cX9_chosen 5 = .ok (.iload_n 2, 1) := by decide +kernel
theorem dX9_chosen_6 : decode cX9_chosen 6 = .ok (.bipush 6, 2) := by decide +kernel
theorem dX9_chosen_8 : decode cX9_chosen 8 = .ok (.if_icmp .gt 73, 3) := by decide +kernel
theorem dX9_chosen_11 : decode cX9_chosen 11 = .ok (.aload_n 0, 1) := by decide +kernel
theorem dX9_chosen_12 : decode cX9_chosen 12 = .ok (.getfield 171, 3) := by decide +kernel
theorem dX9_chosen_15 : decode cX9_chosen 15 = .ok (.ifCond .ne 15, 3) := by decide +kernel
theorem dX9_chosen_18 : decode cX9_chosen 18 = .ok (.aload_n 0, 1) := by decide +kernel
theorem dX9_chosen_19 : decode cX9_chosen 19 = .ok (.getfield 101, 3) := by decide +kernel
theorem dX9_chosen_22 : decode cX9_chosen 22 = .ok (.iload_n 2, 1) := by decide +kernel
theorem dX9_chosen_23 : decode cX9_chosen 23 = .ok (.iadd, 1) := by decide +kernel
theorem dX9_chosen_24 : decode cX9_chosen 24 = .ok (.bipush 6, 2) := by decide +kernel
theorem dX9_chosen_26 : decode cX9_chosen 26 = .ok (.irem, 1) := by decide +kernel
theorem dX9_chosen_27 : decode cX9_chosen 27 = .ok (.goto 6, 3) := by decide +kernel
theorem dX9_chosen_30 : decode cX9_chosen 30 = .ok (.iload_n 2, 1) := by decide +kernel
theorem dX9_chosen_31 : decode cX9_chosen 31 = .ok (.iconst 1, 1) := by decide +kernel
theorem dX9_chosen_32 : decode cX9_chosen 32 = .ok (.isub, 1) := by decide +kernel
theorem dX9_chosen_33 : decode cX9_chosen 33 = .ok (.istore_n 3, 1) := by decide +kernel
theorem dX9_chosen_34 : decode cX9_chosen 34 = .ok (.aload_n 0, 1) := by decide +kernel
theorem dX9_chosen_35 : decode cX9_chosen 35 = .ok (.getfield 40, 3) := by decide +kernel
theorem dX9_chosen_38 : decode cX9_chosen 38 = .ok (.iload_n 3, 1) := by decide +kernel
theorem dX9_chosen_39 : decode cX9_chosen 39 = .ok (.iaload, 1) := by decide +kernel
theorem dX9_chosen_40 : decode cX9_chosen 40 = .ok (.iconst 2, 1) := by decide +kernel
theorem dX9_chosen_41 : decode cX9_chosen 41 = .ok (.if_icmp .ne 34, 3) := by decide +kernel
theorem dX9_chosen_44 : decode cX9_chosen 44 = .ok (.iload_n 1, 1) := by decide +kernel
theorem dX9_chosen_45 : decode cX9_chosen 45 = .ok (.bipush (-4), 2) := by decide +kernel
theorem dX9_chosen_47 : decode cX9_chosen 47 = .ok (.if_icmp .eq 26, 3) := by decide +kernel
theorem dX9_chosen_50 : decode cX9_chosen 50 = .ok (.aload_n 0, 1) := by decide +kernel
theorem dX9_chosen_51 : decode cX9_chosen 51 = .ok (.getfield 171, 3) := by decide +kernel
theorem dX9_chosen_54 : decode cX9_chosen 54 = .ok (.iconst 1, 1) := by decide +kernel
theorem dX9_chosen_55 : decode cX9_chosen 55 = .ok (.if_icmp .ne 20, 3) := by decide +kernel
theorem dX9_chosen_58 : decode cX9_chosen 58 = .ok (.aload_n 0, 1) := by decide +kernel
theorem dX9_chosen_59 : decode cX9_chosen 59 = .ok (.getfield 46, 3) := by decide +kernel
theorem dX9_chosen_62 : decode cX9_chosen 62 = .ok (.iload_n 3, 1) := by decide +kernel
theorem dX9_chosen_63 : decode cX9_chosen 63 = .ok (.iaload, 1) := by decide +kernel
theorem dX9_chosen_64 : decode cX9_chosen 64 = .ok (.aload_n 0, 1) := by decide +kernel
theorem dX9_chosen_65 : decode cX9_chosen 65 = .ok (.getfield 46, 3) := by decide +kernel
theorem dX9_chosen_68 : decode cX9_chosen 68 = .ok (.iload_n 1, 1) := by decide +kernel
theorem dX9_chosen_69 : decode cX9_chosen 69 = .ok (.iaload, 1) := by decide +kernel
theorem dX9_chosen_70 : decode cX9_chosen 70 = .ok (.if_icmp .le 5, 3) := by decide +kernel
theorem dX9_chosen_73 : decode cX9_chosen 73 = .ok (.iload_n 3, 1) := by decide +kernel
theorem dX9_chosen_74 : decode cX9_chosen 74 = .ok (.istore_n 1, 1) := by decide +kernel
theorem dX9_chosen_75 : decode cX9_chosen 75 = .ok (.iinc 2 1, 3) := by decide +kernel
theorem dX9_chosen_78 : decode cX9_chosen 78 = .ok (.goto (-73), 3) := by decide +kernel
theorem dX9_chosen_81 : decode cX9_chosen 81 = .ok (.iload_n 1, 1) := by decide +kernel
theorem dX9_chosen_82 : decode cX9_chosen 82 = .ok (.ireturn, 1) := by decide +kernel
theorem dX9_goes_0 : decode cX9_goes 0 = .ok (.aload_n 0, 1) := by decide +kernel
theorem dX9_goes_1 : decode cX9_goes 1 = .ok (.dup, 1) := by decide +kernel
theorem dX9_goes_2 : decode cX9_goes 2 = .ok (.getfield 174, 3) := by decide +kernel
theorem dX9_goes_5 : decode cX9_goes 5 = .ok (.iconst 1, 1) := by decide +kernel
theorem dX9_goes_6 : decode cX9_goes 6 = .ok (.iadd, 1) := by decide +kernel
theorem dX9_goes_7 : decode cX9_goes 7 = .ok (.putfield 174, 3) := by decide +kernel
theorem dX9_goes_10 : decode cX9_goes 10 = .ok (.iconst 0, 1) := by decide +kernel
theorem dX9_goes_11 : decode cX9_goes 11 = .ok (.istore_n 1, 1) := by decide +kernel
theorem dX9_goes_12 : decode cX9_goes 12 = .ok (.iload_n 1, 1) := by decide +kernel
theorem dX9_goes_13 : decode cX9_goes 13 = .ok (.bipush 6, 2) := by decide +kernel
theorem dX9_goes_15 : decode cX9_goes 15 = .ok (.if_icmp .ge 90, 3) := by decide +kernel
theorem dX9_goes_18 : decode cX9_goes 18 = .ok (.aload_n 0, 1) := by decide +kernel
theorem dX9_goes_19 : decode cX9_goes 19 = .ok (.getfield 68, 3) := by decide +kernel
theorem dX9_goes_22 : decode cX9_goes 22 = .ok (.iload_n 1, 1) := by decide +kernel
theorem dX9_goes_23 : decode cX9_goes 23 = .ok (.iaload, 1) := by decide +kernel
theorem dX9_goes_24 : decode cX9_goes 24 = .ok (.bipush (-4), 2) := by decide +kernel
theorem dX9_goes_26 : decode cX9_goes 26 = .ok (.if_icmp .eq 20, 3) := by decide +kernel
theorem dX9_goes_29 : decode cX9_goes 29 = .ok (.aload_n 0, 1) := by decide +kernel
theorem dX9_goes_30 : decode cX9_goes 30 = .ok (.getfield 174, 3) := by decide +kernel
theorem dX9_goes_33 : decode cX9_goes 33 = .ok (.aload_n 0, 1) := by decide +kernel
theorem dX9_goes_34 : decode cX9_goes 34 = .ok (.getfield 68, 3) := by decide +kernel
theorem dX9_goes_37 : decode cX9_goes 37 = .ok (.iload_n 1, 1) := by decide +kernel
theorem dX9_goes_38 : decode cX9_goes 38 = .ok (.iaload, 1) := by decide +kernel
theorem dX9_goes_39 : decode cX9_goes 39 = .ok (.if_icmp .lt 7, 3) := by decide +kernel
theorem dX9_goes_42 : decode cX9_goes 42 = .ok (.iconst 1, 1) := by decide +kernel
theorem dX9_goes_43 : decode cX9_goes 43 = .ok (.goto 4, 3) := by decide +kernel
theorem dX9_goes_46 : decode cX9_goes 46 = .ok (.iconst 0, 1) := by decide +kernel
theorem dX9_goes_47 : decode cX9_goes 47 = .ok (.istore_n 2, 1) := by decide +kernel
theorem dX9_goes_48 : decode cX9_goes 48 = .ok (.iload_n 2, 1) := by decide +kernel
theorem dX9_goes_49 : decode cX9_goes 49 = .ok (.ifCond .eq 31, 3) := by decide +kernel
theorem dX9_goes_52 : decode cX9_goes 52 = .ok (.aload_n 0, 1) := by decide +kernel
theorem dX9_goes_53 : decode cX9_goes 53 = .ok (.getfield 40, 3) := by decide +kernel
theorem dX9_goes_56 : decode cX9_goes 56 = .ok (.iload_n 1, 1) := by decide +kernel
theorem dX9_goes_57 : decode cX9_goes 57 = .ok (.iaload, 1) := by decide +kernel
theorem dX9_goes_58 : decode cX9_goes 58 = .ok (.iconst 5, 1) := by decide +kernel
theorem dX9_goes_59 : decode cX9_goes 59 = .ok (.if_icmp .ne 21, 3) := by decide +kernel
theorem dX9_goes_62 : decode cX9_goes 62 = .ok (.aload_n 0, 1) := by decide +kernel
theorem dX9_goes_63 : decode cX9_goes 63 = .ok (.getfield 68, 3) := by decide +kernel
theorem dX9_goes_66 : decode cX9_goes 66 = .ok (.iload_n 1, 1) := by decide +kernel
theorem dX9_goes_67 : decode cX9_goes 67 = .ok (.bipush (-4), 2) := by decide +kernel
theorem dX9_goes_69 : decode cX9_goes 69 = .ok (.iastore, 1) := by decide +kernel
theorem dX9_goes_70 : decode cX9_goes 70 = .ok (.aload_n 0, 1) := by decide +kernel
theorem dX9_goes_71 : decode cX9_goes 71 = .ok (.getfield 40, 3) := by decide +kernel
theorem dX9_goes_74 : decode cX9_goes 74 = .ok (.iload_n 1, 1) := by decide +kernel
theorem dX9_goes_75 : decode cX9_goes 75 = .ok (.iconst 2, 1) := by decide +kernel
theorem dX9_goes_76 : decode cX9_goes 76 = .ok (.iastore, 1) := by decide +kernel
theorem dX9_goes_77 : decode cX9_goes 77 = .ok (.goto 22, 3) := by decide +kernel
theorem dX9_goes_80 : decode cX9_goes 80 = .ok (.iload_n 2, 1) := by decide +kernel
theorem dX9_goes_81 : decode cX9_goes 81 = .ok (.ifCond .eq 18, 3) := by decide +kernel
theorem dX9_goes_84 : decode cX9_goes 84 = .ok (.aload_n 0, 1) := by decide +kernel
theorem dX9_goes_85 : decode cX9_goes 85 = .ok (.getfield 40, 3) := by decide +kernel
theorem dX9_goes_88 : decode cX9_goes 88 = .ok (.iload_n 1, 1) := by decide +kernel
theorem dX9_goes_89 : decode cX9_goes 89 = .ok (.iaload, 1) := by decide +kernel
theorem dX9_goes_90 : decode cX9_goes 90 = .ok (.iconst 4, 1) := by decide +kernel
theorem dX9_goes_91 : decode cX9_goes 91 = .ok (.if_icmp .ne 8, 3) := by decide +kernel
theorem dX9_goes_94 : decode cX9_goes 94 = .ok (.aload_n 0, 1) := by decide +kernel
theorem dX9_goes_95 : decode cX9_goes 95 = .ok (.iload_n 1, 1) := by decide +kernel
theorem dX9_goes_96 : decode cX9_goes 96 = .ok (.invokevirtual 177, 3) := by decide +kernel
theorem dX9_goes_99 : decode cX9_goes 99 = .ok (.iinc 1 1, 3) := by decide +kernel
theorem dX9_goes_102 : decode cX9_goes 102 = .ok (.goto (-90), 3) := by decide +kernel
theorem dX9_goes_105 : decode cX9_goes 105 = .ok (.aload_n 0, 1) := by decide +kernel
theorem dX9_goes_106 : decode cX9_goes 106 = .ok (.invokevirtual 180, 3) := by decide +kernel
theorem dX9_goes_109 : decode cX9_goes 109 = .ok (.istore_n 1, 1) := by decide +kernel
theorem dX9_goes_110 : decode cX9_goes 110 = .ok (.iload_n 1, 1) := by decide +kernel
theorem dX9_goes_111 : decode cX9_goes 111 = .ok (.bipush (-4), 2) := by decide +kernel
theorem dX9_goes_113 : decode cX9_goes 113 = .ok (.if_icmp .ne 6, 3) := by decide +kernel
theorem dX9_goes_116 : decode cX9_goes 116 = .ok (.bipush (-5), 2) := by decide +kernel
theorem dX9_goes_118 : decode cX9_goes 118 = .ok (.ireturn, 1) := by decide +kernel
theorem dX9_goes_119 : decode cX9_goes 119 = .ok (.aload_n 0, 1) := by decide +kernel
theorem dX9_goes_120 : decode cX9_goes 120 = .ok (.iload_n 1, 1) := by decide +kernel
theorem dX9_goes_121 : decode cX9_goes 121 = .ok (.putfield 101, 3) := by decide +kernel
theorem dX9_goes_124 : decode cX9_goes 124 = .ok (.aload_n 0, 1) := by decide +kernel
theorem dX9_goes_125 : decode cX9_goes 125 = .ok (.getfield 49, 3) := by decide +kernel
theorem dX9_goes_128 : decode cX9_goes 128 = .ok (.iload_n 1, 1) := by decide +kernel
theorem dX9_goes_129 : decode cX9_goes 129 = .ok (.iaload, 1) := by decide +kernel
theorem dX9_goes_130 : decode cX9_goes 130 = .ok (.istore_n 2, 1) := by decide +kernel
theorem dX9_goes_131 : decode cX9_goes 131 = .ok (.aload_n 0, 1) := by decide +kernel
theorem dX9_goes_132 : decode cX9_goes 132 = .ok (.iconst 0, 1) := by decide +kernel
theorem dX9_goes_133 : decode cX9_goes 133 = .ok (.putfield 184, 3) := by decide +kernel
theorem dX9_goes_136 : decode cX9_goes 136 = .ok (.aload_n 0, 1) := by decide +kernel
theorem dX9_goes_137 : decode cX9_goes 137 = .ok (.iconst 0, 1) := by decide +kernel
theorem dX9_goes_138 : decode cX9_goes 138 = .ok (.putfield 187, 3) := by decide +kernel
theorem dX9_goes_141 : decode cX9_goes 141 = .ok (.aload_n 0, 1) := by decide +kernel
theorem dX9_goes_142 : decode cX9_goes 142 = .ok (.getfield 56, 3) := by decide +kernel
theorem dX9_goes_145 : decode cX9_goes 145 = .ok (.iload_n 1, 1) := by decide +kernel
theorem dX9_goes_146 : decode cX9_goes 146 = .ok (.baload, 1) := by decide +kernel
theorem dX9_goes_147 : decode cX9_goes 147 = .ok (.ifCond .eq 19, 3) := by decide +kernel
theorem dX9_goes_150 : decode cX9_goes 150 = .ok (.aload_n 0, 1) := by decide +kernel
theorem dX9_goes_151 : decode cX9_goes 151 = .ok (.getfield 56, 3) := by decide +kernel
theorem dX9_goes_154 : decode cX9_goes 154 = .ok (.iload_n 1, 1) := by decide +kernel
theorem dX9_goes_155 : decode cX9_goes 155 = .ok (.iconst 0, 1) := by decide +kernel
theorem dX9_goes_156 : decode cX9_goes 156 = .ok (.bastore, 1) := by decide +kernel
theorem dX9_goes_157 : decode cX9_goes 157 = .ok (.aload_n 0, 1) := by decide +kernel
theorem dX9_goes_158 : decode cX9_goes 158 = .ok (.bipush 9, 2) := by decide +kernel
theorem dX9_goes_160 : decode cX9_goes 160 = .ok (.putfield 184, 3) := by decide +kernel
theorem dX9_goes_163 : decode cX9_goes 163 = .ok (.goto 99, 3) := by decide +kernel
theorem dX9_goes_166 : decode cX9_goes 166 = .ok (.iload_n 2, 1) := by decide +kernel
theorem dX9_goes_167 : decode cX9_goes 167 = .ok (.aload_n 0, 1) := by decide +kernel
theorem dX9_goes_168 : decode cX9_goes 168 = .ok (.getfield 34, 3) := by decide +kernel
theorem dX9_goes_171 : decode cX9_goes 171 = .ok (.aload_n 0, 1) := by decide +kernel
theorem dX9_goes_172 : decode cX9_goes 172 = .ok (.getfield 43, 3) := by decide +kernel
theorem dX9_goes_175 : decode cX9_goes 175 = .ok (.iload_n 1, 1) := by decide +kernel
theorem dX9_goes_176 : decode cX9_goes 176 = .ok (.iaload, 1) := by decide +kernel
theorem dX9_goes_177 : decode cX9_goes 177 = .ok (.iaload, 1) := by decide +kernel
theorem dX9_goes_178 : decode cX9_goes 178 = .ok (.if_icmp .lt 13, 3) := by decide +kernel
theorem dX9_goes_181 : decode cX9_goes 181 = .ok (.aload_n 0, 1) := by decide +kernel
theorem dX9_goes_182 : decode cX9_goes 182 = .ok (.iload_n 1, 1) := by decide +kernel
theorem dX9_goes_183 : decode cX9_goes 183 = .ok (.iconst 0, 1) := by decide +kernel
theorem dX9_goes_184 : decode cX9_goes 184 = .ok (.iconst 0, 1) := by decide +kernel
theorem dX9_goes_185 : decode cX9_goes 185 = .ok (.invokevirtual 190, 3) := by decide +kernel
theorem dX9_goes_188 : decode cX9_goes 188 = .ok (.goto 74, 3) := by decide +kernel
theorem dX9_goes_191 : decode cX9_goes 191 = .ok (.aload_n 0, 1) := by decide +kernel
theorem dX9_goes_192 : decode cX9_goes 192 = .ok (.getfield 49, 3) := by decide +kernel
theorem dX9_goes_195 : decode cX9_goes 195 = .ok (.iload_n 1, 1) := by decide +kernel
theorem dX9_goes_196 : decode cX9_goes 196 = .ok (.dup2, 1) := by decide +kernel
theorem dX9_goes_197 : decode cX9_goes 197 = .ok (.iaload, 1) := by decide +kernel
theorem dX9_goes_198 : decode cX9_goes 198 = .ok (.iconst 1, 1) := by decide +kernel
theorem dX9_goes_199 : decode cX9_goes 199 = .ok (.iadd, 1) := by decide +kernel
theorem dX9_goes_200 : decode cX9_goes 200 = .ok (.iastore, 1) := by decide +kernel
theorem dX9_goes_201 : decode cX9_goes 201 = .ok (.aload_n 0, 1) := by decide +kernel
theorem dX9_goes_202 : decode cX9_goes 202 = .ok (.getfield 77, 3) := by decide +kernel
theorem dX9_goes_205 : decode cX9_goes 205 = .ok (.iload_n 1, 1) := by decide +kernel
theorem dX9_goes_206 : decode cX9_goes 206 = .ok (.dup2, 1) := by decide +kernel
theorem dX9_goes_207 : decode cX9_goes 207 = .ok (.iaload, 1) := by decide +kernel
theorem dX9_goes_208 : decode cX9_goes 208 = .ok (.iconst 1, 1) := by decide +kernel
theorem dX9_goes_209 : decode cX9_goes 209 = .ok (.iadd, 1) := by decide +kernel
theorem dX9_goes_210 : decode cX9_goes 210 = .ok (.iastore, 1) := by decide +kernel
theorem dX9_goes_211 : decode cX9_goes 211 = .ok (.aload_n 0, 1) := by decide +kernel
theorem dX9_goes_212 : decode cX9_goes 212 = .ok (.dup, 1) := by decide +kernel
theorem dX9_goes_213 : decode cX9_goes 213 = .ok (.getfield 194, 3) := by decide +kernel
theorem dX9_goes_216 : decode cX9_goes 216 = .ok (.iconst 1, 1) := by decide +kernel
theorem dX9_goes_217 : decode cX9_goes 217 = .ok (.iadd, 1) := by decide +kernel
theorem dX9_goes_218 : decode cX9_goes 218 = .ok (.putfield 194, 3) := by decide +kernel
theorem dX9_goes_221 : decode cX9_goes 221 = .ok (.aload_n 0, 1) := by decide +kernel
theorem dX9_goes_222 : decode cX9_goes 222 = .ok (.iload_n 1, 1) := by decide +kernel
theorem dX9_goes_223 : decode cX9_goes 223 = .ok (.iconst 4, 1) := by decide +kernel
theorem dX9_goes_224 : decode cX9_goes 224 = .ok (.bipush 40, 2) := by decide +kernel
theorem dX9_goes_226 : decode cX9_goes 226 = .ok (.aload_n 0, 1) := by decide +kernel
theorem dX9_goes_227 : decode cX9_goes 227 = .ok (.getfield 43, 3) := by decide +kernel
theorem dX9_goes_230 : decode cX9_goes 230 = .ok (.iload_n 1, 1) := by decide +kernel
theorem dX9_goes_231 : decode cX9_goes 231 = .ok (.iaload, 1) := by decide +kernel
theorem dX9_goes_232 : decode cX9_goes 232 = .ok (.imul, 1) := by decide +kernel
theorem dX9_goes_233 : decode cX9_goes 233 = .ok (.iload_n 2, 1) := by decide +kernel
theorem dX9_goes_234 : decode cX9_goes 234 = .ok (.iadd, 1) := by decide +kernel
theorem dX9_goes_235 : decode cX9_goes 235 = .ok (.imul, 1) := by decide +kernel
theorem dX9_goes_236 : decode cX9_goes 236 = .ok (.invokevirtual 197, 3) := by decide +kernel
theorem dX9_goes_239 : decode cX9_goes 239 = .ok (.aload_n 0, 1) := by decide +kernel
theorem dX9_goes_240 : decode cX9_goes 240 = .ok (.getfield 49, 3) := by decide +kernel
theorem dX9_goes_243 : decode cX9_goes 243 = .ok (.iload_n 1, 1) := by decide +kernel
theorem dX9_goes_244 : decode cX9_goes 244 = .ok (.aload_n 0, 1) := by decide +kernel
theorem dX9_goes_245 : decode cX9_goes 245 = .ok (.getfield 184, 3) := by decide +kernel
theorem dX9_goes_248 : decode cX9_goes 248 = .ok (.ifCond .le 7, 3) := by decide +kernel
theorem dX9_goes_251 : decode cX9_goes 251 = .ok (.iload_n 2, 1) := by decide +kernel
theorem dX9_goes_252 : decode cX9_goes 252 = .ok (.goto 9, 3) := by decide +kernel
theorem dX9_goes_255 : decode cX9_goes 255 = .ok (.aload_n 0, 1) := by decide +kernel
theorem dX9_goes_256 : decode cX9_goes 256 = .ok (.getfield 49, 3) := by decide +kernel
theorem dX9_goes_259 : decode cX9_goes 259 = .ok (.iload_n 1, 1) := by decide +kernel
theorem dX9_goes_260 : decode cX9_goes 260 = .ok (.iaload, 1) := by decide +kernel
theorem dX9_goes_261 : decode cX9_goes 261 = .ok (.iastore, 1) := by decide +kernel
theorem dX9_goes_262 : decode cX9_goes 262 = .ok (.aload_n 0, 1) := by decide +kernel
theorem dX9_goes_263 : decode cX9_goes 263 = .ok (.getfield 184, 3) := by decide +kernel
theorem dX9_goes_266 : decode cX9_goes 266 = .ok (.ifCond .le 8, 3) := by decide +kernel
theorem dX9_goes_269 : decode cX9_goes 269 = .ok (.aload_n 0, 1) := by decide +kernel
theorem dX9_goes_270 : decode cX9_goes 270 = .ok (.iload_n 1, 1) := by decide +kernel
theorem dX9_goes_271 : decode cX9_goes 271 = .ok (.invokevirtual 201, 3) := by decide +kernel
theorem dX9_goes_274 : decode cX9_goes 274 = .ok (.aload_n 0, 1) := by decide +kernel
theorem dX9_goes_275 : decode cX9_goes 275 = .ok (.getfield 40, 3) := by decide +kernel
theorem dX9_goes_278 : decode cX9_goes 278 = .ok (.iload_n 1, 1) := by decide +kernel
theorem dX9_goes_279 : decode cX9_goes 279 = .ok (.iaload, 1) := by decide +kernel
theorem dX9_goes_280 : decode cX9_goes 280 = .ok (.iconst 2, 1) := by decide +kernel
theorem dX9_goes_281 : decode cX9_goes 281 = .ok (.if_icmp .ne 30, 3) := by decide +kernel
theorem dX9_goes_284 : decode cX9_goes 284 = .ok (.aload_n 0, 1) := by decide +kernel
theorem dX9_goes_285 : decode cX9_goes 285 = .ok (.getfield 49, 3) := by decide +kernel
theorem dX9_goes_288 : decode cX9_goes 288 = .ok (.iload_n 1, 1) := by decide +kernel
theorem dX9_goes_289 : decode cX9_goes 289 = .ok (.iaload, 1) := by decide +kernel
theorem dX9_goes_290 : decode cX9_goes 290 = .ok (.aload_n 0, 1) := by decide +kernel
theorem dX9_goes_291 : decode cX9_goes 291 = .ok (.getfield 34, 3) := by decide +kernel
theorem dX9_goes_294 : decode cX9_goes 294 = .ok (.aload_n 0, 1) := by decide +kernel
theorem dX9_goes_295 : decode cX9_goes 295 = .ok (.getfield 43, 3) := by decide +kernel
theorem dX9_goes_298 : decode cX9_goes 298 = .ok (.iload_n 1, 1) := by decide +kernel
theorem dX9_goes_299 : decode cX9_goes 299 = .ok (.iaload, 1) := by decide +kernel
theorem dX9_goes_300 : decode cX9_goes 300 = .ok (.iaload, 1) := by decide +kernel
theorem dX9_goes_301 : decode cX9_goes 301 = .ok (.if_icmp .lt 10, 3) := by decide +kernel
theorem dX9_goes_304 : decode cX9_goes 304 = .ok (.aload_n 0, 1) := by decide +kernel
theorem dX9_goes_305 : decode cX9_goes 305 = .ok (.iload_n 1, 1) := by decide +kernel
theorem dX9_goes_306 : decode cX9_goes 306 = .ok (.iconst 0, 1) := by decide +kernel
theorem dX9_goes_307 : decode cX9_goes 307 = .ok (.iconst 0, 1) := by decide +kernel
theorem dX9_goes_308 : decode cX9_goes 308 = .ok (.invokevirtual 190, 3) := by decide +kernel
theorem dX9_goes_311 : decode cX9_goes 311 = .ok (.iconst 3, 1) := by decide +kernel
theorem dX9_goes_312 : decode cX9_goes 312 = .ok (.aload_n 0, 1) := by decide +kernel
theorem dX9_goes_313 : decode cX9_goes 313 = .ok (.getfield 204, 3) := by decide +kernel
theorem dX9_goes_316 : decode cX9_goes 316 = .ok (.bipush 60, 2) := by decide +kernel
theorem dX9_goes_318 : decode cX9_goes 318 = .ok (.irem, 1) := by decide +kernel
theorem dX9_goes_319 : decode cX9_goes 319 = .ok (.imul, 1) := by decide +kernel
theorem dX9_goes_320 : decode cX9_goes 320 = .ok (.istore_n 3, 1) := by decide +kernel
theorem dX9_goes_321 : decode cX9_goes 321 = .ok (.aload_n 0, 1) := by decide +kernel
theorem dX9_goes_322 : decode cX9_goes 322 = .ok (.getfield 108, 3) := by decide +kernel
theorem dX9_goes_325 : decode cX9_goes 325 = .ok (.iload_n 3, 1) := by decide +kernel
theorem dX9_goes_326 : decode cX9_goes 326 = .ok (.iload_n 1, 1) := by decide +kernel
theorem dX9_goes_327 : decode cX9_goes 327 = .ok (.iastore, 1) := by decide +kernel
theorem dX9_goes_328 : decode cX9_goes 328 = .ok (.aload_n 0, 1) := by decide +kernel
theorem dX9_goes_329 : decode cX9_goes 329 = .ok (.getfield 108, 3) := by decide +kernel
theorem dX9_goes_332 : decode cX9_goes 332 = .ok (.iload_n 3, 1) := by decide +kernel
theorem dX9_goes_333 : decode cX9_goes 333 = .ok (.iconst 1, 1) := by decide +kernel
theorem dX9_goes_334 : decode cX9_goes 334 = .ok (.iadd, 1) := by decide +kernel
theorem dX9_goes_335 : decode cX9_goes 335 = .ok (.iload_n 2, 1) := by decide +kernel
theorem dX9_goes_336 : decode cX9_goes 336 = .ok (.iastore, 1) := by decide +kernel
theorem dX9_goes_337 : decode cX9_goes 337 = .ok (.aload_n 0, 1) := by decide +kernel
theorem dX9_goes_338 : decode cX9_goes 338 = .ok (.getfield 108, 3) := by decide +kernel
theorem dX9_goes_341 : decode cX9_goes 341 = .ok (.iload_n 3, 1) := by decide +kernel
theorem dX9_goes_342 : decode cX9_goes 342 = .ok (.iconst 2, 1) := by decide +kernel
theorem dX9_goes_343 : decode cX9_goes 343 = .ok (.iadd, 1) := by decide +kernel
theorem dX9_goes_344 : decode cX9_goes 344 = .ok (.aload_n 0, 1) := by decide +kernel
theorem dX9_goes_345 : decode cX9_goes 345 = .ok (.getfield 184, 3) := by decide +kernel
theorem dX9_goes_348 : decode cX9_goes 348 = .ok (.iastore, 1) := by decide +kernel
theorem dX9_goes_349 : decode cX9_goes 349 = .ok (.aload_n 0, 1) := by decide +kernel
theorem dX9_goes_350 : decode cX9_goes 350 = .ok (.dup, 1) := by decide +kernel
theorem dX9_goes_351 : decode cX9_goes 351 = .ok (.getfield 204, 3) := by decide +kernel
theorem dX9_goes_354 : decode cX9_goes 354 = .ok (.iconst 1, 1) := by decide +kernel
theorem dX9_goes_355 : decode cX9_goes 355 = .ok (.iadd, 1) := by decide +kernel
theorem dX9_goes_356 : decode cX9_goes 356 = .ok (.putfield 204, 3) := by decide +kernel
theorem dX9_goes_359 : decode cX9_goes 359 = .ok (.iload_n 1, 1) := by decide +kernel
theorem dX9_goes_360 : decode cX9_goes 360 = .ok (.ireturn, 1) := by decide +kernel
theorem dX9_fails_0 : decode cX9_fails 0 = .ok (.aload_n 0, 1) := by decide +kernel
theorem dX9_fails_1 : decode cX9_fails 1 = .ok (.getfield 105, 3) := by decide +kernel
theorem dX9_fails_4 : decode cX9_fails 4 = .ok (.aload_n 0, 1) := by decide +kernel
theorem dX9_fails_5 : decode cX9_fails 5 = .ok (.getfield 184, 3) := by decide +kernel
theorem dX9_fails_8 : decode cX9_fails 8 = .ok (.dup2, 1) := by decide +kernel
theorem dX9_fails_9 : decode cX9_fails 9 = .ok (.iaload, 1) := by decide +kernel
theorem dX9_fails_10 : decode cX9_fails 10 = .ok (.iconst 1, 1) := by decide +kernel
theorem dX9_fails_11 : decode cX9_fails 11 = .ok (.iadd, 1) := by decide +kernel
theorem dX9_fails_12 : decode cX9_fails 12 = .ok (.iastore, 1) := by decide +kernel
theorem dX9_fails_13 : decode cX9_fails 13 = .ok (.aload_n 0, 1) := by decide +kernel
theorem dX9_fails_14 : decode cX9_fails 14 = .ok (.dup, 1) := by decide +kernel
theorem dX9_fails_15 : decode cX9_fails 15 = .ok (.getfield 207, 3) := by decide +kernel
theorem dX9_fails_18 : decode cX9_fails 18 = .ok (.iconst 1, 1) := by decide +kernel
theorem dX9_fails_19 : decode cX9_fails 19 = .ok (.iadd, 1) := by decide +kernel
theorem dX9_fails_20 : decode cX9_fails 20 = .ok (.putfield 207, 3) := by decide +kernel
theorem dX9_fails_23 : decode cX9_fails 23 = .ok (.aload_n 0, 1) := by decide +kernel
theorem dX9_fails_24 : decode cX9_fails 24 = .ok (.getfield 86, 3) := by decide +kernel
theorem dX9_fails_27 : decode cX9_fails 27 = .ok (.iload_n 1, 1) := by decide +kernel
theorem dX9_fails_28 : decode cX9_fails 28 = .ok (.iaload, 1) := by decide +kernel
theorem dX9_fails_29 : decode cX9_fails 29 = .ok (.iconst 1, 1) := by decide +kernel
theorem dX9_fails_30 : decode cX9_fails 30 = .ok (.isub, 1) := by decide +kernel
theorem dX9_fails_31 : decode cX9_fails 31 = .ok (.istore_n 2, 1) := by decide +kernel
theorem dX9_fails_32 : decode cX9_fails 32 = .ok (.iload_n 2, 1) := by decide +kernel
theorem dX9_fails_33 : decode cX9_fails 33 = .ok (.ifCond .lt 30, 3) := by decide +kernel
theorem dX9_fails_36 : decode cX9_fails 36 = .ok (.aload_n 0, 1) := by decide +kernel
theorem dX9_fails_37 : decode cX9_fails 37 = .ok (.getfield 92, 3) := by decide +kernel
theorem dX9_fails_40 : decode cX9_fails 40 = .ok (.bipush 8, 2) := by decide +kernel
theorem dX9_fails_42 : decode cX9_fails 42 = .ok (.iload_n 1, 1) := by decide +kernel
theorem dX9_fails_43 : decode cX9_fails 43 = .ok (.imul, 1) := by decide +kernel
theorem dX9_fails_44 : decode cX9_fails 44 = .ok (.iload_n 2, 1) := by decide +kernel
theorem dX9_fails_45 : decode cX9_fails 45 = .ok (.iadd, 1) := by decide +kernel
theorem dX9_fails_46 : decode cX9_fails 46 = .ok (.iaload, 1) := by decide +kernel
theorem dX9_fails_47 : decode cX9_fails 47 = .ok (.aload_n 0, 1) := by decide +kernel
theorem dX9_fails_48 : decode cX9_fails 48 = .ok (.getfield 184, 3) := by decide +kernel
theorem dX9_fails_51 : decode cX9_fails 51 = .ok (.ishr, 1) := by decide +kernel
theorem dX9_fails_52 : decode cX9_fails 52 = .ok (.iconst 1, 1) := by decide +kernel
theorem dX9_fails_53 : decode cX9_fails 53 = .ok (.iand, 1) := by decide +kernel
theorem dX9_fails_54 : decode cX9_fails 54 = .ok (.ifCond .ne 9, 3) := by decide +kernel
theorem dX9_fails_57 : decode cX9_fails 57 = .ok (.iinc 2 (-1), 3) := by decide +kernel
theorem dX9_fails_60 : decode cX9_fails 60 = .ok (.goto (-28), 3) := by decide +kernel
theorem dX9_fails_63 : decode cX9_fails 63 = .ok (.iload_n 2, 1) := by decide +kernel
theorem dX9_fails_64 : decode cX9_fails 64 = .ok (.ifCond .ge 17, 3) := by decide +kernel
theorem dX9_fails_67 : decode cX9_fails 67 = .ok (.aload_n 0, 1) := by decide +kernel
theorem dX9_fails_68 : decode cX9_fails 68 = .ok (.iload_n 1, 1) := by decide +kernel
theorem dX9_fails_69 : decode cX9_fails 69 = .ok (.aload_n 0, 1) := by decide +kernel
theorem dX9_fails_70 : decode cX9_fails 70 = .ok (.getfield 184, 3) := by decide +kernel
theorem dX9_fails_73 : decode cX9_fails 73 = .ok (.aload_n 0, 1) := by decide +kernel
theorem dX9_fails_74 : decode cX9_fails 74 = .ok (.getfield 187, 3) := by decide +kernel
theorem dX9_fails_77 : decode cX9_fails 77 = .ok (.invokevirtual 190, 3) := by decide +kernel
theorem dX9_fails_80 : decode cX9_fails 80 = .ok (.return_, 1) := by decide +kernel
theorem dX9_fails_81 : decode cX9_fails 81 = .ok (.aload_n 0, 1) := by decide +kernel
theorem dX9_fails_82 : decode cX9_fails 82 = .ok (.getfield 86, 3) := by decide +kernel
theorem dX9_fails_85 : decode cX9_fails 85 = .ok (.iload_n 1, 1) := by decide +kernel
theorem dX9_fails_86 : decode cX9_fails 86 = .ok (.iload_n 2, 1) := by decide +kernel
theorem dX9_fails_87 : decode cX9_fails 87 = .ok (.iastore, 1) := by decide +kernel
theorem dX9_fails_88 : decode cX9_fails 88 = .ok (.aload_n 0, 1) := by decide +kernel
theorem dX9_fails_89 : decode cX9_fails 89 = .ok (.getfield 80, 3) := by decide +kernel
theorem dX9_fails_92 : decode cX9_fails 92 = .ok (.iload_n 1, 1) := by decide +kernel
theorem dX9_fails_93 : decode cX9_fails 93 = .ok (.aload_n 0, 1) := by decide +kernel
theorem dX9_fails_94 : decode cX9_fails 94 = .ok (.getfield 184, 3) := by decide +kernel
theorem dX9_fails_97 : decode cX9_fails 97 = .ok (.iastore, 1) := by decide +kernel
theorem dX9_fails_98 : decode cX9_fails 98 = .ok (.aload_n 0, 1) := by decide +kernel
theorem dX9_fails_99 : decode cX9_fails 99 = .ok (.getfield 83, 3) := by decide +kernel
theorem dX9_fails_102 : decode cX9_fails 102 = .ok (.iload_n 1, 1) := by decide +kernel
theorem dX9_fails_103 : decode cX9_fails 103 = .ok (.aload_n 0, 1) := by decide +kernel
theorem dX9_fails_104 : decode cX9_fails 104 = .ok (.getfield 187, 3) := by decide +kernel
theorem dX9_fails_107 : decode cX9_fails 107 = .ok (.iastore, 1) := by decide +kernel
theorem dX9_fails_108 : decode cX9_fails 108 = .ok (.aload_n 0, 1) := by decide +kernel
theorem dX9_fails_109 : decode cX9_fails 109 = .ok (.dup, 1) := by decide +kernel
theorem dX9_fails_110 : decode cX9_fails 110 = .ok (.getfield 210, 3) := by decide +kernel
theorem dX9_fails_113 : decode cX9_fails 113 = .ok (.iconst 1, 1) := by decide +kernel
theorem dX9_fails_114 : decode cX9_fails 114 = .ok (.iadd, 1) := by decide +kernel
theorem dX9_fails_115 : decode cX9_fails 115 = .ok (.putfield 210, 3) := by decide +kernel
theorem dX9_fails_118 : decode cX9_fails 118 = .ok (.aload_n 0, 1) := by decide +kernel
theorem dX9_fails_119 : decode cX9_fails 119 = .ok (.iload_n 1, 1) := by decide +kernel
theorem dX9_fails_120 : decode cX9_fails 120 = .ok (.aload_n 0, 1) := by decide +kernel
theorem dX9_fails_121 : decode cX9_fails 121 = .ok (.getfield 89, 3) := by decide +kernel
theorem dX9_fails_124 : decode cX9_fails 124 = .ok (.bipush 8, 2) := by decide +kernel
theorem dX9_fails_126 : decode cX9_fails 126 = .ok (.iload_n 1, 1) := by decide +kernel
theorem dX9_fails_127 : decode cX9_fails 127 = .ok (.imul, 1) := by decide +kernel
theorem dX9_fails_128 : decode cX9_fails 128 = .ok (.iload_n 2, 1) := by decide +kernel
theorem dX9_fails_129 : decode cX9_fails 129 = .ok (.iadd, 1) := by decide +kernel
theorem dX9_fails_130 : decode cX9_fails 130 = .ok (.iaload, 1) := by decide +kernel
theorem dX9_fails_131 : decode cX9_fails 131 = .ok (.invokevirtual 213, 3) := by decide +kernel
theorem dX9_fails_134 : decode cX9_fails 134 = .ok (.return_, 1) := by decide +kernel
theorem dX9_goesTo_0 : decode cX9_goesTo 0 = .ok (.aload_n 0, 1) := by decide +kernel
theorem dX9_goesTo_1 : decode cX9_goesTo 1 = .ok (.getfield 34, 3) := by decide +kernel
theorem dX9_goesTo_4 : decode cX9_goesTo 4 = .ok (.aload_n 0, 1) := by decide +kernel
theorem dX9_goesTo_5 : decode cX9_goesTo 5 = .ok (.getfield 43, 3) := by decide +kernel
theorem dX9_goesTo_8 : decode cX9_goesTo 8 = .ok (.iload_n 1, 1) := by decide +kernel
theorem dX9_goesTo_9 : decode cX9_goesTo 9 = .ok (.iaload, 1) := by decide +kernel
theorem dX9_goesTo_10 : decode cX9_goesTo 10 = .ok (.iaload, 1) := by decide +kernel
theorem dX9_goesTo_11 : decode cX9_goesTo 11 = .ok (.istore_n 3, 1) := by decide +kernel
theorem dX9_goesTo_12 : decode cX9_goesTo 12 = .ok (.aload_n 0, 1) := by decide +kernel
theorem dX9_goesTo_13 : decode cX9_goesTo 13 = .ok (.getfield 49, 3) := by decide +kernel
theorem dX9_goesTo_16 : decode cX9_goesTo 16 = .ok (.iload_n 1, 1) := by decide +kernel
theorem dX9_goesTo_17 : decode cX9_goesTo 17 = .ok (.iload_n 2, 1) := by decide +kernel
theorem dX9_goesTo_18 : decode cX9_goesTo 18 = .ok (.iload_n 3, 1) := by decide +kernel
theorem dX9_goesTo_19 : decode cX9_goesTo 19 = .ok (.if_icmp .le 7, 3) := by decide +kernel
theorem dX9_goesTo_22 : decode cX9_goesTo 22 = .ok (.iload_n 3, 1) := by decide +kernel
theorem dX9_goesTo_23 : decode cX9_goesTo 23 = .ok (.goto 4, 3) := by decide +kernel
theorem dX9_goesTo_26 : decode cX9_goesTo 26 = .ok (.iload_n 2, 1) := by decide +kernel
theorem dX9_goesTo_27 : decode cX9_goesTo 27 = .ok (.iastore, 1) := by decide +kernel
theorem dX9_goesTo_28 : decode cX9_goesTo 28 = .ok (.return_, 1) := by decide +kernel
theorem dX9_turn_0 : decode cX9_turn 0 = .ok (.aload_n 0, 1) := by decide +kernel
theorem dX9_turn_1 : decode cX9_turn 1 = .ok (.getfield 207, 3) := by decide +kernel
theorem dX9_turn_4 : decode cX9_turn 4 = .ok (.sipush 3000, 3) := by decide +kernel
theorem dX9_turn_7 : decode cX9_turn 7 = .ok (.if_icmp .lt 6, 3) := by decide +kernel
theorem dX9_turn_10 : decode cX9_turn 10 = .ok (.bipush (-3), 2) := by decide +kernel
theorem dX9_turn_12 : decode cX9_turn 12 = .ok (.ireturn, 1) := by decide +kernel
theorem dX9_turn_13 : decode cX9_turn 13 = .ok (.aload_n 0, 1) := by decide +kernel
theorem dX9_turn_14 : decode cX9_turn 14 = .ok (.invokevirtual 216, 3) := by decide +kernel
theorem dX9_turn_17 : decode cX9_turn 17 = .ok (.istore_n 1, 1) := by decide +kernel
theorem dX9_turn_18 : decode cX9_turn 18 = .ok (.iload_n 1, 1) := by decide +kernel
theorem dX9_turn_19 : decode cX9_turn 19 = .ok (.ifCond .ge 7, 3) := by decide +kernel
theorem dX9_turn_22 : decode cX9_turn 22 = .ok (.iload_n 1, 1) := by decide +kernel
theorem dX9_turn_23 : decode cX9_turn 23 = .ok (.goto 7, 3) := by decide +kernel
theorem dX9_turn_26 : decode cX9_turn 26 = .ok (.aload_n 0, 1) := by decide +kernel
theorem dX9_turn_27 : decode cX9_turn 27 = .ok (.invokevirtual 219, 3) := by decide +kernel
theorem dX9_turn_30 : decode cX9_turn 30 = .ok (.ireturn, 1) := by decide +kernel
theorem dX9_run_0 : decode cX9_run 0 = .ok (.iload_n 1, 1) := by decide +kernel
theorem dX9_run_1 : decode cX9_run 1 = .ok (.iconst 1, 1) := by decide +kernel
theorem dX9_run_2 : decode cX9_run 2 = .ok (.bipush 60, 2) := by decide +kernel
theorem dX9_run_4 : decode cX9_run 4 = .ok (.invokestatic 114, 3) := by decide +kernel
theorem dX9_run_7 : decode cX9_run 7 = .ok (.ifCond .ne 5, 3) := by decide +kernel
theorem dX9_run_10 : decode cX9_run 10 = .ok (.iconst (-1), 1) := by decide +kernel
theorem dX9_run_11 : decode cX9_run 11 = .ok (.ireturn, 1) := by decide +kernel
theorem dX9_run_12 : decode cX9_run 12 = .ok (.aload_n 0, 1) := by decide +kernel
theorem dX9_run_13 : decode cX9_run 13 = .ok (.getfield 207, 3) := by decide +kernel
theorem dX9_run_16 : decode cX9_run 16 = .ok (.sipush 3000, 3) := by decide +kernel
theorem dX9_run_19 : decode cX9_run 19 = .ok (.if_icmp .lt 6, 3) := by decide +kernel
theorem dX9_run_22 : decode cX9_run 22 = .ok (.bipush (-3), 2) := by decide +kernel
theorem dX9_run_24 : decode cX9_run 24 = .ok (.ireturn, 1) := by decide +kernel
theorem dX9_run_25 : decode cX9_run 25 = .ok (.iconst 0, 1) := by decide +kernel
theorem dX9_run_26 : decode cX9_run 26 = .ok (.istore_n 2, 1) := by decide +kernel
theorem dX9_run_27 : decode cX9_run 27 = .ok (.iload_n 2, 1) := by decide +kernel
theorem dX9_run_28 : decode cX9_run 28 = .ok (.iload_n 1, 1) := by decide +kernel
theorem dX9_run_29 : decode cX9_run 29 = .ok (.if_icmp .ge 21, 3) := by decide +kernel
theorem dX9_run_32 : decode cX9_run 32 = .ok (.aload_n 0, 1) := by decide +kernel
theorem dX9_run_33 : decode cX9_run 33 = .ok (.invokevirtual 216, 3) := by decide +kernel
theorem dX9_run_36 : decode cX9_run 36 = .ok (.ifCond .ne 14, 3) := by decide +kernel
theorem dX9_run_39 : decode cX9_run 39 = .ok (.aload_n 0, 1) := by decide +kernel
theorem dX9_run_40 : decode cX9_run 40 = .ok (.invokevirtual 219, 3) := by decide +kernel
theorem dX9_run_43 : decode cX9_run 43 = .ok (.istore_n 3, 1) := by decide +kernel
theorem dX9_run_44 : decode cX9_run 44 = .ok (.iinc 2 1, 3) := by decide +kernel
theorem dX9_run_47 : decode cX9_run 47 = .ok (.goto (-20), 3) := by decide +kernel
theorem dX9_run_50 : decode cX9_run 50 = .ok (.iload_n 2, 1) := by decide +kernel
theorem dX9_run_51 : decode cX9_run 51 = .ok (.ireturn, 1) := by decide +kernel
theorem dX9_bad_0 : decode cX9_bad 0 = .ok (.aload_n 0, 1) := by decide +kernel
theorem dX9_bad_1 : decode cX9_bad 1 = .ok (.iload_n 1, 1) := by decide +kernel
theorem dX9_bad_2 : decode cX9_bad 2 = .ok (.putfield 184, 3) := by decide +kernel
theorem dX9_bad_5 : decode cX9_bad 5 = .ok (.return_, 1) := by decide +kernel
theorem dX9_does_0 : decode cX9_does 0 = .ok (.aload_n 0, 1) := by decide +kernel
theorem dX9_does_1 : decode cX9_does 1 = .ok (.getfield 31, 3) := by decide +kernel
theorem dX9_does_4 : decode cX9_does 4 = .ok (.iload_n 2, 1) := by decide +kernel
theorem dX9_does_5 : decode cX9_does 5 = .ok (.iaload, 1) := by decide +kernel
theorem dX9_does_6 : decode cX9_does 6 = .ok (.istore_n 3, 1) := by decide +kernel
theorem dX9_does_7 : decode cX9_does 7 = .ok (.bipush 6, 2) := by decide +kernel
theorem dX9_does_9 : decode cX9_does 9 = .ok (.iload_n 1, 1) := by decide +kernel
theorem dX9_does_10 : decode cX9_does 10 = .ok (.imul, 1) := by decide +kernel
theorem dX9_does_11 : decode cX9_does 11 = .ok (.aload_n 0, 1) := by decide +kernel
theorem dX9_does_12 : decode cX9_does 12 = .ok (.getfield 31, 3) := by decide +kernel
theorem dX9_does_15 : decode cX9_does 15 = .ok (.iload_n 2, 1) := by decide +kernel
theorem dX9_does_16 : decode cX9_does 16 = .ok (.iconst 1, 1) := by decide +kernel
theorem dX9_does_17 : decode cX9_does 17 = .ok (.iadd, 1) := by decide +kernel
theorem dX9_does_18 : decode cX9_does 18 = .ok (.iaload, 1) := by decide +kernel
theorem dX9_does_19 : decode cX9_does 19 = .ok (.iadd, 1) := by decide +kernel
theorem dX9_does_20 : decode cX9_does 20 = .ok (.istore 4, 2) := by decide +kernel
theorem dX9_does_22 : decode cX9_does 22 = .ok (.aload_n 0, 1) := by decide +kernel
theorem dX9_does_23 : decode cX9_does 23 = .ok (.getfield 31, 3) := by decide +kernel
theorem dX9_does_26 : decode cX9_does 26 = .ok (.iload_n 2, 1) := by decide +kernel
theorem dX9_does_27 : decode cX9_does 27 = .ok (.iconst 2, 1) := by decide +kernel
theorem dX9_does_28 : decode cX9_does 28 = .ok (.iadd, 1) := by decide +kernel
theorem dX9_does_29 : decode cX9_does 29 = .ok (.iaload, 1) := by decide +kernel
theorem dX9_does_30 : decode cX9_does 30 = .ok (.istore 5, 2) := by decide +kernel
theorem dX9_does_32 : decode cX9_does 32 = .ok (.aload_n 0, 1) := by decide +kernel
theorem dX9_does_33 : decode cX9_does 33 = .ok (.getfield 31, 3) := by decide +kernel
theorem dX9_does_36 : decode cX9_does 36 = .ok (.iload_n 2, 1) := by decide +kernel
theorem dX9_does_37 : decode cX9_does 37 = .ok (.iconst 3, 1) := by decide +kernel
theorem dX9_does_38 : decode cX9_does 38 = .ok (.iadd, 1) := by decide +kernel
theorem dX9_does_39 : decode cX9_does 39 = .ok (.iaload, 1) := by decide +kernel
theorem dX9_does_40 : decode cX9_does 40 = .ok (.istore 6, 2) := by decide +kernel
theorem dX9_does_42 : decode cX9_does 42 = .ok (.iload_n 3, 1) := by decide +kernel
theorem dX9_does_43 : decode cX9_does 43 = .ok (.bipush 8, 2) := by decide +kernel
theorem dX9_does_45 : decode cX9_does 45 = .ok (.if_icmp .ge 24, 3) := by decide +kernel
theorem dX9_does_48 : decode cX9_does 48 = .ok (.aload_n 0, 1) := by decide +kernel
theorem dX9_does_49 : decode cX9_does 49 = .ok (.iload_n 1, 1) := by decide +kernel
theorem dX9_does_50 : decode cX9_does 50 = .ok (.iload_n 3, 1) := by decide +kernel
theorem dX9_does_51 : decode cX9_does 51 = .ok (.aload_n 0, 1) := by decide +kernel
theorem dX9_does_52 : decode cX9_does 52 = .ok (.getfield 31, 3) := by decide +kernel
theorem dX9_does_55 : decode cX9_does 55 = .ok (.iload_n 2, 1) := by decide +kernel
theorem dX9_does_56 : decode cX9_does 56 = .ok (.iconst 1, 1) := by decide +kernel
theorem dX9_does_57 : decode cX9_does 57 = .ok (.iadd, 1) := by decide +kernel
theorem dX9_does_58 : decode cX9_does 58 = .ok (.iaload, 1) := by decide +kernel
theorem dX9_does_59 : decode cX9_does 59 = .ok (.iload 5, 2) := by decide +kernel
theorem dX9_does_61 : decode cX9_does 61 = .ok (.iload 6, 2) := by decide +kernel
theorem dX9_does_63 : decode cX9_does 63 = .ok (.invokevirtual 222, 3) := by decide +kernel
theorem dX9_does_66 : decode cX9_does 66 = .ok (.goto 121, 3) := by decide +kernel
theorem dX9_does_69 : decode cX9_does 69 = .ok (.iload_n 3, 1) := by decide +kernel
theorem dX9_does_70 : decode cX9_does 70 = .ok (.bipush 12, 2) := by decide +kernel
theorem dX9_does_72 : decode cX9_does 72 = .ok (.if_icmp .ge 18, 3) := by decide +kernel
theorem dX9_does_75 : decode cX9_does 75 = .ok (.aload_n 0, 1) := by decide +kernel
theorem dX9_does_76 : decode cX9_does 76 = .ok (.iload_n 1, 1) := by decide +kernel
theorem dX9_does_77 : decode cX9_does 77 = .ok (.iload_n 3, 1) := by decide +kernel
theorem dX9_does_78 : decode cX9_does 78 = .ok (.iload 4, 2) := by decide +kernel
theorem dX9_does_80 : decode cX9_does 80 = .ok (.iload 5, 2) := by decide +kernel
theorem dX9_does_82 : decode cX9_does 82 = .ok (.iload 6, 2) := by decide +kernel
theorem dX9_does_84 : decode cX9_does 84 = .ok (.invokevirtual 226, 3) := by decide +kernel
theorem dX9_does_87 : decode cX9_does 87 = .ok (.goto 100, 3) := by decide +kernel
theorem dX9_does_90 : decode cX9_does 90 = .ok (.iload_n 3, 1) := by decide +kernel
theorem dX9_does_91 : decode cX9_does 91 = .ok (.bipush 16, 2) := by decide +kernel
theorem dX9_does_93 : decode cX9_does 93 = .ok (.if_icmp .ge 16, 3) := by decide +kernel
theorem dX9_does_96 : decode cX9_does 96 = .ok (.aload_n 0, 1) := by decide +kernel
theorem dX9_does_97 : decode cX9_does 97 = .ok (.iload_n 1, 1) := by decide +kernel
theorem dX9_does_98 : decode cX9_does 98 = .ok (.iload_n 3, 1) := by decide +kernel
theorem dX9_does_99 : decode cX9_does 99 = .ok (.iload 4, 2) := by decide +kernel
theorem dX9_does_101 : decode cX9_does 101 = .ok (.iload 5, 2) := by decide +kernel
theorem dX9_does_103 : decode cX9_does 103 = .ok (.invokevirtual 229, 3) := by decide +kernel
theorem dX9_does_106 : decode cX9_does 106 = .ok (.goto 81, 3) := by decide +kernel
theorem dX9_does_109 : decode cX9_does 109 = .ok (.iload_n 3, 1) := by decide +kernel
theorem dX9_does_110 : decode cX9_does 110 = .ok (.bipush 22, 2) := by decide +kernel
theorem dX9_does_112 : decode cX9_does 112 = .ok (.if_icmp .ge 18, 3) := by decide +kernel
theorem dX9_does_115 : decode cX9_does 115 = .ok (.aload_n 0, 1) := by decide +kernel
theorem dX9_does_116 : decode cX9_does 116 = .ok (.iload_n 1, 1) := by decide +kernel
theorem dX9_does_117 : decode cX9_does 117 = .ok (.iload_n 3, 1) := by decide +kernel
theorem dX9_does_118 : decode cX9_does 118 = .ok (.iload 4, 2) := by decide +kernel
theorem dX9_does_120 : decode cX9_does 120 = .ok (.iload 5, 2) := by decide +kernel
theorem dX9_does_122 : decode cX9_does 122 = .ok (.iload 6, 2) := by decide +kernel
theorem dX9_does_124 : decode cX9_does 124 = .ok (.invokevirtual 233, 3) := by decide +kernel
theorem dX9_does_127 : decode cX9_does 127 = .ok (.goto 60, 3) := by decide +kernel
theorem dX9_does_130 : decode cX9_does 130 = .ok (.iload_n 3, 1) := by decide +kernel
theorem dX9_does_131 : decode cX9_does 131 = .ok (.bipush 27, 2) := by decide +kernel
theorem dX9_does_133 : decode cX9_does 133 = .ok (.if_icmp .ge 16, 3) := by decide +kernel
theorem dX9_does_136 : decode cX9_does 136 = .ok (.aload_n 0, 1) := by decide +kernel
theorem dX9_does_137 : decode cX9_does 137 = .ok (.iload_n 1, 1) := by decide +kernel
theorem dX9_does_138 : decode cX9_does 138 = .ok (.iload_n 3, 1) := by decide +kernel
theorem dX9_does_139 : decode cX9_does 139 = .ok (.iload 4, 2) := by decide +kernel
theorem dX9_does_141 : decode cX9_does 141 = .ok (.iload 5, 2) := by decide +kernel
theorem dX9_does_143 : decode cX9_does 143 = .ok (.invokevirtual 236, 3) := by decide +kernel
theorem dX9_does_146 : decode cX9_does 146 = .ok (.goto 41, 3) := by decide +kernel
theorem dX9_does_149 : decode cX9_does 149 = .ok (.iload_n 3, 1) := by decide +kernel
theorem dX9_does_150 : decode cX9_does 150 = .ok (.bipush 31, 2) := by decide +kernel
theorem dX9_does_152 : decode cX9_does 152 = .ok (.if_icmp .ge 19, 3) := by decide +kernel
theorem dX9_does_155 : decode cX9_does 155 = .ok (.aload_n 0, 1) := by decide +kernel
theorem dX9_does_156 : decode cX9_does 156 = .ok (.iload_n 1, 1) := by decide +kernel
theorem dX9_does_157 : decode cX9_does 157 = .ok (.iload_n 3, 1) := by decide +kernel
theorem dX9_does_158 : decode cX9_does 158 = .ok (.aload_n 0, 1) := by decide +kernel
theorem dX9_does_159 : decode cX9_does 159 = .ok (.getfield 95, 3) := by decide +kernel
theorem dX9_does_162 : decode cX9_does 162 = .ok (.iload 4, 2) := by decide +kernel
theorem dX9_does_164 : decode cX9_does 164 = .ok (.iaload, 1) := by decide +kernel
theorem dX9_does_165 : decode cX9_does 165 = .ok (.invokevirtual 239, 3) := by decide +kernel
theorem dX9_does_168 : decode cX9_does 168 = .ok (.goto 19, 3) := by decide +kernel
theorem dX9_does_171 : decode cX9_does 171 = .ok (.aload_n 0, 1) := by decide +kernel
theorem dX9_does_172 : decode cX9_does 172 = .ok (.iload_n 1, 1) := by decide +kernel
theorem dX9_does_173 : decode cX9_does 173 = .ok (.iload_n 3, 1) := by decide +kernel
theorem dX9_does_174 : decode cX9_does 174 = .ok (.aload_n 0, 1) := by decide +kernel
theorem dX9_does_175 : decode cX9_does 175 = .ok (.getfield 31, 3) := by decide +kernel
theorem dX9_does_178 : decode cX9_does 178 = .ok (.iload_n 2, 1) := by decide +kernel
theorem dX9_does_179 : decode cX9_does 179 = .ok (.iconst 1, 1) := by decide +kernel
theorem dX9_does_180 : decode cX9_does 180 = .ok (.iadd, 1) := by decide +kernel
theorem dX9_does_181 : decode cX9_does 181 = .ok (.iaload, 1) := by decide +kernel
theorem dX9_does_182 : decode cX9_does 182 = .ok (.iload 5, 2) := by decide +kernel
theorem dX9_does_184 : decode cX9_does 184 = .ok (.invokevirtual 242, 3) := by decide +kernel
theorem dX9_does_187 : decode cX9_does 187 = .ok (.return_, 1) := by decide +kernel
theorem dX9_numbers_0 : decode cX9_numbers 0 = .ok (.bipush 6, 2) := by decide +kernel
theorem dX9_numbers_2 : decode cX9_numbers 2 = .ok (.iload_n 1, 1) := by decide +kernel
theorem dX9_numbers_3 : decode cX9_numbers 3 = .ok (.imul, 1) := by decide +kernel
theorem dX9_numbers_4 : decode cX9_numbers 4 = .ok (.iload_n 3, 1) := by decide +kernel
theorem dX9_numbers_5 : decode cX9_numbers 5 = .ok (.iadd, 1) := by decide +kernel
theorem dX9_numbers_6 : decode cX9_numbers 6 = .ok (.istore 6, 2) := by decide +kernel
theorem dX9_numbers_8 : decode cX9_numbers 8 = .ok (.bipush 6, 2) := by decide +kernel
theorem dX9_numbers_10 : decode cX9_numbers 10 = .ok (.iload_n 1, 1) := by decide +kernel
theorem dX9_numbers_11 : decode cX9_numbers 11 = .ok (.imul, 1) := by decide +kernel
theorem dX9_numbers_12 : decode cX9_numbers 12 = .ok (.iload 4, 2) := by decide +kernel
theorem dX9_numbers_14 : decode cX9_numbers 14 = .ok (.iadd, 1) := by decide +kernel
theorem dX9_numbers_15 : decode cX9_numbers 15 = .ok (.istore 7, 2) := by decide +kernel
theorem dX9_numbers_17 : decode cX9_numbers 17 = .ok (.iload_n 2, 1) := by decide +kernel
theorem dX9_numbers_18 : decode cX9_numbers 18 = .ok (.tableswitch 213 0 5 #[38, 50, 70, 90, 110, 176], 38) := by decide +kernel
theorem dX9_numbers_56 : decode cX9_numbers 56 = .ok (.aload_n 0, 1) := by decide +kernel
theorem dX9_numbers_57 : decode cX9_numbers 57 = .ok (.getfield 95, 3) := by decide +kernel
theorem dX9_numbers_60 : decode cX9_numbers 60 = .ok (.iload 6, 2) := by decide +kernel
theorem dX9_numbers_62 : decode cX9_numbers 62 = .ok (.iload 4, 2) := by decide +kernel
theorem dX9_numbers_64 : decode cX9_numbers 64 = .ok (.iastore, 1) := by decide +kernel
theorem dX9_numbers_65 : decode cX9_numbers 65 = .ok (.goto 188, 3) := by decide +kernel
theorem dX9_numbers_68 : decode cX9_numbers 68 = .ok (.aload_n 0, 1) := by decide +kernel
theorem dX9_numbers_69 : decode cX9_numbers 69 = .ok (.getfield 95, 3) := by decide +kernel
theorem dX9_numbers_72 : decode cX9_numbers 72 = .ok (.iload 6, 2) := by decide +kernel
theorem dX9_numbers_74 : decode cX9_numbers 74 = .ok (.dup2, 1) := by decide +kernel
theorem dX9_numbers_75 : decode cX9_numbers 75 = .ok (.iaload, 1) := by decide +kernel
theorem dX9_numbers_76 : decode cX9_numbers 76 = .ok (.aload_n 0, 1) := by decide +kernel
theorem dX9_numbers_77 : decode cX9_numbers 77 = .ok (.getfield 95, 3) := by decide +kernel
theorem dX9_numbers_80 : decode cX9_numbers 80 = .ok (.iload 7, 2) := by decide +kernel
theorem dX9_numbers_82 : decode cX9_numbers 82 = .ok (.iaload, 1) := by decide +kernel
theorem dX9_numbers_83 : decode cX9_numbers 83 = .ok (.iadd, 1) := by decide +kernel
theorem dX9_numbers_84 : decode cX9_numbers 84 = .ok (.iastore, 1) := by decide +kernel
theorem dX9_numbers_85 : decode cX9_numbers 85 = .ok (.goto 168, 3) := by decide +kernel
theorem dX9_numbers_88 : decode cX9_numbers 88 = .ok (.aload_n 0, 1) := by decide +kernel
theorem dX9_numbers_89 : decode cX9_numbers 89 = .ok (.getfield 95, 3) := by decide +kernel
theorem dX9_numbers_92 : decode cX9_numbers 92 = .ok (.iload 6, 2) := by decide +kernel
theorem dX9_numbers_94 : decode cX9_numbers 94 = .ok (.dup2, 1) := by decide +kernel
theorem dX9_numbers_95 : decode cX9_numbers 95 = .ok (.iaload, 1) := by decide +kernel
theorem dX9_numbers_96 : decode cX9_numbers 96 = .ok (.aload_n 0, 1) := by decide +kernel
theorem dX9_numbers_97 : decode cX9_numbers 97 = .ok (.getfield 95, 3) := by decide +kernel
theorem dX9_numbers_100 : decode cX9_numbers 100 = .ok (.iload 7, 2) := by decide +kernel
theorem dX9_numbers_102 : decode cX9_numbers 102 = .ok (.iaload, 1) := by decide +kernel
theorem dX9_numbers_103 : decode cX9_numbers 103 = .ok (.isub, 1) := by decide +kernel
theorem dX9_numbers_104 : decode cX9_numbers 104 = .ok (.iastore, 1) := by decide +kernel
theorem dX9_numbers_105 : decode cX9_numbers 105 = .ok (.goto 148, 3) := by decide +kernel
theorem dX9_numbers_108 : decode cX9_numbers 108 = .ok (.aload_n 0, 1) := by decide +kernel
theorem dX9_numbers_109 : decode cX9_numbers 109 = .ok (.getfield 95, 3) := by decide +kernel
theorem dX9_numbers_112 : decode cX9_numbers 112 = .ok (.iload 6, 2) := by decide +kernel
theorem dX9_numbers_114 : decode cX9_numbers 114 = .ok (.dup2, 1) := by decide +kernel
theorem dX9_numbers_115 : decode cX9_numbers 115 = .ok (.iaload, 1) := by decide +kernel
theorem dX9_numbers_116 : decode cX9_numbers 116 = .ok (.aload_n 0, 1) := by decide +kernel
theorem dX9_numbers_117 : decode cX9_numbers 117 = .ok (.getfield 95, 3) := by decide +kernel
theorem dX9_numbers_120 : decode cX9_numbers 120 = .ok (.iload 7, 2) := by decide +kernel
theorem dX9_numbers_122 : decode cX9_numbers 122 = .ok (.iaload, 1) := by decide +kernel
theorem dX9_numbers_123 : decode cX9_numbers 123 = .ok (.imul, 1) := by decide +kernel
theorem dX9_numbers_124 : decode cX9_numbers 124 = .ok (.iastore, 1) := by decide +kernel
theorem dX9_numbers_125 : decode cX9_numbers 125 = .ok (.goto 128, 3) := by decide +kernel
theorem dX9_numbers_128 : decode cX9_numbers 128 = .ok (.aload_n 0, 1) := by decide +kernel
theorem dX9_numbers_129 : decode cX9_numbers 129 = .ok (.getfield 95, 3) := by decide +kernel
theorem dX9_numbers_132 : decode cX9_numbers 132 = .ok (.iload 7, 2) := by decide +kernel
theorem dX9_numbers_134 : decode cX9_numbers 134 = .ok (.iaload, 1) := by decide +kernel
theorem dX9_numbers_135 : decode cX9_numbers 135 = .ok (.ifCond .ne 12, 3) := by decide +kernel
theorem dX9_numbers_138 : decode cX9_numbers 138 = .ok (.aload_n 0, 1) := by decide +kernel
theorem dX9_numbers_139 : decode cX9_numbers 139 = .ok (.bipush 6, 2) := by decide +kernel
theorem dX9_numbers_141 : decode cX9_numbers 141 = .ok (.invokevirtual 245, 3) := by decide +kernel
theorem dX9_numbers_144 : decode cX9_numbers 144 = .ok (.goto 109, 3) := by decide +kernel
theorem dX9_numbers_147 : decode cX9_numbers 147 = .ok (.aload_n 0, 1) := by decide +kernel
theorem dX9_numbers_148 : decode cX9_numbers 148 = .ok (.getfield 95, 3) := by decide +kernel
theorem dX9_numbers_151 : decode cX9_numbers 151 = .ok (.iload 6, 2) := by decide +kernel
theorem dX9_numbers_153 : decode cX9_numbers 153 = .ok (.aload_n 0, 1) := by decide +kernel
theorem dX9_numbers_154 : decode cX9_numbers 154 = .ok (.getfield 95, 3) := by decide +kernel
theorem dX9_numbers_157 : decode cX9_numbers 157 = .ok (.iload 7, 2) := by decide +kernel
theorem dX9_numbers_159 : decode cX9_numbers 159 = .ok (.iaload, 1) := by decide +kernel
theorem dX9_numbers_160 : decode cX9_numbers 160 = .ok (.iconst (-1), 1) := by decide +kernel
theorem dX9_numbers_161 : decode cX9_numbers 161 = .ok (.if_icmp .ne 14, 3) := by decide +kernel
theorem dX9_numbers_164 : decode cX9_numbers 164 = .ok (.aload_n 0, 1) := by decide +kernel
theorem dX9_numbers_165 : decode cX9_numbers 165 = .ok (.getfield 95, 3) := by decide +kernel
theorem dX9_numbers_168 : decode cX9_numbers 168 = .ok (.iload 6, 2) := by decide +kernel
theorem dX9_numbers_170 : decode cX9_numbers 170 = .ok (.iaload, 1) := by decide +kernel
theorem dX9_numbers_171 : decode cX9_numbers 171 = .ok (.ineg, 1) := by decide +kernel
theorem dX9_numbers_172 : decode cX9_numbers 172 = .ok (.goto 18, 3) := by decide +kernel
theorem dX9_numbers_175 : decode cX9_numbers 175 = .ok (.aload_n 0, 1) := by decide +kernel
theorem dX9_numbers_176 : decode cX9_numbers 176 = .ok (.getfield 95, 3) := by decide +kernel
theorem dX9_numbers_179 : decode cX9_numbers 179 = .ok (.iload 6, 2) := by decide +kernel
theorem dX9_numbers_181 : decode cX9_numbers 181 = .ok (.iaload, 1) := by decide +kernel
theorem dX9_numbers_182 : decode cX9_numbers 182 = .ok (.aload_n 0, 1) := by decide +kernel
theorem dX9_numbers_183 : decode cX9_numbers 183 = .ok (.getfield 95, 3) := by decide +kernel
theorem dX9_numbers_186 : decode cX9_numbers 186 = .ok (.iload 7, 2) := by decide +kernel
theorem dX9_numbers_188 : decode cX9_numbers 188 = .ok (.iaload, 1) := by decide +kernel
theorem dX9_numbers_189 : decode cX9_numbers 189 = .ok (.idiv, 1) := by decide +kernel
theorem dX9_numbers_190 : decode cX9_numbers 190 = .ok (.iastore, 1) := by decide +kernel
theorem dX9_numbers_191 : decode cX9_numbers 191 = .ok (.goto 62, 3) := by decide +kernel
theorem dX9_numbers_194 : decode cX9_numbers 194 = .ok (.aload_n 0, 1) := by decide +kernel
theorem dX9_numbers_195 : decode cX9_numbers 195 = .ok (.getfield 95, 3) := by decide +kernel
theorem dX9_numbers_198 : decode cX9_numbers 198 = .ok (.iload 6, 2) := by decide +kernel
theorem dX9_numbers_200 : decode cX9_numbers 200 = .ok (.aload_n 0, 1) := by decide +kernel
theorem dX9_numbers_201 : decode cX9_numbers 201 = .ok (.getfield 95, 3) := by decide +kernel
theorem dX9_numbers_204 : decode cX9_numbers 204 = .ok (.iload 7, 2) := by decide +kernel
theorem dX9_numbers_206 : decode cX9_numbers 206 = .ok (.iaload, 1) := by decide +kernel
theorem dX9_numbers_207 : decode cX9_numbers 207 = .ok (.aload_n 0, 1) := by decide +kernel
theorem dX9_numbers_208 : decode cX9_numbers 208 = .ok (.getfield 95, 3) := by decide +kernel
theorem dX9_numbers_211 : decode cX9_numbers 211 = .ok (.bipush 6, 2) := by decide +kernel
theorem dX9_numbers_213 : decode cX9_numbers 213 = .ok (.iload_n 1, 1) := by decide +kernel
theorem dX9_numbers_214 : decode cX9_numbers 214 = .ok (.imul, 1) := by decide +kernel
theorem dX9_numbers_215 : decode cX9_numbers 215 = .ok (.iload 5, 2) := by decide +kernel
theorem dX9_numbers_217 : decode cX9_numbers 217 = .ok (.iadd, 1) := by decide +kernel
theorem dX9_numbers_218 : decode cX9_numbers 218 = .ok (.iaload, 1) := by decide +kernel
theorem dX9_numbers_219 : decode cX9_numbers 219 = .ok (.if_icmp .ge 7, 3) := by decide +kernel
theorem dX9_numbers_222 : decode cX9_numbers 222 = .ok (.iconst 1, 1) := by decide +kernel
theorem dX9_numbers_223 : decode cX9_numbers 223 = .ok (.goto 4, 3) := by decide +kernel
theorem dX9_numbers_226 : decode cX9_numbers 226 = .ok (.iconst 0, 1) := by decide +kernel
theorem dX9_numbers_227 : decode cX9_numbers 227 = .ok (.iastore, 1) := by decide +kernel
theorem dX9_numbers_228 : decode cX9_numbers 228 = .ok (.goto 25, 3) := by decide +kernel
theorem dX9_numbers_231 : decode cX9_numbers 231 = .ok (.iload_n 2, 1) := by decide +kernel
theorem dX9_numbers_232 : decode cX9_numbers 232 = .ok (.bipush 6, 2) := by decide +kernel
theorem dX9_numbers_234 : decode cX9_numbers 234 = .ok (.if_icmp .eq 13, 3) := by decide +kernel
theorem dX9_numbers_237 : decode cX9_numbers 237 = .ok (.aload_n 0, 1) := by decide +kernel
theorem dX9_numbers_238 : decode cX9_numbers 238 = .ok (.getfield 95, 3) := by decide +kernel
theorem dX9_numbers_241 : decode cX9_numbers 241 = .ok (.iload 7, 2) := by decide +kernel
theorem dX9_numbers_243 : decode cX9_numbers 243 = .ok (.iaload, 1) := by decide +kernel
theorem dX9_numbers_244 : decode cX9_numbers 244 = .ok (.ifCond .ne 9, 3) := by decide +kernel
theorem dX9_numbers_247 : decode cX9_numbers 247 = .ok (.aload_n 0, 1) := by decide +kernel
theorem dX9_numbers_248 : decode cX9_numbers 248 = .ok (.iload_n 1, 1) := by decide +kernel
theorem dX9_numbers_249 : decode cX9_numbers 249 = .ok (.iload_n 3, 1) := by decide +kernel
theorem dX9_numbers_250 : decode cX9_numbers 250 = .ok (.invokevirtual 213, 3) := by decide +kernel
theorem dX9_numbers_253 : decode cX9_numbers 253 = .ok (.return_, 1) := by decide +kernel
theorem dX9_holds_0 : decode cX9_holds 0 = .ok (.iload_n 2, 1) := by decide +kernel
theorem dX9_holds_1 : decode cX9_holds 1 = .ok (.bipush 8, 2) := by decide +kernel
theorem dX9_holds_3 : decode cX9_holds 3 = .ok (.if_icmp .ne 62, 3) := by decide +kernel
theorem dX9_holds_6 : decode cX9_holds 6 = .ok (.aload_n 0, 1) := by decide +kernel
theorem dX9_holds_7 : decode cX9_holds 7 = .ok (.getfield 95, 3) := by decide +kernel
theorem dX9_holds_10 : decode cX9_holds 10 = .ok (.bipush 6, 2) := by decide +kernel
theorem dX9_holds_12 : decode cX9_holds 12 = .ok (.iload_n 1, 1) := by decide +kernel
theorem dX9_holds_13 : decode cX9_holds 13 = .ok (.imul, 1) := by decide +kernel
theorem dX9_holds_14 : decode cX9_holds 14 = .ok (.iload 4, 2) := by decide +kernel
theorem dX9_holds_16 : decode cX9_holds 16 = .ok (.iadd, 1) := by decide +kernel
theorem dX9_holds_17 : decode cX9_holds 17 = .ok (.iaload, 1) := by decide +kernel
theorem dX9_holds_18 : decode cX9_holds 18 = .ok (.istore 6, 2) := by decide +kernel
theorem dX9_holds_20 : decode cX9_holds 20 = .ok (.iload 6, 2) := by decide +kernel
theorem dX9_holds_22 : decode cX9_holds 22 = .ok (.iconst (-1), 1) := by decide +kernel
theorem dX9_holds_23 : decode cX9_holds 23 = .ok (.if_icmp .eq 20, 3) := by decide +kernel
theorem dX9_holds_26 : decode cX9_holds 26 = .ok (.aload_n 0, 1) := by decide +kernel
theorem dX9_holds_27 : decode cX9_holds 27 = .ok (.iload 6, 2) := by decide +kernel
theorem dX9_holds_29 : decode cX9_holds 29 = .ok (.invokevirtual 122, 3) := by decide +kernel
theorem dX9_holds_32 : decode cX9_holds 32 = .ok (.ifCond .ne 11, 3) := by decide +kernel
theorem dX9_holds_35 : decode cX9_holds 35 = .ok (.aload_n 0, 1) := by decide +kernel
theorem dX9_holds_36 : decode cX9_holds 36 = .ok (.iconst 2, 1) := by decide +kernel
theorem dX9_holds_37 : decode cX9_holds 37 = .ok (.invokevirtual 245, 3) := by decide +kernel
theorem dX9_holds_40 : decode cX9_holds 40 = .ok (.goto 22, 3) := by decide +kernel
theorem dX9_holds_43 : decode cX9_holds 43 = .ok (.aload_n 0, 1) := by decide +kernel
theorem dX9_holds_44 : decode cX9_holds 44 = .ok (.getfield 98, 3) := by decide +kernel
theorem dX9_holds_47 : decode cX9_holds 47 = .ok (.iload_n 3, 1) := by decide +kernel
theorem dX9_holds_48 : decode cX9_holds 48 = .ok (.iload 6, 2) := by decide +kernel
theorem dX9_holds_50 : decode cX9_holds 50 = .ok (.iconst (-1), 1) := by decide +kernel
theorem dX9_holds_51 : decode cX9_holds 51 = .ok (.if_icmp .ne 8, 3) := by decide +kernel
theorem dX9_holds_54 : decode cX9_holds 54 = .ok (.bipush (-4), 2) := by decide +kernel
theorem dX9_holds_56 : decode cX9_holds 56 = .ok (.goto 5, 3) := by decide +kernel
theorem dX9_holds_59 : decode cX9_holds 59 = .ok (.iload 6, 2) := by decide +kernel
theorem dX9_holds_61 : decode cX9_holds 61 = .ok (.iastore, 1) := by decide +kernel
theorem dX9_holds_62 : decode cX9_holds 62 = .ok (.goto 155, 3) := by decide +kernel
theorem dX9_holds_65 : decode cX9_holds 65 = .ok (.iload_n 2, 1) := by decide +kernel
theorem dX9_holds_66 : decode cX9_holds 66 = .ok (.bipush 9, 2) := by decide +kernel
theorem dX9_holds_68 : decode cX9_holds 68 = .ok (.if_icmp .ne 84, 3) := by decide +kernel
theorem dX9_holds_71 : decode cX9_holds 71 = .ok (.aload_n 0, 1) := by decide +kernel
theorem dX9_holds_72 : decode cX9_holds 72 = .ok (.getfield 95, 3) := by decide +kernel
theorem dX9_holds_75 : decode cX9_holds 75 = .ok (.bipush 6, 2) := by decide +kernel
theorem dX9_holds_77 : decode cX9_holds 77 = .ok (.iload_n 1, 1) := by decide +kernel
theorem dX9_holds_78 : decode cX9_holds 78 = .ok (.imul, 1) := by decide +kernel
theorem dX9_holds_79 : decode cX9_holds 79 = .ok (.iload 5, 2) := by decide +kernel
theorem dX9_holds_81 : decode cX9_holds 81 = .ok (.iadd, 1) := by decide +kernel
theorem dX9_holds_82 : decode cX9_holds 82 = .ok (.iaload, 1) := by decide +kernel
theorem dX9_holds_83 : decode cX9_holds 83 = .ok (.istore 6, 2) := by decide +kernel
theorem dX9_holds_85 : decode cX9_holds 85 = .ok (.aload_n 0, 1) := by decide +kernel
theorem dX9_holds_86 : decode cX9_holds 86 = .ok (.getfield 111, 3) := by decide +kernel
theorem dX9_holds_89 : decode cX9_holds 89 = .ok (.bipush 32, 2) := by decide +kernel
theorem dX9_holds_91 : decode cX9_holds 91 = .ok (.if_icmp .eq 16, 3) := by decide +kernel
theorem dX9_holds_94 : decode cX9_holds 94 = .ok (.iload 4, 2) := by decide +kernel
theorem dX9_holds_96 : decode cX9_holds 96 = .ok (.iconst 3, 1) := by decide +kernel
theorem dX9_holds_97 : decode cX9_holds 97 = .ok (.if_icmp .le 19, 3) := by decide +kernel
theorem dX9_holds_100 : decode cX9_holds 100 = .ok (.iload 6, 2) := by decide +kernel
theorem dX9_holds_102 : decode cX9_holds 102 = .ok (.bipush 12, 2) := by decide +kernel
theorem dX9_holds_104 : decode cX9_holds 104 = .ok (.if_icmp .le 12, 3) := by decide +kernel
theorem dX9_holds_107 : decode cX9_holds 107 = .ok (.aload_n 0, 1) := by decide +kernel
theorem dX9_holds_108 : decode cX9_holds 108 = .ok (.bipush 11, 2) := by decide +kernel
theorem dX9_holds_110 : decode cX9_holds 110 = .ok (.invokevirtual 245, 3) := by decide +kernel
theorem dX9_holds_113 : decode cX9_holds 113 = .ok (.goto 36, 3) := by decide +kernel
theorem dX9_holds_116 : decode cX9_holds 116 = .ok (.iload 4, 2) := by decide +kernel
theorem dX9_holds_118 : decode cX9_holds 118 = .ok (.iconst 3, 1) := by decide +kernel
theorem dX9_holds_119 : decode cX9_holds 119 = .ok (.if_icmp .le 16, 3) := by decide +kernel
theorem dX9_holds_122 : decode cX9_holds 122 = .ok (.iload 6, 2) := by decide +kernel
theorem dX9_holds_124 : decode cX9_holds 124 = .ok (.ifCond .ge 11, 3) := by decide +kernel
theorem dX9_holds_127 : decode cX9_holds 127 = .ok (.aload_n 0, 1) := by decide +kernel
theorem dX9_holds_128 : decode cX9_holds 128 = .ok (.iconst 5, 1) := by decide +kernel
theorem dX9_holds_129 : decode cX9_holds 129 = .ok (.invokevirtual 245, 3) := by decide +kernel
theorem dX9_holds_132 : decode cX9_holds 132 = .ok (.goto 17, 3) := by decide +kernel
theorem dX9_holds_135 : decode cX9_holds 135 = .ok (.aload_n 0, 1) := by decide +kernel
theorem dX9_holds_136 : decode cX9_holds 136 = .ok (.getfield 98, 3) := by decide +kernel
theorem dX9_holds_139 : decode cX9_holds 139 = .ok (.iload_n 3, 1) := by decide +kernel
theorem dX9_holds_140 : decode cX9_holds 140 = .ok (.aload_n 0, 1) := by decide +kernel
theorem dX9_holds_141 : decode cX9_holds 141 = .ok (.iload 4, 2) := by decide +kernel
theorem dX9_holds_143 : decode cX9_holds 143 = .ok (.iload 6, 2) := by decide +kernel
theorem dX9_holds_145 : decode cX9_holds 145 = .ok (.invokevirtual 118, 3) := by decide +kernel
theorem dX9_holds_148 : decode cX9_holds 148 = .ok (.iastore, 1) := by decide +kernel
theorem dX9_holds_149 : decode cX9_holds 149 = .ok (.goto 68, 3) := by decide +kernel
theorem dX9_holds_152 : decode cX9_holds 152 = .ok (.iload_n 2, 1) := by decide +kernel
theorem dX9_holds_153 : decode cX9_holds 153 = .ok (.bipush 10, 2) := by decide +kernel
theorem dX9_holds_155 : decode cX9_holds 155 = .ok (.if_icmp .ne 44, 3) := by decide +kernel
theorem dX9_holds_158 : decode cX9_holds 158 = .ok (.aload_n 0, 1) := by decide +kernel
theorem dX9_holds_159 : decode cX9_holds 159 = .ok (.getfield 95, 3) := by decide +kernel
theorem dX9_holds_162 : decode cX9_holds 162 = .ok (.iload_n 3, 1) := by decide +kernel
theorem dX9_holds_163 : decode cX9_holds 163 = .ok (.aload_n 0, 1) := by decide +kernel
theorem dX9_holds_164 : decode cX9_holds 164 = .ok (.getfield 98, 3) := by decide +kernel
theorem dX9_holds_167 : decode cX9_holds 167 = .ok (.bipush 6, 2) := by decide +kernel
theorem dX9_holds_169 : decode cX9_holds 169 = .ok (.iload_n 1, 1) := by decide +kernel
theorem dX9_holds_170 : decode cX9_holds 170 = .ok (.imul, 1) := by decide +kernel
theorem dX9_holds_171 : decode cX9_holds 171 = .ok (.iload 4, 2) := by decide +kernel
theorem dX9_holds_173 : decode cX9_holds 173 = .ok (.iadd, 1) := by decide +kernel
theorem dX9_holds_174 : decode cX9_holds 174 = .ok (.iaload, 1) := by decide +kernel
theorem dX9_holds_175 : decode cX9_holds 175 = .ok (.aload_n 0, 1) := by decide +kernel
theorem dX9_holds_176 : decode cX9_holds 176 = .ok (.getfield 98, 3) := by decide +kernel
theorem dX9_holds_179 : decode cX9_holds 179 = .ok (.bipush 6, 2) := by decide +kernel
theorem dX9_holds_181 : decode cX9_holds 181 = .ok (.iload_n 1, 1) := by decide +kernel
theorem dX9_holds_182 : decode cX9_holds 182 = .ok (.imul, 1) := by decide +kernel
theorem dX9_holds_183 : decode cX9_holds 183 = .ok (.iload 5, 2) := by decide +kernel
theorem dX9_holds_185 : decode cX9_holds 185 = .ok (.iadd, 1) := by decide +kernel
theorem dX9_holds_186 : decode cX9_holds 186 = .ok (.iaload, 1) := by decide +kernel
theorem dX9_holds_187 : decode cX9_holds 187 = .ok (.if_icmp .ne 7, 3) := by decide +kernel
theorem dX9_holds_190 : decode cX9_holds 190 = .ok (.iconst 1, 1) := by decide +kernel
theorem dX9_holds_191 : decode cX9_holds 191 = .ok (.goto 4, 3) := by decide +kernel
theorem dX9_holds_194 : decode cX9_holds 194 = .ok (.iconst 0, 1) := by decide +kernel
theorem dX9_holds_195 : decode cX9_holds 195 = .ok (.iastore, 1) := by decide +kernel
theorem dX9_holds_196 : decode cX9_holds 196 = .ok (.goto 21, 3) := by decide +kernel
theorem dX9_holds_199 : decode cX9_holds 199 = .ok (.aload_n 0, 1) := by decide +kernel
theorem dX9_holds_200 : decode cX9_holds 200 = .ok (.getfield 98, 3) := by decide +kernel
theorem dX9_holds_203 : decode cX9_holds 203 = .ok (.iload_n 3, 1) := by decide +kernel
theorem dX9_holds_204 : decode cX9_holds 204 = .ok (.aload_n 0, 1) := by decide +kernel
theorem dX9_holds_205 : decode cX9_holds 205 = .ok (.getfield 98, 3) := by decide +kernel
theorem dX9_holds_208 : decode cX9_holds 208 = .ok (.bipush 6, 2) := by decide +kernel
theorem dX9_holds_210 : decode cX9_holds 210 = .ok (.iload_n 1, 1) := by decide +kernel
theorem dX9_holds_211 : decode cX9_holds 211 = .ok (.imul, 1) := by decide +kernel
theorem dX9_holds_212 : decode cX9_holds 212 = .ok (.iload 4, 2) := by decide +kernel
theorem dX9_holds_214 : decode cX9_holds 214 = .ok (.iadd, 1) := by decide +kernel
theorem dX9_holds_215 : decode cX9_holds 215 = .ok (.iaload, 1) := by decide +kernel
theorem dX9_holds_216 : decode cX9_holds 216 = .ok (.iastore, 1) := by decide +kernel
theorem dX9_holds_217 : decode cX9_holds 217 = .ok (.return_, 1) := by decide +kernel
theorem dX9_boxes_0 : decode cX9_boxes 0 = .ok (.iload_n 2, 1) := by decide +kernel
theorem dX9_boxes_1 : decode cX9_boxes 1 = .ok (.bipush 13, 2) := by decide +kernel
theorem dX9_boxes_3 : decode cX9_boxes 3 = .ok (.if_icmp .ne 12, 3) := by decide +kernel
theorem dX9_boxes_6 : decode cX9_boxes 6 = .ok (.aload_n 0, 1) := by decide +kernel
theorem dX9_boxes_7 : decode cX9_boxes 7 = .ok (.getfield 98, 3) := by decide +kernel
theorem dX9_boxes_10 : decode cX9_boxes 10 = .ok (.iload_n 3, 1) := by decide +kernel
theorem dX9_boxes_11 : decode cX9_boxes 11 = .ok (.iaload, 1) := by decide +kernel
theorem dX9_boxes_12 : decode cX9_boxes 12 = .ok (.goto 15, 3) := by decide +kernel
theorem dX9_boxes_15 : decode cX9_boxes 15 = .ok (.aload_n 0, 1) := by decide +kernel
theorem dX9_boxes_16 : decode cX9_boxes 16 = .ok (.getfield 98, 3) := by decide +kernel
theorem dX9_boxes_19 : decode cX9_boxes 19 = .ok (.bipush 6, 2) := by decide +kernel
theorem dX9_boxes_21 : decode cX9_boxes 21 = .ok (.iload_n 1, 1) := by decide +kernel
theorem dX9_boxes_22 : decode cX9_boxes 22 = .ok (.imul, 1) := by decide +kernel
theorem dX9_boxes_23 : decode cX9_boxes 23 = .ok (.iload 4, 2) := by decide +kernel
theorem dX9_boxes_25 : decode cX9_boxes 25 = .ok (.iadd, 1) := by decide +kernel
theorem dX9_boxes_26 : decode cX9_boxes 26 = .ok (.iaload, 1) := by decide +kernel
theorem dX9_boxes_27 : decode cX9_boxes 27 = .ok (.istore 5, 2) := by decide +kernel
theorem dX9_boxes_29 : decode cX9_boxes 29 = .ok (.iload_n 2, 1) := by decide +kernel
theorem dX9_boxes_30 : decode cX9_boxes 30 = .ok (.bipush 14, 2) := by decide +kernel
theorem dX9_boxes_32 : decode cX9_boxes 32 = .ok (.if_icmp .eq 44, 3) := by decide +kernel
theorem dX9_boxes_35 : decode cX9_boxes 35 = .ok (.iload 5, 2) := by decide +kernel
theorem dX9_boxes_37 : decode cX9_boxes 37 = .ok (.bipush (-4), 2) := by decide +kernel
theorem dX9_boxes_39 : decode cX9_boxes 39 = .ok (.if_icmp .eq 37, 3) := by decide +kernel
theorem dX9_boxes_42 : decode cX9_boxes 42 = .ok (.aload_n 0, 1) := by decide +kernel
theorem dX9_boxes_43 : decode cX9_boxes 43 = .ok (.iload 5, 2) := by decide +kernel
theorem dX9_boxes_45 : decode cX9_boxes 45 = .ok (.invokevirtual 126, 3) := by decide +kernel
theorem dX9_boxes_48 : decode cX9_boxes 48 = .ok (.ifCond .eq 20, 3) := by decide +kernel
theorem dX9_boxes_51 : decode cX9_boxes 51 = .ok (.iload_n 2, 1) := by decide +kernel
theorem dX9_boxes_52 : decode cX9_boxes 52 = .ok (.bipush 15, 2) := by decide +kernel
theorem dX9_boxes_54 : decode cX9_boxes 54 = .ok (.if_icmp .ne 22, 3) := by decide +kernel
theorem dX9_boxes_57 : decode cX9_boxes 57 = .ok (.aload_n 0, 1) := by decide +kernel
theorem dX9_boxes_58 : decode cX9_boxes 58 = .ok (.getfield 7, 3) := by decide +kernel
theorem dX9_boxes_61 : decode cX9_boxes 61 = .ok (.iload 5, 2) := by decide +kernel
theorem dX9_boxes_63 : decode cX9_boxes 63 = .ok (.iaload, 1) := by decide +kernel
theorem dX9_boxes_64 : decode cX9_boxes 64 = .ok (.iconst 2, 1) := by decide +kernel
theorem dX9_boxes_65 : decode cX9_boxes 65 = .ok (.if_icmp .ge 11, 3) := by decide +kernel
theorem dX9_boxes_68 : decode cX9_boxes 68 = .ok (.aload_n 0, 1) := by decide +kernel
theorem dX9_boxes_69 : decode cX9_boxes 69 = .ok (.iconst 3, 1) := by decide +kernel
theorem dX9_boxes_70 : decode cX9_boxes 70 = .ok (.invokevirtual 245, 3) := by decide +kernel
theorem dX9_boxes_73 : decode cX9_boxes 73 = .ok (.goto 99, 3) := by decide +kernel
theorem dX9_boxes_76 : decode cX9_boxes 76 = .ok (.iload 5, 2) := by decide +kernel
theorem dX9_boxes_78 : decode cX9_boxes 78 = .ok (.bipush (-4), 2) := by decide +kernel
theorem dX9_boxes_80 : decode cX9_boxes 80 = .ok (.if_icmp .ne 11, 3) := by decide +kernel
theorem dX9_boxes_83 : decode cX9_boxes 83 = .ok (.aload_n 0, 1) := by decide +kernel
theorem dX9_boxes_84 : decode cX9_boxes 84 = .ok (.iconst 1, 1) := by decide +kernel
theorem dX9_boxes_85 : decode cX9_boxes 85 = .ok (.invokevirtual 245, 3) := by decide +kernel
theorem dX9_boxes_88 : decode cX9_boxes 88 = .ok (.goto 84, 3) := by decide +kernel
theorem dX9_boxes_91 : decode cX9_boxes 91 = .ok (.iload_n 2, 1) := by decide +kernel
theorem dX9_boxes_92 : decode cX9_boxes 92 = .ok (.bipush 12, 2) := by decide +kernel
theorem dX9_boxes_94 : decode cX9_boxes 94 = .ok (.if_icmp .ne 19, 3) := by decide +kernel
theorem dX9_boxes_97 : decode cX9_boxes 97 = .ok (.aload_n 0, 1) := by decide +kernel
theorem dX9_boxes_98 : decode cX9_boxes 98 = .ok (.getfield 95, 3) := by decide +kernel
theorem dX9_boxes_101 : decode cX9_boxes 101 = .ok (.iload_n 3, 1) := by decide +kernel
theorem dX9_boxes_102 : decode cX9_boxes 102 = .ok (.aload_n 0, 1) := by decide +kernel
theorem dX9_boxes_103 : decode cX9_boxes 103 = .ok (.getfield 13, 3) := by decide +kernel
