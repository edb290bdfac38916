theorem dX0_init_0 : decode cX0_init 0 = .ok (.aload_n 0, 1) := by decide +kernel
theorem dX0_init_1 : decode cX0_init 1 = .ok (.invokespecial 3, 3) := by decide +kernel
theorem dX0_init_4 : decode cX0_init 4 = .ok (.aload_n 0, 1) := by decide +kernel
theorem dX0_init_5 : decode cX0_init 5 = .ok (.aload_n 1, 1) := by decide +kernel
theorem dX0_init_6 : decode cX0_init 6 = .ok (.putfield 9, 3) := by decide +kernel
theorem dX0_init_9 : decode cX0_init 9 = .ok (.aload_n 0, 1) := by decide +kernel
theorem dX0_init_10 : decode cX0_init 10 = .ok (.aload_n 2, 1) := by decide +kernel
theorem dX0_init_11 : decode cX0_init 11 = .ok (.putfield 15, 3) := by decide +kernel
theorem dX0_init_14 : decode cX0_init 14 = .ok (.return_, 1) := by decide +kernel
theorem dX0_perform_0 : decode cX0_perform 0 = .ok (.aload_n 1, 1) := by decide +kernel
theorem dX0_perform_1 : decode cX0_perform 1 = .ok (.getfield 19, 3) := by decide +kernel
theorem dX0_perform_4 : decode cX0_perform 4 = .ok (.ifCond .eq 11, 3) := by decide +kernel
theorem dX0_perform_7 : decode cX0_perform 7 = .ok (.aload_n 1, 1) := by decide +kernel
theorem dX0_perform_8 : decode cX0_perform 8 = .ok (.iconst 0, 1) := by decide +kernel
theorem dX0_perform_9 : decode cX0_perform 9 = .ok (.putfield 19, 3) := by decide +kernel
theorem dX0_perform_12 : decode cX0_perform 12 = .ok (.bipush 9, 2) := by decide +kernel
theorem dX0_perform_14 : decode cX0_perform 14 = .ok (.ireturn, 1) := by decide +kernel
theorem dX0_perform_15 : decode cX0_perform 15 = .ok (.aload_n 1, 1) := by decide +kernel
theorem dX0_perform_16 : decode cX0_perform 16 = .ok (.getfield 25, 3) := by decide +kernel
theorem dX0_perform_19 : decode cX0_perform 19 = .ok (.astore_n 2, 1) := by decide +kernel
theorem dX0_perform_20 : decode cX0_perform 20 = .ok (.aload_n 2, 1) := by decide +kernel
theorem dX0_perform_21 : decode cX0_perform 21 = .ok (.ifnull 10, 3) := by decide +kernel
theorem dX0_perform_24 : decode cX0_perform 24 = .ok (.aload_n 1, 1) := by decide +kernel
theorem dX0_perform_25 : decode cX0_perform 25 = .ok (.invokevirtual 29, 3) := by decide +kernel
theorem dX0_perform_28 : decode cX0_perform 28 = .ok (.ifCond .eq 5, 3) := by decide +kernel
theorem dX0_perform_31 : decode cX0_perform 31 = .ok (.iconst 0, 1) := by decide +kernel
theorem dX0_perform_32 : decode cX0_perform 32 = .ok (.ireturn, 1) := by decide +kernel
theorem dX0_perform_33 : decode cX0_perform 33 = .ok (.aload_n 2, 1) := by decide +kernel
theorem dX0_perform_34 : decode cX0_perform 34 = .ok (.aload_n 1, 1) := by decide +kernel
theorem dX0_perform_35 : decode cX0_perform 35 = .ok (.getfield 33, 3) := by decide +kernel
theorem dX0_perform_38 : decode cX0_perform 38 = .ok (.iconst 0, 1) := by decide +kernel
theorem dX0_perform_39 : decode cX0_perform 39 = .ok (.invokevirtual 37, 3) := by decide +kernel
theorem dX0_perform_42 : decode cX0_perform 42 = .ok (.istore_n 3, 1) := by decide +kernel
theorem dX0_perform_43 : decode cX0_perform 43 = .ok (.aload_n 2, 1) := by decide +kernel
theorem dX0_perform_44 : decode cX0_perform 44 = .ok (.aload_n 1, 1) := by decide +kernel
theorem dX0_perform_45 : decode cX0_perform 45 = .ok (.getfield 33, 3) := by decide +kernel
theorem dX0_perform_48 : decode cX0_perform 48 = .ok (.iconst 1, 1) := by decide +kernel
theorem dX0_perform_49 : decode cX0_perform 49 = .ok (.invokevirtual 37, 3) := by decide +kernel
theorem dX0_perform_52 : decode cX0_perform 52 = .ok (.istore 4, 2) := by decide +kernel
theorem dX0_perform_54 : decode cX0_perform 54 = .ok (.aload_n 2, 1) := by decide +kernel
theorem dX0_perform_55 : decode cX0_perform 55 = .ok (.aload_n 1, 1) := by decide +kernel
theorem dX0_perform_56 : decode cX0_perform 56 = .ok (.getfield 33, 3) := by decide +kernel
theorem dX0_perform_59 : decode cX0_perform 59 = .ok (.iconst 2, 1) := by decide +kernel
theorem dX0_perform_60 : decode cX0_perform 60 = .ok (.invokevirtual 37, 3) := by decide +kernel
theorem dX0_perform_63 : decode cX0_perform 63 = .ok (.istore 5, 2) := by decide +kernel
theorem dX0_perform_65 : decode cX0_perform 65 = .ok (.aload_n 2, 1) := by decide +kernel
theorem dX0_perform_66 : decode cX0_perform 66 = .ok (.aload_n 1, 1) := by decide +kernel
theorem dX0_perform_67 : decode cX0_perform 67 = .ok (.getfield 33, 3) := by decide +kernel
theorem dX0_perform_70 : decode cX0_perform 70 = .ok (.iconst 3, 1) := by decide +kernel
theorem dX0_perform_71 : decode cX0_perform 71 = .ok (.invokevirtual 37, 3) := by decide +kernel
theorem dX0_perform_74 : decode cX0_perform 74 = .ok (.istore 6, 2) := by decide +kernel
theorem dX0_perform_76 : decode cX0_perform 76 = .ok (.aload_n 0, 1) := by decide +kernel
theorem dX0_perform_77 : decode cX0_perform 77 = .ok (.dup, 1) := by decide +kernel
theorem dX0_perform_78 : decode cX0_perform 78 = .ok (.getfield 43, 3) := by decide +kernel
theorem dX0_perform_81 : decode cX0_perform 81 = .ok (.iconst 1, 1) := by decide +kernel
theorem dX0_perform_82 : decode cX0_perform 82 = .ok (.iadd, 1) := by decide +kernel
theorem dX0_perform_83 : decode cX0_perform 83 = .ok (.putfield 43, 3) := by decide +kernel
theorem dX0_perform_86 : decode cX0_perform 86 = .ok (.aload_n 1, 1) := by decide +kernel
theorem dX0_perform_87 : decode cX0_perform 87 = .ok (.dup, 1) := by decide +kernel
theorem dX0_perform_88 : decode cX0_perform 88 = .ok (.getfield 46, 3) := by decide +kernel
theorem dX0_perform_91 : decode cX0_perform 91 = .ok (.iconst 1, 1) := by decide +kernel
theorem dX0_perform_92 : decode cX0_perform 92 = .ok (.iadd, 1) := by decide +kernel
theorem dX0_perform_93 : decode cX0_perform 93 = .ok (.putfield 46, 3) := by decide +kernel
theorem dX0_perform_96 : decode cX0_perform 96 = .ok (.aload_n 1, 1) := by decide +kernel
theorem dX0_perform_97 : decode cX0_perform 97 = .ok (.dup, 1) := by decide +kernel
theorem dX0_perform_98 : decode cX0_perform 98 = .ok (.getfield 33, 3) := by decide +kernel
theorem dX0_perform_101 : decode cX0_perform 101 = .ok (.iconst 1, 1) := by decide +kernel
theorem dX0_perform_102 : decode cX0_perform 102 = .ok (.iadd, 1) := by decide +kernel
theorem dX0_perform_103 : decode cX0_perform 103 = .ok (.putfield 33, 3) := by decide +kernel
theorem dX0_perform_106 : decode cX0_perform 106 = .ok (.iload_n 3, 1) := by decide +kernel
theorem dX0_perform_107 : decode cX0_perform 107 = .ok (.bipush 7, 2) := by decide +kernel
theorem dX0_perform_109 : decode cX0_perform 109 = .ok (.if_icmp .gt 16, 3) := by decide +kernel
theorem dX0_perform_112 : decode cX0_perform 112 = .ok (.aload_n 0, 1) := by decide +kernel
theorem dX0_perform_113 : decode cX0_perform 113 = .ok (.aload_n 1, 1) := by decide +kernel
theorem dX0_perform_114 : decode cX0_perform 114 = .ok (.iload_n 3, 1) := by decide +kernel
theorem dX0_perform_115 : decode cX0_perform 115 = .ok (.iload 4, 2) := by decide +kernel
theorem dX0_perform_117 : decode cX0_perform 117 = .ok (.iload 5, 2) := by decide +kernel
theorem dX0_perform_119 : decode cX0_perform 119 = .ok (.iload 6, 2) := by decide +kernel
theorem dX0_perform_121 : decode cX0_perform 121 = .ok (.invokevirtual 47, 3) := by decide +kernel
theorem dX0_perform_124 : decode cX0_perform 124 = .ok (.ireturn, 1) := by decide +kernel
theorem dX0_perform_125 : decode cX0_perform 125 = .ok (.iload_n 3, 1) := by decide +kernel
theorem dX0_perform_126 : decode cX0_perform 126 = .ok (.bipush 15, 2) := by decide +kernel
theorem dX0_perform_128 : decode cX0_perform 128 = .ok (.if_icmp .gt 16, 3) := by decide +kernel
theorem dX0_perform_131 : decode cX0_perform 131 = .ok (.aload_n 0, 1) := by decide +kernel
theorem dX0_perform_132 : decode cX0_perform 132 = .ok (.aload_n 1, 1) := by decide +kernel
theorem dX0_perform_133 : decode cX0_perform 133 = .ok (.iload_n 3, 1) := by decide +kernel
theorem dX0_perform_134 : decode cX0_perform 134 = .ok (.iload 4, 2) := by decide +kernel
theorem dX0_perform_136 : decode cX0_perform 136 = .ok (.iload 5, 2) := by decide +kernel
theorem dX0_perform_138 : decode cX0_perform 138 = .ok (.iload 6, 2) := by decide +kernel
theorem dX0_perform_140 : decode cX0_perform 140 = .ok (.invokevirtual 51, 3) := by decide +kernel
theorem dX0_perform_143 : decode cX0_perform 143 = .ok (.ireturn, 1) := by decide +kernel
theorem dX0_perform_144 : decode cX0_perform 144 = .ok (.iload_n 3, 1) := by decide +kernel
theorem dX0_perform_145 : decode cX0_perform 145 = .ok (.bipush 21, 2) := by decide +kernel
theorem dX0_perform_147 : decode cX0_perform 147 = .ok (.if_icmp .gt 16, 3) := by decide +kernel
theorem dX0_perform_150 : decode cX0_perform 150 = .ok (.aload_n 0, 1) := by decide +kernel
theorem dX0_perform_151 : decode cX0_perform 151 = .ok (.aload_n 1, 1) := by decide +kernel
theorem dX0_perform_152 : decode cX0_perform 152 = .ok (.iload_n 3, 1) := by decide +kernel
theorem dX0_perform_153 : decode cX0_perform 153 = .ok (.iload 4, 2) := by decide +kernel
theorem dX0_perform_155 : decode cX0_perform 155 = .ok (.iload 5, 2) := by decide +kernel
theorem dX0_perform_157 : decode cX0_perform 157 = .ok (.iload 6, 2) := by decide +kernel
theorem dX0_perform_159 : decode cX0_perform 159 = .ok (.invokevirtual 54, 3) := by decide +kernel
theorem dX0_perform_162 : decode cX0_perform 162 = .ok (.ireturn, 1) := by decide +kernel
theorem dX0_perform_163 : decode cX0_perform 163 = .ok (.iload_n 3, 1) := by decide +kernel
theorem dX0_perform_164 : decode cX0_perform 164 = .ok (.bipush 26, 2) := by decide +kernel
theorem dX0_perform_166 : decode cX0_perform 166 = .ok (.if_icmp .gt 14, 3) := by decide +kernel
theorem dX0_perform_169 : decode cX0_perform 169 = .ok (.aload_n 0, 1) := by decide +kernel
theorem dX0_perform_170 : decode cX0_perform 170 = .ok (.aload_n 1, 1) := by decide +kernel
theorem dX0_perform_171 : decode cX0_perform 171 = .ok (.iload_n 3, 1) := by decide +kernel
theorem dX0_perform_172 : decode cX0_perform 172 = .ok (.iload 4, 2) := by decide +kernel
theorem dX0_perform_174 : decode cX0_perform 174 = .ok (.iload 5, 2) := by decide +kernel
theorem dX0_perform_176 : decode cX0_perform 176 = .ok (.invokevirtual 57, 3) := by decide +kernel
theorem dX0_perform_179 : decode cX0_perform 179 = .ok (.ireturn, 1) := by decide +kernel
theorem dX0_perform_180 : decode cX0_perform 180 = .ok (.iload_n 3, 1) := by decide +kernel
theorem dX0_perform_181 : decode cX0_perform 181 = .ok (.bipush 30, 2) := by decide +kernel
theorem dX0_perform_183 : decode cX0_perform 183 = .ok (.if_icmp .gt 14, 3) := by decide +kernel
theorem dX0_perform_186 : decode cX0_perform 186 = .ok (.aload_n 0, 1) := by decide +kernel
theorem dX0_perform_187 : decode cX0_perform 187 = .ok (.aload_n 1, 1) := by decide +kernel
theorem dX0_perform_188 : decode cX0_perform 188 = .ok (.iload_n 3, 1) := by decide +kernel
theorem dX0_perform_189 : decode cX0_perform 189 = .ok (.iload 4, 2) := by decide +kernel
theorem dX0_perform_191 : decode cX0_perform 191 = .ok (.invokevirtual 61, 3) := by decide +kernel
theorem dX0_perform_194 : decode cX0_perform 194 = .ok (.goto 13, 3) := by decide +kernel
theorem dX0_perform_197 : decode cX0_perform 197 = .ok (.aload_n 0, 1) := by decide +kernel
theorem dX0_perform_198 : decode cX0_perform 198 = .ok (.aload_n 1, 1) := by decide +kernel
theorem dX0_perform_199 : decode cX0_perform 199 = .ok (.iload_n 3, 1) := by decide +kernel
theorem dX0_perform_200 : decode cX0_perform 200 = .ok (.iload 4, 2) := by decide +kernel
theorem dX0_perform_202 : decode cX0_perform 202 = .ok (.iload 5, 2) := by decide +kernel
theorem dX0_perform_204 : decode cX0_perform 204 = .ok (.invokevirtual 65, 3) := by decide +kernel
theorem dX0_perform_207 : decode cX0_perform 207 = .ok (.ireturn, 1) := by decide +kernel
theorem dX0_reckon_0 : decode cX0_reckon 0 = .ok (.iload_n 2, 1) := by decide +kernel
theorem dX0_reckon_1 : decode cX0_reckon 1 = .ok (.tableswitch 156 0 6 #[43, 52, 71, 90, 109, 122, 149], 43) := by decide +kernel
theorem dX0_reckon_44 : decode cX0_reckon 44 = .ok (.aload_n 1, 1) := by decide +kernel
theorem dX0_reckon_45 : decode cX0_reckon 45 = .ok (.iload_n 3, 1) := by decide +kernel
theorem dX0_reckon_46 : decode cX0_reckon 46 = .ok (.iload 4, 2) := by decide +kernel
theorem dX0_reckon_48 : decode cX0_reckon 48 = .ok (.invokevirtual 68, 3) := by decide +kernel
theorem dX0_reckon_51 : decode cX0_reckon 51 = .ok (.iconst 0, 1) := by decide +kernel
theorem dX0_reckon_52 : decode cX0_reckon 52 = .ok (.ireturn, 1) := by decide +kernel
theorem dX0_reckon_53 : decode cX0_reckon 53 = .ok (.aload_n 1, 1) := by decide +kernel
theorem dX0_reckon_54 : decode cX0_reckon 54 = .ok (.iload_n 3, 1) := by decide +kernel
theorem dX0_reckon_55 : decode cX0_reckon 55 = .ok (.aload_n 1, 1) := by decide +kernel
theorem dX0_reckon_56 : decode cX0_reckon 56 = .ok (.iload_n 3, 1) := by decide +kernel
theorem dX0_reckon_57 : decode cX0_reckon 57 = .ok (.invokevirtual 72, 3) := by decide +kernel
theorem dX0_reckon_60 : decode cX0_reckon 60 = .ok (.aload_n 1, 1) := by decide +kernel
theorem dX0_reckon_61 : decode cX0_reckon 61 = .ok (.iload 4, 2) := by decide +kernel
theorem dX0_reckon_63 : decode cX0_reckon 63 = .ok (.invokevirtual 72, 3) := by decide +kernel
theorem dX0_reckon_66 : decode cX0_reckon 66 = .ok (.iadd, 1) := by decide +kernel
theorem dX0_reckon_67 : decode cX0_reckon 67 = .ok (.invokevirtual 68, 3) := by decide +kernel
theorem dX0_reckon_70 : decode cX0_reckon 70 = .ok (.iconst 0, 1) := by decide +kernel
theorem dX0_reckon_71 : decode cX0_reckon 71 = .ok (.ireturn, 1) := by decide +kernel
theorem dX0_reckon_72 : decode cX0_reckon 72 = .ok (.aload_n 1, 1) := by decide +kernel
theorem dX0_reckon_73 : decode cX0_reckon 73 = .ok (.iload_n 3, 1) := by decide +kernel
theorem dX0_reckon_74 : decode cX0_reckon 74 = .ok (.aload_n 1, 1) := by decide +kernel
theorem dX0_reckon_75 : decode cX0_reckon 75 = .ok (.iload_n 3, 1) := by decide +kernel
theorem dX0_reckon_76 : decode cX0_reckon 76 = .ok (.invokevirtual 72, 3) := by decide +kernel
theorem dX0_reckon_79 : decode cX0_reckon 79 = .ok (.aload_n 1, 1) := by decide +kernel
theorem dX0_reckon_80 : decode cX0_reckon 80 = .ok (.iload 4, 2) := by decide +kernel
theorem dX0_reckon_82 : decode cX0_reckon 82 = .ok (.invokevirtual 72, 3) := by decide +kernel
theorem dX0_reckon_85 : decode cX0_reckon 85 = .ok (.isub, 1) := by decide +kernel
theorem dX0_reckon_86 : decode cX0_reckon 86 = .ok (.invokevirtual 68, 3) := by decide +kernel
theorem dX0_reckon_89 : decode cX0_reckon 89 = .ok (.iconst 0, 1) := by decide +kernel
theorem dX0_reckon_90 : decode cX0_reckon 90 = .ok (.ireturn, 1) := by decide +kernel
theorem dX0_reckon_91 : decode cX0_reckon 91 = .ok (.aload_n 1, 1) := by decide +kernel
theorem dX0_reckon_92 : decode cX0_reckon 92 = .ok (.iload_n 3, 1) := by decide +kernel
theorem dX0_reckon_93 : decode cX0_reckon 93 = .ok (.aload_n 1, 1) := by decide +kernel
theorem dX0_reckon_94 : decode cX0_reckon 94 = .ok (.iload_n 3, 1) := by decide +kernel
theorem dX0_reckon_95 : decode cX0_reckon 95 = .ok (.invokevirtual 72, 3) := by decide +kernel
theorem dX0_reckon_98 : decode cX0_reckon 98 = .ok (.aload_n 1, 1) := by decide +kernel
theorem dX0_reckon_99 : decode cX0_reckon 99 = .ok (.iload 4, 2) := by decide +kernel
theorem dX0_reckon_101 : decode cX0_reckon 101 = .ok (.invokevirtual 72, 3) := by decide +kernel
theorem dX0_reckon_104 : decode cX0_reckon 104 = .ok (.imul, 1) := by decide +kernel
theorem dX0_reckon_105 : decode cX0_reckon 105 = .ok (.invokevirtual 68, 3) := by decide +kernel
theorem dX0_reckon_108 : decode cX0_reckon 108 = .ok (.iconst 0, 1) := by decide +kernel
theorem dX0_reckon_109 : decode cX0_reckon 109 = .ok (.ireturn, 1) := by decide +kernel
theorem dX0_reckon_110 : decode cX0_reckon 110 = .ok (.aload_n 0, 1) := by decide +kernel
theorem dX0_reckon_111 : decode cX0_reckon 111 = .ok (.aload_n 1, 1) := by decide +kernel
theorem dX0_reckon_112 : decode cX0_reckon 112 = .ok (.iload_n 3, 1) := by decide +kernel
theorem dX0_reckon_113 : decode cX0_reckon 113 = .ok (.aload_n 1, 1) := by decide +kernel
theorem dX0_reckon_114 : decode cX0_reckon 114 = .ok (.iload 4, 2) := by decide +kernel
theorem dX0_reckon_116 : decode cX0_reckon 116 = .ok (.invokevirtual 72, 3) := by decide +kernel
theorem dX0_reckon_119 : decode cX0_reckon 119 = .ok (.invokevirtual 76, 3) := by decide +kernel
theorem dX0_reckon_122 : decode cX0_reckon 122 = .ok (.ireturn, 1) := by decide +kernel
theorem dX0_reckon_123 : decode cX0_reckon 123 = .ok (.aload_n 1, 1) := by decide +kernel
theorem dX0_reckon_124 : decode cX0_reckon 124 = .ok (.iload_n 3, 1) := by decide +kernel
theorem dX0_reckon_125 : decode cX0_reckon 125 = .ok (.aload_n 1, 1) := by decide +kernel
theorem dX0_reckon_126 : decode cX0_reckon 126 = .ok (.iload 4, 2) := by decide +kernel
theorem dX0_reckon_128 : decode cX0_reckon 128 = .ok (.invokevirtual 72, 3) := by decide +kernel
theorem dX0_reckon_131 : decode cX0_reckon 131 = .ok (.aload_n 1, 1) := by decide +kernel
theorem dX0_reckon_132 : decode cX0_reckon 132 = .ok (.iload 5, 2) := by decide +kernel
theorem dX0_reckon_134 : decode cX0_reckon 134 = .ok (.invokevirtual 72, 3) := by decide +kernel
theorem dX0_reckon_137 : decode cX0_reckon 137 = .ok (.if_icmp .ge 7, 3) := by decide +kernel
theorem dX0_reckon_140 : decode cX0_reckon 140 = .ok (.iconst 1, 1) := by decide +kernel
theorem dX0_reckon_141 : decode cX0_reckon 141 = .ok (.goto 4, 3) := by decide +kernel
theorem dX0_reckon_144 : decode cX0_reckon 144 = .ok (.iconst 0, 1) := by decide +kernel
theorem dX0_reckon_145 : decode cX0_reckon 145 = .ok (.invokevirtual 68, 3) := by decide +kernel
theorem dX0_reckon_148 : decode cX0_reckon 148 = .ok (.iconst 0, 1) := by decide +kernel
theorem dX0_reckon_149 : decode cX0_reckon 149 = .ok (.ireturn, 1) := by decide +kernel
theorem dX0_reckon_150 : decode cX0_reckon 150 = .ok (.aload_n 1, 1) := by decide +kernel
theorem dX0_reckon_151 : decode cX0_reckon 151 = .ok (.iload_n 3, 1) := by decide +kernel
theorem dX0_reckon_152 : decode cX0_reckon 152 = .ok (.invokevirtual 79, 3) := by decide +kernel
theorem dX0_reckon_155 : decode cX0_reckon 155 = .ok (.iconst 0, 1) := by decide +kernel
theorem dX0_reckon_156 : decode cX0_reckon 156 = .ok (.ireturn, 1) := by decide +kernel
theorem dX0_reckon_157 : decode cX0_reckon 157 = .ok (.aload_n 1, 1) := by decide +kernel
theorem dX0_reckon_158 : decode cX0_reckon 158 = .ok (.iload 4, 2) := by decide +kernel
theorem dX0_reckon_160 : decode cX0_reckon 160 = .ok (.invokevirtual 72, 3) := by decide +kernel
theorem dX0_reckon_163 : decode cX0_reckon 163 = .ok (.ifCond .ne 8, 3) := by decide +kernel
theorem dX0_reckon_166 : decode cX0_reckon 166 = .ok (.aload_n 1, 1) := by decide +kernel
theorem dX0_reckon_167 : decode cX0_reckon 167 = .ok (.iload_n 3, 1) := by decide +kernel
theorem dX0_reckon_168 : decode cX0_reckon 168 = .ok (.invokevirtual 79, 3) := by decide +kernel
theorem dX0_reckon_171 : decode cX0_reckon 171 = .ok (.iconst 0, 1) := by decide +kernel
theorem dX0_reckon_172 : decode cX0_reckon 172 = .ok (.ireturn, 1) := by decide +kernel
theorem dX0_divide_0 : decode cX0_divide 0 = .ok (.iload_n 3, 1) := by decide +kernel
theorem dX0_divide_1 : decode cX0_divide 1 = .ok (.ifCond .ne 6, 3) := by decide +kernel
theorem dX0_divide_4 : decode cX0_divide 4 = .ok (.bipush 6, 2) := by decide +kernel
theorem dX0_divide_6 : decode cX0_divide 6 = .ok (.ireturn, 1) := by decide +kernel
theorem dX0_divide_7 : decode cX0_divide 7 = .ok (.aload_n 1, 1) := by decide +kernel
theorem dX0_divide_8 : decode cX0_divide 8 = .ok (.iload_n 2, 1) := by decide +kernel
theorem dX0_divide_9 : decode cX0_divide 9 = .ok (.aload_n 1, 1) := by decide +kernel
theorem dX0_divide_10 : decode cX0_divide 10 = .ok (.iload_n 2, 1) := by decide +kernel
theorem dX0_divide_11 : decode cX0_divide 11 = .ok (.invokevirtual 72, 3) := by decide +kernel
theorem dX0_divide_14 : decode cX0_divide 14 = .ok (.iload_n 3, 1) := by decide +kernel
theorem dX0_divide_15 : decode cX0_divide 15 = .ok (.idiv, 1) := by decide +kernel
theorem dX0_divide_16 : decode cX0_divide 16 = .ok (.invokevirtual 68, 3) := by decide +kernel
theorem dX0_divide_19 : decode cX0_divide 19 = .ok (.iconst 0, 1) := by decide +kernel
theorem dX0_divide_20 : decode cX0_divide 20 = .ok (.ireturn, 1) := by decide +kernel
theorem dX0_useThings_0 : decode cX0_useThings 0 = .ok (.iload_n 2, 1) := by decide +kernel
theorem dX0_useThings_1 : decode cX0_useThings 1 = .ok (.tableswitch 156 8 14 #[43, 56, 71, 98, 111, 125, 142], 43) := by decide +kernel
theorem dX0_useThings_44 : decode cX0_useThings 44 = .ok (.aload_n 0, 1) := by decide +kernel
theorem dX0_useThings_45 : decode cX0_useThings 45 = .ok (.aload_n 1, 1) := by decide +kernel
theorem dX0_useThings_46 : decode cX0_useThings 46 = .ok (.iload_n 3, 1) := by decide +kernel
theorem dX0_useThings_47 : decode cX0_useThings 47 = .ok (.aload_n 1, 1) := by decide +kernel
theorem dX0_useThings_48 : decode cX0_useThings 48 = .ok (.iload 4, 2) := by decide +kernel
theorem dX0_useThings_50 : decode cX0_useThings 50 = .ok (.invokevirtual 72, 3) := by decide +kernel
theorem dX0_useThings_53 : decode cX0_useThings 53 = .ok (.invokevirtual 83, 3) := by decide +kernel
theorem dX0_useThings_56 : decode cX0_useThings 56 = .ok (.ireturn, 1) := by decide +kernel
theorem dX0_useThings_57 : decode cX0_useThings 57 = .ok (.aload_n 0, 1) := by decide +kernel
theorem dX0_useThings_58 : decode cX0_useThings 58 = .ok (.aload_n 1, 1) := by decide +kernel
theorem dX0_useThings_59 : decode cX0_useThings 59 = .ok (.iload_n 3, 1) := by decide +kernel
theorem dX0_useThings_60 : decode cX0_useThings 60 = .ok (.iload 4, 2) := by decide +kernel
theorem dX0_useThings_62 : decode cX0_useThings 62 = .ok (.aload_n 1, 1) := by decide +kernel
theorem dX0_useThings_63 : decode cX0_useThings 63 = .ok (.iload 5, 2) := by decide +kernel
theorem dX0_useThings_65 : decode cX0_useThings 65 = .ok (.invokevirtual 72, 3) := by decide +kernel
theorem dX0_useThings_68 : decode cX0_useThings 68 = .ok (.invokevirtual 86, 3) := by decide +kernel
theorem dX0_useThings_71 : decode cX0_useThings 71 = .ok (.ireturn, 1) := by decide +kernel
theorem dX0_useThings_72 : decode cX0_useThings 72 = .ok (.aload_n 1, 1) := by decide +kernel
theorem dX0_useThings_73 : decode cX0_useThings 73 = .ok (.iload_n 3, 1) := by decide +kernel
theorem dX0_useThings_74 : decode cX0_useThings 74 = .ok (.aload_n 1, 1) := by decide +kernel
theorem dX0_useThings_75 : decode cX0_useThings 75 = .ok (.iload 4, 2) := by decide +kernel
theorem dX0_useThings_77 : decode cX0_useThings 77 = .ok (.invokevirtual 89, 3) := by decide +kernel
theorem dX0_useThings_80 : decode cX0_useThings 80 = .ok (.aload_n 1, 1) := by decide +kernel
theorem dX0_useThings_81 : decode cX0_useThings 81 = .ok (.iload 5, 2) := by decide +kernel
theorem dX0_useThings_83 : decode cX0_useThings 83 = .ok (.invokevirtual 89, 3) := by decide +kernel
theorem dX0_useThings_86 : decode cX0_useThings 86 = .ok (.if_icmp .ne 7, 3) := by decide +kernel
theorem dX0_useThings_89 : decode cX0_useThings 89 = .ok (.iconst 1, 1) := by decide +kernel
theorem dX0_useThings_90 : decode cX0_useThings 90 = .ok (.goto 4, 3) := by decide +kernel
theorem dX0_useThings_93 : decode cX0_useThings 93 = .ok (.iconst 0, 1) := by decide +kernel
theorem dX0_useThings_94 : decode cX0_useThings 94 = .ok (.invokevirtual 68, 3) := by decide +kernel
theorem dX0_useThings_97 : decode cX0_useThings 97 = .ok (.iconst 0, 1) := by decide +kernel
theorem dX0_useThings_98 : decode cX0_useThings 98 = .ok (.ireturn, 1) := by decide +kernel
theorem dX0_useThings_99 : decode cX0_useThings 99 = .ok (.aload_n 1, 1) := by decide +kernel
theorem dX0_useThings_100 : decode cX0_useThings 100 = .ok (.iload_n 3, 1) := by decide +kernel
theorem dX0_useThings_101 : decode cX0_useThings 101 = .ok (.aload_n 1, 1) := by decide +kernel
theorem dX0_useThings_102 : decode cX0_useThings 102 = .ok (.iload 4, 2) := by decide +kernel
theorem dX0_useThings_104 : decode cX0_useThings 104 = .ok (.invokevirtual 89, 3) := by decide +kernel
theorem dX0_useThings_107 : decode cX0_useThings 107 = .ok (.invokevirtual 92, 3) := by decide +kernel
theorem dX0_useThings_110 : decode cX0_useThings 110 = .ok (.iconst 0, 1) := by decide +kernel
theorem dX0_useThings_111 : decode cX0_useThings 111 = .ok (.ireturn, 1) := by decide +kernel
theorem dX0_useThings_112 : decode cX0_useThings 112 = .ok (.aload_n 0, 1) := by decide +kernel
theorem dX0_useThings_113 : decode cX0_useThings 113 = .ok (.aload_n 1, 1) := by decide +kernel
theorem dX0_useThings_114 : decode cX0_useThings 114 = .ok (.iload_n 3, 1) := by decide +kernel
theorem dX0_useThings_115 : decode cX0_useThings 115 = .ok (.aload_n 0, 1) := by decide +kernel
theorem dX0_useThings_116 : decode cX0_useThings 116 = .ok (.aload_n 1, 1) := by decide +kernel
theorem dX0_useThings_117 : decode cX0_useThings 117 = .ok (.iload 4, 2) := by decide +kernel
theorem dX0_useThings_119 : decode cX0_useThings 119 = .ok (.invokevirtual 95, 3) := by decide +kernel
theorem dX0_useThings_122 : decode cX0_useThings 122 = .ok (.invokevirtual 99, 3) := by decide +kernel
theorem dX0_useThings_125 : decode cX0_useThings 125 = .ok (.ireturn, 1) := by decide +kernel
theorem dX0_useThings_126 : decode cX0_useThings 126 = .ok (.aload_n 0, 1) := by decide +kernel
theorem dX0_useThings_127 : decode cX0_useThings 127 = .ok (.aload_n 0, 1) := by decide +kernel
theorem dX0_useThings_128 : decode cX0_useThings 128 = .ok (.aload_n 1, 1) := by decide +kernel
theorem dX0_useThings_129 : decode cX0_useThings 129 = .ok (.iload_n 3, 1) := by decide +kernel
theorem dX0_useThings_130 : decode cX0_useThings 130 = .ok (.invokevirtual 95, 3) := by decide +kernel
theorem dX0_useThings_133 : decode cX0_useThings 133 = .ok (.aload_n 1, 1) := by decide +kernel
theorem dX0_useThings_134 : decode cX0_useThings 134 = .ok (.iload 4, 2) := by decide +kernel
theorem dX0_useThings_136 : decode cX0_useThings 136 = .ok (.invokevirtual 72, 3) := by decide +kernel
theorem dX0_useThings_139 : decode cX0_useThings 139 = .ok (.invokevirtual 103, 3) := by decide +kernel
theorem dX0_useThings_142 : decode cX0_useThings 142 = .ok (.ireturn, 1) := by decide +kernel
theorem dX0_useThings_143 : decode cX0_useThings 143 = .ok (.aload_n 0, 1) := by decide +kernel
theorem dX0_useThings_144 : decode cX0_useThings 144 = .ok (.aload_n 1, 1) := by decide +kernel
theorem dX0_useThings_145 : decode cX0_useThings 145 = .ok (.iload_n 3, 1) := by decide +kernel
theorem dX0_useThings_146 : decode cX0_useThings 146 = .ok (.aload_n 0, 1) := by decide +kernel
theorem dX0_useThings_147 : decode cX0_useThings 147 = .ok (.aload_n 1, 1) := by decide +kernel
theorem dX0_useThings_148 : decode cX0_useThings 148 = .ok (.iload 4, 2) := by decide +kernel
theorem dX0_useThings_150 : decode cX0_useThings 150 = .ok (.invokevirtual 95, 3) := by decide +kernel
theorem dX0_useThings_153 : decode cX0_useThings 153 = .ok (.invokevirtual 107, 3) := by decide +kernel
theorem dX0_useThings_156 : decode cX0_useThings 156 = .ok (.ireturn, 1) := by decide +kernel
theorem dX0_useThings_157 : decode cX0_useThings 157 = .ok (.aload_n 0, 1) := by decide +kernel
theorem dX0_useThings_158 : decode cX0_useThings 158 = .ok (.aload_n 1, 1) := by decide +kernel
theorem dX0_useThings_159 : decode cX0_useThings 159 = .ok (.iload_n 3, 1) := by decide +kernel
theorem dX0_useThings_160 : decode cX0_useThings 160 = .ok (.aload_n 0, 1) := by decide +kernel
theorem dX0_useThings_161 : decode cX0_useThings 161 = .ok (.aload_n 1, 1) := by decide +kernel
theorem dX0_useThings_162 : decode cX0_useThings 162 = .ok (.iload 4, 2) := by decide +kernel
theorem dX0_useThings_164 : decode cX0_useThings 164 = .ok (.invokevirtual 95, 3) := by decide +kernel
theorem dX0_useThings_167 : decode cX0_useThings 167 = .ok (.invokevirtual 110, 3) := by decide +kernel
theorem dX0_useThings_170 : decode cX0_useThings 170 = .ok (.ireturn, 1) := by decide +kernel
theorem dX0_inHand_0 : decode cX0_inHand 0 = .ok (.aload_n 0, 1) := by decide +kernel
theorem dX0_inHand_1 : decode cX0_inHand 1 = .ok (.getfield 9, 3) := by decide +kernel
theorem dX0_inHand_4 : decode cX0_inHand 4 = .ok (.aload_n 1, 1) := by decide +kernel
theorem dX0_inHand_5 : decode cX0_inHand 5 = .ok (.iload_n 2, 1) := by decide +kernel
theorem dX0_inHand_6 : decode cX0_inHand 6 = .ok (.invokevirtual 89, 3) := by decide +kernel
theorem dX0_inHand_9 : decode cX0_inHand 9 = .ok (.invokevirtual 113, 3) := by decide +kernel
theorem dX0_inHand_12 : decode cX0_inHand 12 = .ok (.areturn, 1) := by decide +kernel
theorem dX0_holdNumber_0 : decode cX0_holdNumber 0 = .ok (.iload_n 3, 1) := by decide +kernel
theorem dX0_holdNumber_1 : decode cX0_holdNumber 1 = .ok (.iconst (-1), 1) := by decide +kernel
theorem dX0_holdNumber_2 : decode cX0_holdNumber 2 = .ok (.if_icmp .eq 16, 3) := by decide +kernel
theorem dX0_holdNumber_5 : decode cX0_holdNumber 5 = .ok (.aload_n 0, 1) := by decide +kernel
theorem dX0_holdNumber_6 : decode cX0_holdNumber 6 = .ok (.getfield 9, 3) := by decide +kernel
theorem dX0_holdNumber_9 : decode cX0_holdNumber 9 = .ok (.iload_n 3, 1) := by decide +kernel
theorem dX0_holdNumber_10 : decode cX0_holdNumber 10 = .ok (.invokevirtual 113, 3) := by decide +kernel
theorem dX0_holdNumber_13 : decode cX0_holdNumber 13 = .ok (.ifnonnull 5, 3) := by decide +kernel
theorem dX0_holdNumber_16 : decode cX0_holdNumber 16 = .ok (.iconst 2, 1) := by decide +kernel
theorem dX0_holdNumber_17 : decode cX0_holdNumber 17 = .ok (.ireturn, 1) := by decide +kernel
theorem dX0_holdNumber_18 : decode cX0_holdNumber 18 = .ok (.aload_n 1, 1) := by decide +kernel
theorem dX0_holdNumber_19 : decode cX0_holdNumber 19 = .ok (.iload_n 2, 1) := by decide +kernel
theorem dX0_holdNumber_20 : decode cX0_holdNumber 20 = .ok (.iload_n 3, 1) := by decide +kernel
theorem dX0_holdNumber_21 : decode cX0_holdNumber 21 = .ok (.iconst (-1), 1) := by decide +kernel
theorem dX0_holdNumber_22 : decode cX0_holdNumber 22 = .ok (.if_icmp .ne 8, 3) := by decide +kernel
theorem dX0_holdNumber_25 : decode cX0_holdNumber 25 = .ok (.bipush (-4), 2) := by decide +kernel
theorem dX0_holdNumber_27 : decode cX0_holdNumber 27 = .ok (.goto 4, 3) := by decide +kernel
theorem dX0_holdNumber_30 : decode cX0_holdNumber 30 = .ok (.iload_n 3, 1) := by decide +kernel
theorem dX0_holdNumber_31 : decode cX0_holdNumber 31 = .ok (.invokevirtual 92, 3) := by decide +kernel
theorem dX0_holdNumber_34 : decode cX0_holdNumber 34 = .ok (.iconst 0, 1) := by decide +kernel
theorem dX0_holdNumber_35 : decode cX0_holdNumber 35 = .ok (.ireturn, 1) := by decide +kernel
theorem dX0_makeThing_0 : decode cX0_makeThing 0 = .ok (.iload_n 3, 1) := by decide +kernel
theorem dX0_makeThing_1 : decode cX0_makeThing 1 = .ok (.iconst 4, 1) := by decide +kernel
theorem dX0_makeThing_2 : decode cX0_makeThing 2 = .ok (.if_icmp .lt 8, 3) := by decide +kernel
theorem dX0_makeThing_5 : decode cX0_makeThing 5 = .ok (.iload 4, 2) := by decide +kernel
theorem dX0_makeThing_7 : decode cX0_makeThing 7 = .ok (.goto 4, 3) := by decide +kernel
theorem dX0_makeThing_10 : decode cX0_makeThing 10 = .ok (.iconst 0, 1) := by decide +kernel
theorem dX0_makeThing_11 : decode cX0_makeThing 11 = .ok (.istore 5, 2) := by decide +kernel
theorem dX0_makeThing_13 : decode cX0_makeThing 13 = .ok (.aload_n 0, 1) := by decide +kernel
theorem dX0_makeThing_14 : decode cX0_makeThing 14 = .ok (.getfield 9, 3) := by decide +kernel
theorem dX0_makeThing_17 : decode cX0_makeThing 17 = .ok (.invokevirtual 119, 3) := by decide +kernel
theorem dX0_makeThing_20 : decode cX0_makeThing 20 = .ok (.ifCond .ne 10, 3) := by decide +kernel
theorem dX0_makeThing_23 : decode cX0_makeThing 23 = .ok (.iload 5, 2) := by decide +kernel
theorem dX0_makeThing_25 : decode cX0_makeThing 25 = .ok (.bipush 12, 2) := by decide +kernel
theorem dX0_makeThing_27 : decode cX0_makeThing 27 = .ok (.if_icmp .le 6, 3) := by decide +kernel
theorem dX0_makeThing_30 : decode cX0_makeThing 30 = .ok (.bipush 11, 2) := by decide +kernel
theorem dX0_makeThing_32 : decode cX0_makeThing 32 = .ok (.ireturn, 1) := by decide +kernel
theorem dX0_makeThing_33 : decode cX0_makeThing 33 = .ok (.iload 5, 2) := by decide +kernel
theorem dX0_makeThing_35 : decode cX0_makeThing 35 = .ok (.ifCond .ge 5, 3) := by decide +kernel
theorem dX0_makeThing_38 : decode cX0_makeThing 38 = .ok (.iconst 5, 1) := by decide +kernel
theorem dX0_makeThing_39 : decode cX0_makeThing 39 = .ok (.ireturn, 1) := by decide +kernel
theorem dX0_makeThing_40 : decode cX0_makeThing 40 = .ok (.aload_n 1, 1) := by decide +kernel
theorem dX0_makeThing_41 : decode cX0_makeThing 41 = .ok (.iload_n 2, 1) := by decide +kernel
theorem dX0_makeThing_42 : decode cX0_makeThing 42 = .ok (.aload_n 0, 1) := by decide +kernel
theorem dX0_makeThing_43 : decode cX0_makeThing 43 = .ok (.getfield 9, 3) := by decide +kernel
theorem dX0_makeThing_46 : decode cX0_makeThing 46 = .ok (.iload_n 3, 1) := by decide +kernel
theorem dX0_makeThing_47 : decode cX0_makeThing 47 = .ok (.iload 5, 2) := by decide +kernel
theorem dX0_makeThing_49 : decode cX0_makeThing 49 = .ok (.invokevirtual 122, 3) := by decide +kernel
theorem dX0_makeThing_52 : decode cX0_makeThing 52 = .ok (.invokevirtual 92, 3) := by decide +kernel
theorem dX0_makeThing_55 : decode cX0_makeThing 55 = .ok (.iconst 0, 1) := by decide +kernel
theorem dX0_makeThing_56 : decode cX0_makeThing 56 = .ok (.ireturn, 1) := by decide +kernel
theorem dX0_readCount_0 : decode cX0_readCount 0 = .ok (.aload_n 3, 1) := by decide +kernel
theorem dX0_readCount_1 : decode cX0_readCount 1 = .ok (.ifnonnull 5, 3) := by decide +kernel
theorem dX0_readCount_4 : decode cX0_readCount 4 = .ok (.iconst 1, 1) := by decide +kernel
theorem dX0_readCount_5 : decode cX0_readCount 5 = .ok (.ireturn, 1) := by decide +kernel
theorem dX0_readCount_6 : decode cX0_readCount 6 = .ok (.aload_n 3, 1) := by decide +kernel
theorem dX0_readCount_7 : decode cX0_readCount 7 = .ok (.invokevirtual 125, 3) := by decide +kernel
theorem dX0_readCount_10 : decode cX0_readCount 10 = .ok (.ifCond .ne 5, 3) := by decide +kernel
theorem dX0_readCount_13 : decode cX0_readCount 13 = .ok (.iconst 3, 1) := by decide +kernel
theorem dX0_readCount_14 : decode cX0_readCount 14 = .ok (.ireturn, 1) := by decide +kernel
theorem dX0_readCount_15 : decode cX0_readCount 15 = .ok (.aload_n 1, 1) := by decide +kernel
theorem dX0_readCount_16 : decode cX0_readCount 16 = .ok (.iload_n 2, 1) := by decide +kernel
theorem dX0_readCount_17 : decode cX0_readCount 17 = .ok (.aload_n 3, 1) := by decide +kernel
theorem dX0_readCount_18 : decode cX0_readCount 18 = .ok (.getfield 130, 3) := by decide +kernel
theorem dX0_readCount_21 : decode cX0_readCount 21 = .ok (.invokevirtual 68, 3) := by decide +kernel
theorem dX0_readCount_24 : decode cX0_readCount 24 = .ok (.iconst 0, 1) := by decide +kernel
theorem dX0_readCount_25 : decode cX0_readCount 25 = .ok (.ireturn, 1) := by decide +kernel
theorem dX0_bump_0 : decode cX0_bump 0 = .ok (.aload_n 1, 1) := by decide +kernel
theorem dX0_bump_1 : decode cX0_bump 1 = .ok (.ifnonnull 5, 3) := by decide +kernel
theorem dX0_bump_4 : decode cX0_bump 4 = .ok (.iconst 1, 1) := by decide +kernel
theorem dX0_bump_5 : decode cX0_bump 5 = .ok (.ireturn, 1) := by decide +kernel
theorem dX0_bump_6 : decode cX0_bump 6 = .ok (.aload_n 1, 1) := by decide +kernel
theorem dX0_bump_7 : decode cX0_bump 7 = .ok (.invokevirtual 125, 3) := by decide +kernel
theorem dX0_bump_10 : decode cX0_bump 10 = .ok (.ifCond .ne 5, 3) := by decide +kernel
theorem dX0_bump_13 : decode cX0_bump 13 = .ok (.iconst 3, 1) := by decide +kernel
theorem dX0_bump_14 : decode cX0_bump 14 = .ok (.ireturn, 1) := by decide +kernel
theorem dX0_bump_15 : decode cX0_bump 15 = .ok (.aload_n 1, 1) := by decide +kernel
theorem dX0_bump_16 : decode cX0_bump 16 = .ok (.dup, 1) := by decide +kernel
theorem dX0_bump_17 : decode cX0_bump 17 = .ok (.getfield 130, 3) := by decide +kernel
theorem dX0_bump_20 : decode cX0_bump 20 = .ok (.iload_n 2, 1) := by decide +kernel
theorem dX0_bump_21 : decode cX0_bump 21 = .ok (.iadd, 1) := by decide +kernel
theorem dX0_bump_22 : decode cX0_bump 22 = .ok (.putfield 130, 3) := by decide +kernel
theorem dX0_bump_25 : decode cX0_bump 25 = .ok (.iconst 0, 1) := by decide +kernel
theorem dX0_bump_26 : decode cX0_bump 26 = .ok (.ireturn, 1) := by decide +kernel
theorem dX0_weighInto_0 : decode cX0_weighInto 0 = .ok (.aload_n 3, 1) := by decide +kernel
theorem dX0_weighInto_1 : decode cX0_weighInto 1 = .ok (.ifnonnull 5, 3) := by decide +kernel
theorem dX0_weighInto_4 : decode cX0_weighInto 4 = .ok (.iconst 1, 1) := by decide +kernel
theorem dX0_weighInto_5 : decode cX0_weighInto 5 = .ok (.ireturn, 1) := by decide +kernel
theorem dX0_weighInto_6 : decode cX0_weighInto 6 = .ok (.aload_n 1, 1) := by decide +kernel
theorem dX0_weighInto_7 : decode cX0_weighInto 7 = .ok (.iload_n 2, 1) := by decide +kernel
theorem dX0_weighInto_8 : decode cX0_weighInto 8 = .ok (.aload_n 0, 1) := by decide +kernel
theorem dX0_weighInto_9 : decode cX0_weighInto 9 = .ok (.getfield 9, 3) := by decide +kernel
theorem dX0_weighInto_12 : decode cX0_weighInto 12 = .ok (.aload_n 3, 1) := by decide +kernel
theorem dX0_weighInto_13 : decode cX0_weighInto 13 = .ok (.invokevirtual 133, 3) := by decide +kernel
theorem dX0_weighInto_16 : decode cX0_weighInto 16 = .ok (.invokevirtual 68, 3) := by decide +kernel
theorem dX0_weighInto_19 : decode cX0_weighInto 19 = .ok (.iconst 0, 1) := by decide +kernel
theorem dX0_weighInto_20 : decode cX0_weighInto 20 = .ok (.ireturn, 1) := by decide +kernel
theorem dX0_readMark_0 : decode cX0_readMark 0 = .ok (.aload_n 3, 1) := by decide +kernel
theorem dX0_readMark_1 : decode cX0_readMark 1 = .ok (.ifnonnull 5, 3) := by decide +kernel
theorem dX0_readMark_4 : decode cX0_readMark 4 = .ok (.iconst 1, 1) := by decide +kernel
theorem dX0_readMark_5 : decode cX0_readMark 5 = .ok (.ireturn, 1) := by decide +kernel
theorem dX0_readMark_6 : decode cX0_readMark 6 = .ok (.aload_n 3, 1) := by decide +kernel
theorem dX0_readMark_7 : decode cX0_readMark 7 = .ok (.invokevirtual 137, 3) := by decide +kernel
theorem dX0_readMark_10 : decode cX0_readMark 10 = .ok (.ifCond .ne 5, 3) := by decide +kernel
theorem dX0_readMark_13 : decode cX0_readMark 13 = .ok (.iconst 3, 1) := by decide +kernel
theorem dX0_readMark_14 : decode cX0_readMark 14 = .ok (.ireturn, 1) := by decide +kernel
theorem dX0_readMark_15 : decode cX0_readMark 15 = .ok (.aload_n 1, 1) := by decide +kernel
theorem dX0_readMark_16 : decode cX0_readMark 16 = .ok (.iload_n 2, 1) := by decide +kernel
theorem dX0_readMark_17 : decode cX0_readMark 17 = .ok (.iconst 5, 1) := by decide +kernel
theorem dX0_readMark_18 : decode cX0_readMark 18 = .ok (.invokevirtual 68, 3) := by decide +kernel
theorem dX0_readMark_21 : decode cX0_readMark 21 = .ok (.iconst 0, 1) := by decide +kernel
theorem dX0_readMark_22 : decode cX0_readMark 22 = .ok (.ireturn, 1) := by decide +kernel
theorem dX0_useRows_0 : decode cX0_useRows 0 = .ok (.iload_n 2, 1) := by decide +kernel
theorem dX0_useRows_1 : decode cX0_useRows 1 = .ok (.tableswitch 135 16 20 #[35, 49, 69, 92, 112], 35) := by decide +kernel
theorem dX0_useRows_36 : decode cX0_useRows 36 = .ok (.aload_n 0, 1) := by decide +kernel
theorem dX0_useRows_37 : decode cX0_useRows 37 = .ok (.aload_n 1, 1) := by decide +kernel
theorem dX0_useRows_38 : decode cX0_useRows 38 = .ok (.iload_n 3, 1) := by decide +kernel
theorem dX0_useRows_39 : decode cX0_useRows 39 = .ok (.aload_n 0, 1) := by decide +kernel
theorem dX0_useRows_40 : decode cX0_useRows 40 = .ok (.aload_n 1, 1) := by decide +kernel
theorem dX0_useRows_41 : decode cX0_useRows 41 = .ok (.iload 4, 2) := by decide +kernel
theorem dX0_useRows_43 : decode cX0_useRows 43 = .ok (.invokevirtual 95, 3) := by decide +kernel
theorem dX0_useRows_46 : decode cX0_useRows 46 = .ok (.invokevirtual 140, 3) := by decide +kernel
theorem dX0_useRows_49 : decode cX0_useRows 49 = .ok (.ireturn, 1) := by decide +kernel
theorem dX0_useRows_50 : decode cX0_useRows 50 = .ok (.aload_n 0, 1) := by decide +kernel
theorem dX0_useRows_51 : decode cX0_useRows 51 = .ok (.aload_n 1, 1) := by decide +kernel
theorem dX0_useRows_52 : decode cX0_useRows 52 = .ok (.iload_n 3, 1) := by decide +kernel
theorem dX0_useRows_53 : decode cX0_useRows 53 = .ok (.aload_n 0, 1) := by decide +kernel
theorem dX0_useRows_54 : decode cX0_useRows 54 = .ok (.aload_n 1, 1) := by decide +kernel
theorem dX0_useRows_55 : decode cX0_useRows 55 = .ok (.iload 4, 2) := by decide +kernel
theorem dX0_useRows_57 : decode cX0_useRows 57 = .ok (.invokevirtual 95, 3) := by decide +kernel
theorem dX0_useRows_60 : decode cX0_useRows 60 = .ok (.aload_n 1, 1) := by decide +kernel
theorem dX0_useRows_61 : decode cX0_useRows 61 = .ok (.iload 5, 2) := by decide +kernel
theorem dX0_useRows_63 : decode cX0_useRows 63 = .ok (.invokevirtual 72, 3) := by decide +kernel
theorem dX0_useRows_66 : decode cX0_useRows 66 = .ok (.invokevirtual 143, 3) := by decide +kernel
theorem dX0_useRows_69 : decode cX0_useRows 69 = .ok (.ireturn, 1) := by decide +kernel
theorem dX0_useRows_70 : decode cX0_useRows 70 = .ok (.aload_n 0, 1) := by decide +kernel
theorem dX0_useRows_71 : decode cX0_useRows 71 = .ok (.aload_n 0, 1) := by decide +kernel
theorem dX0_useRows_72 : decode cX0_useRows 72 = .ok (.aload_n 1, 1) := by decide +kernel
theorem dX0_useRows_73 : decode cX0_useRows 73 = .ok (.iload_n 3, 1) := by decide +kernel
theorem dX0_useRows_74 : decode cX0_useRows 74 = .ok (.invokevirtual 95, 3) := by decide +kernel
theorem dX0_useRows_77 : decode cX0_useRows 77 = .ok (.aload_n 1, 1) := by decide +kernel
theorem dX0_useRows_78 : decode cX0_useRows 78 = .ok (.iload 4, 2) := by decide +kernel
theorem dX0_useRows_80 : decode cX0_useRows 80 = .ok (.invokevirtual 72, 3) := by decide +kernel
theorem dX0_useRows_83 : decode cX0_useRows 83 = .ok (.aload_n 1, 1) := by decide +kernel
theorem dX0_useRows_84 : decode cX0_useRows 84 = .ok (.iload 5, 2) := by decide +kernel
theorem dX0_useRows_86 : decode cX0_useRows 86 = .ok (.invokevirtual 72, 3) := by decide +kernel
theorem dX0_useRows_89 : decode cX0_useRows 89 = .ok (.invokevirtual 147, 3) := by decide +kernel
theorem dX0_useRows_92 : decode cX0_useRows 92 = .ok (.ireturn, 1) := by decide +kernel
theorem dX0_useRows_93 : decode cX0_useRows 93 = .ok (.aload_n 0, 1) := by decide +kernel
theorem dX0_useRows_94 : decode cX0_useRows 94 = .ok (.aload_n 1, 1) := by decide +kernel
theorem dX0_useRows_95 : decode cX0_useRows 95 = .ok (.iload_n 3, 1) := by decide +kernel
theorem dX0_useRows_96 : decode cX0_useRows 96 = .ok (.aload_n 0, 1) := by decide +kernel
theorem dX0_useRows_97 : decode cX0_useRows 97 = .ok (.aload_n 1, 1) := by decide +kernel
theorem dX0_useRows_98 : decode cX0_useRows 98 = .ok (.iload 4, 2) := by decide +kernel
theorem dX0_useRows_100 : decode cX0_useRows 100 = .ok (.invokevirtual 95, 3) := by decide +kernel
theorem dX0_useRows_103 : decode cX0_useRows 103 = .ok (.aload_n 1, 1) := by decide +kernel
theorem dX0_useRows_104 : decode cX0_useRows 104 = .ok (.iload 5, 2) := by decide +kernel
theorem dX0_useRows_106 : decode cX0_useRows 106 = .ok (.invokevirtual 72, 3) := by decide +kernel
theorem dX0_useRows_109 : decode cX0_useRows 109 = .ok (.invokevirtual 151, 3) := by decide +kernel
theorem dX0_useRows_112 : decode cX0_useRows 112 = .ok (.ireturn, 1) := by decide +kernel
theorem dX0_useRows_113 : decode cX0_useRows 113 = .ok (.aload_n 0, 1) := by decide +kernel
theorem dX0_useRows_114 : decode cX0_useRows 114 = .ok (.aload_n 0, 1) := by decide +kernel
theorem dX0_useRows_115 : decode cX0_useRows 115 = .ok (.aload_n 1, 1) := by decide +kernel
theorem dX0_useRows_116 : decode cX0_useRows 116 = .ok (.iload_n 3, 1) := by decide +kernel
theorem dX0_useRows_117 : decode cX0_useRows 117 = .ok (.invokevirtual 95, 3) := by decide +kernel
theorem dX0_useRows_120 : decode cX0_useRows 120 = .ok (.aload_n 1, 1) := by decide +kernel
theorem dX0_useRows_121 : decode cX0_useRows 121 = .ok (.iload 4, 2) := by decide +kernel
theorem dX0_useRows_123 : decode cX0_useRows 123 = .ok (.invokevirtual 72, 3) := by decide +kernel
theorem dX0_useRows_126 : decode cX0_useRows 126 = .ok (.aload_n 1, 1) := by decide +kernel
theorem dX0_useRows_127 : decode cX0_useRows 127 = .ok (.iload 5, 2) := by decide +kernel
theorem dX0_useRows_129 : decode cX0_useRows 129 = .ok (.invokevirtual 89, 3) := by decide +kernel
theorem dX0_useRows_132 : decode cX0_useRows 132 = .ok (.invokevirtual 154, 3) := by decide +kernel
theorem dX0_useRows_135 : decode cX0_useRows 135 = .ok (.ireturn, 1) := by decide +kernel
theorem dX0_useRows_136 : decode cX0_useRows 136 = .ok (.aload_n 0, 1) := by decide +kernel
theorem dX0_useRows_137 : decode cX0_useRows 137 = .ok (.aload_n 0, 1) := by decide +kernel
theorem dX0_useRows_138 : decode cX0_useRows 138 = .ok (.aload_n 1, 1) := by decide +kernel
theorem dX0_useRows_139 : decode cX0_useRows 139 = .ok (.iload_n 3, 1) := by decide +kernel
theorem dX0_useRows_140 : decode cX0_useRows 140 = .ok (.invokevirtual 95, 3) := by decide +kernel
theorem dX0_useRows_143 : decode cX0_useRows 143 = .ok (.aload_n 0, 1) := by decide +kernel
theorem dX0_useRows_144 : decode cX0_useRows 144 = .ok (.aload_n 1, 1) := by decide +kernel
theorem dX0_useRows_145 : decode cX0_useRows 145 = .ok (.iload 4, 2) := by decide +kernel
theorem dX0_useRows_147 : decode cX0_useRows 147 = .ok (.invokevirtual 95, 3) := by decide +kernel
theorem dX0_useRows_150 : decode cX0_useRows 150 = .ok (.aload_n 1, 1) := by decide +kernel
theorem dX0_useRows_151 : decode cX0_useRows 151 = .ok (.iload 5, 2) := by decide +kernel
theorem dX0_useRows_153 : decode cX0_useRows 153 = .ok (.invokevirtual 72, 3) := by decide +kernel
theorem dX0_useRows_156 : decode cX0_useRows 156 = .ok (.invokevirtual 157, 3) := by decide +kernel
theorem dX0_useRows_159 : decode cX0_useRows 159 = .ok (.ireturn, 1) := by decide +kernel
theorem dX0_readSize_0 : decode cX0_readSize 0 = .ok (.aload_n 3, 1) := by decide +kernel
theorem dX0_readSize_1 : decode cX0_readSize 1 = .ok (.ifnonnull 5, 3) := by decide +kernel
theorem dX0_readSize_4 : decode cX0_readSize 4 = .ok (.iconst 1, 1) := by decide +kernel
theorem dX0_readSize_5 : decode cX0_readSize 5 = .ok (.ireturn, 1) := by decide +kernel
theorem dX0_readSize_6 : decode cX0_readSize 6 = .ok (.aload_n 3, 1) := by decide +kernel
theorem dX0_readSize_7 : decode cX0_readSize 7 = .ok (.invokevirtual 161, 3) := by decide +kernel
theorem dX0_readSize_10 : decode cX0_readSize 10 = .ok (.ifCond .ne 5, 3) := by decide +kernel
theorem dX0_readSize_13 : decode cX0_readSize 13 = .ok (.iconst 3, 1) := by decide +kernel
theorem dX0_readSize_14 : decode cX0_readSize 14 = .ok (.ireturn, 1) := by decide +kernel
theorem dX0_readSize_15 : decode cX0_readSize 15 = .ok (.aload_n 1, 1) := by decide +kernel
theorem dX0_readSize_16 : decode cX0_readSize 16 = .ok (.iload_n 2, 1) := by decide +kernel
theorem dX0_readSize_17 : decode cX0_readSize 17 = .ok (.aload_n 3, 1) := by decide +kernel
theorem dX0_readSize_18 : decode cX0_readSize 18 = .ok (.getfield 164, 3) := by decide +kernel
theorem dX0_readSize_21 : decode cX0_readSize 21 = .ok (.arraylength, 1) := by decide +kernel
theorem dX0_readSize_22 : decode cX0_readSize 22 = .ok (.invokevirtual 68, 3) := by decide +kernel
theorem dX0_readSize_25 : decode cX0_readSize 25 = .ok (.iconst 0, 1) := by decide +kernel
theorem dX0_readSize_26 : decode cX0_readSize 26 = .ok (.ireturn, 1) := by decide +kernel
theorem dX0_readNumber_0 : decode cX0_readNumber 0 = .ok (.aload_n 3, 1) := by decide +kernel
theorem dX0_readNumber_1 : decode cX0_readNumber 1 = .ok (.ifnonnull 5, 3) := by decide +kernel
theorem dX0_readNumber_4 : decode cX0_readNumber 4 = .ok (.iconst 1, 1) := by decide +kernel
theorem dX0_readNumber_5 : decode cX0_readNumber 5 = .ok (.ireturn, 1) := by decide +kernel
theorem dX0_readNumber_6 : decode cX0_readNumber 6 = .ok (.aload_n 3, 1) := by decide +kernel
theorem dX0_readNumber_7 : decode cX0_readNumber 7 = .ok (.invokevirtual 168, 3) := by decide +kernel
theorem dX0_readNumber_10 : decode cX0_readNumber 10 = .ok (.ifCond .ne 5, 3) := by decide +kernel
theorem dX0_readNumber_13 : decode cX0_readNumber 13 = .ok (.iconst 3, 1) := by decide +kernel
theorem dX0_readNumber_14 : decode cX0_readNumber 14 = .ok (.ireturn, 1) := by decide +kernel
theorem dX0_readNumber_15 : decode cX0_readNumber 15 = .ok (.aload_n 3, 1) := by decide +kernel
theorem dX0_readNumber_16 : decode cX0_readNumber 16 = .ok (.iload 4, 2) := by decide +kernel
theorem dX0_readNumber_18 : decode cX0_readNumber 18 = .ok (.invokevirtual 171, 3) := by decide +kernel
theorem dX0_readNumber_21 : decode cX0_readNumber 21 = .ok (.ifCond .ne 5, 3) := by decide +kernel
theorem dX0_readNumber_24 : decode cX0_readNumber 24 = .ok (.iconst 2, 1) := by decide +kernel
theorem dX0_readNumber_25 : decode cX0_readNumber 25 = .ok (.ireturn, 1) := by decide +kernel
theorem dX0_readNumber_26 : decode cX0_readNumber 26 = .ok (.aload_n 1, 1) := by decide +kernel
theorem dX0_readNumber_27 : decode cX0_readNumber 27 = .ok (.iload_n 2, 1) := by decide +kernel
theorem dX0_readNumber_28 : decode cX0_readNumber 28 = .ok (.aload_n 3, 1) := by decide +kernel
theorem dX0_readNumber_29 : decode cX0_readNumber 29 = .ok (.getfield 164, 3) := by decide +kernel
theorem dX0_readNumber_32 : decode cX0_readNumber 32 = .ok (.iload 4, 2) := by decide +kernel
theorem dX0_readNumber_34 : decode cX0_readNumber 34 = .ok (.iaload, 1) := by decide +kernel
theorem dX0_readNumber_35 : decode cX0_readNumber 35 = .ok (.invokevirtual 68, 3) := by decide +kernel
theorem dX0_readNumber_38 : decode cX0_readNumber 38 = .ok (.iconst 0, 1) := by decide +kernel
theorem dX0_readNumber_39 : decode cX0_readNumber 39 = .ok (.ireturn, 1) := by decide +kernel
theorem dX0_writeNumber_0 : decode cX0_writeNumber 0 = .ok (.aload_n 1, 1) := by decide +kernel
theorem dX0_writeNumber_1 : decode cX0_writeNumber 1 = .ok (.ifnonnull 5, 3) := by decide +kernel
theorem dX0_writeNumber_4 : decode cX0_writeNumber 4 = .ok (.iconst 1, 1) := by decide +kernel
theorem dX0_writeNumber_5 : decode cX0_writeNumber 5 = .ok (.ireturn, 1) := by decide +kernel
theorem dX0_writeNumber_6 : decode cX0_writeNumber 6 = .ok (.aload_n 1, 1) := by decide +kernel
theorem dX0_writeNumber_7 : decode cX0_writeNumber 7 = .ok (.invokevirtual 168, 3) := by decide +kernel
theorem dX0_writeNumber_10 : decode cX0_writeNumber 10 = .ok (.ifCond .ne 5, 3) := by decide +kernel
theorem dX0_writeNumber_13 : decode cX0_writeNumber 13 = .ok (.iconst 3, 1) := by decide +kernel
theorem dX0_writeNumber_14 : decode cX0_writeNumber 14 = .ok (.ireturn, 1) := by decide +kernel
theorem dX0_writeNumber_15 : decode cX0_writeNumber 15 = .ok (.aload_n 1, 1) := by decide +kernel
theorem dX0_writeNumber_16 : decode cX0_writeNumber 16 = .ok (.iload_n 2, 1) := by decide +kernel
theorem dX0_writeNumber_17 : decode cX0_writeNumber 17 = .ok (.invokevirtual 171, 3) := by decide +kernel
theorem dX0_writeNumber_20 : decode cX0_writeNumber 20 = .ok (.ifCond .ne 5, 3) := by decide +kernel
theorem dX0_writeNumber_23 : decode cX0_writeNumber 23 = .ok (.iconst 2, 1) := by decide +kernel
theorem dX0_writeNumber_24 : decode cX0_writeNumber 24 = .ok (.ireturn, 1) := by decide +kernel
theorem dX0_writeNumber_25 : decode cX0_writeNumber 25 = .ok (.aload_n 1, 1) := by decide +kernel
theorem dX0_writeNumber_26 : decode cX0_writeNumber 26 = .ok (.getfield 164, 3) := by decide +kernel
theorem dX0_writeNumber_29 : decode cX0_writeNumber 29 = .ok (.iload_n 2, 1) := by decide +kernel
theorem dX0_writeNumber_30 : decode cX0_writeNumber 30 = .ok (.aload_n 1, 1) := by decide +kernel
theorem dX0_writeNumber_31 : decode cX0_writeNumber 31 = .ok (.getfield 175, 3) := by decide +kernel
theorem dX0_writeNumber_34 : decode cX0_writeNumber 34 = .ok (.iconst 5, 1) := by decide +kernel
theorem dX0_writeNumber_35 : decode cX0_writeNumber 35 = .ok (.if_icmp .ne 8, 3) := by decide +kernel
theorem dX0_writeNumber_38 : decode cX0_writeNumber 38 = .ok (.iload_n 3, 1) := by decide +kernel
theorem dX0_writeNumber_39 : decode cX0_writeNumber 39 = .ok (.i2b, 1) := by decide +kernel
theorem dX0_writeNumber_40 : decode cX0_writeNumber 40 = .ok (.goto 4, 3) := by decide +kernel
theorem dX0_writeNumber_43 : decode cX0_writeNumber 43 = .ok (.iload_n 3, 1) := by decide +kernel
theorem dX0_writeNumber_44 : decode cX0_writeNumber 44 = .ok (.iastore, 1) := by decide +kernel
theorem dX0_writeNumber_45 : decode cX0_writeNumber 45 = .ok (.iconst 0, 1) := by decide +kernel
theorem dX0_writeNumber_46 : decode cX0_writeNumber 46 = .ok (.ireturn, 1) := by decide +kernel
theorem dX0_takeThing_0 : decode cX0_takeThing 0 = .ok (.aload_n 3, 1) := by decide +kernel
theorem dX0_takeThing_1 : decode cX0_takeThing 1 = .ok (.ifnonnull 5, 3) := by decide +kernel
theorem dX0_takeThing_4 : decode cX0_takeThing 4 = .ok (.iconst 1, 1) := by decide +kernel
theorem dX0_takeThing_5 : decode cX0_takeThing 5 = .ok (.ireturn, 1) := by decide +kernel
theorem dX0_takeThing_6 : decode cX0_takeThing 6 = .ok (.aload_n 3, 1) := by decide +kernel
theorem dX0_takeThing_7 : decode cX0_takeThing 7 = .ok (.invokevirtual 178, 3) := by decide +kernel
theorem dX0_takeThing_10 : decode cX0_takeThing 10 = .ok (.ifCond .ne 5, 3) := by decide +kernel
theorem dX0_takeThing_13 : decode cX0_takeThing 13 = .ok (.iconst 3, 1) := by decide +kernel
theorem dX0_takeThing_14 : decode cX0_takeThing 14 = .ok (.ireturn, 1) := by decide +kernel
theorem dX0_takeThing_15 : decode cX0_takeThing 15 = .ok (.aload_n 3, 1) := by decide +kernel
theorem dX0_takeThing_16 : decode cX0_takeThing 16 = .ok (.iload 4, 2) := by decide +kernel
theorem dX0_takeThing_18 : decode cX0_takeThing 18 = .ok (.invokevirtual 171, 3) := by decide +kernel
theorem dX0_takeThing_21 : decode cX0_takeThing 21 = .ok (.ifCond .ne 5, 3) := by decide +kernel
theorem dX0_takeThing_24 : decode cX0_takeThing 24 = .ok (.iconst 2, 1) := by decide +kernel
theorem dX0_takeThing_25 : decode cX0_takeThing 25 = .ok (.ireturn, 1) := by decide +kernel
theorem dX0_takeThing_26 : decode cX0_takeThing 26 = .ok (.aload_n 1, 1) := by decide +kernel
theorem dX0_takeThing_27 : decode cX0_takeThing 27 = .ok (.iload_n 2, 1) := by decide +kernel
theorem dX0_takeThing_28 : decode cX0_takeThing 28 = .ok (.aload_n 3, 1) := by decide +kernel
theorem dX0_takeThing_29 : decode cX0_takeThing 29 = .ok (.getfield 164, 3) := by decide +kernel
theorem dX0_takeThing_32 : decode cX0_takeThing 32 = .ok (.iload 4, 2) := by decide +kernel
theorem dX0_takeThing_34 : decode cX0_takeThing 34 = .ok (.iaload, 1) := by decide +kernel
theorem dX0_takeThing_35 : decode cX0_takeThing 35 = .ok (.invokevirtual 92, 3) := by decide +kernel
theorem dX0_takeThing_38 : decode cX0_takeThing 38 = .ok (.iconst 0, 1) := by decide +kernel
theorem dX0_takeThing_39 : decode cX0_takeThing 39 = .ok (.ireturn, 1) := by decide +kernel
theorem dX0_putThing_0 : decode cX0_putThing 0 = .ok (.aload_n 1, 1) := by decide +kernel
theorem dX0_putThing_1 : decode cX0_putThing 1 = .ok (.ifnonnull 5, 3) := by decide +kernel
theorem dX0_putThing_4 : decode cX0_putThing 4 = .ok (.iconst 1, 1) := by decide +kernel
theorem dX0_putThing_5 : decode cX0_putThing 5 = .ok (.ireturn, 1) := by decide +kernel
theorem dX0_putThing_6 : decode cX0_putThing 6 = .ok (.aload_n 1, 1) := by decide +kernel
theorem dX0_putThing_7 : decode cX0_putThing 7 = .ok (.invokevirtual 178, 3) := by decide +kernel
theorem dX0_putThing_10 : decode cX0_putThing 10 = .ok (.ifCond .ne 5, 3) := by decide +kernel
theorem dX0_putThing_13 : decode cX0_putThing 13 = .ok (.iconst 3, 1) := by decide +kernel
theorem dX0_putThing_14 : decode cX0_putThing 14 = .ok (.ireturn, 1) := by decide +kernel
theorem dX0_putThing_15 : decode cX0_putThing 15 = .ok (.aload_n 1, 1) := by decide +kernel
theorem dX0_putThing_16 : decode cX0_putThing 16 = .ok (.iload_n 2, 1) := by decide +kernel
theorem dX0_putThing_17 : decode cX0_putThing 17 = .ok (.invokevirtual 171, 3) := by decide +kernel
theorem dX0_putThing_20 : decode cX0_putThing 20 = .ok (.ifCond .ne 5, 3) := by decide +kernel
theorem dX0_putThing_23 : decode cX0_putThing 23 = .ok (.iconst 2, 1) := by decide +kernel
theorem dX0_putThing_24 : decode cX0_putThing 24 = .ok (.ireturn, 1) := by decide +kernel
theorem dX0_putThing_25 : decode cX0_putThing 25 = .ok (.aload_n 0, 1) := by decide +kernel
theorem dX0_putThing_26 : decode cX0_putThing 26 = .ok (.getfield 9, 3) := by decide +kernel
theorem dX0_putThing_29 : decode cX0_putThing 29 = .ok (.iload_n 3, 1) := by decide +kernel
theorem dX0_putThing_30 : decode cX0_putThing 30 = .ok (.aload_n 1, 1) := by decide +kernel
theorem dX0_putThing_31 : decode cX0_putThing 31 = .ok (.invokevirtual 181, 3) := by decide +kernel
theorem dX0_putThing_34 : decode cX0_putThing 34 = .ok (.ifCond .ne 5, 3) := by decide +kernel
theorem dX0_putThing_37 : decode cX0_putThing 37 = .ok (.iconst 4, 1) := by decide +kernel
theorem dX0_putThing_38 : decode cX0_putThing 38 = .ok (.ireturn, 1) := by decide +kernel
theorem dX0_putThing_39 : decode cX0_putThing 39 = .ok (.aload_n 1, 1) := by decide +kernel
theorem dX0_putThing_40 : decode cX0_putThing 40 = .ok (.getfield 164, 3) := by decide +kernel
theorem dX0_putThing_43 : decode cX0_putThing 43 = .ok (.iload_n 2, 1) := by decide +kernel
theorem dX0_putThing_44 : decode cX0_putThing 44 = .ok (.iload_n 3, 1) := by decide +kernel
theorem dX0_putThing_45 : decode cX0_putThing 45 = .ok (.iastore, 1) := by decide +kernel
theorem dX0_putThing_46 : decode cX0_putThing 46 = .ok (.iconst 0, 1) := by decide +kernel
theorem dX0_putThing_47 : decode cX0_putThing 47 = .ok (.ireturn, 1) := by decide +kernel
theorem dX0_copy_0 : decode cX0_copy 0 = .ok (.aload_n 1, 1) := by decide +kernel
theorem dX0_copy_1 : decode cX0_copy 1 = .ok (.ifnull 10, 3) := by decide +kernel
theorem dX0_copy_4 : decode cX0_copy 4 = .ok (.aload_n 1, 1) := by decide +kernel
theorem dX0_copy_5 : decode cX0_copy 5 = .ok (.invokevirtual 161, 3) := by decide +kernel
theorem dX0_copy_8 : decode cX0_copy 8 = .ok (.ifCond .eq 14, 3) := by decide +kernel
theorem dX0_copy_11 : decode cX0_copy 11 = .ok (.aload_n 2, 1) := by decide +kernel
theorem dX0_copy_12 : decode cX0_copy 12 = .ok (.ifnull 12, 3) := by decide +kernel
theorem dX0_copy_15 : decode cX0_copy 15 = .ok (.aload_n 2, 1) := by decide +kernel
theorem dX0_copy_16 : decode cX0_copy 16 = .ok (.invokevirtual 161, 3) := by decide +kernel
theorem dX0_copy_19 : decode cX0_copy 19 = .ok (.ifCond .ne 5, 3) := by decide +kernel
theorem dX0_copy_22 : decode cX0_copy 22 = .ok (.iconst 3, 1) := by decide +kernel
theorem dX0_copy_23 : decode cX0_copy 23 = .ok (.ireturn, 1) := by decide +kernel
theorem dX0_copy_24 : decode cX0_copy 24 = .ok (.aload_n 1, 1) := by decide +kernel
theorem dX0_copy_25 : decode cX0_copy 25 = .ok (.ifnull 7, 3) := by decide +kernel
theorem dX0_copy_28 : decode cX0_copy 28 = .ok (.aload_n 2, 1) := by decide +kernel
theorem dX0_copy_29 : decode cX0_copy 29 = .ok (.ifnonnull 5, 3) := by decide +kernel
theorem dX0_copy_32 : decode cX0_copy 32 = .ok (.iconst 1, 1) := by decide +kernel
theorem dX0_copy_33 : decode cX0_copy 33 = .ok (.ireturn, 1) := by decide +kernel
theorem dX0_copy_34 : decode cX0_copy 34 = .ok (.iconst 0, 1) := by decide +kernel
theorem dX0_copy_35 : decode cX0_copy 35 = .ok (.istore 4, 2) := by decide +kernel
theorem dX0_copy_37 : decode cX0_copy 37 = .ok (.iload 4, 2) := by decide +kernel
theorem dX0_copy_39 : decode cX0_copy 39 = .ok (.aload_n 1, 1) := by decide +kernel
theorem dX0_copy_40 : decode cX0_copy 40 = .ok (.getfield 164, 3) := by decide +kernel
theorem dX0_copy_43 : decode cX0_copy 43 = .ok (.arraylength, 1) := by decide +kernel
theorem dX0_copy_44 : decode cX0_copy 44 = .ok (.if_icmp .ge 74, 3) := by decide +kernel
theorem dX0_copy_47 : decode cX0_copy 47 = .ok (.iload_n 3, 1) := by decide +kernel
theorem dX0_copy_48 : decode cX0_copy 48 = .ok (.iload 4, 2) := by decide +kernel
theorem dX0_copy_50 : decode cX0_copy 50 = .ok (.iadd, 1) := by decide +kernel
theorem dX0_copy_51 : decode cX0_copy 51 = .ok (.istore 5, 2) := by decide +kernel
theorem dX0_copy_53 : decode cX0_copy 53 = .ok (.aload_n 2, 1) := by decide +kernel
theorem dX0_copy_54 : decode cX0_copy 54 = .ok (.iload 5, 2) := by decide +kernel
theorem dX0_copy_56 : decode cX0_copy 56 = .ok (.invokevirtual 171, 3) := by decide +kernel
theorem dX0_copy_59 : decode cX0_copy 59 = .ok (.ifCond .ne 5, 3) := by decide +kernel
theorem dX0_copy_62 : decode cX0_copy 62 = .ok (.iconst 2, 1) := by decide +kernel
theorem dX0_copy_63 : decode cX0_copy 63 = .ok (.ireturn, 1) := by decide +kernel
theorem dX0_copy_64 : decode cX0_copy 64 = .ok (.aload_n 1, 1) := by decide +kernel
theorem dX0_copy_65 : decode cX0_copy 65 = .ok (.getfield 164, 3) := by decide +kernel
theorem dX0_copy_68 : decode cX0_copy 68 = .ok (.iload 4, 2) := by decide +kernel
theorem dX0_copy_70 : decode cX0_copy 70 = .ok (.iaload, 1) := by decide +kernel
theorem dX0_copy_71 : decode cX0_copy 71 = .ok (.istore 6, 2) := by decide +kernel
theorem dX0_copy_73 : decode cX0_copy 73 = .ok (.aload_n 2, 1) := by decide +kernel
theorem dX0_copy_74 : decode cX0_copy 74 = .ok (.aload_n 1, 1) := by decide +kernel
theorem dX0_copy_75 : decode cX0_copy 75 = .ok (.invokevirtual 185, 3) := by decide +kernel
theorem dX0_copy_78 : decode cX0_copy 78 = .ok (.ifCond .eq 23, 3) := by decide +kernel
theorem dX0_copy_81 : decode cX0_copy 81 = .ok (.aload_n 2, 1) := by decide +kernel
theorem dX0_copy_82 : decode cX0_copy 82 = .ok (.invokevirtual 178, 3) := by decide +kernel
theorem dX0_copy_85 : decode cX0_copy 85 = .ok (.ifCond .eq 18, 3) := by decide +kernel
theorem dX0_copy_88 : decode cX0_copy 88 = .ok (.aload_n 0, 1) := by decide +kernel
theorem dX0_copy_89 : decode cX0_copy 89 = .ok (.getfield 9, 3) := by decide +kernel
theorem dX0_copy_92 : decode cX0_copy 92 = .ok (.iload 6, 2) := by decide +kernel
theorem dX0_copy_94 : decode cX0_copy 94 = .ok (.aload_n 2, 1) := by decide +kernel
theorem dX0_copy_95 : decode cX0_copy 95 = .ok (.invokevirtual 181, 3) := by decide +kernel
theorem dX0_copy_98 : decode cX0_copy 98 = .ok (.ifCond .ne 5, 3) := by decide +kernel
theorem dX0_copy_101 : decode cX0_copy 101 = .ok (.iconst 4, 1) := by decide +kernel
theorem dX0_copy_102 : decode cX0_copy 102 = .ok (.ireturn, 1) := by decide +kernel
theorem dX0_copy_103 : decode cX0_copy 103 = .ok (.aload_n 2, 1) := by decide +kernel
theorem dX0_copy_104 : decode cX0_copy 104 = .ok (.getfield 164, 3) := by decide +kernel
theorem dX0_copy_107 : decode cX0_copy 107 = .ok (.iload 5, 2) := by decide +kernel
theorem dX0_copy_109 : decode cX0_copy 109 = .ok (.iload 6, 2) := by decide +kernel
theorem dX0_copy_111 : decode cX0_copy 111 = .ok (.iastore, 1) := by decide +kernel
theorem dX0_copy_112 : decode cX0_copy 112 = .ok (.iinc 4 1, 3) := by decide +kernel
theorem dX0_copy_115 : decode cX0_copy 115 = .ok (.goto (-78), 3) := by decide +kernel
theorem dX0_copy_118 : decode cX0_copy 118 = .ok (.iconst 0, 1) := by decide +kernel
theorem dX0_copy_119 : decode cX0_copy 119 = .ok (.ireturn, 1) := by decide +kernel
theorem dX0_useMonitors_0 : decode cX0_useMonitors 0 = .ok (.aload_n 0, 1) := by decide +kernel
theorem dX0_useMonitors_1 : decode cX0_useMonitors 1 = .ok (.aload_n 1, 1) := by decide +kernel
theorem dX0_useMonitors_2 : decode cX0_useMonitors 2 = .ok (.iload_n 3, 1) := by decide +kernel
theorem dX0_useMonitors_3 : decode cX0_useMonitors 3 = .ok (.invokevirtual 95, 3) := by decide +kernel
theorem dX0_useMonitors_6 : decode cX0_useMonitors 6 = .ok (.astore 5, 2) := by decide +kernel
theorem dX0_useMonitors_8 : decode cX0_useMonitors 8 = .ok (.aload 5, 2) := by decide +kernel
theorem dX0_useMonitors_10 : decode cX0_useMonitors 10 = .ok (.ifnonnull 5, 3) := by decide +kernel
theorem dX0_useMonitors_13 : decode cX0_useMonitors 13 = .ok (.iconst 1, 1) := by decide +kernel
theorem dX0_useMonitors_14 : decode cX0_useMonitors 14 = .ok (.ireturn, 1) := by decide +kernel
theorem dX0_useMonitors_15 : decode cX0_useMonitors 15 = .ok (.aload 5, 2) := by decide +kernel
theorem dX0_useMonitors_17 : decode cX0_useMonitors 17 = .ok (.getfield 189, 3) := by decide +kernel
theorem dX0_useMonitors_20 : decode cX0_useMonitors 20 = .ok (.aload_n 1, 1) := by decide +kernel
theorem dX0_useMonitors_21 : decode cX0_useMonitors 21 = .ok (.getfield 192, 3) := by decide +kernel
theorem dX0_useMonitors_24 : decode cX0_useMonitors 24 = .ok (.if_icmp .ne 7, 3) := by decide +kernel
theorem dX0_useMonitors_27 : decode cX0_useMonitors 27 = .ok (.iconst 1, 1) := by decide +kernel
theorem dX0_useMonitors_28 : decode cX0_useMonitors 28 = .ok (.goto 4, 3) := by decide +kernel
theorem dX0_useMonitors_31 : decode cX0_useMonitors 31 = .ok (.iconst 0, 1) := by decide +kernel
theorem dX0_useMonitors_32 : decode cX0_useMonitors 32 = .ok (.istore 6, 2) := by decide +kernel
theorem dX0_useMonitors_34 : decode cX0_useMonitors 34 = .ok (.iload_n 2, 1) := by decide +kernel
theorem dX0_useMonitors_35 : decode cX0_useMonitors 35 = .ok (.bipush 22, 2) := by decide +kernel
theorem dX0_useMonitors_37 : decode cX0_useMonitors 37 = .ok (.if_icmp .ne 13, 3) := by decide +kernel
theorem dX0_useMonitors_40 : decode cX0_useMonitors 40 = .ok (.aload_n 0, 1) := by decide +kernel
theorem dX0_useMonitors_41 : decode cX0_useMonitors 41 = .ok (.aload_n 1, 1) := by decide +kernel
theorem dX0_useMonitors_42 : decode cX0_useMonitors 42 = .ok (.aload 5, 2) := by decide +kernel
theorem dX0_useMonitors_44 : decode cX0_useMonitors 44 = .ok (.iload 6, 2) := by decide +kernel
theorem dX0_useMonitors_46 : decode cX0_useMonitors 46 = .ok (.invokevirtual 195, 3) := by decide +kernel
theorem dX0_useMonitors_49 : decode cX0_useMonitors 49 = .ok (.ireturn, 1) := by decide +kernel
theorem dX0_useMonitors_50 : decode cX0_useMonitors 50 = .ok (.iload 6, 2) := by decide +kernel
theorem dX0_useMonitors_52 : decode cX0_useMonitors 52 = .ok (.ifCond .ne 6, 3) := by decide +kernel
theorem dX0_useMonitors_55 : decode cX0_useMonitors 55 = .ok (.bipush 8, 2) := by decide +kernel
theorem dX0_useMonitors_57 : decode cX0_useMonitors 57 = .ok (.ireturn, 1) := by decide +kernel
theorem dX0_useMonitors_58 : decode cX0_useMonitors 58 = .ok (.iload_n 2, 1) := by decide +kernel
theorem dX0_useMonitors_59 : decode cX0_useMonitors 59 = .ok (.tableswitch 57 23 25 #[25, 32, 46], 25) := by decide +kernel
theorem dX0_useMonitors_84 : decode cX0_useMonitors 84 = .ok (.aload_n 0, 1) := by decide +kernel
theorem dX0_useMonitors_85 : decode cX0_useMonitors 85 = .ok (.aload 5, 2) := by decide +kernel
theorem dX0_useMonitors_87 : decode cX0_useMonitors 87 = .ok (.invokevirtual 199, 3) := by decide +kernel
theorem dX0_useMonitors_90 : decode cX0_useMonitors 90 = .ok (.ireturn, 1) := by decide +kernel
theorem dX0_useMonitors_91 : decode cX0_useMonitors 91 = .ok (.aload_n 0, 1) := by decide +kernel
theorem dX0_useMonitors_92 : decode cX0_useMonitors 92 = .ok (.aload_n 1, 1) := by decide +kernel
theorem dX0_useMonitors_93 : decode cX0_useMonitors 93 = .ok (.aload 5, 2) := by decide +kernel
theorem dX0_useMonitors_95 : decode cX0_useMonitors 95 = .ok (.aload_n 1, 1) := by decide +kernel
theorem dX0_useMonitors_96 : decode cX0_useMonitors 96 = .ok (.iload 4, 2) := by decide +kernel
theorem dX0_useMonitors_98 : decode cX0_useMonitors 98 = .ok (.invokevirtual 72, 3) := by decide +kernel
theorem dX0_useMonitors_101 : decode cX0_useMonitors 101 = .ok (.invokevirtual 202, 3) := by decide +kernel
theorem dX0_useMonitors_104 : decode cX0_useMonitors 104 = .ok (.ireturn, 1) := by decide +kernel
theorem dX0_useMonitors_105 : decode cX0_useMonitors 105 = .ok (.aload_n 0, 1) := by decide +kernel
theorem dX0_useMonitors_106 : decode cX0_useMonitors 106 = .ok (.getfield 15, 3) := by decide +kernel
theorem dX0_useMonitors_109 : decode cX0_useMonitors 109 = .ok (.aload 5, 2) := by decide +kernel
theorem dX0_useMonitors_111 : decode cX0_useMonitors 111 = .ok (.invokevirtual 206, 3) := by decide +kernel
theorem dX0_useMonitors_114 : decode cX0_useMonitors 114 = .ok (.iconst 0, 1) := by decide +kernel
theorem dX0_useMonitors_115 : decode cX0_useMonitors 115 = .ok (.ireturn, 1) := by decide +kernel
theorem dX0_useMonitors_116 : decode cX0_useMonitors 116 = .ok (.aload_n 0, 1) := by decide +kernel
theorem dX0_useMonitors_117 : decode cX0_useMonitors 117 = .ok (.getfield 15, 3) := by decide +kernel
theorem dX0_useMonitors_120 : decode cX0_useMonitors 120 = .ok (.aload 5, 2) := by decide +kernel
theorem dX0_useMonitors_122 : decode cX0_useMonitors 122 = .ok (.invokevirtual 212, 3) := by decide +kernel
theorem dX0_useMonitors_125 : decode cX0_useMonitors 125 = .ok (.iconst 0, 1) := by decide +kernel
theorem dX0_useMonitors_126 : decode cX0_useMonitors 126 = .ok (.ireturn, 1) := by decide +kernel
theorem dX0_enter_0 : decode cX0_enter 0 = .ok (.iload_n 3, 1) := by decide +kernel
theorem dX0_enter_1 : decode cX0_enter 1 = .ok (.ifCond .eq 16, 3) := by decide +kernel
theorem dX0_enter_4 : decode cX0_enter 4 = .ok (.aload_n 2, 1) := by decide +kernel
theorem dX0_enter_5 : decode cX0_enter 5 = .ok (.dup, 1) := by decide +kernel
theorem dX0_enter_6 : decode cX0_enter 6 = .ok (.getfield 215, 3) := by decide +kernel
theorem dX0_enter_9 : decode cX0_enter 9 = .ok (.iconst 1, 1) := by decide +kernel
theorem dX0_enter_10 : decode cX0_enter 10 = .ok (.iadd, 1) := by decide +kernel
theorem dX0_enter_11 : decode cX0_enter 11 = .ok (.putfield 215, 3) := by decide +kernel
theorem dX0_enter_14 : decode cX0_enter 14 = .ok (.goto 13, 3) := by decide +kernel
theorem dX0_enter_17 : decode cX0_enter 17 = .ok (.aload_n 0, 1) := by decide +kernel
theorem dX0_enter_18 : decode cX0_enter 18 = .ok (.getfield 15, 3) := by decide +kernel
theorem dX0_enter_21 : decode cX0_enter 21 = .ok (.aload_n 1, 1) := by decide +kernel
theorem dX0_enter_22 : decode cX0_enter 22 = .ok (.aload_n 2, 1) := by decide +kernel
theorem dX0_enter_23 : decode cX0_enter 23 = .ok (.iconst 1, 1) := by decide +kernel
theorem dX0_enter_24 : decode cX0_enter 24 = .ok (.invokevirtual 218, 3) := by decide +kernel
theorem dX0_enter_27 : decode cX0_enter 27 = .ok (.iconst 0, 1) := by decide +kernel
theorem dX0_enter_28 : decode cX0_enter 28 = .ok (.ireturn, 1) := by decide +kernel
theorem dX0_leave_0 : decode cX0_leave 0 = .ok (.aload_n 1, 1) := by decide +kernel
theorem dX0_leave_1 : decode cX0_leave 1 = .ok (.dup, 1) := by decide +kernel
theorem dX0_leave_2 : decode cX0_leave 2 = .ok (.getfield 215, 3) := by decide +kernel
theorem dX0_leave_5 : decode cX0_leave 5 = .ok (.iconst 1, 1) := by decide +kernel
theorem dX0_leave_6 : decode cX0_leave 6 = .ok (.isub, 1) := by decide +kernel
theorem dX0_leave_7 : decode cX0_leave 7 = .ok (.putfield 215, 3) := by decide +kernel
theorem dX0_leave_10 : decode cX0_leave 10 = .ok (.aload_n 1, 1) := by decide +kernel
theorem dX0_leave_11 : decode cX0_leave 11 = .ok (.getfield 215, 3) := by decide +kernel
theorem dX0_leave_14 : decode cX0_leave 14 = .ok (.ifCond .ne 11, 3) := by decide +kernel
theorem dX0_leave_17 : decode cX0_leave 17 = .ok (.aload_n 0, 1) := by decide +kernel
theorem dX0_leave_18 : decode cX0_leave 18 = .ok (.getfield 15, 3) := by decide +kernel
theorem dX0_leave_21 : decode cX0_leave 21 = .ok (.aload_n 1, 1) := by decide +kernel
theorem dX0_leave_22 : decode cX0_leave 22 = .ok (.invokevirtual 222, 3) := by decide +kernel
theorem dX0_leave_25 : decode cX0_leave 25 = .ok (.iconst 0, 1) := by decide +kernel
theorem dX0_leave_26 : decode cX0_leave 26 = .ok (.ireturn, 1) := by decide +kernel
theorem dX0_waitOn_0 : decode cX0_waitOn 0 = .ok (.aload_n 1, 1) := by decide +kernel
theorem dX0_waitOn_1 : decode cX0_waitOn 1 = .ok (.invokevirtual 225, 3) := by decide +kernel
theorem dX0_waitOn_4 : decode cX0_waitOn 4 = .ok (.ifCond .eq 6, 3) := by decide +kernel
theorem dX0_waitOn_7 : decode cX0_waitOn 7 = .ok (.bipush 9, 2) := by decide +kernel
theorem dX0_waitOn_9 : decode cX0_waitOn 9 = .ok (.ireturn, 1) := by decide +kernel
theorem dX0_waitOn_10 : decode cX0_waitOn 10 = .ok (.aload_n 0, 1) := by decide +kernel
theorem dX0_waitOn_11 : decode cX0_waitOn 11 = .ok (.getfield 15, 3) := by decide +kernel
theorem dX0_waitOn_14 : decode cX0_waitOn 14 = .ok (.aload_n 1, 1) := by decide +kernel
theorem dX0_waitOn_15 : decode cX0_waitOn 15 = .ok (.aload_n 2, 1) := by decide +kernel
theorem dX0_waitOn_16 : decode cX0_waitOn 16 = .ok (.iload_n 3, 1) := by decide +kernel
theorem dX0_waitOn_17 : decode cX0_waitOn 17 = .ok (.ifCond .le 14, 3) := by decide +kernel
theorem dX0_waitOn_20 : decode cX0_waitOn 20 = .ok (.aload_n 0, 1) := by decide +kernel
theorem dX0_waitOn_21 : decode cX0_waitOn 21 = .ok (.getfield 15, 3) := by decide +kernel
theorem dX0_waitOn_24 : decode cX0_waitOn 24 = .ok (.iload_n 3, 1) := by decide +kernel
theorem dX0_waitOn_25 : decode cX0_waitOn 25 = .ok (.invokevirtual 228, 3) := by decide +kernel
theorem dX0_waitOn_28 : decode cX0_waitOn 28 = .ok (.goto 5, 3) := by decide +kernel
theorem dX0_waitOn_31 : decode cX0_waitOn 31 = .ok (.bipush (-4), 2) := by decide +kernel
theorem dX0_waitOn_33 : decode cX0_waitOn 33 = .ok (.invokevirtual 231, 3) := by decide +kernel
theorem dX0_waitOn_36 : decode cX0_waitOn 36 = .ok (.aload_n 0, 1) := by decide +kernel
theorem dX0_waitOn_37 : decode cX0_waitOn 37 = .ok (.getfield 15, 3) := by decide +kernel
theorem dX0_waitOn_40 : decode cX0_waitOn 40 = .ok (.aload_n 2, 1) := by decide +kernel
theorem dX0_waitOn_41 : decode cX0_waitOn 41 = .ok (.invokevirtual 222, 3) := by decide +kernel
theorem dX0_waitOn_44 : decode cX0_waitOn 44 = .ok (.iconst 0, 1) := by decide +kernel
theorem dX0_waitOn_45 : decode cX0_waitOn 45 = .ok (.ireturn, 1) := by decide +kernel
theorem dX0_useThreads_0 : decode cX0_useThreads 0 = .ok (.aload_n 1, 1) := by decide +kernel
theorem dX0_useThreads_1 : decode cX0_useThreads 1 = .ok (.iload_n 3, 1) := by decide +kernel
theorem dX0_useThreads_2 : decode cX0_useThreads 2 = .ok (.invokevirtual 72, 3) := by decide +kernel
theorem dX0_useThreads_5 : decode cX0_useThreads 5 = .ok (.istore 4, 2) := by decide +kernel
theorem dX0_useThreads_7 : decode cX0_useThreads 7 = .ok (.iload_n 2, 1) := by decide +kernel
theorem dX0_useThreads_8 : decode cX0_useThreads 8 = .ok (.bipush 27, 2) := by decide +kernel
theorem dX0_useThreads_10 : decode cX0_useThreads 10 = .ok (.if_icmp .ne 11, 3) := by decide +kernel
theorem dX0_useThreads_13 : decode cX0_useThreads 13 = .ok (.aload_n 0, 1) := by decide +kernel
theorem dX0_useThreads_14 : decode cX0_useThreads 14 = .ok (.aload_n 1, 1) := by decide +kernel
theorem dX0_useThreads_15 : decode cX0_useThreads 15 = .ok (.iload 4, 2) := by decide +kernel
theorem dX0_useThreads_17 : decode cX0_useThreads 17 = .ok (.invokevirtual 234, 3) := by decide +kernel
theorem dX0_useThreads_20 : decode cX0_useThreads 20 = .ok (.ireturn, 1) := by decide +kernel
theorem dX0_useThreads_21 : decode cX0_useThreads 21 = .ok (.aload_n 0, 1) := by decide +kernel
theorem dX0_useThreads_22 : decode cX0_useThreads 22 = .ok (.getfield 15, 3) := by decide +kernel
theorem dX0_useThreads_25 : decode cX0_useThreads 25 = .ok (.iload 4, 2) := by decide +kernel
theorem dX0_useThreads_27 : decode cX0_useThreads 27 = .ok (.invokevirtual 238, 3) := by decide +kernel
theorem dX0_useThreads_30 : decode cX0_useThreads 30 = .ok (.astore 5, 2) := by decide +kernel
theorem dX0_useThreads_32 : decode cX0_useThreads 32 = .ok (.aload 5, 2) := by decide +kernel
theorem dX0_useThreads_34 : decode cX0_useThreads 34 = .ok (.ifnonnull 5, 3) := by decide +kernel
theorem dX0_useThreads_37 : decode cX0_useThreads 37 = .ok (.iconst 2, 1) := by decide +kernel
theorem dX0_useThreads_38 : decode cX0_useThreads 38 = .ok (.ireturn, 1) := by decide +kernel
theorem dX0_useThreads_39 : decode cX0_useThreads 39 = .ok (.iload_n 2, 1) := by decide +kernel
theorem dX0_useThreads_40 : decode cX0_useThreads 40 = .ok (.lookupswitch 43 #[(28, 28), (29, 36)], 28) := by decide +kernel
theorem dX0_useThreads_68 : decode cX0_useThreads 68 = .ok (.aload_n 0, 1) := by decide +kernel
theorem dX0_useThreads_69 : decode cX0_useThreads 69 = .ok (.aload_n 1, 1) := by decide +kernel
theorem dX0_useThreads_70 : decode cX0_useThreads 70 = .ok (.aload 5, 2) := by decide +kernel
theorem dX0_useThreads_72 : decode cX0_useThreads 72 = .ok (.invokevirtual 241, 3) := by decide +kernel
theorem dX0_useThreads_75 : decode cX0_useThreads 75 = .ok (.ireturn, 1) := by decide +kernel
theorem dX0_useThreads_76 : decode cX0_useThreads 76 = .ok (.aload_n 0, 1) := by decide +kernel
theorem dX0_useThreads_77 : decode cX0_useThreads 77 = .ok (.aload 5, 2) := by decide +kernel
theorem dX0_useThreads_79 : decode cX0_useThreads 79 = .ok (.invokevirtual 245, 3) := by decide +kernel
theorem dX0_useThreads_82 : decode cX0_useThreads 82 = .ok (.ireturn, 1) := by decide +kernel
theorem dX0_useThreads_83 : decode cX0_useThreads 83 = .ok (.aload_n 0, 1) := by decide +kernel
theorem dX0_useThreads_84 : decode cX0_useThreads 84 = .ok (.getfield 15, 3) := by decide +kernel
theorem dX0_useThreads_87 : decode cX0_useThreads 87 = .ok (.aload 5, 2) := by decide +kernel
theorem dX0_useThreads_89 : decode cX0_useThreads 89 = .ok (.invokevirtual 249, 3) := by decide +kernel
theorem dX0_useThreads_92 : decode cX0_useThreads 92 = .ok (.iconst 0, 1) := by decide +kernel
theorem dX0_useThreads_93 : decode cX0_useThreads 93 = .ok (.ireturn, 1) := by decide +kernel
theorem dX0_sleep_0 : decode cX0_sleep 0 = .ok (.aload_n 1, 1) := by decide +kernel
theorem dX0_sleep_1 : decode cX0_sleep 1 = .ok (.invokevirtual 225, 3) := by decide +kernel
theorem dX0_sleep_4 : decode cX0_sleep 4 = .ok (.ifCond .eq 6, 3) := by decide +kernel
theorem dX0_sleep_7 : decode cX0_sleep 7 = .ok (.bipush 9, 2) := by decide +kernel
theorem dX0_sleep_9 : decode cX0_sleep 9 = .ok (.ireturn, 1) := by decide +kernel
theorem dX0_sleep_10 : decode cX0_sleep 10 = .ok (.iload_n 2, 1) := by decide +kernel
theorem dX0_sleep_11 : decode cX0_sleep 11 = .ok (.ifCond .le 18, 3) := by decide +kernel
theorem dX0_sleep_14 : decode cX0_sleep 14 = .ok (.aload_n 1, 1) := by decide +kernel
theorem dX0_sleep_15 : decode cX0_sleep 15 = .ok (.iconst 5, 1) := by decide +kernel
theorem dX0_sleep_16 : decode cX0_sleep 16 = .ok (.bipush (-4), 2) := by decide +kernel
theorem dX0_sleep_18 : decode cX0_sleep 18 = .ok (.aload_n 0, 1) := by decide +kernel
theorem dX0_sleep_19 : decode cX0_sleep 19 = .ok (.getfield 15, 3) := by decide +kernel
theorem dX0_sleep_22 : decode cX0_sleep 22 = .ok (.iload_n 2, 1) := by decide +kernel
theorem dX0_sleep_23 : decode cX0_sleep 23 = .ok (.invokevirtual 228, 3) := by decide +kernel
theorem dX0_sleep_26 : decode cX0_sleep 26 = .ok (.invokevirtual 253, 3) := by decide +kernel
theorem dX0_sleep_29 : decode cX0_sleep 29 = .ok (.iconst 0, 1) := by decide +kernel
theorem dX0_sleep_30 : decode cX0_sleep 30 = .ok (.ireturn, 1) := by decide +kernel
theorem dX0_join_0 : decode cX0_join 0 = .ok (.aload_n 2, 1) := by decide +kernel
theorem dX0_join_1 : decode cX0_join 1 = .ok (.invokevirtual 257, 3) := by decide +kernel
theorem dX0_join_4 : decode cX0_join 4 = .ok (.ifCond .ne 5, 3) := by decide +kernel
theorem dX0_join_7 : decode cX0_join 7 = .ok (.iconst 0, 1) := by decide +kernel
theorem dX0_join_8 : decode cX0_join 8 = .ok (.ireturn, 1) := by decide +kernel
theorem dX0_join_9 : decode cX0_join 9 = .ok (.aload_n 1, 1) := by decide +kernel
theorem dX0_join_10 : decode cX0_join 10 = .ok (.invokevirtual 225, 3) := by decide +kernel
theorem dX0_join_13 : decode cX0_join 13 = .ok (.ifCond .eq 6, 3) := by decide +kernel
theorem dX0_join_16 : decode cX0_join 16 = .ok (.bipush 9, 2) := by decide +kernel
theorem dX0_join_18 : decode cX0_join 18 = .ok (.ireturn, 1) := by decide +kernel
theorem dX0_join_19 : decode cX0_join 19 = .ok (.aload_n 1, 1) := by decide +kernel
theorem dX0_join_20 : decode cX0_join 20 = .ok (.bipush 6, 2) := by decide +kernel
theorem dX0_join_22 : decode cX0_join 22 = .ok (.aload_n 2, 1) := by decide +kernel
theorem dX0_join_23 : decode cX0_join 23 = .ok (.getfield 192, 3) := by decide +kernel
theorem dX0_join_26 : decode cX0_join 26 = .ok (.bipush (-4), 2) := by decide +kernel
theorem dX0_join_28 : decode cX0_join 28 = .ok (.invokevirtual 253, 3) := by decide +kernel
theorem dX0_join_31 : decode cX0_join 31 = .ok (.iconst 0, 1) := by decide +kernel
theorem dX0_join_32 : decode cX0_join 32 = .ok (.ireturn, 1) := by decide +kernel
theorem dX0_startNew_0 : decode cX0_startNew 0 = .ok (.aload_n 1, 1) := by decide +kernel
theorem dX0_startNew_1 : decode cX0_startNew 1 = .ok (.getfield 260, 3) := by decide +kernel
theorem dX0_startNew_4 : decode cX0_startNew 4 = .ok (.iconst 1, 1) := by decide +kernel
theorem dX0_startNew_5 : decode cX0_startNew 5 = .ok (.if_icmp .eq 6, 3) := by decide +kernel
theorem dX0_startNew_8 : decode cX0_startNew 8 = .ok (.bipush 10, 2) := by decide +kernel
theorem dX0_startNew_10 : decode cX0_startNew 10 = .ok (.ireturn, 1) := by decide +kernel
theorem dX0_startNew_11 : decode cX0_startNew 11 = .ok (.aload_n 1, 1) := by decide +kernel
theorem dX0_startNew_12 : decode cX0_startNew 12 = .ok (.iconst 2, 1) := by decide +kernel
theorem dX0_startNew_13 : decode cX0_startNew 13 = .ok (.bipush (-4), 2) := by decide +kernel
theorem dX0_startNew_15 : decode cX0_startNew 15 = .ok (.bipush (-4), 2) := by decide +kernel
theorem dX0_startNew_17 : decode cX0_startNew 17 = .ok (.invokevirtual 253, 3) := by decide +kernel
theorem dX0_startNew_20 : decode cX0_startNew 20 = .ok (.iconst 0, 1) := by decide +kernel
theorem dX0_startNew_21 : decode cX0_startNew 21 = .ok (.ireturn, 1) := by decide +kernel
theorem dX0_useHandlers_0 : decode cX0_useHandlers 0 = .ok (.iload_n 2, 1) := by decide +kernel
theorem dX0_useHandlers_1 : decode cX0_useHandlers 1 = .ok (.tableswitch 129 31 35 #[35, 54, 66, 86, 108], 35) := by decide +kernel
theorem dX0_useHandlers_36 : decode cX0_useHandlers 36 = .ok (.aload_n 1, 1) := by decide +kernel
theorem dX0_useHandlers_37 : decode cX0_useHandlers 37 = .ok (.iload_n 3, 1) := by decide +kernel
theorem dX0_useHandlers_38 : decode cX0_useHandlers 38 = .ok (.aload_n 1, 1) := by decide +kernel
theorem dX0_useHandlers_39 : decode cX0_useHandlers 39 = .ok (.invokevirtual 225, 3) := by decide +kernel
theorem dX0_useHandlers_42 : decode cX0_useHandlers 42 = .ok (.ifCond .eq 7, 3) := by decide +kernel
theorem dX0_useHandlers_45 : decode cX0_useHandlers 45 = .ok (.iconst 1, 1) := by decide +kernel
theorem dX0_useHandlers_46 : decode cX0_useHandlers 46 = .ok (.goto 4, 3) := by decide +kernel
theorem dX0_useHandlers_49 : decode cX0_useHandlers 49 = .ok (.iconst 0, 1) := by decide +kernel
theorem dX0_useHandlers_50 : decode cX0_useHandlers 50 = .ok (.invokevirtual 68, 3) := by decide +kernel
theorem dX0_useHandlers_53 : decode cX0_useHandlers 53 = .ok (.iconst 0, 1) := by decide +kernel
theorem dX0_useHandlers_54 : decode cX0_useHandlers 54 = .ok (.ireturn, 1) := by decide +kernel
theorem dX0_useHandlers_55 : decode cX0_useHandlers 55 = .ok (.aload_n 1, 1) := by decide +kernel
theorem dX0_useHandlers_56 : decode cX0_useHandlers 56 = .ok (.aload_n 1, 1) := by decide +kernel
theorem dX0_useHandlers_57 : decode cX0_useHandlers 57 = .ok (.iload_n 3, 1) := by decide +kernel
theorem dX0_useHandlers_58 : decode cX0_useHandlers 58 = .ok (.invokevirtual 72, 3) := by decide +kernel
theorem dX0_useHandlers_61 : decode cX0_useHandlers 61 = .ok (.putfield 263, 3) := by decide +kernel
theorem dX0_useHandlers_64 : decode cX0_useHandlers 64 = .ok (.bipush 7, 2) := by decide +kernel
theorem dX0_useHandlers_66 : decode cX0_useHandlers 66 = .ok (.ireturn, 1) := by decide +kernel
theorem dX0_useHandlers_67 : decode cX0_useHandlers 67 = .ok (.aload_n 1, 1) := by decide +kernel
theorem dX0_useHandlers_68 : decode cX0_useHandlers 68 = .ok (.getfield 266, 3) := by decide +kernel
theorem dX0_useHandlers_71 : decode cX0_useHandlers 71 = .ok (.iload_n 3, 1) := by decide +kernel
theorem dX0_useHandlers_72 : decode cX0_useHandlers 72 = .ok (.iload 4, 2) := by decide +kernel
theorem dX0_useHandlers_74 : decode cX0_useHandlers 74 = .ok (.invokevirtual 270, 3) := by decide +kernel
theorem dX0_useHandlers_77 : decode cX0_useHandlers 77 = .ok (.ifCond .eq 7, 3) := by decide +kernel
theorem dX0_useHandlers_80 : decode cX0_useHandlers 80 = .ok (.iconst 0, 1) := by decide +kernel
theorem dX0_useHandlers_81 : decode cX0_useHandlers 81 = .ok (.goto 5, 3) := by decide +kernel
theorem dX0_useHandlers_84 : decode cX0_useHandlers 84 = .ok (.bipush 11, 2) := by decide +kernel
theorem dX0_useHandlers_86 : decode cX0_useHandlers 86 = .ok (.ireturn, 1) := by decide +kernel
theorem dX0_useHandlers_87 : decode cX0_useHandlers 87 = .ok (.aload_n 1, 1) := by decide +kernel
theorem dX0_useHandlers_88 : decode cX0_useHandlers 88 = .ok (.getfield 266, 3) := by decide +kernel
theorem dX0_useHandlers_91 : decode cX0_useHandlers 91 = .ok (.aload_n 1, 1) := by decide +kernel
theorem dX0_useHandlers_92 : decode cX0_useHandlers 92 = .ok (.getfield 266, 3) := by decide +kernel
theorem dX0_useHandlers_95 : decode cX0_useHandlers 95 = .ok (.getfield 276, 3) := by decide +kernel
theorem dX0_useHandlers_98 : decode cX0_useHandlers 98 = .ok (.iconst 1, 1) := by decide +kernel
theorem dX0_useHandlers_99 : decode cX0_useHandlers 99 = .ok (.isub, 1) := by decide +kernel
theorem dX0_useHandlers_100 : decode cX0_useHandlers 100 = .ok (.iconst 0, 1) := by decide +kernel
theorem dX0_useHandlers_101 : decode cX0_useHandlers 101 = .ok (.invokestatic 279, 3) := by decide +kernel
theorem dX0_useHandlers_104 : decode cX0_useHandlers 104 = .ok (.putfield 276, 3) := by decide +kernel
theorem dX0_useHandlers_107 : decode cX0_useHandlers 107 = .ok (.iconst 0, 1) := by decide +kernel
theorem dX0_useHandlers_108 : decode cX0_useHandlers 108 = .ok (.ireturn, 1) := by decide +kernel
theorem dX0_useHandlers_109 : decode cX0_useHandlers 109 = .ok (.aload_n 1, 1) := by decide +kernel
theorem dX0_useHandlers_110 : decode cX0_useHandlers 110 = .ok (.iload_n 3, 1) := by decide +kernel
theorem dX0_useHandlers_111 : decode cX0_useHandlers 111 = .ok (.aload_n 1, 1) := by decide +kernel
theorem dX0_useHandlers_112 : decode cX0_useHandlers 112 = .ok (.getfield 284, 3) := by decide +kernel
theorem dX0_useHandlers_115 : decode cX0_useHandlers 115 = .ok (.invokevirtual 68, 3) := by decide +kernel
theorem dX0_useHandlers_118 : decode cX0_useHandlers 118 = .ok (.aload_n 1, 1) := by decide +kernel
theorem dX0_useHandlers_119 : decode cX0_useHandlers 119 = .ok (.iload 4, 2) := by decide +kernel
theorem dX0_useHandlers_121 : decode cX0_useHandlers 121 = .ok (.aload_n 1, 1) := by decide +kernel
theorem dX0_useHandlers_122 : decode cX0_useHandlers 122 = .ok (.getfield 287, 3) := by decide +kernel
theorem dX0_useHandlers_125 : decode cX0_useHandlers 125 = .ok (.invokevirtual 68, 3) := by decide +kernel
theorem dX0_useHandlers_128 : decode cX0_useHandlers 128 = .ok (.iconst 0, 1) := by decide +kernel
theorem dX0_useHandlers_129 : decode cX0_useHandlers 129 = .ok (.ireturn, 1) := by decide +kernel
theorem dX0_useHandlers_130 : decode cX0_useHandlers 130 = .ok (.iconst 0, 1) := by decide +kernel
theorem dX0_useHandlers_131 : decode cX0_useHandlers 131 = .ok (.ireturn, 1) := by decide +kernel
theorem dX1_init_0 : decode cX1_init 0 = .ok (.aload_n 0, 1) := by decide +kernel
theorem dX1_init_1 : decode cX1_init 1 = .ok (.invokespecial 3, 3) := by decide +kernel
theorem dX1_init_4 : decode cX1_init 4 = .ok (.aload_n 0, 1) := by decide +kernel
theorem dX1_init_5 : decode cX1_init 5 = .ok (.bipush 6, 2) := by decide +kernel
theorem dX1_init_7 : decode cX1_init 7 = .ok (.anewarray 9, 3) := by decide +kernel
theorem dX1_init_10 : decode cX1_init 10 = .ok (.putfield 11, 3) := by decide +kernel
theorem dX1_init_13 : decode cX1_init 13 = .ok (.aload_n 0, 1) := by decide +kernel
theorem dX1_init_14 : decode cX1_init 14 = .ok (.aload_n 1, 1) := by decide +kernel
theorem dX1_init_15 : decode cX1_init 15 = .ok (.putfield 17, 3) := by decide +kernel
theorem dX1_init_18 : decode cX1_init 18 = .ok (.iconst 0, 1) := by decide +kernel
theorem dX1_init_19 : decode cX1_init 19 = .ok (.istore_n 2, 1) := by decide +kernel
theorem dX1_init_20 : decode cX1_init 20 = .ok (.iload_n 2, 1) := by decide +kernel
theorem dX1_init_21 : decode cX1_init 21 = .ok (.bipush 6, 2) := by decide +kernel
theorem dX1_init_23 : decode cX1_init 23 = .ok (.if_icmp .ge 23, 3) := by decide +kernel
theorem dX1_init_26 : decode cX1_init 26 = .ok (.aload_n 0, 1) := by decide +kernel
theorem dX1_init_27 : decode cX1_init 27 = .ok (.getfield 11, 3) := by decide +kernel
theorem dX1_init_30 : decode cX1_init 30 = .ok (.iload_n 2, 1) := by decide +kernel
theorem dX1_init_31 : decode cX1_init 31 = .ok (.new 9, 3) := by decide +kernel
theorem dX1_init_34 : decode cX1_init 34 = .ok (.dup, 1) := by decide +kernel
theorem dX1_init_35 : decode cX1_init 35 = .ok (.iload_n 2, 1) := by decide +kernel
theorem dX1_init_36 : decode cX1_init 36 = .ok (.invokespecial 21, 3) := by decide +kernel
theorem dX1_init_39 : decode cX1_init 39 = .ok (.aastore, 1) := by decide +kernel
theorem dX1_init_40 : decode cX1_init 40 = .ok (.iinc 2 1, 3) := by decide +kernel
theorem dX1_init_43 : decode cX1_init 43 = .ok (.goto (-23), 3) := by decide +kernel
theorem dX1_init_46 : decode cX1_init 46 = .ok (.return_, 1) := by decide +kernel
theorem dX1_at_0 : decode cX1_at 0 = .ok (.iload_n 1, 1) := by decide +kernel
theorem dX1_at_1 : decode cX1_at 1 = .ok (.ifCond .lt 18, 3) := by decide +kernel
theorem dX1_at_4 : decode cX1_at 4 = .ok (.iload_n 1, 1) := by decide +kernel
theorem dX1_at_5 : decode cX1_at 5 = .ok (.bipush 6, 2) := by decide +kernel
theorem dX1_at_7 : decode cX1_at 7 = .ok (.if_icmp .ge 12, 3) := by decide +kernel
theorem dX1_at_10 : decode cX1_at 10 = .ok (.aload_n 0, 1) := by decide +kernel
theorem dX1_at_11 : decode cX1_at 11 = .ok (.getfield 11, 3) := by decide +kernel
theorem dX1_at_14 : decode cX1_at 14 = .ok (.iload_n 1, 1) := by decide +kernel
theorem dX1_at_15 : decode cX1_at 15 = .ok (.aaload, 1) := by decide +kernel
theorem dX1_at_16 : decode cX1_at 16 = .ok (.goto 4, 3) := by decide +kernel
theorem dX1_at_19 : decode cX1_at 19 = .ok (.aconst_null, 1) := by decide +kernel
theorem dX1_at_20 : decode cX1_at 20 = .ok (.areturn, 1) := by decide +kernel
theorem dX1_isInUse_0 : decode cX1_isInUse 0 = .ok (.aload_n 0, 1) := by decide +kernel
theorem dX1_isInUse_1 : decode cX1_isInUse 1 = .ok (.getfield 11, 3) := by decide +kernel
theorem dX1_isInUse_4 : decode cX1_isInUse 4 = .ok (.astore_n 2, 1) := by decide +kernel
theorem dX1_isInUse_5 : decode cX1_isInUse 5 = .ok (.aload_n 2, 1) := by decide +kernel
theorem dX1_isInUse_6 : decode cX1_isInUse 6 = .ok (.arraylength, 1) := by decide +kernel
theorem dX1_isInUse_7 : decode cX1_isInUse 7 = .ok (.istore_n 3, 1) := by decide +kernel
theorem dX1_isInUse_8 : decode cX1_isInUse 8 = .ok (.iconst 0, 1) := by decide +kernel
theorem dX1_isInUse_9 : decode cX1_isInUse 9 = .ok (.istore 4, 2) := by decide +kernel
theorem dX1_isInUse_11 : decode cX1_isInUse 11 = .ok (.iload 4, 2) := by decide +kernel
theorem dX1_isInUse_13 : decode cX1_isInUse 13 = .ok (.iload_n 3, 1) := by decide +kernel
theorem dX1_isInUse_14 : decode cX1_isInUse 14 = .ok (.if_icmp .ge 34, 3) := by decide +kernel
theorem dX1_isInUse_17 : decode cX1_isInUse 17 = .ok (.aload_n 2, 1) := by decide +kernel
theorem dX1_isInUse_18 : decode cX1_isInUse 18 = .ok (.iload 4, 2) := by decide +kernel
theorem dX1_isInUse_20 : decode cX1_isInUse 20 = .ok (.aaload, 1) := by decide +kernel
theorem dX1_isInUse_21 : decode cX1_isInUse 21 = .ok (.astore 5, 2) := by decide +kernel
theorem dX1_isInUse_23 : decode cX1_isInUse 23 = .ok (.aload 5, 2) := by decide +kernel
theorem dX1_isInUse_25 : decode cX1_isInUse 25 = .ok (.getfield 24, 3) := by decide +kernel
theorem dX1_isInUse_28 : decode cX1_isInUse 28 = .ok (.aload_n 1, 1) := by decide +kernel
theorem dX1_isInUse_29 : decode cX1_isInUse 29 = .ok (.if_acmp .ne 13, 3) := by decide +kernel
theorem dX1_isInUse_32 : decode cX1_isInUse 32 = .ok (.aload 5, 2) := by decide +kernel
theorem dX1_isInUse_34 : decode cX1_isInUse 34 = .ok (.invokevirtual 28, 3) := by decide +kernel
theorem dX1_isInUse_37 : decode cX1_isInUse 37 = .ok (.ifCond .eq 5, 3) := by decide +kernel
theorem dX1_isInUse_40 : decode cX1_isInUse 40 = .ok (.iconst 1, 1) := by decide +kernel
theorem dX1_isInUse_41 : decode cX1_isInUse 41 = .ok (.ireturn, 1) := by decide +kernel
theorem dX1_isInUse_42 : decode cX1_isInUse 42 = .ok (.iinc 4 1, 3) := by decide +kernel
theorem dX1_isInUse_45 : decode cX1_isInUse 45 = .ok (.goto (-34), 3) := by decide +kernel
theorem dX1_isInUse_48 : decode cX1_isInUse 48 = .ok (.iconst 0, 1) := by decide +kernel
theorem dX1_isInUse_49 : decode cX1_isInUse 49 = .ok (.ireturn, 1) := by decide +kernel
theorem dX1_howManyUnderWay_0 : decode cX1_howManyUnderWay 0 = .ok (.iconst 0, 1) := by decide +kernel
theorem dX1_howManyUnderWay_1 : decode cX1_howManyUnderWay 1 = .ok (.istore_n 1, 1) := by decide +kernel
theorem dX1_howManyUnderWay_2 : decode cX1_howManyUnderWay 2 = .ok (.aload_n 0, 1) := by decide +kernel
theorem dX1_howManyUnderWay_3 : decode cX1_howManyUnderWay 3 = .ok (.getfield 11, 3) := by decide +kernel
theorem dX1_howManyUnderWay_6 : decode cX1_howManyUnderWay 6 = .ok (.astore_n 2, 1) := by decide +kernel
theorem dX1_howManyUnderWay_7 : decode cX1_howManyUnderWay 7 = .ok (.aload_n 2, 1) := by decide +kernel
theorem dX1_howManyUnderWay_8 : decode cX1_howManyUnderWay 8 = .ok (.arraylength, 1) := by decide +kernel
theorem dX1_howManyUnderWay_9 : decode cX1_howManyUnderWay 9 = .ok (.istore_n 3, 1) := by decide +kernel
theorem dX1_howManyUnderWay_10 : decode cX1_howManyUnderWay 10 = .ok (.iconst 0, 1) := by decide +kernel
theorem dX1_howManyUnderWay_11 : decode cX1_howManyUnderWay 11 = .ok (.istore 4, 2) := by decide +kernel
theorem dX1_howManyUnderWay_13 : decode cX1_howManyUnderWay 13 = .ok (.iload 4, 2) := by decide +kernel
theorem dX1_howManyUnderWay_15 : decode cX1_howManyUnderWay 15 = .ok (.iload_n 3, 1) := by decide +kernel
theorem dX1_howManyUnderWay_16 : decode cX1_howManyUnderWay 16 = .ok (.if_icmp .ge 26, 3) := by decide +kernel
theorem dX1_howManyUnderWay_19 : decode cX1_howManyUnderWay 19 = .ok (.aload_n 2, 1) := by decide +kernel
theorem dX1_howManyUnderWay_20 : decode cX1_howManyUnderWay 20 = .ok (.iload 4, 2) := by decide +kernel
theorem dX1_howManyUnderWay_22 : decode cX1_howManyUnderWay 22 = .ok (.aaload, 1) := by decide +kernel
theorem dX1_howManyUnderWay_23 : decode cX1_howManyUnderWay 23 = .ok (.astore 5, 2) := by decide +kernel
theorem dX1_howManyUnderWay_25 : decode cX1_howManyUnderWay 25 = .ok (.aload 5, 2) := by decide +kernel
theorem dX1_howManyUnderWay_27 : decode cX1_howManyUnderWay 27 = .ok (.invokevirtual 28, 3) := by decide +kernel
theorem dX1_howManyUnderWay_30 : decode cX1_howManyUnderWay 30 = .ok (.ifCond .eq 6, 3) := by decide +kernel
theorem dX1_howManyUnderWay_33 : decode cX1_howManyUnderWay 33 = .ok (.iinc 1 1, 3) := by decide +kernel
theorem dX1_howManyUnderWay_36 : decode cX1_howManyUnderWay 36 = .ok (.iinc 4 1, 3) := by decide +kernel
theorem dX1_howManyUnderWay_39 : decode cX1_howManyUnderWay 39 = .ok (.goto (-26), 3) := by decide +kernel
theorem dX1_howManyUnderWay_42 : decode cX1_howManyUnderWay 42 = .ok (.iload_n 1, 1) := by decide +kernel
theorem dX1_howManyUnderWay_43 : decode cX1_howManyUnderWay 43 = .ok (.ireturn, 1) := by decide +kernel
theorem dX1_howMany_0 : decode cX1_howMany 0 = .ok (.iconst 0, 1) := by decide +kernel
theorem dX1_howMany_1 : decode cX1_howMany 1 = .ok (.istore_n 3, 1) := by decide +kernel
theorem dX1_howMany_2 : decode cX1_howMany 2 = .ok (.aload_n 0, 1) := by decide +kernel
theorem dX1_howMany_3 : decode cX1_howMany 3 = .ok (.getfield 11, 3) := by decide +kernel
theorem dX1_howMany_6 : decode cX1_howMany 6 = .ok (.astore 4, 2) := by decide +kernel
theorem dX1_howMany_8 : decode cX1_howMany 8 = .ok (.aload 4, 2) := by decide +kernel
theorem dX1_howMany_10 : decode cX1_howMany 10 = .ok (.arraylength, 1) := by decide +kernel
theorem dX1_howMany_11 : decode cX1_howMany 11 = .ok (.istore 5, 2) := by decide +kernel
theorem dX1_howMany_13 : decode cX1_howMany 13 = .ok (.iconst 0, 1) := by decide +kernel
theorem dX1_howMany_14 : decode cX1_howMany 14 = .ok (.istore 6, 2) := by decide +kernel
theorem dX1_howMany_16 : decode cX1_howMany 16 = .ok (.iload 6, 2) := by decide +kernel
theorem dX1_howMany_18 : decode cX1_howMany 18 = .ok (.iload 5, 2) := by decide +kernel
theorem dX1_howMany_20 : decode cX1_howMany 20 = .ok (.if_icmp .ge 37, 3) := by decide +kernel
theorem dX1_howMany_23 : decode cX1_howMany 23 = .ok (.aload 4, 2) := by decide +kernel
theorem dX1_howMany_25 : decode cX1_howMany 25 = .ok (.iload 6, 2) := by decide +kernel
theorem dX1_howMany_27 : decode cX1_howMany 27 = .ok (.aaload, 1) := by decide +kernel
theorem dX1_howMany_28 : decode cX1_howMany 28 = .ok (.astore 7, 2) := by decide +kernel
theorem dX1_howMany_30 : decode cX1_howMany 30 = .ok (.aload 7, 2) := by decide +kernel
theorem dX1_howMany_32 : decode cX1_howMany 32 = .ok (.getfield 32, 3) := by decide +kernel
theorem dX1_howMany_35 : decode cX1_howMany 35 = .ok (.iload_n 1, 1) := by decide +kernel
theorem dX1_howMany_36 : decode cX1_howMany 36 = .ok (.if_icmp .ne 15, 3) := by decide +kernel
theorem dX1_howMany_39 : decode cX1_howMany 39 = .ok (.aload 7, 2) := by decide +kernel
theorem dX1_howMany_41 : decode cX1_howMany 41 = .ok (.getfield 36, 3) := by decide +kernel
theorem dX1_howMany_44 : decode cX1_howMany 44 = .ok (.iload_n 2, 1) := by decide +kernel
theorem dX1_howMany_45 : decode cX1_howMany 45 = .ok (.if_icmp .ne 6, 3) := by decide +kernel
theorem dX1_howMany_48 : decode cX1_howMany 48 = .ok (.iinc 3 1, 3) := by decide +kernel
theorem dX1_howMany_51 : decode cX1_howMany 51 = .ok (.iinc 6 1, 3) := by decide +kernel
theorem dX1_howMany_54 : decode cX1_howMany 54 = .ok (.goto (-38), 3) := by decide +kernel
theorem dX1_howMany_57 : decode cX1_howMany 57 = .ok (.iload_n 3, 1) := by decide +kernel
theorem dX1_howMany_58 : decode cX1_howMany 58 = .ok (.ireturn, 1) := by decide +kernel
theorem dX1_isOver_0 : decode cX1_isOver 0 = .ok (.aload_n 0, 1) := by decide +kernel
theorem dX1_isOver_1 : decode cX1_isOver 1 = .ok (.invokevirtual 39, 3) := by decide +kernel
theorem dX1_isOver_4 : decode cX1_isOver 4 = .ok (.ifCond .ne 7, 3) := by decide +kernel
theorem dX1_isOver_7 : decode cX1_isOver 7 = .ok (.iconst 1, 1) := by decide +kernel
theorem dX1_isOver_8 : decode cX1_isOver 8 = .ok (.goto 4, 3) := by decide +kernel
theorem dX1_isOver_11 : decode cX1_isOver 11 = .ok (.iconst 0, 1) := by decide +kernel
theorem dX1_isOver_12 : decode cX1_isOver 12 = .ok (.ireturn, 1) := by decide +kernel
theorem dX1_isStuck_0 : decode cX1_isStuck 0 = .ok (.aload_n 0, 1) := by decide +kernel
theorem dX1_isStuck_1 : decode cX1_isStuck 1 = .ok (.getfield 11, 3) := by decide +kernel
theorem dX1_isStuck_4 : decode cX1_isStuck 4 = .ok (.astore_n 1, 1) := by decide +kernel
theorem dX1_isStuck_5 : decode cX1_isStuck 5 = .ok (.aload_n 1, 1) := by decide +kernel
theorem dX1_isStuck_6 : decode cX1_isStuck 6 = .ok (.arraylength, 1) := by decide +kernel
theorem dX1_isStuck_7 : decode cX1_isStuck 7 = .ok (.istore_n 2, 1) := by decide +kernel
theorem dX1_isStuck_8 : decode cX1_isStuck 8 = .ok (.iconst 0, 1) := by decide +kernel
theorem dX1_isStuck_9 : decode cX1_isStuck 9 = .ok (.istore_n 3, 1) := by decide +kernel
theorem dX1_isStuck_10 : decode cX1_isStuck 10 = .ok (.iload_n 3, 1) := by decide +kernel
theorem dX1_isStuck_11 : decode cX1_isStuck 11 = .ok (.iload_n 2, 1) := by decide +kernel
theorem dX1_isStuck_12 : decode cX1_isStuck 12 = .ok (.if_icmp .ge 35, 3) := by decide +kernel
theorem dX1_isStuck_15 : decode cX1_isStuck 15 = .ok (.aload_n 1, 1) := by decide +kernel
theorem dX1_isStuck_16 : decode cX1_isStuck 16 = .ok (.iload_n 3, 1) := by decide +kernel
theorem dX1_isStuck_17 : decode cX1_isStuck 17 = .ok (.aaload, 1) := by decide +kernel
theorem dX1_isStuck_18 : decode cX1_isStuck 18 = .ok (.astore 4, 2) := by decide +kernel
theorem dX1_isStuck_20 : decode cX1_isStuck 20 = .ok (.aload 4, 2) := by decide +kernel
theorem dX1_isStuck_22 : decode cX1_isStuck 22 = .ok (.getfield 32, 3) := by decide +kernel
theorem dX1_isStuck_25 : decode cX1_isStuck 25 = .ok (.iconst 2, 1) := by decide +kernel
theorem dX1_isStuck_26 : decode cX1_isStuck 26 = .ok (.if_icmp .eq 13, 3) := by decide +kernel
theorem dX1_isStuck_29 : decode cX1_isStuck 29 = .ok (.aload 4, 2) := by decide +kernel
theorem dX1_isStuck_31 : decode cX1_isStuck 31 = .ok (.getfield 43, 3) := by decide +kernel
theorem dX1_isStuck_34 : decode cX1_isStuck 34 = .ok (.bipush (-4), 2) := by decide +kernel
theorem dX1_isStuck_36 : decode cX1_isStuck 36 = .ok (.if_icmp .eq 5, 3) := by decide +kernel
theorem dX1_isStuck_39 : decode cX1_isStuck 39 = .ok (.iconst 0, 1) := by decide +kernel
theorem dX1_isStuck_40 : decode cX1_isStuck 40 = .ok (.ireturn, 1) := by decide +kernel
theorem dX1_isStuck_41 : decode cX1_isStuck 41 = .ok (.iinc 3 1, 3) := by decide +kernel
theorem dX1_isStuck_44 : decode cX1_isStuck 44 = .ok (.goto (-34), 3) := by decide +kernel
theorem dX1_isStuck_47 : decode cX1_isStuck 47 = .ok (.aload_n 0, 1) := by decide +kernel
theorem dX1_isStuck_48 : decode cX1_isStuck 48 = .ok (.invokevirtual 46, 3) := by decide +kernel
theorem dX1_isStuck_51 : decode cX1_isStuck 51 = .ok (.ifCond .ne 7, 3) := by decide +kernel
theorem dX1_isStuck_54 : decode cX1_isStuck 54 = .ok (.iconst 1, 1) := by decide +kernel
theorem dX1_isStuck_55 : decode cX1_isStuck 55 = .ok (.goto 4, 3) := by decide +kernel
theorem dX1_isStuck_58 : decode cX1_isStuck 58 = .ok (.iconst 0, 1) := by decide +kernel
theorem dX1_isStuck_59 : decode cX1_isStuck 59 = .ok (.ireturn, 1) := by decide +kernel
theorem dX1_passTime_0 : decode cX1_passTime 0 = .ok (.aload_n 0, 1) := by decide +kernel
theorem dX1_passTime_1 : decode cX1_passTime 1 = .ok (.dup, 1) := by decide +kernel
theorem dX1_passTime_2 : decode cX1_passTime 2 = .ok (.getfield 49, 3) := by decide +kernel
theorem dX1_passTime_5 : decode cX1_passTime 5 = .ok (.iconst 1, 1) := by decide +kernel
theorem dX1_passTime_6 : decode cX1_passTime 6 = .ok (.iadd, 1) := by decide +kernel
theorem dX1_passTime_7 : decode cX1_passTime 7 = .ok (.putfield 49, 3) := by decide +kernel
theorem dX1_passTime_10 : decode cX1_passTime 10 = .ok (.aload_n 0, 1) := by decide +kernel
theorem dX1_passTime_11 : decode cX1_passTime 11 = .ok (.getfield 11, 3) := by decide +kernel
theorem dX1_passTime_14 : decode cX1_passTime 14 = .ok (.astore_n 1, 1) := by decide +kernel
theorem dX1_passTime_15 : decode cX1_passTime 15 = .ok (.aload_n 1, 1) := by decide +kernel
theorem dX1_passTime_16 : decode cX1_passTime 16 = .ok (.arraylength, 1) := by decide +kernel
theorem dX1_passTime_17 : decode cX1_passTime 17 = .ok (.istore_n 2, 1) := by decide +kernel
theorem dX1_passTime_18 : decode cX1_passTime 18 = .ok (.iconst 0, 1) := by decide +kernel
theorem dX1_passTime_19 : decode cX1_passTime 19 = .ok (.istore_n 3, 1) := by decide +kernel
theorem dX1_passTime_20 : decode cX1_passTime 20 = .ok (.iload_n 3, 1) := by decide +kernel
theorem dX1_passTime_21 : decode cX1_passTime 21 = .ok (.iload_n 2, 1) := by decide +kernel
theorem dX1_passTime_22 : decode cX1_passTime 22 = .ok (.if_icmp .ge 84, 3) := by decide +kernel
theorem dX1_passTime_25 : decode cX1_passTime 25 = .ok (.aload_n 1, 1) := by decide +kernel
theorem dX1_passTime_26 : decode cX1_passTime 26 = .ok (.iload_n 3, 1) := by decide +kernel
theorem dX1_passTime_27 : decode cX1_passTime 27 = .ok (.aaload, 1) := by decide +kernel
theorem dX1_passTime_28 : decode cX1_passTime 28 = .ok (.astore 4, 2) := by decide +kernel
theorem dX1_passTime_30 : decode cX1_passTime 30 = .ok (.aload 4, 2) := by decide +kernel
theorem dX1_passTime_32 : decode cX1_passTime 32 = .ok (.getfield 43, 3) := by decide +kernel
theorem dX1_passTime_35 : decode cX1_passTime 35 = .ok (.bipush (-4), 2) := by decide +kernel
theorem dX1_passTime_37 : decode cX1_passTime 37 = .ok (.if_icmp .eq 63, 3) := by decide +kernel
theorem dX1_passTime_40 : decode cX1_passTime 40 = .ok (.aload 4, 2) := by decide +kernel
theorem dX1_passTime_42 : decode cX1_passTime 42 = .ok (.getfield 43, 3) := by decide +kernel
theorem dX1_passTime_45 : decode cX1_passTime 45 = .ok (.aload_n 0, 1) := by decide +kernel
theorem dX1_passTime_46 : decode cX1_passTime 46 = .ok (.getfield 49, 3) := by decide +kernel
theorem dX1_passTime_49 : decode cX1_passTime 49 = .ok (.if_icmp .le 6, 3) := by decide +kernel
theorem dX1_passTime_52 : decode cX1_passTime 52 = .ok (.goto 48, 3) := by decide +kernel
theorem dX1_passTime_55 : decode cX1_passTime 55 = .ok (.aload 4, 2) := by decide +kernel
theorem dX1_passTime_57 : decode cX1_passTime 57 = .ok (.getfield 32, 3) := by decide +kernel
theorem dX1_passTime_60 : decode cX1_passTime 60 = .ok (.iconst 4, 1) := by decide +kernel
theorem dX1_passTime_61 : decode cX1_passTime 61 = .ok (.if_icmp .ne 29, 3) := by decide +kernel
theorem dX1_passTime_64 : decode cX1_passTime 64 = .ok (.aload_n 0, 1) := by decide +kernel
theorem dX1_passTime_65 : decode cX1_passTime 65 = .ok (.aload 4, 2) := by decide +kernel
theorem dX1_passTime_67 : decode cX1_passTime 67 = .ok (.aload_n 0, 1) := by decide +kernel
theorem dX1_passTime_68 : decode cX1_passTime 68 = .ok (.getfield 17, 3) := by decide +kernel
theorem dX1_passTime_71 : decode cX1_passTime 71 = .ok (.aload 4, 2) := by decide +kernel
theorem dX1_passTime_73 : decode cX1_passTime 73 = .ok (.getfield 36, 3) := by decide +kernel
theorem dX1_passTime_76 : decode cX1_passTime 76 = .ok (.invokevirtual 52, 3) := by decide +kernel
theorem dX1_passTime_79 : decode cX1_passTime 79 = .ok (.aload 4, 2) := by decide +kernel
theorem dX1_passTime_81 : decode cX1_passTime 81 = .ok (.getfield 58, 3) := by decide +kernel
theorem dX1_passTime_84 : decode cX1_passTime 84 = .ok (.invokevirtual 61, 3) := by decide +kernel
theorem dX1_passTime_87 : decode cX1_passTime 87 = .ok (.goto 13, 3) := by decide +kernel
theorem dX1_passTime_90 : decode cX1_passTime 90 = .ok (.aload 4, 2) := by decide +kernel
theorem dX1_passTime_92 : decode cX1_passTime 92 = .ok (.iconst 2, 1) := by decide +kernel
theorem dX1_passTime_93 : decode cX1_passTime 93 = .ok (.bipush (-4), 2) := by decide +kernel
theorem dX1_passTime_95 : decode cX1_passTime 95 = .ok (.bipush (-4), 2) := by decide +kernel
theorem dX1_passTime_97 : decode cX1_passTime 97 = .ok (.invokevirtual 65, 3) := by decide +kernel
theorem dX1_passTime_100 : decode cX1_passTime 100 = .ok (.iinc 3 1, 3) := by decide +kernel
theorem dX1_passTime_103 : decode cX1_passTime 103 = .ok (.goto (-83), 3) := by decide +kernel
theorem dX1_passTime_106 : decode cX1_passTime 106 = .ok (.return_, 1) := by decide +kernel
theorem dX1_firstReadyBehind_0 : decode cX1_firstReadyBehind 0 = .ok (.iconst 1, 1) := by decide +kernel
theorem dX1_firstReadyBehind_1 : decode cX1_firstReadyBehind 1 = .ok (.istore_n 2, 1) := by decide +kernel
theorem dX1_firstReadyBehind_2 : decode cX1_firstReadyBehind 2 = .ok (.iload_n 2, 1) := by decide +kernel
theorem dX1_firstReadyBehind_3 : decode cX1_firstReadyBehind 3 = .ok (.bipush 6, 2) := by decide +kernel
theorem dX1_firstReadyBehind_5 : decode cX1_firstReadyBehind 5 = .ok (.if_icmp .gt 36, 3) := by decide +kernel
theorem dX1_firstReadyBehind_8 : decode cX1_firstReadyBehind 8 = .ok (.aload_n 0, 1) := by decide +kernel
theorem dX1_firstReadyBehind_9 : decode cX1_firstReadyBehind 9 = .ok (.iload_n 1, 1) := by decide +kernel
theorem dX1_firstReadyBehind_10 : decode cX1_firstReadyBehind 10 = .ok (.iload_n 2, 1) := by decide +kernel
theorem dX1_firstReadyBehind_11 : decode cX1_firstReadyBehind 11 = .ok (.iadd, 1) := by decide +kernel
theorem dX1_firstReadyBehind_12 : decode cX1_firstReadyBehind 12 = .ok (.bipush 6, 2) := by decide +kernel
theorem dX1_firstReadyBehind_14 : decode cX1_firstReadyBehind 14 = .ok (.invokestatic 69, 3) := by decide +kernel
theorem dX1_firstReadyBehind_17 : decode cX1_firstReadyBehind 17 = .ok (.invokevirtual 75, 3) := by decide +kernel
theorem dX1_firstReadyBehind_20 : decode cX1_firstReadyBehind 20 = .ok (.astore_n 3, 1) := by decide +kernel
theorem dX1_firstReadyBehind_21 : decode cX1_firstReadyBehind 21 = .ok (.aload_n 3, 1) := by decide +kernel
theorem dX1_firstReadyBehind_22 : decode cX1_firstReadyBehind 22 = .ok (.ifnull 13, 3) := by decide +kernel
theorem dX1_firstReadyBehind_25 : decode cX1_firstReadyBehind 25 = .ok (.aload_n 3, 1) := by decide +kernel
theorem dX1_firstReadyBehind_26 : decode cX1_firstReadyBehind 26 = .ok (.getfield 32, 3) := by decide +kernel
theorem dX1_firstReadyBehind_29 : decode cX1_firstReadyBehind 29 = .ok (.iconst 2, 1) := by decide +kernel
theorem dX1_firstReadyBehind_30 : decode cX1_firstReadyBehind 30 = .ok (.if_icmp .ne 5, 3) := by decide +kernel
theorem dX1_firstReadyBehind_33 : decode cX1_firstReadyBehind 33 = .ok (.aload_n 3, 1) := by decide +kernel
theorem dX1_firstReadyBehind_34 : decode cX1_firstReadyBehind 34 = .ok (.areturn, 1) := by decide +kernel
theorem dX1_firstReadyBehind_35 : decode cX1_firstReadyBehind 35 = .ok (.iinc 2 1, 3) := by decide +kernel
theorem dX1_firstReadyBehind_38 : decode cX1_firstReadyBehind 38 = .ok (.goto (-36), 3) := by decide +kernel
theorem dX1_firstReadyBehind_41 : decode cX1_firstReadyBehind 41 = .ok (.aconst_null, 1) := by decide +kernel
theorem dX1_firstReadyBehind_42 : decode cX1_firstReadyBehind 42 = .ok (.areturn, 1) := by decide +kernel
theorem dX1_readyOfGreatestRank_0 : decode cX1_readyOfGreatestRank 0 = .ok (.aconst_null, 1) := by decide +kernel
theorem dX1_readyOfGreatestRank_1 : decode cX1_readyOfGreatestRank 1 = .ok (.astore_n 1, 1) := by decide +kernel
theorem dX1_readyOfGreatestRank_2 : decode cX1_readyOfGreatestRank 2 = .ok (.aload_n 0, 1) := by decide +kernel
theorem dX1_readyOfGreatestRank_3 : decode cX1_readyOfGreatestRank 3 = .ok (.getfield 11, 3) := by decide +kernel
theorem dX1_readyOfGreatestRank_6 : decode cX1_readyOfGreatestRank 6 = .ok (.astore_n 2, 1) := by decide +kernel
theorem dX1_readyOfGreatestRank_7 : decode cX1_readyOfGreatestRank 7 = .ok (.aload_n 2, 1) := by decide +kernel
theorem dX1_readyOfGreatestRank_8 : decode cX1_readyOfGreatestRank 8 = .ok (.arraylength, 1) := by decide +kernel
theorem dX1_readyOfGreatestRank_9 : decode cX1_readyOfGreatestRank 9 = .ok (.istore_n 3, 1) := by decide +kernel
theorem dX1_readyOfGreatestRank_10 : decode cX1_readyOfGreatestRank 10 = .ok (.iconst 0, 1) := by decide +kernel
theorem dX1_readyOfGreatestRank_11 : decode cX1_readyOfGreatestRank 11 = .ok (.istore 4, 2) := by decide +kernel
theorem dX1_readyOfGreatestRank_13 : decode cX1_readyOfGreatestRank 13 = .ok (.iload 4, 2) := by decide +kernel
theorem dX1_readyOfGreatestRank_15 : decode cX1_readyOfGreatestRank 15 = .ok (.iload_n 3, 1) := by decide +kernel
theorem dX1_readyOfGreatestRank_16 : decode cX1_readyOfGreatestRank 16 = .ok (.if_icmp .ge 43, 3) := by decide +kernel
theorem dX1_readyOfGreatestRank_19 : decode cX1_readyOfGreatestRank 19 = .ok (.aload_n 2, 1) := by decide +kernel
theorem dX1_readyOfGreatestRank_20 : decode cX1_readyOfGreatestRank 20 = .ok (.iload 4, 2) := by decide +kernel
theorem dX1_readyOfGreatestRank_22 : decode cX1_readyOfGreatestRank 22 = .ok (.aaload, 1) := by decide +kernel
theorem dX1_readyOfGreatestRank_23 : decode cX1_readyOfGreatestRank 23 = .ok (.astore 5, 2) := by decide +kernel
theorem dX1_readyOfGreatestRank_25 : decode cX1_readyOfGreatestRank 25 = .ok (.aload 5, 2) := by decide +kernel
theorem dX1_readyOfGreatestRank_27 : decode cX1_readyOfGreatestRank 27 = .ok (.getfield 32, 3) := by decide +kernel
theorem dX1_readyOfGreatestRank_30 : decode cX1_readyOfGreatestRank 30 = .ok (.iconst 2, 1) := by decide +kernel
theorem dX1_readyOfGreatestRank_31 : decode cX1_readyOfGreatestRank 31 = .ok (.if_icmp .ne 22, 3) := by decide +kernel
theorem dX1_readyOfGreatestRank_34 : decode cX1_readyOfGreatestRank 34 = .ok (.aload_n 1, 1) := by decide +kernel
theorem dX1_readyOfGreatestRank_35 : decode cX1_readyOfGreatestRank 35 = .ok (.ifnull 15, 3) := by decide +kernel
theorem dX1_readyOfGreatestRank_38 : decode cX1_readyOfGreatestRank 38 = .ok (.aload 5, 2) := by decide +kernel
theorem dX1_readyOfGreatestRank_40 : decode cX1_readyOfGreatestRank 40 = .ok (.getfield 78, 3) := by decide +kernel
theorem dX1_readyOfGreatestRank_43 : decode cX1_readyOfGreatestRank 43 = .ok (.aload_n 1, 1) := by decide +kernel
theorem dX1_readyOfGreatestRank_44 : decode cX1_readyOfGreatestRank 44 = .ok (.getfield 78, 3) := by decide +kernel
theorem dX1_readyOfGreatestRank_47 : decode cX1_readyOfGreatestRank 47 = .ok (.if_icmp .le 6, 3) := by decide +kernel
theorem dX1_readyOfGreatestRank_50 : decode cX1_readyOfGreatestRank 50 = .ok (.aload 5, 2) := by decide +kernel
theorem dX1_readyOfGreatestRank_52 : decode cX1_readyOfGreatestRank 52 = .ok (.astore_n 1, 1) := by decide +kernel
theorem dX1_readyOfGreatestRank_53 : decode cX1_readyOfGreatestRank 53 = .ok (.iinc 4 1, 3) := by decide +kernel
theorem dX1_readyOfGreatestRank_56 : decode cX1_readyOfGreatestRank 56 = .ok (.goto (-43), 3) := by decide +kernel
theorem dX1_readyOfGreatestRank_59 : decode cX1_readyOfGreatestRank 59 = .ok (.aload_n 1, 1) := by decide +kernel
theorem dX1_readyOfGreatestRank_60 : decode cX1_readyOfGreatestRank 60 = .ok (.areturn, 1) := by decide +kernel
theorem dX1_getIn_0 : decode cX1_getIn 0 = .ok (.aload_n 2, 1) := by decide +kernel
theorem dX1_getIn_1 : decode cX1_getIn 1 = .ok (.ifnonnull 4, 3) := by decide +kernel
theorem dX1_getIn_4 : decode cX1_getIn 4 = .ok (.return_, 1) := by decide +kernel
theorem dX1_getIn_5 : decode cX1_getIn 5 = .ok (.aload_n 2, 1) := by decide +kernel
theorem dX1_getIn_6 : decode cX1_getIn 6 = .ok (.getfield 81, 3) := by decide +kernel
theorem dX1_getIn_9 : decode cX1_getIn 9 = .ok (.bipush (-4), 2) := by decide +kernel
theorem dX1_getIn_11 : decode cX1_getIn 11 = .ok (.if_icmp .ne 22, 3) := by decide +kernel
theorem dX1_getIn_14 : decode cX1_getIn 14 = .ok (.aload_n 2, 1) := by decide +kernel
theorem dX1_getIn_15 : decode cX1_getIn 15 = .ok (.aload_n 1, 1) := by decide +kernel
theorem dX1_getIn_16 : decode cX1_getIn 16 = .ok (.getfield 86, 3) := by decide +kernel
theorem dX1_getIn_19 : decode cX1_getIn 19 = .ok (.iload_n 3, 1) := by decide +kernel
theorem dX1_getIn_20 : decode cX1_getIn 20 = .ok (.invokevirtual 89, 3) := by decide +kernel
theorem dX1_getIn_23 : decode cX1_getIn 23 = .ok (.aload_n 1, 1) := by decide +kernel
theorem dX1_getIn_24 : decode cX1_getIn 24 = .ok (.iconst 2, 1) := by decide +kernel
theorem dX1_getIn_25 : decode cX1_getIn 25 = .ok (.bipush (-4), 2) := by decide +kernel
theorem dX1_getIn_27 : decode cX1_getIn 27 = .ok (.bipush (-4), 2) := by decide +kernel
theorem dX1_getIn_29 : decode cX1_getIn 29 = .ok (.invokevirtual 65, 3) := by decide +kernel
theorem dX1_getIn_32 : decode cX1_getIn 32 = .ok (.return_, 1) := by decide +kernel
theorem dX1_getIn_33 : decode cX1_getIn 33 = .ok (.aload_n 1, 1) := by decide +kernel
theorem dX1_getIn_34 : decode cX1_getIn 34 = .ok (.iconst 3, 1) := by decide +kernel
theorem dX1_getIn_35 : decode cX1_getIn 35 = .ok (.aload_n 2, 1) := by decide +kernel
theorem dX1_getIn_36 : decode cX1_getIn 36 = .ok (.getfield 93, 3) := by decide +kernel
theorem dX1_getIn_39 : decode cX1_getIn 39 = .ok (.bipush (-4), 2) := by decide +kernel
theorem dX1_getIn_41 : decode cX1_getIn 41 = .ok (.invokevirtual 65, 3) := by decide +kernel
theorem dX1_getIn_44 : decode cX1_getIn 44 = .ok (.aload_n 1, 1) := by decide +kernel
theorem dX1_getIn_45 : decode cX1_getIn 45 = .ok (.iload_n 3, 1) := by decide +kernel
theorem dX1_getIn_46 : decode cX1_getIn 46 = .ok (.putfield 58, 3) := by decide +kernel
theorem dX1_getIn_49 : decode cX1_getIn 49 = .ok (.aload_n 0, 1) := by decide +kernel
theorem dX1_getIn_50 : decode cX1_getIn 50 = .ok (.aload_n 1, 1) := by decide +kernel
theorem dX1_getIn_51 : decode cX1_getIn 51 = .ok (.invokevirtual 94, 3) := by decide +kernel
theorem dX1_getIn_54 : decode cX1_getIn 54 = .ok (.return_, 1) := by decide +kernel
theorem dX1_stamp_0 : decode cX1_stamp 0 = .ok (.aload_n 1, 1) := by decide +kernel
theorem dX1_stamp_1 : decode cX1_stamp 1 = .ok (.aload_n 0, 1) := by decide +kernel
theorem dX1_stamp_2 : decode cX1_stamp 2 = .ok (.getfield 98, 3) := by decide +kernel
theorem dX1_stamp_5 : decode cX1_stamp 5 = .ok (.putfield 101, 3) := by decide +kernel
theorem dX1_stamp_8 : decode cX1_stamp 8 = .ok (.aload_n 0, 1) := by decide +kernel
theorem dX1_stamp_9 : decode cX1_stamp 9 = .ok (.dup, 1) := by decide +kernel
theorem dX1_stamp_10 : decode cX1_stamp 10 = .ok (.getfield 98, 3) := by decide +kernel
theorem dX1_stamp_13 : decode cX1_stamp 13 = .ok (.iconst 1, 1) := by decide +kernel
theorem dX1_stamp_14 : decode cX1_stamp 14 = .ok (.iadd, 1) := by decide +kernel
theorem dX1_stamp_15 : decode cX1_stamp 15 = .ok (.putfield 98, 3) := by decide +kernel
theorem dX1_stamp_18 : decode cX1_stamp 18 = .ok (.return_, 1) := by decide +kernel
theorem dX1_vacate_0 : decode cX1_vacate 0 = .ok (.aload_n 1, 1) := by decide +kernel
theorem dX1_vacate_1 : decode cX1_vacate 1 = .ok (.bipush (-4), 2) := by decide +kernel
theorem dX1_vacate_3 : decode cX1_vacate 3 = .ok (.iconst 0, 1) := by decide +kernel
theorem dX1_vacate_4 : decode cX1_vacate 4 = .ok (.invokevirtual 89, 3) := by decide +kernel
theorem dX1_vacate_7 : decode cX1_vacate 7 = .ok (.aload_n 0, 1) := by decide +kernel
theorem dX1_vacate_8 : decode cX1_vacate 8 = .ok (.iconst 3, 1) := by decide +kernel
theorem dX1_vacate_9 : decode cX1_vacate 9 = .ok (.aload_n 1, 1) := by decide +kernel
theorem dX1_vacate_10 : decode cX1_vacate 10 = .ok (.getfield 93, 3) := by decide +kernel
theorem dX1_vacate_13 : decode cX1_vacate 13 = .ok (.invokevirtual 103, 3) := by decide +kernel
theorem dX1_vacate_16 : decode cX1_vacate 16 = .ok (.astore_n 2, 1) := by decide +kernel
theorem dX1_vacate_17 : decode cX1_vacate 17 = .ok (.aload_n 2, 1) := by decide +kernel
theorem dX1_vacate_18 : decode cX1_vacate 18 = .ok (.ifnull 24, 3) := by decide +kernel
theorem dX1_vacate_21 : decode cX1_vacate 21 = .ok (.aload_n 1, 1) := by decide +kernel
theorem dX1_vacate_22 : decode cX1_vacate 22 = .ok (.aload_n 2, 1) := by decide +kernel
theorem dX1_vacate_23 : decode cX1_vacate 23 = .ok (.getfield 86, 3) := by decide +kernel
theorem dX1_vacate_26 : decode cX1_vacate 26 = .ok (.aload_n 2, 1) := by decide +kernel
theorem dX1_vacate_27 : decode cX1_vacate 27 = .ok (.getfield 58, 3) := by decide +kernel
theorem dX1_vacate_30 : decode cX1_vacate 30 = .ok (.invokevirtual 89, 3) := by decide +kernel
theorem dX1_vacate_33 : decode cX1_vacate 33 = .ok (.aload_n 2, 1) := by decide +kernel
theorem dX1_vacate_34 : decode cX1_vacate 34 = .ok (.iconst 2, 1) := by decide +kernel
theorem dX1_vacate_35 : decode cX1_vacate 35 = .ok (.bipush (-4), 2) := by decide +kernel
theorem dX1_vacate_37 : decode cX1_vacate 37 = .ok (.bipush (-4), 2) := by decide +kernel
theorem dX1_vacate_39 : decode cX1_vacate 39 = .ok (.invokevirtual 65, 3) := by decide +kernel
theorem dX1_vacate_42 : decode cX1_vacate 42 = .ok (.return_, 1) := by decide +kernel
theorem dX1_await_0 : decode cX1_await 0 = .ok (.aload_n 1, 1) := by decide +kernel
theorem dX1_await_1 : decode cX1_await 1 = .ok (.aload_n 2, 1) := by decide +kernel
theorem dX1_await_2 : decode cX1_await 2 = .ok (.getfield 107, 3) := by decide +kernel
theorem dX1_await_5 : decode cX1_await 5 = .ok (.putfield 58, 3) := by decide +kernel
theorem dX1_await_8 : decode cX1_await 8 = .ok (.aload_n 1, 1) := by decide +kernel
theorem dX1_await_9 : decode cX1_await 9 = .ok (.iconst 4, 1) := by decide +kernel
theorem dX1_await_10 : decode cX1_await 10 = .ok (.aload_n 2, 1) := by decide +kernel
theorem dX1_await_11 : decode cX1_await 11 = .ok (.getfield 93, 3) := by decide +kernel
theorem dX1_await_14 : decode cX1_await 14 = .ok (.iload_n 3, 1) := by decide +kernel
theorem dX1_await_15 : decode cX1_await 15 = .ok (.invokevirtual 65, 3) := by decide +kernel
theorem dX1_await_18 : decode cX1_await 18 = .ok (.aload_n 0, 1) := by decide +kernel
theorem dX1_await_19 : decode cX1_await 19 = .ok (.aload_n 1, 1) := by decide +kernel
theorem dX1_await_20 : decode cX1_await 20 = .ok (.invokevirtual 94, 3) := by decide +kernel
theorem dX1_await_23 : decode cX1_await 23 = .ok (.return_, 1) := by decide +kernel
theorem dX1_tellNext_0 : decode cX1_tellNext 0 = .ok (.aload_n 0, 1) := by decide +kernel
theorem dX1_tellNext_1 : decode cX1_tellNext 1 = .ok (.iconst 4, 1) := by decide +kernel
theorem dX1_tellNext_2 : decode cX1_tellNext 2 = .ok (.aload_n 1, 1) := by decide +kernel
theorem dX1_tellNext_3 : decode cX1_tellNext 3 = .ok (.getfield 93, 3) := by decide +kernel
theorem dX1_tellNext_6 : decode cX1_tellNext 6 = .ok (.invokevirtual 103, 3) := by decide +kernel
theorem dX1_tellNext_9 : decode cX1_tellNext 9 = .ok (.astore_n 2, 1) := by decide +kernel
theorem dX1_tellNext_10 : decode cX1_tellNext 10 = .ok (.aload_n 2, 1) := by decide +kernel
theorem dX1_tellNext_11 : decode cX1_tellNext 11 = .ok (.ifnull 13, 3) := by decide +kernel
theorem dX1_tellNext_14 : decode cX1_tellNext 14 = .ok (.aload_n 0, 1) := by decide +kernel
theorem dX1_tellNext_15 : decode cX1_tellNext 15 = .ok (.aload_n 2, 1) := by decide +kernel
theorem dX1_tellNext_16 : decode cX1_tellNext 16 = .ok (.aload_n 1, 1) := by decide +kernel
theorem dX1_tellNext_17 : decode cX1_tellNext 17 = .ok (.aload_n 2, 1) := by decide +kernel
theorem dX1_tellNext_18 : decode cX1_tellNext 18 = .ok (.getfield 58, 3) := by decide +kernel
theorem dX1_tellNext_21 : decode cX1_tellNext 21 = .ok (.invokevirtual 61, 3) := by decide +kernel
theorem dX1_tellNext_24 : decode cX1_tellNext 24 = .ok (.return_, 1) := by decide +kernel
theorem dX1_tellEach_0 : decode cX1_tellEach 0 = .ok (.aload_n 0, 1) := by decide +kernel
theorem dX1_tellEach_1 : decode cX1_tellEach 1 = .ok (.getfield 11, 3) := by decide +kernel
theorem dX1_tellEach_4 : decode cX1_tellEach 4 = .ok (.astore_n 2, 1) := by decide +kernel
theorem dX1_tellEach_5 : decode cX1_tellEach 5 = .ok (.aload_n 2, 1) := by decide +kernel
theorem dX1_tellEach_6 : decode cX1_tellEach 6 = .ok (.arraylength, 1) := by decide +kernel
theorem dX1_tellEach_7 : decode cX1_tellEach 7 = .ok (.istore_n 3, 1) := by decide +kernel
theorem dX1_tellEach_8 : decode cX1_tellEach 8 = .ok (.iconst 0, 1) := by decide +kernel
theorem dX1_tellEach_9 : decode cX1_tellEach 9 = .ok (.istore 4, 2) := by decide +kernel
theorem dX1_tellEach_11 : decode cX1_tellEach 11 = .ok (.iload 4, 2) := by decide +kernel
theorem dX1_tellEach_13 : decode cX1_tellEach 13 = .ok (.iload_n 3, 1) := by decide +kernel
theorem dX1_tellEach_14 : decode cX1_tellEach 14 = .ok (.if_icmp .ge 48, 3) := by decide +kernel
theorem dX1_tellEach_17 : decode cX1_tellEach 17 = .ok (.aload_n 2, 1) := by decide +kernel
theorem dX1_tellEach_18 : decode cX1_tellEach 18 = .ok (.iload 4, 2) := by decide +kernel
theorem dX1_tellEach_20 : decode cX1_tellEach 20 = .ok (.aaload, 1) := by decide +kernel
theorem dX1_tellEach_21 : decode cX1_tellEach 21 = .ok (.astore 5, 2) := by decide +kernel
theorem dX1_tellEach_23 : decode cX1_tellEach 23 = .ok (.aload 5, 2) := by decide +kernel
theorem dX1_tellEach_25 : decode cX1_tellEach 25 = .ok (.getfield 32, 3) := by decide +kernel
theorem dX1_tellEach_28 : decode cX1_tellEach 28 = .ok (.iconst 4, 1) := by decide +kernel
theorem dX1_tellEach_29 : decode cX1_tellEach 29 = .ok (.if_icmp .ne 27, 3) := by decide +kernel
theorem dX1_tellEach_32 : decode cX1_tellEach 32 = .ok (.aload 5, 2) := by decide +kernel
theorem dX1_tellEach_34 : decode cX1_tellEach 34 = .ok (.getfield 36, 3) := by decide +kernel
theorem dX1_tellEach_37 : decode cX1_tellEach 37 = .ok (.aload_n 1, 1) := by decide +kernel
theorem dX1_tellEach_38 : decode cX1_tellEach 38 = .ok (.getfield 93, 3) := by decide +kernel
theorem dX1_tellEach_41 : decode cX1_tellEach 41 = .ok (.if_icmp .ne 15, 3) := by decide +kernel
theorem dX1_tellEach_44 : decode cX1_tellEach 44 = .ok (.aload_n 0, 1) := by decide +kernel
theorem dX1_tellEach_45 : decode cX1_tellEach 45 = .ok (.aload 5, 2) := by decide +kernel
theorem dX1_tellEach_47 : decode cX1_tellEach 47 = .ok (.aload_n 1, 1) := by decide +kernel
theorem dX1_tellEach_48 : decode cX1_tellEach 48 = .ok (.aload 5, 2) := by decide +kernel
theorem dX1_tellEach_50 : decode cX1_tellEach 50 = .ok (.getfield 58, 3) := by decide +kernel
theorem dX1_tellEach_53 : decode cX1_tellEach 53 = .ok (.invokevirtual 61, 3) := by decide +kernel
theorem dX1_tellEach_56 : decode cX1_tellEach 56 = .ok (.iinc 4 1, 3) := by decide +kernel
theorem dX1_tellEach_59 : decode cX1_tellEach 59 = .ok (.goto (-48), 3) := by decide +kernel
theorem dX1_tellEach_62 : decode cX1_tellEach 62 = .ok (.return_, 1) := by decide +kernel
theorem dX1_next_0 : decode cX1_next 0 = .ok (.aconst_null, 1) := by decide +kernel
theorem dX1_next_1 : decode cX1_next 1 = .ok (.astore_n 3, 1) := by decide +kernel
theorem dX1_next_2 : decode cX1_next 2 = .ok (.aload_n 0, 1) := by decide +kernel
theorem dX1_next_3 : decode cX1_next 3 = .ok (.getfield 11, 3) := by decide +kernel
theorem dX1_next_6 : decode cX1_next 6 = .ok (.astore 4, 2) := by decide +kernel
theorem dX1_next_8 : decode cX1_next 8 = .ok (.aload 4, 2) := by decide +kernel
theorem dX1_next_10 : decode cX1_next 10 = .ok (.arraylength, 1) := by decide +kernel
theorem dX1_next_11 : decode cX1_next 11 = .ok (.istore 5, 2) := by decide +kernel
theorem dX1_next_13 : decode cX1_next 13 = .ok (.iconst 0, 1) := by decide +kernel
theorem dX1_next_14 : decode cX1_next 14 = .ok (.istore 6, 2) := by decide +kernel
theorem dX1_next_16 : decode cX1_next 16 = .ok (.iload 6, 2) := by decide +kernel
theorem dX1_next_18 : decode cX1_next 18 = .ok (.iload 5, 2) := by decide +kernel
theorem dX1_next_20 : decode cX1_next 20 = .ok (.if_icmp .ge 92, 3) := by decide +kernel
theorem dX1_next_23 : decode cX1_next 23 = .ok (.aload 4, 2) := by decide +kernel
theorem dX1_next_25 : decode cX1_next 25 = .ok (.iload 6, 2) := by decide +kernel
theorem dX1_next_27 : decode cX1_next 27 = .ok (.aaload, 1) := by decide +kernel
theorem dX1_next_28 : decode cX1_next 28 = .ok (.astore 7, 2) := by decide +kernel
theorem dX1_next_30 : decode cX1_next 30 = .ok (.aload 7, 2) := by decide +kernel
theorem dX1_next_32 : decode cX1_next 32 = .ok (.getfield 32, 3) := by decide +kernel
theorem dX1_next_35 : decode cX1_next 35 = .ok (.iload_n 1, 1) := by decide +kernel
theorem dX1_next_36 : decode cX1_next 36 = .ok (.if_icmp .ne 70, 3) := by decide +kernel
theorem dX1_next_39 : decode cX1_next 39 = .ok (.aload 7, 2) := by decide +kernel
theorem dX1_next_41 : decode cX1_next 41 = .ok (.getfield 36, 3) := by decide +kernel
theorem dX1_next_44 : decode cX1_next 44 = .ok (.iload_n 2, 1) := by decide +kernel
theorem dX1_next_45 : decode cX1_next 45 = .ok (.if_icmp .eq 6, 3) := by decide +kernel
theorem dX1_next_48 : decode cX1_next 48 = .ok (.goto 58, 3) := by decide +kernel
theorem dX1_next_51 : decode cX1_next 51 = .ok (.aload_n 3, 1) := by decide +kernel
theorem dX1_next_52 : decode cX1_next 52 = .ok (.ifnull 15, 3) := by decide +kernel
theorem dX1_next_55 : decode cX1_next 55 = .ok (.aload 7, 2) := by decide +kernel
theorem dX1_next_57 : decode cX1_next 57 = .ok (.getfield 101, 3) := by decide +kernel
theorem dX1_next_60 : decode cX1_next 60 = .ok (.aload_n 3, 1) := by decide +kernel
theorem dX1_next_61 : decode cX1_next 61 = .ok (.getfield 101, 3) := by decide +kernel
theorem dX1_next_64 : decode cX1_next 64 = .ok (.if_icmp .ge 7, 3) := by decide +kernel
theorem dX1_next_67 : decode cX1_next 67 = .ok (.iconst 1, 1) := by decide +kernel
theorem dX1_next_68 : decode cX1_next 68 = .ok (.goto 4, 3) := by decide +kernel
theorem dX1_next_71 : decode cX1_next 71 = .ok (.iconst 0, 1) := by decide +kernel
theorem dX1_next_72 : decode cX1_next 72 = .ok (.istore 8, 2) := by decide +kernel
theorem dX1_next_74 : decode cX1_next 74 = .ok (.aload_n 3, 1) := by decide +kernel
theorem dX1_next_75 : decode cX1_next 75 = .ok (.ifnull 28, 3) := by decide +kernel
theorem dX1_next_78 : decode cX1_next 78 = .ok (.aload_n 0, 1) := by decide +kernel
theorem dX1_next_79 : decode cX1_next 79 = .ok (.getfield 108, 3) := by decide +kernel
theorem dX1_next_82 : decode cX1_next 82 = .ok (.ifCond .ne 8, 3) := by decide +kernel
theorem dX1_next_85 : decode cX1_next 85 = .ok (.iload 8, 2) := by decide +kernel
theorem dX1_next_87 : decode cX1_next 87 = .ok (.ifCond .ne 16, 3) := by decide +kernel
theorem dX1_next_90 : decode cX1_next 90 = .ok (.aload_n 0, 1) := by decide +kernel
theorem dX1_next_91 : decode cX1_next 91 = .ok (.getfield 108, 3) := by decide +kernel
theorem dX1_next_94 : decode cX1_next 94 = .ok (.iconst 1, 1) := by decide +kernel
theorem dX1_next_95 : decode cX1_next 95 = .ok (.if_icmp .ne 11, 3) := by decide +kernel
theorem dX1_next_98 : decode cX1_next 98 = .ok (.iload 8, 2) := by decide +kernel
theorem dX1_next_100 : decode cX1_next 100 = .ok (.ifCond .ne 6, 3) := by decide +kernel
theorem dX1_next_103 : decode cX1_next 103 = .ok (.aload 7, 2) := by decide +kernel
theorem dX1_next_105 : decode cX1_next 105 = .ok (.astore_n 3, 1) := by decide +kernel
theorem dX1_next_106 : decode cX1_next 106 = .ok (.iinc 6 1, 3) := by decide +kernel
theorem dX1_next_109 : decode cX1_next 109 = .ok (.goto (-93), 3) := by decide +kernel
theorem dX1_next_112 : decode cX1_next 112 = .ok (.aload_n 3, 1) := by decide +kernel
theorem dX1_next_113 : decode cX1_next 113 = .ok (.areturn, 1) := by decide +kernel
theorem dX1_timeAfter_0 : decode cX1_timeAfter 0 = .ok (.aload_n 0, 1) := by decide +kernel
theorem dX1_timeAfter_1 : decode cX1_timeAfter 1 = .ok (.getfield 49, 3) := by decide +kernel
theorem dX1_timeAfter_4 : decode cX1_timeAfter 4 = .ok (.iload_n 1, 1) := by decide +kernel
theorem dX1_timeAfter_5 : decode cX1_timeAfter 5 = .ok (.ldc 111, 2) := by decide +kernel
theorem dX1_timeAfter_7 : decode cX1_timeAfter 7 = .ok (.invokestatic 112, 3) := by decide +kernel
theorem dX1_timeAfter_10 : decode cX1_timeAfter 10 = .ok (.iadd, 1) := by decide +kernel
theorem dX1_timeAfter_11 : decode cX1_timeAfter 11 = .ok (.ireturn, 1) := by decide +kernel
theorem dX1_interrupt_0 : decode cX1_interrupt 0 = .ok (.aload_n 1, 1) := by decide +kernel
theorem dX1_interrupt_1 : decode cX1_interrupt 1 = .ok (.getfield 32, 3) := by decide +kernel
theorem dX1_interrupt_4 : decode cX1_interrupt 4 = .ok (.tableswitch 89 2 6 #[36, 36, 44, 72, 72], 36) := by decide +kernel
theorem dX1_interrupt_40 : decode cX1_interrupt 40 = .ok (.aload_n 1, 1) := by decide +kernel
theorem dX1_interrupt_41 : decode cX1_interrupt 41 = .ok (.iconst 1, 1) := by decide +kernel
theorem dX1_interrupt_42 : decode cX1_interrupt 42 = .ok (.putfield 115, 3) := by decide +kernel
theorem dX1_interrupt_45 : decode cX1_interrupt 45 = .ok (.goto 48, 3) := by decide +kernel
theorem dX1_interrupt_48 : decode cX1_interrupt 48 = .ok (.aload_n 1, 1) := by decide +kernel
theorem dX1_interrupt_49 : decode cX1_interrupt 49 = .ok (.iconst 1, 1) := by decide +kernel
theorem dX1_interrupt_50 : decode cX1_interrupt 50 = .ok (.putfield 119, 3) := by decide +kernel
theorem dX1_interrupt_53 : decode cX1_interrupt 53 = .ok (.aload_n 0, 1) := by decide +kernel
theorem dX1_interrupt_54 : decode cX1_interrupt 54 = .ok (.aload_n 1, 1) := by decide +kernel
theorem dX1_interrupt_55 : decode cX1_interrupt 55 = .ok (.aload_n 0, 1) := by decide +kernel
theorem dX1_interrupt_56 : decode cX1_interrupt 56 = .ok (.getfield 17, 3) := by decide +kernel
theorem dX1_interrupt_59 : decode cX1_interrupt 59 = .ok (.aload_n 1, 1) := by decide +kernel
theorem dX1_interrupt_60 : decode cX1_interrupt 60 = .ok (.getfield 36, 3) := by decide +kernel
theorem dX1_interrupt_63 : decode cX1_interrupt 63 = .ok (.invokevirtual 52, 3) := by decide +kernel
theorem dX1_interrupt_66 : decode cX1_interrupt 66 = .ok (.aload_n 1, 1) := by decide +kernel
theorem dX1_interrupt_67 : decode cX1_interrupt 67 = .ok (.getfield 58, 3) := by decide +kernel
theorem dX1_interrupt_70 : decode cX1_interrupt 70 = .ok (.invokevirtual 61, 3) := by decide +kernel
theorem dX1_interrupt_73 : decode cX1_interrupt 73 = .ok (.goto 20, 3) := by decide +kernel
theorem dX1_interrupt_76 : decode cX1_interrupt 76 = .ok (.aload_n 1, 1) := by decide +kernel
theorem dX1_interrupt_77 : decode cX1_interrupt 77 = .ok (.iconst 1, 1) := by decide +kernel
theorem dX1_interrupt_78 : decode cX1_interrupt 78 = .ok (.putfield 119, 3) := by decide +kernel
theorem dX1_interrupt_81 : decode cX1_interrupt 81 = .ok (.aload_n 1, 1) := by decide +kernel
theorem dX1_interrupt_82 : decode cX1_interrupt 82 = .ok (.iconst 2, 1) := by decide +kernel
theorem dX1_interrupt_83 : decode cX1_interrupt 83 = .ok (.bipush (-4), 2) := by decide +kernel
theorem dX1_interrupt_85 : decode cX1_interrupt 85 = .ok (.bipush (-4), 2) := by decide +kernel
theorem dX1_interrupt_87 : decode cX1_interrupt 87 = .ok (.invokevirtual 65, 3) := by decide +kernel
theorem dX1_interrupt_90 : decode cX1_interrupt 90 = .ok (.goto 3, 3) := by decide +kernel
theorem dX1_interrupt_93 : decode cX1_interrupt 93 = .ok (.return_, 1) := by decide +kernel
theorem dX1_end_0 : decode cX1_end 0 = .ok (.aload_n 1, 1) := by decide +kernel
theorem dX1_end_1 : decode cX1_end 1 = .ok (.bipush 7, 2) := by decide +kernel
theorem dX1_end_3 : decode cX1_end 3 = .ok (.bipush (-4), 2) := by decide +kernel
theorem dX1_end_5 : decode cX1_end 5 = .ok (.bipush (-4), 2) := by decide +kernel
theorem dX1_end_7 : decode cX1_end 7 = .ok (.invokevirtual 65, 3) := by decide +kernel
theorem dX1_end_10 : decode cX1_end 10 = .ok (.aload_n 1, 1) := by decide +kernel
theorem dX1_end_11 : decode cX1_end 11 = .ok (.iload_n 2, 1) := by decide +kernel
theorem dX1_end_12 : decode cX1_end 12 = .ok (.putfield 122, 3) := by decide +kernel
theorem dX1_end_15 : decode cX1_end 15 = .ok (.aload_n 1, 1) := by decide +kernel
theorem dX1_end_16 : decode cX1_end 16 = .ok (.iload_n 3, 1) := by decide +kernel
theorem dX1_end_17 : decode cX1_end 17 = .ok (.putfield 125, 3) := by decide +kernel
theorem dX1_end_20 : decode cX1_end 20 = .ok (.iconst 0, 1) := by decide +kernel
theorem dX1_end_21 : decode cX1_end 21 = .ok (.istore 4, 2) := by decide +kernel
theorem dX1_end_23 : decode cX1_end 23 = .ok (.iload 4, 2) := by decide +kernel
theorem dX1_end_25 : decode cX1_end 25 = .ok (.aload_n 0, 1) := by decide +kernel
theorem dX1_end_26 : decode cX1_end 26 = .ok (.getfield 17, 3) := by decide +kernel
theorem dX1_end_29 : decode cX1_end 29 = .ok (.getfield 128, 3) := by decide +kernel
theorem dX1_end_32 : decode cX1_end 32 = .ok (.if_icmp .ge 43, 3) := by decide +kernel
theorem dX1_end_35 : decode cX1_end 35 = .ok (.aload_n 0, 1) := by decide +kernel
theorem dX1_end_36 : decode cX1_end 36 = .ok (.getfield 17, 3) := by decide +kernel
theorem dX1_end_39 : decode cX1_end 39 = .ok (.iload 4, 2) := by decide +kernel
theorem dX1_end_41 : decode cX1_end 41 = .ok (.invokevirtual 52, 3) := by decide +kernel
theorem dX1_end_44 : decode cX1_end 44 = .ok (.astore 5, 2) := by decide +kernel
theorem dX1_end_46 : decode cX1_end 46 = .ok (.aload 5, 2) := by decide +kernel
theorem dX1_end_48 : decode cX1_end 48 = .ok (.ifnull 21, 3) := by decide +kernel
theorem dX1_end_51 : decode cX1_end 51 = .ok (.aload 5, 2) := by decide +kernel
theorem dX1_end_53 : decode cX1_end 53 = .ok (.getfield 81, 3) := by decide +kernel
theorem dX1_end_56 : decode cX1_end 56 = .ok (.aload_n 1, 1) := by decide +kernel
theorem dX1_end_57 : decode cX1_end 57 = .ok (.getfield 86, 3) := by decide +kernel
theorem dX1_end_60 : decode cX1_end 60 = .ok (.if_icmp .ne 9, 3) := by decide +kernel
theorem dX1_end_63 : decode cX1_end 63 = .ok (.aload_n 0, 1) := by decide +kernel
theorem dX1_end_64 : decode cX1_end 64 = .ok (.aload 5, 2) := by decide +kernel
theorem dX1_end_66 : decode cX1_end 66 = .ok (.invokevirtual 131, 3) := by decide +kernel
theorem dX1_end_69 : decode cX1_end 69 = .ok (.iinc 4 1, 3) := by decide +kernel
theorem dX1_end_72 : decode cX1_end 72 = .ok (.goto (-49), 3) := by decide +kernel
theorem dX1_end_75 : decode cX1_end 75 = .ok (.aload_n 0, 1) := by decide +kernel
theorem dX1_end_76 : decode cX1_end 76 = .ok (.getfield 11, 3) := by decide +kernel
theorem dX1_end_79 : decode cX1_end 79 = .ok (.astore 4, 2) := by decide +kernel
theorem dX1_end_81 : decode cX1_end 81 = .ok (.aload 4, 2) := by decide +kernel
theorem dX1_end_83 : decode cX1_end 83 = .ok (.arraylength, 1) := by decide +kernel
theorem dX1_end_84 : decode cX1_end 84 = .ok (.istore 5, 2) := by decide +kernel
theorem dX1_end_86 : decode cX1_end 86 = .ok (.iconst 0, 1) := by decide +kernel
theorem dX1_end_87 : decode cX1_end 87 = .ok (.istore 6, 2) := by decide +kernel
theorem dX1_end_89 : decode cX1_end 89 = .ok (.iload 6, 2) := by decide +kernel
theorem dX1_end_91 : decode cX1_end 91 = .ok (.iload 5, 2) := by decide +kernel
theorem dX1_end_93 : decode cX1_end 93 = .ok (.if_icmp .ge 48, 3) := by decide +kernel
theorem dX1_end_96 : decode cX1_end 96 = .ok (.aload 4, 2) := by decide +kernel
theorem dX1_end_98 : decode cX1_end 98 = .ok (.iload 6, 2) := by decide +kernel
theorem dX1_end_100 : decode cX1_end 100 = .ok (.aaload, 1) := by decide +kernel
theorem dX1_end_101 : decode cX1_end 101 = .ok (.astore 7, 2) := by decide +kernel
theorem dX1_end_103 : decode cX1_end 103 = .ok (.aload 7, 2) := by decide +kernel
theorem dX1_end_105 : decode cX1_end 105 = .ok (.getfield 32, 3) := by decide +kernel
theorem dX1_end_108 : decode cX1_end 108 = .ok (.bipush 6, 2) := by decide +kernel
theorem dX1_end_110 : decode cX1_end 110 = .ok (.if_icmp .ne 25, 3) := by decide +kernel
theorem dX1_end_113 : decode cX1_end 113 = .ok (.aload 7, 2) := by decide +kernel
theorem dX1_end_115 : decode cX1_end 115 = .ok (.getfield 36, 3) := by decide +kernel
theorem dX1_end_118 : decode cX1_end 118 = .ok (.aload_n 1, 1) := by decide +kernel
theorem dX1_end_119 : decode cX1_end 119 = .ok (.getfield 86, 3) := by decide +kernel
theorem dX1_end_122 : decode cX1_end 122 = .ok (.if_icmp .ne 13, 3) := by decide +kernel
theorem dX1_end_125 : decode cX1_end 125 = .ok (.aload 7, 2) := by decide +kernel
theorem dX1_end_127 : decode cX1_end 127 = .ok (.iconst 2, 1) := by decide +kernel
theorem dX1_end_128 : decode cX1_end 128 = .ok (.bipush (-4), 2) := by decide +kernel
theorem dX1_end_130 : decode cX1_end 130 = .ok (.bipush (-4), 2) := by decide +kernel
theorem dX1_end_132 : decode cX1_end 132 = .ok (.invokevirtual 65, 3) := by decide +kernel
theorem dX1_end_135 : decode cX1_end 135 = .ok (.iinc 6 1, 3) := by decide +kernel
theorem dX1_end_138 : decode cX1_end 138 = .ok (.goto (-49), 3) := by decide +kernel
theorem dX1_end_141 : decode cX1_end 141 = .ok (.return_, 1) := by decide +kernel
theorem dX1_inRing_0 : decode cX1_inRing 0 = .ok (.iconst 0, 1) := by decide +kernel
theorem dX1_inRing_1 : decode cX1_inRing 1 = .ok (.istore_n 2, 1) := by decide +kernel
theorem dX1_inRing_2 : decode cX1_inRing 2 = .ok (.iload_n 2, 1) := by decide +kernel
theorem dX1_inRing_3 : decode cX1_inRing 3 = .ok (.bipush 6, 2) := by decide +kernel
theorem dX1_inRing_5 : decode cX1_inRing 5 = .ok (.if_icmp .ge 36, 3) := by decide +kernel
theorem dX1_inRing_8 : decode cX1_inRing 8 = .ok (.aload_n 0, 1) := by decide +kernel
theorem dX1_inRing_9 : decode cX1_inRing 9 = .ok (.iload_n 2, 1) := by decide +kernel
theorem dX1_inRing_10 : decode cX1_inRing 10 = .ok (.invokevirtual 135, 3) := by decide +kernel
theorem dX1_inRing_13 : decode cX1_inRing 13 = .ok (.istore_n 3, 1) := by decide +kernel
theorem dX1_inRing_14 : decode cX1_inRing 14 = .ok (.iload_n 3, 1) := by decide +kernel
theorem dX1_inRing_15 : decode cX1_inRing 15 = .ok (.ifCond .le 20, 3) := by decide +kernel
theorem dX1_inRing_18 : decode cX1_inRing 18 = .ok (.iload_n 1, 1) := by decide +kernel
theorem dX1_inRing_19 : decode cX1_inRing 19 = .ok (.iload_n 3, 1) := by decide +kernel
theorem dX1_inRing_20 : decode cX1_inRing 20 = .ok (.if_icmp .ge 12, 3) := by decide +kernel
theorem dX1_inRing_23 : decode cX1_inRing 23 = .ok (.aload_n 0, 1) := by decide +kernel
theorem dX1_inRing_24 : decode cX1_inRing 24 = .ok (.iload_n 2, 1) := by decide +kernel
theorem dX1_inRing_25 : decode cX1_inRing 25 = .ok (.iload_n 1, 1) := by decide +kernel
theorem dX1_inRing_26 : decode cX1_inRing 26 = .ok (.invokevirtual 139, 3) := by decide +kernel
theorem dX1_inRing_29 : decode cX1_inRing 29 = .ok (.goto 5, 3) := by decide +kernel
theorem dX1_inRing_32 : decode cX1_inRing 32 = .ok (.bipush (-4), 2) := by decide +kernel
theorem dX1_inRing_34 : decode cX1_inRing 34 = .ok (.ireturn, 1) := by decide +kernel
theorem dX1_inRing_35 : decode cX1_inRing 35 = .ok (.iinc 2 1, 3) := by decide +kernel
theorem dX1_inRing_38 : decode cX1_inRing 38 = .ok (.goto (-36), 3) := by decide +kernel
theorem dX1_inRing_41 : decode cX1_inRing 41 = .ok (.bipush (-4), 2) := by decide +kernel
theorem dX1_inRing_43 : decode cX1_inRing 43 = .ok (.ireturn, 1) := by decide +kernel
theorem dX1_wayBackTo_0 : decode cX1_wayBackTo 0 = .ok (.iconst 1, 1) := by decide +kernel
theorem dX1_wayBackTo_1 : decode cX1_wayBackTo 1 = .ok (.istore_n 2, 1) := by decide +kernel
theorem dX1_wayBackTo_2 : decode cX1_wayBackTo 2 = .ok (.iload_n 2, 1) := by decide +kernel
theorem dX1_wayBackTo_3 : decode cX1_wayBackTo 3 = .ok (.bipush 6, 2) := by decide +kernel
theorem dX1_wayBackTo_5 : decode cX1_wayBackTo 5 = .ok (.if_icmp .gt 21, 3) := by decide +kernel
theorem dX1_wayBackTo_8 : decode cX1_wayBackTo 8 = .ok (.aload_n 0, 1) := by decide +kernel
theorem dX1_wayBackTo_9 : decode cX1_wayBackTo 9 = .ok (.iload_n 1, 1) := by decide +kernel
theorem dX1_wayBackTo_10 : decode cX1_wayBackTo 10 = .ok (.iload_n 2, 1) := by decide +kernel
theorem dX1_wayBackTo_11 : decode cX1_wayBackTo 11 = .ok (.invokevirtual 139, 3) := by decide +kernel
theorem dX1_wayBackTo_14 : decode cX1_wayBackTo 14 = .ok (.iload_n 1, 1) := by decide +kernel
theorem dX1_wayBackTo_15 : decode cX1_wayBackTo 15 = .ok (.if_icmp .ne 5, 3) := by decide +kernel
theorem dX1_wayBackTo_18 : decode cX1_wayBackTo 18 = .ok (.iload_n 2, 1) := by decide +kernel
theorem dX1_wayBackTo_19 : decode cX1_wayBackTo 19 = .ok (.ireturn, 1) := by decide +kernel
theorem dX1_wayBackTo_20 : decode cX1_wayBackTo 20 = .ok (.iinc 2 1, 3) := by decide +kernel
theorem dX1_wayBackTo_23 : decode cX1_wayBackTo 23 = .ok (.goto (-21), 3) := by decide +kernel
theorem dX1_wayBackTo_26 : decode cX1_wayBackTo 26 = .ok (.iconst 0, 1) := by decide +kernel
theorem dX1_wayBackTo_27 : decode cX1_wayBackTo 27 = .ok (.ireturn, 1) := by decide +kernel
theorem dX1_follow_0 : decode cX1_follow 0 = .ok (.iload_n 1, 1) := by decide +kernel
theorem dX1_follow_1 : decode cX1_follow 1 = .ok (.istore_n 3, 1) := by decide +kernel
theorem dX1_follow_2 : decode cX1_follow 2 = .ok (.iconst 0, 1) := by decide +kernel
theorem dX1_follow_3 : decode cX1_follow 3 = .ok (.istore 4, 2) := by decide +kernel
theorem dX1_follow_5 : decode cX1_follow 5 = .ok (.iload 4, 2) := by decide +kernel
theorem dX1_follow_7 : decode cX1_follow 7 = .ok (.iload_n 2, 1) := by decide +kernel
theorem dX1_follow_8 : decode cX1_follow 8 = .ok (.if_icmp .ge 15, 3) := by decide +kernel
theorem dX1_follow_11 : decode cX1_follow 11 = .ok (.aload_n 0, 1) := by decide +kernel
theorem dX1_follow_12 : decode cX1_follow 12 = .ok (.iload_n 3, 1) := by decide +kernel
theorem dX1_follow_13 : decode cX1_follow 13 = .ok (.invokevirtual 142, 3) := by decide +kernel
theorem dX1_follow_16 : decode cX1_follow 16 = .ok (.istore_n 3, 1) := by decide +kernel
theorem dX1_follow_17 : decode cX1_follow 17 = .ok (.iinc 4 1, 3) := by decide +kernel
theorem dX1_follow_20 : decode cX1_follow 20 = .ok (.goto (-15), 3) := by decide +kernel
theorem dX1_follow_23 : decode cX1_follow 23 = .ok (.iload_n 3, 1) := by decide +kernel
theorem dX1_follow_24 : decode cX1_follow 24 = .ok (.ireturn, 1) := by decide +kernel
theorem dX1_hangsOn_0 : decode cX1_hangsOn 0 = .ok (.aload_n 0, 1) := by decide +kernel
theorem dX1_hangsOn_1 : decode cX1_hangsOn 1 = .ok (.iload_n 1, 1) := by decide +kernel
theorem dX1_hangsOn_2 : decode cX1_hangsOn 2 = .ok (.invokevirtual 75, 3) := by decide +kernel
theorem dX1_hangsOn_5 : decode cX1_hangsOn 5 = .ok (.astore_n 2, 1) := by decide +kernel
theorem dX1_hangsOn_6 : decode cX1_hangsOn 6 = .ok (.aload_n 2, 1) := by decide +kernel
theorem dX1_hangsOn_7 : decode cX1_hangsOn 7 = .ok (.ifnonnull 6, 3) := by decide +kernel
theorem dX1_hangsOn_10 : decode cX1_hangsOn 10 = .ok (.bipush (-4), 2) := by decide +kernel
theorem dX1_hangsOn_12 : decode cX1_hangsOn 12 = .ok (.ireturn, 1) := by decide +kernel
theorem dX1_hangsOn_13 : decode cX1_hangsOn 13 = .ok (.aload_n 2, 1) := by decide +kernel
theorem dX1_hangsOn_14 : decode cX1_hangsOn 14 = .ok (.getfield 32, 3) := by decide +kernel
theorem dX1_hangsOn_17 : decode cX1_hangsOn 17 = .ok (.bipush 6, 2) := by decide +kernel
theorem dX1_hangsOn_19 : decode cX1_hangsOn 19 = .ok (.if_icmp .ne 8, 3) := by decide +kernel
theorem dX1_hangsOn_22 : decode cX1_hangsOn 22 = .ok (.aload_n 2, 1) := by decide +kernel
theorem dX1_hangsOn_23 : decode cX1_hangsOn 23 = .ok (.getfield 36, 3) := by decide +kernel
theorem dX1_hangsOn_26 : decode cX1_hangsOn 26 = .ok (.ireturn, 1) := by decide +kernel
theorem dX1_hangsOn_27 : decode cX1_hangsOn 27 = .ok (.aload_n 2, 1) := by decide +kernel
theorem dX1_hangsOn_28 : decode cX1_hangsOn 28 = .ok (.getfield 32, 3) := by decide +kernel
theorem dX1_hangsOn_31 : decode cX1_hangsOn 31 = .ok (.iconst 3, 1) := by decide +kernel
theorem dX1_hangsOn_32 : decode cX1_hangsOn 32 = .ok (.if_icmp .ne 17, 3) := by decide +kernel
theorem dX1_hangsOn_35 : decode cX1_hangsOn 35 = .ok (.aload_n 0, 1) := by decide +kernel
theorem dX1_hangsOn_36 : decode cX1_hangsOn 36 = .ok (.getfield 17, 3) := by decide +kernel
theorem dX1_hangsOn_39 : decode cX1_hangsOn 39 = .ok (.aload_n 2, 1) := by decide +kernel
theorem dX1_hangsOn_40 : decode cX1_hangsOn 40 = .ok (.getfield 36, 3) := by decide +kernel
theorem dX1_hangsOn_43 : decode cX1_hangsOn 43 = .ok (.invokevirtual 52, 3) := by decide +kernel
theorem dX1_hangsOn_46 : decode cX1_hangsOn 46 = .ok (.goto 4, 3) := by decide +kernel
theorem dX1_hangsOn_49 : decode cX1_hangsOn 49 = .ok (.aconst_null, 1) := by decide +kernel
theorem dX1_hangsOn_50 : decode cX1_hangsOn 50 = .ok (.astore_n 3, 1) := by decide +kernel
theorem dX1_hangsOn_51 : decode cX1_hangsOn 51 = .ok (.aload_n 3, 1) := by decide +kernel
theorem dX1_hangsOn_52 : decode cX1_hangsOn 52 = .ok (.ifnonnull 8, 3) := by decide +kernel
theorem dX1_hangsOn_55 : decode cX1_hangsOn 55 = .ok (.bipush (-4), 2) := by decide +kernel
theorem dX1_hangsOn_57 : decode cX1_hangsOn 57 = .ok (.goto 7, 3) := by decide +kernel
theorem dX1_hangsOn_60 : decode cX1_hangsOn 60 = .ok (.aload_n 3, 1) := by decide +kernel
theorem dX1_hangsOn_61 : decode cX1_hangsOn 61 = .ok (.getfield 81, 3) := by decide +kernel
theorem dX1_hangsOn_64 : decode cX1_hangsOn 64 = .ok (.ireturn, 1) := by decide +kernel
theorem dX2_init_0 : decode cX2_init 0 = .ok (.aload_n 0, 1) := by decide +kernel
theorem dX2_init_1 : decode cX2_init 1 = .ok (.invokespecial 3, 3) := by decide +kernel
theorem dX2_init_4 : decode cX2_init 4 = .ok (.aload_n 0, 1) := by decide +kernel
theorem dX2_init_5 : decode cX2_init 5 = .ok (.bipush 8, 2) := by decide +kernel
theorem dX2_init_7 : decode cX2_init 7 = .ok (.newarray .int, 2) := by decide +kernel
theorem dX2_init_9 : decode cX2_init 9 = .ok (.putfield 9, 3) := by decide +kernel
theorem dX2_init_12 : decode cX2_init 12 = .ok (.aload_n 0, 1) := by decide +kernel
theorem dX2_init_13 : decode cX2_init 13 = .ok (.bipush 8, 2) := by decide +kernel
theorem dX2_init_15 : decode cX2_init 15 = .ok (.newarray .int, 2) := by decide +kernel
theorem dX2_init_17 : decode cX2_init 17 = .ok (.putfield 15, 3) := by decide +kernel
theorem dX2_init_20 : decode cX2_init 20 = .ok (.return_, 1) := by decide +kernel
theorem dX2_push_0 : decode cX2_push 0 = .ok (.aload_n 0, 1) := by decide +kernel
theorem dX2_push_1 : decode cX2_push 1 = .ok (.getfield 18, 3) := by decide +kernel
theorem dX2_push_4 : decode cX2_push 4 = .ok (.ifCond .lt 12, 3) := by decide +kernel
theorem dX2_push_7 : decode cX2_push 7 = .ok (.aload_n 0, 1) := by decide +kernel
theorem dX2_push_8 : decode cX2_push 8 = .ok (.getfield 18, 3) := by decide +kernel
theorem dX2_push_11 : decode cX2_push 11 = .ok (.bipush 8, 2) := by decide +kernel
theorem dX2_push_13 : decode cX2_push 13 = .ok (.if_icmp .lt 5, 3) := by decide +kernel
theorem dX2_push_16 : decode cX2_push 16 = .ok (.iconst 0, 1) := by decide +kernel
theorem dX2_push_17 : decode cX2_push 17 = .ok (.ireturn, 1) := by decide +kernel
theorem dX2_push_18 : decode cX2_push 18 = .ok (.aload_n 0, 1) := by decide +kernel
theorem dX2_push_19 : decode cX2_push 19 = .ok (.getfield 9, 3) := by decide +kernel
theorem dX2_push_22 : decode cX2_push 22 = .ok (.aload_n 0, 1) := by decide +kernel
theorem dX2_push_23 : decode cX2_push 23 = .ok (.getfield 18, 3) := by decide +kernel
theorem dX2_push_26 : decode cX2_push 26 = .ok (.iload_n 1, 1) := by decide +kernel
theorem dX2_push_27 : decode cX2_push 27 = .ok (.iastore, 1) := by decide +kernel
theorem dX2_push_28 : decode cX2_push 28 = .ok (.aload_n 0, 1) := by decide +kernel
theorem dX2_push_29 : decode cX2_push 29 = .ok (.getfield 15, 3) := by decide +kernel
theorem dX2_push_32 : decode cX2_push 32 = .ok (.aload_n 0, 1) := by decide +kernel
theorem dX2_push_33 : decode cX2_push 33 = .ok (.getfield 18, 3) := by decide +kernel
theorem dX2_push_36 : decode cX2_push 36 = .ok (.iload_n 2, 1) := by decide +kernel
theorem dX2_push_37 : decode cX2_push 37 = .ok (.iastore, 1) := by decide +kernel
theorem dX2_push_38 : decode cX2_push 38 = .ok (.aload_n 0, 1) := by decide +kernel
theorem dX2_push_39 : decode cX2_push 39 = .ok (.dup, 1) := by decide +kernel
theorem dX2_push_40 : decode cX2_push 40 = .ok (.getfield 18, 3) := by decide +kernel
theorem dX2_push_43 : decode cX2_push 43 = .ok (.iconst 1, 1) := by decide +kernel
theorem dX2_push_44 : decode cX2_push 44 = .ok (.iadd, 1) := by decide +kernel
theorem dX2_push_45 : decode cX2_push 45 = .ok (.putfield 18, 3) := by decide +kernel
theorem dX2_push_48 : decode cX2_push 48 = .ok (.iconst 1, 1) := by decide +kernel
theorem dX2_push_49 : decode cX2_push 49 = .ok (.ireturn, 1) := by decide +kernel
theorem dX2_latestFor_0 : decode cX2_latestFor 0 = .ok (.aload_n 0, 1) := by decide +kernel
theorem dX2_latestFor_1 : decode cX2_latestFor 1 = .ok (.getfield 18, 3) := by decide +kernel
theorem dX2_latestFor_4 : decode cX2_latestFor 4 = .ok (.bipush 8, 2) := by decide +kernel
theorem dX2_latestFor_6 : decode cX2_latestFor 6 = .ok (.invokestatic 22, 3) := by decide +kernel
theorem dX2_latestFor_9 : decode cX2_latestFor 9 = .ok (.iconst 1, 1) := by decide +kernel
theorem dX2_latestFor_10 : decode cX2_latestFor 10 = .ok (.isub, 1) := by decide +kernel
theorem dX2_latestFor_11 : decode cX2_latestFor 11 = .ok (.istore_n 2, 1) := by decide +kernel
theorem dX2_latestFor_12 : decode cX2_latestFor 12 = .ok (.iload_n 2, 1) := by decide +kernel
theorem dX2_latestFor_13 : decode cX2_latestFor 13 = .ok (.ifCond .lt 25, 3) := by decide +kernel
theorem dX2_latestFor_16 : decode cX2_latestFor 16 = .ok (.aload_n 0, 1) := by decide +kernel
theorem dX2_latestFor_17 : decode cX2_latestFor 17 = .ok (.getfield 15, 3) := by decide +kernel
theorem dX2_latestFor_20 : decode cX2_latestFor 20 = .ok (.iload_n 2, 1) := by decide +kernel
theorem dX2_latestFor_21 : decode cX2_latestFor 21 = .ok (.iaload, 1) := by decide +kernel
theorem dX2_latestFor_22 : decode cX2_latestFor 22 = .ok (.iload_n 1, 1) := by decide +kernel
theorem dX2_latestFor_23 : decode cX2_latestFor 23 = .ok (.ishr, 1) := by decide +kernel
theorem dX2_latestFor_24 : decode cX2_latestFor 24 = .ok (.iconst 1, 1) := by decide +kernel
theorem dX2_latestFor_25 : decode cX2_latestFor 25 = .ok (.iand, 1) := by decide +kernel
theorem dX2_latestFor_26 : decode cX2_latestFor 26 = .ok (.iconst 1, 1) := by decide +kernel
theorem dX2_latestFor_27 : decode cX2_latestFor 27 = .ok (.if_icmp .ne 5, 3) := by decide +kernel
theorem dX2_latestFor_30 : decode cX2_latestFor 30 = .ok (.iload_n 2, 1) := by decide +kernel
theorem dX2_latestFor_31 : decode cX2_latestFor 31 = .ok (.ireturn, 1) := by decide +kernel
theorem dX2_latestFor_32 : decode cX2_latestFor 32 = .ok (.iinc 2 (-1), 3) := by decide +kernel
theorem dX2_latestFor_35 : decode cX2_latestFor 35 = .ok (.goto (-23), 3) := by decide +kernel
theorem dX2_latestFor_38 : decode cX2_latestFor 38 = .ok (.bipush (-4), 2) := by decide +kernel
theorem dX2_latestFor_40 : decode cX2_latestFor 40 = .ok (.ireturn, 1) := by decide +kernel
theorem dX2_placeOf_0 : decode cX2_placeOf 0 = .ok (.iload_n 1, 1) := by decide +kernel
theorem dX2_placeOf_1 : decode cX2_placeOf 1 = .ok (.ifCond .lt 18, 3) := by decide +kernel
theorem dX2_placeOf_4 : decode cX2_placeOf 4 = .ok (.iload_n 1, 1) := by decide +kernel
theorem dX2_placeOf_5 : decode cX2_placeOf 5 = .ok (.bipush 8, 2) := by decide +kernel
theorem dX2_placeOf_7 : decode cX2_placeOf 7 = .ok (.if_icmp .ge 12, 3) := by decide +kernel
theorem dX2_placeOf_10 : decode cX2_placeOf 10 = .ok (.aload_n 0, 1) := by decide +kernel
theorem dX2_placeOf_11 : decode cX2_placeOf 11 = .ok (.getfield 9, 3) := by decide +kernel
theorem dX2_placeOf_14 : decode cX2_placeOf 14 = .ok (.iload_n 1, 1) := by decide +kernel
theorem dX2_placeOf_15 : decode cX2_placeOf 15 = .ok (.iaload, 1) := by decide +kernel
theorem dX2_placeOf_16 : decode cX2_placeOf 16 = .ok (.goto 4, 3) := by decide +kernel
theorem dX2_placeOf_19 : decode cX2_placeOf 19 = .ok (.iconst 0, 1) := by decide +kernel
theorem dX2_placeOf_20 : decode cX2_placeOf 20 = .ok (.ireturn, 1) := by decide +kernel
theorem dX3_init_0 : decode cX3_init 0 = .ok (.aload_n 0, 1) := by decide +kernel
theorem dX3_init_1 : decode cX3_init 1 = .ok (.invokespecial 3, 3) := by decide +kernel
theorem dX3_init_4 : decode cX3_init 4 = .ok (.aload_n 0, 1) := by decide +kernel
theorem dX3_init_5 : decode cX3_init 5 = .ok (.sipush 160, 3) := by decide +kernel
theorem dX3_init_8 : decode cX3_init 8 = .ok (.newarray .int, 2) := by decide +kernel
theorem dX3_init_10 : decode cX3_init 10 = .ok (.putfield 11, 3) := by decide +kernel
theorem dX3_init_13 : decode cX3_init 13 = .ok (.return_, 1) := by decide +kernel
theorem dX3_isWellNamed_0 : decode cX3_isWellNamed 0 = .ok (.iload_n 0, 1) := by decide +kernel
theorem dX3_isWellNamed_1 : decode cX3_isWellNamed 1 = .ok (.ifCond .lt 47, 3) := by decide +kernel
theorem dX3_isWellNamed_4 : decode cX3_isWellNamed 4 = .ok (.iload_n 0, 1) := by decide +kernel
theorem dX3_isWellNamed_5 : decode cX3_isWellNamed 5 = .ok (.bipush 37, 2) := by decide +kernel
theorem dX3_isWellNamed_7 : decode cX3_isWellNamed 7 = .ok (.if_icmp .ge 41, 3) := by decide +kernel
theorem dX3_isWellNamed_10 : decode cX3_isWellNamed 10 = .ok (.iconst 3, 1) := by decide +kernel
theorem dX3_isWellNamed_11 : decode cX3_isWellNamed 11 = .ok (.iload_n 0, 1) := by decide +kernel
theorem dX3_isWellNamed_12 : decode cX3_isWellNamed 12 = .ok (.imul, 1) := by decide +kernel
theorem dX3_isWellNamed_13 : decode cX3_isWellNamed 13 = .ok (.iload_n 1, 1) := by decide +kernel
theorem dX3_isWellNamed_14 : decode cX3_isWellNamed 14 = .ok (.invokestatic 15, 3) := by decide +kernel
theorem dX3_isWellNamed_17 : decode cX3_isWellNamed 17 = .ok (.ifCond .eq 31, 3) := by decide +kernel
theorem dX3_isWellNamed_20 : decode cX3_isWellNamed 20 = .ok (.iconst 3, 1) := by decide +kernel
theorem dX3_isWellNamed_21 : decode cX3_isWellNamed 21 = .ok (.iload_n 0, 1) := by decide +kernel
theorem dX3_isWellNamed_22 : decode cX3_isWellNamed 22 = .ok (.imul, 1) := by decide +kernel
theorem dX3_isWellNamed_23 : decode cX3_isWellNamed 23 = .ok (.iconst 1, 1) := by decide +kernel
theorem dX3_isWellNamed_24 : decode cX3_isWellNamed 24 = .ok (.iadd, 1) := by decide +kernel
theorem dX3_isWellNamed_25 : decode cX3_isWellNamed 25 = .ok (.iload_n 2, 1) := by decide +kernel
theorem dX3_isWellNamed_26 : decode cX3_isWellNamed 26 = .ok (.invokestatic 15, 3) := by decide +kernel
theorem dX3_isWellNamed_29 : decode cX3_isWellNamed 29 = .ok (.ifCond .eq 19, 3) := by decide +kernel
theorem dX3_isWellNamed_32 : decode cX3_isWellNamed 32 = .ok (.iconst 3, 1) := by decide +kernel
theorem dX3_isWellNamed_33 : decode cX3_isWellNamed 33 = .ok (.iload_n 0, 1) := by decide +kernel
theorem dX3_isWellNamed_34 : decode cX3_isWellNamed 34 = .ok (.imul, 1) := by decide +kernel
theorem dX3_isWellNamed_35 : decode cX3_isWellNamed 35 = .ok (.iconst 2, 1) := by decide +kernel
theorem dX3_isWellNamed_36 : decode cX3_isWellNamed 36 = .ok (.iadd, 1) := by decide +kernel
theorem dX3_isWellNamed_37 : decode cX3_isWellNamed 37 = .ok (.iload_n 3, 1) := by decide +kernel
theorem dX3_isWellNamed_38 : decode cX3_isWellNamed 38 = .ok (.invokestatic 15, 3) := by decide +kernel
theorem dX3_isWellNamed_41 : decode cX3_isWellNamed 41 = .ok (.ifCond .eq 7, 3) := by decide +kernel
theorem dX3_isWellNamed_44 : decode cX3_isWellNamed 44 = .ok (.iconst 1, 1) := by decide +kernel
theorem dX3_isWellNamed_45 : decode cX3_isWellNamed 45 = .ok (.goto 4, 3) := by decide +kernel
theorem dX3_isWellNamed_48 : decode cX3_isWellNamed 48 = .ok (.iconst 0, 1) := by decide +kernel
theorem dX3_isWellNamed_49 : decode cX3_isWellNamed 49 = .ok (.ireturn, 1) := by decide +kernel
theorem dX3_mayName_0 : decode cX3_mayName 0 = .ok (.iload_n 0, 1) := by decide +kernel
theorem dX3_mayName_1 : decode cX3_mayName 1 = .ok (.ifCond .lt 11, 3) := by decide +kernel
theorem dX3_mayName_4 : decode cX3_mayName 4 = .ok (.iload_n 0, 1) := by decide +kernel
theorem dX3_mayName_5 : decode cX3_mayName 5 = .ok (.getstatic 19, 3) := by decide +kernel
theorem dX3_mayName_8 : decode cX3_mayName 8 = .ok (.arraylength, 1) := by decide +kernel
theorem dX3_mayName_9 : decode cX3_mayName 9 = .ok (.if_icmp .lt 5, 3) := by decide +kernel
theorem dX3_mayName_12 : decode cX3_mayName 12 = .ok (.iconst 0, 1) := by decide +kernel
theorem dX3_mayName_13 : decode cX3_mayName 13 = .ok (.ireturn, 1) := by decide +kernel
theorem dX3_mayName_14 : decode cX3_mayName 14 = .ok (.getstatic 19, 3) := by decide +kernel
theorem dX3_mayName_17 : decode cX3_mayName 17 = .ok (.iload_n 0, 1) := by decide +kernel
theorem dX3_mayName_18 : decode cX3_mayName 18 = .ok (.iaload, 1) := by decide +kernel
theorem dX3_mayName_19 : decode cX3_mayName 19 = .ok (.istore_n 2, 1) := by decide +kernel
theorem dX3_mayName_20 : decode cX3_mayName 20 = .ok (.iload_n 2, 1) := by decide +kernel
theorem dX3_mayName_21 : decode cX3_mayName 21 = .ok (.iconst (-1), 1) := by decide +kernel
theorem dX3_mayName_22 : decode cX3_mayName 22 = .ok (.if_icmp .eq 12, 3) := by decide +kernel
theorem dX3_mayName_25 : decode cX3_mayName 25 = .ok (.iload_n 1, 1) := by decide +kernel
theorem dX3_mayName_26 : decode cX3_mayName 26 = .ok (.ifCond .lt 12, 3) := by decide +kernel
theorem dX3_mayName_29 : decode cX3_mayName 29 = .ok (.iload_n 1, 1) := by decide +kernel
theorem dX3_mayName_30 : decode cX3_mayName 30 = .ok (.iload_n 2, 1) := by decide +kernel
theorem dX3_mayName_31 : decode cX3_mayName 31 = .ok (.if_icmp .gt 7, 3) := by decide +kernel
theorem dX3_mayName_34 : decode cX3_mayName 34 = .ok (.iconst 1, 1) := by decide +kernel
theorem dX3_mayName_35 : decode cX3_mayName 35 = .ok (.goto 4, 3) := by decide +kernel
theorem dX3_mayName_38 : decode cX3_mayName 38 = .ok (.iconst 0, 1) := by decide +kernel
theorem dX3_mayName_39 : decode cX3_mayName 39 = .ok (.ireturn, 1) := by decide +kernel
theorem dX3_append_0 : decode cX3_append 0 = .ok (.aload_n 0, 1) := by decide +kernel
theorem dX3_append_1 : decode cX3_append 1 = .ok (.getfield 22, 3) := by decide +kernel
theorem dX3_append_4 : decode cX3_append 4 = .ok (.iconst 4, 1) := by decide +kernel
theorem dX3_append_5 : decode cX3_append 5 = .ok (.imul, 1) := by decide +kernel
theorem dX3_append_6 : decode cX3_append 6 = .ok (.istore 5, 2) := by decide +kernel
theorem dX3_append_8 : decode cX3_append 8 = .ok (.iload 5, 2) := by decide +kernel
theorem dX3_append_10 : decode cX3_append 10 = .ok (.ifCond .lt 15, 3) := by decide +kernel
theorem dX3_append_13 : decode cX3_append 13 = .ok (.iload 5, 2) := by decide +kernel
theorem dX3_append_15 : decode cX3_append 15 = .ok (.iconst 4, 1) := by decide +kernel
theorem dX3_append_16 : decode cX3_append 16 = .ok (.iadd, 1) := by decide +kernel
theorem dX3_append_17 : decode cX3_append 17 = .ok (.aload_n 0, 1) := by decide +kernel
theorem dX3_append_18 : decode cX3_append 18 = .ok (.getfield 11, 3) := by decide +kernel
theorem dX3_append_21 : decode cX3_append 21 = .ok (.arraylength, 1) := by decide +kernel
theorem dX3_append_22 : decode cX3_append 22 = .ok (.if_icmp .le 4, 3) := by decide +kernel
theorem dX3_append_25 : decode cX3_append 25 = .ok (.return_, 1) := by decide +kernel
theorem dX3_append_26 : decode cX3_append 26 = .ok (.aload_n 0, 1) := by decide +kernel
theorem dX3_append_27 : decode cX3_append 27 = .ok (.getfield 11, 3) := by decide +kernel
theorem dX3_append_30 : decode cX3_append 30 = .ok (.iload 5, 2) := by decide +kernel
theorem dX3_append_32 : decode cX3_append 32 = .ok (.iload_n 1, 1) := by decide +kernel
theorem dX3_append_33 : decode cX3_append 33 = .ok (.iastore, 1) := by decide +kernel
theorem dX3_append_34 : decode cX3_append 34 = .ok (.aload_n 0, 1) := by decide +kernel
theorem dX3_append_35 : decode cX3_append 35 = .ok (.getfield 11, 3) := by decide +kernel
theorem dX3_append_38 : decode cX3_append 38 = .ok (.iload 5, 2) := by decide +kernel
theorem dX3_append_40 : decode cX3_append 40 = .ok (.iconst 1, 1) := by decide +kernel
theorem dX3_append_41 : decode cX3_append 41 = .ok (.iadd, 1) := by decide +kernel
theorem dX3_append_42 : decode cX3_append 42 = .ok (.iload_n 2, 1) := by decide +kernel
theorem dX3_append_43 : decode cX3_append 43 = .ok (.iastore, 1) := by decide +kernel
theorem dX3_append_44 : decode cX3_append 44 = .ok (.aload_n 0, 1) := by decide +kernel
theorem dX3_append_45 : decode cX3_append 45 = .ok (.getfield 11, 3) := by decide +kernel
theorem dX3_append_48 : decode cX3_append 48 = .ok (.iload 5, 2) := by decide +kernel
theorem dX3_append_50 : decode cX3_append 50 = .ok (.iconst 2, 1) := by decide +kernel
theorem dX3_append_51 : decode cX3_append 51 = .ok (.iadd, 1) := by decide +kernel
theorem dX3_append_52 : decode cX3_append 52 = .ok (.iload_n 3, 1) := by decide +kernel
theorem dX3_append_53 : decode cX3_append 53 = .ok (.iastore, 1) := by decide +kernel
theorem dX3_append_54 : decode cX3_append 54 = .ok (.aload_n 0, 1) := by decide +kernel
theorem dX3_append_55 : decode cX3_append 55 = .ok (.getfield 11, 3) := by decide +kernel
theorem dX3_append_58 : decode cX3_append 58 = .ok (.iload 5, 2) := by decide +kernel
theorem dX3_append_60 : decode cX3_append 60 = .ok (.iconst 3, 1) := by decide +kernel
theorem dX3_append_61 : decode cX3_append 61 = .ok (.iadd, 1) := by decide +kernel
theorem dX3_append_62 : decode cX3_append 62 = .ok (.iload 4, 2) := by decide +kernel
theorem dX3_append_64 : decode cX3_append 64 = .ok (.iastore, 1) := by decide +kernel
theorem dX3_append_65 : decode cX3_append 65 = .ok (.aload_n 0, 1) := by decide +kernel
theorem dX3_append_66 : decode cX3_append 66 = .ok (.dup, 1) := by decide +kernel
