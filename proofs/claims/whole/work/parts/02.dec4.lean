theorem dX7_isAt_28 : decode cX7_isAt 28 = .ok (.getfield 50, 3) := by decide +kernel
theorem dX7_isAt_31 : decode cX7_isAt 31 = .ok (.iload 6, 2) := by decide +kernel
theorem dX7_isAt_33 : decode cX7_isAt 33 = .ok (.iaload, 1) := by decide +kernel
theorem dX7_isAt_34 : decode cX7_isAt 34 = .ok (.ifCond .lt 16, 3) := by decide +kernel
theorem dX7_isAt_37 : decode cX7_isAt 37 = .ok (.aload_n 0, 1) := by decide +kernel
theorem dX7_isAt_38 : decode cX7_isAt 38 = .ok (.getfield 50, 3) := by decide +kernel
theorem dX7_isAt_41 : decode cX7_isAt 41 = .ok (.iload 6, 2) := by decide +kernel
theorem dX7_isAt_43 : decode cX7_isAt 43 = .ok (.iaload, 1) := by decide +kernel
theorem dX7_isAt_44 : decode cX7_isAt 44 = .ok (.iload_n 3, 1) := by decide +kernel
theorem dX7_isAt_45 : decode cX7_isAt 45 = .ok (.if_icmp .eq 5, 3) := by decide +kernel
theorem dX7_isAt_48 : decode cX7_isAt 48 = .ok (.iconst 0, 1) := by decide +kernel
theorem dX7_isAt_49 : decode cX7_isAt 49 = .ok (.ireturn, 1) := by decide +kernel
theorem dX7_isAt_50 : decode cX7_isAt 50 = .ok (.iload_n 3, 1) := by decide +kernel
theorem dX7_isAt_51 : decode cX7_isAt 51 = .ok (.iload 7, 2) := by decide +kernel
theorem dX7_isAt_53 : decode cX7_isAt 53 = .ok (.iadd, 1) := by decide +kernel
theorem dX7_isAt_54 : decode cX7_isAt 54 = .ok (.aload_n 0, 1) := by decide +kernel
theorem dX7_isAt_55 : decode cX7_isAt 55 = .ok (.getfield 13, 3) := by decide +kernel
theorem dX7_isAt_58 : decode cX7_isAt 58 = .ok (.iadd, 1) := by decide +kernel
theorem dX7_isAt_59 : decode cX7_isAt 59 = .ok (.istore 8, 2) := by decide +kernel
theorem dX7_isAt_61 : decode cX7_isAt 61 = .ok (.iload_n 1, 1) := by decide +kernel
theorem dX7_isAt_62 : decode cX7_isAt 62 = .ok (.aload_n 0, 1) := by decide +kernel
theorem dX7_isAt_63 : decode cX7_isAt 63 = .ok (.getfield 169, 3) := by decide +kernel
theorem dX7_isAt_66 : decode cX7_isAt 66 = .ok (.iconst 1, 1) := by decide +kernel
theorem dX7_isAt_67 : decode cX7_isAt 67 = .ok (.isub, 1) := by decide +kernel
theorem dX7_isAt_68 : decode cX7_isAt 68 = .ok (.if_icmp .ne 7, 3) := by decide +kernel
theorem dX7_isAt_71 : decode cX7_isAt 71 = .ok (.lconst 0, 1) := by decide +kernel
theorem dX7_isAt_72 : decode cX7_isAt 72 = .ok (.goto 32, 3) := by decide +kernel
theorem dX7_isAt_75 : decode cX7_isAt 75 = .ok (.iload 8, 2) := by decide +kernel
theorem dX7_isAt_77 : decode cX7_isAt 77 = .ok (.sipush 400, 3) := by decide +kernel
theorem dX7_isAt_80 : decode cX7_isAt 80 = .ok (.if_icmp .le 9, 3) := by decide +kernel
theorem dX7_isAt_83 : decode cX7_isAt 83 = .ok (.ldc2_w 198, 3) := by decide +kernel
theorem dX7_isAt_86 : decode cX7_isAt 86 = .ok (.goto 18, 3) := by decide +kernel
theorem dX7_isAt_89 : decode cX7_isAt 89 = .ok (.aload_n 0, 1) := by decide +kernel
theorem dX7_isAt_90 : decode cX7_isAt 90 = .ok (.getfield 111, 3) := by decide +kernel
theorem dX7_isAt_93 : decode cX7_isAt 93 = .ok (.sipush 401, 3) := by decide +kernel
theorem dX7_isAt_96 : decode cX7_isAt 96 = .ok (.iload_n 1, 1) := by decide +kernel
theorem dX7_isAt_97 : decode cX7_isAt 97 = .ok (.iconst 1, 1) := by decide +kernel
theorem dX7_isAt_98 : decode cX7_isAt 98 = .ok (.iadd, 1) := by decide +kernel
theorem dX7_isAt_99 : decode cX7_isAt 99 = .ok (.imul, 1) := by decide +kernel
theorem dX7_isAt_100 : decode cX7_isAt 100 = .ok (.iload 8, 2) := by decide +kernel
theorem dX7_isAt_102 : decode cX7_isAt 102 = .ok (.iadd, 1) := by decide +kernel
theorem dX7_isAt_103 : decode cX7_isAt 103 = .ok (.laload, 1) := by decide +kernel
theorem dX7_isAt_104 : decode cX7_isAt 104 = .ok (.lstore 9, 2) := by decide +kernel
theorem dX7_isAt_106 : decode cX7_isAt 106 = .ok (.lload 9, 2) := by decide +kernel
theorem dX7_isAt_108 : decode cX7_isAt 108 = .ok (.ldc2_w 198, 3) := by decide +kernel
theorem dX7_isAt_111 : decode cX7_isAt 111 = .ok (.lcmp, 1) := by decide +kernel
theorem dX7_isAt_112 : decode cX7_isAt 112 = .ok (.ifCond .ge 23, 3) := by decide +kernel
theorem dX7_isAt_115 : decode cX7_isAt 115 = .ok (.lload 9, 2) := by decide +kernel
theorem dX7_isAt_117 : decode cX7_isAt 117 = .ok (.aload_n 0, 1) := by decide +kernel
theorem dX7_isAt_118 : decode cX7_isAt 118 = .ok (.iload 6, 2) := by decide +kernel
theorem dX7_isAt_120 : decode cX7_isAt 120 = .ok (.iload_n 3, 1) := by decide +kernel
theorem dX7_isAt_121 : decode cX7_isAt 121 = .ok (.invokevirtual 200, 3) := by decide +kernel
theorem dX7_isAt_124 : decode cX7_isAt 124 = .ok (.ladd, 1) := by decide +kernel
theorem dX7_isAt_125 : decode cX7_isAt 125 = .ok (.lload 4, 2) := by decide +kernel
theorem dX7_isAt_127 : decode cX7_isAt 127 = .ok (.lcmp, 1) := by decide +kernel
theorem dX7_isAt_128 : decode cX7_isAt 128 = .ok (.ifCond .ne 7, 3) := by decide +kernel
theorem dX7_isAt_131 : decode cX7_isAt 131 = .ok (.iconst 1, 1) := by decide +kernel
theorem dX7_isAt_132 : decode cX7_isAt 132 = .ok (.goto 4, 3) := by decide +kernel
theorem dX7_isAt_135 : decode cX7_isAt 135 = .ok (.iconst 0, 1) := by decide +kernel
theorem dX7_isAt_136 : decode cX7_isAt 136 = .ok (.ireturn, 1) := by decide +kernel
theorem dX7_setAll_0 : decode cX7_setAll 0 = .ok (.aload_n 0, 1) := by decide +kernel
theorem dX7_setAll_1 : decode cX7_setAll 1 = .ok (.getfield 129, 3) := by decide +kernel
theorem dX7_setAll_4 : decode cX7_setAll 4 = .ok (.ifCond .eq 4, 3) := by decide +kernel
theorem dX7_setAll_7 : decode cX7_setAll 7 = .ok (.return_, 1) := by decide +kernel
theorem dX7_setAll_8 : decode cX7_setAll 8 = .ok (.aload_n 0, 1) := by decide +kernel
theorem dX7_setAll_9 : decode cX7_setAll 9 = .ok (.iconst 1, 1) := by decide +kernel
theorem dX7_setAll_10 : decode cX7_setAll 10 = .ok (.putfield 129, 3) := by decide +kernel
theorem dX7_setAll_13 : decode cX7_setAll 13 = .ok (.aload_n 0, 1) := by decide +kernel
theorem dX7_setAll_14 : decode cX7_setAll 14 = .ok (.iconst 1, 1) := by decide +kernel
theorem dX7_setAll_15 : decode cX7_setAll 15 = .ok (.putfield 223, 3) := by decide +kernel
theorem dX7_setAll_18 : decode cX7_setAll 18 = .ok (.aload_n 0, 1) := by decide +kernel
theorem dX7_setAll_19 : decode cX7_setAll 19 = .ok (.iconst 0, 1) := by decide +kernel
theorem dX7_setAll_20 : decode cX7_setAll 20 = .ok (.putfield 226, 3) := by decide +kernel
theorem dX7_setAll_23 : decode cX7_setAll 23 = .ok (.iconst 0, 1) := by decide +kernel
theorem dX7_setAll_24 : decode cX7_setAll 24 = .ok (.istore_n 1, 1) := by decide +kernel
theorem dX7_setAll_25 : decode cX7_setAll 25 = .ok (.aload_n 0, 1) := by decide +kernel
theorem dX7_setAll_26 : decode cX7_setAll 26 = .ok (.getfield 65, 3) := by decide +kernel
theorem dX7_setAll_29 : decode cX7_setAll 29 = .ok (.iconst 0, 1) := by decide +kernel
theorem dX7_setAll_30 : decode cX7_setAll 30 = .ok (.iconst 0, 1) := by decide +kernel
theorem dX7_setAll_31 : decode cX7_setAll 31 = .ok (.iastore, 1) := by decide +kernel
theorem dX7_setAll_32 : decode cX7_setAll 32 = .ok (.aload_n 0, 1) := by decide +kernel
theorem dX7_setAll_33 : decode cX7_setAll 33 = .ok (.getfield 65, 3) := by decide +kernel
theorem dX7_setAll_36 : decode cX7_setAll 36 = .ok (.iconst 1, 1) := by decide +kernel
theorem dX7_setAll_37 : decode cX7_setAll 37 = .ok (.iconst 0, 1) := by decide +kernel
theorem dX7_setAll_38 : decode cX7_setAll 38 = .ok (.iastore, 1) := by decide +kernel
theorem dX7_setAll_39 : decode cX7_setAll 39 = .ok (.iload_n 1, 1) := by decide +kernel
theorem dX7_setAll_40 : decode cX7_setAll 40 = .ok (.aload_n 0, 1) := by decide +kernel
theorem dX7_setAll_41 : decode cX7_setAll 41 = .ok (.getfield 133, 3) := by decide +kernel
theorem dX7_setAll_44 : decode cX7_setAll 44 = .ok (.if_icmp .lt 33, 3) := by decide +kernel
theorem dX7_setAll_47 : decode cX7_setAll 47 = .ok (.aload_n 0, 1) := by decide +kernel
theorem dX7_setAll_48 : decode cX7_setAll 48 = .ok (.getfield 65, 3) := by decide +kernel
theorem dX7_setAll_51 : decode cX7_setAll 51 = .ok (.iconst 2, 1) := by decide +kernel
theorem dX7_setAll_52 : decode cX7_setAll 52 = .ok (.aload_n 0, 1) := by decide +kernel
theorem dX7_setAll_53 : decode cX7_setAll 53 = .ok (.getfield 226, 3) := by decide +kernel
theorem dX7_setAll_56 : decode cX7_setAll 56 = .ok (.imul, 1) := by decide +kernel
theorem dX7_setAll_57 : decode cX7_setAll 57 = .ok (.iaload, 1) := by decide +kernel
theorem dX7_setAll_58 : decode cX7_setAll 58 = .ok (.ifCond .gt 19, 3) := by decide +kernel
theorem dX7_setAll_61 : decode cX7_setAll 61 = .ok (.aload_n 0, 1) := by decide +kernel
theorem dX7_setAll_62 : decode cX7_setAll 62 = .ok (.getfield 65, 3) := by decide +kernel
theorem dX7_setAll_65 : decode cX7_setAll 65 = .ok (.iconst 2, 1) := by decide +kernel
theorem dX7_setAll_66 : decode cX7_setAll 66 = .ok (.aload_n 0, 1) := by decide +kernel
theorem dX7_setAll_67 : decode cX7_setAll 67 = .ok (.getfield 226, 3) := by decide +kernel
theorem dX7_setAll_70 : decode cX7_setAll 70 = .ok (.imul, 1) := by decide +kernel
theorem dX7_setAll_71 : decode cX7_setAll 71 = .ok (.iconst 1, 1) := by decide +kernel
theorem dX7_setAll_72 : decode cX7_setAll 72 = .ok (.iadd, 1) := by decide +kernel
theorem dX7_setAll_73 : decode cX7_setAll 73 = .ok (.iaload, 1) := by decide +kernel
theorem dX7_setAll_74 : decode cX7_setAll 74 = .ok (.ifCond .le 202, 3) := by decide +kernel
theorem dX7_setAll_77 : decode cX7_setAll 77 = .ok (.aload_n 0, 1) := by decide +kernel
theorem dX7_setAll_78 : decode cX7_setAll 78 = .ok (.getfield 65, 3) := by decide +kernel
theorem dX7_setAll_81 : decode cX7_setAll 81 = .ok (.iconst 2, 1) := by decide +kernel
theorem dX7_setAll_82 : decode cX7_setAll 82 = .ok (.aload_n 0, 1) := by decide +kernel
theorem dX7_setAll_83 : decode cX7_setAll 83 = .ok (.getfield 226, 3) := by decide +kernel
theorem dX7_setAll_86 : decode cX7_setAll 86 = .ok (.imul, 1) := by decide +kernel
theorem dX7_setAll_87 : decode cX7_setAll 87 = .ok (.iaload, 1) := by decide +kernel
theorem dX7_setAll_88 : decode cX7_setAll 88 = .ok (.istore_n 2, 1) := by decide +kernel
theorem dX7_setAll_89 : decode cX7_setAll 89 = .ok (.aload_n 0, 1) := by decide +kernel
theorem dX7_setAll_90 : decode cX7_setAll 90 = .ok (.getfield 65, 3) := by decide +kernel
theorem dX7_setAll_93 : decode cX7_setAll 93 = .ok (.iconst 2, 1) := by decide +kernel
theorem dX7_setAll_94 : decode cX7_setAll 94 = .ok (.aload_n 0, 1) := by decide +kernel
theorem dX7_setAll_95 : decode cX7_setAll 95 = .ok (.getfield 226, 3) := by decide +kernel
theorem dX7_setAll_98 : decode cX7_setAll 98 = .ok (.imul, 1) := by decide +kernel
theorem dX7_setAll_99 : decode cX7_setAll 99 = .ok (.iconst 1, 1) := by decide +kernel
theorem dX7_setAll_100 : decode cX7_setAll 100 = .ok (.iadd, 1) := by decide +kernel
theorem dX7_setAll_101 : decode cX7_setAll 101 = .ok (.iaload, 1) := by decide +kernel
theorem dX7_setAll_102 : decode cX7_setAll 102 = .ok (.istore_n 3, 1) := by decide +kernel
theorem dX7_setAll_103 : decode cX7_setAll 103 = .ok (.iconst 0, 1) := by decide +kernel
theorem dX7_setAll_104 : decode cX7_setAll 104 = .ok (.istore 4, 2) := by decide +kernel
theorem dX7_setAll_106 : decode cX7_setAll 106 = .ok (.aload_n 0, 1) := by decide +kernel
theorem dX7_setAll_107 : decode cX7_setAll 107 = .ok (.iload_n 1, 1) := by decide +kernel
theorem dX7_setAll_108 : decode cX7_setAll 108 = .ok (.iconst 0, 1) := by decide +kernel
theorem dX7_setAll_109 : decode cX7_setAll 109 = .ok (.iload_n 2, 1) := by decide +kernel
theorem dX7_setAll_110 : decode cX7_setAll 110 = .ok (.iload_n 3, 1) := by decide +kernel
theorem dX7_setAll_111 : decode cX7_setAll 111 = .ok (.invokevirtual 229, 3) := by decide +kernel
theorem dX7_setAll_114 : decode cX7_setAll 114 = .ok (.istore 5, 2) := by decide +kernel
theorem dX7_setAll_116 : decode cX7_setAll 116 = .ok (.iload 5, 2) := by decide +kernel
theorem dX7_setAll_118 : decode cX7_setAll 118 = .ok (.ifCond .eq 34, 3) := by decide +kernel
theorem dX7_setAll_121 : decode cX7_setAll 121 = .ok (.iload_n 1, 1) := by decide +kernel
theorem dX7_setAll_122 : decode cX7_setAll 122 = .ok (.iload 4, 2) := by decide +kernel
theorem dX7_setAll_124 : decode cX7_setAll 124 = .ok (.iadd, 1) := by decide +kernel
theorem dX7_setAll_125 : decode cX7_setAll 125 = .ok (.aload_n 0, 1) := by decide +kernel
theorem dX7_setAll_126 : decode cX7_setAll 126 = .ok (.getfield 133, 3) := by decide +kernel
theorem dX7_setAll_129 : decode cX7_setAll 129 = .ok (.if_icmp .ge 23, 3) := by decide +kernel
theorem dX7_setAll_132 : decode cX7_setAll 132 = .ok (.aload_n 0, 1) := by decide +kernel
theorem dX7_setAll_133 : decode cX7_setAll 133 = .ok (.iload_n 1, 1) := by decide +kernel
theorem dX7_setAll_134 : decode cX7_setAll 134 = .ok (.iload 4, 2) := by decide +kernel
theorem dX7_setAll_136 : decode cX7_setAll 136 = .ok (.iconst 1, 1) := by decide +kernel
theorem dX7_setAll_137 : decode cX7_setAll 137 = .ok (.iadd, 1) := by decide +kernel
theorem dX7_setAll_138 : decode cX7_setAll 138 = .ok (.iload_n 2, 1) := by decide +kernel
theorem dX7_setAll_139 : decode cX7_setAll 139 = .ok (.iload_n 3, 1) := by decide +kernel
theorem dX7_setAll_140 : decode cX7_setAll 140 = .ok (.invokevirtual 229, 3) := by decide +kernel
theorem dX7_setAll_143 : decode cX7_setAll 143 = .ok (.ifCond .eq 9, 3) := by decide +kernel
theorem dX7_setAll_146 : decode cX7_setAll 146 = .ok (.iinc 4 1, 3) := by decide +kernel
theorem dX7_setAll_149 : decode cX7_setAll 149 = .ok (.goto (-33), 3) := by decide +kernel
theorem dX7_setAll_152 : decode cX7_setAll 152 = .ok (.iload 5, 2) := by decide +kernel
theorem dX7_setAll_154 : decode cX7_setAll 154 = .ok (.ifCond .eq 16, 3) := by decide +kernel
theorem dX7_setAll_157 : decode cX7_setAll 157 = .ok (.iload 4, 2) := by decide +kernel
theorem dX7_setAll_159 : decode cX7_setAll 159 = .ok (.ifCond .ne 17, 3) := by decide +kernel
theorem dX7_setAll_162 : decode cX7_setAll 162 = .ok (.iload_n 2, 1) := by decide +kernel
theorem dX7_setAll_163 : decode cX7_setAll 163 = .ok (.ifCond .ne 13, 3) := by decide +kernel
theorem dX7_setAll_166 : decode cX7_setAll 166 = .ok (.iload_n 3, 1) := by decide +kernel
theorem dX7_setAll_167 : decode cX7_setAll 167 = .ok (.ifCond .ne 9, 3) := by decide +kernel
theorem dX7_setAll_170 : decode cX7_setAll 170 = .ok (.aload_n 0, 1) := by decide +kernel
theorem dX7_setAll_171 : decode cX7_setAll 171 = .ok (.iconst 0, 1) := by decide +kernel
theorem dX7_setAll_172 : decode cX7_setAll 172 = .ok (.putfield 223, 3) := by decide +kernel
theorem dX7_setAll_175 : decode cX7_setAll 175 = .ok (.return_, 1) := by decide +kernel
theorem dX7_setAll_176 : decode cX7_setAll 176 = .ok (.aload_n 0, 1) := by decide +kernel
theorem dX7_setAll_177 : decode cX7_setAll 177 = .ok (.getfield 59, 3) := by decide +kernel
theorem dX7_setAll_180 : decode cX7_setAll 180 = .ok (.aload_n 0, 1) := by decide +kernel
theorem dX7_setAll_181 : decode cX7_setAll 181 = .ok (.getfield 226, 3) := by decide +kernel
theorem dX7_setAll_184 : decode cX7_setAll 184 = .ok (.iload_n 1, 1) := by decide +kernel
theorem dX7_setAll_185 : decode cX7_setAll 185 = .ok (.iastore, 1) := by decide +kernel
theorem dX7_setAll_186 : decode cX7_setAll 186 = .ok (.aload_n 0, 1) := by decide +kernel
theorem dX7_setAll_187 : decode cX7_setAll 187 = .ok (.getfield 62, 3) := by decide +kernel
theorem dX7_setAll_190 : decode cX7_setAll 190 = .ok (.aload_n 0, 1) := by decide +kernel
theorem dX7_setAll_191 : decode cX7_setAll 191 = .ok (.getfield 226, 3) := by decide +kernel
theorem dX7_setAll_194 : decode cX7_setAll 194 = .ok (.iload 4, 2) := by decide +kernel
theorem dX7_setAll_196 : decode cX7_setAll 196 = .ok (.iastore, 1) := by decide +kernel
theorem dX7_setAll_197 : decode cX7_setAll 197 = .ok (.iconst 0, 1) := by decide +kernel
theorem dX7_setAll_198 : decode cX7_setAll 198 = .ok (.istore 6, 2) := by decide +kernel
theorem dX7_setAll_200 : decode cX7_setAll 200 = .ok (.iload_n 1, 1) := by decide +kernel
theorem dX7_setAll_201 : decode cX7_setAll 201 = .ok (.istore 7, 2) := by decide +kernel
theorem dX7_setAll_203 : decode cX7_setAll 203 = .ok (.iload 7, 2) := by decide +kernel
theorem dX7_setAll_205 : decode cX7_setAll 205 = .ok (.iload_n 1, 1) := by decide +kernel
theorem dX7_setAll_206 : decode cX7_setAll 206 = .ok (.iload 4, 2) := by decide +kernel
theorem dX7_setAll_208 : decode cX7_setAll 208 = .ok (.iadd, 1) := by decide +kernel
theorem dX7_setAll_209 : decode cX7_setAll 209 = .ok (.if_icmp .ge 41, 3) := by decide +kernel
theorem dX7_setAll_212 : decode cX7_setAll 212 = .ok (.aload_n 0, 1) := by decide +kernel
theorem dX7_setAll_213 : decode cX7_setAll 213 = .ok (.getfield 72, 3) := by decide +kernel
theorem dX7_setAll_216 : decode cX7_setAll 216 = .ok (.iload 7, 2) := by decide +kernel
theorem dX7_setAll_218 : decode cX7_setAll 218 = .ok (.iload 6, 2) := by decide +kernel
theorem dX7_setAll_220 : decode cX7_setAll 220 = .ok (.iastore, 1) := by decide +kernel
theorem dX7_setAll_221 : decode cX7_setAll 221 = .ok (.aload_n 0, 1) := by decide +kernel
theorem dX7_setAll_222 : decode cX7_setAll 222 = .ok (.getfield 75, 3) := by decide +kernel
theorem dX7_setAll_225 : decode cX7_setAll 225 = .ok (.iload 7, 2) := by decide +kernel
theorem dX7_setAll_227 : decode cX7_setAll 227 = .ok (.aload_n 0, 1) := by decide +kernel
theorem dX7_setAll_228 : decode cX7_setAll 228 = .ok (.getfield 226, 3) := by decide +kernel
theorem dX7_setAll_231 : decode cX7_setAll 231 = .ok (.iastore, 1) := by decide +kernel
theorem dX7_setAll_232 : decode cX7_setAll 232 = .ok (.iload 6, 2) := by decide +kernel
theorem dX7_setAll_234 : decode cX7_setAll 234 = .ok (.aload_n 0, 1) := by decide +kernel
theorem dX7_setAll_235 : decode cX7_setAll 235 = .ok (.getfield 22, 3) := by decide +kernel
theorem dX7_setAll_238 : decode cX7_setAll 238 = .ok (.iload 7, 2) := by decide +kernel
theorem dX7_setAll_240 : decode cX7_setAll 240 = .ok (.iaload, 1) := by decide +kernel
theorem dX7_setAll_241 : decode cX7_setAll 241 = .ok (.iadd, 1) := by decide +kernel
theorem dX7_setAll_242 : decode cX7_setAll 242 = .ok (.istore 6, 2) := by decide +kernel
theorem dX7_setAll_244 : decode cX7_setAll 244 = .ok (.iinc 7 1, 3) := by decide +kernel
theorem dX7_setAll_247 : decode cX7_setAll 247 = .ok (.goto (-44), 3) := by decide +kernel
theorem dX7_setAll_250 : decode cX7_setAll 250 = .ok (.aload_n 0, 1) := by decide +kernel
theorem dX7_setAll_251 : decode cX7_setAll 251 = .ok (.aload_n 0, 1) := by decide +kernel
theorem dX7_setAll_252 : decode cX7_setAll 252 = .ok (.getfield 226, 3) := by decide +kernel
theorem dX7_setAll_255 : decode cX7_setAll 255 = .ok (.invokevirtual 233, 3) := by decide +kernel
theorem dX7_setAll_258 : decode cX7_setAll 258 = .ok (.iload_n 1, 1) := by decide +kernel
theorem dX7_setAll_259 : decode cX7_setAll 259 = .ok (.iload 4, 2) := by decide +kernel
theorem dX7_setAll_261 : decode cX7_setAll 261 = .ok (.iadd, 1) := by decide +kernel
theorem dX7_setAll_262 : decode cX7_setAll 262 = .ok (.istore_n 1, 1) := by decide +kernel
theorem dX7_setAll_263 : decode cX7_setAll 263 = .ok (.aload_n 0, 1) := by decide +kernel
theorem dX7_setAll_264 : decode cX7_setAll 264 = .ok (.dup, 1) := by decide +kernel
theorem dX7_setAll_265 : decode cX7_setAll 265 = .ok (.getfield 226, 3) := by decide +kernel
theorem dX7_setAll_268 : decode cX7_setAll 268 = .ok (.iconst 1, 1) := by decide +kernel
theorem dX7_setAll_269 : decode cX7_setAll 269 = .ok (.iadd, 1) := by decide +kernel
theorem dX7_setAll_270 : decode cX7_setAll 270 = .ok (.putfield 226, 3) := by decide +kernel
theorem dX7_setAll_273 : decode cX7_setAll 273 = .ok (.goto (-234), 3) := by decide +kernel
theorem dX7_setAll_276 : decode cX7_setAll 276 = .ok (.return_, 1) := by decide +kernel
theorem dX7_lacks_0 : decode cX7_lacks 0 = .ok (.aload_n 0, 1) := by decide +kernel
theorem dX7_lacks_1 : decode cX7_lacks 1 = .ok (.invokevirtual 236, 3) := by decide +kernel
theorem dX7_lacks_4 : decode cX7_lacks 4 = .ok (.aload_n 0, 1) := by decide +kernel
theorem dX7_lacks_5 : decode cX7_lacks 5 = .ok (.getfield 223, 3) := by decide +kernel
theorem dX7_lacks_8 : decode cX7_lacks 8 = .ok (.ifCond .ne 7, 3) := by decide +kernel
theorem dX7_lacks_11 : decode cX7_lacks 11 = .ok (.iconst 1, 1) := by decide +kernel
theorem dX7_lacks_12 : decode cX7_lacks 12 = .ok (.goto 4, 3) := by decide +kernel
theorem dX7_lacks_15 : decode cX7_lacks 15 = .ok (.iconst 0, 1) := by decide +kernel
theorem dX7_lacks_16 : decode cX7_lacks 16 = .ok (.ireturn, 1) := by decide +kernel
theorem dX7_pages_0 : decode cX7_pages 0 = .ok (.aload_n 0, 1) := by decide +kernel
theorem dX7_pages_1 : decode cX7_pages 1 = .ok (.iconst 0, 1) := by decide +kernel
theorem dX7_pages_2 : decode cX7_pages 2 = .ok (.putfield 123, 3) := by decide +kernel
theorem dX7_pages_5 : decode cX7_pages 5 = .ok (.aload_n 0, 1) := by decide +kernel
theorem dX7_pages_6 : decode cX7_pages 6 = .ok (.iconst 0, 1) := by decide +kernel
theorem dX7_pages_7 : decode cX7_pages 7 = .ok (.putfield 126, 3) := by decide +kernel
theorem dX7_pages_10 : decode cX7_pages 10 = .ok (.aload_n 0, 1) := by decide +kernel
theorem dX7_pages_11 : decode cX7_pages 11 = .ok (.invokevirtual 239, 3) := by decide +kernel
theorem dX7_pages_14 : decode cX7_pages 14 = .ok (.ifCond .eq 12, 3) := by decide +kernel
theorem dX7_pages_17 : decode cX7_pages 17 = .ok (.aload_n 0, 1) := by decide +kernel
theorem dX7_pages_18 : decode cX7_pages 18 = .ok (.bipush 6, 2) := by decide +kernel
theorem dX7_pages_20 : decode cX7_pages 20 = .ok (.invokevirtual 147, 3) := by decide +kernel
theorem dX7_pages_23 : decode cX7_pages 23 = .ok (.goto 7, 3) := by decide +kernel
theorem dX7_pages_26 : decode cX7_pages 26 = .ok (.aload_n 0, 1) := by decide +kernel
theorem dX7_pages_27 : decode cX7_pages 27 = .ok (.getfield 226, 3) := by decide +kernel
theorem dX7_pages_30 : decode cX7_pages 30 = .ok (.ireturn, 1) := by decide +kernel
theorem dX7_pageOf_0 : decode cX7_pageOf 0 = .ok (.aload_n 0, 1) := by decide +kernel
theorem dX7_pageOf_1 : decode cX7_pageOf 1 = .ok (.iconst 0, 1) := by decide +kernel
theorem dX7_pageOf_2 : decode cX7_pageOf 2 = .ok (.putfield 123, 3) := by decide +kernel
theorem dX7_pageOf_5 : decode cX7_pageOf 5 = .ok (.aload_n 0, 1) := by decide +kernel
theorem dX7_pageOf_6 : decode cX7_pageOf 6 = .ok (.iconst 0, 1) := by decide +kernel
theorem dX7_pageOf_7 : decode cX7_pageOf 7 = .ok (.putfield 126, 3) := by decide +kernel
theorem dX7_pageOf_10 : decode cX7_pageOf 10 = .ok (.aload_n 0, 1) := by decide +kernel
theorem dX7_pageOf_11 : decode cX7_pageOf 11 = .ok (.iload_n 1, 1) := by decide +kernel
theorem dX7_pageOf_12 : decode cX7_pageOf 12 = .ok (.invokevirtual 151, 3) := by decide +kernel
theorem dX7_pageOf_15 : decode cX7_pageOf 15 = .ok (.ifCond .ne 9, 3) := by decide +kernel
theorem dX7_pageOf_18 : decode cX7_pageOf 18 = .ok (.aload_n 0, 1) := by decide +kernel
theorem dX7_pageOf_19 : decode cX7_pageOf 19 = .ok (.iconst 1, 1) := by decide +kernel
theorem dX7_pageOf_20 : decode cX7_pageOf 20 = .ok (.invokevirtual 147, 3) := by decide +kernel
theorem dX7_pageOf_23 : decode cX7_pageOf 23 = .ok (.ireturn, 1) := by decide +kernel
theorem dX7_pageOf_24 : decode cX7_pageOf 24 = .ok (.aload_n 0, 1) := by decide +kernel
theorem dX7_pageOf_25 : decode cX7_pageOf 25 = .ok (.invokevirtual 239, 3) := by decide +kernel
theorem dX7_pageOf_28 : decode cX7_pageOf 28 = .ok (.ifCond .eq 12, 3) := by decide +kernel
theorem dX7_pageOf_31 : decode cX7_pageOf 31 = .ok (.aload_n 0, 1) := by decide +kernel
theorem dX7_pageOf_32 : decode cX7_pageOf 32 = .ok (.bipush 6, 2) := by decide +kernel
theorem dX7_pageOf_34 : decode cX7_pageOf 34 = .ok (.invokevirtual 147, 3) := by decide +kernel
theorem dX7_pageOf_37 : decode cX7_pageOf 37 = .ok (.goto 9, 3) := by decide +kernel
theorem dX7_pageOf_40 : decode cX7_pageOf 40 = .ok (.aload_n 0, 1) := by decide +kernel
theorem dX7_pageOf_41 : decode cX7_pageOf 41 = .ok (.getfield 75, 3) := by decide +kernel
theorem dX7_pageOf_44 : decode cX7_pageOf 44 = .ok (.iload_n 1, 1) := by decide +kernel
theorem dX7_pageOf_45 : decode cX7_pageOf 45 = .ok (.iaload, 1) := by decide +kernel
theorem dX7_pageOf_46 : decode cX7_pageOf 46 = .ok (.ireturn, 1) := by decide +kernel
theorem dX7_top_0 : decode cX7_top 0 = .ok (.aload_n 0, 1) := by decide +kernel
theorem dX7_top_1 : decode cX7_top 1 = .ok (.iconst 0, 1) := by decide +kernel
theorem dX7_top_2 : decode cX7_top 2 = .ok (.putfield 123, 3) := by decide +kernel
theorem dX7_top_5 : decode cX7_top 5 = .ok (.aload_n 0, 1) := by decide +kernel
theorem dX7_top_6 : decode cX7_top 6 = .ok (.iconst 0, 1) := by decide +kernel
theorem dX7_top_7 : decode cX7_top 7 = .ok (.putfield 126, 3) := by decide +kernel
theorem dX7_top_10 : decode cX7_top 10 = .ok (.aload_n 0, 1) := by decide +kernel
theorem dX7_top_11 : decode cX7_top 11 = .ok (.iload_n 1, 1) := by decide +kernel
theorem dX7_top_12 : decode cX7_top 12 = .ok (.invokevirtual 151, 3) := by decide +kernel
theorem dX7_top_15 : decode cX7_top 15 = .ok (.ifCond .ne 9, 3) := by decide +kernel
theorem dX7_top_18 : decode cX7_top 18 = .ok (.aload_n 0, 1) := by decide +kernel
theorem dX7_top_19 : decode cX7_top 19 = .ok (.iconst 1, 1) := by decide +kernel
theorem dX7_top_20 : decode cX7_top 20 = .ok (.invokevirtual 147, 3) := by decide +kernel
theorem dX7_top_23 : decode cX7_top 23 = .ok (.ireturn, 1) := by decide +kernel
theorem dX7_top_24 : decode cX7_top 24 = .ok (.aload_n 0, 1) := by decide +kernel
theorem dX7_top_25 : decode cX7_top 25 = .ok (.invokevirtual 239, 3) := by decide +kernel
theorem dX7_top_28 : decode cX7_top 28 = .ok (.ifCond .eq 12, 3) := by decide +kernel
theorem dX7_top_31 : decode cX7_top 31 = .ok (.aload_n 0, 1) := by decide +kernel
theorem dX7_top_32 : decode cX7_top 32 = .ok (.bipush 6, 2) := by decide +kernel
theorem dX7_top_34 : decode cX7_top 34 = .ok (.invokevirtual 147, 3) := by decide +kernel
theorem dX7_top_37 : decode cX7_top 37 = .ok (.goto 9, 3) := by decide +kernel
theorem dX7_top_40 : decode cX7_top 40 = .ok (.aload_n 0, 1) := by decide +kernel
theorem dX7_top_41 : decode cX7_top 41 = .ok (.getfield 72, 3) := by decide +kernel
theorem dX7_top_44 : decode cX7_top 44 = .ok (.iload_n 1, 1) := by decide +kernel
theorem dX7_top_45 : decode cX7_top 45 = .ok (.iaload, 1) := by decide +kernel
theorem dX7_top_46 : decode cX7_top 46 = .ok (.ireturn, 1) := by decide +kernel
theorem dX7_asked_0 : decode cX7_asked 0 = .ok (.aload_n 0, 1) := by decide +kernel
theorem dX7_asked_1 : decode cX7_asked 1 = .ok (.iload_n 1, 1) := by decide +kernel
theorem dX7_asked_2 : decode cX7_asked 2 = .ok (.invokevirtual 154, 3) := by decide +kernel
theorem dX7_asked_5 : decode cX7_asked 5 = .ok (.ifCond .ne 5, 3) := by decide +kernel
theorem dX7_asked_8 : decode cX7_asked 8 = .ok (.iconst 1, 1) := by decide +kernel
theorem dX7_asked_9 : decode cX7_asked 9 = .ok (.ireturn, 1) := by decide +kernel
theorem dX7_asked_10 : decode cX7_asked 10 = .ok (.aload_n 0, 1) := by decide +kernel
theorem dX7_asked_11 : decode cX7_asked 11 = .ok (.iload_n 1, 1) := by decide +kernel
theorem dX7_asked_12 : decode cX7_asked 12 = .ok (.invokevirtual 163, 3) := by decide +kernel
theorem dX7_asked_15 : decode cX7_asked 15 = .ok (.ifCond .ne 5, 3) := by decide +kernel
theorem dX7_asked_18 : decode cX7_asked 18 = .ok (.iconst 5, 1) := by decide +kernel
theorem dX7_asked_19 : decode cX7_asked 19 = .ok (.ireturn, 1) := by decide +kernel
theorem dX7_asked_20 : decode cX7_asked 20 = .ok (.aload_n 0, 1) := by decide +kernel
theorem dX7_asked_21 : decode cX7_asked 21 = .ok (.invokevirtual 239, 3) := by decide +kernel
theorem dX7_asked_24 : decode cX7_asked 24 = .ok (.ifCond .eq 8, 3) := by decide +kernel
theorem dX7_asked_27 : decode cX7_asked 27 = .ok (.bipush 6, 2) := by decide +kernel
theorem dX7_asked_29 : decode cX7_asked 29 = .ok (.goto 4, 3) := by decide +kernel
theorem dX7_asked_32 : decode cX7_asked 32 = .ok (.iconst 0, 1) := by decide +kernel
theorem dX7_asked_33 : decode cX7_asked 33 = .ok (.ireturn, 1) := by decide +kernel
theorem dX7_side_0 : decode cX7_side 0 = .ok (.aload_n 0, 1) := by decide +kernel
theorem dX7_side_1 : decode cX7_side 1 = .ok (.iconst 0, 1) := by decide +kernel
theorem dX7_side_2 : decode cX7_side 2 = .ok (.putfield 123, 3) := by decide +kernel
theorem dX7_side_5 : decode cX7_side 5 = .ok (.aload_n 0, 1) := by decide +kernel
theorem dX7_side_6 : decode cX7_side 6 = .ok (.aload_n 0, 1) := by decide +kernel
theorem dX7_side_7 : decode cX7_side 7 = .ok (.iload_n 1, 1) := by decide +kernel
theorem dX7_side_8 : decode cX7_side 8 = .ok (.invokevirtual 242, 3) := by decide +kernel
theorem dX7_side_11 : decode cX7_side 11 = .ok (.putfield 126, 3) := by decide +kernel
theorem dX7_side_14 : decode cX7_side 14 = .ok (.aload_n 0, 1) := by decide +kernel
theorem dX7_side_15 : decode cX7_side 15 = .ok (.getfield 126, 3) := by decide +kernel
theorem dX7_side_18 : decode cX7_side 18 = .ok (.ifCond .le 7, 3) := by decide +kernel
theorem dX7_side_21 : decode cX7_side 21 = .ok (.iconst (-1), 1) := by decide +kernel
theorem dX7_side_22 : decode cX7_side 22 = .ok (.goto 9, 3) := by decide +kernel
theorem dX7_side_25 : decode cX7_side 25 = .ok (.aload_n 0, 1) := by decide +kernel
theorem dX7_side_26 : decode cX7_side 26 = .ok (.getfield 78, 3) := by decide +kernel
theorem dX7_side_29 : decode cX7_side 29 = .ok (.iload_n 1, 1) := by decide +kernel
theorem dX7_side_30 : decode cX7_side 30 = .ok (.iaload, 1) := by decide +kernel
theorem dX7_side_31 : decode cX7_side 31 = .ok (.ireturn, 1) := by decide +kernel
theorem dX7_place_0 : decode cX7_place 0 = .ok (.aload_n 0, 1) := by decide +kernel
theorem dX7_place_1 : decode cX7_place 1 = .ok (.iconst 0, 1) := by decide +kernel
theorem dX7_place_2 : decode cX7_place 2 = .ok (.putfield 123, 3) := by decide +kernel
theorem dX7_place_5 : decode cX7_place 5 = .ok (.aload_n 0, 1) := by decide +kernel
theorem dX7_place_6 : decode cX7_place 6 = .ok (.aload_n 0, 1) := by decide +kernel
theorem dX7_place_7 : decode cX7_place 7 = .ok (.iload_n 1, 1) := by decide +kernel
theorem dX7_place_8 : decode cX7_place 8 = .ok (.invokevirtual 242, 3) := by decide +kernel
theorem dX7_place_11 : decode cX7_place 11 = .ok (.putfield 126, 3) := by decide +kernel
theorem dX7_place_14 : decode cX7_place 14 = .ok (.aload_n 0, 1) := by decide +kernel
theorem dX7_place_15 : decode cX7_place 15 = .ok (.getfield 126, 3) := by decide +kernel
theorem dX7_place_18 : decode cX7_place 18 = .ok (.ifCond .le 7, 3) := by decide +kernel
theorem dX7_place_21 : decode cX7_place 21 = .ok (.iconst (-1), 1) := by decide +kernel
theorem dX7_place_22 : decode cX7_place 22 = .ok (.goto 9, 3) := by decide +kernel
theorem dX7_place_25 : decode cX7_place 25 = .ok (.aload_n 0, 1) := by decide +kernel
theorem dX7_place_26 : decode cX7_place 26 = .ok (.getfield 81, 3) := by decide +kernel
theorem dX7_place_29 : decode cX7_place 29 = .ok (.iload_n 1, 1) := by decide +kernel
theorem dX7_place_30 : decode cX7_place 30 = .ok (.iaload, 1) := by decide +kernel
theorem dX7_place_31 : decode cX7_place 31 = .ok (.ireturn, 1) := by decide +kernel
theorem dX7_rest_0 : decode cX7_rest 0 = .ok (.aload_n 0, 1) := by decide +kernel
theorem dX7_rest_1 : decode cX7_rest 1 = .ok (.iconst 0, 1) := by decide +kernel
theorem dX7_rest_2 : decode cX7_rest 2 = .ok (.putfield 123, 3) := by decide +kernel
theorem dX7_rest_5 : decode cX7_rest 5 = .ok (.aload_n 0, 1) := by decide +kernel
theorem dX7_rest_6 : decode cX7_rest 6 = .ok (.aload_n 0, 1) := by decide +kernel
theorem dX7_rest_7 : decode cX7_rest 7 = .ok (.iload_n 1, 1) := by decide +kernel
theorem dX7_rest_8 : decode cX7_rest 8 = .ok (.invokevirtual 242, 3) := by decide +kernel
theorem dX7_rest_11 : decode cX7_rest 11 = .ok (.putfield 126, 3) := by decide +kernel
theorem dX7_rest_14 : decode cX7_rest 14 = .ok (.aload_n 0, 1) := by decide +kernel
theorem dX7_rest_15 : decode cX7_rest 15 = .ok (.getfield 126, 3) := by decide +kernel
theorem dX7_rest_18 : decode cX7_rest 18 = .ok (.ifCond .le 7, 3) := by decide +kernel
theorem dX7_rest_21 : decode cX7_rest 21 = .ok (.iconst (-1), 1) := by decide +kernel
theorem dX7_rest_22 : decode cX7_rest 22 = .ok (.goto 9, 3) := by decide +kernel
theorem dX7_rest_25 : decode cX7_rest 25 = .ok (.aload_n 0, 1) := by decide +kernel
theorem dX7_rest_26 : decode cX7_rest 26 = .ok (.getfield 87, 3) := by decide +kernel
theorem dX7_rest_29 : decode cX7_rest 29 = .ok (.iload_n 1, 1) := by decide +kernel
theorem dX7_rest_30 : decode cX7_rest 30 = .ok (.iaload, 1) := by decide +kernel
theorem dX7_rest_31 : decode cX7_rest 31 = .ok (.ireturn, 1) := by decide +kernel
theorem dX7_brackets_0 : decode cX7_brackets 0 = .ok (.iconst 0, 1) := by decide +kernel
theorem dX7_brackets_1 : decode cX7_brackets 1 = .ok (.istore_n 2, 1) := by decide +kernel
theorem dX7_brackets_2 : decode cX7_brackets 2 = .ok (.iload_n 2, 1) := by decide +kernel
theorem dX7_brackets_3 : decode cX7_brackets 3 = .ok (.aload_n 0, 1) := by decide +kernel
theorem dX7_brackets_4 : decode cX7_brackets 4 = .ok (.getfield 136, 3) := by decide +kernel
theorem dX7_brackets_7 : decode cX7_brackets 7 = .ok (.if_icmp .ge 16, 3) := by decide +kernel
theorem dX7_brackets_10 : decode cX7_brackets 10 = .ok (.aload_n 0, 1) := by decide +kernel
theorem dX7_brackets_11 : decode cX7_brackets 11 = .ok (.getfield 114, 3) := by decide +kernel
theorem dX7_brackets_14 : decode cX7_brackets 14 = .ok (.iload_n 2, 1) := by decide +kernel
theorem dX7_brackets_15 : decode cX7_brackets 15 = .ok (.iconst (-1), 1) := by decide +kernel
theorem dX7_brackets_16 : decode cX7_brackets 16 = .ok (.iastore, 1) := by decide +kernel
theorem dX7_brackets_17 : decode cX7_brackets 17 = .ok (.iinc 2 1, 3) := by decide +kernel
theorem dX7_brackets_20 : decode cX7_brackets 20 = .ok (.goto (-18), 3) := by decide +kernel
theorem dX7_brackets_23 : decode cX7_brackets 23 = .ok (.aload_n 0, 1) := by decide +kernel
theorem dX7_brackets_24 : decode cX7_brackets 24 = .ok (.getfield 59, 3) := by decide +kernel
theorem dX7_brackets_27 : decode cX7_brackets 27 = .ok (.iload_n 1, 1) := by decide +kernel
theorem dX7_brackets_28 : decode cX7_brackets 28 = .ok (.iaload, 1) := by decide +kernel
theorem dX7_brackets_29 : decode cX7_brackets 29 = .ok (.istore_n 2, 1) := by decide +kernel
theorem dX7_brackets_30 : decode cX7_brackets 30 = .ok (.aload_n 0, 1) := by decide +kernel
theorem dX7_brackets_31 : decode cX7_brackets 31 = .ok (.getfield 59, 3) := by decide +kernel
theorem dX7_brackets_34 : decode cX7_brackets 34 = .ok (.iload_n 1, 1) := by decide +kernel
theorem dX7_brackets_35 : decode cX7_brackets 35 = .ok (.iaload, 1) := by decide +kernel
theorem dX7_brackets_36 : decode cX7_brackets 36 = .ok (.aload_n 0, 1) := by decide +kernel
theorem dX7_brackets_37 : decode cX7_brackets 37 = .ok (.getfield 62, 3) := by decide +kernel
theorem dX7_brackets_40 : decode cX7_brackets 40 = .ok (.iload_n 1, 1) := by decide +kernel
theorem dX7_brackets_41 : decode cX7_brackets 41 = .ok (.iaload, 1) := by decide +kernel
theorem dX7_brackets_42 : decode cX7_brackets 42 = .ok (.iadd, 1) := by decide +kernel
theorem dX7_brackets_43 : decode cX7_brackets 43 = .ok (.iconst 1, 1) := by decide +kernel
theorem dX7_brackets_44 : decode cX7_brackets 44 = .ok (.isub, 1) := by decide +kernel
theorem dX7_brackets_45 : decode cX7_brackets 45 = .ok (.istore_n 3, 1) := by decide +kernel
theorem dX7_brackets_46 : decode cX7_brackets 46 = .ok (.iconst 0, 1) := by decide +kernel
theorem dX7_brackets_47 : decode cX7_brackets 47 = .ok (.istore 4, 2) := by decide +kernel
theorem dX7_brackets_49 : decode cX7_brackets 49 = .ok (.iload 4, 2) := by decide +kernel
theorem dX7_brackets_51 : decode cX7_brackets 51 = .ok (.aload_n 0, 1) := by decide +kernel
theorem dX7_brackets_52 : decode cX7_brackets 52 = .ok (.getfield 133, 3) := by decide +kernel
theorem dX7_brackets_55 : decode cX7_brackets 55 = .ok (.if_icmp .ge 173, 3) := by decide +kernel
theorem dX7_brackets_58 : decode cX7_brackets 58 = .ok (.iconst 0, 1) := by decide +kernel
theorem dX7_brackets_59 : decode cX7_brackets 59 = .ok (.istore 5, 2) := by decide +kernel
theorem dX7_brackets_61 : decode cX7_brackets 61 = .ok (.iload 5, 2) := by decide +kernel
theorem dX7_brackets_63 : decode cX7_brackets 63 = .ok (.aload_n 0, 1) := by decide +kernel
theorem dX7_brackets_64 : decode cX7_brackets 64 = .ok (.getfield 136, 3) := by decide +kernel
theorem dX7_brackets_67 : decode cX7_brackets 67 = .ok (.if_icmp .ge 155, 3) := by decide +kernel
theorem dX7_brackets_70 : decode cX7_brackets 70 = .ok (.aload_n 0, 1) := by decide +kernel
theorem dX7_brackets_71 : decode cX7_brackets 71 = .ok (.getfield 26, 3) := by decide +kernel
theorem dX7_brackets_74 : decode cX7_brackets 74 = .ok (.iload 5, 2) := by decide +kernel
theorem dX7_brackets_76 : decode cX7_brackets 76 = .ok (.iaload, 1) := by decide +kernel
theorem dX7_brackets_77 : decode cX7_brackets 77 = .ok (.iload 4, 2) := by decide +kernel
theorem dX7_brackets_79 : decode cX7_brackets 79 = .ok (.if_icmp .ne 137, 3) := by decide +kernel
theorem dX7_brackets_82 : decode cX7_brackets 82 = .ok (.aload_n 0, 1) := by decide +kernel
theorem dX7_brackets_83 : decode cX7_brackets 83 = .ok (.getfield 53, 3) := by decide +kernel
theorem dX7_brackets_86 : decode cX7_brackets 86 = .ok (.iload 5, 2) := by decide +kernel
theorem dX7_brackets_88 : decode cX7_brackets 88 = .ok (.iaload, 1) := by decide +kernel
theorem dX7_brackets_89 : decode cX7_brackets 89 = .ok (.ifCond .lt 127, 3) := by decide +kernel
theorem dX7_brackets_92 : decode cX7_brackets 92 = .ok (.aload_n 0, 1) := by decide +kernel
theorem dX7_brackets_93 : decode cX7_brackets 93 = .ok (.getfield 157, 3) := by decide +kernel
theorem dX7_brackets_96 : decode cX7_brackets 96 = .ok (.ifCond .ne 15, 3) := by decide +kernel
theorem dX7_brackets_99 : decode cX7_brackets 99 = .ok (.aload_n 0, 1) := by decide +kernel
theorem dX7_brackets_100 : decode cX7_brackets 100 = .ok (.iload 5, 2) := by decide +kernel
theorem dX7_brackets_102 : decode cX7_brackets 102 = .ok (.invokevirtual 163, 3) := by decide +kernel
theorem dX7_brackets_105 : decode cX7_brackets 105 = .ok (.ifCond .ne 6, 3) := by decide +kernel
theorem dX7_brackets_108 : decode cX7_brackets 108 = .ok (.goto 108, 3) := by decide +kernel
theorem dX7_brackets_111 : decode cX7_brackets 111 = .ok (.iload_n 2, 1) := by decide +kernel
theorem dX7_brackets_112 : decode cX7_brackets 112 = .ok (.aload_n 0, 1) := by decide +kernel
theorem dX7_brackets_113 : decode cX7_brackets 113 = .ok (.getfield 26, 3) := by decide +kernel
theorem dX7_brackets_116 : decode cX7_brackets 116 = .ok (.iload 5, 2) := by decide +kernel
theorem dX7_brackets_118 : decode cX7_brackets 118 = .ok (.iaload, 1) := by decide +kernel
theorem dX7_brackets_119 : decode cX7_brackets 119 = .ok (.invokestatic 245, 3) := by decide +kernel
theorem dX7_brackets_122 : decode cX7_brackets 122 = .ok (.istore 6, 2) := by decide +kernel
theorem dX7_brackets_124 : decode cX7_brackets 124 = .ok (.iload_n 3, 1) := by decide +kernel
theorem dX7_brackets_125 : decode cX7_brackets 125 = .ok (.aload_n 0, 1) := by decide +kernel
theorem dX7_brackets_126 : decode cX7_brackets 126 = .ok (.getfield 53, 3) := by decide +kernel
theorem dX7_brackets_129 : decode cX7_brackets 129 = .ok (.iload 5, 2) := by decide +kernel
theorem dX7_brackets_131 : decode cX7_brackets 131 = .ok (.iaload, 1) := by decide +kernel
theorem dX7_brackets_132 : decode cX7_brackets 132 = .ok (.invokestatic 248, 3) := by decide +kernel
theorem dX7_brackets_135 : decode cX7_brackets 135 = .ok (.istore 7, 2) := by decide +kernel
theorem dX7_brackets_137 : decode cX7_brackets 137 = .ok (.iload 6, 2) := by decide +kernel
theorem dX7_brackets_139 : decode cX7_brackets 139 = .ok (.iload 7, 2) := by decide +kernel
theorem dX7_brackets_141 : decode cX7_brackets 141 = .ok (.if_icmp .le 6, 3) := by decide +kernel
theorem dX7_brackets_144 : decode cX7_brackets 144 = .ok (.goto 72, 3) := by decide +kernel
theorem dX7_brackets_147 : decode cX7_brackets 147 = .ok (.aload_n 0, 1) := by decide +kernel
theorem dX7_brackets_148 : decode cX7_brackets 148 = .ok (.getfield 114, 3) := by decide +kernel
theorem dX7_brackets_151 : decode cX7_brackets 151 = .ok (.iload 5, 2) := by decide +kernel
theorem dX7_brackets_153 : decode cX7_brackets 153 = .ok (.aload_n 0, 1) := by decide +kernel
theorem dX7_brackets_154 : decode cX7_brackets 154 = .ok (.getfield 72, 3) := by decide +kernel
theorem dX7_brackets_157 : decode cX7_brackets 157 = .ok (.iload 6, 2) := by decide +kernel
theorem dX7_brackets_159 : decode cX7_brackets 159 = .ok (.iaload, 1) := by decide +kernel
theorem dX7_brackets_160 : decode cX7_brackets 160 = .ok (.iastore, 1) := by decide +kernel
theorem dX7_brackets_161 : decode cX7_brackets 161 = .ok (.aload_n 0, 1) := by decide +kernel
theorem dX7_brackets_162 : decode cX7_brackets 162 = .ok (.getfield 117, 3) := by decide +kernel
theorem dX7_brackets_165 : decode cX7_brackets 165 = .ok (.iload 5, 2) := by decide +kernel
theorem dX7_brackets_167 : decode cX7_brackets 167 = .ok (.aload_n 0, 1) := by decide +kernel
theorem dX7_brackets_168 : decode cX7_brackets 168 = .ok (.getfield 72, 3) := by decide +kernel
theorem dX7_brackets_171 : decode cX7_brackets 171 = .ok (.iload 7, 2) := by decide +kernel
theorem dX7_brackets_173 : decode cX7_brackets 173 = .ok (.iaload, 1) := by decide +kernel
theorem dX7_brackets_174 : decode cX7_brackets 174 = .ok (.aload_n 0, 1) := by decide +kernel
theorem dX7_brackets_175 : decode cX7_brackets 175 = .ok (.getfield 22, 3) := by decide +kernel
theorem dX7_brackets_178 : decode cX7_brackets 178 = .ok (.iload 7, 2) := by decide +kernel
theorem dX7_brackets_180 : decode cX7_brackets 180 = .ok (.iaload, 1) := by decide +kernel
theorem dX7_brackets_181 : decode cX7_brackets 181 = .ok (.iadd, 1) := by decide +kernel
theorem dX7_brackets_182 : decode cX7_brackets 182 = .ok (.iastore, 1) := by decide +kernel
theorem dX7_brackets_183 : decode cX7_brackets 183 = .ok (.aload_n 0, 1) := by decide +kernel
theorem dX7_brackets_184 : decode cX7_brackets 184 = .ok (.getfield 120, 3) := by decide +kernel
theorem dX7_brackets_187 : decode cX7_brackets 187 = .ok (.iload 5, 2) := by decide +kernel
theorem dX7_brackets_189 : decode cX7_brackets 189 = .ok (.iconst 0, 1) := by decide +kernel
theorem dX7_brackets_190 : decode cX7_brackets 190 = .ok (.iastore, 1) := by decide +kernel
theorem dX7_brackets_191 : decode cX7_brackets 191 = .ok (.aload_n 0, 1) := by decide +kernel
theorem dX7_brackets_192 : decode cX7_brackets 192 = .ok (.iload 5, 2) := by decide +kernel
theorem dX7_brackets_194 : decode cX7_brackets 194 = .ok (.iload 4, 2) := by decide +kernel
theorem dX7_brackets_196 : decode cX7_brackets 196 = .ok (.invokevirtual 250, 3) := by decide +kernel
theorem dX7_brackets_199 : decode cX7_brackets 199 = .ok (.ifCond .eq 17, 3) := by decide +kernel
theorem dX7_brackets_202 : decode cX7_brackets 202 = .ok (.aload_n 0, 1) := by decide +kernel
theorem dX7_brackets_203 : decode cX7_brackets 203 = .ok (.getfield 120, 3) := by decide +kernel
theorem dX7_brackets_206 : decode cX7_brackets 206 = .ok (.iload 5, 2) := by decide +kernel
theorem dX7_brackets_208 : decode cX7_brackets 208 = .ok (.dup2, 1) := by decide +kernel
theorem dX7_brackets_209 : decode cX7_brackets 209 = .ok (.iaload, 1) := by decide +kernel
theorem dX7_brackets_210 : decode cX7_brackets 210 = .ok (.iconst 1, 1) := by decide +kernel
theorem dX7_brackets_211 : decode cX7_brackets 211 = .ok (.iadd, 1) := by decide +kernel
theorem dX7_brackets_212 : decode cX7_brackets 212 = .ok (.iastore, 1) := by decide +kernel
theorem dX7_brackets_213 : decode cX7_brackets 213 = .ok (.goto (-22), 3) := by decide +kernel
theorem dX7_brackets_216 : decode cX7_brackets 216 = .ok (.iinc 5 1, 3) := by decide +kernel
theorem dX7_brackets_219 : decode cX7_brackets 219 = .ok (.goto (-158), 3) := by decide +kernel
theorem dX7_brackets_222 : decode cX7_brackets 222 = .ok (.iinc 4 1, 3) := by decide +kernel
theorem dX7_brackets_225 : decode cX7_brackets 225 = .ok (.goto (-176), 3) := by decide +kernel
theorem dX7_brackets_228 : decode cX7_brackets 228 = .ok (.return_, 1) := by decide +kernel
theorem dX7_isMet_0 : decode cX7_isMet 0 = .ok (.iconst 0, 1) := by decide +kernel
theorem dX7_isMet_1 : decode cX7_isMet 1 = .ok (.istore_n 3, 1) := by decide +kernel
theorem dX7_isMet_2 : decode cX7_isMet 2 = .ok (.iload_n 3, 1) := by decide +kernel
theorem dX7_isMet_3 : decode cX7_isMet 3 = .ok (.aload_n 0, 1) := by decide +kernel
theorem dX7_isMet_4 : decode cX7_isMet 4 = .ok (.getfield 136, 3) := by decide +kernel
theorem dX7_isMet_7 : decode cX7_isMet 7 = .ok (.if_icmp .ge 117, 3) := by decide +kernel
theorem dX7_isMet_10 : decode cX7_isMet 10 = .ok (.aload_n 0, 1) := by decide +kernel
theorem dX7_isMet_11 : decode cX7_isMet 11 = .ok (.getfield 26, 3) := by decide +kernel
theorem dX7_isMet_14 : decode cX7_isMet 14 = .ok (.iload_n 3, 1) := by decide +kernel
theorem dX7_isMet_15 : decode cX7_isMet 15 = .ok (.iaload, 1) := by decide +kernel
theorem dX7_isMet_16 : decode cX7_isMet 16 = .ok (.iload_n 2, 1) := by decide +kernel
theorem dX7_isMet_17 : decode cX7_isMet 17 = .ok (.if_icmp .lt 18, 3) := by decide +kernel
theorem dX7_isMet_20 : decode cX7_isMet 20 = .ok (.aload_n 0, 1) := by decide +kernel
theorem dX7_isMet_21 : decode cX7_isMet 21 = .ok (.getfield 26, 3) := by decide +kernel
theorem dX7_isMet_24 : decode cX7_isMet 24 = .ok (.iload_n 3, 1) := by decide +kernel
theorem dX7_isMet_25 : decode cX7_isMet 25 = .ok (.iaload, 1) := by decide +kernel
theorem dX7_isMet_26 : decode cX7_isMet 26 = .ok (.iload_n 2, 1) := by decide +kernel
theorem dX7_isMet_27 : decode cX7_isMet 27 = .ok (.if_icmp .ne 12, 3) := by decide +kernel
theorem dX7_isMet_30 : decode cX7_isMet 30 = .ok (.iload_n 3, 1) := by decide +kernel
theorem dX7_isMet_31 : decode cX7_isMet 31 = .ok (.iload_n 1, 1) := by decide +kernel
theorem dX7_isMet_32 : decode cX7_isMet 32 = .ok (.if_icmp .ge 7, 3) := by decide +kernel
theorem dX7_isMet_35 : decode cX7_isMet 35 = .ok (.iconst 1, 1) := by decide +kernel
theorem dX7_isMet_36 : decode cX7_isMet 36 = .ok (.goto 4, 3) := by decide +kernel
theorem dX7_isMet_39 : decode cX7_isMet 39 = .ok (.iconst 0, 1) := by decide +kernel
theorem dX7_isMet_40 : decode cX7_isMet 40 = .ok (.istore 4, 2) := by decide +kernel
theorem dX7_isMet_42 : decode cX7_isMet 42 = .ok (.iload 4, 2) := by decide +kernel
theorem dX7_isMet_44 : decode cX7_isMet 44 = .ok (.ifCond .eq 74, 3) := by decide +kernel
theorem dX7_isMet_47 : decode cX7_isMet 47 = .ok (.aload_n 0, 1) := by decide +kernel
theorem dX7_isMet_48 : decode cX7_isMet 48 = .ok (.getfield 114, 3) := by decide +kernel
theorem dX7_isMet_51 : decode cX7_isMet 51 = .ok (.iload_n 3, 1) := by decide +kernel
theorem dX7_isMet_52 : decode cX7_isMet 52 = .ok (.iaload, 1) := by decide +kernel
theorem dX7_isMet_53 : decode cX7_isMet 53 = .ok (.ifCond .lt 65, 3) := by decide +kernel
theorem dX7_isMet_56 : decode cX7_isMet 56 = .ok (.aload_n 0, 1) := by decide +kernel
theorem dX7_isMet_57 : decode cX7_isMet 57 = .ok (.getfield 78, 3) := by decide +kernel
theorem dX7_isMet_60 : decode cX7_isMet 60 = .ok (.iload_n 3, 1) := by decide +kernel
theorem dX7_isMet_61 : decode cX7_isMet 61 = .ok (.iaload, 1) := by decide +kernel
theorem dX7_isMet_62 : decode cX7_isMet 62 = .ok (.aload_n 0, 1) := by decide +kernel
theorem dX7_isMet_63 : decode cX7_isMet 63 = .ok (.getfield 78, 3) := by decide +kernel
theorem dX7_isMet_66 : decode cX7_isMet 66 = .ok (.iload_n 1, 1) := by decide +kernel
theorem dX7_isMet_67 : decode cX7_isMet 67 = .ok (.iaload, 1) := by decide +kernel
theorem dX7_isMet_68 : decode cX7_isMet 68 = .ok (.if_icmp .ne 50, 3) := by decide +kernel
theorem dX7_isMet_71 : decode cX7_isMet 71 = .ok (.aload_n 0, 1) := by decide +kernel
theorem dX7_isMet_72 : decode cX7_isMet 72 = .ok (.getfield 120, 3) := by decide +kernel
theorem dX7_isMet_75 : decode cX7_isMet 75 = .ok (.iload_n 3, 1) := by decide +kernel
theorem dX7_isMet_76 : decode cX7_isMet 76 = .ok (.iaload, 1) := by decide +kernel
theorem dX7_isMet_77 : decode cX7_isMet 77 = .ok (.aload_n 0, 1) := by decide +kernel
theorem dX7_isMet_78 : decode cX7_isMet 78 = .ok (.getfield 120, 3) := by decide +kernel
theorem dX7_isMet_81 : decode cX7_isMet 81 = .ok (.iload_n 1, 1) := by decide +kernel
theorem dX7_isMet_82 : decode cX7_isMet 82 = .ok (.iaload, 1) := by decide +kernel
theorem dX7_isMet_83 : decode cX7_isMet 83 = .ok (.if_icmp .ne 35, 3) := by decide +kernel
theorem dX7_isMet_86 : decode cX7_isMet 86 = .ok (.aload_n 0, 1) := by decide +kernel
theorem dX7_isMet_87 : decode cX7_isMet 87 = .ok (.getfield 114, 3) := by decide +kernel
theorem dX7_isMet_90 : decode cX7_isMet 90 = .ok (.iload_n 3, 1) := by decide +kernel
theorem dX7_isMet_91 : decode cX7_isMet 91 = .ok (.iaload, 1) := by decide +kernel
theorem dX7_isMet_92 : decode cX7_isMet 92 = .ok (.aload_n 0, 1) := by decide +kernel
theorem dX7_isMet_93 : decode cX7_isMet 93 = .ok (.getfield 117, 3) := by decide +kernel
theorem dX7_isMet_96 : decode cX7_isMet 96 = .ok (.iload_n 1, 1) := by decide +kernel
theorem dX7_isMet_97 : decode cX7_isMet 97 = .ok (.iaload, 1) := by decide +kernel
theorem dX7_isMet_98 : decode cX7_isMet 98 = .ok (.if_icmp .ge 20, 3) := by decide +kernel
theorem dX7_isMet_101 : decode cX7_isMet 101 = .ok (.aload_n 0, 1) := by decide +kernel
theorem dX7_isMet_102 : decode cX7_isMet 102 = .ok (.getfield 114, 3) := by decide +kernel
theorem dX7_isMet_105 : decode cX7_isMet 105 = .ok (.iload_n 1, 1) := by decide +kernel
theorem dX7_isMet_106 : decode cX7_isMet 106 = .ok (.iaload, 1) := by decide +kernel
theorem dX7_isMet_107 : decode cX7_isMet 107 = .ok (.aload_n 0, 1) := by decide +kernel
theorem dX7_isMet_108 : decode cX7_isMet 108 = .ok (.getfield 117, 3) := by decide +kernel
theorem dX7_isMet_111 : decode cX7_isMet 111 = .ok (.iload_n 3, 1) := by decide +kernel
theorem dX7_isMet_112 : decode cX7_isMet 112 = .ok (.iaload, 1) := by decide +kernel
theorem dX7_isMet_113 : decode cX7_isMet 113 = .ok (.if_icmp .ge 5, 3) := by decide +kernel
theorem dX7_isMet_116 : decode cX7_isMet 116 = .ok (.iconst 1, 1) := by decide +kernel
theorem dX7_isMet_117 : decode cX7_isMet 117 = .ok (.ireturn, 1) := by decide +kernel
theorem dX7_isMet_118 : decode cX7_isMet 118 = .ok (.iinc 3 1, 3) := by decide +kernel
theorem dX7_isMet_121 : decode cX7_isMet 121 = .ok (.goto (-119), 3) := by decide +kernel
theorem dX7_isMet_124 : decode cX7_isMet 124 = .ok (.iconst 0, 1) := by decide +kernel
theorem dX7_isMet_125 : decode cX7_isMet 125 = .ok (.ireturn, 1) := by decide +kernel
theorem dX7_bracketed_0 : decode cX7_bracketed 0 = .ok (.aload_n 0, 1) := by decide +kernel
theorem dX7_bracketed_1 : decode cX7_bracketed 1 = .ok (.iload_n 1, 1) := by decide +kernel
theorem dX7_bracketed_2 : decode cX7_bracketed 2 = .ok (.invokevirtual 242, 3) := by decide +kernel
theorem dX7_bracketed_5 : decode cX7_bracketed 5 = .ok (.istore_n 3, 1) := by decide +kernel
theorem dX7_bracketed_6 : decode cX7_bracketed 6 = .ok (.iload_n 3, 1) := by decide +kernel
theorem dX7_bracketed_7 : decode cX7_bracketed 7 = .ok (.ifCond .le 5, 3) := by decide +kernel
theorem dX7_bracketed_10 : decode cX7_bracketed 10 = .ok (.iload_n 3, 1) := by decide +kernel
theorem dX7_bracketed_11 : decode cX7_bracketed 11 = .ok (.ireturn, 1) := by decide +kernel
theorem dX7_bracketed_12 : decode cX7_bracketed 12 = .ok (.iload_n 2, 1) := by decide +kernel
theorem dX7_bracketed_13 : decode cX7_bracketed 13 = .ok (.ifCond .lt 11, 3) := by decide +kernel
theorem dX7_bracketed_16 : decode cX7_bracketed 16 = .ok (.iload_n 2, 1) := by decide +kernel
theorem dX7_bracketed_17 : decode cX7_bracketed 17 = .ok (.aload_n 0, 1) := by decide +kernel
theorem dX7_bracketed_18 : decode cX7_bracketed 18 = .ok (.getfield 226, 3) := by decide +kernel
theorem dX7_bracketed_21 : decode cX7_bracketed 21 = .ok (.if_icmp .lt 5, 3) := by decide +kernel
theorem dX7_bracketed_24 : decode cX7_bracketed 24 = .ok (.iconst 1, 1) := by decide +kernel
theorem dX7_bracketed_25 : decode cX7_bracketed 25 = .ok (.ireturn, 1) := by decide +kernel
theorem dX7_bracketed_26 : decode cX7_bracketed 26 = .ok (.aload_n 0, 1) := by decide +kernel
theorem dX7_bracketed_27 : decode cX7_bracketed 27 = .ok (.iload_n 2, 1) := by decide +kernel
theorem dX7_bracketed_28 : decode cX7_bracketed 28 = .ok (.invokevirtual 253, 3) := by decide +kernel
theorem dX7_bracketed_31 : decode cX7_bracketed 31 = .ok (.aload_n 0, 1) := by decide +kernel
theorem dX7_bracketed_32 : decode cX7_bracketed 32 = .ok (.getfield 114, 3) := by decide +kernel
theorem dX7_bracketed_35 : decode cX7_bracketed 35 = .ok (.iload_n 1, 1) := by decide +kernel
theorem dX7_bracketed_36 : decode cX7_bracketed 36 = .ok (.iaload, 1) := by decide +kernel
theorem dX7_bracketed_37 : decode cX7_bracketed 37 = .ok (.ifCond .ge 8, 3) := by decide +kernel
theorem dX7_bracketed_40 : decode cX7_bracketed 40 = .ok (.bipush 8, 2) := by decide +kernel
theorem dX7_bracketed_42 : decode cX7_bracketed 42 = .ok (.goto 4, 3) := by decide +kernel
theorem dX7_bracketed_45 : decode cX7_bracketed 45 = .ok (.iconst 0, 1) := by decide +kernel
theorem dX7_bracketed_46 : decode cX7_bracketed 46 = .ok (.ireturn, 1) := by decide +kernel
theorem dX7_column_0 : decode cX7_column 0 = .ok (.aload_n 0, 1) := by decide +kernel
theorem dX7_column_1 : decode cX7_column 1 = .ok (.iconst 0, 1) := by decide +kernel
theorem dX7_column_2 : decode cX7_column 2 = .ok (.putfield 123, 3) := by decide +kernel
theorem dX7_column_5 : decode cX7_column 5 = .ok (.aload_n 0, 1) := by decide +kernel
theorem dX7_column_6 : decode cX7_column 6 = .ok (.aload_n 0, 1) := by decide +kernel
theorem dX7_column_7 : decode cX7_column 7 = .ok (.iload_n 1, 1) := by decide +kernel
theorem dX7_column_8 : decode cX7_column 8 = .ok (.iload_n 2, 1) := by decide +kernel
theorem dX7_column_9 : decode cX7_column 9 = .ok (.invokevirtual 256, 3) := by decide +kernel
theorem dX7_column_12 : decode cX7_column 12 = .ok (.putfield 126, 3) := by decide +kernel
theorem dX7_column_15 : decode cX7_column 15 = .ok (.aload_n 0, 1) := by decide +kernel
theorem dX7_column_16 : decode cX7_column 16 = .ok (.getfield 126, 3) := by decide +kernel
theorem dX7_column_19 : decode cX7_column 19 = .ok (.ifCond .le 7, 3) := by decide +kernel
theorem dX7_column_22 : decode cX7_column 22 = .ok (.iconst (-1), 1) := by decide +kernel
theorem dX7_column_23 : decode cX7_column 23 = .ok (.goto 9, 3) := by decide +kernel
theorem dX7_column_26 : decode cX7_column 26 = .ok (.aload_n 0, 1) := by decide +kernel
theorem dX7_column_27 : decode cX7_column 27 = .ok (.getfield 120, 3) := by decide +kernel
theorem dX7_column_30 : decode cX7_column 30 = .ok (.iload_n 1, 1) := by decide +kernel
theorem dX7_column_31 : decode cX7_column 31 = .ok (.iaload, 1) := by decide +kernel
theorem dX7_column_32 : decode cX7_column 32 = .ok (.ireturn, 1) := by decide +kernel
theorem dX7_bracket_0 : decode cX7_bracket 0 = .ok (.aload_n 0, 1) := by decide +kernel
theorem dX7_bracket_1 : decode cX7_bracket 1 = .ok (.iconst 0, 1) := by decide +kernel
theorem dX7_bracket_2 : decode cX7_bracket 2 = .ok (.putfield 123, 3) := by decide +kernel
theorem dX7_bracket_5 : decode cX7_bracket 5 = .ok (.aload_n 0, 1) := by decide +kernel
theorem dX7_bracket_6 : decode cX7_bracket 6 = .ok (.aload_n 0, 1) := by decide +kernel
theorem dX7_bracket_7 : decode cX7_bracket 7 = .ok (.iload_n 1, 1) := by decide +kernel
theorem dX7_bracket_8 : decode cX7_bracket 8 = .ok (.iload_n 2, 1) := by decide +kernel
theorem dX7_bracket_9 : decode cX7_bracket 9 = .ok (.invokevirtual 256, 3) := by decide +kernel
theorem dX7_bracket_12 : decode cX7_bracket 12 = .ok (.putfield 126, 3) := by decide +kernel
theorem dX7_bracket_15 : decode cX7_bracket 15 = .ok (.aload_n 0, 1) := by decide +kernel
theorem dX7_bracket_16 : decode cX7_bracket 16 = .ok (.getfield 126, 3) := by decide +kernel
theorem dX7_bracket_19 : decode cX7_bracket 19 = .ok (.ifCond .le 7, 3) := by decide +kernel
theorem dX7_bracket_22 : decode cX7_bracket 22 = .ok (.iconst (-1), 1) := by decide +kernel
theorem dX7_bracket_23 : decode cX7_bracket 23 = .ok (.goto 22, 3) := by decide +kernel
theorem dX7_bracket_26 : decode cX7_bracket 26 = .ok (.iload_n 3, 1) := by decide +kernel
theorem dX7_bracket_27 : decode cX7_bracket 27 = .ok (.ifCond .eq 12, 3) := by decide +kernel
theorem dX7_bracket_30 : decode cX7_bracket 30 = .ok (.aload_n 0, 1) := by decide +kernel
theorem dX7_bracket_31 : decode cX7_bracket 31 = .ok (.getfield 117, 3) := by decide +kernel
theorem dX7_bracket_34 : decode cX7_bracket 34 = .ok (.iload_n 1, 1) := by decide +kernel
theorem dX7_bracket_35 : decode cX7_bracket 35 = .ok (.iaload, 1) := by decide +kernel
theorem dX7_bracket_36 : decode cX7_bracket 36 = .ok (.goto 9, 3) := by decide +kernel
theorem dX7_bracket_39 : decode cX7_bracket 39 = .ok (.aload_n 0, 1) := by decide +kernel
theorem dX7_bracket_40 : decode cX7_bracket 40 = .ok (.getfield 114, 3) := by decide +kernel
theorem dX7_bracket_43 : decode cX7_bracket 43 = .ok (.iload_n 1, 1) := by decide +kernel
theorem dX7_bracket_44 : decode cX7_bracket 44 = .ok (.iaload, 1) := by decide +kernel
theorem dX7_bracket_45 : decode cX7_bracket 45 = .ok (.ireturn, 1) := by decide +kernel
theorem dX7_cost_0 : decode cX7_cost 0 = .ok (.aload_n 0, 1) := by decide +kernel
theorem dX7_cost_1 : decode cX7_cost 1 = .ok (.iconst 0, 1) := by decide +kernel
theorem dX7_cost_2 : decode cX7_cost 2 = .ok (.putfield 123, 3) := by decide +kernel
theorem dX7_cost_5 : decode cX7_cost 5 = .ok (.aload_n 0, 1) := by decide +kernel
theorem dX7_cost_6 : decode cX7_cost 6 = .ok (.iconst 0, 1) := by decide +kernel
theorem dX7_cost_7 : decode cX7_cost 7 = .ok (.putfield 126, 3) := by decide +kernel
theorem dX7_cost_10 : decode cX7_cost 10 = .ok (.aload_n 0, 1) := by decide +kernel
theorem dX7_cost_11 : decode cX7_cost 11 = .ok (.invokevirtual 239, 3) := by decide +kernel
theorem dX7_cost_14 : decode cX7_cost 14 = .ok (.ifCond .eq 10, 3) := by decide +kernel
theorem dX7_cost_17 : decode cX7_cost 17 = .ok (.aload_n 0, 1) := by decide +kernel
theorem dX7_cost_18 : decode cX7_cost 18 = .ok (.bipush 6, 2) := by decide +kernel
theorem dX7_cost_20 : decode cX7_cost 20 = .ok (.invokevirtual 147, 3) := by decide +kernel
theorem dX7_cost_23 : decode cX7_cost 23 = .ok (.ireturn, 1) := by decide +kernel
theorem dX7_cost_24 : decode cX7_cost 24 = .ok (.iload_n 1, 1) := by decide +kernel
theorem dX7_cost_25 : decode cX7_cost 25 = .ok (.ifCond .lt 11, 3) := by decide +kernel
theorem dX7_cost_28 : decode cX7_cost 28 = .ok (.iload_n 1, 1) := by decide +kernel
theorem dX7_cost_29 : decode cX7_cost 29 = .ok (.aload_n 0, 1) := by decide +kernel
theorem dX7_cost_30 : decode cX7_cost 30 = .ok (.getfield 226, 3) := by decide +kernel
theorem dX7_cost_33 : decode cX7_cost 33 = .ok (.if_icmp .lt 11, 3) := by decide +kernel
theorem dX7_cost_36 : decode cX7_cost 36 = .ok (.aload_n 0, 1) := by decide +kernel
theorem dX7_cost_37 : decode cX7_cost 37 = .ok (.iconst 1, 1) := by decide +kernel
theorem dX7_cost_38 : decode cX7_cost 38 = .ok (.invokevirtual 147, 3) := by decide +kernel
theorem dX7_cost_41 : decode cX7_cost 41 = .ok (.goto 10, 3) := by decide +kernel
theorem dX7_cost_44 : decode cX7_cost 44 = .ok (.aload_n 0, 1) := by decide +kernel
theorem dX7_cost_45 : decode cX7_cost 45 = .ok (.getfield 68, 3) := by decide +kernel
theorem dX7_cost_48 : decode cX7_cost 48 = .ok (.iload_n 1, 1) := by decide +kernel
theorem dX7_cost_49 : decode cX7_cost 49 = .ok (.laload, 1) := by decide +kernel
theorem dX7_cost_50 : decode cX7_cost 50 = .ok (.l2i, 1) := by decide +kernel
theorem dX7_cost_51 : decode cX7_cost 51 = .ok (.ireturn, 1) := by decide +kernel
theorem dX7_runs_0 : decode cX7_runs 0 = .ok (.aload_n 0, 1) := by decide +kernel
theorem dX7_runs_1 : decode cX7_runs 1 = .ok (.iconst 0, 1) := by decide +kernel
theorem dX7_runs_2 : decode cX7_runs 2 = .ok (.putfield 123, 3) := by decide +kernel
theorem dX7_runs_5 : decode cX7_runs 5 = .ok (.aload_n 0, 1) := by decide +kernel
theorem dX7_runs_6 : decode cX7_runs 6 = .ok (.iconst 0, 1) := by decide +kernel
theorem dX7_runs_7 : decode cX7_runs 7 = .ok (.putfield 126, 3) := by decide +kernel
theorem dX7_runs_10 : decode cX7_runs 10 = .ok (.iload_n 2, 1) := by decide +kernel
theorem dX7_runs_11 : decode cX7_runs 11 = .ok (.ifCond .lt 8, 3) := by decide +kernel
theorem dX7_runs_14 : decode cX7_runs 14 = .ok (.iload_n 2, 1) := by decide +kernel
theorem dX7_runs_15 : decode cX7_runs 15 = .ok (.iconst 1, 1) := by decide +kernel
theorem dX7_runs_16 : decode cX7_runs 16 = .ok (.if_icmp .le 9, 3) := by decide +kernel
theorem dX7_runs_19 : decode cX7_runs 19 = .ok (.aload_n 0, 1) := by decide +kernel
theorem dX7_runs_20 : decode cX7_runs 20 = .ok (.iconst 2, 1) := by decide +kernel
theorem dX7_runs_21 : decode cX7_runs 21 = .ok (.invokevirtual 147, 3) := by decide +kernel
theorem dX7_runs_24 : decode cX7_runs 24 = .ok (.ireturn, 1) := by decide +kernel
theorem dX7_runs_25 : decode cX7_runs 25 = .ok (.aload_n 0, 1) := by decide +kernel
theorem dX7_runs_26 : decode cX7_runs 26 = .ok (.invokevirtual 239, 3) := by decide +kernel
theorem dX7_runs_29 : decode cX7_runs 29 = .ok (.ifCond .eq 10, 3) := by decide +kernel
theorem dX7_runs_32 : decode cX7_runs 32 = .ok (.aload_n 0, 1) := by decide +kernel
theorem dX7_runs_33 : decode cX7_runs 33 = .ok (.bipush 6, 2) := by decide +kernel
theorem dX7_runs_35 : decode cX7_runs 35 = .ok (.invokevirtual 147, 3) := by decide +kernel
theorem dX7_runs_38 : decode cX7_runs 38 = .ok (.ireturn, 1) := by decide +kernel
theorem dX7_runs_39 : decode cX7_runs 39 = .ok (.iload_n 1, 1) := by decide +kernel
theorem dX7_runs_40 : decode cX7_runs 40 = .ok (.ifCond .lt 11, 3) := by decide +kernel
theorem dX7_runs_43 : decode cX7_runs 43 = .ok (.iload_n 1, 1) := by decide +kernel
theorem dX7_runs_44 : decode cX7_runs 44 = .ok (.aload_n 0, 1) := by decide +kernel
theorem dX7_runs_45 : decode cX7_runs 45 = .ok (.getfield 226, 3) := by decide +kernel
theorem dX7_runs_48 : decode cX7_runs 48 = .ok (.if_icmp .lt 9, 3) := by decide +kernel
theorem dX7_runs_51 : decode cX7_runs 51 = .ok (.aload_n 0, 1) := by decide +kernel
theorem dX7_runs_52 : decode cX7_runs 52 = .ok (.iconst 1, 1) := by decide +kernel
theorem dX7_runs_53 : decode cX7_runs 53 = .ok (.invokevirtual 147, 3) := by decide +kernel
theorem dX7_runs_56 : decode cX7_runs 56 = .ok (.ireturn, 1) := by decide +kernel
theorem dX7_runs_57 : decode cX7_runs 57 = .ok (.aload_n 0, 1) := by decide +kernel
theorem dX7_runs_58 : decode cX7_runs 58 = .ok (.getfield 65, 3) := by decide +kernel
theorem dX7_runs_61 : decode cX7_runs 61 = .ok (.iconst 2, 1) := by decide +kernel
theorem dX7_runs_62 : decode cX7_runs 62 = .ok (.iload_n 1, 1) := by decide +kernel
theorem dX7_runs_63 : decode cX7_runs 63 = .ok (.imul, 1) := by decide +kernel
theorem dX7_runs_64 : decode cX7_runs 64 = .ok (.iload_n 2, 1) := by decide +kernel
theorem dX7_runs_65 : decode cX7_runs 65 = .ok (.iadd, 1) := by decide +kernel
theorem dX7_runs_66 : decode cX7_runs 66 = .ok (.iaload, 1) := by decide +kernel
theorem dX7_runs_67 : decode cX7_runs 67 = .ok (.ifCond .le 7, 3) := by decide +kernel
theorem dX7_runs_70 : decode cX7_runs 70 = .ok (.iconst 1, 1) := by decide +kernel
theorem dX7_runs_71 : decode cX7_runs 71 = .ok (.goto 4, 3) := by decide +kernel
theorem dX7_runs_74 : decode cX7_runs 74 = .ok (.iconst 0, 1) := by decide +kernel
theorem dX7_runs_75 : decode cX7_runs 75 = .ok (.istore_n 3, 1) := by decide +kernel
theorem dX7_runs_76 : decode cX7_runs 76 = .ok (.iload_n 3, 1) := by decide +kernel
theorem dX7_runs_77 : decode cX7_runs 77 = .ok (.ifCond .le 21, 3) := by decide +kernel
theorem dX7_runs_80 : decode cX7_runs 80 = .ok (.aload_n 0, 1) := by decide +kernel
theorem dX7_runs_81 : decode cX7_runs 81 = .ok (.getfield 65, 3) := by decide +kernel
theorem dX7_runs_84 : decode cX7_runs 84 = .ok (.iconst 2, 1) := by decide +kernel
theorem dX7_runs_85 : decode cX7_runs 85 = .ok (.iload_n 1, 1) := by decide +kernel
theorem dX7_runs_86 : decode cX7_runs 86 = .ok (.imul, 1) := by decide +kernel
theorem dX7_runs_87 : decode cX7_runs 87 = .ok (.iload_n 2, 1) := by decide +kernel
theorem dX7_runs_88 : decode cX7_runs 88 = .ok (.iadd, 1) := by decide +kernel
theorem dX7_runs_89 : decode cX7_runs 89 = .ok (.iaload, 1) := by decide +kernel
theorem dX7_runs_90 : decode cX7_runs 90 = .ok (.aload_n 0, 1) := by decide +kernel
theorem dX7_runs_91 : decode cX7_runs 91 = .ok (.getfield 13, 3) := by decide +kernel
theorem dX7_runs_94 : decode cX7_runs 94 = .ok (.iadd, 1) := by decide +kernel
theorem dX7_runs_95 : decode cX7_runs 95 = .ok (.goto 4, 3) := by decide +kernel
theorem dX7_runs_98 : decode cX7_runs 98 = .ok (.iconst (-1), 1) := by decide +kernel
theorem dX7_runs_99 : decode cX7_runs 99 = .ok (.istore 4, 2) := by decide +kernel
theorem dX7_runs_101 : decode cX7_runs 101 = .ok (.aload_n 0, 1) := by decide +kernel
theorem dX7_runs_102 : decode cX7_runs 102 = .ok (.aload_n 0, 1) := by decide +kernel
theorem dX7_runs_103 : decode cX7_runs 103 = .ok (.getfield 59, 3) := by decide +kernel
theorem dX7_runs_106 : decode cX7_runs 106 = .ok (.iload_n 1, 1) := by decide +kernel
theorem dX7_runs_107 : decode cX7_runs 107 = .ok (.iaload, 1) := by decide +kernel
theorem dX7_runs_108 : decode cX7_runs 108 = .ok (.aload_n 0, 1) := by decide +kernel
theorem dX7_runs_109 : decode cX7_runs 109 = .ok (.getfield 62, 3) := by decide +kernel
theorem dX7_runs_112 : decode cX7_runs 112 = .ok (.iload_n 1, 1) := by decide +kernel
theorem dX7_runs_113 : decode cX7_runs 113 = .ok (.iaload, 1) := by decide +kernel
theorem dX7_runs_114 : decode cX7_runs 114 = .ok (.invokevirtual 176, 3) := by decide +kernel
theorem dX7_runs_117 : decode cX7_runs 117 = .ok (.pop, 1) := by decide +kernel
theorem dX7_runs_118 : decode cX7_runs 118 = .ok (.iconst 0, 1) := by decide +kernel
theorem dX7_runs_119 : decode cX7_runs 119 = .ok (.istore 5, 2) := by decide +kernel
theorem dX7_runs_121 : decode cX7_runs 121 = .ok (.iload 5, 2) := by decide +kernel
theorem dX7_runs_123 : decode cX7_runs 123 = .ok (.aload_n 0, 1) := by decide +kernel
theorem dX7_runs_124 : decode cX7_runs 124 = .ok (.getfield 166, 3) := by decide +kernel
theorem dX7_runs_127 : decode cX7_runs 127 = .ok (.if_icmp .ge 74, 3) := by decide +kernel
theorem dX7_runs_130 : decode cX7_runs 130 = .ok (.aload_n 0, 1) := by decide +kernel
theorem dX7_runs_131 : decode cX7_runs 131 = .ok (.getfield 93, 3) := by decide +kernel
theorem dX7_runs_134 : decode cX7_runs 134 = .ok (.iload 5, 2) := by decide +kernel
theorem dX7_runs_136 : decode cX7_runs 136 = .ok (.iaload, 1) := by decide +kernel
theorem dX7_runs_137 : decode cX7_runs 137 = .ok (.istore 6, 2) := by decide +kernel
theorem dX7_runs_139 : decode cX7_runs 139 = .ok (.aload_n 0, 1) := by decide +kernel
theorem dX7_runs_140 : decode cX7_runs 140 = .ok (.getfield 78, 3) := by decide +kernel
theorem dX7_runs_143 : decode cX7_runs 143 = .ok (.iload 6, 2) := by decide +kernel
theorem dX7_runs_145 : decode cX7_runs 145 = .ok (.iaload, 1) := by decide +kernel
theorem dX7_runs_146 : decode cX7_runs 146 = .ok (.iload_n 2, 1) := by decide +kernel
theorem dX7_runs_147 : decode cX7_runs 147 = .ok (.if_icmp .eq 6, 3) := by decide +kernel
theorem dX7_runs_150 : decode cX7_runs 150 = .ok (.goto 45, 3) := by decide +kernel
theorem dX7_runs_153 : decode cX7_runs 153 = .ok (.iload_n 3, 1) := by decide +kernel
theorem dX7_runs_154 : decode cX7_runs 154 = .ok (.aload_n 0, 1) := by decide +kernel
theorem dX7_runs_155 : decode cX7_runs 155 = .ok (.getfield 81, 3) := by decide +kernel
theorem dX7_runs_158 : decode cX7_runs 158 = .ok (.iload 6, 2) := by decide +kernel
theorem dX7_runs_160 : decode cX7_runs 160 = .ok (.iaload, 1) := by decide +kernel
theorem dX7_runs_161 : decode cX7_runs 161 = .ok (.iload 4, 2) := by decide +kernel
theorem dX7_runs_163 : decode cX7_runs 163 = .ok (.if_icmp .ne 7, 3) := by decide +kernel
theorem dX7_runs_166 : decode cX7_runs 166 = .ok (.iconst 0, 1) := by decide +kernel
theorem dX7_runs_167 : decode cX7_runs 167 = .ok (.goto 4, 3) := by decide +kernel
theorem dX7_runs_170 : decode cX7_runs 170 = .ok (.iconst 1, 1) := by decide +kernel
theorem dX7_runs_171 : decode cX7_runs 171 = .ok (.iadd, 1) := by decide +kernel
theorem dX7_runs_172 : decode cX7_runs 172 = .ok (.istore_n 3, 1) := by decide +kernel
theorem dX7_runs_173 : decode cX7_runs 173 = .ok (.aload_n 0, 1) := by decide +kernel
theorem dX7_runs_174 : decode cX7_runs 174 = .ok (.getfield 81, 3) := by decide +kernel
theorem dX7_runs_177 : decode cX7_runs 177 = .ok (.iload 6, 2) := by decide +kernel
theorem dX7_runs_179 : decode cX7_runs 179 = .ok (.iaload, 1) := by decide +kernel
theorem dX7_runs_180 : decode cX7_runs 180 = .ok (.aload_n 0, 1) := by decide +kernel
theorem dX7_runs_181 : decode cX7_runs 181 = .ok (.getfield 84, 3) := by decide +kernel
theorem dX7_runs_184 : decode cX7_runs 184 = .ok (.iload 6, 2) := by decide +kernel
theorem dX7_runs_186 : decode cX7_runs 186 = .ok (.iaload, 1) := by decide +kernel
theorem dX7_runs_187 : decode cX7_runs 187 = .ok (.iadd, 1) := by decide +kernel
theorem dX7_runs_188 : decode cX7_runs 188 = .ok (.aload_n 0, 1) := by decide +kernel
theorem dX7_runs_189 : decode cX7_runs 189 = .ok (.getfield 13, 3) := by decide +kernel
theorem dX7_runs_192 : decode cX7_runs 192 = .ok (.iadd, 1) := by decide +kernel
theorem dX7_runs_193 : decode cX7_runs 193 = .ok (.istore 4, 2) := by decide +kernel
theorem dX7_runs_195 : decode cX7_runs 195 = .ok (.iinc 5 1, 3) := by decide +kernel
theorem dX7_runs_198 : decode cX7_runs 198 = .ok (.goto (-77), 3) := by decide +kernel
theorem dX7_runs_201 : decode cX7_runs 201 = .ok (.iload_n 3, 1) := by decide +kernel
theorem dX7_runs_202 : decode cX7_runs 202 = .ok (.ireturn, 1) := by decide +kernel
theorem dX7_moved_0 : decode cX7_moved 0 = .ok (.aload_n 0, 1) := by decide +kernel
theorem dX7_moved_1 : decode cX7_moved 1 = .ok (.iconst 0, 1) := by decide +kernel
theorem dX7_moved_2 : decode cX7_moved 2 = .ok (.putfield 123, 3) := by decide +kernel
theorem dX7_moved_5 : decode cX7_moved 5 = .ok (.aload_n 0, 1) := by decide +kernel
theorem dX7_moved_6 : decode cX7_moved 6 = .ok (.iconst 0, 1) := by decide +kernel
theorem dX7_moved_7 : decode cX7_moved 7 = .ok (.putfield 126, 3) := by decide +kernel
theorem dX7_moved_10 : decode cX7_moved 10 = .ok (.aload_n 0, 1) := by decide +kernel
theorem dX7_moved_11 : decode cX7_moved 11 = .ok (.invokevirtual 239, 3) := by decide +kernel
theorem dX7_moved_14 : decode cX7_moved 14 = .ok (.ifCond .eq 10, 3) := by decide +kernel
theorem dX7_moved_17 : decode cX7_moved 17 = .ok (.aload_n 0, 1) := by decide +kernel
theorem dX7_moved_18 : decode cX7_moved 18 = .ok (.bipush 6, 2) := by decide +kernel
theorem dX7_moved_20 : decode cX7_moved 20 = .ok (.invokevirtual 147, 3) := by decide +kernel
theorem dX7_moved_23 : decode cX7_moved 23 = .ok (.ireturn, 1) := by decide +kernel
theorem dX7_moved_24 : decode cX7_moved 24 = .ok (.iload_n 1, 1) := by decide +kernel
theorem dX7_moved_25 : decode cX7_moved 25 = .ok (.ifCond .lt 11, 3) := by decide +kernel
theorem dX7_moved_28 : decode cX7_moved 28 = .ok (.iload_n 1, 1) := by decide +kernel
theorem dX7_moved_29 : decode cX7_moved 29 = .ok (.aload_n 0, 1) := by decide +kernel
theorem dX7_moved_30 : decode cX7_moved 30 = .ok (.getfield 226, 3) := by decide +kernel
theorem dX7_moved_33 : decode cX7_moved 33 = .ok (.if_icmp .lt 9, 3) := by decide +kernel
theorem dX7_moved_36 : decode cX7_moved 36 = .ok (.aload_n 0, 1) := by decide +kernel
theorem dX7_moved_37 : decode cX7_moved 37 = .ok (.iconst 1, 1) := by decide +kernel
theorem dX7_moved_38 : decode cX7_moved 38 = .ok (.invokevirtual 147, 3) := by decide +kernel
theorem dX7_moved_41 : decode cX7_moved 41 = .ok (.ireturn, 1) := by decide +kernel
theorem dX7_moved_42 : decode cX7_moved 42 = .ok (.aload_n 0, 1) := by decide +kernel
theorem dX7_moved_43 : decode cX7_moved 43 = .ok (.aload_n 0, 1) := by decide +kernel
theorem dX7_moved_44 : decode cX7_moved 44 = .ok (.getfield 59, 3) := by decide +kernel
theorem dX7_moved_47 : decode cX7_moved 47 = .ok (.iload_n 1, 1) := by decide +kernel
theorem dX7_moved_48 : decode cX7_moved 48 = .ok (.iaload, 1) := by decide +kernel
theorem dX7_moved_49 : decode cX7_moved 49 = .ok (.aload_n 0, 1) := by decide +kernel
theorem dX7_moved_50 : decode cX7_moved 50 = .ok (.getfield 62, 3) := by decide +kernel
theorem dX7_moved_53 : decode cX7_moved 53 = .ok (.iload_n 1, 1) := by decide +kernel
theorem dX7_moved_54 : decode cX7_moved 54 = .ok (.iaload, 1) := by decide +kernel
theorem dX7_moved_55 : decode cX7_moved 55 = .ok (.invokevirtual 176, 3) := by decide +kernel
theorem dX7_moved_58 : decode cX7_moved 58 = .ok (.pop, 1) := by decide +kernel
theorem dX7_moved_59 : decode cX7_moved 59 = .ok (.iconst 0, 1) := by decide +kernel
theorem dX7_moved_60 : decode cX7_moved 60 = .ok (.istore_n 2, 1) := by decide +kernel
theorem dX7_moved_61 : decode cX7_moved 61 = .ok (.iconst 0, 1) := by decide +kernel
theorem dX7_moved_62 : decode cX7_moved 62 = .ok (.istore_n 3, 1) := by decide +kernel
theorem dX7_moved_63 : decode cX7_moved 63 = .ok (.iload_n 3, 1) := by decide +kernel
theorem dX7_moved_64 : decode cX7_moved 64 = .ok (.aload_n 0, 1) := by decide +kernel
theorem dX7_moved_65 : decode cX7_moved 65 = .ok (.getfield 166, 3) := by decide +kernel
theorem dX7_moved_68 : decode cX7_moved 68 = .ok (.if_icmp .ge 47, 3) := by decide +kernel
theorem dX7_moved_71 : decode cX7_moved 71 = .ok (.iload_n 2, 1) := by decide +kernel
theorem dX7_moved_72 : decode cX7_moved 72 = .ok (.aload_n 0, 1) := by decide +kernel
theorem dX7_moved_73 : decode cX7_moved 73 = .ok (.getfield 81, 3) := by decide +kernel
theorem dX7_moved_76 : decode cX7_moved 76 = .ok (.aload_n 0, 1) := by decide +kernel
theorem dX7_moved_77 : decode cX7_moved 77 = .ok (.getfield 93, 3) := by decide +kernel
theorem dX7_moved_80 : decode cX7_moved 80 = .ok (.iload_n 3, 1) := by decide +kernel
theorem dX7_moved_81 : decode cX7_moved 81 = .ok (.iaload, 1) := by decide +kernel
theorem dX7_moved_82 : decode cX7_moved 82 = .ok (.iaload, 1) := by decide +kernel
theorem dX7_moved_83 : decode cX7_moved 83 = .ok (.aload_n 0, 1) := by decide +kernel
theorem dX7_moved_84 : decode cX7_moved 84 = .ok (.getfield 72, 3) := by decide +kernel
theorem dX7_moved_87 : decode cX7_moved 87 = .ok (.aload_n 0, 1) := by decide +kernel
theorem dX7_moved_88 : decode cX7_moved 88 = .ok (.getfield 26, 3) := by decide +kernel
theorem dX7_moved_91 : decode cX7_moved 91 = .ok (.aload_n 0, 1) := by decide +kernel
theorem dX7_moved_92 : decode cX7_moved 92 = .ok (.getfield 93, 3) := by decide +kernel
theorem dX7_moved_95 : decode cX7_moved 95 = .ok (.iload_n 3, 1) := by decide +kernel
theorem dX7_moved_96 : decode cX7_moved 96 = .ok (.iaload, 1) := by decide +kernel
theorem dX7_moved_97 : decode cX7_moved 97 = .ok (.iaload, 1) := by decide +kernel
theorem dX7_moved_98 : decode cX7_moved 98 = .ok (.iaload, 1) := by decide +kernel
theorem dX7_moved_99 : decode cX7_moved 99 = .ok (.if_icmp .eq 7, 3) := by decide +kernel
theorem dX7_moved_102 : decode cX7_moved 102 = .ok (.iconst 1, 1) := by decide +kernel
theorem dX7_moved_103 : decode cX7_moved 103 = .ok (.goto 4, 3) := by decide +kernel
theorem dX7_moved_106 : decode cX7_moved 106 = .ok (.iconst 0, 1) := by decide +kernel
theorem dX7_moved_107 : decode cX7_moved 107 = .ok (.iadd, 1) := by decide +kernel
theorem dX7_moved_108 : decode cX7_moved 108 = .ok (.istore_n 2, 1) := by decide +kernel
theorem dX7_moved_109 : decode cX7_moved 109 = .ok (.iinc 3 1, 3) := by decide +kernel
theorem dX7_moved_112 : decode cX7_moved 112 = .ok (.goto (-49), 3) := by decide +kernel
theorem dX7_moved_115 : decode cX7_moved 115 = .ok (.iload_n 2, 1) := by decide +kernel
theorem dX7_moved_116 : decode cX7_moved 116 = .ok (.ireturn, 1) := by decide +kernel
theorem dL_law_0 : decode cL_law 0 = .ok (.new 7, 3) := by decide +kernel
theorem dL_law_3 : decode cL_law 3 = .ok (.dup, 1) := by decide +kernel
theorem dL_law_4 : decode cL_law 4 = .ok (.invokespecial 9, 3) := by decide +kernel
theorem dL_law_7 : decode cL_law 7 = .ok (.astore_n 1, 1) := by decide +kernel
theorem dL_law_8 : decode cL_law 8 = .ok (.new 10, 3) := by decide +kernel
theorem dL_law_11 : decode cL_law 11 = .ok (.dup, 1) := by decide +kernel
theorem dL_law_12 : decode cL_law 12 = .ok (.invokespecial 12, 3) := by decide +kernel
theorem dL_law_15 : decode cL_law 15 = .ok (.astore_n 2, 1) := by decide +kernel
theorem dL_law_16 : decode cL_law 16 = .ok (.iconst 0, 1) := by decide +kernel
theorem dL_law_17 : decode cL_law 17 = .ok (.istore_n 3, 1) := by decide +kernel
theorem dL_law_18 : decode cL_law 18 = .ok (.iload_n 3, 1) := by decide +kernel
theorem dL_law_19 : decode cL_law 19 = .ok (.aload_n 0, 1) := by decide +kernel
theorem dL_law_20 : decode cL_law 20 = .ok (.arraylength, 1) := by decide +kernel
theorem dL_law_21 : decode cL_law 21 = .ok (.bipush 6, 2) := by decide +kernel
theorem dL_law_23 : decode cL_law 23 = .ok (.isub, 1) := by decide +kernel
theorem dL_law_24 : decode cL_law 24 = .ok (.if_icmp .gt 904, 3) := by decide +kernel
theorem dL_law_27 : decode cL_law 27 = .ok (.aload_n 0, 1) := by decide +kernel
theorem dL_law_28 : decode cL_law 28 = .ok (.iload_n 3, 1) := by decide +kernel
theorem dL_law_29 : decode cL_law 29 = .ok (.iaload, 1) := by decide +kernel
theorem dL_law_30 : decode cL_law 30 = .ok (.bipush 31, 2) := by decide +kernel
theorem dL_law_32 : decode cL_law 32 = .ok (.iand, 1) := by decide +kernel
theorem dL_law_33 : decode cL_law 33 = .ok (.tableswitch 889 0 25 #[119, 132, 165, 188, 221, 284, 317, 350, 373, 406, 439, 462, 495, 518, 557, 590, 603, 626, 649, 672, 695, 718, 751, 810, 833, 866], 119) := by decide +kernel
theorem dL_law_152 : decode cL_law 152 = .ok (.aload_n 1, 1) := by decide +kernel
theorem dL_law_153 : decode cL_law 153 = .ok (.invokevirtual 13, 3) := by decide +kernel
theorem dL_law_156 : decode cL_law 156 = .ok (.aload_n 2, 1) := by decide +kernel
theorem dL_law_157 : decode cL_law 157 = .ok (.invokevirtual 17, 3) := by decide +kernel
theorem dL_law_160 : decode cL_law 160 = .ok (.if_icmp .eq 762, 3) := by decide +kernel
theorem dL_law_163 : decode cL_law 163 = .ok (.iconst 0, 1) := by decide +kernel
theorem dL_law_164 : decode cL_law 164 = .ok (.ireturn, 1) := by decide +kernel
theorem dL_law_165 : decode cL_law 165 = .ok (.aload_n 1, 1) := by decide +kernel
theorem dL_law_166 : decode cL_law 166 = .ok (.aload_n 0, 1) := by decide +kernel
theorem dL_law_167 : decode cL_law 167 = .ok (.iload_n 3, 1) := by decide +kernel
theorem dL_law_168 : decode cL_law 168 = .ok (.iconst 1, 1) := by decide +kernel
theorem dL_law_169 : decode cL_law 169 = .ok (.iadd, 1) := by decide +kernel
theorem dL_law_170 : decode cL_law 170 = .ok (.iaload, 1) := by decide +kernel
theorem dL_law_171 : decode cL_law 171 = .ok (.aload_n 0, 1) := by decide +kernel
theorem dL_law_172 : decode cL_law 172 = .ok (.iload_n 3, 1) := by decide +kernel
theorem dL_law_173 : decode cL_law 173 = .ok (.iconst 2, 1) := by decide +kernel
theorem dL_law_174 : decode cL_law 174 = .ok (.iadd, 1) := by decide +kernel
theorem dL_law_175 : decode cL_law 175 = .ok (.iaload, 1) := by decide +kernel
theorem dL_law_176 : decode cL_law 176 = .ok (.invokevirtual 18, 3) := by decide +kernel
theorem dL_law_179 : decode cL_law 179 = .ok (.aload_n 2, 1) := by decide +kernel
theorem dL_law_180 : decode cL_law 180 = .ok (.aload_n 0, 1) := by decide +kernel
theorem dL_law_181 : decode cL_law 181 = .ok (.iload_n 3, 1) := by decide +kernel
theorem dL_law_182 : decode cL_law 182 = .ok (.iconst 1, 1) := by decide +kernel
theorem dL_law_183 : decode cL_law 183 = .ok (.iadd, 1) := by decide +kernel
theorem dL_law_184 : decode cL_law 184 = .ok (.iaload, 1) := by decide +kernel
theorem dL_law_185 : decode cL_law 185 = .ok (.aload_n 0, 1) := by decide +kernel
theorem dL_law_186 : decode cL_law 186 = .ok (.iload_n 3, 1) := by decide +kernel
theorem dL_law_187 : decode cL_law 187 = .ok (.iconst 2, 1) := by decide +kernel
theorem dL_law_188 : decode cL_law 188 = .ok (.iadd, 1) := by decide +kernel
theorem dL_law_189 : decode cL_law 189 = .ok (.iaload, 1) := by decide +kernel
theorem dL_law_190 : decode cL_law 190 = .ok (.invokevirtual 22, 3) := by decide +kernel
theorem dL_law_193 : decode cL_law 193 = .ok (.if_icmp .eq 729, 3) := by decide +kernel
theorem dL_law_196 : decode cL_law 196 = .ok (.iconst 0, 1) := by decide +kernel
theorem dL_law_197 : decode cL_law 197 = .ok (.ireturn, 1) := by decide +kernel
theorem dL_law_198 : decode cL_law 198 = .ok (.aload_n 1, 1) := by decide +kernel
theorem dL_law_199 : decode cL_law 199 = .ok (.aload_n 0, 1) := by decide +kernel
theorem dL_law_200 : decode cL_law 200 = .ok (.iload_n 3, 1) := by decide +kernel
theorem dL_law_201 : decode cL_law 201 = .ok (.iconst 1, 1) := by decide +kernel
theorem dL_law_202 : decode cL_law 202 = .ok (.iadd, 1) := by decide +kernel
theorem dL_law_203 : decode cL_law 203 = .ok (.iaload, 1) := by decide +kernel
theorem dL_law_204 : decode cL_law 204 = .ok (.invokevirtual 23, 3) := by decide +kernel
theorem dL_law_207 : decode cL_law 207 = .ok (.aload_n 2, 1) := by decide +kernel
theorem dL_law_208 : decode cL_law 208 = .ok (.aload_n 0, 1) := by decide +kernel
theorem dL_law_209 : decode cL_law 209 = .ok (.iload_n 3, 1) := by decide +kernel
theorem dL_law_210 : decode cL_law 210 = .ok (.iconst 1, 1) := by decide +kernel
theorem dL_law_211 : decode cL_law 211 = .ok (.iadd, 1) := by decide +kernel
theorem dL_law_212 : decode cL_law 212 = .ok (.iaload, 1) := by decide +kernel
theorem dL_law_213 : decode cL_law 213 = .ok (.invokevirtual 27, 3) := by decide +kernel
theorem dL_law_216 : decode cL_law 216 = .ok (.if_icmp .eq 706, 3) := by decide +kernel
theorem dL_law_219 : decode cL_law 219 = .ok (.iconst 0, 1) := by decide +kernel
theorem dL_law_220 : decode cL_law 220 = .ok (.ireturn, 1) := by decide +kernel
theorem dL_law_221 : decode cL_law 221 = .ok (.aload_n 1, 1) := by decide +kernel
theorem dL_law_222 : decode cL_law 222 = .ok (.aload_n 0, 1) := by decide +kernel
theorem dL_law_223 : decode cL_law 223 = .ok (.iload_n 3, 1) := by decide +kernel
theorem dL_law_224 : decode cL_law 224 = .ok (.iconst 1, 1) := by decide +kernel
theorem dL_law_225 : decode cL_law 225 = .ok (.iadd, 1) := by decide +kernel
theorem dL_law_226 : decode cL_law 226 = .ok (.iaload, 1) := by decide +kernel
theorem dL_law_227 : decode cL_law 227 = .ok (.aload_n 0, 1) := by decide +kernel
theorem dL_law_228 : decode cL_law 228 = .ok (.iload_n 3, 1) := by decide +kernel
theorem dL_law_229 : decode cL_law 229 = .ok (.iconst 2, 1) := by decide +kernel
theorem dL_law_230 : decode cL_law 230 = .ok (.iadd, 1) := by decide +kernel
theorem dL_law_231 : decode cL_law 231 = .ok (.iaload, 1) := by decide +kernel
theorem dL_law_232 : decode cL_law 232 = .ok (.invokevirtual 28, 3) := by decide +kernel
theorem dL_law_235 : decode cL_law 235 = .ok (.aload_n 2, 1) := by decide +kernel
theorem dL_law_236 : decode cL_law 236 = .ok (.aload_n 0, 1) := by decide +kernel
theorem dL_law_237 : decode cL_law 237 = .ok (.iload_n 3, 1) := by decide +kernel
theorem dL_law_238 : decode cL_law 238 = .ok (.iconst 1, 1) := by decide +kernel
theorem dL_law_239 : decode cL_law 239 = .ok (.iadd, 1) := by decide +kernel
theorem dL_law_240 : decode cL_law 240 = .ok (.iaload, 1) := by decide +kernel
theorem dL_law_241 : decode cL_law 241 = .ok (.aload_n 0, 1) := by decide +kernel
theorem dL_law_242 : decode cL_law 242 = .ok (.iload_n 3, 1) := by decide +kernel
theorem dL_law_243 : decode cL_law 243 = .ok (.iconst 2, 1) := by decide +kernel
theorem dL_law_244 : decode cL_law 244 = .ok (.iadd, 1) := by decide +kernel
theorem dL_law_245 : decode cL_law 245 = .ok (.iaload, 1) := by decide +kernel
theorem dL_law_246 : decode cL_law 246 = .ok (.invokevirtual 31, 3) := by decide +kernel
theorem dL_law_249 : decode cL_law 249 = .ok (.if_icmp .eq 673, 3) := by decide +kernel
theorem dL_law_252 : decode cL_law 252 = .ok (.iconst 0, 1) := by decide +kernel
theorem dL_law_253 : decode cL_law 253 = .ok (.ireturn, 1) := by decide +kernel
theorem dL_law_254 : decode cL_law 254 = .ok (.aload_n 1, 1) := by decide +kernel
theorem dL_law_255 : decode cL_law 255 = .ok (.aload_n 0, 1) := by decide +kernel
theorem dL_law_256 : decode cL_law 256 = .ok (.iload_n 3, 1) := by decide +kernel
theorem dL_law_257 : decode cL_law 257 = .ok (.iconst 1, 1) := by decide +kernel
theorem dL_law_258 : decode cL_law 258 = .ok (.iadd, 1) := by decide +kernel
theorem dL_law_259 : decode cL_law 259 = .ok (.iaload, 1) := by decide +kernel
theorem dL_law_260 : decode cL_law 260 = .ok (.aload_n 0, 1) := by decide +kernel
theorem dL_law_261 : decode cL_law 261 = .ok (.iload_n 3, 1) := by decide +kernel
theorem dL_law_262 : decode cL_law 262 = .ok (.iconst 2, 1) := by decide +kernel
theorem dL_law_263 : decode cL_law 263 = .ok (.iadd, 1) := by decide +kernel
theorem dL_law_264 : decode cL_law 264 = .ok (.iaload, 1) := by decide +kernel
theorem dL_law_265 : decode cL_law 265 = .ok (.aload_n 0, 1) := by decide +kernel
theorem dL_law_266 : decode cL_law 266 = .ok (.iload_n 3, 1) := by decide +kernel
theorem dL_law_267 : decode cL_law 267 = .ok (.iconst 3, 1) := by decide +kernel
theorem dL_law_268 : decode cL_law 268 = .ok (.iadd, 1) := by decide +kernel
theorem dL_law_269 : decode cL_law 269 = .ok (.iaload, 1) := by decide +kernel
theorem dL_law_270 : decode cL_law 270 = .ok (.aload_n 0, 1) := by decide +kernel
theorem dL_law_271 : decode cL_law 271 = .ok (.iload_n 3, 1) := by decide +kernel
theorem dL_law_272 : decode cL_law 272 = .ok (.iconst 4, 1) := by decide +kernel
theorem dL_law_273 : decode cL_law 273 = .ok (.iadd, 1) := by decide +kernel
theorem dL_law_274 : decode cL_law 274 = .ok (.iaload, 1) := by decide +kernel
theorem dL_law_275 : decode cL_law 275 = .ok (.aload_n 0, 1) := by decide +kernel
theorem dL_law_276 : decode cL_law 276 = .ok (.iload_n 3, 1) := by decide +kernel
theorem dL_law_277 : decode cL_law 277 = .ok (.iconst 5, 1) := by decide +kernel
theorem dL_law_278 : decode cL_law 278 = .ok (.iadd, 1) := by decide +kernel
theorem dL_law_279 : decode cL_law 279 = .ok (.iaload, 1) := by decide +kernel
theorem dL_law_280 : decode cL_law 280 = .ok (.invokevirtual 32, 3) := by decide +kernel
theorem dL_law_283 : decode cL_law 283 = .ok (.aload_n 2, 1) := by decide +kernel
theorem dL_law_284 : decode cL_law 284 = .ok (.aload_n 0, 1) := by decide +kernel
theorem dL_law_285 : decode cL_law 285 = .ok (.iload_n 3, 1) := by decide +kernel
theorem dL_law_286 : decode cL_law 286 = .ok (.iconst 1, 1) := by decide +kernel
theorem dL_law_287 : decode cL_law 287 = .ok (.iadd, 1) := by decide +kernel
theorem dL_law_288 : decode cL_law 288 = .ok (.iaload, 1) := by decide +kernel
theorem dL_law_289 : decode cL_law 289 = .ok (.aload_n 0, 1) := by decide +kernel
theorem dL_law_290 : decode cL_law 290 = .ok (.iload_n 3, 1) := by decide +kernel
theorem dL_law_291 : decode cL_law 291 = .ok (.iconst 2, 1) := by decide +kernel
theorem dL_law_292 : decode cL_law 292 = .ok (.iadd, 1) := by decide +kernel
theorem dL_law_293 : decode cL_law 293 = .ok (.iaload, 1) := by decide +kernel
theorem dL_law_294 : decode cL_law 294 = .ok (.aload_n 0, 1) := by decide +kernel
theorem dL_law_295 : decode cL_law 295 = .ok (.iload_n 3, 1) := by decide +kernel
theorem dL_law_296 : decode cL_law 296 = .ok (.iconst 3, 1) := by decide +kernel
theorem dL_law_297 : decode cL_law 297 = .ok (.iadd, 1) := by decide +kernel
theorem dL_law_298 : decode cL_law 298 = .ok (.iaload, 1) := by decide +kernel
theorem dL_law_299 : decode cL_law 299 = .ok (.aload_n 0, 1) := by decide +kernel
theorem dL_law_300 : decode cL_law 300 = .ok (.iload_n 3, 1) := by decide +kernel
theorem dL_law_301 : decode cL_law 301 = .ok (.iconst 4, 1) := by decide +kernel
theorem dL_law_302 : decode cL_law 302 = .ok (.iadd, 1) := by decide +kernel
theorem dL_law_303 : decode cL_law 303 = .ok (.iaload, 1) := by decide +kernel
theorem dL_law_304 : decode cL_law 304 = .ok (.aload_n 0, 1) := by decide +kernel
theorem dL_law_305 : decode cL_law 305 = .ok (.iload_n 3, 1) := by decide +kernel
theorem dL_law_306 : decode cL_law 306 = .ok (.iconst 5, 1) := by decide +kernel
theorem dL_law_307 : decode cL_law 307 = .ok (.iadd, 1) := by decide +kernel
theorem dL_law_308 : decode cL_law 308 = .ok (.iaload, 1) := by decide +kernel
theorem dL_law_309 : decode cL_law 309 = .ok (.invokevirtual 36, 3) := by decide +kernel
theorem dL_law_312 : decode cL_law 312 = .ok (.if_icmp .eq 610, 3) := by decide +kernel
theorem dL_law_315 : decode cL_law 315 = .ok (.iconst 0, 1) := by decide +kernel
theorem dL_law_316 : decode cL_law 316 = .ok (.ireturn, 1) := by decide +kernel
theorem dL_law_317 : decode cL_law 317 = .ok (.aload_n 1, 1) := by decide +kernel
theorem dL_law_318 : decode cL_law 318 = .ok (.aload_n 0, 1) := by decide +kernel
theorem dL_law_319 : decode cL_law 319 = .ok (.iload_n 3, 1) := by decide +kernel
theorem dL_law_320 : decode cL_law 320 = .ok (.iconst 1, 1) := by decide +kernel
theorem dL_law_321 : decode cL_law 321 = .ok (.iadd, 1) := by decide +kernel
theorem dL_law_322 : decode cL_law 322 = .ok (.iaload, 1) := by decide +kernel
theorem dL_law_323 : decode cL_law 323 = .ok (.aload_n 0, 1) := by decide +kernel
theorem dL_law_324 : decode cL_law 324 = .ok (.iload_n 3, 1) := by decide +kernel
theorem dL_law_325 : decode cL_law 325 = .ok (.iconst 2, 1) := by decide +kernel
theorem dL_law_326 : decode cL_law 326 = .ok (.iadd, 1) := by decide +kernel
theorem dL_law_327 : decode cL_law 327 = .ok (.iaload, 1) := by decide +kernel
theorem dL_law_328 : decode cL_law 328 = .ok (.invokevirtual 37, 3) := by decide +kernel
theorem dL_law_331 : decode cL_law 331 = .ok (.aload_n 2, 1) := by decide +kernel
theorem dL_law_332 : decode cL_law 332 = .ok (.aload_n 0, 1) := by decide +kernel
theorem dL_law_333 : decode cL_law 333 = .ok (.iload_n 3, 1) := by decide +kernel
theorem dL_law_334 : decode cL_law 334 = .ok (.iconst 1, 1) := by decide +kernel
theorem dL_law_335 : decode cL_law 335 = .ok (.iadd, 1) := by decide +kernel
theorem dL_law_336 : decode cL_law 336 = .ok (.iaload, 1) := by decide +kernel
theorem dL_law_337 : decode cL_law 337 = .ok (.aload_n 0, 1) := by decide +kernel
theorem dL_law_338 : decode cL_law 338 = .ok (.iload_n 3, 1) := by decide +kernel
theorem dL_law_339 : decode cL_law 339 = .ok (.iconst 2, 1) := by decide +kernel
theorem dL_law_340 : decode cL_law 340 = .ok (.iadd, 1) := by decide +kernel
theorem dL_law_341 : decode cL_law 341 = .ok (.iaload, 1) := by decide +kernel
theorem dL_law_342 : decode cL_law 342 = .ok (.invokevirtual 41, 3) := by decide +kernel
theorem dL_law_345 : decode cL_law 345 = .ok (.if_icmp .eq 577, 3) := by decide +kernel
theorem dL_law_348 : decode cL_law 348 = .ok (.iconst 0, 1) := by decide +kernel
theorem dL_law_349 : decode cL_law 349 = .ok (.ireturn, 1) := by decide +kernel
theorem dL_law_350 : decode cL_law 350 = .ok (.aload_n 1, 1) := by decide +kernel
theorem dL_law_351 : decode cL_law 351 = .ok (.aload_n 0, 1) := by decide +kernel
theorem dL_law_352 : decode cL_law 352 = .ok (.iload_n 3, 1) := by decide +kernel
theorem dL_law_353 : decode cL_law 353 = .ok (.iconst 1, 1) := by decide +kernel
theorem dL_law_354 : decode cL_law 354 = .ok (.iadd, 1) := by decide +kernel
theorem dL_law_355 : decode cL_law 355 = .ok (.iaload, 1) := by decide +kernel
theorem dL_law_356 : decode cL_law 356 = .ok (.aload_n 0, 1) := by decide +kernel
theorem dL_law_357 : decode cL_law 357 = .ok (.iload_n 3, 1) := by decide +kernel
theorem dL_law_358 : decode cL_law 358 = .ok (.iconst 2, 1) := by decide +kernel
theorem dL_law_359 : decode cL_law 359 = .ok (.iadd, 1) := by decide +kernel
theorem dL_law_360 : decode cL_law 360 = .ok (.iaload, 1) := by decide +kernel
theorem dL_law_361 : decode cL_law 361 = .ok (.invokevirtual 42, 3) := by decide +kernel
theorem dL_law_364 : decode cL_law 364 = .ok (.aload_n 2, 1) := by decide +kernel
theorem dL_law_365 : decode cL_law 365 = .ok (.aload_n 0, 1) := by decide +kernel
theorem dL_law_366 : decode cL_law 366 = .ok (.iload_n 3, 1) := by decide +kernel
theorem dL_law_367 : decode cL_law 367 = .ok (.iconst 1, 1) := by decide +kernel
theorem dL_law_368 : decode cL_law 368 = .ok (.iadd, 1) := by decide +kernel
theorem dL_law_369 : decode cL_law 369 = .ok (.iaload, 1) := by decide +kernel
theorem dL_law_370 : decode cL_law 370 = .ok (.aload_n 0, 1) := by decide +kernel
theorem dL_law_371 : decode cL_law 371 = .ok (.iload_n 3, 1) := by decide +kernel
theorem dL_law_372 : decode cL_law 372 = .ok (.iconst 2, 1) := by decide +kernel
theorem dL_law_373 : decode cL_law 373 = .ok (.iadd, 1) := by decide +kernel
theorem dL_law_374 : decode cL_law 374 = .ok (.iaload, 1) := by decide +kernel
theorem dL_law_375 : decode cL_law 375 = .ok (.invokevirtual 45, 3) := by decide +kernel
theorem dL_law_378 : decode cL_law 378 = .ok (.if_icmp .eq 544, 3) := by decide +kernel
theorem dL_law_381 : decode cL_law 381 = .ok (.iconst 0, 1) := by decide +kernel
theorem dL_law_382 : decode cL_law 382 = .ok (.ireturn, 1) := by decide +kernel
theorem dL_law_383 : decode cL_law 383 = .ok (.aload_n 1, 1) := by decide +kernel
theorem dL_law_384 : decode cL_law 384 = .ok (.aload_n 0, 1) := by decide +kernel
theorem dL_law_385 : decode cL_law 385 = .ok (.iload_n 3, 1) := by decide +kernel
theorem dL_law_386 : decode cL_law 386 = .ok (.iconst 1, 1) := by decide +kernel
theorem dL_law_387 : decode cL_law 387 = .ok (.iadd, 1) := by decide +kernel
theorem dL_law_388 : decode cL_law 388 = .ok (.iaload, 1) := by decide +kernel
theorem dL_law_389 : decode cL_law 389 = .ok (.invokevirtual 46, 3) := by decide +kernel
theorem dL_law_392 : decode cL_law 392 = .ok (.aload_n 2, 1) := by decide +kernel
theorem dL_law_393 : decode cL_law 393 = .ok (.aload_n 0, 1) := by decide +kernel
theorem dL_law_394 : decode cL_law 394 = .ok (.iload_n 3, 1) := by decide +kernel
theorem dL_law_395 : decode cL_law 395 = .ok (.iconst 1, 1) := by decide +kernel
theorem dL_law_396 : decode cL_law 396 = .ok (.iadd, 1) := by decide +kernel
theorem dL_law_397 : decode cL_law 397 = .ok (.iaload, 1) := by decide +kernel
theorem dL_law_398 : decode cL_law 398 = .ok (.invokevirtual 50, 3) := by decide +kernel
theorem dL_law_401 : decode cL_law 401 = .ok (.if_icmp .eq 521, 3) := by decide +kernel
theorem dL_law_404 : decode cL_law 404 = .ok (.iconst 0, 1) := by decide +kernel
theorem dL_law_405 : decode cL_law 405 = .ok (.ireturn, 1) := by decide +kernel
theorem dL_law_406 : decode cL_law 406 = .ok (.aload_n 1, 1) := by decide +kernel
theorem dL_law_407 : decode cL_law 407 = .ok (.aload_n 0, 1) := by decide +kernel
theorem dL_law_408 : decode cL_law 408 = .ok (.iload_n 3, 1) := by decide +kernel
theorem dL_law_409 : decode cL_law 409 = .ok (.iconst 1, 1) := by decide +kernel
theorem dL_law_410 : decode cL_law 410 = .ok (.iadd, 1) := by decide +kernel
theorem dL_law_411 : decode cL_law 411 = .ok (.iaload, 1) := by decide +kernel
theorem dL_law_412 : decode cL_law 412 = .ok (.aload_n 0, 1) := by decide +kernel
theorem dL_law_413 : decode cL_law 413 = .ok (.iload_n 3, 1) := by decide +kernel
theorem dL_law_414 : decode cL_law 414 = .ok (.iconst 2, 1) := by decide +kernel
theorem dL_law_415 : decode cL_law 415 = .ok (.iadd, 1) := by decide +kernel
theorem dL_law_416 : decode cL_law 416 = .ok (.iaload, 1) := by decide +kernel
theorem dL_law_417 : decode cL_law 417 = .ok (.invokevirtual 51, 3) := by decide +kernel
theorem dL_law_420 : decode cL_law 420 = .ok (.aload_n 2, 1) := by decide +kernel
theorem dL_law_421 : decode cL_law 421 = .ok (.aload_n 0, 1) := by decide +kernel
theorem dL_law_422 : decode cL_law 422 = .ok (.iload_n 3, 1) := by decide +kernel
theorem dL_law_423 : decode cL_law 423 = .ok (.iconst 1, 1) := by decide +kernel
theorem dL_law_424 : decode cL_law 424 = .ok (.iadd, 1) := by decide +kernel
theorem dL_law_425 : decode cL_law 425 = .ok (.iaload, 1) := by decide +kernel
theorem dL_law_426 : decode cL_law 426 = .ok (.aload_n 0, 1) := by decide +kernel
theorem dL_law_427 : decode cL_law 427 = .ok (.iload_n 3, 1) := by decide +kernel
theorem dL_law_428 : decode cL_law 428 = .ok (.iconst 2, 1) := by decide +kernel
theorem dL_law_429 : decode cL_law 429 = .ok (.iadd, 1) := by decide +kernel
theorem dL_law_430 : decode cL_law 430 = .ok (.iaload, 1) := by decide +kernel
theorem dL_law_431 : decode cL_law 431 = .ok (.invokevirtual 54, 3) := by decide +kernel
theorem dL_law_434 : decode cL_law 434 = .ok (.if_icmp .eq 488, 3) := by decide +kernel
theorem dL_law_437 : decode cL_law 437 = .ok (.iconst 0, 1) := by decide +kernel
theorem dL_law_438 : decode cL_law 438 = .ok (.ireturn, 1) := by decide +kernel
theorem dL_law_439 : decode cL_law 439 = .ok (.aload_n 1, 1) := by decide +kernel
theorem dL_law_440 : decode cL_law 440 = .ok (.aload_n 0, 1) := by decide +kernel
theorem dL_law_441 : decode cL_law 441 = .ok (.iload_n 3, 1) := by decide +kernel
theorem dL_law_442 : decode cL_law 442 = .ok (.iconst 1, 1) := by decide +kernel
theorem dL_law_443 : decode cL_law 443 = .ok (.iadd, 1) := by decide +kernel
theorem dL_law_444 : decode cL_law 444 = .ok (.iaload, 1) := by decide +kernel
theorem dL_law_445 : decode cL_law 445 = .ok (.aload_n 0, 1) := by decide +kernel
theorem dL_law_446 : decode cL_law 446 = .ok (.iload_n 3, 1) := by decide +kernel
theorem dL_law_447 : decode cL_law 447 = .ok (.iconst 2, 1) := by decide +kernel
theorem dL_law_448 : decode cL_law 448 = .ok (.iadd, 1) := by decide +kernel
theorem dL_law_449 : decode cL_law 449 = .ok (.iaload, 1) := by decide +kernel
theorem dL_law_450 : decode cL_law 450 = .ok (.invokevirtual 55, 3) := by decide +kernel
theorem dL_law_453 : decode cL_law 453 = .ok (.aload_n 2, 1) := by decide +kernel
theorem dL_law_454 : decode cL_law 454 = .ok (.aload_n 0, 1) := by decide +kernel
theorem dL_law_455 : decode cL_law 455 = .ok (.iload_n 3, 1) := by decide +kernel
theorem dL_law_456 : decode cL_law 456 = .ok (.iconst 1, 1) := by decide +kernel
theorem dL_law_457 : decode cL_law 457 = .ok (.iadd, 1) := by decide +kernel
theorem dL_law_458 : decode cL_law 458 = .ok (.iaload, 1) := by decide +kernel
theorem dL_law_459 : decode cL_law 459 = .ok (.aload_n 0, 1) := by decide +kernel
theorem dL_law_460 : decode cL_law 460 = .ok (.iload_n 3, 1) := by decide +kernel
theorem dL_law_461 : decode cL_law 461 = .ok (.iconst 2, 1) := by decide +kernel
theorem dL_law_462 : decode cL_law 462 = .ok (.iadd, 1) := by decide +kernel
theorem dL_law_463 : decode cL_law 463 = .ok (.iaload, 1) := by decide +kernel
theorem dL_law_464 : decode cL_law 464 = .ok (.invokevirtual 58, 3) := by decide +kernel
theorem dL_law_467 : decode cL_law 467 = .ok (.if_icmp .eq 455, 3) := by decide +kernel
theorem dL_law_470 : decode cL_law 470 = .ok (.iconst 0, 1) := by decide +kernel
theorem dL_law_471 : decode cL_law 471 = .ok (.ireturn, 1) := by decide +kernel
theorem dL_law_472 : decode cL_law 472 = .ok (.aload_n 1, 1) := by decide +kernel
theorem dL_law_473 : decode cL_law 473 = .ok (.aload_n 0, 1) := by decide +kernel
theorem dL_law_474 : decode cL_law 474 = .ok (.iload_n 3, 1) := by decide +kernel
theorem dL_law_475 : decode cL_law 475 = .ok (.iconst 1, 1) := by decide +kernel
theorem dL_law_476 : decode cL_law 476 = .ok (.iadd, 1) := by decide +kernel
theorem dL_law_477 : decode cL_law 477 = .ok (.iaload, 1) := by decide +kernel
theorem dL_law_478 : decode cL_law 478 = .ok (.invokevirtual 59, 3) := by decide +kernel
theorem dL_law_481 : decode cL_law 481 = .ok (.aload_n 2, 1) := by decide +kernel
theorem dL_law_482 : decode cL_law 482 = .ok (.aload_n 0, 1) := by decide +kernel
theorem dL_law_483 : decode cL_law 483 = .ok (.iload_n 3, 1) := by decide +kernel
theorem dL_law_484 : decode cL_law 484 = .ok (.iconst 1, 1) := by decide +kernel
theorem dL_law_485 : decode cL_law 485 = .ok (.iadd, 1) := by decide +kernel
theorem dL_law_486 : decode cL_law 486 = .ok (.iaload, 1) := by decide +kernel
theorem dL_law_487 : decode cL_law 487 = .ok (.invokevirtual 62, 3) := by decide +kernel
theorem dL_law_490 : decode cL_law 490 = .ok (.if_icmp .eq 432, 3) := by decide +kernel
theorem dL_law_493 : decode cL_law 493 = .ok (.iconst 0, 1) := by decide +kernel
theorem dL_law_494 : decode cL_law 494 = .ok (.ireturn, 1) := by decide +kernel
theorem dL_law_495 : decode cL_law 495 = .ok (.aload_n 1, 1) := by decide +kernel
theorem dL_law_496 : decode cL_law 496 = .ok (.aload_n 0, 1) := by decide +kernel
theorem dL_law_497 : decode cL_law 497 = .ok (.iload_n 3, 1) := by decide +kernel
theorem dL_law_498 : decode cL_law 498 = .ok (.iconst 1, 1) := by decide +kernel
theorem dL_law_499 : decode cL_law 499 = .ok (.iadd, 1) := by decide +kernel
theorem dL_law_500 : decode cL_law 500 = .ok (.iaload, 1) := by decide +kernel
theorem dL_law_501 : decode cL_law 501 = .ok (.aload_n 0, 1) := by decide +kernel
theorem dL_law_502 : decode cL_law 502 = .ok (.iload_n 3, 1) := by decide +kernel
theorem dL_law_503 : decode cL_law 503 = .ok (.iconst 2, 1) := by decide +kernel
theorem dL_law_504 : decode cL_law 504 = .ok (.iadd, 1) := by decide +kernel
theorem dL_law_505 : decode cL_law 505 = .ok (.iaload, 1) := by decide +kernel
theorem dL_law_506 : decode cL_law 506 = .ok (.invokevirtual 63, 3) := by decide +kernel
theorem dL_law_509 : decode cL_law 509 = .ok (.aload_n 2, 1) := by decide +kernel
theorem dL_law_510 : decode cL_law 510 = .ok (.aload_n 0, 1) := by decide +kernel
theorem dL_law_511 : decode cL_law 511 = .ok (.iload_n 3, 1) := by decide +kernel
theorem dL_law_512 : decode cL_law 512 = .ok (.iconst 1, 1) := by decide +kernel
theorem dL_law_513 : decode cL_law 513 = .ok (.iadd, 1) := by decide +kernel
theorem dL_law_514 : decode cL_law 514 = .ok (.iaload, 1) := by decide +kernel
theorem dL_law_515 : decode cL_law 515 = .ok (.aload_n 0, 1) := by decide +kernel
theorem dL_law_516 : decode cL_law 516 = .ok (.iload_n 3, 1) := by decide +kernel
theorem dL_law_517 : decode cL_law 517 = .ok (.iconst 2, 1) := by decide +kernel
theorem dL_law_518 : decode cL_law 518 = .ok (.iadd, 1) := by decide +kernel
theorem dL_law_519 : decode cL_law 519 = .ok (.iaload, 1) := by decide +kernel
theorem dL_law_520 : decode cL_law 520 = .ok (.invokevirtual 66, 3) := by decide +kernel
theorem dL_law_523 : decode cL_law 523 = .ok (.if_icmp .eq 399, 3) := by decide +kernel
theorem dL_law_526 : decode cL_law 526 = .ok (.iconst 0, 1) := by decide +kernel
theorem dL_law_527 : decode cL_law 527 = .ok (.ireturn, 1) := by decide +kernel
theorem dL_law_528 : decode cL_law 528 = .ok (.aload_n 1, 1) := by decide +kernel
theorem dL_law_529 : decode cL_law 529 = .ok (.aload_n 0, 1) := by decide +kernel
theorem dL_law_530 : decode cL_law 530 = .ok (.iload_n 3, 1) := by decide +kernel
theorem dL_law_531 : decode cL_law 531 = .ok (.iconst 1, 1) := by decide +kernel
theorem dL_law_532 : decode cL_law 532 = .ok (.iadd, 1) := by decide +kernel
theorem dL_law_533 : decode cL_law 533 = .ok (.iaload, 1) := by decide +kernel
theorem dL_law_534 : decode cL_law 534 = .ok (.invokevirtual 67, 3) := by decide +kernel
theorem dL_law_537 : decode cL_law 537 = .ok (.aload_n 2, 1) := by decide +kernel
theorem dL_law_538 : decode cL_law 538 = .ok (.aload_n 0, 1) := by decide +kernel
theorem dL_law_539 : decode cL_law 539 = .ok (.iload_n 3, 1) := by decide +kernel
theorem dL_law_540 : decode cL_law 540 = .ok (.iconst 1, 1) := by decide +kernel
theorem dL_law_541 : decode cL_law 541 = .ok (.iadd, 1) := by decide +kernel
theorem dL_law_542 : decode cL_law 542 = .ok (.iaload, 1) := by decide +kernel
theorem dL_law_543 : decode cL_law 543 = .ok (.invokevirtual 70, 3) := by decide +kernel
theorem dL_law_546 : decode cL_law 546 = .ok (.if_icmp .eq 376, 3) := by decide +kernel
theorem dL_law_549 : decode cL_law 549 = .ok (.iconst 0, 1) := by decide +kernel
theorem dL_law_550 : decode cL_law 550 = .ok (.ireturn, 1) := by decide +kernel
theorem dL_law_551 : decode cL_law 551 = .ok (.aload_n 1, 1) := by decide +kernel
theorem dL_law_552 : decode cL_law 552 = .ok (.aload_n 0, 1) := by decide +kernel
theorem dL_law_553 : decode cL_law 553 = .ok (.iload_n 3, 1) := by decide +kernel
theorem dL_law_554 : decode cL_law 554 = .ok (.iconst 1, 1) := by decide +kernel
theorem dL_law_555 : decode cL_law 555 = .ok (.iadd, 1) := by decide +kernel
theorem dL_law_556 : decode cL_law 556 = .ok (.iaload, 1) := by decide +kernel
theorem dL_law_557 : decode cL_law 557 = .ok (.ifCond .eq 7, 3) := by decide +kernel
theorem dL_law_560 : decode cL_law 560 = .ok (.iconst 1, 1) := by decide +kernel
theorem dL_law_561 : decode cL_law 561 = .ok (.goto 4, 3) := by decide +kernel
theorem dL_law_564 : decode cL_law 564 = .ok (.iconst 0, 1) := by decide +kernel
theorem dL_law_565 : decode cL_law 565 = .ok (.invokevirtual 71, 3) := by decide +kernel
theorem dL_law_568 : decode cL_law 568 = .ok (.aload_n 2, 1) := by decide +kernel
theorem dL_law_569 : decode cL_law 569 = .ok (.aload_n 0, 1) := by decide +kernel
theorem dL_law_570 : decode cL_law 570 = .ok (.iload_n 3, 1) := by decide +kernel
theorem dL_law_571 : decode cL_law 571 = .ok (.iconst 1, 1) := by decide +kernel
theorem dL_law_572 : decode cL_law 572 = .ok (.iadd, 1) := by decide +kernel
theorem dL_law_573 : decode cL_law 573 = .ok (.iaload, 1) := by decide +kernel
theorem dL_law_574 : decode cL_law 574 = .ok (.ifCond .eq 7, 3) := by decide +kernel
theorem dL_law_577 : decode cL_law 577 = .ok (.iconst 1, 1) := by decide +kernel
theorem dL_law_578 : decode cL_law 578 = .ok (.goto 4, 3) := by decide +kernel
theorem dL_law_581 : decode cL_law 581 = .ok (.iconst 0, 1) := by decide +kernel
theorem dL_law_582 : decode cL_law 582 = .ok (.invokevirtual 75, 3) := by decide +kernel
theorem dL_law_585 : decode cL_law 585 = .ok (.if_icmp .eq 337, 3) := by decide +kernel
theorem dL_law_588 : decode cL_law 588 = .ok (.iconst 0, 1) := by decide +kernel
theorem dL_law_589 : decode cL_law 589 = .ok (.ireturn, 1) := by decide +kernel
theorem dL_law_590 : decode cL_law 590 = .ok (.aload_n 1, 1) := by decide +kernel
theorem dL_law_591 : decode cL_law 591 = .ok (.aload_n 0, 1) := by decide +kernel
theorem dL_law_592 : decode cL_law 592 = .ok (.iload_n 3, 1) := by decide +kernel
theorem dL_law_593 : decode cL_law 593 = .ok (.iconst 1, 1) := by decide +kernel
theorem dL_law_594 : decode cL_law 594 = .ok (.iadd, 1) := by decide +kernel
theorem dL_law_595 : decode cL_law 595 = .ok (.iaload, 1) := by decide +kernel
theorem dL_law_596 : decode cL_law 596 = .ok (.aload_n 0, 1) := by decide +kernel
theorem dL_law_597 : decode cL_law 597 = .ok (.iload_n 3, 1) := by decide +kernel
theorem dL_law_598 : decode cL_law 598 = .ok (.iconst 2, 1) := by decide +kernel
theorem dL_law_599 : decode cL_law 599 = .ok (.iadd, 1) := by decide +kernel
theorem dL_law_600 : decode cL_law 600 = .ok (.iaload, 1) := by decide +kernel
theorem dL_law_601 : decode cL_law 601 = .ok (.invokevirtual 76, 3) := by decide +kernel
theorem dL_law_604 : decode cL_law 604 = .ok (.aload_n 2, 1) := by decide +kernel
theorem dL_law_605 : decode cL_law 605 = .ok (.aload_n 0, 1) := by decide +kernel
theorem dL_law_606 : decode cL_law 606 = .ok (.iload_n 3, 1) := by decide +kernel
theorem dL_law_607 : decode cL_law 607 = .ok (.iconst 1, 1) := by decide +kernel
theorem dL_law_608 : decode cL_law 608 = .ok (.iadd, 1) := by decide +kernel
theorem dL_law_609 : decode cL_law 609 = .ok (.iaload, 1) := by decide +kernel
theorem dL_law_610 : decode cL_law 610 = .ok (.aload_n 0, 1) := by decide +kernel
theorem dL_law_611 : decode cL_law 611 = .ok (.iload_n 3, 1) := by decide +kernel
theorem dL_law_612 : decode cL_law 612 = .ok (.iconst 2, 1) := by decide +kernel
theorem dL_law_613 : decode cL_law 613 = .ok (.iadd, 1) := by decide +kernel
theorem dL_law_614 : decode cL_law 614 = .ok (.iaload, 1) := by decide +kernel
theorem dL_law_615 : decode cL_law 615 = .ok (.invokevirtual 79, 3) := by decide +kernel
theorem dL_law_618 : decode cL_law 618 = .ok (.if_icmp .eq 304, 3) := by decide +kernel
theorem dL_law_621 : decode cL_law 621 = .ok (.iconst 0, 1) := by decide +kernel
theorem dL_law_622 : decode cL_law 622 = .ok (.ireturn, 1) := by decide +kernel
theorem dL_law_623 : decode cL_law 623 = .ok (.aload_n 1, 1) := by decide +kernel
theorem dL_law_624 : decode cL_law 624 = .ok (.invokevirtual 80, 3) := by decide +kernel
theorem dL_law_627 : decode cL_law 627 = .ok (.aload_n 2, 1) := by decide +kernel
theorem dL_law_628 : decode cL_law 628 = .ok (.invokevirtual 83, 3) := by decide +kernel
theorem dL_law_631 : decode cL_law 631 = .ok (.if_icmp .eq 291, 3) := by decide +kernel
theorem dL_law_634 : decode cL_law 634 = .ok (.iconst 0, 1) := by decide +kernel
theorem dL_law_635 : decode cL_law 635 = .ok (.ireturn, 1) := by decide +kernel
theorem dL_law_636 : decode cL_law 636 = .ok (.aload_n 1, 1) := by decide +kernel
theorem dL_law_637 : decode cL_law 637 = .ok (.aload_n 0, 1) := by decide +kernel
theorem dL_law_638 : decode cL_law 638 = .ok (.iload_n 3, 1) := by decide +kernel
theorem dL_law_639 : decode cL_law 639 = .ok (.iconst 1, 1) := by decide +kernel
theorem dL_law_640 : decode cL_law 640 = .ok (.iadd, 1) := by decide +kernel
theorem dL_law_641 : decode cL_law 641 = .ok (.iaload, 1) := by decide +kernel
theorem dL_law_642 : decode cL_law 642 = .ok (.invokevirtual 84, 3) := by decide +kernel
theorem dL_law_645 : decode cL_law 645 = .ok (.aload_n 2, 1) := by decide +kernel
theorem dL_law_646 : decode cL_law 646 = .ok (.aload_n 0, 1) := by decide +kernel
theorem dL_law_647 : decode cL_law 647 = .ok (.iload_n 3, 1) := by decide +kernel
theorem dL_law_648 : decode cL_law 648 = .ok (.iconst 1, 1) := by decide +kernel
theorem dL_law_649 : decode cL_law 649 = .ok (.iadd, 1) := by decide +kernel
theorem dL_law_650 : decode cL_law 650 = .ok (.iaload, 1) := by decide +kernel
theorem dL_law_651 : decode cL_law 651 = .ok (.invokevirtual 87, 3) := by decide +kernel
theorem dL_law_654 : decode cL_law 654 = .ok (.if_icmp .eq 268, 3) := by decide +kernel
theorem dL_law_657 : decode cL_law 657 = .ok (.iconst 0, 1) := by decide +kernel
theorem dL_law_658 : decode cL_law 658 = .ok (.ireturn, 1) := by decide +kernel
theorem dL_law_659 : decode cL_law 659 = .ok (.aload_n 1, 1) := by decide +kernel
theorem dL_law_660 : decode cL_law 660 = .ok (.aload_n 0, 1) := by decide +kernel
theorem dL_law_661 : decode cL_law 661 = .ok (.iload_n 3, 1) := by decide +kernel
theorem dL_law_662 : decode cL_law 662 = .ok (.iconst 1, 1) := by decide +kernel
theorem dL_law_663 : decode cL_law 663 = .ok (.iadd, 1) := by decide +kernel
theorem dL_law_664 : decode cL_law 664 = .ok (.iaload, 1) := by decide +kernel
theorem dL_law_665 : decode cL_law 665 = .ok (.invokevirtual 88, 3) := by decide +kernel
theorem dL_law_668 : decode cL_law 668 = .ok (.aload_n 2, 1) := by decide +kernel
theorem dL_law_669 : decode cL_law 669 = .ok (.aload_n 0, 1) := by decide +kernel
theorem dL_law_670 : decode cL_law 670 = .ok (.iload_n 3, 1) := by decide +kernel
theorem dL_law_671 : decode cL_law 671 = .ok (.iconst 1, 1) := by decide +kernel
theorem dL_law_672 : decode cL_law 672 = .ok (.iadd, 1) := by decide +kernel
theorem dL_law_673 : decode cL_law 673 = .ok (.iaload, 1) := by decide +kernel
theorem dL_law_674 : decode cL_law 674 = .ok (.invokevirtual 91, 3) := by decide +kernel
theorem dL_law_677 : decode cL_law 677 = .ok (.if_icmp .eq 245, 3) := by decide +kernel
theorem dL_law_680 : decode cL_law 680 = .ok (.iconst 0, 1) := by decide +kernel
theorem dL_law_681 : decode cL_law 681 = .ok (.ireturn, 1) := by decide +kernel
theorem dL_law_682 : decode cL_law 682 = .ok (.aload_n 1, 1) := by decide +kernel
theorem dL_law_683 : decode cL_law 683 = .ok (.aload_n 0, 1) := by decide +kernel
theorem dL_law_684 : decode cL_law 684 = .ok (.iload_n 3, 1) := by decide +kernel
theorem dL_law_685 : decode cL_law 685 = .ok (.iconst 1, 1) := by decide +kernel
theorem dL_law_686 : decode cL_law 686 = .ok (.iadd, 1) := by decide +kernel
theorem dL_law_687 : decode cL_law 687 = .ok (.iaload, 1) := by decide +kernel
theorem dL_law_688 : decode cL_law 688 = .ok (.invokevirtual 92, 3) := by decide +kernel
theorem dL_law_691 : decode cL_law 691 = .ok (.aload_n 2, 1) := by decide +kernel
theorem dL_law_692 : decode cL_law 692 = .ok (.aload_n 0, 1) := by decide +kernel
theorem dL_law_693 : decode cL_law 693 = .ok (.iload_n 3, 1) := by decide +kernel
theorem dL_law_694 : decode cL_law 694 = .ok (.iconst 1, 1) := by decide +kernel
theorem dL_law_695 : decode cL_law 695 = .ok (.iadd, 1) := by decide +kernel
theorem dL_law_696 : decode cL_law 696 = .ok (.iaload, 1) := by decide +kernel
theorem dL_law_697 : decode cL_law 697 = .ok (.invokevirtual 95, 3) := by decide +kernel
theorem dL_law_700 : decode cL_law 700 = .ok (.if_icmp .eq 222, 3) := by decide +kernel
theorem dL_law_703 : decode cL_law 703 = .ok (.iconst 0, 1) := by decide +kernel
theorem dL_law_704 : decode cL_law 704 = .ok (.ireturn, 1) := by decide +kernel
theorem dL_law_705 : decode cL_law 705 = .ok (.aload_n 1, 1) := by decide +kernel
theorem dL_law_706 : decode cL_law 706 = .ok (.aload_n 0, 1) := by decide +kernel
theorem dL_law_707 : decode cL_law 707 = .ok (.iload_n 3, 1) := by decide +kernel
theorem dL_law_708 : decode cL_law 708 = .ok (.iconst 1, 1) := by decide +kernel
theorem dL_law_709 : decode cL_law 709 = .ok (.iadd, 1) := by decide +kernel
theorem dL_law_710 : decode cL_law 710 = .ok (.iaload, 1) := by decide +kernel
theorem dL_law_711 : decode cL_law 711 = .ok (.invokevirtual 96, 3) := by decide +kernel
theorem dL_law_714 : decode cL_law 714 = .ok (.aload_n 2, 1) := by decide +kernel
theorem dL_law_715 : decode cL_law 715 = .ok (.aload_n 0, 1) := by decide +kernel
theorem dL_law_716 : decode cL_law 716 = .ok (.iload_n 3, 1) := by decide +kernel
theorem dL_law_717 : decode cL_law 717 = .ok (.iconst 1, 1) := by decide +kernel
theorem dL_law_718 : decode cL_law 718 = .ok (.iadd, 1) := by decide +kernel
theorem dL_law_719 : decode cL_law 719 = .ok (.iaload, 1) := by decide +kernel
theorem dL_law_720 : decode cL_law 720 = .ok (.invokevirtual 99, 3) := by decide +kernel
theorem dL_law_723 : decode cL_law 723 = .ok (.if_icmp .eq 199, 3) := by decide +kernel
theorem dL_law_726 : decode cL_law 726 = .ok (.iconst 0, 1) := by decide +kernel
theorem dL_law_727 : decode cL_law 727 = .ok (.ireturn, 1) := by decide +kernel
theorem dL_law_728 : decode cL_law 728 = .ok (.aload_n 1, 1) := by decide +kernel
theorem dL_law_729 : decode cL_law 729 = .ok (.aload_n 0, 1) := by decide +kernel
theorem dL_law_730 : decode cL_law 730 = .ok (.iload_n 3, 1) := by decide +kernel
theorem dL_law_731 : decode cL_law 731 = .ok (.iconst 1, 1) := by decide +kernel
theorem dL_law_732 : decode cL_law 732 = .ok (.iadd, 1) := by decide +kernel
theorem dL_law_733 : decode cL_law 733 = .ok (.iaload, 1) := by decide +kernel
theorem dL_law_734 : decode cL_law 734 = .ok (.invokevirtual 100, 3) := by decide +kernel
theorem dL_law_737 : decode cL_law 737 = .ok (.aload_n 2, 1) := by decide +kernel
theorem dL_law_738 : decode cL_law 738 = .ok (.aload_n 0, 1) := by decide +kernel
theorem dL_law_739 : decode cL_law 739 = .ok (.iload_n 3, 1) := by decide +kernel
theorem dL_law_740 : decode cL_law 740 = .ok (.iconst 1, 1) := by decide +kernel
theorem dL_law_741 : decode cL_law 741 = .ok (.iadd, 1) := by decide +kernel
theorem dL_law_742 : decode cL_law 742 = .ok (.iaload, 1) := by decide +kernel
theorem dL_law_743 : decode cL_law 743 = .ok (.invokevirtual 103, 3) := by decide +kernel
theorem dL_law_746 : decode cL_law 746 = .ok (.if_icmp .eq 176, 3) := by decide +kernel
theorem dL_law_749 : decode cL_law 749 = .ok (.iconst 0, 1) := by decide +kernel
theorem dL_law_750 : decode cL_law 750 = .ok (.ireturn, 1) := by decide +kernel
theorem dL_law_751 : decode cL_law 751 = .ok (.aload_n 1, 1) := by decide +kernel
theorem dL_law_752 : decode cL_law 752 = .ok (.aload_n 0, 1) := by decide +kernel
theorem dL_law_753 : decode cL_law 753 = .ok (.iload_n 3, 1) := by decide +kernel
theorem dL_law_754 : decode cL_law 754 = .ok (.iconst 1, 1) := by decide +kernel
theorem dL_law_755 : decode cL_law 755 = .ok (.iadd, 1) := by decide +kernel
theorem dL_law_756 : decode cL_law 756 = .ok (.iaload, 1) := by decide +kernel
theorem dL_law_757 : decode cL_law 757 = .ok (.aload_n 0, 1) := by decide +kernel
theorem dL_law_758 : decode cL_law 758 = .ok (.iload_n 3, 1) := by decide +kernel
theorem dL_law_759 : decode cL_law 759 = .ok (.iconst 2, 1) := by decide +kernel
theorem dL_law_760 : decode cL_law 760 = .ok (.iadd, 1) := by decide +kernel
theorem dL_law_761 : decode cL_law 761 = .ok (.iaload, 1) := by decide +kernel
theorem dL_law_762 : decode cL_law 762 = .ok (.invokevirtual 104, 3) := by decide +kernel
theorem dL_law_765 : decode cL_law 765 = .ok (.aload_n 2, 1) := by decide +kernel
theorem dL_law_766 : decode cL_law 766 = .ok (.aload_n 0, 1) := by decide +kernel
theorem dL_law_767 : decode cL_law 767 = .ok (.iload_n 3, 1) := by decide +kernel
theorem dL_law_768 : decode cL_law 768 = .ok (.iconst 1, 1) := by decide +kernel
theorem dL_law_769 : decode cL_law 769 = .ok (.iadd, 1) := by decide +kernel
theorem dL_law_770 : decode cL_law 770 = .ok (.iaload, 1) := by decide +kernel
theorem dL_law_771 : decode cL_law 771 = .ok (.aload_n 0, 1) := by decide +kernel
theorem dL_law_772 : decode cL_law 772 = .ok (.iload_n 3, 1) := by decide +kernel
theorem dL_law_773 : decode cL_law 773 = .ok (.iconst 2, 1) := by decide +kernel
theorem dL_law_774 : decode cL_law 774 = .ok (.iadd, 1) := by decide +kernel
theorem dL_law_775 : decode cL_law 775 = .ok (.iaload, 1) := by decide +kernel
theorem dL_law_776 : decode cL_law 776 = .ok (.invokevirtual 107, 3) := by decide +kernel
theorem dL_law_779 : decode cL_law 779 = .ok (.if_icmp .eq 143, 3) := by decide +kernel
theorem dL_law_782 : decode cL_law 782 = .ok (.iconst 0, 1) := by decide +kernel
theorem dL_law_783 : decode cL_law 783 = .ok (.ireturn, 1) := by decide +kernel
theorem dL_law_784 : decode cL_law 784 = .ok (.aload_n 1, 1) := by decide +kernel
theorem dL_law_785 : decode cL_law 785 = .ok (.aload_n 0, 1) := by decide +kernel
theorem dL_law_786 : decode cL_law 786 = .ok (.iload_n 3, 1) := by decide +kernel
theorem dL_law_787 : decode cL_law 787 = .ok (.iconst 1, 1) := by decide +kernel
theorem dL_law_788 : decode cL_law 788 = .ok (.iadd, 1) := by decide +kernel
theorem dL_law_789 : decode cL_law 789 = .ok (.iaload, 1) := by decide +kernel
theorem dL_law_790 : decode cL_law 790 = .ok (.aload_n 0, 1) := by decide +kernel
theorem dL_law_791 : decode cL_law 791 = .ok (.iload_n 3, 1) := by decide +kernel
theorem dL_law_792 : decode cL_law 792 = .ok (.iconst 2, 1) := by decide +kernel
theorem dL_law_793 : decode cL_law 793 = .ok (.iadd, 1) := by decide +kernel
theorem dL_law_794 : decode cL_law 794 = .ok (.iaload, 1) := by decide +kernel
theorem dL_law_795 : decode cL_law 795 = .ok (.aload_n 0, 1) := by decide +kernel
theorem dL_law_796 : decode cL_law 796 = .ok (.iload_n 3, 1) := by decide +kernel
theorem dL_law_797 : decode cL_law 797 = .ok (.iconst 3, 1) := by decide +kernel
theorem dL_law_798 : decode cL_law 798 = .ok (.iadd, 1) := by decide +kernel
theorem dL_law_799 : decode cL_law 799 = .ok (.iaload, 1) := by decide +kernel
theorem dL_law_800 : decode cL_law 800 = .ok (.ifCond .eq 7, 3) := by decide +kernel
theorem dL_law_803 : decode cL_law 803 = .ok (.iconst 1, 1) := by decide +kernel
theorem dL_law_804 : decode cL_law 804 = .ok (.goto 4, 3) := by decide +kernel
theorem dL_law_807 : decode cL_law 807 = .ok (.iconst 0, 1) := by decide +kernel
theorem dL_law_808 : decode cL_law 808 = .ok (.invokevirtual 108, 3) := by decide +kernel
theorem dL_law_811 : decode cL_law 811 = .ok (.aload_n 2, 1) := by decide +kernel
theorem dL_law_812 : decode cL_law 812 = .ok (.aload_n 0, 1) := by decide +kernel
theorem dL_law_813 : decode cL_law 813 = .ok (.iload_n 3, 1) := by decide +kernel
theorem dL_law_814 : decode cL_law 814 = .ok (.iconst 1, 1) := by decide +kernel
theorem dL_law_815 : decode cL_law 815 = .ok (.iadd, 1) := by decide +kernel
theorem dL_law_816 : decode cL_law 816 = .ok (.iaload, 1) := by decide +kernel
theorem dL_law_817 : decode cL_law 817 = .ok (.aload_n 0, 1) := by decide +kernel
theorem dL_law_818 : decode cL_law 818 = .ok (.iload_n 3, 1) := by decide +kernel
theorem dL_law_819 : decode cL_law 819 = .ok (.iconst 2, 1) := by decide +kernel
theorem dL_law_820 : decode cL_law 820 = .ok (.iadd, 1) := by decide +kernel
theorem dL_law_821 : decode cL_law 821 = .ok (.iaload, 1) := by decide +kernel
theorem dL_law_822 : decode cL_law 822 = .ok (.aload_n 0, 1) := by decide +kernel
theorem dL_law_823 : decode cL_law 823 = .ok (.iload_n 3, 1) := by decide +kernel
theorem dL_law_824 : decode cL_law 824 = .ok (.iconst 3, 1) := by decide +kernel
theorem dL_law_825 : decode cL_law 825 = .ok (.iadd, 1) := by decide +kernel
theorem dL_law_826 : decode cL_law 826 = .ok (.iaload, 1) := by decide +kernel
theorem dL_law_827 : decode cL_law 827 = .ok (.ifCond .eq 7, 3) := by decide +kernel
theorem dL_law_830 : decode cL_law 830 = .ok (.iconst 1, 1) := by decide +kernel
theorem dL_law_831 : decode cL_law 831 = .ok (.goto 4, 3) := by decide +kernel
theorem dL_law_834 : decode cL_law 834 = .ok (.iconst 0, 1) := by decide +kernel
theorem dL_law_835 : decode cL_law 835 = .ok (.invokevirtual 112, 3) := by decide +kernel
theorem dL_law_838 : decode cL_law 838 = .ok (.if_icmp .eq 84, 3) := by decide +kernel
theorem dL_law_841 : decode cL_law 841 = .ok (.iconst 0, 1) := by decide +kernel
theorem dL_law_842 : decode cL_law 842 = .ok (.ireturn, 1) := by decide +kernel
theorem dL_law_843 : decode cL_law 843 = .ok (.aload_n 1, 1) := by decide +kernel
theorem dL_law_844 : decode cL_law 844 = .ok (.aload_n 0, 1) := by decide +kernel
theorem dL_law_845 : decode cL_law 845 = .ok (.iload_n 3, 1) := by decide +kernel
theorem dL_law_846 : decode cL_law 846 = .ok (.iconst 1, 1) := by decide +kernel
theorem dL_law_847 : decode cL_law 847 = .ok (.iadd, 1) := by decide +kernel
theorem dL_law_848 : decode cL_law 848 = .ok (.iaload, 1) := by decide +kernel
theorem dL_law_849 : decode cL_law 849 = .ok (.invokevirtual 113, 3) := by decide +kernel
theorem dL_law_852 : decode cL_law 852 = .ok (.aload_n 2, 1) := by decide +kernel
theorem dL_law_853 : decode cL_law 853 = .ok (.aload_n 0, 1) := by decide +kernel
theorem dL_law_854 : decode cL_law 854 = .ok (.iload_n 3, 1) := by decide +kernel
theorem dL_law_855 : decode cL_law 855 = .ok (.iconst 1, 1) := by decide +kernel
theorem dL_law_856 : decode cL_law 856 = .ok (.iadd, 1) := by decide +kernel
theorem dL_law_857 : decode cL_law 857 = .ok (.iaload, 1) := by decide +kernel
theorem dL_law_858 : decode cL_law 858 = .ok (.invokevirtual 116, 3) := by decide +kernel
theorem dL_law_861 : decode cL_law 861 = .ok (.if_icmp .eq 61, 3) := by decide +kernel
theorem dL_law_864 : decode cL_law 864 = .ok (.iconst 0, 1) := by decide +kernel
theorem dL_law_865 : decode cL_law 865 = .ok (.ireturn, 1) := by decide +kernel
theorem dL_law_866 : decode cL_law 866 = .ok (.aload_n 1, 1) := by decide +kernel
theorem dL_law_867 : decode cL_law 867 = .ok (.aload_n 0, 1) := by decide +kernel
theorem dL_law_868 : decode cL_law 868 = .ok (.iload_n 3, 1) := by decide +kernel
theorem dL_law_869 : decode cL_law 869 = .ok (.iconst 1, 1) := by decide +kernel
theorem dL_law_870 : decode cL_law 870 = .ok (.iadd, 1) := by decide +kernel
theorem dL_law_871 : decode cL_law 871 = .ok (.iaload, 1) := by decide +kernel
theorem dL_law_872 : decode cL_law 872 = .ok (.aload_n 0, 1) := by decide +kernel
theorem dL_law_873 : decode cL_law 873 = .ok (.iload_n 3, 1) := by decide +kernel
theorem dL_law_874 : decode cL_law 874 = .ok (.iconst 2, 1) := by decide +kernel
theorem dL_law_875 : decode cL_law 875 = .ok (.iadd, 1) := by decide +kernel
theorem dL_law_876 : decode cL_law 876 = .ok (.iaload, 1) := by decide +kernel
theorem dL_law_877 : decode cL_law 877 = .ok (.invokevirtual 117, 3) := by decide +kernel
theorem dL_law_880 : decode cL_law 880 = .ok (.aload_n 2, 1) := by decide +kernel
theorem dL_law_881 : decode cL_law 881 = .ok (.aload_n 0, 1) := by decide +kernel
theorem dL_law_882 : decode cL_law 882 = .ok (.iload_n 3, 1) := by decide +kernel
theorem dL_law_883 : decode cL_law 883 = .ok (.iconst 1, 1) := by decide +kernel
theorem dL_law_884 : decode cL_law 884 = .ok (.iadd, 1) := by decide +kernel
theorem dL_law_885 : decode cL_law 885 = .ok (.iaload, 1) := by decide +kernel
theorem dL_law_886 : decode cL_law 886 = .ok (.aload_n 0, 1) := by decide +kernel
theorem dL_law_887 : decode cL_law 887 = .ok (.iload_n 3, 1) := by decide +kernel
theorem dL_law_888 : decode cL_law 888 = .ok (.iconst 2, 1) := by decide +kernel
theorem dL_law_889 : decode cL_law 889 = .ok (.iadd, 1) := by decide +kernel
theorem dL_law_890 : decode cL_law 890 = .ok (.iaload, 1) := by decide +kernel
theorem dL_law_891 : decode cL_law 891 = .ok (.invokevirtual 120, 3) := by decide +kernel
theorem dL_law_894 : decode cL_law 894 = .ok (.if_icmp .eq 28, 3) := by decide +kernel
theorem dL_law_897 : decode cL_law 897 = .ok (.iconst 0, 1) := by decide +kernel
theorem dL_law_898 : decode cL_law 898 = .ok (.ireturn, 1) := by decide +kernel
theorem dL_law_899 : decode cL_law 899 = .ok (.aload_n 1, 1) := by decide +kernel
theorem dL_law_900 : decode cL_law 900 = .ok (.aload_n 0, 1) := by decide +kernel
theorem dL_law_901 : decode cL_law 901 = .ok (.iload_n 3, 1) := by decide +kernel
theorem dL_law_902 : decode cL_law 902 = .ok (.iconst 1, 1) := by decide +kernel
theorem dL_law_903 : decode cL_law 903 = .ok (.iadd, 1) := by decide +kernel
theorem dL_law_904 : decode cL_law 904 = .ok (.iaload, 1) := by decide +kernel
theorem dL_law_905 : decode cL_law 905 = .ok (.invokevirtual 121, 3) := by decide +kernel
theorem dL_law_908 : decode cL_law 908 = .ok (.aload_n 2, 1) := by decide +kernel
theorem dL_law_909 : decode cL_law 909 = .ok (.aload_n 0, 1) := by decide +kernel
theorem dL_law_910 : decode cL_law 910 = .ok (.iload_n 3, 1) := by decide +kernel
theorem dL_law_911 : decode cL_law 911 = .ok (.iconst 1, 1) := by decide +kernel
theorem dL_law_912 : decode cL_law 912 = .ok (.iadd, 1) := by decide +kernel
theorem dL_law_913 : decode cL_law 913 = .ok (.iaload, 1) := by decide +kernel
theorem dL_law_914 : decode cL_law 914 = .ok (.invokevirtual 124, 3) := by decide +kernel
theorem dL_law_917 : decode cL_law 917 = .ok (.if_icmp .eq 5, 3) := by decide +kernel
theorem dL_law_920 : decode cL_law 920 = .ok (.iconst 0, 1) := by decide +kernel
theorem dL_law_921 : decode cL_law 921 = .ok (.ireturn, 1) := by decide +kernel
theorem dL_law_922 : decode cL_law 922 = .ok (.iinc 3 6, 3) := by decide +kernel
theorem dL_law_925 : decode cL_law 925 = .ok (.goto (-907), 3) := by decide +kernel
theorem dL_law_928 : decode cL_law 928 = .ok (.iconst 1, 1) := by decide +kernel
theorem dL_law_929 : decode cL_law 929 = .ok (.ireturn, 1) := by decide +kernel
