theorem dX7_change_37 : decode cX7_change 37 = .ok (.invokevirtual 139, 3) := by decide +kernel
theorem dX7_change_40 : decode cX7_change 40 = .ok (.ireturn, 1) := by decide +kernel
theorem dX7_change_41 : decode cX7_change 41 = .ok (.aload_n 0, 1) := by decide +kernel
theorem dX7_change_42 : decode cX7_change 42 = .ok (.getfield 22, 3) := by decide +kernel
theorem dX7_change_45 : decode cX7_change 45 = .ok (.iload_n 1, 1) := by decide +kernel
theorem dX7_change_46 : decode cX7_change 46 = .ok (.iload_n 2, 1) := by decide +kernel
theorem dX7_change_47 : decode cX7_change 47 = .ok (.iastore, 1) := by decide +kernel
theorem dX7_change_48 : decode cX7_change 48 = .ok (.aload_n 0, 1) := by decide +kernel
theorem dX7_change_49 : decode cX7_change 49 = .ok (.invokevirtual 143, 3) := by decide +kernel
theorem dX7_change_52 : decode cX7_change 52 = .ok (.ireturn, 1) := by decide +kernel
theorem dX7_note_0 : decode cX7_note 0 = .ok (.aload_n 0, 1) := by decide +kernel
theorem dX7_note_1 : decode cX7_note 1 = .ok (.iconst 0, 1) := by decide +kernel
theorem dX7_note_2 : decode cX7_note 2 = .ok (.putfield 123, 3) := by decide +kernel
theorem dX7_note_5 : decode cX7_note 5 = .ok (.aload_n 0, 1) := by decide +kernel
theorem dX7_note_6 : decode cX7_note 6 = .ok (.iconst 0, 1) := by decide +kernel
theorem dX7_note_7 : decode cX7_note 7 = .ok (.putfield 126, 3) := by decide +kernel
theorem dX7_note_10 : decode cX7_note 10 = .ok (.aload_n 0, 1) := by decide +kernel
theorem dX7_note_11 : decode cX7_note 11 = .ok (.iload_n 1, 1) := by decide +kernel
theorem dX7_note_12 : decode cX7_note 12 = .ok (.invokevirtual 151, 3) := by decide +kernel
theorem dX7_note_15 : decode cX7_note 15 = .ok (.ifCond .ne 9, 3) := by decide +kernel
theorem dX7_note_18 : decode cX7_note 18 = .ok (.aload_n 0, 1) := by decide +kernel
theorem dX7_note_19 : decode cX7_note 19 = .ok (.iconst 1, 1) := by decide +kernel
theorem dX7_note_20 : decode cX7_note 20 = .ok (.invokevirtual 147, 3) := by decide +kernel
theorem dX7_note_23 : decode cX7_note 23 = .ok (.ireturn, 1) := by decide +kernel
theorem dX7_note_24 : decode cX7_note 24 = .ok (.iload_n 2, 1) := by decide +kernel
theorem dX7_note_25 : decode cX7_note 25 = .ok (.iconst 1, 1) := by decide +kernel
theorem dX7_note_26 : decode cX7_note 26 = .ok (.if_icmp .lt 42, 3) := by decide +kernel
theorem dX7_note_29 : decode cX7_note 29 = .ok (.iload_n 2, 1) := by decide +kernel
theorem dX7_note_30 : decode cX7_note 30 = .ok (.bipush 100, 2) := by decide +kernel
theorem dX7_note_32 : decode cX7_note 32 = .ok (.if_icmp .gt 36, 3) := by decide +kernel
theorem dX7_note_35 : decode cX7_note 35 = .ok (.iload_n 3, 1) := by decide +kernel
theorem dX7_note_36 : decode cX7_note 36 = .ok (.iconst 1, 1) := by decide +kernel
theorem dX7_note_37 : decode cX7_note 37 = .ok (.if_icmp .lt 31, 3) := by decide +kernel
theorem dX7_note_40 : decode cX7_note 40 = .ok (.iload_n 3, 1) := by decide +kernel
theorem dX7_note_41 : decode cX7_note 41 = .ok (.bipush 20, 2) := by decide +kernel
theorem dX7_note_43 : decode cX7_note 43 = .ok (.if_icmp .gt 25, 3) := by decide +kernel
theorem dX7_note_46 : decode cX7_note 46 = .ok (.iload 4, 2) := by decide +kernel
theorem dX7_note_48 : decode cX7_note 48 = .ok (.ifCond .lt 20, 3) := by decide +kernel
theorem dX7_note_51 : decode cX7_note 51 = .ok (.iload 4, 2) := by decide +kernel
theorem dX7_note_53 : decode cX7_note 53 = .ok (.iconst 2, 1) := by decide +kernel
theorem dX7_note_54 : decode cX7_note 54 = .ok (.if_icmp .gt 14, 3) := by decide +kernel
theorem dX7_note_57 : decode cX7_note 57 = .ok (.iload 5, 2) := by decide +kernel
theorem dX7_note_59 : decode cX7_note 59 = .ok (.ifCond .lt 9, 3) := by decide +kernel
theorem dX7_note_62 : decode cX7_note 62 = .ok (.iload 5, 2) := by decide +kernel
theorem dX7_note_64 : decode cX7_note 64 = .ok (.iconst 3, 1) := by decide +kernel
theorem dX7_note_65 : decode cX7_note 65 = .ok (.if_icmp .le 9, 3) := by decide +kernel
theorem dX7_note_68 : decode cX7_note 68 = .ok (.aload_n 0, 1) := by decide +kernel
theorem dX7_note_69 : decode cX7_note 69 = .ok (.iconst 2, 1) := by decide +kernel
theorem dX7_note_70 : decode cX7_note 70 = .ok (.invokevirtual 147, 3) := by decide +kernel
theorem dX7_note_73 : decode cX7_note 73 = .ok (.ireturn, 1) := by decide +kernel
theorem dX7_note_74 : decode cX7_note 74 = .ok (.aload_n 0, 1) := by decide +kernel
theorem dX7_note_75 : decode cX7_note 75 = .ok (.getfield 136, 3) := by decide +kernel
theorem dX7_note_78 : decode cX7_note 78 = .ok (.bipush 24, 2) := by decide +kernel
theorem dX7_note_80 : decode cX7_note 80 = .ok (.if_icmp .ne 9, 3) := by decide +kernel
theorem dX7_note_83 : decode cX7_note 83 = .ok (.aload_n 0, 1) := by decide +kernel
theorem dX7_note_84 : decode cX7_note 84 = .ok (.iconst 3, 1) := by decide +kernel
theorem dX7_note_85 : decode cX7_note 85 = .ok (.invokevirtual 147, 3) := by decide +kernel
theorem dX7_note_88 : decode cX7_note 88 = .ok (.ireturn, 1) := by decide +kernel
theorem dX7_note_89 : decode cX7_note 89 = .ok (.aload_n 0, 1) := by decide +kernel
theorem dX7_note_90 : decode cX7_note 90 = .ok (.getfield 26, 3) := by decide +kernel
theorem dX7_note_93 : decode cX7_note 93 = .ok (.aload_n 0, 1) := by decide +kernel
theorem dX7_note_94 : decode cX7_note 94 = .ok (.getfield 136, 3) := by decide +kernel
theorem dX7_note_97 : decode cX7_note 97 = .ok (.iload_n 1, 1) := by decide +kernel
theorem dX7_note_98 : decode cX7_note 98 = .ok (.iastore, 1) := by decide +kernel
theorem dX7_note_99 : decode cX7_note 99 = .ok (.aload_n 0, 1) := by decide +kernel
theorem dX7_note_100 : decode cX7_note 100 = .ok (.getfield 29, 3) := by decide +kernel
theorem dX7_note_103 : decode cX7_note 103 = .ok (.aload_n 0, 1) := by decide +kernel
theorem dX7_note_104 : decode cX7_note 104 = .ok (.getfield 136, 3) := by decide +kernel
theorem dX7_note_107 : decode cX7_note 107 = .ok (.iload_n 2, 1) := by decide +kernel
theorem dX7_note_108 : decode cX7_note 108 = .ok (.iastore, 1) := by decide +kernel
theorem dX7_note_109 : decode cX7_note 109 = .ok (.aload_n 0, 1) := by decide +kernel
theorem dX7_note_110 : decode cX7_note 110 = .ok (.getfield 32, 3) := by decide +kernel
theorem dX7_note_113 : decode cX7_note 113 = .ok (.aload_n 0, 1) := by decide +kernel
theorem dX7_note_114 : decode cX7_note 114 = .ok (.getfield 136, 3) := by decide +kernel
theorem dX7_note_117 : decode cX7_note 117 = .ok (.iload_n 3, 1) := by decide +kernel
theorem dX7_note_118 : decode cX7_note 118 = .ok (.iastore, 1) := by decide +kernel
theorem dX7_note_119 : decode cX7_note 119 = .ok (.aload_n 0, 1) := by decide +kernel
theorem dX7_note_120 : decode cX7_note 120 = .ok (.getfield 35, 3) := by decide +kernel
theorem dX7_note_123 : decode cX7_note 123 = .ok (.aload_n 0, 1) := by decide +kernel
theorem dX7_note_124 : decode cX7_note 124 = .ok (.getfield 136, 3) := by decide +kernel
theorem dX7_note_127 : decode cX7_note 127 = .ok (.iload 4, 2) := by decide +kernel
theorem dX7_note_129 : decode cX7_note 129 = .ok (.iastore, 1) := by decide +kernel
theorem dX7_note_130 : decode cX7_note 130 = .ok (.aload_n 0, 1) := by decide +kernel
theorem dX7_note_131 : decode cX7_note 131 = .ok (.getfield 38, 3) := by decide +kernel
theorem dX7_note_134 : decode cX7_note 134 = .ok (.aload_n 0, 1) := by decide +kernel
theorem dX7_note_135 : decode cX7_note 135 = .ok (.getfield 136, 3) := by decide +kernel
theorem dX7_note_138 : decode cX7_note 138 = .ok (.iload 5, 2) := by decide +kernel
theorem dX7_note_140 : decode cX7_note 140 = .ok (.iastore, 1) := by decide +kernel
theorem dX7_note_141 : decode cX7_note 141 = .ok (.aload_n 0, 1) := by decide +kernel
theorem dX7_note_142 : decode cX7_note 142 = .ok (.getfield 41, 3) := by decide +kernel
theorem dX7_note_145 : decode cX7_note 145 = .ok (.aload_n 0, 1) := by decide +kernel
theorem dX7_note_146 : decode cX7_note 146 = .ok (.getfield 136, 3) := by decide +kernel
theorem dX7_note_149 : decode cX7_note 149 = .ok (.iconst 0, 1) := by decide +kernel
theorem dX7_note_150 : decode cX7_note 150 = .ok (.iastore, 1) := by decide +kernel
theorem dX7_note_151 : decode cX7_note 151 = .ok (.aload_n 0, 1) := by decide +kernel
theorem dX7_note_152 : decode cX7_note 152 = .ok (.getfield 44, 3) := by decide +kernel
theorem dX7_note_155 : decode cX7_note 155 = .ok (.aload_n 0, 1) := by decide +kernel
theorem dX7_note_156 : decode cX7_note 156 = .ok (.getfield 136, 3) := by decide +kernel
theorem dX7_note_159 : decode cX7_note 159 = .ok (.iconst 0, 1) := by decide +kernel
theorem dX7_note_160 : decode cX7_note 160 = .ok (.iastore, 1) := by decide +kernel
theorem dX7_note_161 : decode cX7_note 161 = .ok (.aload_n 0, 1) := by decide +kernel
theorem dX7_note_162 : decode cX7_note 162 = .ok (.getfield 47, 3) := by decide +kernel
theorem dX7_note_165 : decode cX7_note 165 = .ok (.aload_n 0, 1) := by decide +kernel
theorem dX7_note_166 : decode cX7_note 166 = .ok (.getfield 136, 3) := by decide +kernel
theorem dX7_note_169 : decode cX7_note 169 = .ok (.iconst 0, 1) := by decide +kernel
theorem dX7_note_170 : decode cX7_note 170 = .ok (.iastore, 1) := by decide +kernel
theorem dX7_note_171 : decode cX7_note 171 = .ok (.aload_n 0, 1) := by decide +kernel
theorem dX7_note_172 : decode cX7_note 172 = .ok (.getfield 50, 3) := by decide +kernel
theorem dX7_note_175 : decode cX7_note 175 = .ok (.aload_n 0, 1) := by decide +kernel
theorem dX7_note_176 : decode cX7_note 176 = .ok (.getfield 136, 3) := by decide +kernel
theorem dX7_note_179 : decode cX7_note 179 = .ok (.iconst (-1), 1) := by decide +kernel
theorem dX7_note_180 : decode cX7_note 180 = .ok (.iastore, 1) := by decide +kernel
theorem dX7_note_181 : decode cX7_note 181 = .ok (.aload_n 0, 1) := by decide +kernel
theorem dX7_note_182 : decode cX7_note 182 = .ok (.getfield 53, 3) := by decide +kernel
theorem dX7_note_185 : decode cX7_note 185 = .ok (.aload_n 0, 1) := by decide +kernel
theorem dX7_note_186 : decode cX7_note 186 = .ok (.getfield 136, 3) := by decide +kernel
theorem dX7_note_189 : decode cX7_note 189 = .ok (.iconst (-1), 1) := by decide +kernel
theorem dX7_note_190 : decode cX7_note 190 = .ok (.iastore, 1) := by decide +kernel
theorem dX7_note_191 : decode cX7_note 191 = .ok (.aload_n 0, 1) := by decide +kernel
theorem dX7_note_192 : decode cX7_note 192 = .ok (.dup, 1) := by decide +kernel
theorem dX7_note_193 : decode cX7_note 193 = .ok (.getfield 136, 3) := by decide +kernel
theorem dX7_note_196 : decode cX7_note 196 = .ok (.iconst 1, 1) := by decide +kernel
theorem dX7_note_197 : decode cX7_note 197 = .ok (.iadd, 1) := by decide +kernel
theorem dX7_note_198 : decode cX7_note 198 = .ok (.putfield 136, 3) := by decide +kernel
theorem dX7_note_201 : decode cX7_note 201 = .ok (.aload_n 0, 1) := by decide +kernel
theorem dX7_note_202 : decode cX7_note 202 = .ok (.invokevirtual 143, 3) := by decide +kernel
theorem dX7_note_205 : decode cX7_note 205 = .ok (.pop, 1) := by decide +kernel
theorem dX7_note_206 : decode cX7_note 206 = .ok (.aload_n 0, 1) := by decide +kernel
theorem dX7_note_207 : decode cX7_note 207 = .ok (.getfield 136, 3) := by decide +kernel
theorem dX7_note_210 : decode cX7_note 210 = .ok (.iconst 1, 1) := by decide +kernel
theorem dX7_note_211 : decode cX7_note 211 = .ok (.isub, 1) := by decide +kernel
theorem dX7_note_212 : decode cX7_note 212 = .ok (.ireturn, 1) := by decide +kernel
theorem dX7_answer_0 : decode cX7_answer 0 = .ok (.aload_n 0, 1) := by decide +kernel
theorem dX7_answer_1 : decode cX7_answer 1 = .ok (.iconst 0, 1) := by decide +kernel
theorem dX7_answer_2 : decode cX7_answer 2 = .ok (.putfield 123, 3) := by decide +kernel
theorem dX7_answer_5 : decode cX7_answer 5 = .ok (.aload_n 0, 1) := by decide +kernel
theorem dX7_answer_6 : decode cX7_answer 6 = .ok (.iconst 0, 1) := by decide +kernel
theorem dX7_answer_7 : decode cX7_answer 7 = .ok (.putfield 126, 3) := by decide +kernel
theorem dX7_answer_10 : decode cX7_answer 10 = .ok (.aload_n 0, 1) := by decide +kernel
theorem dX7_answer_11 : decode cX7_answer 11 = .ok (.iload_n 1, 1) := by decide +kernel
theorem dX7_answer_12 : decode cX7_answer 12 = .ok (.invokevirtual 154, 3) := by decide +kernel
theorem dX7_answer_15 : decode cX7_answer 15 = .ok (.ifCond .ne 9, 3) := by decide +kernel
theorem dX7_answer_18 : decode cX7_answer 18 = .ok (.aload_n 0, 1) := by decide +kernel
theorem dX7_answer_19 : decode cX7_answer 19 = .ok (.iconst 1, 1) := by decide +kernel
theorem dX7_answer_20 : decode cX7_answer 20 = .ok (.invokevirtual 147, 3) := by decide +kernel
theorem dX7_answer_23 : decode cX7_answer 23 = .ok (.ireturn, 1) := by decide +kernel
theorem dX7_answer_24 : decode cX7_answer 24 = .ok (.iload_n 2, 1) := by decide +kernel
theorem dX7_answer_25 : decode cX7_answer 25 = .ok (.iconst 1, 1) := by decide +kernel
theorem dX7_answer_26 : decode cX7_answer 26 = .ok (.if_icmp .lt 9, 3) := by decide +kernel
theorem dX7_answer_29 : decode cX7_answer 29 = .ok (.iload_n 2, 1) := by decide +kernel
theorem dX7_answer_30 : decode cX7_answer 30 = .ok (.bipush 100, 2) := by decide +kernel
theorem dX7_answer_32 : decode cX7_answer 32 = .ok (.if_icmp .le 9, 3) := by decide +kernel
theorem dX7_answer_35 : decode cX7_answer 35 = .ok (.aload_n 0, 1) := by decide +kernel
theorem dX7_answer_36 : decode cX7_answer 36 = .ok (.iconst 2, 1) := by decide +kernel
theorem dX7_answer_37 : decode cX7_answer 37 = .ok (.invokevirtual 147, 3) := by decide +kernel
theorem dX7_answer_40 : decode cX7_answer 40 = .ok (.ireturn, 1) := by decide +kernel
theorem dX7_answer_41 : decode cX7_answer 41 = .ok (.aload_n 0, 1) := by decide +kernel
theorem dX7_answer_42 : decode cX7_answer 42 = .ok (.getfield 41, 3) := by decide +kernel
theorem dX7_answer_45 : decode cX7_answer 45 = .ok (.iload_n 1, 1) := by decide +kernel
theorem dX7_answer_46 : decode cX7_answer 46 = .ok (.iaload, 1) := by decide +kernel
theorem dX7_answer_47 : decode cX7_answer 47 = .ok (.iconst 4, 1) := by decide +kernel
theorem dX7_answer_48 : decode cX7_answer 48 = .ok (.if_icmp .ne 9, 3) := by decide +kernel
theorem dX7_answer_51 : decode cX7_answer 51 = .ok (.aload_n 0, 1) := by decide +kernel
theorem dX7_answer_52 : decode cX7_answer 52 = .ok (.iconst 3, 1) := by decide +kernel
theorem dX7_answer_53 : decode cX7_answer 53 = .ok (.invokevirtual 147, 3) := by decide +kernel
theorem dX7_answer_56 : decode cX7_answer 56 = .ok (.ireturn, 1) := by decide +kernel
theorem dX7_answer_57 : decode cX7_answer 57 = .ok (.aload_n 0, 1) := by decide +kernel
theorem dX7_answer_58 : decode cX7_answer 58 = .ok (.getfield 47, 3) := by decide +kernel
theorem dX7_answer_61 : decode cX7_answer 61 = .ok (.iload_n 1, 1) := by decide +kernel
theorem dX7_answer_62 : decode cX7_answer 62 = .ok (.iaload, 1) := by decide +kernel
theorem dX7_answer_63 : decode cX7_answer 63 = .ok (.ifCond .le 10, 3) := by decide +kernel
theorem dX7_answer_66 : decode cX7_answer 66 = .ok (.aload_n 0, 1) := by decide +kernel
theorem dX7_answer_67 : decode cX7_answer 67 = .ok (.bipush 7, 2) := by decide +kernel
theorem dX7_answer_69 : decode cX7_answer 69 = .ok (.invokevirtual 147, 3) := by decide +kernel
theorem dX7_answer_72 : decode cX7_answer 72 = .ok (.ireturn, 1) := by decide +kernel
theorem dX7_answer_73 : decode cX7_answer 73 = .ok (.aload_n 0, 1) := by decide +kernel
theorem dX7_answer_74 : decode cX7_answer 74 = .ok (.getfield 41, 3) := by decide +kernel
theorem dX7_answer_77 : decode cX7_answer 77 = .ok (.iload_n 1, 1) := by decide +kernel
theorem dX7_answer_78 : decode cX7_answer 78 = .ok (.dup2, 1) := by decide +kernel
theorem dX7_answer_79 : decode cX7_answer 79 = .ok (.iaload, 1) := by decide +kernel
theorem dX7_answer_80 : decode cX7_answer 80 = .ok (.iconst 1, 1) := by decide +kernel
theorem dX7_answer_81 : decode cX7_answer 81 = .ok (.iadd, 1) := by decide +kernel
theorem dX7_answer_82 : decode cX7_answer 82 = .ok (.iastore, 1) := by decide +kernel
theorem dX7_answer_83 : decode cX7_answer 83 = .ok (.aload_n 0, 1) := by decide +kernel
theorem dX7_answer_84 : decode cX7_answer 84 = .ok (.getfield 44, 3) := by decide +kernel
theorem dX7_answer_87 : decode cX7_answer 87 = .ok (.iload_n 1, 1) := by decide +kernel
theorem dX7_answer_88 : decode cX7_answer 88 = .ok (.dup2, 1) := by decide +kernel
theorem dX7_answer_89 : decode cX7_answer 89 = .ok (.iaload, 1) := by decide +kernel
theorem dX7_answer_90 : decode cX7_answer 90 = .ok (.iload_n 2, 1) := by decide +kernel
theorem dX7_answer_91 : decode cX7_answer 91 = .ok (.iadd, 1) := by decide +kernel
theorem dX7_answer_92 : decode cX7_answer 92 = .ok (.iastore, 1) := by decide +kernel
theorem dX7_answer_93 : decode cX7_answer 93 = .ok (.aload_n 0, 1) := by decide +kernel
theorem dX7_answer_94 : decode cX7_answer 94 = .ok (.invokevirtual 143, 3) := by decide +kernel
theorem dX7_answer_97 : decode cX7_answer 97 = .ok (.pop, 1) := by decide +kernel
theorem dX7_answer_98 : decode cX7_answer 98 = .ok (.aload_n 0, 1) := by decide +kernel
theorem dX7_answer_99 : decode cX7_answer 99 = .ok (.getfield 41, 3) := by decide +kernel
theorem dX7_answer_102 : decode cX7_answer 102 = .ok (.iload_n 1, 1) := by decide +kernel
theorem dX7_answer_103 : decode cX7_answer 103 = .ok (.iaload, 1) := by decide +kernel
theorem dX7_answer_104 : decode cX7_answer 104 = .ok (.ireturn, 1) := by decide +kernel
theorem dX7_cut_0 : decode cX7_cut 0 = .ok (.aload_n 0, 1) := by decide +kernel
theorem dX7_cut_1 : decode cX7_cut 1 = .ok (.iconst 0, 1) := by decide +kernel
theorem dX7_cut_2 : decode cX7_cut 2 = .ok (.putfield 123, 3) := by decide +kernel
theorem dX7_cut_5 : decode cX7_cut 5 = .ok (.aload_n 0, 1) := by decide +kernel
theorem dX7_cut_6 : decode cX7_cut 6 = .ok (.iconst 0, 1) := by decide +kernel
theorem dX7_cut_7 : decode cX7_cut 7 = .ok (.putfield 126, 3) := by decide +kernel
theorem dX7_cut_10 : decode cX7_cut 10 = .ok (.aload_n 0, 1) := by decide +kernel
theorem dX7_cut_11 : decode cX7_cut 11 = .ok (.iload_n 1, 1) := by decide +kernel
theorem dX7_cut_12 : decode cX7_cut 12 = .ok (.invokevirtual 154, 3) := by decide +kernel
theorem dX7_cut_15 : decode cX7_cut 15 = .ok (.ifCond .ne 9, 3) := by decide +kernel
theorem dX7_cut_18 : decode cX7_cut 18 = .ok (.aload_n 0, 1) := by decide +kernel
theorem dX7_cut_19 : decode cX7_cut 19 = .ok (.iconst 1, 1) := by decide +kernel
theorem dX7_cut_20 : decode cX7_cut 20 = .ok (.invokevirtual 147, 3) := by decide +kernel
theorem dX7_cut_23 : decode cX7_cut 23 = .ok (.ireturn, 1) := by decide +kernel
theorem dX7_cut_24 : decode cX7_cut 24 = .ok (.iload_n 2, 1) := by decide +kernel
theorem dX7_cut_25 : decode cX7_cut 25 = .ok (.iconst 1, 1) := by decide +kernel
theorem dX7_cut_26 : decode cX7_cut 26 = .ok (.if_icmp .lt 13, 3) := by decide +kernel
theorem dX7_cut_29 : decode cX7_cut 29 = .ok (.iload_n 2, 1) := by decide +kernel
theorem dX7_cut_30 : decode cX7_cut 30 = .ok (.aload_n 0, 1) := by decide +kernel
theorem dX7_cut_31 : decode cX7_cut 31 = .ok (.getfield 29, 3) := by decide +kernel
theorem dX7_cut_34 : decode cX7_cut 34 = .ok (.iload_n 1, 1) := by decide +kernel
theorem dX7_cut_35 : decode cX7_cut 35 = .ok (.iaload, 1) := by decide +kernel
theorem dX7_cut_36 : decode cX7_cut 36 = .ok (.if_icmp .lt 9, 3) := by decide +kernel
theorem dX7_cut_39 : decode cX7_cut 39 = .ok (.aload_n 0, 1) := by decide +kernel
theorem dX7_cut_40 : decode cX7_cut 40 = .ok (.iconst 2, 1) := by decide +kernel
theorem dX7_cut_41 : decode cX7_cut 41 = .ok (.invokevirtual 147, 3) := by decide +kernel
theorem dX7_cut_44 : decode cX7_cut 44 = .ok (.ireturn, 1) := by decide +kernel
theorem dX7_cut_45 : decode cX7_cut 45 = .ok (.aload_n 0, 1) := by decide +kernel
theorem dX7_cut_46 : decode cX7_cut 46 = .ok (.getfield 47, 3) := by decide +kernel
theorem dX7_cut_49 : decode cX7_cut 49 = .ok (.iload_n 1, 1) := by decide +kernel
theorem dX7_cut_50 : decode cX7_cut 50 = .ok (.iaload, 1) := by decide +kernel
theorem dX7_cut_51 : decode cX7_cut 51 = .ok (.iconst 3, 1) := by decide +kernel
theorem dX7_cut_52 : decode cX7_cut 52 = .ok (.if_icmp .ne 9, 3) := by decide +kernel
theorem dX7_cut_55 : decode cX7_cut 55 = .ok (.aload_n 0, 1) := by decide +kernel
theorem dX7_cut_56 : decode cX7_cut 56 = .ok (.iconst 3, 1) := by decide +kernel
theorem dX7_cut_57 : decode cX7_cut 57 = .ok (.invokevirtual 147, 3) := by decide +kernel
theorem dX7_cut_60 : decode cX7_cut 60 = .ok (.ireturn, 1) := by decide +kernel
theorem dX7_cut_61 : decode cX7_cut 61 = .ok (.iconst 0, 1) := by decide +kernel
theorem dX7_cut_62 : decode cX7_cut 62 = .ok (.istore_n 3, 1) := by decide +kernel
theorem dX7_cut_63 : decode cX7_cut 63 = .ok (.iload_n 3, 1) := by decide +kernel
theorem dX7_cut_64 : decode cX7_cut 64 = .ok (.aload_n 0, 1) := by decide +kernel
theorem dX7_cut_65 : decode cX7_cut 65 = .ok (.getfield 47, 3) := by decide +kernel
theorem dX7_cut_68 : decode cX7_cut 68 = .ok (.iload_n 1, 1) := by decide +kernel
theorem dX7_cut_69 : decode cX7_cut 69 = .ok (.iaload, 1) := by decide +kernel
theorem dX7_cut_70 : decode cX7_cut 70 = .ok (.if_icmp .ge 29, 3) := by decide +kernel
theorem dX7_cut_73 : decode cX7_cut 73 = .ok (.aload_n 0, 1) := by decide +kernel
theorem dX7_cut_74 : decode cX7_cut 74 = .ok (.getfield 56, 3) := by decide +kernel
theorem dX7_cut_77 : decode cX7_cut 77 = .ok (.iconst 3, 1) := by decide +kernel
theorem dX7_cut_78 : decode cX7_cut 78 = .ok (.iload_n 1, 1) := by decide +kernel
theorem dX7_cut_79 : decode cX7_cut 79 = .ok (.imul, 1) := by decide +kernel
theorem dX7_cut_80 : decode cX7_cut 80 = .ok (.iload_n 3, 1) := by decide +kernel
theorem dX7_cut_81 : decode cX7_cut 81 = .ok (.iadd, 1) := by decide +kernel
theorem dX7_cut_82 : decode cX7_cut 82 = .ok (.iaload, 1) := by decide +kernel
theorem dX7_cut_83 : decode cX7_cut 83 = .ok (.iload_n 2, 1) := by decide +kernel
theorem dX7_cut_84 : decode cX7_cut 84 = .ok (.if_icmp .ne 9, 3) := by decide +kernel
theorem dX7_cut_87 : decode cX7_cut 87 = .ok (.aload_n 0, 1) := by decide +kernel
theorem dX7_cut_88 : decode cX7_cut 88 = .ok (.iconst 4, 1) := by decide +kernel
theorem dX7_cut_89 : decode cX7_cut 89 = .ok (.invokevirtual 147, 3) := by decide +kernel
theorem dX7_cut_92 : decode cX7_cut 92 = .ok (.ireturn, 1) := by decide +kernel
theorem dX7_cut_93 : decode cX7_cut 93 = .ok (.iinc 3 1, 3) := by decide +kernel
theorem dX7_cut_96 : decode cX7_cut 96 = .ok (.goto (-33), 3) := by decide +kernel
theorem dX7_cut_99 : decode cX7_cut 99 = .ok (.aload_n 0, 1) := by decide +kernel
theorem dX7_cut_100 : decode cX7_cut 100 = .ok (.getfield 41, 3) := by decide +kernel
theorem dX7_cut_103 : decode cX7_cut 103 = .ok (.iload_n 1, 1) := by decide +kernel
theorem dX7_cut_104 : decode cX7_cut 104 = .ok (.iaload, 1) := by decide +kernel
theorem dX7_cut_105 : decode cX7_cut 105 = .ok (.ifCond .le 10, 3) := by decide +kernel
theorem dX7_cut_108 : decode cX7_cut 108 = .ok (.aload_n 0, 1) := by decide +kernel
theorem dX7_cut_109 : decode cX7_cut 109 = .ok (.bipush 7, 2) := by decide +kernel
theorem dX7_cut_111 : decode cX7_cut 111 = .ok (.invokevirtual 147, 3) := by decide +kernel
theorem dX7_cut_114 : decode cX7_cut 114 = .ok (.ireturn, 1) := by decide +kernel
theorem dX7_cut_115 : decode cX7_cut 115 = .ok (.aload_n 0, 1) := by decide +kernel
theorem dX7_cut_116 : decode cX7_cut 116 = .ok (.getfield 47, 3) := by decide +kernel
theorem dX7_cut_119 : decode cX7_cut 119 = .ok (.iload_n 1, 1) := by decide +kernel
theorem dX7_cut_120 : decode cX7_cut 120 = .ok (.iaload, 1) := by decide +kernel
theorem dX7_cut_121 : decode cX7_cut 121 = .ok (.istore_n 3, 1) := by decide +kernel
theorem dX7_cut_122 : decode cX7_cut 122 = .ok (.iload_n 3, 1) := by decide +kernel
theorem dX7_cut_123 : decode cX7_cut 123 = .ok (.ifCond .le 47, 3) := by decide +kernel
theorem dX7_cut_126 : decode cX7_cut 126 = .ok (.aload_n 0, 1) := by decide +kernel
theorem dX7_cut_127 : decode cX7_cut 127 = .ok (.getfield 56, 3) := by decide +kernel
theorem dX7_cut_130 : decode cX7_cut 130 = .ok (.iconst 3, 1) := by decide +kernel
theorem dX7_cut_131 : decode cX7_cut 131 = .ok (.iload_n 1, 1) := by decide +kernel
theorem dX7_cut_132 : decode cX7_cut 132 = .ok (.imul, 1) := by decide +kernel
theorem dX7_cut_133 : decode cX7_cut 133 = .ok (.iload_n 3, 1) := by decide +kernel
theorem dX7_cut_134 : decode cX7_cut 134 = .ok (.iadd, 1) := by decide +kernel
theorem dX7_cut_135 : decode cX7_cut 135 = .ok (.iconst 1, 1) := by decide +kernel
theorem dX7_cut_136 : decode cX7_cut 136 = .ok (.isub, 1) := by decide +kernel
theorem dX7_cut_137 : decode cX7_cut 137 = .ok (.iaload, 1) := by decide +kernel
theorem dX7_cut_138 : decode cX7_cut 138 = .ok (.iload_n 2, 1) := by decide +kernel
theorem dX7_cut_139 : decode cX7_cut 139 = .ok (.if_icmp .ge 31, 3) := by decide +kernel
theorem dX7_cut_142 : decode cX7_cut 142 = .ok (.aload_n 0, 1) := by decide +kernel
theorem dX7_cut_143 : decode cX7_cut 143 = .ok (.getfield 56, 3) := by decide +kernel
theorem dX7_cut_146 : decode cX7_cut 146 = .ok (.iconst 3, 1) := by decide +kernel
theorem dX7_cut_147 : decode cX7_cut 147 = .ok (.iload_n 1, 1) := by decide +kernel
theorem dX7_cut_148 : decode cX7_cut 148 = .ok (.imul, 1) := by decide +kernel
theorem dX7_cut_149 : decode cX7_cut 149 = .ok (.iload_n 3, 1) := by decide +kernel
theorem dX7_cut_150 : decode cX7_cut 150 = .ok (.iadd, 1) := by decide +kernel
theorem dX7_cut_151 : decode cX7_cut 151 = .ok (.aload_n 0, 1) := by decide +kernel
theorem dX7_cut_152 : decode cX7_cut 152 = .ok (.getfield 56, 3) := by decide +kernel
theorem dX7_cut_155 : decode cX7_cut 155 = .ok (.iconst 3, 1) := by decide +kernel
theorem dX7_cut_156 : decode cX7_cut 156 = .ok (.iload_n 1, 1) := by decide +kernel
theorem dX7_cut_157 : decode cX7_cut 157 = .ok (.imul, 1) := by decide +kernel
theorem dX7_cut_158 : decode cX7_cut 158 = .ok (.iload_n 3, 1) := by decide +kernel
theorem dX7_cut_159 : decode cX7_cut 159 = .ok (.iadd, 1) := by decide +kernel
theorem dX7_cut_160 : decode cX7_cut 160 = .ok (.iconst 1, 1) := by decide +kernel
theorem dX7_cut_161 : decode cX7_cut 161 = .ok (.isub, 1) := by decide +kernel
theorem dX7_cut_162 : decode cX7_cut 162 = .ok (.iaload, 1) := by decide +kernel
theorem dX7_cut_163 : decode cX7_cut 163 = .ok (.iastore, 1) := by decide +kernel
theorem dX7_cut_164 : decode cX7_cut 164 = .ok (.iinc 3 (-1), 3) := by decide +kernel
theorem dX7_cut_167 : decode cX7_cut 167 = .ok (.goto (-45), 3) := by decide +kernel
theorem dX7_cut_170 : decode cX7_cut 170 = .ok (.aload_n 0, 1) := by decide +kernel
theorem dX7_cut_171 : decode cX7_cut 171 = .ok (.getfield 56, 3) := by decide +kernel
theorem dX7_cut_174 : decode cX7_cut 174 = .ok (.iconst 3, 1) := by decide +kernel
theorem dX7_cut_175 : decode cX7_cut 175 = .ok (.iload_n 1, 1) := by decide +kernel
theorem dX7_cut_176 : decode cX7_cut 176 = .ok (.imul, 1) := by decide +kernel
theorem dX7_cut_177 : decode cX7_cut 177 = .ok (.iload_n 3, 1) := by decide +kernel
theorem dX7_cut_178 : decode cX7_cut 178 = .ok (.iadd, 1) := by decide +kernel
theorem dX7_cut_179 : decode cX7_cut 179 = .ok (.iload_n 2, 1) := by decide +kernel
theorem dX7_cut_180 : decode cX7_cut 180 = .ok (.iastore, 1) := by decide +kernel
theorem dX7_cut_181 : decode cX7_cut 181 = .ok (.aload_n 0, 1) := by decide +kernel
theorem dX7_cut_182 : decode cX7_cut 182 = .ok (.getfield 47, 3) := by decide +kernel
theorem dX7_cut_185 : decode cX7_cut 185 = .ok (.iload_n 1, 1) := by decide +kernel
theorem dX7_cut_186 : decode cX7_cut 186 = .ok (.dup2, 1) := by decide +kernel
theorem dX7_cut_187 : decode cX7_cut 187 = .ok (.iaload, 1) := by decide +kernel
theorem dX7_cut_188 : decode cX7_cut 188 = .ok (.iconst 1, 1) := by decide +kernel
theorem dX7_cut_189 : decode cX7_cut 189 = .ok (.iadd, 1) := by decide +kernel
theorem dX7_cut_190 : decode cX7_cut 190 = .ok (.iastore, 1) := by decide +kernel
theorem dX7_cut_191 : decode cX7_cut 191 = .ok (.aload_n 0, 1) := by decide +kernel
theorem dX7_cut_192 : decode cX7_cut 192 = .ok (.invokevirtual 143, 3) := by decide +kernel
theorem dX7_cut_195 : decode cX7_cut 195 = .ok (.pop, 1) := by decide +kernel
theorem dX7_cut_196 : decode cX7_cut 196 = .ok (.aload_n 0, 1) := by decide +kernel
theorem dX7_cut_197 : decode cX7_cut 197 = .ok (.getfield 47, 3) := by decide +kernel
theorem dX7_cut_200 : decode cX7_cut 200 = .ok (.iload_n 1, 1) := by decide +kernel
theorem dX7_cut_201 : decode cX7_cut 201 = .ok (.iaload, 1) := by decide +kernel
theorem dX7_cut_202 : decode cX7_cut 202 = .ok (.ireturn, 1) := by decide +kernel
theorem dX7_cutting_0 : decode cX7_cutting 0 = .ok (.aload_n 0, 1) := by decide +kernel
theorem dX7_cutting_1 : decode cX7_cutting 1 = .ok (.iconst 0, 1) := by decide +kernel
theorem dX7_cutting_2 : decode cX7_cutting 2 = .ok (.putfield 123, 3) := by decide +kernel
theorem dX7_cutting_5 : decode cX7_cutting 5 = .ok (.aload_n 0, 1) := by decide +kernel
theorem dX7_cutting_6 : decode cX7_cutting 6 = .ok (.iconst 0, 1) := by decide +kernel
theorem dX7_cutting_7 : decode cX7_cutting 7 = .ok (.putfield 126, 3) := by decide +kernel
theorem dX7_cutting_10 : decode cX7_cutting 10 = .ok (.iload_n 1, 1) := by decide +kernel
theorem dX7_cutting_11 : decode cX7_cutting 11 = .ok (.ifCond .lt 10, 3) := by decide +kernel
theorem dX7_cutting_14 : decode cX7_cutting 14 = .ok (.iload_n 1, 1) := by decide +kernel
theorem dX7_cutting_15 : decode cX7_cutting 15 = .ok (.sipush 1000, 3) := by decide +kernel
theorem dX7_cutting_18 : decode cX7_cutting 18 = .ok (.if_icmp .le 9, 3) := by decide +kernel
theorem dX7_cutting_21 : decode cX7_cutting 21 = .ok (.aload_n 0, 1) := by decide +kernel
theorem dX7_cutting_22 : decode cX7_cutting 22 = .ok (.iconst 2, 1) := by decide +kernel
theorem dX7_cutting_23 : decode cX7_cutting 23 = .ok (.invokevirtual 139, 3) := by decide +kernel
theorem dX7_cutting_26 : decode cX7_cutting 26 = .ok (.ireturn, 1) := by decide +kernel
theorem dX7_cutting_27 : decode cX7_cutting 27 = .ok (.aload_n 0, 1) := by decide +kernel
theorem dX7_cutting_28 : decode cX7_cutting 28 = .ok (.iload_n 1, 1) := by decide +kernel
theorem dX7_cutting_29 : decode cX7_cutting 29 = .ok (.putfield 16, 3) := by decide +kernel
theorem dX7_cutting_32 : decode cX7_cutting 32 = .ok (.aload_n 0, 1) := by decide +kernel
theorem dX7_cutting_33 : decode cX7_cutting 33 = .ok (.invokevirtual 143, 3) := by decide +kernel
theorem dX7_cutting_36 : decode cX7_cutting 36 = .ok (.ireturn, 1) := by decide +kernel
theorem dX7_bind_0 : decode cX7_bind 0 = .ok (.aload_n 0, 1) := by decide +kernel
theorem dX7_bind_1 : decode cX7_bind 1 = .ok (.iconst 0, 1) := by decide +kernel
theorem dX7_bind_2 : decode cX7_bind 2 = .ok (.putfield 123, 3) := by decide +kernel
theorem dX7_bind_5 : decode cX7_bind 5 = .ok (.aload_n 0, 1) := by decide +kernel
theorem dX7_bind_6 : decode cX7_bind 6 = .ok (.iconst 0, 1) := by decide +kernel
theorem dX7_bind_7 : decode cX7_bind 7 = .ok (.putfield 126, 3) := by decide +kernel
theorem dX7_bind_10 : decode cX7_bind 10 = .ok (.aload_n 0, 1) := by decide +kernel
theorem dX7_bind_11 : decode cX7_bind 11 = .ok (.iload_n 1, 1) := by decide +kernel
theorem dX7_bind_12 : decode cX7_bind 12 = .ok (.invokevirtual 154, 3) := by decide +kernel
theorem dX7_bind_15 : decode cX7_bind 15 = .ok (.ifCond .eq 16, 3) := by decide +kernel
theorem dX7_bind_18 : decode cX7_bind 18 = .ok (.iload_n 2, 1) := by decide +kernel
theorem dX7_bind_19 : decode cX7_bind 19 = .ok (.iconst (-1), 1) := by decide +kernel
theorem dX7_bind_20 : decode cX7_bind 20 = .ok (.if_icmp .eq 17, 3) := by decide +kernel
theorem dX7_bind_23 : decode cX7_bind 23 = .ok (.aload_n 0, 1) := by decide +kernel
theorem dX7_bind_24 : decode cX7_bind 24 = .ok (.iload_n 2, 1) := by decide +kernel
theorem dX7_bind_25 : decode cX7_bind 25 = .ok (.invokevirtual 151, 3) := by decide +kernel
theorem dX7_bind_28 : decode cX7_bind 28 = .ok (.ifCond .ne 9, 3) := by decide +kernel
theorem dX7_bind_31 : decode cX7_bind 31 = .ok (.aload_n 0, 1) := by decide +kernel
theorem dX7_bind_32 : decode cX7_bind 32 = .ok (.iconst 1, 1) := by decide +kernel
theorem dX7_bind_33 : decode cX7_bind 33 = .ok (.invokevirtual 139, 3) := by decide +kernel
theorem dX7_bind_36 : decode cX7_bind 36 = .ok (.ireturn, 1) := by decide +kernel
theorem dX7_bind_37 : decode cX7_bind 37 = .ok (.iload_n 2, 1) := by decide +kernel
theorem dX7_bind_38 : decode cX7_bind 38 = .ok (.iconst (-1), 1) := by decide +kernel
theorem dX7_bind_39 : decode cX7_bind 39 = .ok (.if_icmp .eq 19, 3) := by decide +kernel
theorem dX7_bind_42 : decode cX7_bind 42 = .ok (.iload_n 2, 1) := by decide +kernel
theorem dX7_bind_43 : decode cX7_bind 43 = .ok (.aload_n 0, 1) := by decide +kernel
theorem dX7_bind_44 : decode cX7_bind 44 = .ok (.getfield 26, 3) := by decide +kernel
theorem dX7_bind_47 : decode cX7_bind 47 = .ok (.iload_n 1, 1) := by decide +kernel
theorem dX7_bind_48 : decode cX7_bind 48 = .ok (.iaload, 1) := by decide +kernel
theorem dX7_bind_49 : decode cX7_bind 49 = .ok (.if_icmp .ge 9, 3) := by decide +kernel
theorem dX7_bind_52 : decode cX7_bind 52 = .ok (.aload_n 0, 1) := by decide +kernel
theorem dX7_bind_53 : decode cX7_bind 53 = .ok (.iconst 2, 1) := by decide +kernel
theorem dX7_bind_54 : decode cX7_bind 54 = .ok (.invokevirtual 139, 3) := by decide +kernel
theorem dX7_bind_57 : decode cX7_bind 57 = .ok (.ireturn, 1) := by decide +kernel
theorem dX7_bind_58 : decode cX7_bind 58 = .ok (.aload_n 0, 1) := by decide +kernel
theorem dX7_bind_59 : decode cX7_bind 59 = .ok (.getfield 53, 3) := by decide +kernel
theorem dX7_bind_62 : decode cX7_bind 62 = .ok (.iload_n 1, 1) := by decide +kernel
theorem dX7_bind_63 : decode cX7_bind 63 = .ok (.iload_n 2, 1) := by decide +kernel
theorem dX7_bind_64 : decode cX7_bind 64 = .ok (.iastore, 1) := by decide +kernel
theorem dX7_bind_65 : decode cX7_bind 65 = .ok (.aload_n 0, 1) := by decide +kernel
theorem dX7_bind_66 : decode cX7_bind 66 = .ok (.invokevirtual 143, 3) := by decide +kernel
theorem dX7_bind_69 : decode cX7_bind 69 = .ok (.ireturn, 1) := by decide +kernel
theorem dX7_fix_0 : decode cX7_fix 0 = .ok (.aload_n 0, 1) := by decide +kernel
theorem dX7_fix_1 : decode cX7_fix 1 = .ok (.iconst 0, 1) := by decide +kernel
theorem dX7_fix_2 : decode cX7_fix 2 = .ok (.putfield 123, 3) := by decide +kernel
theorem dX7_fix_5 : decode cX7_fix 5 = .ok (.aload_n 0, 1) := by decide +kernel
theorem dX7_fix_6 : decode cX7_fix 6 = .ok (.iconst 0, 1) := by decide +kernel
theorem dX7_fix_7 : decode cX7_fix 7 = .ok (.putfield 126, 3) := by decide +kernel
theorem dX7_fix_10 : decode cX7_fix 10 = .ok (.aload_n 0, 1) := by decide +kernel
theorem dX7_fix_11 : decode cX7_fix 11 = .ok (.iload_n 1, 1) := by decide +kernel
theorem dX7_fix_12 : decode cX7_fix 12 = .ok (.invokevirtual 154, 3) := by decide +kernel
theorem dX7_fix_15 : decode cX7_fix 15 = .ok (.ifCond .ne 9, 3) := by decide +kernel
theorem dX7_fix_18 : decode cX7_fix 18 = .ok (.aload_n 0, 1) := by decide +kernel
theorem dX7_fix_19 : decode cX7_fix 19 = .ok (.iconst 1, 1) := by decide +kernel
theorem dX7_fix_20 : decode cX7_fix 20 = .ok (.invokevirtual 139, 3) := by decide +kernel
theorem dX7_fix_23 : decode cX7_fix 23 = .ok (.ireturn, 1) := by decide +kernel
theorem dX7_fix_24 : decode cX7_fix 24 = .ok (.iload_n 2, 1) := by decide +kernel
theorem dX7_fix_25 : decode cX7_fix 25 = .ok (.ifCond .lt 10, 3) := by decide +kernel
theorem dX7_fix_28 : decode cX7_fix 28 = .ok (.iload_n 2, 1) := by decide +kernel
theorem dX7_fix_29 : decode cX7_fix 29 = .ok (.sipush 400, 3) := by decide +kernel
theorem dX7_fix_32 : decode cX7_fix 32 = .ok (.if_icmp .le 9, 3) := by decide +kernel
theorem dX7_fix_35 : decode cX7_fix 35 = .ok (.aload_n 0, 1) := by decide +kernel
theorem dX7_fix_36 : decode cX7_fix 36 = .ok (.iconst 2, 1) := by decide +kernel
theorem dX7_fix_37 : decode cX7_fix 37 = .ok (.invokevirtual 139, 3) := by decide +kernel
theorem dX7_fix_40 : decode cX7_fix 40 = .ok (.ireturn, 1) := by decide +kernel
theorem dX7_fix_41 : decode cX7_fix 41 = .ok (.aload_n 0, 1) := by decide +kernel
theorem dX7_fix_42 : decode cX7_fix 42 = .ok (.getfield 50, 3) := by decide +kernel
theorem dX7_fix_45 : decode cX7_fix 45 = .ok (.iload_n 1, 1) := by decide +kernel
theorem dX7_fix_46 : decode cX7_fix 46 = .ok (.iload_n 2, 1) := by decide +kernel
theorem dX7_fix_47 : decode cX7_fix 47 = .ok (.iastore, 1) := by decide +kernel
theorem dX7_fix_48 : decode cX7_fix 48 = .ok (.aload_n 0, 1) := by decide +kernel
theorem dX7_fix_49 : decode cX7_fix 49 = .ok (.invokevirtual 143, 3) := by decide +kernel
theorem dX7_fix_52 : decode cX7_fix 52 = .ok (.ireturn, 1) := by decide +kernel
theorem dX7_loose_0 : decode cX7_loose 0 = .ok (.aload_n 0, 1) := by decide +kernel
theorem dX7_loose_1 : decode cX7_loose 1 = .ok (.iconst 0, 1) := by decide +kernel
theorem dX7_loose_2 : decode cX7_loose 2 = .ok (.putfield 123, 3) := by decide +kernel
theorem dX7_loose_5 : decode cX7_loose 5 = .ok (.aload_n 0, 1) := by decide +kernel
theorem dX7_loose_6 : decode cX7_loose 6 = .ok (.iconst 0, 1) := by decide +kernel
theorem dX7_loose_7 : decode cX7_loose 7 = .ok (.putfield 126, 3) := by decide +kernel
theorem dX7_loose_10 : decode cX7_loose 10 = .ok (.aload_n 0, 1) := by decide +kernel
theorem dX7_loose_11 : decode cX7_loose 11 = .ok (.iload_n 1, 1) := by decide +kernel
theorem dX7_loose_12 : decode cX7_loose 12 = .ok (.invokevirtual 154, 3) := by decide +kernel
theorem dX7_loose_15 : decode cX7_loose 15 = .ok (.ifCond .ne 9, 3) := by decide +kernel
theorem dX7_loose_18 : decode cX7_loose 18 = .ok (.aload_n 0, 1) := by decide +kernel
theorem dX7_loose_19 : decode cX7_loose 19 = .ok (.iconst 1, 1) := by decide +kernel
theorem dX7_loose_20 : decode cX7_loose 20 = .ok (.invokevirtual 139, 3) := by decide +kernel
theorem dX7_loose_23 : decode cX7_loose 23 = .ok (.ireturn, 1) := by decide +kernel
theorem dX7_loose_24 : decode cX7_loose 24 = .ok (.aload_n 0, 1) := by decide +kernel
theorem dX7_loose_25 : decode cX7_loose 25 = .ok (.getfield 50, 3) := by decide +kernel
theorem dX7_loose_28 : decode cX7_loose 28 = .ok (.iload_n 1, 1) := by decide +kernel
theorem dX7_loose_29 : decode cX7_loose 29 = .ok (.iaload, 1) := by decide +kernel
theorem dX7_loose_30 : decode cX7_loose 30 = .ok (.ifCond .ge 9, 3) := by decide +kernel
theorem dX7_loose_33 : decode cX7_loose 33 = .ok (.aload_n 0, 1) := by decide +kernel
theorem dX7_loose_34 : decode cX7_loose 34 = .ok (.iconst 4, 1) := by decide +kernel
theorem dX7_loose_35 : decode cX7_loose 35 = .ok (.invokevirtual 139, 3) := by decide +kernel
theorem dX7_loose_38 : decode cX7_loose 38 = .ok (.ireturn, 1) := by decide +kernel
theorem dX7_loose_39 : decode cX7_loose 39 = .ok (.aload_n 0, 1) := by decide +kernel
theorem dX7_loose_40 : decode cX7_loose 40 = .ok (.getfield 50, 3) := by decide +kernel
theorem dX7_loose_43 : decode cX7_loose 43 = .ok (.iload_n 1, 1) := by decide +kernel
theorem dX7_loose_44 : decode cX7_loose 44 = .ok (.iconst (-1), 1) := by decide +kernel
theorem dX7_loose_45 : decode cX7_loose 45 = .ok (.iastore, 1) := by decide +kernel
theorem dX7_loose_46 : decode cX7_loose 46 = .ok (.aload_n 0, 1) := by decide +kernel
theorem dX7_loose_47 : decode cX7_loose 47 = .ok (.invokevirtual 143, 3) := by decide +kernel
theorem dX7_loose_50 : decode cX7_loose 50 = .ok (.ireturn, 1) := by decide +kernel
theorem dX7_move_0 : decode cX7_move 0 = .ok (.aload_n 0, 1) := by decide +kernel
theorem dX7_move_1 : decode cX7_move 1 = .ok (.iconst 0, 1) := by decide +kernel
theorem dX7_move_2 : decode cX7_move 2 = .ok (.putfield 123, 3) := by decide +kernel
theorem dX7_move_5 : decode cX7_move 5 = .ok (.aload_n 0, 1) := by decide +kernel
theorem dX7_move_6 : decode cX7_move 6 = .ok (.iconst 0, 1) := by decide +kernel
theorem dX7_move_7 : decode cX7_move 7 = .ok (.putfield 126, 3) := by decide +kernel
theorem dX7_move_10 : decode cX7_move 10 = .ok (.aload_n 0, 1) := by decide +kernel
theorem dX7_move_11 : decode cX7_move 11 = .ok (.iload_n 1, 1) := by decide +kernel
theorem dX7_move_12 : decode cX7_move 12 = .ok (.invokevirtual 154, 3) := by decide +kernel
theorem dX7_move_15 : decode cX7_move 15 = .ok (.ifCond .eq 11, 3) := by decide +kernel
theorem dX7_move_18 : decode cX7_move 18 = .ok (.aload_n 0, 1) := by decide +kernel
theorem dX7_move_19 : decode cX7_move 19 = .ok (.iload_n 2, 1) := by decide +kernel
theorem dX7_move_20 : decode cX7_move 20 = .ok (.invokevirtual 151, 3) := by decide +kernel
theorem dX7_move_23 : decode cX7_move 23 = .ok (.ifCond .ne 9, 3) := by decide +kernel
theorem dX7_move_26 : decode cX7_move 26 = .ok (.aload_n 0, 1) := by decide +kernel
theorem dX7_move_27 : decode cX7_move 27 = .ok (.iconst 1, 1) := by decide +kernel
theorem dX7_move_28 : decode cX7_move 28 = .ok (.invokevirtual 139, 3) := by decide +kernel
theorem dX7_move_31 : decode cX7_move 31 = .ok (.ireturn, 1) := by decide +kernel
theorem dX7_move_32 : decode cX7_move 32 = .ok (.aload_n 0, 1) := by decide +kernel
theorem dX7_move_33 : decode cX7_move 33 = .ok (.getfield 26, 3) := by decide +kernel
theorem dX7_move_36 : decode cX7_move 36 = .ok (.iload_n 1, 1) := by decide +kernel
theorem dX7_move_37 : decode cX7_move 37 = .ok (.iaload, 1) := by decide +kernel
theorem dX7_move_38 : decode cX7_move 38 = .ok (.iload_n 2, 1) := by decide +kernel
theorem dX7_move_39 : decode cX7_move 39 = .ok (.if_icmp .ne 9, 3) := by decide +kernel
theorem dX7_move_42 : decode cX7_move 42 = .ok (.aload_n 0, 1) := by decide +kernel
theorem dX7_move_43 : decode cX7_move 43 = .ok (.iconst 4, 1) := by decide +kernel
theorem dX7_move_44 : decode cX7_move 44 = .ok (.invokevirtual 139, 3) := by decide +kernel
theorem dX7_move_47 : decode cX7_move 47 = .ok (.ireturn, 1) := by decide +kernel
theorem dX7_move_48 : decode cX7_move 48 = .ok (.aload_n 0, 1) := by decide +kernel
theorem dX7_move_49 : decode cX7_move 49 = .ok (.getfield 26, 3) := by decide +kernel
theorem dX7_move_52 : decode cX7_move 52 = .ok (.iload_n 1, 1) := by decide +kernel
theorem dX7_move_53 : decode cX7_move 53 = .ok (.iload_n 2, 1) := by decide +kernel
theorem dX7_move_54 : decode cX7_move 54 = .ok (.iastore, 1) := by decide +kernel
theorem dX7_move_55 : decode cX7_move 55 = .ok (.aload_n 0, 1) := by decide +kernel
theorem dX7_move_56 : decode cX7_move 56 = .ok (.getfield 53, 3) := by decide +kernel
theorem dX7_move_59 : decode cX7_move 59 = .ok (.iload_n 1, 1) := by decide +kernel
theorem dX7_move_60 : decode cX7_move 60 = .ok (.iaload, 1) := by decide +kernel
theorem dX7_move_61 : decode cX7_move 61 = .ok (.ifCond .lt 20, 3) := by decide +kernel
theorem dX7_move_64 : decode cX7_move 64 = .ok (.aload_n 0, 1) := by decide +kernel
theorem dX7_move_65 : decode cX7_move 65 = .ok (.getfield 53, 3) := by decide +kernel
theorem dX7_move_68 : decode cX7_move 68 = .ok (.iload_n 1, 1) := by decide +kernel
theorem dX7_move_69 : decode cX7_move 69 = .ok (.iaload, 1) := by decide +kernel
theorem dX7_move_70 : decode cX7_move 70 = .ok (.iload_n 2, 1) := by decide +kernel
theorem dX7_move_71 : decode cX7_move 71 = .ok (.if_icmp .ge 10, 3) := by decide +kernel
theorem dX7_move_74 : decode cX7_move 74 = .ok (.aload_n 0, 1) := by decide +kernel
theorem dX7_move_75 : decode cX7_move 75 = .ok (.getfield 53, 3) := by decide +kernel
theorem dX7_move_78 : decode cX7_move 78 = .ok (.iload_n 1, 1) := by decide +kernel
theorem dX7_move_79 : decode cX7_move 79 = .ok (.iconst (-1), 1) := by decide +kernel
theorem dX7_move_80 : decode cX7_move 80 = .ok (.iastore, 1) := by decide +kernel
theorem dX7_move_81 : decode cX7_move 81 = .ok (.aload_n 0, 1) := by decide +kernel
theorem dX7_move_82 : decode cX7_move 82 = .ok (.invokevirtual 143, 3) := by decide +kernel
theorem dX7_move_85 : decode cX7_move 85 = .ok (.ireturn, 1) := by decide +kernel
theorem dX7_show_0 : decode cX7_show 0 = .ok (.aload_n 0, 1) := by decide +kernel
theorem dX7_show_1 : decode cX7_show 1 = .ok (.iconst 0, 1) := by decide +kernel
theorem dX7_show_2 : decode cX7_show 2 = .ok (.putfield 123, 3) := by decide +kernel
theorem dX7_show_5 : decode cX7_show 5 = .ok (.aload_n 0, 1) := by decide +kernel
theorem dX7_show_6 : decode cX7_show 6 = .ok (.iconst 0, 1) := by decide +kernel
theorem dX7_show_7 : decode cX7_show 7 = .ok (.putfield 126, 3) := by decide +kernel
theorem dX7_show_10 : decode cX7_show 10 = .ok (.iload_n 1, 1) := by decide +kernel
theorem dX7_show_11 : decode cX7_show 11 = .ok (.ifCond .lt 9, 3) := by decide +kernel
theorem dX7_show_14 : decode cX7_show 14 = .ok (.iload_n 1, 1) := by decide +kernel
theorem dX7_show_15 : decode cX7_show 15 = .ok (.bipush 15, 2) := by decide +kernel
theorem dX7_show_17 : decode cX7_show 17 = .ok (.if_icmp .le 9, 3) := by decide +kernel
theorem dX7_show_20 : decode cX7_show 20 = .ok (.aload_n 0, 1) := by decide +kernel
theorem dX7_show_21 : decode cX7_show 21 = .ok (.iconst 2, 1) := by decide +kernel
theorem dX7_show_22 : decode cX7_show 22 = .ok (.invokevirtual 139, 3) := by decide +kernel
theorem dX7_show_25 : decode cX7_show 25 = .ok (.ireturn, 1) := by decide +kernel
theorem dX7_show_26 : decode cX7_show 26 = .ok (.aload_n 0, 1) := by decide +kernel
theorem dX7_show_27 : decode cX7_show 27 = .ok (.iload_n 1, 1) := by decide +kernel
theorem dX7_show_28 : decode cX7_show 28 = .ok (.putfield 19, 3) := by decide +kernel
theorem dX7_show_31 : decode cX7_show 31 = .ok (.aload_n 0, 1) := by decide +kernel
theorem dX7_show_32 : decode cX7_show 32 = .ok (.invokevirtual 143, 3) := by decide +kernel
theorem dX7_show_35 : decode cX7_show 35 = .ok (.ireturn, 1) := by decide +kernel
theorem dX7_keep_0 : decode cX7_keep 0 = .ok (.aload_n 0, 1) := by decide +kernel
theorem dX7_keep_1 : decode cX7_keep 1 = .ok (.iconst 0, 1) := by decide +kernel
theorem dX7_keep_2 : decode cX7_keep 2 = .ok (.putfield 123, 3) := by decide +kernel
theorem dX7_keep_5 : decode cX7_keep 5 = .ok (.aload_n 0, 1) := by decide +kernel
theorem dX7_keep_6 : decode cX7_keep 6 = .ok (.iconst 0, 1) := by decide +kernel
theorem dX7_keep_7 : decode cX7_keep 7 = .ok (.putfield 126, 3) := by decide +kernel
theorem dX7_keep_10 : decode cX7_keep 10 = .ok (.aload_n 0, 1) := by decide +kernel
theorem dX7_keep_11 : decode cX7_keep 11 = .ok (.iload_n 1, 1) := by decide +kernel
theorem dX7_keep_12 : decode cX7_keep 12 = .ok (.putfield 157, 3) := by decide +kernel
theorem dX7_keep_15 : decode cX7_keep 15 = .ok (.aload_n 0, 1) := by decide +kernel
theorem dX7_keep_16 : decode cX7_keep 16 = .ok (.invokevirtual 143, 3) := by decide +kernel
theorem dX7_keep_19 : decode cX7_keep 19 = .ok (.ireturn, 1) := by decide +kernel
theorem dX7_isShown_0 : decode cX7_isShown 0 = .ok (.aload_n 0, 1) := by decide +kernel
theorem dX7_isShown_1 : decode cX7_isShown 1 = .ok (.getfield 19, 3) := by decide +kernel
theorem dX7_isShown_4 : decode cX7_isShown 4 = .ok (.aload_n 0, 1) := by decide +kernel
theorem dX7_isShown_5 : decode cX7_isShown 5 = .ok (.getfield 38, 3) := by decide +kernel
theorem dX7_isShown_8 : decode cX7_isShown 8 = .ok (.iload_n 1, 1) := by decide +kernel
theorem dX7_isShown_9 : decode cX7_isShown 9 = .ok (.iaload, 1) := by decide +kernel
theorem dX7_isShown_10 : decode cX7_isShown 10 = .ok (.ishr, 1) := by decide +kernel
theorem dX7_isShown_11 : decode cX7_isShown 11 = .ok (.iconst 1, 1) := by decide +kernel
theorem dX7_isShown_12 : decode cX7_isShown 12 = .ok (.iand, 1) := by decide +kernel
theorem dX7_isShown_13 : decode cX7_isShown 13 = .ok (.iconst 1, 1) := by decide +kernel
theorem dX7_isShown_14 : decode cX7_isShown 14 = .ok (.if_icmp .ne 7, 3) := by decide +kernel
theorem dX7_isShown_17 : decode cX7_isShown 17 = .ok (.iconst 1, 1) := by decide +kernel
theorem dX7_isShown_18 : decode cX7_isShown 18 = .ok (.goto 4, 3) := by decide +kernel
theorem dX7_isShown_21 : decode cX7_isShown 21 = .ok (.iconst 0, 1) := by decide +kernel
theorem dX7_isShown_22 : decode cX7_isShown 22 = .ok (.ireturn, 1) := by decide +kernel
theorem dX7_tallOf_0 : decode cX7_tallOf 0 = .ok (.aload_n 0, 1) := by decide +kernel
theorem dX7_tallOf_1 : decode cX7_tallOf 1 = .ok (.getfield 29, 3) := by decide +kernel
theorem dX7_tallOf_4 : decode cX7_tallOf 4 = .ok (.iload_n 1, 1) := by decide +kernel
theorem dX7_tallOf_5 : decode cX7_tallOf 5 = .ok (.iaload, 1) := by decide +kernel
theorem dX7_tallOf_6 : decode cX7_tallOf 6 = .ok (.aload_n 0, 1) := by decide +kernel
theorem dX7_tallOf_7 : decode cX7_tallOf 7 = .ok (.getfield 44, 3) := by decide +kernel
theorem dX7_tallOf_10 : decode cX7_tallOf 10 = .ok (.iload_n 1, 1) := by decide +kernel
theorem dX7_tallOf_11 : decode cX7_tallOf 11 = .ok (.iaload, 1) := by decide +kernel
theorem dX7_tallOf_12 : decode cX7_tallOf 12 = .ok (.iadd, 1) := by decide +kernel
theorem dX7_tallOf_13 : decode cX7_tallOf 13 = .ok (.ireturn, 1) := by decide +kernel
theorem dX7_told_0 : decode cX7_told 0 = .ok (.aload_n 0, 1) := by decide +kernel
theorem dX7_told_1 : decode cX7_told 1 = .ok (.iconst 0, 1) := by decide +kernel
theorem dX7_told_2 : decode cX7_told 2 = .ok (.putfield 123, 3) := by decide +kernel
theorem dX7_told_5 : decode cX7_told 5 = .ok (.aload_n 0, 1) := by decide +kernel
theorem dX7_told_6 : decode cX7_told 6 = .ok (.iconst 0, 1) := by decide +kernel
theorem dX7_told_7 : decode cX7_told 7 = .ok (.putfield 126, 3) := by decide +kernel
theorem dX7_told_10 : decode cX7_told 10 = .ok (.aload_n 0, 1) := by decide +kernel
theorem dX7_told_11 : decode cX7_told 11 = .ok (.iload_n 1, 1) := by decide +kernel
theorem dX7_told_12 : decode cX7_told 12 = .ok (.invokevirtual 154, 3) := by decide +kernel
theorem dX7_told_15 : decode cX7_told 15 = .ok (.ifCond .ne 9, 3) := by decide +kernel
theorem dX7_told_18 : decode cX7_told 18 = .ok (.aload_n 0, 1) := by decide +kernel
theorem dX7_told_19 : decode cX7_told 19 = .ok (.iconst 1, 1) := by decide +kernel
theorem dX7_told_20 : decode cX7_told 20 = .ok (.invokevirtual 147, 3) := by decide +kernel
theorem dX7_told_23 : decode cX7_told 23 = .ok (.ireturn, 1) := by decide +kernel
theorem dX7_told_24 : decode cX7_told 24 = .ok (.iload_n 2, 1) := by decide +kernel
theorem dX7_told_25 : decode cX7_told 25 = .ok (.tableswitch 131 0 9 #[55, 62, 69, 76, 83, 90, 96, 103, 117, 124], 55) := by decide +kernel
theorem dX7_told_80 : decode cX7_told 80 = .ok (.aload_n 0, 1) := by decide +kernel
theorem dX7_told_81 : decode cX7_told 81 = .ok (.getfield 26, 3) := by decide +kernel
theorem dX7_told_84 : decode cX7_told 84 = .ok (.iload_n 1, 1) := by decide +kernel
theorem dX7_told_85 : decode cX7_told 85 = .ok (.iaload, 1) := by decide +kernel
theorem dX7_told_86 : decode cX7_told 86 = .ok (.ireturn, 1) := by decide +kernel
theorem dX7_told_87 : decode cX7_told 87 = .ok (.aload_n 0, 1) := by decide +kernel
theorem dX7_told_88 : decode cX7_told 88 = .ok (.getfield 29, 3) := by decide +kernel
theorem dX7_told_91 : decode cX7_told 91 = .ok (.iload_n 1, 1) := by decide +kernel
theorem dX7_told_92 : decode cX7_told 92 = .ok (.iaload, 1) := by decide +kernel
theorem dX7_told_93 : decode cX7_told 93 = .ok (.ireturn, 1) := by decide +kernel
theorem dX7_told_94 : decode cX7_told 94 = .ok (.aload_n 0, 1) := by decide +kernel
theorem dX7_told_95 : decode cX7_told 95 = .ok (.getfield 32, 3) := by decide +kernel
theorem dX7_told_98 : decode cX7_told 98 = .ok (.iload_n 1, 1) := by decide +kernel
theorem dX7_told_99 : decode cX7_told 99 = .ok (.iaload, 1) := by decide +kernel
theorem dX7_told_100 : decode cX7_told 100 = .ok (.ireturn, 1) := by decide +kernel
theorem dX7_told_101 : decode cX7_told 101 = .ok (.aload_n 0, 1) := by decide +kernel
theorem dX7_told_102 : decode cX7_told 102 = .ok (.getfield 35, 3) := by decide +kernel
theorem dX7_told_105 : decode cX7_told 105 = .ok (.iload_n 1, 1) := by decide +kernel
theorem dX7_told_106 : decode cX7_told 106 = .ok (.iaload, 1) := by decide +kernel
theorem dX7_told_107 : decode cX7_told 107 = .ok (.ireturn, 1) := by decide +kernel
theorem dX7_told_108 : decode cX7_told 108 = .ok (.aload_n 0, 1) := by decide +kernel
theorem dX7_told_109 : decode cX7_told 109 = .ok (.getfield 38, 3) := by decide +kernel
theorem dX7_told_112 : decode cX7_told 112 = .ok (.iload_n 1, 1) := by decide +kernel
theorem dX7_told_113 : decode cX7_told 113 = .ok (.iaload, 1) := by decide +kernel
theorem dX7_told_114 : decode cX7_told 114 = .ok (.ireturn, 1) := by decide +kernel
theorem dX7_told_115 : decode cX7_told 115 = .ok (.aload_n 0, 1) := by decide +kernel
theorem dX7_told_116 : decode cX7_told 116 = .ok (.iload_n 1, 1) := by decide +kernel
theorem dX7_told_117 : decode cX7_told 117 = .ok (.invokevirtual 160, 3) := by decide +kernel
theorem dX7_told_120 : decode cX7_told 120 = .ok (.ireturn, 1) := by decide +kernel
theorem dX7_told_121 : decode cX7_told 121 = .ok (.aload_n 0, 1) := by decide +kernel
theorem dX7_told_122 : decode cX7_told 122 = .ok (.getfield 50, 3) := by decide +kernel
theorem dX7_told_125 : decode cX7_told 125 = .ok (.iload_n 1, 1) := by decide +kernel
theorem dX7_told_126 : decode cX7_told 126 = .ok (.iaload, 1) := by decide +kernel
theorem dX7_told_127 : decode cX7_told 127 = .ok (.ireturn, 1) := by decide +kernel
theorem dX7_told_128 : decode cX7_told 128 = .ok (.aload_n 0, 1) := by decide +kernel
theorem dX7_told_129 : decode cX7_told 129 = .ok (.iload_n 1, 1) := by decide +kernel
theorem dX7_told_130 : decode cX7_told 130 = .ok (.invokevirtual 163, 3) := by decide +kernel
theorem dX7_told_133 : decode cX7_told 133 = .ok (.ifCond .eq 7, 3) := by decide +kernel
theorem dX7_told_136 : decode cX7_told 136 = .ok (.iconst 1, 1) := by decide +kernel
theorem dX7_told_137 : decode cX7_told 137 = .ok (.goto 4, 3) := by decide +kernel
theorem dX7_told_140 : decode cX7_told 140 = .ok (.iconst 0, 1) := by decide +kernel
theorem dX7_told_141 : decode cX7_told 141 = .ok (.ireturn, 1) := by decide +kernel
theorem dX7_told_142 : decode cX7_told 142 = .ok (.aload_n 0, 1) := by decide +kernel
theorem dX7_told_143 : decode cX7_told 143 = .ok (.getfield 47, 3) := by decide +kernel
theorem dX7_told_146 : decode cX7_told 146 = .ok (.iload_n 1, 1) := by decide +kernel
theorem dX7_told_147 : decode cX7_told 147 = .ok (.iaload, 1) := by decide +kernel
theorem dX7_told_148 : decode cX7_told 148 = .ok (.ireturn, 1) := by decide +kernel
theorem dX7_told_149 : decode cX7_told 149 = .ok (.aload_n 0, 1) := by decide +kernel
theorem dX7_told_150 : decode cX7_told 150 = .ok (.getfield 53, 3) := by decide +kernel
theorem dX7_told_153 : decode cX7_told 153 = .ok (.iload_n 1, 1) := by decide +kernel
theorem dX7_told_154 : decode cX7_told 154 = .ok (.iaload, 1) := by decide +kernel
theorem dX7_told_155 : decode cX7_told 155 = .ok (.ireturn, 1) := by decide +kernel
theorem dX7_told_156 : decode cX7_told 156 = .ok (.aload_n 0, 1) := by decide +kernel
theorem dX7_told_157 : decode cX7_told 157 = .ok (.iconst 2, 1) := by decide +kernel
theorem dX7_told_158 : decode cX7_told 158 = .ok (.invokevirtual 147, 3) := by decide +kernel
theorem dX7_told_161 : decode cX7_told 161 = .ok (.ireturn, 1) := by decide +kernel
theorem dX7_gather_0 : decode cX7_gather 0 = .ok (.aload_n 0, 1) := by decide +kernel
theorem dX7_gather_1 : decode cX7_gather 1 = .ok (.iconst 0, 1) := by decide +kernel
theorem dX7_gather_2 : decode cX7_gather 2 = .ok (.putfield 166, 3) := by decide +kernel
theorem dX7_gather_5 : decode cX7_gather 5 = .ok (.iconst 0, 1) := by decide +kernel
theorem dX7_gather_6 : decode cX7_gather 6 = .ok (.istore_n 3, 1) := by decide +kernel
theorem dX7_gather_7 : decode cX7_gather 7 = .ok (.iload_n 1, 1) := by decide +kernel
theorem dX7_gather_8 : decode cX7_gather 8 = .ok (.istore 4, 2) := by decide +kernel
theorem dX7_gather_10 : decode cX7_gather 10 = .ok (.iload 4, 2) := by decide +kernel
theorem dX7_gather_12 : decode cX7_gather 12 = .ok (.iload_n 1, 1) := by decide +kernel
theorem dX7_gather_13 : decode cX7_gather 13 = .ok (.iload_n 2, 1) := by decide +kernel
theorem dX7_gather_14 : decode cX7_gather 14 = .ok (.iadd, 1) := by decide +kernel
theorem dX7_gather_15 : decode cX7_gather 15 = .ok (.if_icmp .ge 98, 3) := by decide +kernel
theorem dX7_gather_18 : decode cX7_gather 18 = .ok (.iconst 0, 1) := by decide +kernel
theorem dX7_gather_19 : decode cX7_gather 19 = .ok (.istore 5, 2) := by decide +kernel
theorem dX7_gather_21 : decode cX7_gather 21 = .ok (.iload 5, 2) := by decide +kernel
theorem dX7_gather_23 : decode cX7_gather 23 = .ok (.aload_n 0, 1) := by decide +kernel
theorem dX7_gather_24 : decode cX7_gather 24 = .ok (.getfield 136, 3) := by decide +kernel
theorem dX7_gather_27 : decode cX7_gather 27 = .ok (.if_icmp .ge 80, 3) := by decide +kernel
theorem dX7_gather_30 : decode cX7_gather 30 = .ok (.aload_n 0, 1) := by decide +kernel
theorem dX7_gather_31 : decode cX7_gather 31 = .ok (.getfield 26, 3) := by decide +kernel
theorem dX7_gather_34 : decode cX7_gather 34 = .ok (.iload 5, 2) := by decide +kernel
theorem dX7_gather_36 : decode cX7_gather 36 = .ok (.iaload, 1) := by decide +kernel
theorem dX7_gather_37 : decode cX7_gather 37 = .ok (.iload 4, 2) := by decide +kernel
theorem dX7_gather_39 : decode cX7_gather 39 = .ok (.if_icmp .ne 62, 3) := by decide +kernel
theorem dX7_gather_42 : decode cX7_gather 42 = .ok (.aload_n 0, 1) := by decide +kernel
theorem dX7_gather_43 : decode cX7_gather 43 = .ok (.getfield 157, 3) := by decide +kernel
theorem dX7_gather_46 : decode cX7_gather 46 = .ok (.ifCond .ne 15, 3) := by decide +kernel
theorem dX7_gather_49 : decode cX7_gather 49 = .ok (.aload_n 0, 1) := by decide +kernel
theorem dX7_gather_50 : decode cX7_gather 50 = .ok (.iload 5, 2) := by decide +kernel
theorem dX7_gather_52 : decode cX7_gather 52 = .ok (.invokevirtual 163, 3) := by decide +kernel
theorem dX7_gather_55 : decode cX7_gather 55 = .ok (.ifCond .ne 6, 3) := by decide +kernel
theorem dX7_gather_58 : decode cX7_gather 58 = .ok (.goto 43, 3) := by decide +kernel
theorem dX7_gather_61 : decode cX7_gather 61 = .ok (.aload_n 0, 1) := by decide +kernel
theorem dX7_gather_62 : decode cX7_gather 62 = .ok (.getfield 93, 3) := by decide +kernel
theorem dX7_gather_65 : decode cX7_gather 65 = .ok (.aload_n 0, 1) := by decide +kernel
theorem dX7_gather_66 : decode cX7_gather 66 = .ok (.getfield 166, 3) := by decide +kernel
theorem dX7_gather_69 : decode cX7_gather 69 = .ok (.iload 5, 2) := by decide +kernel
theorem dX7_gather_71 : decode cX7_gather 71 = .ok (.iastore, 1) := by decide +kernel
theorem dX7_gather_72 : decode cX7_gather 72 = .ok (.aload_n 0, 1) := by decide +kernel
theorem dX7_gather_73 : decode cX7_gather 73 = .ok (.dup, 1) := by decide +kernel
theorem dX7_gather_74 : decode cX7_gather 74 = .ok (.getfield 166, 3) := by decide +kernel
theorem dX7_gather_77 : decode cX7_gather 77 = .ok (.iconst 1, 1) := by decide +kernel
theorem dX7_gather_78 : decode cX7_gather 78 = .ok (.iadd, 1) := by decide +kernel
theorem dX7_gather_79 : decode cX7_gather 79 = .ok (.putfield 166, 3) := by decide +kernel
theorem dX7_gather_82 : decode cX7_gather 82 = .ok (.iload_n 3, 1) := by decide +kernel
theorem dX7_gather_83 : decode cX7_gather 83 = .ok (.aload_n 0, 1) := by decide +kernel
theorem dX7_gather_84 : decode cX7_gather 84 = .ok (.getfield 35, 3) := by decide +kernel
theorem dX7_gather_87 : decode cX7_gather 87 = .ok (.iload 5, 2) := by decide +kernel
theorem dX7_gather_89 : decode cX7_gather 89 = .ok (.iaload, 1) := by decide +kernel
theorem dX7_gather_90 : decode cX7_gather 90 = .ok (.iconst 2, 1) := by decide +kernel
theorem dX7_gather_91 : decode cX7_gather 91 = .ok (.if_icmp .ne 7, 3) := by decide +kernel
theorem dX7_gather_94 : decode cX7_gather 94 = .ok (.iconst 1, 1) := by decide +kernel
theorem dX7_gather_95 : decode cX7_gather 95 = .ok (.goto 4, 3) := by decide +kernel
theorem dX7_gather_98 : decode cX7_gather 98 = .ok (.iconst 0, 1) := by decide +kernel
theorem dX7_gather_99 : decode cX7_gather 99 = .ok (.iadd, 1) := by decide +kernel
theorem dX7_gather_100 : decode cX7_gather 100 = .ok (.istore_n 3, 1) := by decide +kernel
theorem dX7_gather_101 : decode cX7_gather 101 = .ok (.iinc 5 1, 3) := by decide +kernel
theorem dX7_gather_104 : decode cX7_gather 104 = .ok (.goto (-83), 3) := by decide +kernel
theorem dX7_gather_107 : decode cX7_gather 107 = .ok (.iinc 4 1, 3) := by decide +kernel
theorem dX7_gather_110 : decode cX7_gather 110 = .ok (.goto (-100), 3) := by decide +kernel
theorem dX7_gather_113 : decode cX7_gather 113 = .ok (.iload_n 3, 1) := by decide +kernel
theorem dX7_gather_114 : decode cX7_gather 114 = .ok (.ireturn, 1) := by decide +kernel
theorem dX7_sides_0 : decode cX7_sides 0 = .ok (.iload_n 1, 1) := by decide +kernel
theorem dX7_sides_1 : decode cX7_sides 1 = .ok (.istore_n 3, 1) := by decide +kernel
theorem dX7_sides_2 : decode cX7_sides 2 = .ok (.iconst 0, 1) := by decide +kernel
theorem dX7_sides_3 : decode cX7_sides 3 = .ok (.istore 4, 2) := by decide +kernel
theorem dX7_sides_5 : decode cX7_sides 5 = .ok (.iload 4, 2) := by decide +kernel
theorem dX7_sides_7 : decode cX7_sides 7 = .ok (.aload_n 0, 1) := by decide +kernel
theorem dX7_sides_8 : decode cX7_sides 8 = .ok (.getfield 166, 3) := by decide +kernel
theorem dX7_sides_11 : decode cX7_sides 11 = .ok (.if_icmp .ge 57, 3) := by decide +kernel
theorem dX7_sides_14 : decode cX7_sides 14 = .ok (.aload_n 0, 1) := by decide +kernel
theorem dX7_sides_15 : decode cX7_sides 15 = .ok (.getfield 96, 3) := by decide +kernel
theorem dX7_sides_18 : decode cX7_sides 18 = .ok (.iload 4, 2) := by decide +kernel
theorem dX7_sides_20 : decode cX7_sides 20 = .ok (.aload_n 0, 1) := by decide +kernel
theorem dX7_sides_21 : decode cX7_sides 21 = .ok (.getfield 35, 3) := by decide +kernel
theorem dX7_sides_24 : decode cX7_sides 24 = .ok (.aload_n 0, 1) := by decide +kernel
theorem dX7_sides_25 : decode cX7_sides 25 = .ok (.getfield 93, 3) := by decide +kernel
theorem dX7_sides_28 : decode cX7_sides 28 = .ok (.iload 4, 2) := by decide +kernel
theorem dX7_sides_30 : decode cX7_sides 30 = .ok (.iaload, 1) := by decide +kernel
theorem dX7_sides_31 : decode cX7_sides 31 = .ok (.iaload, 1) := by decide +kernel
theorem dX7_sides_32 : decode cX7_sides 32 = .ok (.iastore, 1) := by decide +kernel
theorem dX7_sides_33 : decode cX7_sides 33 = .ok (.aload_n 0, 1) := by decide +kernel
theorem dX7_sides_34 : decode cX7_sides 34 = .ok (.getfield 96, 3) := by decide +kernel
theorem dX7_sides_37 : decode cX7_sides 37 = .ok (.iload 4, 2) := by decide +kernel
theorem dX7_sides_39 : decode cX7_sides 39 = .ok (.iaload, 1) := by decide +kernel
theorem dX7_sides_40 : decode cX7_sides 40 = .ok (.iconst 2, 1) := by decide +kernel
theorem dX7_sides_41 : decode cX7_sides 41 = .ok (.if_icmp .ge 6, 3) := by decide +kernel
theorem dX7_sides_44 : decode cX7_sides 44 = .ok (.goto 18, 3) := by decide +kernel
theorem dX7_sides_47 : decode cX7_sides 47 = .ok (.iinc 3 (-1), 3) := by decide +kernel
theorem dX7_sides_50 : decode cX7_sides 50 = .ok (.aload_n 0, 1) := by decide +kernel
theorem dX7_sides_51 : decode cX7_sides 51 = .ok (.getfield 96, 3) := by decide +kernel
theorem dX7_sides_54 : decode cX7_sides 54 = .ok (.iload 4, 2) := by decide +kernel
theorem dX7_sides_56 : decode cX7_sides 56 = .ok (.iload_n 2, 1) := by decide +kernel
theorem dX7_sides_57 : decode cX7_sides 57 = .ok (.iload_n 3, 1) := by decide +kernel
theorem dX7_sides_58 : decode cX7_sides 58 = .ok (.ishr, 1) := by decide +kernel
theorem dX7_sides_59 : decode cX7_sides 59 = .ok (.iconst 1, 1) := by decide +kernel
theorem dX7_sides_60 : decode cX7_sides 60 = .ok (.iand, 1) := by decide +kernel
theorem dX7_sides_61 : decode cX7_sides 61 = .ok (.iastore, 1) := by decide +kernel
theorem dX7_sides_62 : decode cX7_sides 62 = .ok (.iinc 4 1, 3) := by decide +kernel
theorem dX7_sides_65 : decode cX7_sides 65 = .ok (.goto (-60), 3) := by decide +kernel
theorem dX7_sides_68 : decode cX7_sides 68 = .ok (.return_, 1) := by decide +kernel
theorem dX7_rowOf_0 : decode cX7_rowOf 0 = .ok (.aload_n 0, 1) := by decide +kernel
theorem dX7_rowOf_1 : decode cX7_rowOf 1 = .ok (.iconst 0, 1) := by decide +kernel
theorem dX7_rowOf_2 : decode cX7_rowOf 2 = .ok (.putfield 169, 3) := by decide +kernel
theorem dX7_rowOf_5 : decode cX7_rowOf 5 = .ok (.iconst 0, 1) := by decide +kernel
theorem dX7_rowOf_6 : decode cX7_rowOf 6 = .ok (.istore_n 2, 1) := by decide +kernel
theorem dX7_rowOf_7 : decode cX7_rowOf 7 = .ok (.iload_n 2, 1) := by decide +kernel
theorem dX7_rowOf_8 : decode cX7_rowOf 8 = .ok (.aload_n 0, 1) := by decide +kernel
theorem dX7_rowOf_9 : decode cX7_rowOf 9 = .ok (.getfield 166, 3) := by decide +kernel
theorem dX7_rowOf_12 : decode cX7_rowOf 12 = .ok (.if_icmp .ge 47, 3) := by decide +kernel
theorem dX7_rowOf_15 : decode cX7_rowOf 15 = .ok (.aload_n 0, 1) := by decide +kernel
theorem dX7_rowOf_16 : decode cX7_rowOf 16 = .ok (.getfield 96, 3) := by decide +kernel
theorem dX7_rowOf_19 : decode cX7_rowOf 19 = .ok (.iload_n 2, 1) := by decide +kernel
theorem dX7_rowOf_20 : decode cX7_rowOf 20 = .ok (.iaload, 1) := by decide +kernel
theorem dX7_rowOf_21 : decode cX7_rowOf 21 = .ok (.iload_n 1, 1) := by decide +kernel
theorem dX7_rowOf_22 : decode cX7_rowOf 22 = .ok (.if_icmp .eq 6, 3) := by decide +kernel
theorem dX7_rowOf_25 : decode cX7_rowOf 25 = .ok (.goto 28, 3) := by decide +kernel
theorem dX7_rowOf_28 : decode cX7_rowOf 28 = .ok (.aload_n 0, 1) := by decide +kernel
theorem dX7_rowOf_29 : decode cX7_rowOf 29 = .ok (.getfield 102, 3) := by decide +kernel
theorem dX7_rowOf_32 : decode cX7_rowOf 32 = .ok (.aload_n 0, 1) := by decide +kernel
theorem dX7_rowOf_33 : decode cX7_rowOf 33 = .ok (.getfield 169, 3) := by decide +kernel
theorem dX7_rowOf_36 : decode cX7_rowOf 36 = .ok (.aload_n 0, 1) := by decide +kernel
theorem dX7_rowOf_37 : decode cX7_rowOf 37 = .ok (.getfield 93, 3) := by decide +kernel
theorem dX7_rowOf_40 : decode cX7_rowOf 40 = .ok (.iload_n 2, 1) := by decide +kernel
theorem dX7_rowOf_41 : decode cX7_rowOf 41 = .ok (.iaload, 1) := by decide +kernel
theorem dX7_rowOf_42 : decode cX7_rowOf 42 = .ok (.iastore, 1) := by decide +kernel
theorem dX7_rowOf_43 : decode cX7_rowOf 43 = .ok (.aload_n 0, 1) := by decide +kernel
theorem dX7_rowOf_44 : decode cX7_rowOf 44 = .ok (.dup, 1) := by decide +kernel
theorem dX7_rowOf_45 : decode cX7_rowOf 45 = .ok (.getfield 169, 3) := by decide +kernel
theorem dX7_rowOf_48 : decode cX7_rowOf 48 = .ok (.iconst 1, 1) := by decide +kernel
theorem dX7_rowOf_49 : decode cX7_rowOf 49 = .ok (.iadd, 1) := by decide +kernel
theorem dX7_rowOf_50 : decode cX7_rowOf 50 = .ok (.putfield 169, 3) := by decide +kernel
theorem dX7_rowOf_53 : decode cX7_rowOf 53 = .ok (.iinc 2 1, 3) := by decide +kernel
theorem dX7_rowOf_56 : decode cX7_rowOf 56 = .ok (.goto (-49), 3) := by decide +kernel
theorem dX7_rowOf_59 : decode cX7_rowOf 59 = .ok (.return_, 1) := by decide +kernel
theorem dX7_choices_0 : decode cX7_choices 0 = .ok (.aload_n 0, 1) := by decide +kernel
theorem dX7_choices_1 : decode cX7_choices 1 = .ok (.getfield 169, 3) := by decide +kernel
theorem dX7_choices_4 : decode cX7_choices 4 = .ok (.ifCond .ne 5, 3) := by decide +kernel
theorem dX7_choices_7 : decode cX7_choices 7 = .ok (.iconst 1, 1) := by decide +kernel
theorem dX7_choices_8 : decode cX7_choices 8 = .ok (.ireturn, 1) := by decide +kernel
theorem dX7_choices_9 : decode cX7_choices 9 = .ok (.aload_n 0, 1) := by decide +kernel
theorem dX7_choices_10 : decode cX7_choices 10 = .ok (.getfield 102, 3) := by decide +kernel
theorem dX7_choices_13 : decode cX7_choices 13 = .ok (.aload_n 0, 1) := by decide +kernel
theorem dX7_choices_14 : decode cX7_choices 14 = .ok (.getfield 169, 3) := by decide +kernel
theorem dX7_choices_17 : decode cX7_choices 17 = .ok (.iconst 1, 1) := by decide +kernel
theorem dX7_choices_18 : decode cX7_choices 18 = .ok (.isub, 1) := by decide +kernel
theorem dX7_choices_19 : decode cX7_choices 19 = .ok (.iaload, 1) := by decide +kernel
theorem dX7_choices_20 : decode cX7_choices 20 = .ok (.istore_n 1, 1) := by decide +kernel
theorem dX7_choices_21 : decode cX7_choices 21 = .ok (.aload_n 0, 1) := by decide +kernel
theorem dX7_choices_22 : decode cX7_choices 22 = .ok (.getfield 50, 3) := by decide +kernel
theorem dX7_choices_25 : decode cX7_choices 25 = .ok (.iload_n 1, 1) := by decide +kernel
theorem dX7_choices_26 : decode cX7_choices 26 = .ok (.iaload, 1) := by decide +kernel
theorem dX7_choices_27 : decode cX7_choices 27 = .ok (.ifCond .lt 7, 3) := by decide +kernel
theorem dX7_choices_30 : decode cX7_choices 30 = .ok (.iconst 1, 1) := by decide +kernel
theorem dX7_choices_31 : decode cX7_choices 31 = .ok (.goto 11, 3) := by decide +kernel
theorem dX7_choices_34 : decode cX7_choices 34 = .ok (.iconst 1, 1) := by decide +kernel
theorem dX7_choices_35 : decode cX7_choices 35 = .ok (.aload_n 0, 1) := by decide +kernel
theorem dX7_choices_36 : decode cX7_choices 36 = .ok (.getfield 47, 3) := by decide +kernel
theorem dX7_choices_39 : decode cX7_choices 39 = .ok (.iload_n 1, 1) := by decide +kernel
theorem dX7_choices_40 : decode cX7_choices 40 = .ok (.iaload, 1) := by decide +kernel
theorem dX7_choices_41 : decode cX7_choices 41 = .ok (.iadd, 1) := by decide +kernel
theorem dX7_choices_42 : decode cX7_choices 42 = .ok (.ireturn, 1) := by decide +kernel
theorem dX7_tall_0 : decode cX7_tall 0 = .ok (.aload_n 0, 1) := by decide +kernel
theorem dX7_tall_1 : decode cX7_tall 1 = .ok (.getfield 102, 3) := by decide +kernel
theorem dX7_tall_4 : decode cX7_tall 4 = .ok (.iload_n 1, 1) := by decide +kernel
theorem dX7_tall_5 : decode cX7_tall 5 = .ok (.iaload, 1) := by decide +kernel
theorem dX7_tall_6 : decode cX7_tall 6 = .ok (.istore_n 3, 1) := by decide +kernel
theorem dX7_tall_7 : decode cX7_tall 7 = .ok (.iload_n 2, 1) := by decide +kernel
theorem dX7_tall_8 : decode cX7_tall 8 = .ok (.ifCond .eq 13, 3) := by decide +kernel
theorem dX7_tall_11 : decode cX7_tall 11 = .ok (.iload_n 1, 1) := by decide +kernel
theorem dX7_tall_12 : decode cX7_tall 12 = .ok (.aload_n 0, 1) := by decide +kernel
theorem dX7_tall_13 : decode cX7_tall 13 = .ok (.getfield 169, 3) := by decide +kernel
theorem dX7_tall_16 : decode cX7_tall 16 = .ok (.iconst 1, 1) := by decide +kernel
theorem dX7_tall_17 : decode cX7_tall 17 = .ok (.isub, 1) := by decide +kernel
theorem dX7_tall_18 : decode cX7_tall 18 = .ok (.if_icmp .ge 9, 3) := by decide +kernel
theorem dX7_tall_21 : decode cX7_tall 21 = .ok (.aload_n 0, 1) := by decide +kernel
theorem dX7_tall_22 : decode cX7_tall 22 = .ok (.iload_n 3, 1) := by decide +kernel
theorem dX7_tall_23 : decode cX7_tall 23 = .ok (.invokevirtual 160, 3) := by decide +kernel
theorem dX7_tall_26 : decode cX7_tall 26 = .ok (.ireturn, 1) := by decide +kernel
theorem dX7_tall_27 : decode cX7_tall 27 = .ok (.aload_n 0, 1) := by decide +kernel
theorem dX7_tall_28 : decode cX7_tall 28 = .ok (.getfield 56, 3) := by decide +kernel
theorem dX7_tall_31 : decode cX7_tall 31 = .ok (.iconst 3, 1) := by decide +kernel
theorem dX7_tall_32 : decode cX7_tall 32 = .ok (.iload_n 3, 1) := by decide +kernel
theorem dX7_tall_33 : decode cX7_tall 33 = .ok (.imul, 1) := by decide +kernel
theorem dX7_tall_34 : decode cX7_tall 34 = .ok (.iload_n 2, 1) := by decide +kernel
theorem dX7_tall_35 : decode cX7_tall 35 = .ok (.iadd, 1) := by decide +kernel
theorem dX7_tall_36 : decode cX7_tall 36 = .ok (.iconst 1, 1) := by decide +kernel
theorem dX7_tall_37 : decode cX7_tall 37 = .ok (.isub, 1) := by decide +kernel
theorem dX7_tall_38 : decode cX7_tall 38 = .ok (.iaload, 1) := by decide +kernel
theorem dX7_tall_39 : decode cX7_tall 39 = .ok (.istore 4, 2) := by decide +kernel
theorem dX7_tall_41 : decode cX7_tall 41 = .ok (.aload_n 0, 1) := by decide +kernel
theorem dX7_tall_42 : decode cX7_tall 42 = .ok (.getfield 29, 3) := by decide +kernel
theorem dX7_tall_45 : decode cX7_tall 45 = .ok (.iload_n 3, 1) := by decide +kernel
theorem dX7_tall_46 : decode cX7_tall 46 = .ok (.iaload, 1) := by decide +kernel
theorem dX7_tall_47 : decode cX7_tall 47 = .ok (.iload 4, 2) := by decide +kernel
theorem dX7_tall_49 : decode cX7_tall 49 = .ok (.isub, 1) := by decide +kernel
theorem dX7_tall_50 : decode cX7_tall 50 = .ok (.aload_n 0, 1) := by decide +kernel
theorem dX7_tall_51 : decode cX7_tall 51 = .ok (.getfield 7, 3) := by decide +kernel
theorem dX7_tall_54 : decode cX7_tall 54 = .ok (.if_icmp .le 7, 3) := by decide +kernel
theorem dX7_tall_57 : decode cX7_tall 57 = .ok (.iconst (-1), 1) := by decide +kernel
theorem dX7_tall_58 : decode cX7_tall 58 = .ok (.goto 5, 3) := by decide +kernel
theorem dX7_tall_61 : decode cX7_tall 61 = .ok (.iload 4, 2) := by decide +kernel
theorem dX7_tall_63 : decode cX7_tall 63 = .ok (.ireturn, 1) := by decide +kernel
theorem dX7_stands_0 : decode cX7_stands 0 = .ok (.iload_n 1, 1) := by decide +kernel
theorem dX7_stands_1 : decode cX7_stands 1 = .ok (.ifCond .le 12, 3) := by decide +kernel
theorem dX7_stands_4 : decode cX7_stands 4 = .ok (.iload_n 1, 1) := by decide +kernel
theorem dX7_stands_5 : decode cX7_stands 5 = .ok (.aload_n 0, 1) := by decide +kernel
theorem dX7_stands_6 : decode cX7_stands 6 = .ok (.getfield 13, 3) := by decide +kernel
theorem dX7_stands_9 : decode cX7_stands 9 = .ok (.iadd, 1) := by decide +kernel
theorem dX7_stands_10 : decode cX7_stands 10 = .ok (.goto 4, 3) := by decide +kernel
theorem dX7_stands_13 : decode cX7_stands 13 = .ok (.iconst 0, 1) := by decide +kernel
theorem dX7_stands_14 : decode cX7_stands 14 = .ok (.istore_n 3, 1) := by decide +kernel
theorem dX7_stands_15 : decode cX7_stands 15 = .ok (.iconst 0, 1) := by decide +kernel
theorem dX7_stands_16 : decode cX7_stands 16 = .ok (.istore 4, 2) := by decide +kernel
theorem dX7_stands_18 : decode cX7_stands 18 = .ok (.iload 4, 2) := by decide +kernel
theorem dX7_stands_20 : decode cX7_stands 20 = .ok (.aload_n 0, 1) := by decide +kernel
theorem dX7_stands_21 : decode cX7_stands 21 = .ok (.getfield 169, 3) := by decide +kernel
theorem dX7_stands_24 : decode cX7_stands 24 = .ok (.if_icmp .ge 96, 3) := by decide +kernel
theorem dX7_stands_27 : decode cX7_stands 27 = .ok (.aload_n 0, 1) := by decide +kernel
theorem dX7_stands_28 : decode cX7_stands 28 = .ok (.getfield 102, 3) := by decide +kernel
theorem dX7_stands_31 : decode cX7_stands 31 = .ok (.iload 4, 2) := by decide +kernel
theorem dX7_stands_33 : decode cX7_stands 33 = .ok (.iaload, 1) := by decide +kernel
theorem dX7_stands_34 : decode cX7_stands 34 = .ok (.istore 5, 2) := by decide +kernel
theorem dX7_stands_36 : decode cX7_stands 36 = .ok (.aload_n 0, 1) := by decide +kernel
theorem dX7_stands_37 : decode cX7_stands 37 = .ok (.iload 4, 2) := by decide +kernel
theorem dX7_stands_39 : decode cX7_stands 39 = .ok (.iload_n 2, 1) := by decide +kernel
theorem dX7_stands_40 : decode cX7_stands 40 = .ok (.invokevirtual 172, 3) := by decide +kernel
theorem dX7_stands_43 : decode cX7_stands 43 = .ok (.istore 6, 2) := by decide +kernel
theorem dX7_stands_45 : decode cX7_stands 45 = .ok (.iload 6, 2) := by decide +kernel
theorem dX7_stands_47 : decode cX7_stands 47 = .ok (.ifCond .lt 24, 3) := by decide +kernel
theorem dX7_stands_50 : decode cX7_stands 50 = .ok (.aload_n 0, 1) := by decide +kernel
theorem dX7_stands_51 : decode cX7_stands 51 = .ok (.getfield 50, 3) := by decide +kernel
theorem dX7_stands_54 : decode cX7_stands 54 = .ok (.iload 5, 2) := by decide +kernel
theorem dX7_stands_56 : decode cX7_stands 56 = .ok (.iaload, 1) := by decide +kernel
theorem dX7_stands_57 : decode cX7_stands 57 = .ok (.ifCond .lt 16, 3) := by decide +kernel
theorem dX7_stands_60 : decode cX7_stands 60 = .ok (.aload_n 0, 1) := by decide +kernel
theorem dX7_stands_61 : decode cX7_stands 61 = .ok (.getfield 50, 3) := by decide +kernel
theorem dX7_stands_64 : decode cX7_stands 64 = .ok (.iload 5, 2) := by decide +kernel
theorem dX7_stands_66 : decode cX7_stands 66 = .ok (.iaload, 1) := by decide +kernel
theorem dX7_stands_67 : decode cX7_stands 67 = .ok (.iload_n 3, 1) := by decide +kernel
theorem dX7_stands_68 : decode cX7_stands 68 = .ok (.if_icmp .ge 5, 3) := by decide +kernel
theorem dX7_stands_71 : decode cX7_stands 71 = .ok (.iconst 0, 1) := by decide +kernel
theorem dX7_stands_72 : decode cX7_stands 72 = .ok (.ireturn, 1) := by decide +kernel
theorem dX7_stands_73 : decode cX7_stands 73 = .ok (.aload_n 0, 1) := by decide +kernel
theorem dX7_stands_74 : decode cX7_stands 74 = .ok (.getfield 50, 3) := by decide +kernel
theorem dX7_stands_77 : decode cX7_stands 77 = .ok (.iload 5, 2) := by decide +kernel
theorem dX7_stands_79 : decode cX7_stands 79 = .ok (.iaload, 1) := by decide +kernel
theorem dX7_stands_80 : decode cX7_stands 80 = .ok (.ifCond .lt 11, 3) := by decide +kernel
theorem dX7_stands_83 : decode cX7_stands 83 = .ok (.aload_n 0, 1) := by decide +kernel
theorem dX7_stands_84 : decode cX7_stands 84 = .ok (.getfield 50, 3) := by decide +kernel
theorem dX7_stands_87 : decode cX7_stands 87 = .ok (.iload 5, 2) := by decide +kernel
theorem dX7_stands_89 : decode cX7_stands 89 = .ok (.iaload, 1) := by decide +kernel
theorem dX7_stands_90 : decode cX7_stands 90 = .ok (.istore_n 3, 1) := by decide +kernel
theorem dX7_stands_91 : decode cX7_stands 91 = .ok (.iload_n 3, 1) := by decide +kernel
theorem dX7_stands_92 : decode cX7_stands 92 = .ok (.iload 6, 2) := by decide +kernel
theorem dX7_stands_94 : decode cX7_stands 94 = .ok (.iadd, 1) := by decide +kernel
theorem dX7_stands_95 : decode cX7_stands 95 = .ok (.aload_n 0, 1) := by decide +kernel
theorem dX7_stands_96 : decode cX7_stands 96 = .ok (.getfield 7, 3) := by decide +kernel
theorem dX7_stands_99 : decode cX7_stands 99 = .ok (.if_icmp .le 5, 3) := by decide +kernel
theorem dX7_stands_102 : decode cX7_stands 102 = .ok (.iconst 0, 1) := by decide +kernel
theorem dX7_stands_103 : decode cX7_stands 103 = .ok (.ireturn, 1) := by decide +kernel
theorem dX7_stands_104 : decode cX7_stands 104 = .ok (.iload_n 3, 1) := by decide +kernel
theorem dX7_stands_105 : decode cX7_stands 105 = .ok (.iload 6, 2) := by decide +kernel
theorem dX7_stands_107 : decode cX7_stands 107 = .ok (.aload_n 0, 1) := by decide +kernel
theorem dX7_stands_108 : decode cX7_stands 108 = .ok (.getfield 13, 3) := by decide +kernel
theorem dX7_stands_111 : decode cX7_stands 111 = .ok (.iadd, 1) := by decide +kernel
theorem dX7_stands_112 : decode cX7_stands 112 = .ok (.iadd, 1) := by decide +kernel
theorem dX7_stands_113 : decode cX7_stands 113 = .ok (.istore_n 3, 1) := by decide +kernel
theorem dX7_stands_114 : decode cX7_stands 114 = .ok (.iinc 4 1, 3) := by decide +kernel
theorem dX7_stands_117 : decode cX7_stands 117 = .ok (.goto (-99), 3) := by decide +kernel
theorem dX7_stands_120 : decode cX7_stands 120 = .ok (.iconst 1, 1) := by decide +kernel
theorem dX7_stands_121 : decode cX7_stands 121 = .ok (.ireturn, 1) := by decide +kernel
theorem dX7_isHeld_0 : decode cX7_isHeld 0 = .ok (.iconst 0, 1) := by decide +kernel
theorem dX7_isHeld_1 : decode cX7_isHeld 1 = .ok (.istore 5, 2) := by decide +kernel
theorem dX7_isHeld_3 : decode cX7_isHeld 3 = .ok (.iload_n 1, 1) := by decide +kernel
theorem dX7_isHeld_4 : decode cX7_isHeld 4 = .ok (.istore 6, 2) := by decide +kernel
theorem dX7_isHeld_6 : decode cX7_isHeld 6 = .ok (.iload 6, 2) := by decide +kernel
theorem dX7_isHeld_8 : decode cX7_isHeld 8 = .ok (.iload_n 1, 1) := by decide +kernel
theorem dX7_isHeld_9 : decode cX7_isHeld 9 = .ok (.iload_n 2, 1) := by decide +kernel
theorem dX7_isHeld_10 : decode cX7_isHeld 10 = .ok (.iadd, 1) := by decide +kernel
theorem dX7_isHeld_11 : decode cX7_isHeld 11 = .ok (.if_icmp .ge 21, 3) := by decide +kernel
theorem dX7_isHeld_14 : decode cX7_isHeld 14 = .ok (.iload 5, 2) := by decide +kernel
theorem dX7_isHeld_16 : decode cX7_isHeld 16 = .ok (.aload_n 0, 1) := by decide +kernel
theorem dX7_isHeld_17 : decode cX7_isHeld 17 = .ok (.getfield 22, 3) := by decide +kernel
theorem dX7_isHeld_20 : decode cX7_isHeld 20 = .ok (.iload 6, 2) := by decide +kernel
theorem dX7_isHeld_22 : decode cX7_isHeld 22 = .ok (.iaload, 1) := by decide +kernel
theorem dX7_isHeld_23 : decode cX7_isHeld 23 = .ok (.iadd, 1) := by decide +kernel
theorem dX7_isHeld_24 : decode cX7_isHeld 24 = .ok (.istore 5, 2) := by decide +kernel
theorem dX7_isHeld_26 : decode cX7_isHeld 26 = .ok (.iinc 6 1, 3) := by decide +kernel
theorem dX7_isHeld_29 : decode cX7_isHeld 29 = .ok (.goto (-23), 3) := by decide +kernel
theorem dX7_isHeld_32 : decode cX7_isHeld 32 = .ok (.aload_n 0, 1) := by decide +kernel
theorem dX7_isHeld_33 : decode cX7_isHeld 33 = .ok (.iload_n 1, 1) := by decide +kernel
theorem dX7_isHeld_34 : decode cX7_isHeld 34 = .ok (.iload_n 2, 1) := by decide +kernel
theorem dX7_isHeld_35 : decode cX7_isHeld 35 = .ok (.invokevirtual 176, 3) := by decide +kernel
theorem dX7_isHeld_38 : decode cX7_isHeld 38 = .ok (.istore 6, 2) := by decide +kernel
theorem dX7_isHeld_40 : decode cX7_isHeld 40 = .ok (.iload 5, 2) := by decide +kernel
theorem dX7_isHeld_42 : decode cX7_isHeld 42 = .ok (.aload_n 0, 1) := by decide +kernel
theorem dX7_isHeld_43 : decode cX7_isHeld 43 = .ok (.getfield 7, 3) := by decide +kernel
theorem dX7_isHeld_46 : decode cX7_isHeld 46 = .ok (.if_icmp .gt 10, 3) := by decide +kernel
theorem dX7_isHeld_49 : decode cX7_isHeld 49 = .ok (.iload 6, 2) := by decide +kernel
theorem dX7_isHeld_51 : decode cX7_isHeld 51 = .ok (.bipush 6, 2) := by decide +kernel
theorem dX7_isHeld_53 : decode cX7_isHeld 53 = .ok (.if_icmp .le 5, 3) := by decide +kernel
theorem dX7_isHeld_56 : decode cX7_isHeld 56 = .ok (.iconst 0, 1) := by decide +kernel
theorem dX7_isHeld_57 : decode cX7_isHeld 57 = .ok (.ireturn, 1) := by decide +kernel
theorem dX7_isHeld_58 : decode cX7_isHeld 58 = .ok (.iconst 0, 1) := by decide +kernel
theorem dX7_isHeld_59 : decode cX7_isHeld 59 = .ok (.istore 7, 2) := by decide +kernel
theorem dX7_isHeld_61 : decode cX7_isHeld 61 = .ok (.iload 7, 2) := by decide +kernel
theorem dX7_isHeld_63 : decode cX7_isHeld 63 = .ok (.iconst 1, 1) := by decide +kernel
theorem dX7_isHeld_64 : decode cX7_isHeld 64 = .ok (.iload 6, 2) := by decide +kernel
theorem dX7_isHeld_66 : decode cX7_isHeld 66 = .ok (.ishl, 1) := by decide +kernel
theorem dX7_isHeld_67 : decode cX7_isHeld 67 = .ok (.if_icmp .ge 38, 3) := by decide +kernel
theorem dX7_isHeld_70 : decode cX7_isHeld 70 = .ok (.aload_n 0, 1) := by decide +kernel
theorem dX7_isHeld_71 : decode cX7_isHeld 71 = .ok (.iload 6, 2) := by decide +kernel
theorem dX7_isHeld_73 : decode cX7_isHeld 73 = .ok (.iload 7, 2) := by decide +kernel
theorem dX7_isHeld_75 : decode cX7_isHeld 75 = .ok (.invokevirtual 179, 3) := by decide +kernel
theorem dX7_isHeld_78 : decode cX7_isHeld 78 = .ok (.aload_n 0, 1) := by decide +kernel
theorem dX7_isHeld_79 : decode cX7_isHeld 79 = .ok (.iconst 0, 1) := by decide +kernel
theorem dX7_isHeld_80 : decode cX7_isHeld 80 = .ok (.iload_n 3, 1) := by decide +kernel
theorem dX7_isHeld_81 : decode cX7_isHeld 81 = .ok (.invokevirtual 183, 3) := by decide +kernel
theorem dX7_isHeld_84 : decode cX7_isHeld 84 = .ok (.ifCond .eq 15, 3) := by decide +kernel
theorem dX7_isHeld_87 : decode cX7_isHeld 87 = .ok (.aload_n 0, 1) := by decide +kernel
theorem dX7_isHeld_88 : decode cX7_isHeld 88 = .ok (.iconst 1, 1) := by decide +kernel
theorem dX7_isHeld_89 : decode cX7_isHeld 89 = .ok (.iload 4, 2) := by decide +kernel
theorem dX7_isHeld_91 : decode cX7_isHeld 91 = .ok (.invokevirtual 183, 3) := by decide +kernel
theorem dX7_isHeld_94 : decode cX7_isHeld 94 = .ok (.ifCond .eq 5, 3) := by decide +kernel
theorem dX7_isHeld_97 : decode cX7_isHeld 97 = .ok (.iconst 1, 1) := by decide +kernel
theorem dX7_isHeld_98 : decode cX7_isHeld 98 = .ok (.ireturn, 1) := by decide +kernel
theorem dX7_isHeld_99 : decode cX7_isHeld 99 = .ok (.iinc 7 1, 3) := by decide +kernel
theorem dX7_isHeld_102 : decode cX7_isHeld 102 = .ok (.goto (-41), 3) := by decide +kernel
theorem dX7_isHeld_105 : decode cX7_isHeld 105 = .ok (.iconst 0, 1) := by decide +kernel
theorem dX7_isHeld_106 : decode cX7_isHeld 106 = .ok (.ireturn, 1) := by decide +kernel
theorem dX7_canStand_0 : decode cX7_canStand 0 = .ok (.aload_n 0, 1) := by decide +kernel
theorem dX7_canStand_1 : decode cX7_canStand 1 = .ok (.iload_n 1, 1) := by decide +kernel
theorem dX7_canStand_2 : decode cX7_canStand 2 = .ok (.invokevirtual 187, 3) := by decide +kernel
theorem dX7_canStand_5 : decode cX7_canStand 5 = .ok (.aload_n 0, 1) := by decide +kernel
theorem dX7_canStand_6 : decode cX7_canStand 6 = .ok (.invokevirtual 191, 3) := by decide +kernel
theorem dX7_canStand_9 : decode cX7_canStand 9 = .ok (.istore_n 3, 1) := by decide +kernel
theorem dX7_canStand_10 : decode cX7_canStand 10 = .ok (.iconst 0, 1) := by decide +kernel
theorem dX7_canStand_11 : decode cX7_canStand 11 = .ok (.istore 4, 2) := by decide +kernel
theorem dX7_canStand_13 : decode cX7_canStand 13 = .ok (.iload 4, 2) := by decide +kernel
theorem dX7_canStand_15 : decode cX7_canStand 15 = .ok (.iload_n 3, 1) := by decide +kernel
theorem dX7_canStand_16 : decode cX7_canStand 16 = .ok (.if_icmp .ge 21, 3) := by decide +kernel
theorem dX7_canStand_19 : decode cX7_canStand 19 = .ok (.aload_n 0, 1) := by decide +kernel
theorem dX7_canStand_20 : decode cX7_canStand 20 = .ok (.iload_n 2, 1) := by decide +kernel
theorem dX7_canStand_21 : decode cX7_canStand 21 = .ok (.iload 4, 2) := by decide +kernel
theorem dX7_canStand_23 : decode cX7_canStand 23 = .ok (.invokevirtual 195, 3) := by decide +kernel
theorem dX7_canStand_26 : decode cX7_canStand 26 = .ok (.ifCond .eq 5, 3) := by decide +kernel
theorem dX7_canStand_29 : decode cX7_canStand 29 = .ok (.iconst 1, 1) := by decide +kernel
theorem dX7_canStand_30 : decode cX7_canStand 30 = .ok (.ireturn, 1) := by decide +kernel
theorem dX7_canStand_31 : decode cX7_canStand 31 = .ok (.iinc 4 1, 3) := by decide +kernel
theorem dX7_canStand_34 : decode cX7_canStand 34 = .ok (.goto (-21), 3) := by decide +kernel
theorem dX7_canStand_37 : decode cX7_canStand 37 = .ok (.iconst 0, 1) := by decide +kernel
theorem dX7_canStand_38 : decode cX7_canStand 38 = .ok (.ireturn, 1) := by decide +kernel
theorem dX7_costs_0 : decode cX7_costs 0 = .ok (.sipush 401, 3) := by decide +kernel
theorem dX7_costs_3 : decode cX7_costs 3 = .ok (.istore_n 3, 1) := by decide +kernel
theorem dX7_costs_4 : decode cX7_costs 4 = .ok (.iconst 0, 1) := by decide +kernel
theorem dX7_costs_5 : decode cX7_costs 5 = .ok (.istore 4, 2) := by decide +kernel
theorem dX7_costs_7 : decode cX7_costs 7 = .ok (.iload 4, 2) := by decide +kernel
theorem dX7_costs_9 : decode cX7_costs 9 = .ok (.iload_n 3, 1) := by decide +kernel
theorem dX7_costs_10 : decode cX7_costs 10 = .ok (.if_icmp .ge 24, 3) := by decide +kernel
theorem dX7_costs_13 : decode cX7_costs 13 = .ok (.aload_n 0, 1) := by decide +kernel
theorem dX7_costs_14 : decode cX7_costs 14 = .ok (.getfield 111, 3) := by decide +kernel
theorem dX7_costs_17 : decode cX7_costs 17 = .ok (.iload_n 3, 1) := by decide +kernel
theorem dX7_costs_18 : decode cX7_costs 18 = .ok (.aload_n 0, 1) := by decide +kernel
theorem dX7_costs_19 : decode cX7_costs 19 = .ok (.getfield 169, 3) := by decide +kernel
theorem dX7_costs_22 : decode cX7_costs 22 = .ok (.imul, 1) := by decide +kernel
theorem dX7_costs_23 : decode cX7_costs 23 = .ok (.iload 4, 2) := by decide +kernel
theorem dX7_costs_25 : decode cX7_costs 25 = .ok (.iadd, 1) := by decide +kernel
theorem dX7_costs_26 : decode cX7_costs 26 = .ok (.lconst 0, 1) := by decide +kernel
theorem dX7_costs_27 : decode cX7_costs 27 = .ok (.lastore, 1) := by decide +kernel
theorem dX7_costs_28 : decode cX7_costs 28 = .ok (.iinc 4 1, 3) := by decide +kernel
theorem dX7_costs_31 : decode cX7_costs 31 = .ok (.goto (-24), 3) := by decide +kernel
theorem dX7_costs_34 : decode cX7_costs 34 = .ok (.aload_n 0, 1) := by decide +kernel
theorem dX7_costs_35 : decode cX7_costs 35 = .ok (.getfield 169, 3) := by decide +kernel
theorem dX7_costs_38 : decode cX7_costs 38 = .ok (.iconst 1, 1) := by decide +kernel
theorem dX7_costs_39 : decode cX7_costs 39 = .ok (.isub, 1) := by decide +kernel
theorem dX7_costs_40 : decode cX7_costs 40 = .ok (.istore 4, 2) := by decide +kernel
theorem dX7_costs_42 : decode cX7_costs 42 = .ok (.iload 4, 2) := by decide +kernel
theorem dX7_costs_44 : decode cX7_costs 44 = .ok (.ifCond .lt 185, 3) := by decide +kernel
theorem dX7_costs_47 : decode cX7_costs 47 = .ok (.aload_n 0, 1) := by decide +kernel
theorem dX7_costs_48 : decode cX7_costs 48 = .ok (.getfield 102, 3) := by decide +kernel
theorem dX7_costs_51 : decode cX7_costs 51 = .ok (.iload 4, 2) := by decide +kernel
theorem dX7_costs_53 : decode cX7_costs 53 = .ok (.iaload, 1) := by decide +kernel
theorem dX7_costs_54 : decode cX7_costs 54 = .ok (.istore 5, 2) := by decide +kernel
theorem dX7_costs_56 : decode cX7_costs 56 = .ok (.aload_n 0, 1) := by decide +kernel
theorem dX7_costs_57 : decode cX7_costs 57 = .ok (.iload 4, 2) := by decide +kernel
theorem dX7_costs_59 : decode cX7_costs 59 = .ok (.iload_n 2, 1) := by decide +kernel
theorem dX7_costs_60 : decode cX7_costs 60 = .ok (.invokevirtual 172, 3) := by decide +kernel
theorem dX7_costs_63 : decode cX7_costs 63 = .ok (.istore 6, 2) := by decide +kernel
theorem dX7_costs_65 : decode cX7_costs 65 = .ok (.ldc2_w 198, 3) := by decide +kernel
theorem dX7_costs_68 : decode cX7_costs 68 = .ok (.lstore 7, 2) := by decide +kernel
theorem dX7_costs_70 : decode cX7_costs 70 = .ok (.sipush 400, 3) := by decide +kernel
theorem dX7_costs_73 : decode cX7_costs 73 = .ok (.istore 9, 2) := by decide +kernel
theorem dX7_costs_75 : decode cX7_costs 75 = .ok (.iload 9, 2) := by decide +kernel
theorem dX7_costs_77 : decode cX7_costs 77 = .ok (.ifCond .lt 146, 3) := by decide +kernel
theorem dX7_costs_80 : decode cX7_costs 80 = .ok (.iload 6, 2) := by decide +kernel
theorem dX7_costs_82 : decode cX7_costs 82 = .ok (.ifCond .lt 121, 3) := by decide +kernel
theorem dX7_costs_85 : decode cX7_costs 85 = .ok (.iload 9, 2) := by decide +kernel
theorem dX7_costs_87 : decode cX7_costs 87 = .ok (.iload 6, 2) := by decide +kernel
theorem dX7_costs_89 : decode cX7_costs 89 = .ok (.iadd, 1) := by decide +kernel
theorem dX7_costs_90 : decode cX7_costs 90 = .ok (.aload_n 0, 1) := by decide +kernel
theorem dX7_costs_91 : decode cX7_costs 91 = .ok (.getfield 7, 3) := by decide +kernel
theorem dX7_costs_94 : decode cX7_costs 94 = .ok (.if_icmp .gt 109, 3) := by decide +kernel
theorem dX7_costs_97 : decode cX7_costs 97 = .ok (.aload_n 0, 1) := by decide +kernel
theorem dX7_costs_98 : decode cX7_costs 98 = .ok (.getfield 50, 3) := by decide +kernel
theorem dX7_costs_101 : decode cX7_costs 101 = .ok (.iload 5, 2) := by decide +kernel
theorem dX7_costs_103 : decode cX7_costs 103 = .ok (.iaload, 1) := by decide +kernel
theorem dX7_costs_104 : decode cX7_costs 104 = .ok (.ifCond .lt 15, 3) := by decide +kernel
theorem dX7_costs_107 : decode cX7_costs 107 = .ok (.aload_n 0, 1) := by decide +kernel
theorem dX7_costs_108 : decode cX7_costs 108 = .ok (.getfield 50, 3) := by decide +kernel
theorem dX7_costs_111 : decode cX7_costs 111 = .ok (.iload 5, 2) := by decide +kernel
theorem dX7_costs_113 : decode cX7_costs 113 = .ok (.iaload, 1) := by decide +kernel
theorem dX7_costs_114 : decode cX7_costs 114 = .ok (.iload 9, 2) := by decide +kernel
theorem dX7_costs_116 : decode cX7_costs 116 = .ok (.if_icmp .ne 87, 3) := by decide +kernel
theorem dX7_costs_119 : decode cX7_costs 119 = .ok (.iload 9, 2) := by decide +kernel
theorem dX7_costs_121 : decode cX7_costs 121 = .ok (.iload 6, 2) := by decide +kernel
theorem dX7_costs_123 : decode cX7_costs 123 = .ok (.iadd, 1) := by decide +kernel
theorem dX7_costs_124 : decode cX7_costs 124 = .ok (.aload_n 0, 1) := by decide +kernel
theorem dX7_costs_125 : decode cX7_costs 125 = .ok (.getfield 13, 3) := by decide +kernel
theorem dX7_costs_128 : decode cX7_costs 128 = .ok (.iadd, 1) := by decide +kernel
theorem dX7_costs_129 : decode cX7_costs 129 = .ok (.istore 10, 2) := by decide +kernel
theorem dX7_costs_131 : decode cX7_costs 131 = .ok (.iload 4, 2) := by decide +kernel
theorem dX7_costs_133 : decode cX7_costs 133 = .ok (.aload_n 0, 1) := by decide +kernel
theorem dX7_costs_134 : decode cX7_costs 134 = .ok (.getfield 169, 3) := by decide +kernel
theorem dX7_costs_137 : decode cX7_costs 137 = .ok (.iconst 1, 1) := by decide +kernel
theorem dX7_costs_138 : decode cX7_costs 138 = .ok (.isub, 1) := by decide +kernel
theorem dX7_costs_139 : decode cX7_costs 139 = .ok (.if_icmp .ne 7, 3) := by decide +kernel
theorem dX7_costs_142 : decode cX7_costs 142 = .ok (.lconst 0, 1) := by decide +kernel
theorem dX7_costs_143 : decode cX7_costs 143 = .ok (.goto 31, 3) := by decide +kernel
theorem dX7_costs_146 : decode cX7_costs 146 = .ok (.iload 10, 2) := by decide +kernel
theorem dX7_costs_148 : decode cX7_costs 148 = .ok (.sipush 400, 3) := by decide +kernel
theorem dX7_costs_151 : decode cX7_costs 151 = .ok (.if_icmp .le 9, 3) := by decide +kernel
theorem dX7_costs_154 : decode cX7_costs 154 = .ok (.ldc2_w 198, 3) := by decide +kernel
theorem dX7_costs_157 : decode cX7_costs 157 = .ok (.goto 17, 3) := by decide +kernel
theorem dX7_costs_160 : decode cX7_costs 160 = .ok (.aload_n 0, 1) := by decide +kernel
theorem dX7_costs_161 : decode cX7_costs 161 = .ok (.getfield 111, 3) := by decide +kernel
theorem dX7_costs_164 : decode cX7_costs 164 = .ok (.iload_n 3, 1) := by decide +kernel
theorem dX7_costs_165 : decode cX7_costs 165 = .ok (.iload 4, 2) := by decide +kernel
theorem dX7_costs_167 : decode cX7_costs 167 = .ok (.iconst 1, 1) := by decide +kernel
theorem dX7_costs_168 : decode cX7_costs 168 = .ok (.iadd, 1) := by decide +kernel
theorem dX7_costs_169 : decode cX7_costs 169 = .ok (.imul, 1) := by decide +kernel
theorem dX7_costs_170 : decode cX7_costs 170 = .ok (.iload 10, 2) := by decide +kernel
theorem dX7_costs_172 : decode cX7_costs 172 = .ok (.iadd, 1) := by decide +kernel
theorem dX7_costs_173 : decode cX7_costs 173 = .ok (.laload, 1) := by decide +kernel
theorem dX7_costs_174 : decode cX7_costs 174 = .ok (.lstore 11, 2) := by decide +kernel
theorem dX7_costs_176 : decode cX7_costs 176 = .ok (.lload 11, 2) := by decide +kernel
theorem dX7_costs_178 : decode cX7_costs 178 = .ok (.ldc2_w 198, 3) := by decide +kernel
theorem dX7_costs_181 : decode cX7_costs 181 = .ok (.lcmp, 1) := by decide +kernel
theorem dX7_costs_182 : decode cX7_costs 182 = .ok (.ifCond .ge 21, 3) := by decide +kernel
theorem dX7_costs_185 : decode cX7_costs 185 = .ok (.lload 7, 2) := by decide +kernel
theorem dX7_costs_187 : decode cX7_costs 187 = .ok (.lload 11, 2) := by decide +kernel
theorem dX7_costs_189 : decode cX7_costs 189 = .ok (.aload_n 0, 1) := by decide +kernel
theorem dX7_costs_190 : decode cX7_costs 190 = .ok (.iload 5, 2) := by decide +kernel
theorem dX7_costs_192 : decode cX7_costs 192 = .ok (.iload 9, 2) := by decide +kernel
theorem dX7_costs_194 : decode cX7_costs 194 = .ok (.invokevirtual 200, 3) := by decide +kernel
theorem dX7_costs_197 : decode cX7_costs 197 = .ok (.ladd, 1) := by decide +kernel
theorem dX7_costs_198 : decode cX7_costs 198 = .ok (.invokestatic 204, 3) := by decide +kernel
theorem dX7_costs_201 : decode cX7_costs 201 = .ok (.lstore 7, 2) := by decide +kernel
theorem dX7_costs_203 : decode cX7_costs 203 = .ok (.aload_n 0, 1) := by decide +kernel
theorem dX7_costs_204 : decode cX7_costs 204 = .ok (.getfield 111, 3) := by decide +kernel
theorem dX7_costs_207 : decode cX7_costs 207 = .ok (.iload_n 3, 1) := by decide +kernel
theorem dX7_costs_208 : decode cX7_costs 208 = .ok (.iload 4, 2) := by decide +kernel
theorem dX7_costs_210 : decode cX7_costs 210 = .ok (.imul, 1) := by decide +kernel
theorem dX7_costs_211 : decode cX7_costs 211 = .ok (.iload 9, 2) := by decide +kernel
theorem dX7_costs_213 : decode cX7_costs 213 = .ok (.iadd, 1) := by decide +kernel
theorem dX7_costs_214 : decode cX7_costs 214 = .ok (.lload 7, 2) := by decide +kernel
theorem dX7_costs_216 : decode cX7_costs 216 = .ok (.lastore, 1) := by decide +kernel
theorem dX7_costs_217 : decode cX7_costs 217 = .ok (.iinc 9 (-1), 3) := by decide +kernel
theorem dX7_costs_220 : decode cX7_costs 220 = .ok (.goto (-145), 3) := by decide +kernel
theorem dX7_costs_223 : decode cX7_costs 223 = .ok (.iinc 4 (-1), 3) := by decide +kernel
theorem dX7_costs_226 : decode cX7_costs 226 = .ok (.goto (-184), 3) := by decide +kernel
theorem dX7_costs_229 : decode cX7_costs 229 = .ok (.iload_n 1, 1) := by decide +kernel
theorem dX7_costs_230 : decode cX7_costs 230 = .ok (.ifCond .le 12, 3) := by decide +kernel
theorem dX7_costs_233 : decode cX7_costs 233 = .ok (.iload_n 1, 1) := by decide +kernel
theorem dX7_costs_234 : decode cX7_costs 234 = .ok (.aload_n 0, 1) := by decide +kernel
theorem dX7_costs_235 : decode cX7_costs 235 = .ok (.getfield 13, 3) := by decide +kernel
theorem dX7_costs_238 : decode cX7_costs 238 = .ok (.iadd, 1) := by decide +kernel
theorem dX7_costs_239 : decode cX7_costs 239 = .ok (.goto 4, 3) := by decide +kernel
theorem dX7_costs_242 : decode cX7_costs 242 = .ok (.iconst 0, 1) := by decide +kernel
theorem dX7_costs_243 : decode cX7_costs 243 = .ok (.istore 4, 2) := by decide +kernel
theorem dX7_costs_245 : decode cX7_costs 245 = .ok (.aload_n 0, 1) := by decide +kernel
theorem dX7_costs_246 : decode cX7_costs 246 = .ok (.getfield 169, 3) := by decide +kernel
theorem dX7_costs_249 : decode cX7_costs 249 = .ok (.ifCond .le 15, 3) := by decide +kernel
theorem dX7_costs_252 : decode cX7_costs 252 = .ok (.iload 4, 2) := by decide +kernel
theorem dX7_costs_254 : decode cX7_costs 254 = .ok (.sipush 400, 3) := by decide +kernel
theorem dX7_costs_257 : decode cX7_costs 257 = .ok (.if_icmp .le 7, 3) := by decide +kernel
theorem dX7_costs_260 : decode cX7_costs 260 = .ok (.ldc2_w 198, 3) := by decide +kernel
theorem dX7_costs_263 : decode cX7_costs 263 = .ok (.lreturn, 1) := by decide +kernel
theorem dX7_costs_264 : decode cX7_costs 264 = .ok (.aload_n 0, 1) := by decide +kernel
theorem dX7_costs_265 : decode cX7_costs 265 = .ok (.getfield 169, 3) := by decide +kernel
theorem dX7_costs_268 : decode cX7_costs 268 = .ok (.ifCond .ne 7, 3) := by decide +kernel
theorem dX7_costs_271 : decode cX7_costs 271 = .ok (.lconst 0, 1) := by decide +kernel
theorem dX7_costs_272 : decode cX7_costs 272 = .ok (.goto 10, 3) := by decide +kernel
theorem dX7_costs_275 : decode cX7_costs 275 = .ok (.aload_n 0, 1) := by decide +kernel
theorem dX7_costs_276 : decode cX7_costs 276 = .ok (.getfield 111, 3) := by decide +kernel
theorem dX7_costs_279 : decode cX7_costs 279 = .ok (.iload 4, 2) := by decide +kernel
theorem dX7_costs_281 : decode cX7_costs 281 = .ok (.laload, 1) := by decide +kernel
theorem dX7_costs_282 : decode cX7_costs 282 = .ok (.lstore 5, 2) := by decide +kernel
theorem dX7_costs_284 : decode cX7_costs 284 = .ok (.lload 5, 2) := by decide +kernel
theorem dX7_costs_286 : decode cX7_costs 286 = .ok (.ldc2_w 198, 3) := by decide +kernel
theorem dX7_costs_289 : decode cX7_costs 289 = .ok (.lcmp, 1) := by decide +kernel
theorem dX7_costs_290 : decode cX7_costs 290 = .ok (.ifCond .lt 9, 3) := by decide +kernel
theorem dX7_costs_293 : decode cX7_costs 293 = .ok (.ldc2_w 198, 3) := by decide +kernel
theorem dX7_costs_296 : decode cX7_costs 296 = .ok (.goto 19, 3) := by decide +kernel
theorem dX7_costs_299 : decode cX7_costs 299 = .ok (.lload 5, 2) := by decide +kernel
theorem dX7_costs_301 : decode cX7_costs 301 = .ok (.iload_n 2, 1) := by decide +kernel
theorem dX7_costs_302 : decode cX7_costs 302 = .ok (.ifCond .le 10, 3) := by decide +kernel
theorem dX7_costs_305 : decode cX7_costs 305 = .ok (.aload_n 0, 1) := by decide +kernel
theorem dX7_costs_306 : decode cX7_costs 306 = .ok (.getfield 16, 3) := by decide +kernel
theorem dX7_costs_309 : decode cX7_costs 309 = .ok (.goto 4, 3) := by decide +kernel
theorem dX7_costs_312 : decode cX7_costs 312 = .ok (.iconst 0, 1) := by decide +kernel
theorem dX7_costs_313 : decode cX7_costs 313 = .ok (.i2l, 1) := by decide +kernel
theorem dX7_costs_314 : decode cX7_costs 314 = .ok (.ladd, 1) := by decide +kernel
theorem dX7_costs_315 : decode cX7_costs 315 = .ok (.lreturn, 1) := by decide +kernel
theorem dX7_own_0 : decode cX7_own 0 = .ok (.aload_n 0, 1) := by decide +kernel
theorem dX7_own_1 : decode cX7_own 1 = .ok (.getfield 50, 3) := by decide +kernel
theorem dX7_own_4 : decode cX7_own 4 = .ok (.iload_n 1, 1) := by decide +kernel
theorem dX7_own_5 : decode cX7_own 5 = .ok (.iaload, 1) := by decide +kernel
theorem dX7_own_6 : decode cX7_own 6 = .ok (.ifCond .lt 7, 3) := by decide +kernel
theorem dX7_own_9 : decode cX7_own 9 = .ok (.lconst 0, 1) := by decide +kernel
theorem dX7_own_10 : decode cX7_own 10 = .ok (.goto 28, 3) := by decide +kernel
theorem dX7_own_13 : decode cX7_own 13 = .ok (.aload_n 0, 1) := by decide +kernel
theorem dX7_own_14 : decode cX7_own 14 = .ok (.getfield 32, 3) := by decide +kernel
theorem dX7_own_17 : decode cX7_own 17 = .ok (.iload_n 1, 1) := by decide +kernel
theorem dX7_own_18 : decode cX7_own 18 = .ok (.iaload, 1) := by decide +kernel
theorem dX7_own_19 : decode cX7_own 19 = .ok (.i2l, 1) := by decide +kernel
theorem dX7_own_20 : decode cX7_own 20 = .ok (.iload_n 2, 1) := by decide +kernel
theorem dX7_own_21 : decode cX7_own 21 = .ok (.aload_n 0, 1) := by decide +kernel
theorem dX7_own_22 : decode cX7_own 22 = .ok (.getfield 72, 3) := by decide +kernel
theorem dX7_own_25 : decode cX7_own 25 = .ok (.aload_n 0, 1) := by decide +kernel
theorem dX7_own_26 : decode cX7_own 26 = .ok (.getfield 26, 3) := by decide +kernel
theorem dX7_own_29 : decode cX7_own 29 = .ok (.iload_n 1, 1) := by decide +kernel
theorem dX7_own_30 : decode cX7_own 30 = .ok (.iaload, 1) := by decide +kernel
theorem dX7_own_31 : decode cX7_own 31 = .ok (.iaload, 1) := by decide +kernel
theorem dX7_own_32 : decode cX7_own 32 = .ok (.isub, 1) := by decide +kernel
theorem dX7_own_33 : decode cX7_own 33 = .ok (.invokestatic 210, 3) := by decide +kernel
theorem dX7_own_36 : decode cX7_own 36 = .ok (.i2l, 1) := by decide +kernel
theorem dX7_own_37 : decode cX7_own 37 = .ok (.lmul, 1) := by decide +kernel
theorem dX7_own_38 : decode cX7_own 38 = .ok (.lreturn, 1) := by decide +kernel
theorem dX7_sets_0 : decode cX7_sets 0 = .ok (.aload_n 0, 1) := by decide +kernel
theorem dX7_sets_1 : decode cX7_sets 1 = .ok (.aload_n 0, 1) := by decide +kernel
theorem dX7_sets_2 : decode cX7_sets 2 = .ok (.getfield 59, 3) := by decide +kernel
theorem dX7_sets_5 : decode cX7_sets 5 = .ok (.iload_n 1, 1) := by decide +kernel
theorem dX7_sets_6 : decode cX7_sets 6 = .ok (.iaload, 1) := by decide +kernel
theorem dX7_sets_7 : decode cX7_sets 7 = .ok (.aload_n 0, 1) := by decide +kernel
theorem dX7_sets_8 : decode cX7_sets 8 = .ok (.getfield 62, 3) := by decide +kernel
theorem dX7_sets_11 : decode cX7_sets 11 = .ok (.iload_n 1, 1) := by decide +kernel
theorem dX7_sets_12 : decode cX7_sets 12 = .ok (.iaload, 1) := by decide +kernel
theorem dX7_sets_13 : decode cX7_sets 13 = .ok (.invokevirtual 176, 3) := by decide +kernel
theorem dX7_sets_16 : decode cX7_sets 16 = .ok (.istore_n 2, 1) := by decide +kernel
theorem dX7_sets_17 : decode cX7_sets 17 = .ok (.ldc2_w 198, 3) := by decide +kernel
theorem dX7_sets_20 : decode cX7_sets 20 = .ok (.lstore_n 3, 1) := by decide +kernel
theorem dX7_sets_21 : decode cX7_sets 21 = .ok (.iconst 0, 1) := by decide +kernel
theorem dX7_sets_22 : decode cX7_sets 22 = .ok (.istore 5, 2) := by decide +kernel
theorem dX7_sets_24 : decode cX7_sets 24 = .ok (.iconst 0, 1) := by decide +kernel
theorem dX7_sets_25 : decode cX7_sets 25 = .ok (.istore 6, 2) := by decide +kernel
theorem dX7_sets_27 : decode cX7_sets 27 = .ok (.iload 6, 2) := by decide +kernel
theorem dX7_sets_29 : decode cX7_sets 29 = .ok (.iconst 1, 1) := by decide +kernel
theorem dX7_sets_30 : decode cX7_sets 30 = .ok (.iload_n 2, 1) := by decide +kernel
theorem dX7_sets_31 : decode cX7_sets 31 = .ok (.ishl, 1) := by decide +kernel
theorem dX7_sets_32 : decode cX7_sets 32 = .ok (.if_icmp .ge 182, 3) := by decide +kernel
theorem dX7_sets_35 : decode cX7_sets 35 = .ok (.aload_n 0, 1) := by decide +kernel
theorem dX7_sets_36 : decode cX7_sets 36 = .ok (.iload_n 2, 1) := by decide +kernel
theorem dX7_sets_37 : decode cX7_sets 37 = .ok (.iload 6, 2) := by decide +kernel
theorem dX7_sets_39 : decode cX7_sets 39 = .ok (.invokevirtual 179, 3) := by decide +kernel
theorem dX7_sets_42 : decode cX7_sets 42 = .ok (.lconst 0, 1) := by decide +kernel
theorem dX7_sets_43 : decode cX7_sets 43 = .ok (.lstore 7, 2) := by decide +kernel
theorem dX7_sets_45 : decode cX7_sets 45 = .ok (.iconst 0, 1) := by decide +kernel
theorem dX7_sets_46 : decode cX7_sets 46 = .ok (.istore 9, 2) := by decide +kernel
theorem dX7_sets_48 : decode cX7_sets 48 = .ok (.iload 9, 2) := by decide +kernel
theorem dX7_sets_50 : decode cX7_sets 50 = .ok (.iconst 2, 1) := by decide +kernel
theorem dX7_sets_51 : decode cX7_sets 51 = .ok (.if_icmp .ge 116, 3) := by decide +kernel
theorem dX7_sets_54 : decode cX7_sets 54 = .ok (.aload_n 0, 1) := by decide +kernel
theorem dX7_sets_55 : decode cX7_sets 55 = .ok (.iload 9, 2) := by decide +kernel
theorem dX7_sets_57 : decode cX7_sets 57 = .ok (.invokevirtual 187, 3) := by decide +kernel
theorem dX7_sets_60 : decode cX7_sets 60 = .ok (.ldc2_w 198, 3) := by decide +kernel
theorem dX7_sets_63 : decode cX7_sets 63 = .ok (.lstore 10, 2) := by decide +kernel
theorem dX7_sets_65 : decode cX7_sets 65 = .ok (.aload_n 0, 1) := by decide +kernel
theorem dX7_sets_66 : decode cX7_sets 66 = .ok (.invokevirtual 191, 3) := by decide +kernel
theorem dX7_sets_69 : decode cX7_sets 69 = .ok (.istore 12, 2) := by decide +kernel
theorem dX7_sets_71 : decode cX7_sets 71 = .ok (.iconst 0, 1) := by decide +kernel
theorem dX7_sets_72 : decode cX7_sets 72 = .ok (.istore 13, 2) := by decide +kernel
theorem dX7_sets_74 : decode cX7_sets 74 = .ok (.iload 13, 2) := by decide +kernel
theorem dX7_sets_76 : decode cX7_sets 76 = .ok (.iload 12, 2) := by decide +kernel
theorem dX7_sets_78 : decode cX7_sets 78 = .ok (.if_icmp .ge 52, 3) := by decide +kernel
theorem dX7_sets_81 : decode cX7_sets 81 = .ok (.aload_n 0, 1) := by decide +kernel
theorem dX7_sets_82 : decode cX7_sets 82 = .ok (.aload_n 0, 1) := by decide +kernel
theorem dX7_sets_83 : decode cX7_sets 83 = .ok (.getfield 65, 3) := by decide +kernel
theorem dX7_sets_86 : decode cX7_sets 86 = .ok (.iconst 2, 1) := by decide +kernel
theorem dX7_sets_87 : decode cX7_sets 87 = .ok (.iload_n 1, 1) := by decide +kernel
theorem dX7_sets_88 : decode cX7_sets 88 = .ok (.imul, 1) := by decide +kernel
theorem dX7_sets_89 : decode cX7_sets 89 = .ok (.iload 9, 2) := by decide +kernel
theorem dX7_sets_91 : decode cX7_sets 91 = .ok (.iadd, 1) := by decide +kernel
theorem dX7_sets_92 : decode cX7_sets 92 = .ok (.iaload, 1) := by decide +kernel
theorem dX7_sets_93 : decode cX7_sets 93 = .ok (.iload 13, 2) := by decide +kernel
theorem dX7_sets_95 : decode cX7_sets 95 = .ok (.invokevirtual 213, 3) := by decide +kernel
theorem dX7_sets_98 : decode cX7_sets 98 = .ok (.lstore 14, 2) := by decide +kernel
theorem dX7_sets_100 : decode cX7_sets 100 = .ok (.lload 14, 2) := by decide +kernel
theorem dX7_sets_102 : decode cX7_sets 102 = .ok (.lload 10, 2) := by decide +kernel
theorem dX7_sets_104 : decode cX7_sets 104 = .ok (.lcmp, 1) := by decide +kernel
theorem dX7_sets_105 : decode cX7_sets 105 = .ok (.ifCond .lt 6, 3) := by decide +kernel
theorem dX7_sets_108 : decode cX7_sets 108 = .ok (.goto 16, 3) := by decide +kernel
theorem dX7_sets_111 : decode cX7_sets 111 = .ok (.lload 14, 2) := by decide +kernel
theorem dX7_sets_113 : decode cX7_sets 113 = .ok (.lstore 10, 2) := by decide +kernel
theorem dX7_sets_115 : decode cX7_sets 115 = .ok (.aload_n 0, 1) := by decide +kernel
theorem dX7_sets_116 : decode cX7_sets 116 = .ok (.getfield 105, 3) := by decide +kernel
theorem dX7_sets_119 : decode cX7_sets 119 = .ok (.iload 9, 2) := by decide +kernel
theorem dX7_sets_121 : decode cX7_sets 121 = .ok (.iload 13, 2) := by decide +kernel
theorem dX7_sets_123 : decode cX7_sets 123 = .ok (.iastore, 1) := by decide +kernel
theorem dX7_sets_124 : decode cX7_sets 124 = .ok (.iinc 13 1, 3) := by decide +kernel
theorem dX7_sets_127 : decode cX7_sets 127 = .ok (.goto (-53), 3) := by decide +kernel
theorem dX7_sets_130 : decode cX7_sets 130 = .ok (.lload 10, 2) := by decide +kernel
theorem dX7_sets_132 : decode cX7_sets 132 = .ok (.ldc2_w 198, 3) := by decide +kernel
theorem dX7_sets_135 : decode cX7_sets 135 = .ok (.lcmp, 1) := by decide +kernel
theorem dX7_sets_136 : decode cX7_sets 136 = .ok (.ifCond .ge 12, 3) := by decide +kernel
theorem dX7_sets_139 : decode cX7_sets 139 = .ok (.lload 7, 2) := by decide +kernel
theorem dX7_sets_141 : decode cX7_sets 141 = .ok (.ldc2_w 198, 3) := by decide +kernel
theorem dX7_sets_144 : decode cX7_sets 144 = .ok (.lcmp, 1) := by decide +kernel
theorem dX7_sets_145 : decode cX7_sets 145 = .ok (.ifCond .lt 9, 3) := by decide +kernel
theorem dX7_sets_148 : decode cX7_sets 148 = .ok (.ldc2_w 198, 3) := by decide +kernel
theorem dX7_sets_151 : decode cX7_sets 151 = .ok (.goto 8, 3) := by decide +kernel
theorem dX7_sets_154 : decode cX7_sets 154 = .ok (.lload 7, 2) := by decide +kernel
theorem dX7_sets_156 : decode cX7_sets 156 = .ok (.lload 10, 2) := by decide +kernel
theorem dX7_sets_158 : decode cX7_sets 158 = .ok (.ladd, 1) := by decide +kernel
theorem dX7_sets_159 : decode cX7_sets 159 = .ok (.lstore 7, 2) := by decide +kernel
theorem dX7_sets_161 : decode cX7_sets 161 = .ok (.iinc 9 1, 3) := by decide +kernel
theorem dX7_sets_164 : decode cX7_sets 164 = .ok (.goto (-116), 3) := by decide +kernel
theorem dX7_sets_167 : decode cX7_sets 167 = .ok (.lload 7, 2) := by decide +kernel
theorem dX7_sets_169 : decode cX7_sets 169 = .ok (.lload_n 3, 1) := by decide +kernel
theorem dX7_sets_170 : decode cX7_sets 170 = .ok (.lcmp, 1) := by decide +kernel
theorem dX7_sets_171 : decode cX7_sets 171 = .ok (.ifCond .lt 6, 3) := by decide +kernel
theorem dX7_sets_174 : decode cX7_sets 174 = .ok (.goto 34, 3) := by decide +kernel
theorem dX7_sets_177 : decode cX7_sets 177 = .ok (.lload 7, 2) := by decide +kernel
theorem dX7_sets_179 : decode cX7_sets 179 = .ok (.lstore_n 3, 1) := by decide +kernel
theorem dX7_sets_180 : decode cX7_sets 180 = .ok (.iload 6, 2) := by decide +kernel
theorem dX7_sets_182 : decode cX7_sets 182 = .ok (.istore 5, 2) := by decide +kernel
theorem dX7_sets_184 : decode cX7_sets 184 = .ok (.aload_n 0, 1) := by decide +kernel
theorem dX7_sets_185 : decode cX7_sets 185 = .ok (.getfield 108, 3) := by decide +kernel
theorem dX7_sets_188 : decode cX7_sets 188 = .ok (.iconst 0, 1) := by decide +kernel
theorem dX7_sets_189 : decode cX7_sets 189 = .ok (.aload_n 0, 1) := by decide +kernel
theorem dX7_sets_190 : decode cX7_sets 190 = .ok (.getfield 105, 3) := by decide +kernel
theorem dX7_sets_193 : decode cX7_sets 193 = .ok (.iconst 0, 1) := by decide +kernel
theorem dX7_sets_194 : decode cX7_sets 194 = .ok (.iaload, 1) := by decide +kernel
theorem dX7_sets_195 : decode cX7_sets 195 = .ok (.iastore, 1) := by decide +kernel
theorem dX7_sets_196 : decode cX7_sets 196 = .ok (.aload_n 0, 1) := by decide +kernel
theorem dX7_sets_197 : decode cX7_sets 197 = .ok (.getfield 108, 3) := by decide +kernel
theorem dX7_sets_200 : decode cX7_sets 200 = .ok (.iconst 1, 1) := by decide +kernel
theorem dX7_sets_201 : decode cX7_sets 201 = .ok (.aload_n 0, 1) := by decide +kernel
theorem dX7_sets_202 : decode cX7_sets 202 = .ok (.getfield 105, 3) := by decide +kernel
theorem dX7_sets_205 : decode cX7_sets 205 = .ok (.iconst 1, 1) := by decide +kernel
theorem dX7_sets_206 : decode cX7_sets 206 = .ok (.iaload, 1) := by decide +kernel
theorem dX7_sets_207 : decode cX7_sets 207 = .ok (.iastore, 1) := by decide +kernel
theorem dX7_sets_208 : decode cX7_sets 208 = .ok (.iinc 6 1, 3) := by decide +kernel
theorem dX7_sets_211 : decode cX7_sets 211 = .ok (.goto (-184), 3) := by decide +kernel
theorem dX7_sets_214 : decode cX7_sets 214 = .ok (.aload_n 0, 1) := by decide +kernel
theorem dX7_sets_215 : decode cX7_sets 215 = .ok (.getfield 68, 3) := by decide +kernel
theorem dX7_sets_218 : decode cX7_sets 218 = .ok (.iload_n 1, 1) := by decide +kernel
theorem dX7_sets_219 : decode cX7_sets 219 = .ok (.lload_n 3, 1) := by decide +kernel
theorem dX7_sets_220 : decode cX7_sets 220 = .ok (.lastore, 1) := by decide +kernel
theorem dX7_sets_221 : decode cX7_sets 221 = .ok (.aload_n 0, 1) := by decide +kernel
theorem dX7_sets_222 : decode cX7_sets 222 = .ok (.iload_n 2, 1) := by decide +kernel
theorem dX7_sets_223 : decode cX7_sets 223 = .ok (.iload 5, 2) := by decide +kernel
theorem dX7_sets_225 : decode cX7_sets 225 = .ok (.invokevirtual 179, 3) := by decide +kernel
theorem dX7_sets_228 : decode cX7_sets 228 = .ok (.iconst 0, 1) := by decide +kernel
theorem dX7_sets_229 : decode cX7_sets 229 = .ok (.istore 6, 2) := by decide +kernel
theorem dX7_sets_231 : decode cX7_sets 231 = .ok (.iload 6, 2) := by decide +kernel
theorem dX7_sets_233 : decode cX7_sets 233 = .ok (.iconst 2, 1) := by decide +kernel
theorem dX7_sets_234 : decode cX7_sets 234 = .ok (.if_icmp .ge 16, 3) := by decide +kernel
theorem dX7_sets_237 : decode cX7_sets 237 = .ok (.aload_n 0, 1) := by decide +kernel
theorem dX7_sets_238 : decode cX7_sets 238 = .ok (.iload_n 1, 1) := by decide +kernel
theorem dX7_sets_239 : decode cX7_sets 239 = .ok (.iload 6, 2) := by decide +kernel
theorem dX7_sets_241 : decode cX7_sets 241 = .ok (.invokevirtual 216, 3) := by decide +kernel
theorem dX7_sets_244 : decode cX7_sets 244 = .ok (.iinc 6 1, 3) := by decide +kernel
theorem dX7_sets_247 : decode cX7_sets 247 = .ok (.goto (-16), 3) := by decide +kernel
theorem dX7_sets_250 : decode cX7_sets 250 = .ok (.return_, 1) := by decide +kernel
theorem dX7_places_0 : decode cX7_places 0 = .ok (.aload_n 0, 1) := by decide +kernel
theorem dX7_places_1 : decode cX7_places 1 = .ok (.iload_n 2, 1) := by decide +kernel
theorem dX7_places_2 : decode cX7_places 2 = .ok (.invokevirtual 187, 3) := by decide +kernel
theorem dX7_places_5 : decode cX7_places 5 = .ok (.aload_n 0, 1) := by decide +kernel
theorem dX7_places_6 : decode cX7_places 6 = .ok (.getfield 108, 3) := by decide +kernel
theorem dX7_places_9 : decode cX7_places 9 = .ok (.iload_n 2, 1) := by decide +kernel
theorem dX7_places_10 : decode cX7_places 10 = .ok (.iaload, 1) := by decide +kernel
theorem dX7_places_11 : decode cX7_places 11 = .ok (.istore_n 3, 1) := by decide +kernel
theorem dX7_places_12 : decode cX7_places 12 = .ok (.aload_n 0, 1) := by decide +kernel
theorem dX7_places_13 : decode cX7_places 13 = .ok (.aload_n 0, 1) := by decide +kernel
theorem dX7_places_14 : decode cX7_places 14 = .ok (.getfield 65, 3) := by decide +kernel
theorem dX7_places_17 : decode cX7_places 17 = .ok (.iconst 2, 1) := by decide +kernel
theorem dX7_places_18 : decode cX7_places 18 = .ok (.iload_n 1, 1) := by decide +kernel
theorem dX7_places_19 : decode cX7_places 19 = .ok (.imul, 1) := by decide +kernel
theorem dX7_places_20 : decode cX7_places 20 = .ok (.iload_n 2, 1) := by decide +kernel
theorem dX7_places_21 : decode cX7_places 21 = .ok (.iadd, 1) := by decide +kernel
theorem dX7_places_22 : decode cX7_places 22 = .ok (.iaload, 1) := by decide +kernel
theorem dX7_places_23 : decode cX7_places 23 = .ok (.iload_n 3, 1) := by decide +kernel
theorem dX7_places_24 : decode cX7_places 24 = .ok (.invokevirtual 213, 3) := by decide +kernel
theorem dX7_places_27 : decode cX7_places 27 = .ok (.pop2, 1) := by decide +kernel
theorem dX7_places_28 : decode cX7_places 28 = .ok (.sipush 401, 3) := by decide +kernel
theorem dX7_places_31 : decode cX7_places 31 = .ok (.istore 4, 2) := by decide +kernel
theorem dX7_places_33 : decode cX7_places 33 = .ok (.aload_n 0, 1) := by decide +kernel
theorem dX7_places_34 : decode cX7_places 34 = .ok (.getfield 65, 3) := by decide +kernel
theorem dX7_places_37 : decode cX7_places 37 = .ok (.iconst 2, 1) := by decide +kernel
theorem dX7_places_38 : decode cX7_places 38 = .ok (.iload_n 1, 1) := by decide +kernel
theorem dX7_places_39 : decode cX7_places 39 = .ok (.imul, 1) := by decide +kernel
theorem dX7_places_40 : decode cX7_places 40 = .ok (.iload_n 2, 1) := by decide +kernel
theorem dX7_places_41 : decode cX7_places 41 = .ok (.iadd, 1) := by decide +kernel
theorem dX7_places_42 : decode cX7_places 42 = .ok (.iaload, 1) := by decide +kernel
theorem dX7_places_43 : decode cX7_places 43 = .ok (.ifCond .le 21, 3) := by decide +kernel
theorem dX7_places_46 : decode cX7_places 46 = .ok (.aload_n 0, 1) := by decide +kernel
theorem dX7_places_47 : decode cX7_places 47 = .ok (.getfield 65, 3) := by decide +kernel
theorem dX7_places_50 : decode cX7_places 50 = .ok (.iconst 2, 1) := by decide +kernel
theorem dX7_places_51 : decode cX7_places 51 = .ok (.iload_n 1, 1) := by decide +kernel
theorem dX7_places_52 : decode cX7_places 52 = .ok (.imul, 1) := by decide +kernel
theorem dX7_places_53 : decode cX7_places 53 = .ok (.iload_n 2, 1) := by decide +kernel
theorem dX7_places_54 : decode cX7_places 54 = .ok (.iadd, 1) := by decide +kernel
theorem dX7_places_55 : decode cX7_places 55 = .ok (.iaload, 1) := by decide +kernel
theorem dX7_places_56 : decode cX7_places 56 = .ok (.aload_n 0, 1) := by decide +kernel
theorem dX7_places_57 : decode cX7_places 57 = .ok (.getfield 13, 3) := by decide +kernel
theorem dX7_places_60 : decode cX7_places 60 = .ok (.iadd, 1) := by decide +kernel
theorem dX7_places_61 : decode cX7_places 61 = .ok (.goto 4, 3) := by decide +kernel
theorem dX7_places_64 : decode cX7_places 64 = .ok (.iconst 0, 1) := by decide +kernel
theorem dX7_places_65 : decode cX7_places 65 = .ok (.istore 5, 2) := by decide +kernel
theorem dX7_places_67 : decode cX7_places 67 = .ok (.aload_n 0, 1) := by decide +kernel
theorem dX7_places_68 : decode cX7_places 68 = .ok (.getfield 65, 3) := by decide +kernel
theorem dX7_places_71 : decode cX7_places 71 = .ok (.iconst 2, 1) := by decide +kernel
theorem dX7_places_72 : decode cX7_places 72 = .ok (.iload_n 1, 1) := by decide +kernel
theorem dX7_places_73 : decode cX7_places 73 = .ok (.imul, 1) := by decide +kernel
theorem dX7_places_74 : decode cX7_places 74 = .ok (.iconst 2, 1) := by decide +kernel
theorem dX7_places_75 : decode cX7_places 75 = .ok (.iadd, 1) := by decide +kernel
theorem dX7_places_76 : decode cX7_places 76 = .ok (.iload_n 2, 1) := by decide +kernel
theorem dX7_places_77 : decode cX7_places 77 = .ok (.iadd, 1) := by decide +kernel
theorem dX7_places_78 : decode cX7_places 78 = .ok (.iconst 0, 1) := by decide +kernel
theorem dX7_places_79 : decode cX7_places 79 = .ok (.iastore, 1) := by decide +kernel
theorem dX7_places_80 : decode cX7_places 80 = .ok (.iconst 0, 1) := by decide +kernel
theorem dX7_places_81 : decode cX7_places 81 = .ok (.istore 6, 2) := by decide +kernel
theorem dX7_places_83 : decode cX7_places 83 = .ok (.iload 6, 2) := by decide +kernel
theorem dX7_places_85 : decode cX7_places 85 = .ok (.aload_n 0, 1) := by decide +kernel
theorem dX7_places_86 : decode cX7_places 86 = .ok (.getfield 169, 3) := by decide +kernel
theorem dX7_places_89 : decode cX7_places 89 = .ok (.if_icmp .ge 163, 3) := by decide +kernel
theorem dX7_places_92 : decode cX7_places 92 = .ok (.aload_n 0, 1) := by decide +kernel
theorem dX7_places_93 : decode cX7_places 93 = .ok (.getfield 102, 3) := by decide +kernel
theorem dX7_places_96 : decode cX7_places 96 = .ok (.iload 6, 2) := by decide +kernel
theorem dX7_places_98 : decode cX7_places 98 = .ok (.iaload, 1) := by decide +kernel
theorem dX7_places_99 : decode cX7_places 99 = .ok (.istore 7, 2) := by decide +kernel
theorem dX7_places_101 : decode cX7_places 101 = .ok (.aload_n 0, 1) := by decide +kernel
theorem dX7_places_102 : decode cX7_places 102 = .ok (.getfield 111, 3) := by decide +kernel
theorem dX7_places_105 : decode cX7_places 105 = .ok (.iload 4, 2) := by decide +kernel
theorem dX7_places_107 : decode cX7_places 107 = .ok (.iload 6, 2) := by decide +kernel
theorem dX7_places_109 : decode cX7_places 109 = .ok (.imul, 1) := by decide +kernel
theorem dX7_places_110 : decode cX7_places 110 = .ok (.iload 5, 2) := by decide +kernel
theorem dX7_places_112 : decode cX7_places 112 = .ok (.iadd, 1) := by decide +kernel
theorem dX7_places_113 : decode cX7_places 113 = .ok (.laload, 1) := by decide +kernel
theorem dX7_places_114 : decode cX7_places 114 = .ok (.lstore 8, 2) := by decide +kernel
theorem dX7_places_116 : decode cX7_places 116 = .ok (.iload 5, 2) := by decide +kernel
theorem dX7_places_118 : decode cX7_places 118 = .ok (.istore 10, 2) := by decide +kernel
theorem dX7_places_120 : decode cX7_places 120 = .ok (.aload_n 0, 1) := by decide +kernel
theorem dX7_places_121 : decode cX7_places 121 = .ok (.iload 6, 2) := by decide +kernel
theorem dX7_places_123 : decode cX7_places 123 = .ok (.iload_n 3, 1) := by decide +kernel
theorem dX7_places_124 : decode cX7_places 124 = .ok (.iload 10, 2) := by decide +kernel
theorem dX7_places_126 : decode cX7_places 126 = .ok (.lload 8, 2) := by decide +kernel
theorem dX7_places_128 : decode cX7_places 128 = .ok (.invokevirtual 219, 3) := by decide +kernel
theorem dX7_places_131 : decode cX7_places 131 = .ok (.ifCond .ne 9, 3) := by decide +kernel
theorem dX7_places_134 : decode cX7_places 134 = .ok (.iinc 10 1, 3) := by decide +kernel
theorem dX7_places_137 : decode cX7_places 137 = .ok (.goto (-17), 3) := by decide +kernel
theorem dX7_places_140 : decode cX7_places 140 = .ok (.aload_n 0, 1) := by decide +kernel
theorem dX7_places_141 : decode cX7_places 141 = .ok (.getfield 78, 3) := by decide +kernel
theorem dX7_places_144 : decode cX7_places 144 = .ok (.iload 7, 2) := by decide +kernel
theorem dX7_places_146 : decode cX7_places 146 = .ok (.iload_n 2, 1) := by decide +kernel
theorem dX7_places_147 : decode cX7_places 147 = .ok (.iastore, 1) := by decide +kernel
theorem dX7_places_148 : decode cX7_places 148 = .ok (.aload_n 0, 1) := by decide +kernel
theorem dX7_places_149 : decode cX7_places 149 = .ok (.getfield 81, 3) := by decide +kernel
theorem dX7_places_152 : decode cX7_places 152 = .ok (.iload 7, 2) := by decide +kernel
theorem dX7_places_154 : decode cX7_places 154 = .ok (.iload 10, 2) := by decide +kernel
theorem dX7_places_156 : decode cX7_places 156 = .ok (.iastore, 1) := by decide +kernel
theorem dX7_places_157 : decode cX7_places 157 = .ok (.aload_n 0, 1) := by decide +kernel
theorem dX7_places_158 : decode cX7_places 158 = .ok (.getfield 84, 3) := by decide +kernel
theorem dX7_places_161 : decode cX7_places 161 = .ok (.iload 7, 2) := by decide +kernel
theorem dX7_places_163 : decode cX7_places 163 = .ok (.aload_n 0, 1) := by decide +kernel
theorem dX7_places_164 : decode cX7_places 164 = .ok (.iload 6, 2) := by decide +kernel
theorem dX7_places_166 : decode cX7_places 166 = .ok (.iload_n 3, 1) := by decide +kernel
theorem dX7_places_167 : decode cX7_places 167 = .ok (.invokevirtual 172, 3) := by decide +kernel
theorem dX7_places_170 : decode cX7_places 170 = .ok (.iastore, 1) := by decide +kernel
theorem dX7_places_171 : decode cX7_places 171 = .ok (.aload_n 0, 1) := by decide +kernel
theorem dX7_places_172 : decode cX7_places 172 = .ok (.getfield 87, 3) := by decide +kernel
theorem dX7_places_175 : decode cX7_places 175 = .ok (.iload 7, 2) := by decide +kernel
theorem dX7_places_177 : decode cX7_places 177 = .ok (.aload_n 0, 1) := by decide +kernel
theorem dX7_places_178 : decode cX7_places 178 = .ok (.iload 7, 2) := by decide +kernel
theorem dX7_places_180 : decode cX7_places 180 = .ok (.invokevirtual 160, 3) := by decide +kernel
theorem dX7_places_183 : decode cX7_places 183 = .ok (.aload_n 0, 1) := by decide +kernel
theorem dX7_places_184 : decode cX7_places 184 = .ok (.getfield 84, 3) := by decide +kernel
theorem dX7_places_187 : decode cX7_places 187 = .ok (.iload 7, 2) := by decide +kernel
theorem dX7_places_189 : decode cX7_places 189 = .ok (.iaload, 1) := by decide +kernel
theorem dX7_places_190 : decode cX7_places 190 = .ok (.isub, 1) := by decide +kernel
theorem dX7_places_191 : decode cX7_places 191 = .ok (.iastore, 1) := by decide +kernel
theorem dX7_places_192 : decode cX7_places 192 = .ok (.aload_n 0, 1) := by decide +kernel
theorem dX7_places_193 : decode cX7_places 193 = .ok (.getfield 90, 3) := by decide +kernel
theorem dX7_places_196 : decode cX7_places 196 = .ok (.iload 7, 2) := by decide +kernel
theorem dX7_places_198 : decode cX7_places 198 = .ok (.iload_n 1, 1) := by decide +kernel
theorem dX7_places_199 : decode cX7_places 199 = .ok (.iastore, 1) := by decide +kernel
theorem dX7_places_200 : decode cX7_places 200 = .ok (.aload_n 0, 1) := by decide +kernel
theorem dX7_places_201 : decode cX7_places 201 = .ok (.getfield 87, 3) := by decide +kernel
theorem dX7_places_204 : decode cX7_places 204 = .ok (.iload 7, 2) := by decide +kernel
theorem dX7_places_206 : decode cX7_places 206 = .ok (.iaload, 1) := by decide +kernel
theorem dX7_places_207 : decode cX7_places 207 = .ok (.ifCond .le 22, 3) := by decide +kernel
theorem dX7_places_210 : decode cX7_places 210 = .ok (.aload_n 0, 1) := by decide +kernel
theorem dX7_places_211 : decode cX7_places 211 = .ok (.getfield 65, 3) := by decide +kernel
theorem dX7_places_214 : decode cX7_places 214 = .ok (.iconst 2, 1) := by decide +kernel
theorem dX7_places_215 : decode cX7_places 215 = .ok (.iload_n 1, 1) := by decide +kernel
theorem dX7_places_216 : decode cX7_places 216 = .ok (.imul, 1) := by decide +kernel
theorem dX7_places_217 : decode cX7_places 217 = .ok (.iconst 2, 1) := by decide +kernel
theorem dX7_places_218 : decode cX7_places 218 = .ok (.iadd, 1) := by decide +kernel
theorem dX7_places_219 : decode cX7_places 219 = .ok (.iload_n 2, 1) := by decide +kernel
theorem dX7_places_220 : decode cX7_places 220 = .ok (.iadd, 1) := by decide +kernel
theorem dX7_places_221 : decode cX7_places 221 = .ok (.aload_n 0, 1) := by decide +kernel
theorem dX7_places_222 : decode cX7_places 222 = .ok (.getfield 87, 3) := by decide +kernel
theorem dX7_places_225 : decode cX7_places 225 = .ok (.iload 7, 2) := by decide +kernel
theorem dX7_places_227 : decode cX7_places 227 = .ok (.iaload, 1) := by decide +kernel
theorem dX7_places_228 : decode cX7_places 228 = .ok (.iastore, 1) := by decide +kernel
theorem dX7_places_229 : decode cX7_places 229 = .ok (.iload 10, 2) := by decide +kernel
theorem dX7_places_231 : decode cX7_places 231 = .ok (.aload_n 0, 1) := by decide +kernel
theorem dX7_places_232 : decode cX7_places 232 = .ok (.getfield 84, 3) := by decide +kernel
theorem dX7_places_235 : decode cX7_places 235 = .ok (.iload 7, 2) := by decide +kernel
theorem dX7_places_237 : decode cX7_places 237 = .ok (.iaload, 1) := by decide +kernel
theorem dX7_places_238 : decode cX7_places 238 = .ok (.iadd, 1) := by decide +kernel
theorem dX7_places_239 : decode cX7_places 239 = .ok (.aload_n 0, 1) := by decide +kernel
theorem dX7_places_240 : decode cX7_places 240 = .ok (.getfield 13, 3) := by decide +kernel
theorem dX7_places_243 : decode cX7_places 243 = .ok (.iadd, 1) := by decide +kernel
theorem dX7_places_244 : decode cX7_places 244 = .ok (.istore 5, 2) := by decide +kernel
theorem dX7_places_246 : decode cX7_places 246 = .ok (.iinc 6 1, 3) := by decide +kernel
theorem dX7_places_249 : decode cX7_places 249 = .ok (.goto (-166), 3) := by decide +kernel
theorem dX7_places_252 : decode cX7_places 252 = .ok (.return_, 1) := by decide +kernel
theorem dX7_isAt_0 : decode cX7_isAt 0 = .ok (.aload_n 0, 1) := by decide +kernel
theorem dX7_isAt_1 : decode cX7_isAt 1 = .ok (.getfield 102, 3) := by decide +kernel
theorem dX7_isAt_4 : decode cX7_isAt 4 = .ok (.iload_n 1, 1) := by decide +kernel
theorem dX7_isAt_5 : decode cX7_isAt 5 = .ok (.iaload, 1) := by decide +kernel
theorem dX7_isAt_6 : decode cX7_isAt 6 = .ok (.istore 6, 2) := by decide +kernel
theorem dX7_isAt_8 : decode cX7_isAt 8 = .ok (.aload_n 0, 1) := by decide +kernel
theorem dX7_isAt_9 : decode cX7_isAt 9 = .ok (.iload_n 1, 1) := by decide +kernel
theorem dX7_isAt_10 : decode cX7_isAt 10 = .ok (.iload_n 2, 1) := by decide +kernel
theorem dX7_isAt_11 : decode cX7_isAt 11 = .ok (.invokevirtual 172, 3) := by decide +kernel
theorem dX7_isAt_14 : decode cX7_isAt 14 = .ok (.istore 7, 2) := by decide +kernel
theorem dX7_isAt_16 : decode cX7_isAt 16 = .ok (.iload_n 3, 1) := by decide +kernel
theorem dX7_isAt_17 : decode cX7_isAt 17 = .ok (.iload 7, 2) := by decide +kernel
theorem dX7_isAt_19 : decode cX7_isAt 19 = .ok (.iadd, 1) := by decide +kernel
theorem dX7_isAt_20 : decode cX7_isAt 20 = .ok (.aload_n 0, 1) := by decide +kernel
theorem dX7_isAt_21 : decode cX7_isAt 21 = .ok (.getfield 7, 3) := by decide +kernel
theorem dX7_isAt_24 : decode cX7_isAt 24 = .ok (.if_icmp .gt 24, 3) := by decide +kernel
theorem dX7_isAt_27 : decode cX7_isAt 27 = .ok (.aload_n 0, 1) := by decide +kernel
