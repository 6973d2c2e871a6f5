theorem dX8_init_0 : decode cX8_init 0 = .ok (.aload_n 0, 1) := by decide +kernel
theorem dX8_init_1 : decode cX8_init 1 = .ok (.invokespecial 1, 3) := by decide +kernel
theorem dX8_init_4 : decode cX8_init 4 = .ok (.aload_n 0, 1) := by decide +kernel
theorem dX8_init_5 : decode cX8_init 5 = .ok (.sipush 271, 3) := by decide +kernel
theorem dX8_init_8 : decode cX8_init 8 = .ok (.newarray .int, 2) := by decide +kernel
theorem dX8_init_10 : decode cX8_init 10 = .ok (.putfield 7, 3) := by decide +kernel
theorem dX8_init_13 : decode cX8_init 13 = .ok (.aload_n 0, 1) := by decide +kernel
theorem dX8_init_14 : decode cX8_init 14 = .ok (.sipush 271, 3) := by decide +kernel
theorem dX8_init_17 : decode cX8_init 17 = .ok (.newarray .int, 2) := by decide +kernel
theorem dX8_init_19 : decode cX8_init 19 = .ok (.putfield 13, 3) := by decide +kernel
theorem dX8_init_22 : decode cX8_init 22 = .ok (.aload_n 0, 1) := by decide +kernel
theorem dX8_init_23 : decode cX8_init 23 = .ok (.bipush 8, 2) := by decide +kernel
theorem dX8_init_25 : decode cX8_init 25 = .ok (.newarray .int, 2) := by decide +kernel
theorem dX8_init_27 : decode cX8_init 27 = .ok (.putfield 16, 3) := by decide +kernel
theorem dX8_init_30 : decode cX8_init 30 = .ok (.aload_n 0, 1) := by decide +kernel
theorem dX8_init_31 : decode cX8_init 31 = .ok (.bipush 80, 2) := by decide +kernel
theorem dX8_init_33 : decode cX8_init 33 = .ok (.newarray .int, 2) := by decide +kernel
theorem dX8_init_35 : decode cX8_init 35 = .ok (.putfield 19, 3) := by decide +kernel
theorem dX8_init_38 : decode cX8_init 38 = .ok (.aload_n 0, 1) := by decide +kernel
theorem dX8_init_39 : decode cX8_init 39 = .ok (.iconst 4, 1) := by decide +kernel
theorem dX8_init_40 : decode cX8_init 40 = .ok (.newarray .int, 2) := by decide +kernel
theorem dX8_init_42 : decode cX8_init 42 = .ok (.dup, 1) := by decide +kernel
theorem dX8_init_43 : decode cX8_init 43 = .ok (.iconst 0, 1) := by decide +kernel
theorem dX8_init_44 : decode cX8_init 44 = .ok (.iconst (-1), 1) := by decide +kernel
theorem dX8_init_45 : decode cX8_init 45 = .ok (.iastore, 1) := by decide +kernel
theorem dX8_init_46 : decode cX8_init 46 = .ok (.dup, 1) := by decide +kernel
theorem dX8_init_47 : decode cX8_init 47 = .ok (.iconst 1, 1) := by decide +kernel
theorem dX8_init_48 : decode cX8_init 48 = .ok (.iconst (-1), 1) := by decide +kernel
theorem dX8_init_49 : decode cX8_init 49 = .ok (.iastore, 1) := by decide +kernel
theorem dX8_init_50 : decode cX8_init 50 = .ok (.dup, 1) := by decide +kernel
theorem dX8_init_51 : decode cX8_init 51 = .ok (.iconst 2, 1) := by decide +kernel
theorem dX8_init_52 : decode cX8_init 52 = .ok (.iconst (-1), 1) := by decide +kernel
theorem dX8_init_53 : decode cX8_init 53 = .ok (.iastore, 1) := by decide +kernel
theorem dX8_init_54 : decode cX8_init 54 = .ok (.dup, 1) := by decide +kernel
theorem dX8_init_55 : decode cX8_init 55 = .ok (.iconst 3, 1) := by decide +kernel
theorem dX8_init_56 : decode cX8_init 56 = .ok (.iconst (-1), 1) := by decide +kernel
theorem dX8_init_57 : decode cX8_init 57 = .ok (.iastore, 1) := by decide +kernel
theorem dX8_init_58 : decode cX8_init 58 = .ok (.putfield 22, 3) := by decide +kernel
theorem dX8_init_61 : decode cX8_init 61 = .ok (.aload_n 0, 1) := by decide +kernel
theorem dX8_init_62 : decode cX8_init 62 = .ok (.iconst 4, 1) := by decide +kernel
theorem dX8_init_63 : decode cX8_init 63 = .ok (.newarray .int, 2) := by decide +kernel
theorem dX8_init_65 : decode cX8_init 65 = .ok (.putfield 25, 3) := by decide +kernel
theorem dX8_init_68 : decode cX8_init 68 = .ok (.aload_n 0, 1) := by decide +kernel
theorem dX8_init_69 : decode cX8_init 69 = .ok (.sipush 160, 3) := by decide +kernel
theorem dX8_init_72 : decode cX8_init 72 = .ok (.newarray .long, 2) := by decide +kernel
theorem dX8_init_74 : decode cX8_init 74 = .ok (.putfield 28, 3) := by decide +kernel
theorem dX8_init_77 : decode cX8_init 77 = .ok (.aload_n 0, 1) := by decide +kernel
theorem dX8_init_78 : decode cX8_init 78 = .ok (.iconst (-1), 1) := by decide +kernel
theorem dX8_init_79 : decode cX8_init 79 = .ok (.putfield 32, 3) := by decide +kernel
theorem dX8_init_82 : decode cX8_init 82 = .ok (.aload_n 0, 1) := by decide +kernel
theorem dX8_init_83 : decode cX8_init 83 = .ok (.iconst (-1), 1) := by decide +kernel
theorem dX8_init_84 : decode cX8_init 84 = .ok (.putfield 36, 3) := by decide +kernel
theorem dX8_init_87 : decode cX8_init 87 = .ok (.aload_n 0, 1) := by decide +kernel
theorem dX8_init_88 : decode cX8_init 88 = .ok (.bipush 74, 2) := by decide +kernel
theorem dX8_init_90 : decode cX8_init 90 = .ok (.newarray .int, 2) := by decide +kernel
theorem dX8_init_92 : decode cX8_init 92 = .ok (.putfield 39, 3) := by decide +kernel
theorem dX8_init_95 : decode cX8_init 95 = .ok (.aload_n 0, 1) := by decide +kernel
theorem dX8_init_96 : decode cX8_init 96 = .ok (.bipush 74, 2) := by decide +kernel
theorem dX8_init_98 : decode cX8_init 98 = .ok (.newarray .int, 2) := by decide +kernel
theorem dX8_init_100 : decode cX8_init 100 = .ok (.putfield 42, 3) := by decide +kernel
theorem dX8_init_103 : decode cX8_init 103 = .ok (.aload_n 0, 1) := by decide +kernel
theorem dX8_init_104 : decode cX8_init 104 = .ok (.sipush 301, 3) := by decide +kernel
theorem dX8_init_107 : decode cX8_init 107 = .ok (.newarray .int, 2) := by decide +kernel
theorem dX8_init_109 : decode cX8_init 109 = .ok (.putfield 45, 3) := by decide +kernel
theorem dX8_init_112 : decode cX8_init 112 = .ok (.aload_n 0, 1) := by decide +kernel
theorem dX8_init_113 : decode cX8_init 113 = .ok (.sipush 301, 3) := by decide +kernel
theorem dX8_init_116 : decode cX8_init 116 = .ok (.newarray .int, 2) := by decide +kernel
theorem dX8_init_118 : decode cX8_init 118 = .ok (.putfield 48, 3) := by decide +kernel
theorem dX8_init_121 : decode cX8_init 121 = .ok (.aload_n 0, 1) := by decide +kernel
theorem dX8_init_122 : decode cX8_init 122 = .ok (.bipush 80, 2) := by decide +kernel
theorem dX8_init_124 : decode cX8_init 124 = .ok (.newarray .int, 2) := by decide +kernel
theorem dX8_init_126 : decode cX8_init 126 = .ok (.putfield 51, 3) := by decide +kernel
theorem dX8_init_129 : decode cX8_init 129 = .ok (.aload_n 0, 1) := by decide +kernel
theorem dX8_init_130 : decode cX8_init 130 = .ok (.bipush 80, 2) := by decide +kernel
theorem dX8_init_132 : decode cX8_init 132 = .ok (.newarray .int, 2) := by decide +kernel
theorem dX8_init_134 : decode cX8_init 134 = .ok (.putfield 54, 3) := by decide +kernel
theorem dX8_init_137 : decode cX8_init 137 = .ok (.aload_n 0, 1) := by decide +kernel
theorem dX8_init_138 : decode cX8_init 138 = .ok (.bipush 8, 2) := by decide +kernel
theorem dX8_init_140 : decode cX8_init 140 = .ok (.newarray .boolean, 2) := by decide +kernel
theorem dX8_init_142 : decode cX8_init 142 = .ok (.putfield 57, 3) := by decide +kernel
theorem dX8_init_145 : decode cX8_init 145 = .ok (.aload_n 0, 1) := by decide +kernel
theorem dX8_init_146 : decode cX8_init 146 = .ok (.bipush 80, 2) := by decide +kernel
theorem dX8_init_148 : decode cX8_init 148 = .ok (.newarray .int, 2) := by decide +kernel
theorem dX8_init_150 : decode cX8_init 150 = .ok (.putfield 61, 3) := by decide +kernel
theorem dX8_init_153 : decode cX8_init 153 = .ok (.aload_n 0, 1) := by decide +kernel
theorem dX8_init_154 : decode cX8_init 154 = .ok (.getfield 7, 3) := by decide +kernel
theorem dX8_init_157 : decode cX8_init 157 = .ok (.iconst 1, 1) := by decide +kernel
theorem dX8_init_158 : decode cX8_init 158 = .ok (.iconst (-1), 1) := by decide +kernel
theorem dX8_init_159 : decode cX8_init 159 = .ok (.iastore, 1) := by decide +kernel
theorem dX8_init_160 : decode cX8_init 160 = .ok (.aload_n 0, 1) := by decide +kernel
theorem dX8_init_161 : decode cX8_init 161 = .ok (.getfield 7, 3) := by decide +kernel
theorem dX8_init_164 : decode cX8_init 164 = .ok (.iconst 3, 1) := by decide +kernel
theorem dX8_init_165 : decode cX8_init 165 = .ok (.iconst 1, 1) := by decide +kernel
theorem dX8_init_166 : decode cX8_init 166 = .ok (.iastore, 1) := by decide +kernel
theorem dX8_init_167 : decode cX8_init 167 = .ok (.aload_n 0, 1) := by decide +kernel
theorem dX8_init_168 : decode cX8_init 168 = .ok (.getfield 7, 3) := by decide +kernel
theorem dX8_init_171 : decode cX8_init 171 = .ok (.iconst 4, 1) := by decide +kernel
theorem dX8_init_172 : decode cX8_init 172 = .ok (.iconst 2, 1) := by decide +kernel
theorem dX8_init_173 : decode cX8_init 173 = .ok (.iastore, 1) := by decide +kernel
theorem dX8_init_174 : decode cX8_init 174 = .ok (.aload_n 0, 1) := by decide +kernel
theorem dX8_init_175 : decode cX8_init 175 = .ok (.getfield 7, 3) := by decide +kernel
theorem dX8_init_178 : decode cX8_init 178 = .ok (.iconst 5, 1) := by decide +kernel
theorem dX8_init_179 : decode cX8_init 179 = .ok (.bipush 7, 2) := by decide +kernel
theorem dX8_init_181 : decode cX8_init 181 = .ok (.iastore, 1) := by decide +kernel
theorem dX8_init_182 : decode cX8_init 182 = .ok (.aload_n 0, 1) := by decide +kernel
theorem dX8_init_183 : decode cX8_init 183 = .ok (.getfield 7, 3) := by decide +kernel
theorem dX8_init_186 : decode cX8_init 186 = .ok (.bipush 9, 2) := by decide +kernel
theorem dX8_init_188 : decode cX8_init 188 = .ok (.iconst 2, 1) := by decide +kernel
theorem dX8_init_189 : decode cX8_init 189 = .ok (.iastore, 1) := by decide +kernel
theorem dX8_init_190 : decode cX8_init 190 = .ok (.iconst 0, 1) := by decide +kernel
theorem dX8_init_191 : decode cX8_init 191 = .ok (.istore_n 1, 1) := by decide +kernel
theorem dX8_init_192 : decode cX8_init 192 = .ok (.iload_n 1, 1) := by decide +kernel
theorem dX8_init_193 : decode cX8_init 193 = .ok (.iconst 4, 1) := by decide +kernel
theorem dX8_init_194 : decode cX8_init 194 = .ok (.if_icmp .ge 19, 3) := by decide +kernel
theorem dX8_init_197 : decode cX8_init 197 = .ok (.aload_n 0, 1) := by decide +kernel
theorem dX8_init_198 : decode cX8_init 198 = .ok (.getfield 7, 3) := by decide +kernel
theorem dX8_init_201 : decode cX8_init 201 = .ok (.bipush 10, 2) := by decide +kernel
theorem dX8_init_203 : decode cX8_init 203 = .ok (.iload_n 1, 1) := by decide +kernel
theorem dX8_init_204 : decode cX8_init 204 = .ok (.iadd, 1) := by decide +kernel
theorem dX8_init_205 : decode cX8_init 205 = .ok (.iconst (-1), 1) := by decide +kernel
theorem dX8_init_206 : decode cX8_init 206 = .ok (.iastore, 1) := by decide +kernel
theorem dX8_init_207 : decode cX8_init 207 = .ok (.iinc 1 1, 3) := by decide +kernel
theorem dX8_init_210 : decode cX8_init 210 = .ok (.goto (-18), 3) := by decide +kernel
theorem dX8_init_213 : decode cX8_init 213 = .ok (.return_, 1) := by decide +kernel
theorem dX8_isIn_0 : decode cX8_isIn 0 = .ok (.lload_n 0, 1) := by decide +kernel
theorem dX8_isIn_1 : decode cX8_isIn 1 = .ok (.lload_n 2, 1) := by decide +kernel
theorem dX8_isIn_2 : decode cX8_isIn 2 = .ok (.lcmp, 1) := by decide +kernel
theorem dX8_isIn_3 : decode cX8_isIn 3 = .ok (.ifCond .lt 14, 3) := by decide +kernel
theorem dX8_isIn_6 : decode cX8_isIn 6 = .ok (.lload_n 0, 1) := by decide +kernel
theorem dX8_isIn_7 : decode cX8_isIn 7 = .ok (.lload 4, 2) := by decide +kernel
theorem dX8_isIn_9 : decode cX8_isIn 9 = .ok (.lcmp, 1) := by decide +kernel
theorem dX8_isIn_10 : decode cX8_isIn 10 = .ok (.ifCond .gt 7, 3) := by decide +kernel
theorem dX8_isIn_13 : decode cX8_isIn 13 = .ok (.iconst 1, 1) := by decide +kernel
theorem dX8_isIn_14 : decode cX8_isIn 14 = .ok (.goto 4, 3) := by decide +kernel
theorem dX8_isIn_17 : decode cX8_isIn 17 = .ok (.iconst 0, 1) := by decide +kernel
theorem dX8_isIn_18 : decode cX8_isIn 18 = .ok (.ireturn, 1) := by decide +kernel
theorem dX8_finds_0 : decode cX8_finds 0 = .ok (.aload_n 0, 1) := by decide +kernel
theorem dX8_finds_1 : decode cX8_finds 1 = .ok (.getfield 16, 3) := by decide +kernel
theorem dX8_finds_4 : decode cX8_finds 4 = .ok (.iconst 0, 1) := by decide +kernel
theorem dX8_finds_5 : decode cX8_finds 5 = .ok (.dup2, 1) := by decide +kernel
theorem dX8_finds_6 : decode cX8_finds 6 = .ok (.iaload, 1) := by decide +kernel
theorem dX8_finds_7 : decode cX8_finds 7 = .ok (.iconst 1, 1) := by decide +kernel
theorem dX8_finds_8 : decode cX8_finds 8 = .ok (.iadd, 1) := by decide +kernel
theorem dX8_finds_9 : decode cX8_finds 9 = .ok (.iastore, 1) := by decide +kernel
theorem dX8_finds_10 : decode cX8_finds 10 = .ok (.aload_n 0, 1) := by decide +kernel
theorem dX8_finds_11 : decode cX8_finds 11 = .ok (.getfield 16, 3) := by decide +kernel
theorem dX8_finds_14 : decode cX8_finds 14 = .ok (.ldc 64, 2) := by decide +kernel
theorem dX8_finds_16 : decode cX8_finds 16 = .ok (.iload_n 1, 1) := by decide +kernel
theorem dX8_finds_17 : decode cX8_finds 17 = .ok (.isub, 1) := by decide +kernel
theorem dX8_finds_18 : decode cX8_finds 18 = .ok (.iconst 1, 1) := by decide +kernel
theorem dX8_finds_19 : decode cX8_finds 19 = .ok (.iadd, 1) := by decide +kernel
theorem dX8_finds_20 : decode cX8_finds 20 = .ok (.dup2, 1) := by decide +kernel
theorem dX8_finds_21 : decode cX8_finds 21 = .ok (.iaload, 1) := by decide +kernel
theorem dX8_finds_22 : decode cX8_finds 22 = .ok (.iconst 1, 1) := by decide +kernel
theorem dX8_finds_23 : decode cX8_finds 23 = .ok (.iadd, 1) := by decide +kernel
theorem dX8_finds_24 : decode cX8_finds 24 = .ok (.iastore, 1) := by decide +kernel
theorem dX8_finds_25 : decode cX8_finds 25 = .ok (.iload_n 1, 1) := by decide +kernel
theorem dX8_finds_26 : decode cX8_finds 26 = .ok (.ireturn, 1) := by decide +kernel
theorem dX8_becomes_0 : decode cX8_becomes 0 = .ok (.aload_n 0, 1) := by decide +kernel
theorem dX8_becomes_1 : decode cX8_becomes 1 = .ok (.getfield 7, 3) := by decide +kernel
theorem dX8_becomes_4 : decode cX8_becomes 4 = .ok (.iload_n 1, 1) := by decide +kernel
theorem dX8_becomes_5 : decode cX8_becomes 5 = .ok (.iaload, 1) := by decide +kernel
theorem dX8_becomes_6 : decode cX8_becomes 6 = .ok (.istore_n 3, 1) := by decide +kernel
theorem dX8_becomes_7 : decode cX8_becomes 7 = .ok (.aload_n 0, 1) := by decide +kernel
theorem dX8_becomes_8 : decode cX8_becomes 8 = .ok (.getfield 7, 3) := by decide +kernel
theorem dX8_becomes_11 : decode cX8_becomes 11 = .ok (.iload_n 1, 1) := by decide +kernel
theorem dX8_becomes_12 : decode cX8_becomes 12 = .ok (.iload_n 2, 1) := by decide +kernel
theorem dX8_becomes_13 : decode cX8_becomes 13 = .ok (.iastore, 1) := by decide +kernel
theorem dX8_becomes_14 : decode cX8_becomes 14 = .ok (.iload_n 3, 1) := by decide +kernel
theorem dX8_becomes_15 : decode cX8_becomes 15 = .ok (.ireturn, 1) := by decide +kernel
theorem dX8_has0_0 : decode cX8_has0 0 = .ok (.aload_n 0, 1) := by decide +kernel
theorem dX8_has0_1 : decode cX8_has0 1 = .ok (.getfield 7, 3) := by decide +kernel
theorem dX8_has0_4 : decode cX8_has0 4 = .ok (.bipush 14, 2) := by decide +kernel
theorem dX8_has0_6 : decode cX8_has0 6 = .ok (.bipush 6, 2) := by decide +kernel
theorem dX8_has0_8 : decode cX8_has0 8 = .ok (.iload_n 1, 1) := by decide +kernel
theorem dX8_has0_9 : decode cX8_has0 9 = .ok (.imul, 1) := by decide +kernel
theorem dX8_has0_10 : decode cX8_has0 10 = .ok (.iadd, 1) := by decide +kernel
theorem dX8_has0_11 : decode cX8_has0 11 = .ok (.iload_n 2, 1) := by decide +kernel
theorem dX8_has0_12 : decode cX8_has0 12 = .ok (.iadd, 1) := by decide +kernel
theorem dX8_has0_13 : decode cX8_has0 13 = .ok (.iaload, 1) := by decide +kernel
theorem dX8_has0_14 : decode cX8_has0 14 = .ok (.ireturn, 1) := by decide +kernel
theorem dX8_isPerson_0 : decode cX8_isPerson 0 = .ok (.iload_n 1, 1) := by decide +kernel
theorem dX8_isPerson_1 : decode cX8_isPerson 1 = .ok (.ifCond .lt 17, 3) := by decide +kernel
theorem dX8_isPerson_4 : decode cX8_isPerson 4 = .ok (.iload_n 1, 1) := by decide +kernel
theorem dX8_isPerson_5 : decode cX8_isPerson 5 = .ok (.aload_n 0, 1) := by decide +kernel
theorem dX8_isPerson_6 : decode cX8_isPerson 6 = .ok (.getfield 7, 3) := by decide +kernel
theorem dX8_isPerson_9 : decode cX8_isPerson 9 = .ok (.iconst 0, 1) := by decide +kernel
theorem dX8_isPerson_10 : decode cX8_isPerson 10 = .ok (.iaload, 1) := by decide +kernel
theorem dX8_isPerson_11 : decode cX8_isPerson 11 = .ok (.if_icmp .ge 7, 3) := by decide +kernel
theorem dX8_isPerson_14 : decode cX8_isPerson 14 = .ok (.iconst 1, 1) := by decide +kernel
theorem dX8_isPerson_15 : decode cX8_isPerson 15 = .ok (.goto 4, 3) := by decide +kernel
theorem dX8_isPerson_18 : decode cX8_isPerson 18 = .ok (.iconst 0, 1) := by decide +kernel
theorem dX8_isPerson_19 : decode cX8_isPerson 19 = .ok (.ireturn, 1) := by decide +kernel
theorem dX8_isAlive_0 : decode cX8_isAlive 0 = .ok (.aload_n 0, 1) := by decide +kernel
theorem dX8_isAlive_1 : decode cX8_isAlive 1 = .ok (.iload_n 1, 1) := by decide +kernel
theorem dX8_isAlive_2 : decode cX8_isAlive 2 = .ok (.iconst 5, 1) := by decide +kernel
theorem dX8_isAlive_3 : decode cX8_isAlive 3 = .ok (.invokevirtual 65, 3) := by decide +kernel
theorem dX8_isAlive_6 : decode cX8_isAlive 6 = .ok (.ifCond .ne 7, 3) := by decide +kernel
theorem dX8_isAlive_9 : decode cX8_isAlive 9 = .ok (.iconst 1, 1) := by decide +kernel
theorem dX8_isAlive_10 : decode cX8_isAlive 10 = .ok (.goto 4, 3) := by decide +kernel
theorem dX8_isAlive_13 : decode cX8_isAlive 13 = .ok (.iconst 0, 1) := by decide +kernel
theorem dX8_isAlive_14 : decode cX8_isAlive 14 = .ok (.ireturn, 1) := by decide +kernel
theorem dX8_likesOf_0 : decode cX8_likesOf 0 = .ok (.aload_n 0, 1) := by decide +kernel
theorem dX8_likesOf_1 : decode cX8_likesOf 1 = .ok (.getfield 7, 3) := by decide +kernel
theorem dX8_likesOf_4 : decode cX8_likesOf 4 = .ok (.bipush 74, 2) := by decide +kernel
theorem dX8_likesOf_6 : decode cX8_likesOf 6 = .ok (.bipush 10, 2) := by decide +kernel
theorem dX8_likesOf_8 : decode cX8_likesOf 8 = .ok (.iload_n 1, 1) := by decide +kernel
theorem dX8_likesOf_9 : decode cX8_likesOf 9 = .ok (.imul, 1) := by decide +kernel
theorem dX8_likesOf_10 : decode cX8_likesOf 10 = .ok (.iadd, 1) := by decide +kernel
theorem dX8_likesOf_11 : decode cX8_likesOf 11 = .ok (.iload_n 2, 1) := by decide +kernel
theorem dX8_likesOf_12 : decode cX8_likesOf 12 = .ok (.iadd, 1) := by decide +kernel
theorem dX8_likesOf_13 : decode cX8_likesOf 13 = .ok (.iaload, 1) := by decide +kernel
theorem dX8_likesOf_14 : decode cX8_likesOf 14 = .ok (.ireturn, 1) := by decide +kernel
theorem dX8_worthOf_0 : decode cX8_worthOf 0 = .ok (.aload_n 0, 1) := by decide +kernel
theorem dX8_worthOf_1 : decode cX8_worthOf 1 = .ok (.getfield 7, 3) := by decide +kernel
theorem dX8_worthOf_4 : decode cX8_worthOf 4 = .ok (.sipush 174, 3) := by decide +kernel
theorem dX8_worthOf_7 : decode cX8_worthOf 7 = .ok (.iconst 4, 1) := by decide +kernel
theorem dX8_worthOf_8 : decode cX8_worthOf 8 = .ok (.iload_n 1, 1) := by decide +kernel
theorem dX8_worthOf_9 : decode cX8_worthOf 9 = .ok (.imul, 1) := by decide +kernel
theorem dX8_worthOf_10 : decode cX8_worthOf 10 = .ok (.iadd, 1) := by decide +kernel
theorem dX8_worthOf_11 : decode cX8_worthOf 11 = .ok (.iload_n 2, 1) := by decide +kernel
theorem dX8_worthOf_12 : decode cX8_worthOf 12 = .ok (.iadd, 1) := by decide +kernel
theorem dX8_worthOf_13 : decode cX8_worthOf 13 = .ok (.iaload, 1) := by decide +kernel
theorem dX8_worthOf_14 : decode cX8_worthOf 14 = .ok (.ireturn, 1) := by decide +kernel
theorem dX8_person_0 : decode cX8_person 0 = .ok (.iload_n 1, 1) := by decide +kernel
theorem dX8_person_1 : decode cX8_person 1 = .ok (.i2l, 1) := by decide +kernel
theorem dX8_person_2 : decode cX8_person 2 = .ok (.lconst 0, 1) := by decide +kernel
theorem dX8_person_3 : decode cX8_person 3 = .ok (.ldc2_w 69, 3) := by decide +kernel
theorem dX8_person_6 : decode cX8_person 6 = .ok (.invokestatic 71, 3) := by decide +kernel
theorem dX8_person_9 : decode cX8_person 9 = .ok (.ifCond .eq 29, 3) := by decide +kernel
theorem dX8_person_12 : decode cX8_person 12 = .ok (.iload_n 2, 1) := by decide +kernel
theorem dX8_person_13 : decode cX8_person 13 = .ok (.i2l, 1) := by decide +kernel
theorem dX8_person_14 : decode cX8_person 14 = .ok (.ldc2_w 75, 3) := by decide +kernel
theorem dX8_person_17 : decode cX8_person 17 = .ok (.ldc2_w 77, 3) := by decide +kernel
theorem dX8_person_20 : decode cX8_person 20 = .ok (.invokestatic 71, 3) := by decide +kernel
theorem dX8_person_23 : decode cX8_person 23 = .ok (.ifCond .eq 15, 3) := by decide +kernel
theorem dX8_person_26 : decode cX8_person 26 = .ok (.iload_n 3, 1) := by decide +kernel
theorem dX8_person_27 : decode cX8_person 27 = .ok (.i2l, 1) := by decide +kernel
theorem dX8_person_28 : decode cX8_person 28 = .ok (.lconst 0, 1) := by decide +kernel
theorem dX8_person_29 : decode cX8_person 29 = .ok (.ldc2_w 79, 3) := by decide +kernel
theorem dX8_person_32 : decode cX8_person 32 = .ok (.invokestatic 71, 3) := by decide +kernel
theorem dX8_person_35 : decode cX8_person 35 = .ok (.ifCond .ne 10, 3) := by decide +kernel
theorem dX8_person_38 : decode cX8_person 38 = .ok (.aload_n 0, 1) := by decide +kernel
theorem dX8_person_39 : decode cX8_person 39 = .ok (.ldc 64, 2) := by decide +kernel
theorem dX8_person_41 : decode cX8_person 41 = .ok (.invokevirtual 81, 3) := by decide +kernel
theorem dX8_person_44 : decode cX8_person 44 = .ok (.ireturn, 1) := by decide +kernel
theorem dX8_person_45 : decode cX8_person 45 = .ok (.aload_n 0, 1) := by decide +kernel
theorem dX8_person_46 : decode cX8_person 46 = .ok (.getfield 7, 3) := by decide +kernel
theorem dX8_person_49 : decode cX8_person 49 = .ok (.iconst 0, 1) := by decide +kernel
theorem dX8_person_50 : decode cX8_person 50 = .ok (.iaload, 1) := by decide +kernel
theorem dX8_person_51 : decode cX8_person 51 = .ok (.bipush 10, 2) := by decide +kernel
theorem dX8_person_53 : decode cX8_person 53 = .ok (.if_icmp .ne 10, 3) := by decide +kernel
theorem dX8_person_56 : decode cX8_person 56 = .ok (.aload_n 0, 1) := by decide +kernel
theorem dX8_person_57 : decode cX8_person 57 = .ok (.ldc 85, 2) := by decide +kernel
theorem dX8_person_59 : decode cX8_person 59 = .ok (.invokevirtual 81, 3) := by decide +kernel
theorem dX8_person_62 : decode cX8_person 62 = .ok (.ireturn, 1) := by decide +kernel
theorem dX8_person_63 : decode cX8_person 63 = .ok (.aload_n 0, 1) := by decide +kernel
theorem dX8_person_64 : decode cX8_person 64 = .ok (.getfield 7, 3) := by decide +kernel
theorem dX8_person_67 : decode cX8_person 67 = .ok (.iconst 0, 1) := by decide +kernel
theorem dX8_person_68 : decode cX8_person 68 = .ok (.iaload, 1) := by decide +kernel
theorem dX8_person_69 : decode cX8_person 69 = .ok (.istore 4, 2) := by decide +kernel
theorem dX8_person_71 : decode cX8_person 71 = .ok (.bipush 14, 2) := by decide +kernel
theorem dX8_person_73 : decode cX8_person 73 = .ok (.bipush 6, 2) := by decide +kernel
theorem dX8_person_75 : decode cX8_person 75 = .ok (.iload 4, 2) := by decide +kernel
theorem dX8_person_77 : decode cX8_person 77 = .ok (.imul, 1) := by decide +kernel
theorem dX8_person_78 : decode cX8_person 78 = .ok (.iadd, 1) := by decide +kernel
theorem dX8_person_79 : decode cX8_person 79 = .ok (.istore 5, 2) := by decide +kernel
theorem dX8_person_81 : decode cX8_person 81 = .ok (.aload_n 0, 1) := by decide +kernel
theorem dX8_person_82 : decode cX8_person 82 = .ok (.getfield 7, 3) := by decide +kernel
theorem dX8_person_85 : decode cX8_person 85 = .ok (.iload 5, 2) := by decide +kernel
theorem dX8_person_87 : decode cX8_person 87 = .ok (.iload_n 1, 1) := by decide +kernel
theorem dX8_person_88 : decode cX8_person 88 = .ok (.iastore, 1) := by decide +kernel
theorem dX8_person_89 : decode cX8_person 89 = .ok (.aload_n 0, 1) := by decide +kernel
theorem dX8_person_90 : decode cX8_person 90 = .ok (.getfield 7, 3) := by decide +kernel
theorem dX8_person_93 : decode cX8_person 93 = .ok (.iload 5, 2) := by decide +kernel
theorem dX8_person_95 : decode cX8_person 95 = .ok (.iconst 1, 1) := by decide +kernel
theorem dX8_person_96 : decode cX8_person 96 = .ok (.iadd, 1) := by decide +kernel
theorem dX8_person_97 : decode cX8_person 97 = .ok (.iload_n 2, 1) := by decide +kernel
theorem dX8_person_98 : decode cX8_person 98 = .ok (.iastore, 1) := by decide +kernel
theorem dX8_person_99 : decode cX8_person 99 = .ok (.aload_n 0, 1) := by decide +kernel
theorem dX8_person_100 : decode cX8_person 100 = .ok (.getfield 7, 3) := by decide +kernel
theorem dX8_person_103 : decode cX8_person 103 = .ok (.iload 5, 2) := by decide +kernel
theorem dX8_person_105 : decode cX8_person 105 = .ok (.iconst 2, 1) := by decide +kernel
theorem dX8_person_106 : decode cX8_person 106 = .ok (.iadd, 1) := by decide +kernel
theorem dX8_person_107 : decode cX8_person 107 = .ok (.iload_n 3, 1) := by decide +kernel
theorem dX8_person_108 : decode cX8_person 108 = .ok (.iastore, 1) := by decide +kernel
theorem dX8_person_109 : decode cX8_person 109 = .ok (.aload_n 0, 1) := by decide +kernel
theorem dX8_person_110 : decode cX8_person 110 = .ok (.getfield 7, 3) := by decide +kernel
theorem dX8_person_113 : decode cX8_person 113 = .ok (.iload 5, 2) := by decide +kernel
theorem dX8_person_115 : decode cX8_person 115 = .ok (.iconst 3, 1) := by decide +kernel
theorem dX8_person_116 : decode cX8_person 116 = .ok (.iadd, 1) := by decide +kernel
theorem dX8_person_117 : decode cX8_person 117 = .ok (.iconst 0, 1) := by decide +kernel
theorem dX8_person_118 : decode cX8_person 118 = .ok (.iastore, 1) := by decide +kernel
theorem dX8_person_119 : decode cX8_person 119 = .ok (.aload_n 0, 1) := by decide +kernel
theorem dX8_person_120 : decode cX8_person 120 = .ok (.getfield 7, 3) := by decide +kernel
theorem dX8_person_123 : decode cX8_person 123 = .ok (.iload 5, 2) := by decide +kernel
theorem dX8_person_125 : decode cX8_person 125 = .ok (.iconst 4, 1) := by decide +kernel
theorem dX8_person_126 : decode cX8_person 126 = .ok (.iadd, 1) := by decide +kernel
theorem dX8_person_127 : decode cX8_person 127 = .ok (.iconst 0, 1) := by decide +kernel
theorem dX8_person_128 : decode cX8_person 128 = .ok (.iastore, 1) := by decide +kernel
theorem dX8_person_129 : decode cX8_person 129 = .ok (.aload_n 0, 1) := by decide +kernel
theorem dX8_person_130 : decode cX8_person 130 = .ok (.getfield 7, 3) := by decide +kernel
theorem dX8_person_133 : decode cX8_person 133 = .ok (.iload 5, 2) := by decide +kernel
theorem dX8_person_135 : decode cX8_person 135 = .ok (.iconst 5, 1) := by decide +kernel
theorem dX8_person_136 : decode cX8_person 136 = .ok (.iadd, 1) := by decide +kernel
theorem dX8_person_137 : decode cX8_person 137 = .ok (.iconst 0, 1) := by decide +kernel
theorem dX8_person_138 : decode cX8_person 138 = .ok (.iastore, 1) := by decide +kernel
theorem dX8_person_139 : decode cX8_person 139 = .ok (.iconst 0, 1) := by decide +kernel
theorem dX8_person_140 : decode cX8_person 140 = .ok (.istore 6, 2) := by decide +kernel
theorem dX8_person_142 : decode cX8_person 142 = .ok (.iload 6, 2) := by decide +kernel
theorem dX8_person_144 : decode cX8_person 144 = .ok (.bipush 10, 2) := by decide +kernel
theorem dX8_person_146 : decode cX8_person 146 = .ok (.if_icmp .ge 43, 3) := by decide +kernel
theorem dX8_person_149 : decode cX8_person 149 = .ok (.aload_n 0, 1) := by decide +kernel
theorem dX8_person_150 : decode cX8_person 150 = .ok (.getfield 7, 3) := by decide +kernel
theorem dX8_person_153 : decode cX8_person 153 = .ok (.bipush 74, 2) := by decide +kernel
theorem dX8_person_155 : decode cX8_person 155 = .ok (.bipush 10, 2) := by decide +kernel
theorem dX8_person_157 : decode cX8_person 157 = .ok (.iload 4, 2) := by decide +kernel
theorem dX8_person_159 : decode cX8_person 159 = .ok (.imul, 1) := by decide +kernel
theorem dX8_person_160 : decode cX8_person 160 = .ok (.iadd, 1) := by decide +kernel
theorem dX8_person_161 : decode cX8_person 161 = .ok (.iload 6, 2) := by decide +kernel
theorem dX8_person_163 : decode cX8_person 163 = .ok (.iadd, 1) := by decide +kernel
theorem dX8_person_164 : decode cX8_person 164 = .ok (.iconst 0, 1) := by decide +kernel
theorem dX8_person_165 : decode cX8_person 165 = .ok (.iastore, 1) := by decide +kernel
theorem dX8_person_166 : decode cX8_person 166 = .ok (.aload_n 0, 1) := by decide +kernel
theorem dX8_person_167 : decode cX8_person 167 = .ok (.getfield 7, 3) := by decide +kernel
theorem dX8_person_170 : decode cX8_person 170 = .ok (.bipush 74, 2) := by decide +kernel
theorem dX8_person_172 : decode cX8_person 172 = .ok (.bipush 10, 2) := by decide +kernel
theorem dX8_person_174 : decode cX8_person 174 = .ok (.iload 6, 2) := by decide +kernel
theorem dX8_person_176 : decode cX8_person 176 = .ok (.imul, 1) := by decide +kernel
theorem dX8_person_177 : decode cX8_person 177 = .ok (.iadd, 1) := by decide +kernel
theorem dX8_person_178 : decode cX8_person 178 = .ok (.iload 4, 2) := by decide +kernel
theorem dX8_person_180 : decode cX8_person 180 = .ok (.iadd, 1) := by decide +kernel
theorem dX8_person_181 : decode cX8_person 181 = .ok (.iconst 0, 1) := by decide +kernel
theorem dX8_person_182 : decode cX8_person 182 = .ok (.iastore, 1) := by decide +kernel
theorem dX8_person_183 : decode cX8_person 183 = .ok (.iinc 6 1, 3) := by decide +kernel
theorem dX8_person_186 : decode cX8_person 186 = .ok (.goto (-44), 3) := by decide +kernel
theorem dX8_person_189 : decode cX8_person 189 = .ok (.aload_n 0, 1) := by decide +kernel
theorem dX8_person_190 : decode cX8_person 190 = .ok (.getfield 7, 3) := by decide +kernel
theorem dX8_person_193 : decode cX8_person 193 = .ok (.iconst 0, 1) := by decide +kernel
theorem dX8_person_194 : decode cX8_person 194 = .ok (.dup2, 1) := by decide +kernel
theorem dX8_person_195 : decode cX8_person 195 = .ok (.iaload, 1) := by decide +kernel
theorem dX8_person_196 : decode cX8_person 196 = .ok (.iconst 1, 1) := by decide +kernel
theorem dX8_person_197 : decode cX8_person 197 = .ok (.iadd, 1) := by decide +kernel
theorem dX8_person_198 : decode cX8_person 198 = .ok (.iastore, 1) := by decide +kernel
theorem dX8_person_199 : decode cX8_person 199 = .ok (.iload 4, 2) := by decide +kernel
theorem dX8_person_201 : decode cX8_person 201 = .ok (.ireturn, 1) := by decide +kernel
theorem dX8_placeOf_0 : decode cX8_placeOf 0 = .ok (.iconst 0, 1) := by decide +kernel
theorem dX8_placeOf_1 : decode cX8_placeOf 1 = .ok (.istore_n 2, 1) := by decide +kernel
theorem dX8_placeOf_2 : decode cX8_placeOf 2 = .ok (.iload_n 2, 1) := by decide +kernel
theorem dX8_placeOf_3 : decode cX8_placeOf 3 = .ok (.aload_n 0, 1) := by decide +kernel
theorem dX8_placeOf_4 : decode cX8_placeOf 4 = .ok (.getfield 7, 3) := by decide +kernel
theorem dX8_placeOf_7 : decode cX8_placeOf 7 = .ok (.iconst 4, 1) := by decide +kernel
theorem dX8_placeOf_8 : decode cX8_placeOf 8 = .ok (.iaload, 1) := by decide +kernel
theorem dX8_placeOf_9 : decode cX8_placeOf 9 = .ok (.if_icmp .ge 24, 3) := by decide +kernel
theorem dX8_placeOf_12 : decode cX8_placeOf 12 = .ok (.aload_n 0, 1) := by decide +kernel
theorem dX8_placeOf_13 : decode cX8_placeOf 13 = .ok (.getfield 7, 3) := by decide +kernel
theorem dX8_placeOf_16 : decode cX8_placeOf 16 = .ok (.bipush 10, 2) := by decide +kernel
theorem dX8_placeOf_18 : decode cX8_placeOf 18 = .ok (.iload_n 2, 1) := by decide +kernel
theorem dX8_placeOf_19 : decode cX8_placeOf 19 = .ok (.iadd, 1) := by decide +kernel
theorem dX8_placeOf_20 : decode cX8_placeOf 20 = .ok (.iaload, 1) := by decide +kernel
theorem dX8_placeOf_21 : decode cX8_placeOf 21 = .ok (.iload_n 1, 1) := by decide +kernel
theorem dX8_placeOf_22 : decode cX8_placeOf 22 = .ok (.if_icmp .ne 5, 3) := by decide +kernel
theorem dX8_placeOf_25 : decode cX8_placeOf 25 = .ok (.iload_n 2, 1) := by decide +kernel
theorem dX8_placeOf_26 : decode cX8_placeOf 26 = .ok (.ireturn, 1) := by decide +kernel
theorem dX8_placeOf_27 : decode cX8_placeOf 27 = .ok (.iinc 2 1, 3) := by decide +kernel
theorem dX8_placeOf_30 : decode cX8_placeOf 30 = .ok (.goto (-28), 3) := by decide +kernel
theorem dX8_placeOf_33 : decode cX8_placeOf 33 = .ok (.iconst (-1), 1) := by decide +kernel
theorem dX8_placeOf_34 : decode cX8_placeOf 34 = .ok (.ireturn, 1) := by decide +kernel
theorem dX8_firstNamed_0 : decode cX8_firstNamed 0 = .ok (.iconst 0, 1) := by decide +kernel
theorem dX8_firstNamed_1 : decode cX8_firstNamed 1 = .ok (.istore_n 1, 1) := by decide +kernel
theorem dX8_firstNamed_2 : decode cX8_firstNamed 2 = .ok (.iload_n 1, 1) := by decide +kernel
theorem dX8_firstNamed_3 : decode cX8_firstNamed 3 = .ok (.aload_n 0, 1) := by decide +kernel
theorem dX8_firstNamed_4 : decode cX8_firstNamed 4 = .ok (.getfield 7, 3) := by decide +kernel
theorem dX8_firstNamed_7 : decode cX8_firstNamed 7 = .ok (.iconst 4, 1) := by decide +kernel
theorem dX8_firstNamed_8 : decode cX8_firstNamed 8 = .ok (.iaload, 1) := by decide +kernel
theorem dX8_firstNamed_9 : decode cX8_firstNamed 9 = .ok (.if_icmp .ge 31, 3) := by decide +kernel
theorem dX8_firstNamed_12 : decode cX8_firstNamed 12 = .ok (.aload_n 0, 1) := by decide +kernel
theorem dX8_firstNamed_13 : decode cX8_firstNamed 13 = .ok (.getfield 7, 3) := by decide +kernel
theorem dX8_firstNamed_16 : decode cX8_firstNamed 16 = .ok (.bipush 10, 2) := by decide +kernel
theorem dX8_firstNamed_18 : decode cX8_firstNamed 18 = .ok (.iload_n 1, 1) := by decide +kernel
theorem dX8_firstNamed_19 : decode cX8_firstNamed 19 = .ok (.iadd, 1) := by decide +kernel
theorem dX8_firstNamed_20 : decode cX8_firstNamed 20 = .ok (.iaload, 1) := by decide +kernel
theorem dX8_firstNamed_21 : decode cX8_firstNamed 21 = .ok (.ifCond .lt 13, 3) := by decide +kernel
theorem dX8_firstNamed_24 : decode cX8_firstNamed 24 = .ok (.aload_n 0, 1) := by decide +kernel
theorem dX8_firstNamed_25 : decode cX8_firstNamed 25 = .ok (.getfield 7, 3) := by decide +kernel
theorem dX8_firstNamed_28 : decode cX8_firstNamed 28 = .ok (.bipush 10, 2) := by decide +kernel
theorem dX8_firstNamed_30 : decode cX8_firstNamed 30 = .ok (.iload_n 1, 1) := by decide +kernel
theorem dX8_firstNamed_31 : decode cX8_firstNamed 31 = .ok (.iadd, 1) := by decide +kernel
theorem dX8_firstNamed_32 : decode cX8_firstNamed 32 = .ok (.iaload, 1) := by decide +kernel
theorem dX8_firstNamed_33 : decode cX8_firstNamed 33 = .ok (.ireturn, 1) := by decide +kernel
theorem dX8_firstNamed_34 : decode cX8_firstNamed 34 = .ok (.iinc 1 1, 3) := by decide +kernel
theorem dX8_firstNamed_37 : decode cX8_firstNamed 37 = .ok (.goto (-35), 3) := by decide +kernel
theorem dX8_firstNamed_40 : decode cX8_firstNamed 40 = .ok (.iconst (-1), 1) := by decide +kernel
theorem dX8_firstNamed_41 : decode cX8_firstNamed 41 = .ok (.ireturn, 1) := by decide +kernel
theorem dX8_mayName_0 : decode cX8_mayName 0 = .ok (.aload_n 0, 1) := by decide +kernel
theorem dX8_mayName_1 : decode cX8_mayName 1 = .ok (.iload_n 2, 1) := by decide +kernel
theorem dX8_mayName_2 : decode cX8_mayName 2 = .ok (.invokevirtual 86, 3) := by decide +kernel
theorem dX8_mayName_5 : decode cX8_mayName 5 = .ok (.ifCond .eq 11, 3) := by decide +kernel
theorem dX8_mayName_8 : decode cX8_mayName 8 = .ok (.aload_n 0, 1) := by decide +kernel
theorem dX8_mayName_9 : decode cX8_mayName 9 = .ok (.iload_n 2, 1) := by decide +kernel
theorem dX8_mayName_10 : decode cX8_mayName 10 = .ok (.invokevirtual 90, 3) := by decide +kernel
theorem dX8_mayName_13 : decode cX8_mayName 13 = .ok (.ifCond .lt 5, 3) := by decide +kernel
theorem dX8_mayName_16 : decode cX8_mayName 16 = .ok (.iconst 0, 1) := by decide +kernel
theorem dX8_mayName_17 : decode cX8_mayName 17 = .ok (.ireturn, 1) := by decide +kernel
theorem dX8_mayName_18 : decode cX8_mayName 18 = .ok (.iload_n 1, 1) := by decide +kernel
theorem dX8_mayName_19 : decode cX8_mayName 19 = .ok (.iload_n 2, 1) := by decide +kernel
theorem dX8_mayName_20 : decode cX8_mayName 20 = .ok (.if_icmp .ne 30, 3) := by decide +kernel
theorem dX8_mayName_23 : decode cX8_mayName 23 = .ok (.aload_n 0, 1) := by decide +kernel
theorem dX8_mayName_24 : decode cX8_mayName 24 = .ok (.getfield 7, 3) := by decide +kernel
theorem dX8_mayName_27 : decode cX8_mayName 27 = .ok (.iconst 1, 1) := by decide +kernel
theorem dX8_mayName_28 : decode cX8_mayName 28 = .ok (.iaload, 1) := by decide +kernel
theorem dX8_mayName_29 : decode cX8_mayName 29 = .ok (.iload_n 1, 1) := by decide +kernel
theorem dX8_mayName_30 : decode cX8_mayName 30 = .ok (.if_icmp .ne 18, 3) := by decide +kernel
theorem dX8_mayName_33 : decode cX8_mayName 33 = .ok (.aload_n 0, 1) := by decide +kernel
theorem dX8_mayName_34 : decode cX8_mayName 34 = .ok (.getfield 7, 3) := by decide +kernel
theorem dX8_mayName_37 : decode cX8_mayName 37 = .ok (.bipush 6, 2) := by decide +kernel
theorem dX8_mayName_39 : decode cX8_mayName 39 = .ok (.iaload, 1) := by decide +kernel
theorem dX8_mayName_40 : decode cX8_mayName 40 = .ok (.iconst 1, 1) := by decide +kernel
theorem dX8_mayName_41 : decode cX8_mayName 41 = .ok (.if_icmp .ne 7, 3) := by decide +kernel
theorem dX8_mayName_44 : decode cX8_mayName 44 = .ok (.iconst 1, 1) := by decide +kernel
theorem dX8_mayName_45 : decode cX8_mayName 45 = .ok (.goto 4, 3) := by decide +kernel
theorem dX8_mayName_48 : decode cX8_mayName 48 = .ok (.iconst 0, 1) := by decide +kernel
theorem dX8_mayName_49 : decode cX8_mayName 49 = .ok (.ireturn, 1) := by decide +kernel
theorem dX8_mayName_50 : decode cX8_mayName 50 = .ok (.aload_n 0, 1) := by decide +kernel
theorem dX8_mayName_51 : decode cX8_mayName 51 = .ok (.getfield 7, 3) := by decide +kernel
theorem dX8_mayName_54 : decode cX8_mayName 54 = .ok (.iconst 1, 1) := by decide +kernel
theorem dX8_mayName_55 : decode cX8_mayName 55 = .ok (.iaload, 1) := by decide +kernel
theorem dX8_mayName_56 : decode cX8_mayName 56 = .ok (.iload_n 2, 1) := by decide +kernel
theorem dX8_mayName_57 : decode cX8_mayName 57 = .ok (.if_icmp .eq 31, 3) := by decide +kernel
theorem dX8_mayName_60 : decode cX8_mayName 60 = .ok (.aload_n 0, 1) := by decide +kernel
theorem dX8_mayName_61 : decode cX8_mayName 61 = .ok (.getfield 7, 3) := by decide +kernel
theorem dX8_mayName_64 : decode cX8_mayName 64 = .ok (.bipush 7, 2) := by decide +kernel
theorem dX8_mayName_66 : decode cX8_mayName 66 = .ok (.iaload, 1) := by decide +kernel
theorem dX8_mayName_67 : decode cX8_mayName 67 = .ok (.iconst 1, 1) := by decide +kernel
theorem dX8_mayName_68 : decode cX8_mayName 68 = .ok (.if_icmp .eq 16, 3) := by decide +kernel
theorem dX8_mayName_71 : decode cX8_mayName 71 = .ok (.aload_n 0, 1) := by decide +kernel
theorem dX8_mayName_72 : decode cX8_mayName 72 = .ok (.iload_n 1, 1) := by decide +kernel
theorem dX8_mayName_73 : decode cX8_mayName 73 = .ok (.iconst 3, 1) := by decide +kernel
theorem dX8_mayName_74 : decode cX8_mayName 74 = .ok (.invokevirtual 65, 3) := by decide +kernel
theorem dX8_mayName_77 : decode cX8_mayName 77 = .ok (.iload_n 2, 1) := by decide +kernel
theorem dX8_mayName_78 : decode cX8_mayName 78 = .ok (.ishr, 1) := by decide +kernel
theorem dX8_mayName_79 : decode cX8_mayName 79 = .ok (.iconst 1, 1) := by decide +kernel
theorem dX8_mayName_80 : decode cX8_mayName 80 = .ok (.iand, 1) := by decide +kernel
theorem dX8_mayName_81 : decode cX8_mayName 81 = .ok (.ifCond .ne 7, 3) := by decide +kernel
theorem dX8_mayName_84 : decode cX8_mayName 84 = .ok (.iconst 1, 1) := by decide +kernel
theorem dX8_mayName_85 : decode cX8_mayName 85 = .ok (.goto 4, 3) := by decide +kernel
theorem dX8_mayName_88 : decode cX8_mayName 88 = .ok (.iconst 0, 1) := by decide +kernel
theorem dX8_mayName_89 : decode cX8_mayName 89 = .ok (.ireturn, 1) := by decide +kernel
theorem dX8_bestBy_0 : decode cX8_bestBy 0 = .ok (.iconst (-1), 1) := by decide +kernel
theorem dX8_bestBy_1 : decode cX8_bestBy 1 = .ok (.istore_n 3, 1) := by decide +kernel
theorem dX8_bestBy_2 : decode cX8_bestBy 2 = .ok (.iconst 0, 1) := by decide +kernel
theorem dX8_bestBy_3 : decode cX8_bestBy 3 = .ok (.istore 4, 2) := by decide +kernel
theorem dX8_bestBy_5 : decode cX8_bestBy 5 = .ok (.iconst 0, 1) := by decide +kernel
theorem dX8_bestBy_6 : decode cX8_bestBy 6 = .ok (.istore 5, 2) := by decide +kernel
theorem dX8_bestBy_8 : decode cX8_bestBy 8 = .ok (.iload 5, 2) := by decide +kernel
theorem dX8_bestBy_10 : decode cX8_bestBy 10 = .ok (.aload_n 0, 1) := by decide +kernel
theorem dX8_bestBy_11 : decode cX8_bestBy 11 = .ok (.getfield 7, 3) := by decide +kernel
theorem dX8_bestBy_14 : decode cX8_bestBy 14 = .ok (.iconst 0, 1) := by decide +kernel
theorem dX8_bestBy_15 : decode cX8_bestBy 15 = .ok (.iaload, 1) := by decide +kernel
theorem dX8_bestBy_16 : decode cX8_bestBy 16 = .ok (.if_icmp .ge 80, 3) := by decide +kernel
theorem dX8_bestBy_19 : decode cX8_bestBy 19 = .ok (.aload_n 0, 1) := by decide +kernel
theorem dX8_bestBy_20 : decode cX8_bestBy 20 = .ok (.iload_n 1, 1) := by decide +kernel
theorem dX8_bestBy_21 : decode cX8_bestBy 21 = .ok (.iload 5, 2) := by decide +kernel
theorem dX8_bestBy_23 : decode cX8_bestBy 23 = .ok (.invokevirtual 93, 3) := by decide +kernel
theorem dX8_bestBy_26 : decode cX8_bestBy 26 = .ok (.ifCond .eq 28, 3) := by decide +kernel
theorem dX8_bestBy_29 : decode cX8_bestBy 29 = .ok (.iload_n 2, 1) := by decide +kernel
theorem dX8_bestBy_30 : decode cX8_bestBy 30 = .ok (.iconst 4, 1) := by decide +kernel
theorem dX8_bestBy_31 : decode cX8_bestBy 31 = .ok (.if_icmp .ne 19, 3) := by decide +kernel
theorem dX8_bestBy_34 : decode cX8_bestBy 34 = .ok (.aload_n 0, 1) := by decide +kernel
theorem dX8_bestBy_35 : decode cX8_bestBy 35 = .ok (.iload 5, 2) := by decide +kernel
theorem dX8_bestBy_37 : decode cX8_bestBy 37 = .ok (.iconst 2, 1) := by decide +kernel
theorem dX8_bestBy_38 : decode cX8_bestBy 38 = .ok (.invokevirtual 65, 3) := by decide +kernel
theorem dX8_bestBy_41 : decode cX8_bestBy 41 = .ok (.aload_n 0, 1) := by decide +kernel
theorem dX8_bestBy_42 : decode cX8_bestBy 42 = .ok (.iload_n 1, 1) := by decide +kernel
theorem dX8_bestBy_43 : decode cX8_bestBy 43 = .ok (.iconst 2, 1) := by decide +kernel
theorem dX8_bestBy_44 : decode cX8_bestBy 44 = .ok (.invokevirtual 65, 3) := by decide +kernel
theorem dX8_bestBy_47 : decode cX8_bestBy 47 = .ok (.if_icmp .ne 7, 3) := by decide +kernel
theorem dX8_bestBy_50 : decode cX8_bestBy 50 = .ok (.iconst 1, 1) := by decide +kernel
theorem dX8_bestBy_51 : decode cX8_bestBy 51 = .ok (.goto 4, 3) := by decide +kernel
theorem dX8_bestBy_54 : decode cX8_bestBy 54 = .ok (.iconst 0, 1) := by decide +kernel
theorem dX8_bestBy_55 : decode cX8_bestBy 55 = .ok (.istore 6, 2) := by decide +kernel
theorem dX8_bestBy_57 : decode cX8_bestBy 57 = .ok (.iload 6, 2) := by decide +kernel
theorem dX8_bestBy_59 : decode cX8_bestBy 59 = .ok (.ifCond .eq 31, 3) := by decide +kernel
theorem dX8_bestBy_62 : decode cX8_bestBy 62 = .ok (.aload_n 0, 1) := by decide +kernel
theorem dX8_bestBy_63 : decode cX8_bestBy 63 = .ok (.iload_n 1, 1) := by decide +kernel
theorem dX8_bestBy_64 : decode cX8_bestBy 64 = .ok (.iload 5, 2) := by decide +kernel
theorem dX8_bestBy_66 : decode cX8_bestBy 66 = .ok (.iload_n 2, 1) := by decide +kernel
theorem dX8_bestBy_67 : decode cX8_bestBy 67 = .ok (.invokevirtual 97, 3) := by decide +kernel
theorem dX8_bestBy_70 : decode cX8_bestBy 70 = .ok (.istore 7, 2) := by decide +kernel
theorem dX8_bestBy_72 : decode cX8_bestBy 72 = .ok (.iload_n 3, 1) := by decide +kernel
theorem dX8_bestBy_73 : decode cX8_bestBy 73 = .ok (.ifCond .lt 10, 3) := by decide +kernel
theorem dX8_bestBy_76 : decode cX8_bestBy 76 = .ok (.iload 7, 2) := by decide +kernel
theorem dX8_bestBy_78 : decode cX8_bestBy 78 = .ok (.iload 4, 2) := by decide +kernel
theorem dX8_bestBy_80 : decode cX8_bestBy 80 = .ok (.if_icmp .le 10, 3) := by decide +kernel
theorem dX8_bestBy_83 : decode cX8_bestBy 83 = .ok (.iload 5, 2) := by decide +kernel
theorem dX8_bestBy_85 : decode cX8_bestBy 85 = .ok (.istore_n 3, 1) := by decide +kernel
theorem dX8_bestBy_86 : decode cX8_bestBy 86 = .ok (.iload 7, 2) := by decide +kernel
theorem dX8_bestBy_88 : decode cX8_bestBy 88 = .ok (.istore 4, 2) := by decide +kernel
theorem dX8_bestBy_90 : decode cX8_bestBy 90 = .ok (.iinc 5 1, 3) := by decide +kernel
theorem dX8_bestBy_93 : decode cX8_bestBy 93 = .ok (.goto (-85), 3) := by decide +kernel
theorem dX8_bestBy_96 : decode cX8_bestBy 96 = .ok (.iload_n 3, 1) := by decide +kernel
theorem dX8_bestBy_97 : decode cX8_bestBy 97 = .ok (.ireturn, 1) := by decide +kernel
theorem dX8_valueBy_0 : decode cX8_valueBy 0 = .ok (.iload_n 3, 1) := by decide +kernel
theorem dX8_valueBy_1 : decode cX8_valueBy 1 = .ok (.tableswitch 81 1 6 #[39, 49, 60, 81, 67, 74], 39) := by decide +kernel
theorem dX8_valueBy_40 : decode cX8_valueBy 40 = .ok (.aload_n 0, 1) := by decide +kernel
theorem dX8_valueBy_41 : decode cX8_valueBy 41 = .ok (.aload_n 0, 1) := by decide +kernel
theorem dX8_valueBy_42 : decode cX8_valueBy 42 = .ok (.invokevirtual 101, 3) := by decide +kernel
theorem dX8_valueBy_45 : decode cX8_valueBy 45 = .ok (.iload_n 2, 1) := by decide +kernel
theorem dX8_valueBy_46 : decode cX8_valueBy 46 = .ok (.invokevirtual 105, 3) := by decide +kernel
theorem dX8_valueBy_49 : decode cX8_valueBy 49 = .ok (.ireturn, 1) := by decide +kernel
theorem dX8_valueBy_50 : decode cX8_valueBy 50 = .ok (.aload_n 0, 1) := by decide +kernel
theorem dX8_valueBy_51 : decode cX8_valueBy 51 = .ok (.aload_n 0, 1) := by decide +kernel
theorem dX8_valueBy_52 : decode cX8_valueBy 52 = .ok (.invokevirtual 101, 3) := by decide +kernel
theorem dX8_valueBy_55 : decode cX8_valueBy 55 = .ok (.iload_n 2, 1) := by decide +kernel
theorem dX8_valueBy_56 : decode cX8_valueBy 56 = .ok (.invokevirtual 105, 3) := by decide +kernel
theorem dX8_valueBy_59 : decode cX8_valueBy 59 = .ok (.ineg, 1) := by decide +kernel
theorem dX8_valueBy_60 : decode cX8_valueBy 60 = .ok (.ireturn, 1) := by decide +kernel
theorem dX8_valueBy_61 : decode cX8_valueBy 61 = .ok (.aload_n 0, 1) := by decide +kernel
theorem dX8_valueBy_62 : decode cX8_valueBy 62 = .ok (.iload_n 2, 1) := by decide +kernel
theorem dX8_valueBy_63 : decode cX8_valueBy 63 = .ok (.iconst 1, 1) := by decide +kernel
theorem dX8_valueBy_64 : decode cX8_valueBy 64 = .ok (.invokevirtual 65, 3) := by decide +kernel
theorem dX8_valueBy_67 : decode cX8_valueBy 67 = .ok (.ireturn, 1) := by decide +kernel
theorem dX8_valueBy_68 : decode cX8_valueBy 68 = .ok (.aload_n 0, 1) := by decide +kernel
theorem dX8_valueBy_69 : decode cX8_valueBy 69 = .ok (.iload_n 1, 1) := by decide +kernel
theorem dX8_valueBy_70 : decode cX8_valueBy 70 = .ok (.iload_n 2, 1) := by decide +kernel
theorem dX8_valueBy_71 : decode cX8_valueBy 71 = .ok (.invokevirtual 108, 3) := by decide +kernel
theorem dX8_valueBy_74 : decode cX8_valueBy 74 = .ok (.ireturn, 1) := by decide +kernel
theorem dX8_valueBy_75 : decode cX8_valueBy 75 = .ok (.aload_n 0, 1) := by decide +kernel
theorem dX8_valueBy_76 : decode cX8_valueBy 76 = .ok (.iload_n 1, 1) := by decide +kernel
theorem dX8_valueBy_77 : decode cX8_valueBy 77 = .ok (.iload_n 2, 1) := by decide +kernel
theorem dX8_valueBy_78 : decode cX8_valueBy 78 = .ok (.invokevirtual 111, 3) := by decide +kernel
theorem dX8_valueBy_81 : decode cX8_valueBy 81 = .ok (.ireturn, 1) := by decide +kernel
theorem dX8_valueBy_82 : decode cX8_valueBy 82 = .ok (.aload_n 0, 1) := by decide +kernel
theorem dX8_valueBy_83 : decode cX8_valueBy 83 = .ok (.iload_n 1, 1) := by decide +kernel
theorem dX8_valueBy_84 : decode cX8_valueBy 84 = .ok (.iload_n 2, 1) := by decide +kernel
theorem dX8_valueBy_85 : decode cX8_valueBy 85 = .ok (.invokevirtual 105, 3) := by decide +kernel
theorem dX8_valueBy_88 : decode cX8_valueBy 88 = .ok (.ireturn, 1) := by decide +kernel
theorem dX8_would_0 : decode cX8_would 0 = .ok (.iload_n 1, 1) := by decide +kernel
theorem dX8_would_1 : decode cX8_would 1 = .ok (.aload_n 0, 1) := by decide +kernel
theorem dX8_would_2 : decode cX8_would 2 = .ok (.getfield 32, 3) := by decide +kernel
theorem dX8_would_5 : decode cX8_would 5 = .ok (.if_icmp .ne 10, 3) := by decide +kernel
theorem dX8_would_8 : decode cX8_would 8 = .ok (.aload_n 0, 1) := by decide +kernel
theorem dX8_would_9 : decode cX8_would 9 = .ok (.getfield 36, 3) := by decide +kernel
theorem dX8_would_12 : decode cX8_would 12 = .ok (.goto 19, 3) := by decide +kernel
theorem dX8_would_15 : decode cX8_would 15 = .ok (.iload_n 1, 1) := by decide +kernel
theorem dX8_would_16 : decode cX8_would 16 = .ok (.aload_n 0, 1) := by decide +kernel
theorem dX8_would_17 : decode cX8_would 17 = .ok (.getfield 36, 3) := by decide +kernel
theorem dX8_would_20 : decode cX8_would 20 = .ok (.if_icmp .ne 10, 3) := by decide +kernel
theorem dX8_would_23 : decode cX8_would 23 = .ok (.aload_n 0, 1) := by decide +kernel
theorem dX8_would_24 : decode cX8_would 24 = .ok (.getfield 32, 3) := by decide +kernel
theorem dX8_would_27 : decode cX8_would 27 = .ok (.goto 4, 3) := by decide +kernel
theorem dX8_would_30 : decode cX8_would 30 = .ok (.iconst (-1), 1) := by decide +kernel
theorem dX8_would_31 : decode cX8_would 31 = .ok (.istore_n 2, 1) := by decide +kernel
theorem dX8_would_32 : decode cX8_would 32 = .ok (.iload_n 2, 1) := by decide +kernel
theorem dX8_would_33 : decode cX8_would 33 = .ok (.ifCond .lt 21, 3) := by decide +kernel
theorem dX8_would_36 : decode cX8_would 36 = .ok (.aload_n 0, 1) := by decide +kernel
theorem dX8_would_37 : decode cX8_would 37 = .ok (.getfield 114, 3) := by decide +kernel
theorem dX8_would_40 : decode cX8_would 40 = .ok (.ifCond .ne 14, 3) := by decide +kernel
theorem dX8_would_43 : decode cX8_would 43 = .ok (.aload_n 0, 1) := by decide +kernel
theorem dX8_would_44 : decode cX8_would 44 = .ok (.iload_n 1, 1) := by decide +kernel
theorem dX8_would_45 : decode cX8_would 45 = .ok (.iload_n 2, 1) := by decide +kernel
theorem dX8_would_46 : decode cX8_would 46 = .ok (.invokevirtual 93, 3) := by decide +kernel
theorem dX8_would_49 : decode cX8_would 49 = .ok (.ifCond .eq 5, 3) := by decide +kernel
theorem dX8_would_52 : decode cX8_would 52 = .ok (.iload_n 2, 1) := by decide +kernel
theorem dX8_would_53 : decode cX8_would 53 = .ok (.ireturn, 1) := by decide +kernel
theorem dX8_would_54 : decode cX8_would 54 = .ok (.aload_n 0, 1) := by decide +kernel
theorem dX8_would_55 : decode cX8_would 55 = .ok (.iload_n 1, 1) := by decide +kernel
theorem dX8_would_56 : decode cX8_would 56 = .ok (.iconst 0, 1) := by decide +kernel
theorem dX8_would_57 : decode cX8_would 57 = .ok (.invokevirtual 65, 3) := by decide +kernel
theorem dX8_would_60 : decode cX8_would 60 = .ok (.istore_n 3, 1) := by decide +kernel
theorem dX8_would_61 : decode cX8_would 61 = .ok (.iload_n 3, 1) := by decide +kernel
theorem dX8_would_62 : decode cX8_would 62 = .ok (.ifCond .eq 49, 3) := by decide +kernel
theorem dX8_would_65 : decode cX8_would 65 = .ok (.iload_n 3, 1) := by decide +kernel
theorem dX8_would_66 : decode cX8_would 66 = .ok (.iconst 1, 1) := by decide +kernel
theorem dX8_would_67 : decode cX8_would 67 = .ok (.if_icmp .eq 8, 3) := by decide +kernel
theorem dX8_would_70 : decode cX8_would 70 = .ok (.iload_n 3, 1) := by decide +kernel
theorem dX8_would_71 : decode cX8_would 71 = .ok (.iconst 2, 1) := by decide +kernel
theorem dX8_would_72 : decode cX8_would 72 = .ok (.if_icmp .ne 10, 3) := by decide +kernel
theorem dX8_would_75 : decode cX8_would 75 = .ok (.aload_n 0, 1) := by decide +kernel
theorem dX8_would_76 : decode cX8_would 76 = .ok (.invokevirtual 101, 3) := by decide +kernel
theorem dX8_would_79 : decode cX8_would 79 = .ok (.ifCond .lt 32, 3) := by decide +kernel
theorem dX8_would_82 : decode cX8_would 82 = .ok (.iload_n 3, 1) := by decide +kernel
theorem dX8_would_83 : decode cX8_would 83 = .ok (.iconst 5, 1) := by decide +kernel
theorem dX8_would_84 : decode cX8_would 84 = .ok (.if_icmp .ne 14, 3) := by decide +kernel
theorem dX8_would_87 : decode cX8_would 87 = .ok (.aload_n 0, 1) := by decide +kernel
theorem dX8_would_88 : decode cX8_would 88 = .ok (.getfield 7, 3) := by decide +kernel
theorem dX8_would_91 : decode cX8_would 91 = .ok (.sipush 190, 3) := by decide +kernel
theorem dX8_would_94 : decode cX8_would 94 = .ok (.iaload, 1) := by decide +kernel
theorem dX8_would_95 : decode cX8_would 95 = .ok (.ifCond .eq 16, 3) := by decide +kernel
theorem dX8_would_98 : decode cX8_would 98 = .ok (.iload_n 3, 1) := by decide +kernel
theorem dX8_would_99 : decode cX8_would 99 = .ok (.bipush 6, 2) := by decide +kernel
theorem dX8_would_101 : decode cX8_would 101 = .ok (.if_icmp .ne 14, 3) := by decide +kernel
theorem dX8_would_104 : decode cX8_would 104 = .ok (.aload_n 0, 1) := by decide +kernel
theorem dX8_would_105 : decode cX8_would 105 = .ok (.getfield 114, 3) := by decide +kernel
theorem dX8_would_108 : decode cX8_would 108 = .ok (.ifCond .eq 7, 3) := by decide +kernel
theorem dX8_would_111 : decode cX8_would 111 = .ok (.iconst 1, 1) := by decide +kernel
theorem dX8_would_112 : decode cX8_would 112 = .ok (.goto 4, 3) := by decide +kernel
theorem dX8_would_115 : decode cX8_would 115 = .ok (.iconst 0, 1) := by decide +kernel
theorem dX8_would_116 : decode cX8_would 116 = .ok (.istore 4, 2) := by decide +kernel
theorem dX8_would_118 : decode cX8_would 118 = .ok (.aload_n 0, 1) := by decide +kernel
theorem dX8_would_119 : decode cX8_would 119 = .ok (.iload_n 1, 1) := by decide +kernel
theorem dX8_would_120 : decode cX8_would 120 = .ok (.iload 4, 2) := by decide +kernel
theorem dX8_would_122 : decode cX8_would 122 = .ok (.ifCond .eq 7, 3) := by decide +kernel
theorem dX8_would_125 : decode cX8_would 125 = .ok (.iconst 0, 1) := by decide +kernel
theorem dX8_would_126 : decode cX8_would 126 = .ok (.goto 4, 3) := by decide +kernel
theorem dX8_would_129 : decode cX8_would 129 = .ok (.iload_n 3, 1) := by decide +kernel
theorem dX8_would_130 : decode cX8_would 130 = .ok (.invokevirtual 118, 3) := by decide +kernel
theorem dX8_would_133 : decode cX8_would 133 = .ok (.istore 5, 2) := by decide +kernel
theorem dX8_would_135 : decode cX8_would 135 = .ok (.iload 5, 2) := by decide +kernel
theorem dX8_would_137 : decode cX8_would 137 = .ok (.ifCond .ge 17, 3) := by decide +kernel
theorem dX8_would_140 : decode cX8_would 140 = .ok (.iload_n 3, 1) := by decide +kernel
theorem dX8_would_141 : decode cX8_would 141 = .ok (.iconst 4, 1) := by decide +kernel
theorem dX8_would_142 : decode cX8_would 142 = .ok (.if_icmp .ne 12, 3) := by decide +kernel
theorem dX8_would_145 : decode cX8_would 145 = .ok (.aload_n 0, 1) := by decide +kernel
theorem dX8_would_146 : decode cX8_would 146 = .ok (.iload_n 1, 1) := by decide +kernel
theorem dX8_would_147 : decode cX8_would 147 = .ok (.iconst 0, 1) := by decide +kernel
theorem dX8_would_148 : decode cX8_would 148 = .ok (.invokevirtual 118, 3) := by decide +kernel
theorem dX8_would_151 : decode cX8_would 151 = .ok (.goto 5, 3) := by decide +kernel
theorem dX8_would_154 : decode cX8_would 154 = .ok (.iload 5, 2) := by decide +kernel
theorem dX8_would_156 : decode cX8_would 156 = .ok (.ireturn, 1) := by decide +kernel
theorem dX8_of_0 : decode cX8_of 0 = .ok (.aload_n 0, 1) := by decide +kernel
theorem dX8_of_1 : decode cX8_of 1 = .ok (.iload_n 1, 1) := by decide +kernel
theorem dX8_of_2 : decode cX8_of 2 = .ok (.invokevirtual 121, 3) := by decide +kernel
theorem dX8_of_5 : decode cX8_of 5 = .ok (.ifCond .eq 15, 3) := by decide +kernel
theorem dX8_of_8 : decode cX8_of 8 = .ok (.iload_n 2, 1) := by decide +kernel
theorem dX8_of_9 : decode cX8_of 9 = .ok (.i2l, 1) := by decide +kernel
theorem dX8_of_10 : decode cX8_of 10 = .ok (.lconst 0, 1) := by decide +kernel
theorem dX8_of_11 : decode cX8_of 11 = .ok (.ldc2_w 124, 3) := by decide +kernel
theorem dX8_of_14 : decode cX8_of 14 = .ok (.invokestatic 71, 3) := by decide +kernel
theorem dX8_of_17 : decode cX8_of 17 = .ok (.ifCond .ne 10, 3) := by decide +kernel
theorem dX8_of_20 : decode cX8_of 20 = .ok (.aload_n 0, 1) := by decide +kernel
theorem dX8_of_21 : decode cX8_of 21 = .ok (.ldc 64, 2) := by decide +kernel
theorem dX8_of_23 : decode cX8_of 23 = .ok (.invokevirtual 81, 3) := by decide +kernel
theorem dX8_of_26 : decode cX8_of 26 = .ok (.ireturn, 1) := by decide +kernel
theorem dX8_of_27 : decode cX8_of 27 = .ok (.iload_n 2, 1) := by decide +kernel
theorem dX8_of_28 : decode cX8_of 28 = .ok (.bipush 6, 2) := by decide +kernel
theorem dX8_of_30 : decode cX8_of 30 = .ok (.if_icmp .ge 12, 3) := by decide +kernel
theorem dX8_of_33 : decode cX8_of 33 = .ok (.aload_n 0, 1) := by decide +kernel
theorem dX8_of_34 : decode cX8_of 34 = .ok (.iload_n 1, 1) := by decide +kernel
theorem dX8_of_35 : decode cX8_of 35 = .ok (.iload_n 2, 1) := by decide +kernel
theorem dX8_of_36 : decode cX8_of 36 = .ok (.invokevirtual 65, 3) := by decide +kernel
theorem dX8_of_39 : decode cX8_of 39 = .ok (.goto 22, 3) := by decide +kernel
theorem dX8_of_42 : decode cX8_of 42 = .ok (.iload_n 2, 1) := by decide +kernel
theorem dX8_of_43 : decode cX8_of 43 = .ok (.bipush 6, 2) := by decide +kernel
theorem dX8_of_45 : decode cX8_of 45 = .ok (.if_icmp .ne 11, 3) := by decide +kernel
theorem dX8_of_48 : decode cX8_of 48 = .ok (.aload_n 0, 1) := by decide +kernel
theorem dX8_of_49 : decode cX8_of 49 = .ok (.iload_n 1, 1) := by decide +kernel
theorem dX8_of_50 : decode cX8_of 50 = .ok (.invokevirtual 90, 3) := by decide +kernel
theorem dX8_of_53 : decode cX8_of 53 = .ok (.goto 8, 3) := by decide +kernel
theorem dX8_of_56 : decode cX8_of 56 = .ok (.aload_n 0, 1) := by decide +kernel
theorem dX8_of_57 : decode cX8_of 57 = .ok (.iload_n 1, 1) := by decide +kernel
theorem dX8_of_58 : decode cX8_of 58 = .ok (.invokevirtual 126, 3) := by decide +kernel
theorem dX8_of_61 : decode cX8_of 61 = .ok (.ireturn, 1) := by decide +kernel
theorem dX8_isFit_0 : decode cX8_isFit 0 = .ok (.iload_n 0, 1) := by decide +kernel
theorem dX8_isFit_1 : decode cX8_isFit 1 = .ok (.ifCond .ne 15, 3) := by decide +kernel
theorem dX8_isFit_4 : decode cX8_isFit 4 = .ok (.iload_n 1, 1) := by decide +kernel
theorem dX8_isFit_5 : decode cX8_isFit 5 = .ok (.i2l, 1) := by decide +kernel
theorem dX8_isFit_6 : decode cX8_isFit 6 = .ok (.lconst 0, 1) := by decide +kernel
theorem dX8_isFit_7 : decode cX8_isFit 7 = .ok (.ldc2_w 69, 3) := by decide +kernel
theorem dX8_isFit_10 : decode cX8_isFit 10 = .ok (.invokestatic 71, 3) := by decide +kernel
theorem dX8_isFit_13 : decode cX8_isFit 13 = .ok (.goto 48, 3) := by decide +kernel
theorem dX8_isFit_16 : decode cX8_isFit 16 = .ok (.iload_n 0, 1) := by decide +kernel
theorem dX8_isFit_17 : decode cX8_isFit 17 = .ok (.iconst 1, 1) := by decide +kernel
theorem dX8_isFit_18 : decode cX8_isFit 18 = .ok (.if_icmp .ne 17, 3) := by decide +kernel
theorem dX8_isFit_21 : decode cX8_isFit 21 = .ok (.iload_n 1, 1) := by decide +kernel
theorem dX8_isFit_22 : decode cX8_isFit 22 = .ok (.i2l, 1) := by decide +kernel
theorem dX8_isFit_23 : decode cX8_isFit 23 = .ok (.ldc2_w 75, 3) := by decide +kernel
theorem dX8_isFit_26 : decode cX8_isFit 26 = .ok (.ldc2_w 77, 3) := by decide +kernel
theorem dX8_isFit_29 : decode cX8_isFit 29 = .ok (.invokestatic 71, 3) := by decide +kernel
theorem dX8_isFit_32 : decode cX8_isFit 32 = .ok (.goto 29, 3) := by decide +kernel
theorem dX8_isFit_35 : decode cX8_isFit 35 = .ok (.iload_n 0, 1) := by decide +kernel
theorem dX8_isFit_36 : decode cX8_isFit 36 = .ok (.iconst 2, 1) := by decide +kernel
theorem dX8_isFit_37 : decode cX8_isFit 37 = .ok (.if_icmp .ne 15, 3) := by decide +kernel
theorem dX8_isFit_40 : decode cX8_isFit 40 = .ok (.iload_n 1, 1) := by decide +kernel
theorem dX8_isFit_41 : decode cX8_isFit 41 = .ok (.i2l, 1) := by decide +kernel
theorem dX8_isFit_42 : decode cX8_isFit 42 = .ok (.lconst 0, 1) := by decide +kernel
theorem dX8_isFit_43 : decode cX8_isFit 43 = .ok (.ldc2_w 79, 3) := by decide +kernel
theorem dX8_isFit_46 : decode cX8_isFit 46 = .ok (.invokestatic 71, 3) := by decide +kernel
theorem dX8_isFit_49 : decode cX8_isFit 49 = .ok (.goto 12, 3) := by decide +kernel
theorem dX8_isFit_52 : decode cX8_isFit 52 = .ok (.iload_n 1, 1) := by decide +kernel
theorem dX8_isFit_53 : decode cX8_isFit 53 = .ok (.i2l, 1) := by decide +kernel
theorem dX8_isFit_54 : decode cX8_isFit 54 = .ok (.lconst 0, 1) := by decide +kernel
theorem dX8_isFit_55 : decode cX8_isFit 55 = .ok (.ldc2_w 129, 3) := by decide +kernel
theorem dX8_isFit_58 : decode cX8_isFit 58 = .ok (.invokestatic 71, 3) := by decide +kernel
theorem dX8_isFit_61 : decode cX8_isFit 61 = .ok (.ireturn, 1) := by decide +kernel
theorem dX8_set_0 : decode cX8_set 0 = .ok (.aload_n 0, 1) := by decide +kernel
theorem dX8_set_1 : decode cX8_set 1 = .ok (.iload_n 1, 1) := by decide +kernel
theorem dX8_set_2 : decode cX8_set 2 = .ok (.invokevirtual 121, 3) := by decide +kernel
theorem dX8_set_5 : decode cX8_set 5 = .ok (.ifCond .eq 23, 3) := by decide +kernel
theorem dX8_set_8 : decode cX8_set 8 = .ok (.iload_n 2, 1) := by decide +kernel
theorem dX8_set_9 : decode cX8_set 9 = .ok (.i2l, 1) := by decide +kernel
theorem dX8_set_10 : decode cX8_set 10 = .ok (.lconst 0, 1) := by decide +kernel
theorem dX8_set_11 : decode cX8_set 11 = .ok (.ldc2_w 79, 3) := by decide +kernel
theorem dX8_set_14 : decode cX8_set 14 = .ok (.invokestatic 71, 3) := by decide +kernel
theorem dX8_set_17 : decode cX8_set 17 = .ok (.ifCond .eq 11, 3) := by decide +kernel
theorem dX8_set_20 : decode cX8_set 20 = .ok (.iload_n 2, 1) := by decide +kernel
theorem dX8_set_21 : decode cX8_set 21 = .ok (.iload_n 3, 1) := by decide +kernel
theorem dX8_set_22 : decode cX8_set 22 = .ok (.invokestatic 131, 3) := by decide +kernel
theorem dX8_set_25 : decode cX8_set 25 = .ok (.ifCond .ne 10, 3) := by decide +kernel
theorem dX8_set_28 : decode cX8_set 28 = .ok (.aload_n 0, 1) := by decide +kernel
theorem dX8_set_29 : decode cX8_set 29 = .ok (.ldc 64, 2) := by decide +kernel
theorem dX8_set_31 : decode cX8_set 31 = .ok (.invokevirtual 81, 3) := by decide +kernel
theorem dX8_set_34 : decode cX8_set 34 = .ok (.ireturn, 1) := by decide +kernel
theorem dX8_set_35 : decode cX8_set 35 = .ok (.aload_n 0, 1) := by decide +kernel
theorem dX8_set_36 : decode cX8_set 36 = .ok (.bipush 14, 2) := by decide +kernel
theorem dX8_set_38 : decode cX8_set 38 = .ok (.bipush 6, 2) := by decide +kernel
theorem dX8_set_40 : decode cX8_set 40 = .ok (.iload_n 1, 1) := by decide +kernel
theorem dX8_set_41 : decode cX8_set 41 = .ok (.imul, 1) := by decide +kernel
theorem dX8_set_42 : decode cX8_set 42 = .ok (.iadd, 1) := by decide +kernel
theorem dX8_set_43 : decode cX8_set 43 = .ok (.iload_n 2, 1) := by decide +kernel
theorem dX8_set_44 : decode cX8_set 44 = .ok (.iadd, 1) := by decide +kernel
theorem dX8_set_45 : decode cX8_set 45 = .ok (.iload_n 3, 1) := by decide +kernel
theorem dX8_set_46 : decode cX8_set 46 = .ok (.invokevirtual 134, 3) := by decide +kernel
theorem dX8_set_49 : decode cX8_set 49 = .ok (.ireturn, 1) := by decide +kernel
theorem dX8_as_0 : decode cX8_as 0 = .ok (.aload_n 0, 1) := by decide +kernel
theorem dX8_as_1 : decode cX8_as 1 = .ok (.iload_n 1, 1) := by decide +kernel
theorem dX8_as_2 : decode cX8_as 2 = .ok (.invokevirtual 121, 3) := by decide +kernel
theorem dX8_as_5 : decode cX8_as 5 = .ok (.ifCond .eq 15, 3) := by decide +kernel
theorem dX8_as_8 : decode cX8_as 8 = .ok (.iload_n 2, 1) := by decide +kernel
theorem dX8_as_9 : decode cX8_as 9 = .ok (.i2l, 1) := by decide +kernel
theorem dX8_as_10 : decode cX8_as 10 = .ok (.lconst 0, 1) := by decide +kernel
theorem dX8_as_11 : decode cX8_as 11 = .ok (.ldc2_w 69, 3) := by decide +kernel
theorem dX8_as_14 : decode cX8_as 14 = .ok (.invokestatic 71, 3) := by decide +kernel
theorem dX8_as_17 : decode cX8_as 17 = .ok (.ifCond .ne 10, 3) := by decide +kernel
theorem dX8_as_20 : decode cX8_as 20 = .ok (.aload_n 0, 1) := by decide +kernel
theorem dX8_as_21 : decode cX8_as 21 = .ok (.ldc 64, 2) := by decide +kernel
theorem dX8_as_23 : decode cX8_as 23 = .ok (.invokevirtual 81, 3) := by decide +kernel
theorem dX8_as_26 : decode cX8_as 26 = .ok (.ireturn, 1) := by decide +kernel
theorem dX8_as_27 : decode cX8_as 27 = .ok (.aload_n 0, 1) := by decide +kernel
theorem dX8_as_28 : decode cX8_as 28 = .ok (.iload_n 1, 1) := by decide +kernel
theorem dX8_as_29 : decode cX8_as 29 = .ok (.iconst 0, 1) := by decide +kernel
theorem dX8_as_30 : decode cX8_as 30 = .ok (.invokevirtual 65, 3) := by decide +kernel
theorem dX8_as_33 : decode cX8_as 33 = .ok (.istore_n 3, 1) := by decide +kernel
theorem dX8_as_34 : decode cX8_as 34 = .ok (.iload_n 2, 1) := by decide +kernel
theorem dX8_as_35 : decode cX8_as 35 = .ok (.ifCond .eq 18, 3) := by decide +kernel
theorem dX8_as_38 : decode cX8_as 38 = .ok (.iload_n 2, 1) := by decide +kernel
theorem dX8_as_39 : decode cX8_as 39 = .ok (.iload_n 3, 1) := by decide +kernel
theorem dX8_as_40 : decode cX8_as 40 = .ok (.if_icmp .eq 13, 3) := by decide +kernel
theorem dX8_as_43 : decode cX8_as 43 = .ok (.iload_n 2, 1) := by decide +kernel
theorem dX8_as_44 : decode cX8_as 44 = .ok (.iconst 1, 1) := by decide +kernel
theorem dX8_as_45 : decode cX8_as 45 = .ok (.if_icmp .ne 17, 3) := by decide +kernel
theorem dX8_as_48 : decode cX8_as 48 = .ok (.iload_n 3, 1) := by decide +kernel
theorem dX8_as_49 : decode cX8_as 49 = .ok (.iconst 2, 1) := by decide +kernel
theorem dX8_as_50 : decode cX8_as 50 = .ok (.if_icmp .ne 12, 3) := by decide +kernel
theorem dX8_as_53 : decode cX8_as 53 = .ok (.aload_n 0, 1) := by decide +kernel
theorem dX8_as_54 : decode cX8_as 54 = .ok (.iload_n 1, 1) := by decide +kernel
theorem dX8_as_55 : decode cX8_as 55 = .ok (.iconst 4, 1) := by decide +kernel
theorem dX8_as_56 : decode cX8_as 56 = .ok (.invokevirtual 65, 3) := by decide +kernel
theorem dX8_as_59 : decode cX8_as 59 = .ok (.goto 9, 3) := by decide +kernel
theorem dX8_as_62 : decode cX8_as 62 = .ok (.aload_n 0, 1) := by decide +kernel
theorem dX8_as_63 : decode cX8_as 63 = .ok (.ldc 137, 2) := by decide +kernel
theorem dX8_as_65 : decode cX8_as 65 = .ok (.invokevirtual 81, 3) := by decide +kernel
theorem dX8_as_68 : decode cX8_as 68 = .ok (.ireturn, 1) := by decide +kernel
theorem dX8_likes_0 : decode cX8_likes 0 = .ok (.aload_n 0, 1) := by decide +kernel
theorem dX8_likes_1 : decode cX8_likes 1 = .ok (.iload_n 1, 1) := by decide +kernel
theorem dX8_likes_2 : decode cX8_likes 2 = .ok (.invokevirtual 121, 3) := by decide +kernel
theorem dX8_likes_5 : decode cX8_likes 5 = .ok (.ifCond .eq 30, 3) := by decide +kernel
theorem dX8_likes_8 : decode cX8_likes 8 = .ok (.aload_n 0, 1) := by decide +kernel
theorem dX8_likes_9 : decode cX8_likes 9 = .ok (.iload_n 2, 1) := by decide +kernel
theorem dX8_likes_10 : decode cX8_likes 10 = .ok (.invokevirtual 121, 3) := by decide +kernel
theorem dX8_likes_13 : decode cX8_likes 13 = .ok (.ifCond .eq 22, 3) := by decide +kernel
theorem dX8_likes_16 : decode cX8_likes 16 = .ok (.iload_n 1, 1) := by decide +kernel
theorem dX8_likes_17 : decode cX8_likes 17 = .ok (.iload_n 2, 1) := by decide +kernel
theorem dX8_likes_18 : decode cX8_likes 18 = .ok (.if_icmp .eq 17, 3) := by decide +kernel
theorem dX8_likes_21 : decode cX8_likes 21 = .ok (.iload_n 3, 1) := by decide +kernel
theorem dX8_likes_22 : decode cX8_likes 22 = .ok (.i2l, 1) := by decide +kernel
theorem dX8_likes_23 : decode cX8_likes 23 = .ok (.ldc2_w 138, 3) := by decide +kernel
theorem dX8_likes_26 : decode cX8_likes 26 = .ok (.ldc2_w 140, 3) := by decide +kernel
theorem dX8_likes_29 : decode cX8_likes 29 = .ok (.invokestatic 71, 3) := by decide +kernel
theorem dX8_likes_32 : decode cX8_likes 32 = .ok (.ifCond .ne 10, 3) := by decide +kernel
theorem dX8_likes_35 : decode cX8_likes 35 = .ok (.aload_n 0, 1) := by decide +kernel
theorem dX8_likes_36 : decode cX8_likes 36 = .ok (.ldc 64, 2) := by decide +kernel
theorem dX8_likes_38 : decode cX8_likes 38 = .ok (.invokevirtual 81, 3) := by decide +kernel
theorem dX8_likes_41 : decode cX8_likes 41 = .ok (.ireturn, 1) := by decide +kernel
theorem dX8_likes_42 : decode cX8_likes 42 = .ok (.aload_n 0, 1) := by decide +kernel
theorem dX8_likes_43 : decode cX8_likes 43 = .ok (.bipush 74, 2) := by decide +kernel
theorem dX8_likes_45 : decode cX8_likes 45 = .ok (.bipush 10, 2) := by decide +kernel
theorem dX8_likes_47 : decode cX8_likes 47 = .ok (.iload_n 1, 1) := by decide +kernel
theorem dX8_likes_48 : decode cX8_likes 48 = .ok (.imul, 1) := by decide +kernel
theorem dX8_likes_49 : decode cX8_likes 49 = .ok (.iadd, 1) := by decide +kernel
theorem dX8_likes_50 : decode cX8_likes 50 = .ok (.iload_n 2, 1) := by decide +kernel
theorem dX8_likes_51 : decode cX8_likes 51 = .ok (.iadd, 1) := by decide +kernel
theorem dX8_likes_52 : decode cX8_likes 52 = .ok (.iload_n 3, 1) := by decide +kernel
theorem dX8_likes_53 : decode cX8_likes 53 = .ok (.invokevirtual 134, 3) := by decide +kernel
theorem dX8_likes_56 : decode cX8_likes 56 = .ok (.ireturn, 1) := by decide +kernel
theorem dX8_worth_0 : decode cX8_worth 0 = .ok (.iload_n 1, 1) := by decide +kernel
theorem dX8_worth_1 : decode cX8_worth 1 = .ok (.i2l, 1) := by decide +kernel
theorem dX8_worth_2 : decode cX8_worth 2 = .ok (.lconst 0, 1) := by decide +kernel
theorem dX8_worth_3 : decode cX8_worth 3 = .ok (.ldc2_w 79, 3) := by decide +kernel
theorem dX8_worth_6 : decode cX8_worth 6 = .ok (.invokestatic 71, 3) := by decide +kernel
theorem dX8_worth_9 : decode cX8_worth 9 = .ok (.ifCond .eq 46, 3) := by decide +kernel
theorem dX8_worth_12 : decode cX8_worth 12 = .ok (.iload_n 2, 1) := by decide +kernel
theorem dX8_worth_13 : decode cX8_worth 13 = .ok (.i2l, 1) := by decide +kernel
theorem dX8_worth_14 : decode cX8_worth 14 = .ok (.lconst 0, 1) := by decide +kernel
theorem dX8_worth_15 : decode cX8_worth 15 = .ok (.ldc2_w 79, 3) := by decide +kernel
theorem dX8_worth_18 : decode cX8_worth 18 = .ok (.invokestatic 71, 3) := by decide +kernel
theorem dX8_worth_21 : decode cX8_worth 21 = .ok (.ifCond .eq 34, 3) := by decide +kernel
theorem dX8_worth_24 : decode cX8_worth 24 = .ok (.iload_n 3, 1) := by decide +kernel
theorem dX8_worth_25 : decode cX8_worth 25 = .ok (.i2l, 1) := by decide +kernel
theorem dX8_worth_26 : decode cX8_worth 26 = .ok (.ldc2_w 142, 3) := by decide +kernel
theorem dX8_worth_29 : decode cX8_worth 29 = .ok (.ldc2_w 77, 3) := by decide +kernel
theorem dX8_worth_32 : decode cX8_worth 32 = .ok (.invokestatic 71, 3) := by decide +kernel
theorem dX8_worth_35 : decode cX8_worth 35 = .ok (.ifCond .eq 20, 3) := by decide +kernel
theorem dX8_worth_38 : decode cX8_worth 38 = .ok (.aload_n 0, 1) := by decide +kernel
theorem dX8_worth_39 : decode cX8_worth 39 = .ok (.sipush 174, 3) := by decide +kernel
theorem dX8_worth_42 : decode cX8_worth 42 = .ok (.iconst 4, 1) := by decide +kernel
theorem dX8_worth_43 : decode cX8_worth 43 = .ok (.iload_n 1, 1) := by decide +kernel
theorem dX8_worth_44 : decode cX8_worth 44 = .ok (.imul, 1) := by decide +kernel
theorem dX8_worth_45 : decode cX8_worth 45 = .ok (.iadd, 1) := by decide +kernel
theorem dX8_worth_46 : decode cX8_worth 46 = .ok (.iload_n 2, 1) := by decide +kernel
theorem dX8_worth_47 : decode cX8_worth 47 = .ok (.iadd, 1) := by decide +kernel
theorem dX8_worth_48 : decode cX8_worth 48 = .ok (.iload_n 3, 1) := by decide +kernel
theorem dX8_worth_49 : decode cX8_worth 49 = .ok (.invokevirtual 134, 3) := by decide +kernel
theorem dX8_worth_52 : decode cX8_worth 52 = .ok (.goto 9, 3) := by decide +kernel
theorem dX8_worth_55 : decode cX8_worth 55 = .ok (.aload_n 0, 1) := by decide +kernel
theorem dX8_worth_56 : decode cX8_worth 56 = .ok (.ldc 64, 2) := by decide +kernel
theorem dX8_worth_58 : decode cX8_worth 58 = .ok (.invokevirtual 81, 3) := by decide +kernel
theorem dX8_worth_61 : decode cX8_worth 61 = .ok (.ireturn, 1) := by decide +kernel
theorem dX8_isRule_0 : decode cX8_isRule 0 = .ok (.iload_n 0, 1) := by decide +kernel
theorem dX8_isRule_1 : decode cX8_isRule 1 = .ok (.tableswitch 87 0 5 #[39, 49, 59, 59, 67, 77], 39) := by decide +kernel
theorem dX8_isRule_40 : decode cX8_isRule 40 = .ok (.iload_n 1, 1) := by decide +kernel
theorem dX8_isRule_41 : decode cX8_isRule 41 = .ok (.i2l, 1) := by decide +kernel
theorem dX8_isRule_42 : decode cX8_isRule 42 = .ok (.lconst 1, 1) := by decide +kernel
theorem dX8_isRule_43 : decode cX8_isRule 43 = .ok (.ldc2_w 144, 3) := by decide +kernel
theorem dX8_isRule_46 : decode cX8_isRule 46 = .ok (.invokestatic 71, 3) := by decide +kernel
theorem dX8_isRule_49 : decode cX8_isRule 49 = .ok (.ireturn, 1) := by decide +kernel
theorem dX8_isRule_50 : decode cX8_isRule 50 = .ok (.iload_n 1, 1) := by decide +kernel
theorem dX8_isRule_51 : decode cX8_isRule 51 = .ok (.i2l, 1) := by decide +kernel
theorem dX8_isRule_52 : decode cX8_isRule 52 = .ok (.lconst 1, 1) := by decide +kernel
theorem dX8_isRule_53 : decode cX8_isRule 53 = .ok (.ldc2_w 146, 3) := by decide +kernel
theorem dX8_isRule_56 : decode cX8_isRule 56 = .ok (.invokestatic 71, 3) := by decide +kernel
theorem dX8_isRule_59 : decode cX8_isRule 59 = .ok (.ireturn, 1) := by decide +kernel
theorem dX8_isRule_60 : decode cX8_isRule 60 = .ok (.iload_n 1, 1) := by decide +kernel
theorem dX8_isRule_61 : decode cX8_isRule 61 = .ok (.i2l, 1) := by decide +kernel
theorem dX8_isRule_62 : decode cX8_isRule 62 = .ok (.lconst 0, 1) := by decide +kernel
theorem dX8_isRule_63 : decode cX8_isRule 63 = .ok (.lconst 1, 1) := by decide +kernel
theorem dX8_isRule_64 : decode cX8_isRule 64 = .ok (.invokestatic 71, 3) := by decide +kernel
theorem dX8_isRule_67 : decode cX8_isRule 67 = .ok (.ireturn, 1) := by decide +kernel
theorem dX8_isRule_68 : decode cX8_isRule 68 = .ok (.iload_n 1, 1) := by decide +kernel
theorem dX8_isRule_69 : decode cX8_isRule 69 = .ok (.i2l, 1) := by decide +kernel
theorem dX8_isRule_70 : decode cX8_isRule 70 = .ok (.lconst 0, 1) := by decide +kernel
theorem dX8_isRule_71 : decode cX8_isRule 71 = .ok (.ldc2_w 148, 3) := by decide +kernel
theorem dX8_isRule_74 : decode cX8_isRule 74 = .ok (.invokestatic 71, 3) := by decide +kernel
theorem dX8_isRule_77 : decode cX8_isRule 77 = .ok (.ireturn, 1) := by decide +kernel
theorem dX8_isRule_78 : decode cX8_isRule 78 = .ok (.iload_n 1, 1) := by decide +kernel
theorem dX8_isRule_79 : decode cX8_isRule 79 = .ok (.i2l, 1) := by decide +kernel
theorem dX8_isRule_80 : decode cX8_isRule 80 = .ok (.lconst 0, 1) := by decide +kernel
theorem dX8_isRule_81 : decode cX8_isRule 81 = .ok (.ldc2_w 75, 3) := by decide +kernel
theorem dX8_isRule_84 : decode cX8_isRule 84 = .ok (.invokestatic 71, 3) := by decide +kernel
theorem dX8_isRule_87 : decode cX8_isRule 87 = .ok (.ireturn, 1) := by decide +kernel
theorem dX8_isRule_88 : decode cX8_isRule 88 = .ok (.iconst 0, 1) := by decide +kernel
theorem dX8_isRule_89 : decode cX8_isRule 89 = .ok (.ireturn, 1) := by decide +kernel
theorem dX8_cutsLine_0 : decode cX8_cutsLine 0 = .ok (.aload_n 0, 1) := by decide +kernel
theorem dX8_cutsLine_1 : decode cX8_cutsLine 1 = .ok (.getfield 7, 3) := by decide +kernel
theorem dX8_cutsLine_4 : decode cX8_cutsLine 4 = .ok (.iconst 4, 1) := by decide +kernel
theorem dX8_cutsLine_5 : decode cX8_cutsLine 5 = .ok (.iaload, 1) := by decide +kernel
theorem dX8_cutsLine_6 : decode cX8_cutsLine 6 = .ok (.istore_n 1, 1) := by decide +kernel
theorem dX8_cutsLine_7 : decode cX8_cutsLine 7 = .ok (.iload_n 1, 1) := by decide +kernel
theorem dX8_cutsLine_8 : decode cX8_cutsLine 8 = .ok (.iconst 4, 1) := by decide +kernel
theorem dX8_cutsLine_9 : decode cX8_cutsLine 9 = .ok (.if_icmp .ge 19, 3) := by decide +kernel
theorem dX8_cutsLine_12 : decode cX8_cutsLine 12 = .ok (.aload_n 0, 1) := by decide +kernel
theorem dX8_cutsLine_13 : decode cX8_cutsLine 13 = .ok (.getfield 7, 3) := by decide +kernel
theorem dX8_cutsLine_16 : decode cX8_cutsLine 16 = .ok (.bipush 10, 2) := by decide +kernel
theorem dX8_cutsLine_18 : decode cX8_cutsLine 18 = .ok (.iload_n 1, 1) := by decide +kernel
theorem dX8_cutsLine_19 : decode cX8_cutsLine 19 = .ok (.iadd, 1) := by decide +kernel
theorem dX8_cutsLine_20 : decode cX8_cutsLine 20 = .ok (.iconst (-1), 1) := by decide +kernel
theorem dX8_cutsLine_21 : decode cX8_cutsLine 21 = .ok (.iastore, 1) := by decide +kernel
theorem dX8_cutsLine_22 : decode cX8_cutsLine 22 = .ok (.iinc 1 1, 3) := by decide +kernel
theorem dX8_cutsLine_25 : decode cX8_cutsLine 25 = .ok (.goto (-18), 3) := by decide +kernel
theorem dX8_cutsLine_28 : decode cX8_cutsLine 28 = .ok (.return_, 1) := by decide +kernel
theorem dX8_rule_0 : decode cX8_rule 0 = .ok (.iload_n 1, 1) := by decide +kernel
theorem dX8_rule_1 : decode cX8_rule 1 = .ok (.iload_n 2, 1) := by decide +kernel
theorem dX8_rule_2 : decode cX8_rule 2 = .ok (.invokestatic 150, 3) := by decide +kernel
theorem dX8_rule_5 : decode cX8_rule 5 = .ok (.ifCond .ne 10, 3) := by decide +kernel
theorem dX8_rule_8 : decode cX8_rule 8 = .ok (.aload_n 0, 1) := by decide +kernel
theorem dX8_rule_9 : decode cX8_rule 9 = .ok (.ldc 64, 2) := by decide +kernel
theorem dX8_rule_11 : decode cX8_rule 11 = .ok (.invokevirtual 81, 3) := by decide +kernel
theorem dX8_rule_14 : decode cX8_rule 14 = .ok (.ireturn, 1) := by decide +kernel
theorem dX8_rule_15 : decode cX8_rule 15 = .ok (.aload_n 0, 1) := by decide +kernel
theorem dX8_rule_16 : decode cX8_rule 16 = .ok (.iconst 4, 1) := by decide +kernel
theorem dX8_rule_17 : decode cX8_rule 17 = .ok (.iload_n 1, 1) := by decide +kernel
theorem dX8_rule_18 : decode cX8_rule 18 = .ok (.iadd, 1) := by decide +kernel
theorem dX8_rule_19 : decode cX8_rule 19 = .ok (.iload_n 2, 1) := by decide +kernel
theorem dX8_rule_20 : decode cX8_rule 20 = .ok (.invokevirtual 134, 3) := by decide +kernel
theorem dX8_rule_23 : decode cX8_rule 23 = .ok (.istore_n 3, 1) := by decide +kernel
theorem dX8_rule_24 : decode cX8_rule 24 = .ok (.aload_n 0, 1) := by decide +kernel
theorem dX8_rule_25 : decode cX8_rule 25 = .ok (.invokevirtual 153, 3) := by decide +kernel
theorem dX8_rule_28 : decode cX8_rule 28 = .ok (.iload_n 3, 1) := by decide +kernel
theorem dX8_rule_29 : decode cX8_rule 29 = .ok (.ireturn, 1) := by decide +kernel
theorem dX8_sit_0 : decode cX8_sit 0 = .ok (.iload_n 1, 1) := by decide +kernel
theorem dX8_sit_1 : decode cX8_sit 1 = .ok (.iconst (-1), 1) := by decide +kernel
theorem dX8_sit_2 : decode cX8_sit 2 = .ok (.if_icmp .eq 18, 3) := by decide +kernel
theorem dX8_sit_5 : decode cX8_sit 5 = .ok (.aload_n 0, 1) := by decide +kernel
theorem dX8_sit_6 : decode cX8_sit 6 = .ok (.iload_n 1, 1) := by decide +kernel
theorem dX8_sit_7 : decode cX8_sit 7 = .ok (.invokevirtual 121, 3) := by decide +kernel
theorem dX8_sit_10 : decode cX8_sit 10 = .ok (.ifCond .ne 10, 3) := by decide +kernel
theorem dX8_sit_13 : decode cX8_sit 13 = .ok (.aload_n 0, 1) := by decide +kernel
theorem dX8_sit_14 : decode cX8_sit 14 = .ok (.ldc 64, 2) := by decide +kernel
theorem dX8_sit_16 : decode cX8_sit 16 = .ok (.invokevirtual 81, 3) := by decide +kernel
theorem dX8_sit_19 : decode cX8_sit 19 = .ok (.ireturn, 1) := by decide +kernel
theorem dX8_sit_20 : decode cX8_sit 20 = .ok (.iload_n 1, 1) := by decide +kernel
theorem dX8_sit_21 : decode cX8_sit 21 = .ok (.iconst (-1), 1) := by decide +kernel
theorem dX8_sit_22 : decode cX8_sit 22 = .ok (.if_icmp .eq 26, 3) := by decide +kernel
theorem dX8_sit_25 : decode cX8_sit 25 = .ok (.aload_n 0, 1) := by decide +kernel
theorem dX8_sit_26 : decode cX8_sit 26 = .ok (.iload_n 1, 1) := by decide +kernel
theorem dX8_sit_27 : decode cX8_sit 27 = .ok (.invokevirtual 86, 3) := by decide +kernel
theorem dX8_sit_30 : decode cX8_sit 30 = .ok (.ifCond .eq 11, 3) := by decide +kernel
theorem dX8_sit_33 : decode cX8_sit 33 = .ok (.aload_n 0, 1) := by decide +kernel
theorem dX8_sit_34 : decode cX8_sit 34 = .ok (.iload_n 1, 1) := by decide +kernel
theorem dX8_sit_35 : decode cX8_sit 35 = .ok (.invokevirtual 90, 3) := by decide +kernel
theorem dX8_sit_38 : decode cX8_sit 38 = .ok (.ifCond .lt 10, 3) := by decide +kernel
theorem dX8_sit_41 : decode cX8_sit 41 = .ok (.aload_n 0, 1) := by decide +kernel
theorem dX8_sit_42 : decode cX8_sit 42 = .ok (.ldc 156, 2) := by decide +kernel
theorem dX8_sit_44 : decode cX8_sit 44 = .ok (.invokevirtual 81, 3) := by decide +kernel
theorem dX8_sit_47 : decode cX8_sit 47 = .ok (.ireturn, 1) := by decide +kernel
theorem dX8_sit_48 : decode cX8_sit 48 = .ok (.aload_n 0, 1) := by decide +kernel
theorem dX8_sit_49 : decode cX8_sit 49 = .ok (.getfield 7, 3) := by decide +kernel
theorem dX8_sit_52 : decode cX8_sit 52 = .ok (.iconst 2, 1) := by decide +kernel
theorem dX8_sit_53 : decode cX8_sit 53 = .ok (.iconst 0, 1) := by decide +kernel
theorem dX8_sit_54 : decode cX8_sit 54 = .ok (.iastore, 1) := by decide +kernel
theorem dX8_sit_55 : decode cX8_sit 55 = .ok (.aload_n 0, 1) := by decide +kernel
theorem dX8_sit_56 : decode cX8_sit 56 = .ok (.iconst 1, 1) := by decide +kernel
theorem dX8_sit_57 : decode cX8_sit 57 = .ok (.iload_n 1, 1) := by decide +kernel
theorem dX8_sit_58 : decode cX8_sit 58 = .ok (.invokevirtual 134, 3) := by decide +kernel
theorem dX8_sit_61 : decode cX8_sit 61 = .ok (.ireturn, 1) := by decide +kernel
theorem dX8_line_0 : decode cX8_line 0 = .ok (.iload_n 1, 1) := by decide +kernel
theorem dX8_line_1 : decode cX8_line 1 = .ok (.i2l, 1) := by decide +kernel
theorem dX8_line_2 : decode cX8_line 2 = .ok (.lconst 0, 1) := by decide +kernel
theorem dX8_line_3 : decode cX8_line 3 = .ok (.aload_n 0, 1) := by decide +kernel
theorem dX8_line_4 : decode cX8_line 4 = .ok (.getfield 7, 3) := by decide +kernel
theorem dX8_line_7 : decode cX8_line 7 = .ok (.iconst 4, 1) := by decide +kernel
theorem dX8_line_8 : decode cX8_line 8 = .ok (.iaload, 1) := by decide +kernel
theorem dX8_line_9 : decode cX8_line 9 = .ok (.iconst 1, 1) := by decide +kernel
theorem dX8_line_10 : decode cX8_line 10 = .ok (.isub, 1) := by decide +kernel
theorem dX8_line_11 : decode cX8_line 11 = .ok (.i2l, 1) := by decide +kernel
theorem dX8_line_12 : decode cX8_line 12 = .ok (.invokestatic 71, 3) := by decide +kernel
theorem dX8_line_15 : decode cX8_line 15 = .ok (.ifCond .eq 16, 3) := by decide +kernel
theorem dX8_line_18 : decode cX8_line 18 = .ok (.iload_n 2, 1) := by decide +kernel
theorem dX8_line_19 : decode cX8_line 19 = .ok (.iconst (-1), 1) := by decide +kernel
theorem dX8_line_20 : decode cX8_line 20 = .ok (.if_icmp .eq 18, 3) := by decide +kernel
theorem dX8_line_23 : decode cX8_line 23 = .ok (.aload_n 0, 1) := by decide +kernel
theorem dX8_line_24 : decode cX8_line 24 = .ok (.iload_n 2, 1) := by decide +kernel
theorem dX8_line_25 : decode cX8_line 25 = .ok (.invokevirtual 121, 3) := by decide +kernel
theorem dX8_line_28 : decode cX8_line 28 = .ok (.ifCond .ne 10, 3) := by decide +kernel
theorem dX8_line_31 : decode cX8_line 31 = .ok (.aload_n 0, 1) := by decide +kernel
theorem dX8_line_32 : decode cX8_line 32 = .ok (.ldc 64, 2) := by decide +kernel
theorem dX8_line_34 : decode cX8_line 34 = .ok (.invokevirtual 81, 3) := by decide +kernel
theorem dX8_line_37 : decode cX8_line 37 = .ok (.ireturn, 1) := by decide +kernel
theorem dX8_line_38 : decode cX8_line 38 = .ok (.iload_n 2, 1) := by decide +kernel
theorem dX8_line_39 : decode cX8_line 39 = .ok (.iconst (-1), 1) := by decide +kernel
theorem dX8_line_40 : decode cX8_line 40 = .ok (.if_icmp .eq 46, 3) := by decide +kernel
theorem dX8_line_43 : decode cX8_line 43 = .ok (.aload_n 0, 1) := by decide +kernel
theorem dX8_line_44 : decode cX8_line 44 = .ok (.iload_n 2, 1) := by decide +kernel
theorem dX8_line_45 : decode cX8_line 45 = .ok (.invokevirtual 86, 3) := by decide +kernel
theorem dX8_line_48 : decode cX8_line 48 = .ok (.ifCond .eq 31, 3) := by decide +kernel
theorem dX8_line_51 : decode cX8_line 51 = .ok (.aload_n 0, 1) := by decide +kernel
theorem dX8_line_52 : decode cX8_line 52 = .ok (.iload_n 2, 1) := by decide +kernel
theorem dX8_line_53 : decode cX8_line 53 = .ok (.invokevirtual 90, 3) := by decide +kernel
theorem dX8_line_56 : decode cX8_line 56 = .ok (.ifCond .ge 23, 3) := by decide +kernel
theorem dX8_line_59 : decode cX8_line 59 = .ok (.aload_n 0, 1) := by decide +kernel
theorem dX8_line_60 : decode cX8_line 60 = .ok (.getfield 7, 3) := by decide +kernel
theorem dX8_line_63 : decode cX8_line 63 = .ok (.iconst 1, 1) := by decide +kernel
theorem dX8_line_64 : decode cX8_line 64 = .ok (.iaload, 1) := by decide +kernel
theorem dX8_line_65 : decode cX8_line 65 = .ok (.iload_n 2, 1) := by decide +kernel
theorem dX8_line_66 : decode cX8_line 66 = .ok (.if_icmp .ne 20, 3) := by decide +kernel
theorem dX8_line_69 : decode cX8_line 69 = .ok (.aload_n 0, 1) := by decide +kernel
theorem dX8_line_70 : decode cX8_line 70 = .ok (.getfield 7, 3) := by decide +kernel
theorem dX8_line_73 : decode cX8_line 73 = .ok (.bipush 6, 2) := by decide +kernel
theorem dX8_line_75 : decode cX8_line 75 = .ok (.iaload, 1) := by decide +kernel
theorem dX8_line_76 : decode cX8_line 76 = .ok (.ifCond .ne 10, 3) := by decide +kernel
theorem dX8_line_79 : decode cX8_line 79 = .ok (.aload_n 0, 1) := by decide +kernel
theorem dX8_line_80 : decode cX8_line 80 = .ok (.ldc 156, 2) := by decide +kernel
theorem dX8_line_82 : decode cX8_line 82 = .ok (.invokevirtual 81, 3) := by decide +kernel
theorem dX8_line_85 : decode cX8_line 85 = .ok (.ireturn, 1) := by decide +kernel
theorem dX8_line_86 : decode cX8_line 86 = .ok (.aload_n 0, 1) := by decide +kernel
theorem dX8_line_87 : decode cX8_line 87 = .ok (.bipush 10, 2) := by decide +kernel
theorem dX8_line_89 : decode cX8_line 89 = .ok (.iload_n 1, 1) := by decide +kernel
theorem dX8_line_90 : decode cX8_line 90 = .ok (.iadd, 1) := by decide +kernel
theorem dX8_line_91 : decode cX8_line 91 = .ok (.iload_n 2, 1) := by decide +kernel
theorem dX8_line_92 : decode cX8_line 92 = .ok (.invokevirtual 134, 3) := by decide +kernel
theorem dX8_line_95 : decode cX8_line 95 = .ok (.ireturn, 1) := by decide +kernel
theorem dX8_may_0 : decode cX8_may 0 = .ok (.aload_n 0, 1) := by decide +kernel
theorem dX8_may_1 : decode cX8_may 1 = .ok (.iload_n 1, 1) := by decide +kernel
theorem dX8_may_2 : decode cX8_may 2 = .ok (.invokevirtual 121, 3) := by decide +kernel
theorem dX8_may_5 : decode cX8_may 5 = .ok (.ifCond .ne 10, 3) := by decide +kernel
theorem dX8_may_8 : decode cX8_may 8 = .ok (.aload_n 0, 1) := by decide +kernel
theorem dX8_may_9 : decode cX8_may 9 = .ok (.ldc 64, 2) := by decide +kernel
theorem dX8_may_11 : decode cX8_may 11 = .ok (.invokevirtual 81, 3) := by decide +kernel
theorem dX8_may_14 : decode cX8_may 14 = .ok (.ireturn, 1) := by decide +kernel
theorem dX8_may_15 : decode cX8_may 15 = .ok (.aload_n 0, 1) := by decide +kernel
theorem dX8_may_16 : decode cX8_may 16 = .ok (.iload_n 1, 1) := by decide +kernel
theorem dX8_may_17 : decode cX8_may 17 = .ok (.invokevirtual 86, 3) := by decide +kernel
theorem dX8_may_20 : decode cX8_may 20 = .ok (.ifCond .ne 10, 3) := by decide +kernel
theorem dX8_may_23 : decode cX8_may 23 = .ok (.aload_n 0, 1) := by decide +kernel
theorem dX8_may_24 : decode cX8_may 24 = .ok (.ldc 156, 2) := by decide +kernel
theorem dX8_may_26 : decode cX8_may 26 = .ok (.invokevirtual 81, 3) := by decide +kernel
theorem dX8_may_29 : decode cX8_may 29 = .ok (.ireturn, 1) := by decide +kernel
theorem dX8_may_30 : decode cX8_may 30 = .ok (.iconst 0, 1) := by decide +kernel
theorem dX8_may_31 : decode cX8_may 31 = .ok (.istore_n 2, 1) := by decide +kernel
theorem dX8_may_32 : decode cX8_may 32 = .ok (.iconst 0, 1) := by decide +kernel
theorem dX8_may_33 : decode cX8_may 33 = .ok (.istore_n 3, 1) := by decide +kernel
theorem dX8_may_34 : decode cX8_may 34 = .ok (.iload_n 3, 1) := by decide +kernel
theorem dX8_may_35 : decode cX8_may 35 = .ok (.aload_n 0, 1) := by decide +kernel
theorem dX8_may_36 : decode cX8_may 36 = .ok (.getfield 7, 3) := by decide +kernel
theorem dX8_may_39 : decode cX8_may 39 = .ok (.iconst 0, 1) := by decide +kernel
theorem dX8_may_40 : decode cX8_may 40 = .ok (.iaload, 1) := by decide +kernel
theorem dX8_may_41 : decode cX8_may 41 = .ok (.if_icmp .ge 28, 3) := by decide +kernel
theorem dX8_may_44 : decode cX8_may 44 = .ok (.iload_n 2, 1) := by decide +kernel
theorem dX8_may_45 : decode cX8_may 45 = .ok (.aload_n 0, 1) := by decide +kernel
theorem dX8_may_46 : decode cX8_may 46 = .ok (.iload_n 1, 1) := by decide +kernel
theorem dX8_may_47 : decode cX8_may 47 = .ok (.iload_n 3, 1) := by decide +kernel
theorem dX8_may_48 : decode cX8_may 48 = .ok (.invokevirtual 93, 3) := by decide +kernel
theorem dX8_may_51 : decode cX8_may 51 = .ok (.ifCond .eq 9, 3) := by decide +kernel
theorem dX8_may_54 : decode cX8_may 54 = .ok (.iconst 1, 1) := by decide +kernel
theorem dX8_may_55 : decode cX8_may 55 = .ok (.iload_n 3, 1) := by decide +kernel
theorem dX8_may_56 : decode cX8_may 56 = .ok (.ishl, 1) := by decide +kernel
theorem dX8_may_57 : decode cX8_may 57 = .ok (.goto 4, 3) := by decide +kernel
theorem dX8_may_60 : decode cX8_may 60 = .ok (.iconst 0, 1) := by decide +kernel
theorem dX8_may_61 : decode cX8_may 61 = .ok (.ior, 1) := by decide +kernel
theorem dX8_may_62 : decode cX8_may 62 = .ok (.istore_n 2, 1) := by decide +kernel
theorem dX8_may_63 : decode cX8_may 63 = .ok (.iinc 3 1, 3) := by decide +kernel
theorem dX8_may_66 : decode cX8_may 66 = .ok (.goto (-32), 3) := by decide +kernel
theorem dX8_may_69 : decode cX8_may 69 = .ok (.iload_n 2, 1) := by decide +kernel
theorem dX8_may_70 : decode cX8_may 70 = .ok (.ireturn, 1) := by decide +kernel
theorem dX8_comes_0 : decode cX8_comes 0 = .ok (.iconst (-1), 1) := by decide +kernel
theorem dX8_comes_1 : decode cX8_comes 1 = .ok (.istore_n 1, 1) := by decide +kernel
theorem dX8_comes_2 : decode cX8_comes 2 = .ok (.iconst 0, 1) := by decide +kernel
theorem dX8_comes_3 : decode cX8_comes 3 = .ok (.istore_n 2, 1) := by decide +kernel
theorem dX8_comes_4 : decode cX8_comes 4 = .ok (.iload_n 2, 1) := by decide +kernel
theorem dX8_comes_5 : decode cX8_comes 5 = .ok (.aload_n 0, 1) := by decide +kernel
theorem dX8_comes_6 : decode cX8_comes 6 = .ok (.getfield 7, 3) := by decide +kernel
theorem dX8_comes_9 : decode cX8_comes 9 = .ok (.iconst 4, 1) := by decide +kernel
theorem dX8_comes_10 : decode cX8_comes 10 = .ok (.iaload, 1) := by decide +kernel
theorem dX8_comes_11 : decode cX8_comes 11 = .ok (.if_icmp .ge 78, 3) := by decide +kernel
theorem dX8_comes_14 : decode cX8_comes 14 = .ok (.iload_n 1, 1) := by decide +kernel
theorem dX8_comes_15 : decode cX8_comes 15 = .ok (.ifCond .ge 74, 3) := by decide +kernel
theorem dX8_comes_18 : decode cX8_comes 18 = .ok (.iload_n 2, 1) := by decide +kernel
theorem dX8_comes_19 : decode cX8_comes 19 = .ok (.ifCond .eq 13, 3) := by decide +kernel
theorem dX8_comes_22 : decode cX8_comes 22 = .ok (.aload_n 0, 1) := by decide +kernel
theorem dX8_comes_23 : decode cX8_comes 23 = .ok (.getfield 7, 3) := by decide +kernel
theorem dX8_comes_26 : decode cX8_comes 26 = .ok (.bipush 8, 2) := by decide +kernel
theorem dX8_comes_28 : decode cX8_comes 28 = .ok (.iaload, 1) := by decide +kernel
theorem dX8_comes_29 : decode cX8_comes 29 = .ok (.ifCond .ne 60, 3) := by decide +kernel
theorem dX8_comes_32 : decode cX8_comes 32 = .ok (.aload_n 0, 1) := by decide +kernel
theorem dX8_comes_33 : decode cX8_comes 33 = .ok (.getfield 7, 3) := by decide +kernel
theorem dX8_comes_36 : decode cX8_comes 36 = .ok (.bipush 10, 2) := by decide +kernel
theorem dX8_comes_38 : decode cX8_comes 38 = .ok (.iaload, 1) := by decide +kernel
theorem dX8_comes_39 : decode cX8_comes 39 = .ok (.istore_n 1, 1) := by decide +kernel
theorem dX8_comes_40 : decode cX8_comes 40 = .ok (.iconst 0, 1) := by decide +kernel
theorem dX8_comes_41 : decode cX8_comes 41 = .ok (.istore_n 3, 1) := by decide +kernel
theorem dX8_comes_42 : decode cX8_comes 42 = .ok (.iload_n 3, 1) := by decide +kernel
theorem dX8_comes_43 : decode cX8_comes 43 = .ok (.iconst 1, 1) := by decide +kernel
theorem dX8_comes_44 : decode cX8_comes 44 = .ok (.iadd, 1) := by decide +kernel
theorem dX8_comes_45 : decode cX8_comes 45 = .ok (.iconst 4, 1) := by decide +kernel
theorem dX8_comes_46 : decode cX8_comes 46 = .ok (.if_icmp .ge 29, 3) := by decide +kernel
theorem dX8_comes_49 : decode cX8_comes 49 = .ok (.aload_n 0, 1) := by decide +kernel
theorem dX8_comes_50 : decode cX8_comes 50 = .ok (.getfield 7, 3) := by decide +kernel
theorem dX8_comes_53 : decode cX8_comes 53 = .ok (.bipush 10, 2) := by decide +kernel
theorem dX8_comes_55 : decode cX8_comes 55 = .ok (.iload_n 3, 1) := by decide +kernel
theorem dX8_comes_56 : decode cX8_comes 56 = .ok (.iadd, 1) := by decide +kernel
theorem dX8_comes_57 : decode cX8_comes 57 = .ok (.aload_n 0, 1) := by decide +kernel
theorem dX8_comes_58 : decode cX8_comes 58 = .ok (.getfield 7, 3) := by decide +kernel
theorem dX8_comes_61 : decode cX8_comes 61 = .ok (.bipush 10, 2) := by decide +kernel
theorem dX8_comes_63 : decode cX8_comes 63 = .ok (.iload_n 3, 1) := by decide +kernel
theorem dX8_comes_64 : decode cX8_comes 64 = .ok (.iadd, 1) := by decide +kernel
theorem dX8_comes_65 : decode cX8_comes 65 = .ok (.iconst 1, 1) := by decide +kernel
theorem dX8_comes_66 : decode cX8_comes 66 = .ok (.iadd, 1) := by decide +kernel
theorem dX8_comes_67 : decode cX8_comes 67 = .ok (.iaload, 1) := by decide +kernel
theorem dX8_comes_68 : decode cX8_comes 68 = .ok (.iastore, 1) := by decide +kernel
theorem dX8_comes_69 : decode cX8_comes 69 = .ok (.iinc 3 1, 3) := by decide +kernel
theorem dX8_comes_72 : decode cX8_comes 72 = .ok (.goto (-30), 3) := by decide +kernel
theorem dX8_comes_75 : decode cX8_comes 75 = .ok (.aload_n 0, 1) := by decide +kernel
theorem dX8_comes_76 : decode cX8_comes 76 = .ok (.getfield 7, 3) := by decide +kernel
theorem dX8_comes_79 : decode cX8_comes 79 = .ok (.bipush 13, 2) := by decide +kernel
theorem dX8_comes_81 : decode cX8_comes 81 = .ok (.iconst (-1), 1) := by decide +kernel
theorem dX8_comes_82 : decode cX8_comes 82 = .ok (.iastore, 1) := by decide +kernel
theorem dX8_comes_83 : decode cX8_comes 83 = .ok (.iinc 2 1, 3) := by decide +kernel
theorem dX8_comes_86 : decode cX8_comes 86 = .ok (.goto (-82), 3) := by decide +kernel
theorem dX8_comes_89 : decode cX8_comes 89 = .ok (.aload_n 0, 1) := by decide +kernel
theorem dX8_comes_90 : decode cX8_comes 90 = .ok (.getfield 7, 3) := by decide +kernel
theorem dX8_comes_93 : decode cX8_comes 93 = .ok (.iconst 1, 1) := by decide +kernel
theorem dX8_comes_94 : decode cX8_comes 94 = .ok (.iload_n 1, 1) := by decide +kernel
theorem dX8_comes_95 : decode cX8_comes 95 = .ok (.iastore, 1) := by decide +kernel
theorem dX8_comes_96 : decode cX8_comes 96 = .ok (.aload_n 0, 1) := by decide +kernel
theorem dX8_comes_97 : decode cX8_comes 97 = .ok (.getfield 7, 3) := by decide +kernel
theorem dX8_comes_100 : decode cX8_comes 100 = .ok (.iconst 2, 1) := by decide +kernel
theorem dX8_comes_101 : decode cX8_comes 101 = .ok (.iconst 0, 1) := by decide +kernel
theorem dX8_comes_102 : decode cX8_comes 102 = .ok (.iastore, 1) := by decide +kernel
theorem dX8_comes_103 : decode cX8_comes 103 = .ok (.iload_n 1, 1) := by decide +kernel
theorem dX8_comes_104 : decode cX8_comes 104 = .ok (.ifCond .lt 110, 3) := by decide +kernel
theorem dX8_comes_107 : decode cX8_comes 107 = .ok (.aload_n 0, 1) := by decide +kernel
theorem dX8_comes_108 : decode cX8_comes 108 = .ok (.getfield 7, 3) := by decide +kernel
theorem dX8_comes_111 : decode cX8_comes 111 = .ok (.bipush 14, 2) := by decide +kernel
theorem dX8_comes_113 : decode cX8_comes 113 = .ok (.bipush 6, 2) := by decide +kernel
theorem dX8_comes_115 : decode cX8_comes 115 = .ok (.iload_n 1, 1) := by decide +kernel
theorem dX8_comes_116 : decode cX8_comes 116 = .ok (.imul, 1) := by decide +kernel
theorem dX8_comes_117 : decode cX8_comes 117 = .ok (.iadd, 1) := by decide +kernel
theorem dX8_comes_118 : decode cX8_comes 118 = .ok (.iconst 4, 1) := by decide +kernel
theorem dX8_comes_119 : decode cX8_comes 119 = .ok (.iadd, 1) := by decide +kernel
theorem dX8_comes_120 : decode cX8_comes 120 = .ok (.dup2, 1) := by decide +kernel
theorem dX8_comes_121 : decode cX8_comes 121 = .ok (.iaload, 1) := by decide +kernel
theorem dX8_comes_122 : decode cX8_comes 122 = .ok (.iconst 1, 1) := by decide +kernel
theorem dX8_comes_123 : decode cX8_comes 123 = .ok (.iadd, 1) := by decide +kernel
theorem dX8_comes_124 : decode cX8_comes 124 = .ok (.iastore, 1) := by decide +kernel
theorem dX8_comes_125 : decode cX8_comes 125 = .ok (.aload_n 0, 1) := by decide +kernel
theorem dX8_comes_126 : decode cX8_comes 126 = .ok (.getfield 7, 3) := by decide +kernel
theorem dX8_comes_129 : decode cX8_comes 129 = .ok (.bipush 8, 2) := by decide +kernel
theorem dX8_comes_131 : decode cX8_comes 131 = .ok (.iaload, 1) := by decide +kernel
theorem dX8_comes_132 : decode cX8_comes 132 = .ok (.iconst 1, 1) := by decide +kernel
theorem dX8_comes_133 : decode cX8_comes 133 = .ok (.if_icmp .ne 7, 3) := by decide +kernel
theorem dX8_comes_136 : decode cX8_comes 136 = .ok (.iconst 0, 1) := by decide +kernel
theorem dX8_comes_137 : decode cX8_comes 137 = .ok (.goto 11, 3) := by decide +kernel
theorem dX8_comes_140 : decode cX8_comes 140 = .ok (.aload_n 0, 1) := by decide +kernel
theorem dX8_comes_141 : decode cX8_comes 141 = .ok (.getfield 7, 3) := by decide +kernel
theorem dX8_comes_144 : decode cX8_comes 144 = .ok (.iconst 4, 1) := by decide +kernel
theorem dX8_comes_145 : decode cX8_comes 145 = .ok (.iaload, 1) := by decide +kernel
theorem dX8_comes_146 : decode cX8_comes 146 = .ok (.iconst 1, 1) := by decide +kernel
theorem dX8_comes_147 : decode cX8_comes 147 = .ok (.isub, 1) := by decide +kernel
theorem dX8_comes_148 : decode cX8_comes 148 = .ok (.istore_n 2, 1) := by decide +kernel
theorem dX8_comes_149 : decode cX8_comes 149 = .ok (.iload_n 2, 1) := by decide +kernel
theorem dX8_comes_150 : decode cX8_comes 150 = .ok (.aload_n 0, 1) := by decide +kernel
theorem dX8_comes_151 : decode cX8_comes 151 = .ok (.getfield 7, 3) := by decide +kernel
theorem dX8_comes_154 : decode cX8_comes 154 = .ok (.iconst 4, 1) := by decide +kernel
theorem dX8_comes_155 : decode cX8_comes 155 = .ok (.iaload, 1) := by decide +kernel
theorem dX8_comes_156 : decode cX8_comes 156 = .ok (.if_icmp .ge 58, 3) := by decide +kernel
theorem dX8_comes_159 : decode cX8_comes 159 = .ok (.aload_n 0, 1) := by decide +kernel
theorem dX8_comes_160 : decode cX8_comes 160 = .ok (.getfield 7, 3) := by decide +kernel
theorem dX8_comes_163 : decode cX8_comes 163 = .ok (.bipush 10, 2) := by decide +kernel
theorem dX8_comes_165 : decode cX8_comes 165 = .ok (.iload_n 2, 1) := by decide +kernel
theorem dX8_comes_166 : decode cX8_comes 166 = .ok (.iadd, 1) := by decide +kernel
theorem dX8_comes_167 : decode cX8_comes 167 = .ok (.aload_n 0, 1) := by decide +kernel
theorem dX8_comes_168 : decode cX8_comes 168 = .ok (.getfield 7, 3) := by decide +kernel
theorem dX8_comes_171 : decode cX8_comes 171 = .ok (.bipush 8, 2) := by decide +kernel
theorem dX8_comes_173 : decode cX8_comes 173 = .ok (.iaload, 1) := by decide +kernel
theorem dX8_comes_174 : decode cX8_comes 174 = .ok (.iconst 1, 1) := by decide +kernel
theorem dX8_comes_175 : decode cX8_comes 175 = .ok (.if_icmp .ne 27, 3) := by decide +kernel
theorem dX8_comes_178 : decode cX8_comes 178 = .ok (.aload_n 0, 1) := by decide +kernel
theorem dX8_comes_179 : decode cX8_comes 179 = .ok (.getfield 7, 3) := by decide +kernel
theorem dX8_comes_182 : decode cX8_comes 182 = .ok (.bipush 10, 2) := by decide +kernel
theorem dX8_comes_184 : decode cX8_comes 184 = .ok (.iload_n 2, 1) := by decide +kernel
theorem dX8_comes_185 : decode cX8_comes 185 = .ok (.iadd, 1) := by decide +kernel
theorem dX8_comes_186 : decode cX8_comes 186 = .ok (.iaload, 1) := by decide +kernel
theorem dX8_comes_187 : decode cX8_comes 187 = .ok (.ifCond .lt 15, 3) := by decide +kernel
theorem dX8_comes_190 : decode cX8_comes 190 = .ok (.aload_n 0, 1) := by decide +kernel
theorem dX8_comes_191 : decode cX8_comes 191 = .ok (.getfield 7, 3) := by decide +kernel
theorem dX8_comes_194 : decode cX8_comes 194 = .ok (.bipush 10, 2) := by decide +kernel
theorem dX8_comes_196 : decode cX8_comes 196 = .ok (.iload_n 2, 1) := by decide +kernel
theorem dX8_comes_197 : decode cX8_comes 197 = .ok (.iadd, 1) := by decide +kernel
theorem dX8_comes_198 : decode cX8_comes 198 = .ok (.iaload, 1) := by decide +kernel
theorem dX8_comes_199 : decode cX8_comes 199 = .ok (.goto 8, 3) := by decide +kernel
theorem dX8_comes_202 : decode cX8_comes 202 = .ok (.aload_n 0, 1) := by decide +kernel
theorem dX8_comes_203 : decode cX8_comes 203 = .ok (.iload_n 1, 1) := by decide +kernel
theorem dX8_comes_204 : decode cX8_comes 204 = .ok (.invokevirtual 126, 3) := by decide +kernel
theorem dX8_comes_207 : decode cX8_comes 207 = .ok (.iastore, 1) := by decide +kernel
theorem dX8_comes_208 : decode cX8_comes 208 = .ok (.iinc 2 1, 3) := by decide +kernel
theorem dX8_comes_211 : decode cX8_comes 211 = .ok (.goto (-62), 3) := by decide +kernel
theorem dX8_comes_214 : decode cX8_comes 214 = .ok (.iload_n 1, 1) := by decide +kernel
theorem dX8_comes_215 : decode cX8_comes 215 = .ok (.ireturn, 1) := by decide +kernel
theorem dX8_come_0 : decode cX8_come 0 = .ok (.aload_n 0, 1) := by decide +kernel
theorem dX8_come_1 : decode cX8_come 1 = .ok (.invokevirtual 157, 3) := by decide +kernel
theorem dX8_come_4 : decode cX8_come 4 = .ok (.ireturn, 1) := by decide +kernel
theorem dX8_followsBy_0 : decode cX8_followsBy 0 = .ok (.iconst 0, 1) := by decide +kernel
theorem dX8_followsBy_1 : decode cX8_followsBy 1 = .ok (.istore_n 3, 1) := by decide +kernel
theorem dX8_followsBy_2 : decode cX8_followsBy 2 = .ok (.iload_n 3, 1) := by decide +kernel
theorem dX8_followsBy_3 : decode cX8_followsBy 3 = .ok (.bipush 74, 2) := by decide +kernel
theorem dX8_followsBy_5 : decode cX8_followsBy 5 = .ok (.if_icmp .ge 21, 3) := by decide +kernel
theorem dX8_followsBy_8 : decode cX8_followsBy 8 = .ok (.aload_n 0, 1) := by decide +kernel
theorem dX8_followsBy_9 : decode cX8_followsBy 9 = .ok (.getfield 39, 3) := by decide +kernel
theorem dX8_followsBy_12 : decode cX8_followsBy 12 = .ok (.iload_n 3, 1) := by decide +kernel
theorem dX8_followsBy_13 : decode cX8_followsBy 13 = .ok (.aload_n 0, 1) := by decide +kernel
theorem dX8_followsBy_14 : decode cX8_followsBy 14 = .ok (.getfield 7, 3) := by decide +kernel
theorem dX8_followsBy_17 : decode cX8_followsBy 17 = .ok (.iload_n 3, 1) := by decide +kernel
theorem dX8_followsBy_18 : decode cX8_followsBy 18 = .ok (.iaload, 1) := by decide +kernel
theorem dX8_followsBy_19 : decode cX8_followsBy 19 = .ok (.iastore, 1) := by decide +kernel
theorem dX8_followsBy_20 : decode cX8_followsBy 20 = .ok (.iinc 3 1, 3) := by decide +kernel
theorem dX8_followsBy_23 : decode cX8_followsBy 23 = .ok (.goto (-21), 3) := by decide +kernel
theorem dX8_followsBy_26 : decode cX8_followsBy 26 = .ok (.aload_n 0, 1) := by decide +kernel
theorem dX8_followsBy_27 : decode cX8_followsBy 27 = .ok (.iconst 1, 1) := by decide +kernel
theorem dX8_followsBy_28 : decode cX8_followsBy 28 = .ok (.putfield 114, 3) := by decide +kernel
theorem dX8_followsBy_31 : decode cX8_followsBy 31 = .ok (.aload_n 0, 1) := by decide +kernel
theorem dX8_followsBy_32 : decode cX8_followsBy 32 = .ok (.getfield 7, 3) := by decide +kernel
theorem dX8_followsBy_35 : decode cX8_followsBy 35 = .ok (.bipush 10, 2) := by decide +kernel
theorem dX8_followsBy_37 : decode cX8_followsBy 37 = .ok (.aload_n 0, 1) := by decide +kernel
theorem dX8_followsBy_38 : decode cX8_followsBy 38 = .ok (.getfield 7, 3) := by decide +kernel
theorem dX8_followsBy_41 : decode cX8_followsBy 41 = .ok (.iconst 4, 1) := by decide +kernel
theorem dX8_followsBy_42 : decode cX8_followsBy 42 = .ok (.iaload, 1) := by decide +kernel
theorem dX8_followsBy_43 : decode cX8_followsBy 43 = .ok (.iadd, 1) := by decide +kernel
theorem dX8_followsBy_44 : decode cX8_followsBy 44 = .ok (.iconst 1, 1) := by decide +kernel
theorem dX8_followsBy_45 : decode cX8_followsBy 45 = .ok (.isub, 1) := by decide +kernel
theorem dX8_followsBy_46 : decode cX8_followsBy 46 = .ok (.iload_n 2, 1) := by decide +kernel
theorem dX8_followsBy_47 : decode cX8_followsBy 47 = .ok (.iastore, 1) := by decide +kernel
theorem dX8_followsBy_48 : decode cX8_followsBy 48 = .ok (.iconst 0, 1) := by decide +kernel
theorem dX8_followsBy_49 : decode cX8_followsBy 49 = .ok (.istore_n 3, 1) := by decide +kernel
theorem dX8_followsBy_50 : decode cX8_followsBy 50 = .ok (.iconst 0, 1) := by decide +kernel
theorem dX8_followsBy_51 : decode cX8_followsBy 51 = .ok (.istore 4, 2) := by decide +kernel
theorem dX8_followsBy_53 : decode cX8_followsBy 53 = .ok (.iload 4, 2) := by decide +kernel
theorem dX8_followsBy_55 : decode cX8_followsBy 55 = .ok (.aload_n 0, 1) := by decide +kernel
theorem dX8_followsBy_56 : decode cX8_followsBy 56 = .ok (.getfield 39, 3) := by decide +kernel
theorem dX8_followsBy_59 : decode cX8_followsBy 59 = .ok (.iconst 4, 1) := by decide +kernel
theorem dX8_followsBy_60 : decode cX8_followsBy 60 = .ok (.iaload, 1) := by decide +kernel
theorem dX8_followsBy_61 : decode cX8_followsBy 61 = .ok (.iconst 2, 1) := by decide +kernel
theorem dX8_followsBy_62 : decode cX8_followsBy 62 = .ok (.iadd, 1) := by decide +kernel
theorem dX8_followsBy_63 : decode cX8_followsBy 63 = .ok (.if_icmp .ge 44, 3) := by decide +kernel
theorem dX8_followsBy_66 : decode cX8_followsBy 66 = .ok (.aload_n 0, 1) := by decide +kernel
theorem dX8_followsBy_67 : decode cX8_followsBy 67 = .ok (.invokevirtual 157, 3) := by decide +kernel
theorem dX8_followsBy_70 : decode cX8_followsBy 70 = .ok (.istore 5, 2) := by decide +kernel
theorem dX8_followsBy_72 : decode cX8_followsBy 72 = .ok (.iload_n 3, 1) := by decide +kernel
theorem dX8_followsBy_73 : decode cX8_followsBy 73 = .ok (.iload 5, 2) := by decide +kernel
theorem dX8_followsBy_75 : decode cX8_followsBy 75 = .ok (.ifCond .ge 7, 3) := by decide +kernel
theorem dX8_followsBy_78 : decode cX8_followsBy 78 = .ok (.iconst 0, 1) := by decide +kernel
theorem dX8_followsBy_79 : decode cX8_followsBy 79 = .ok (.goto 20, 3) := by decide +kernel
theorem dX8_followsBy_82 : decode cX8_followsBy 82 = .ok (.aload_n 0, 1) := by decide +kernel
theorem dX8_followsBy_83 : decode cX8_followsBy 83 = .ok (.aload_n 0, 1) := by decide +kernel
theorem dX8_followsBy_84 : decode cX8_followsBy 84 = .ok (.iload 5, 2) := by decide +kernel
theorem dX8_followsBy_86 : decode cX8_followsBy 86 = .ok (.iconst 2, 1) := by decide +kernel
theorem dX8_followsBy_87 : decode cX8_followsBy 87 = .ok (.invokevirtual 65, 3) := by decide +kernel
theorem dX8_followsBy_90 : decode cX8_followsBy 90 = .ok (.aload_n 0, 1) := by decide +kernel
theorem dX8_followsBy_91 : decode cX8_followsBy 91 = .ok (.iload_n 1, 1) := by decide +kernel
theorem dX8_followsBy_92 : decode cX8_followsBy 92 = .ok (.iconst 2, 1) := by decide +kernel
theorem dX8_followsBy_93 : decode cX8_followsBy 93 = .ok (.invokevirtual 65, 3) := by decide +kernel
theorem dX8_followsBy_96 : decode cX8_followsBy 96 = .ok (.invokevirtual 160, 3) := by decide +kernel
theorem dX8_followsBy_99 : decode cX8_followsBy 99 = .ok (.iadd, 1) := by decide +kernel
theorem dX8_followsBy_100 : decode cX8_followsBy 100 = .ok (.istore_n 3, 1) := by decide +kernel
theorem dX8_followsBy_101 : decode cX8_followsBy 101 = .ok (.iinc 4 1, 3) := by decide +kernel
theorem dX8_followsBy_104 : decode cX8_followsBy 104 = .ok (.goto (-51), 3) := by decide +kernel
theorem dX8_followsBy_107 : decode cX8_followsBy 107 = .ok (.aload_n 0, 1) := by decide +kernel
theorem dX8_followsBy_108 : decode cX8_followsBy 108 = .ok (.iconst 0, 1) := by decide +kernel
theorem dX8_followsBy_109 : decode cX8_followsBy 109 = .ok (.putfield 114, 3) := by decide +kernel
theorem dX8_followsBy_112 : decode cX8_followsBy 112 = .ok (.iconst 0, 1) := by decide +kernel
theorem dX8_followsBy_113 : decode cX8_followsBy 113 = .ok (.istore 4, 2) := by decide +kernel
theorem dX8_followsBy_115 : decode cX8_followsBy 115 = .ok (.iload 4, 2) := by decide +kernel
theorem dX8_followsBy_117 : decode cX8_followsBy 117 = .ok (.bipush 74, 2) := by decide +kernel
theorem dX8_followsBy_119 : decode cX8_followsBy 119 = .ok (.if_icmp .ge 23, 3) := by decide +kernel
theorem dX8_followsBy_122 : decode cX8_followsBy 122 = .ok (.aload_n 0, 1) := by decide +kernel
theorem dX8_followsBy_123 : decode cX8_followsBy 123 = .ok (.getfield 7, 3) := by decide +kernel
theorem dX8_followsBy_126 : decode cX8_followsBy 126 = .ok (.iload 4, 2) := by decide +kernel
theorem dX8_followsBy_128 : decode cX8_followsBy 128 = .ok (.aload_n 0, 1) := by decide +kernel
theorem dX8_followsBy_129 : decode cX8_followsBy 129 = .ok (.getfield 39, 3) := by decide +kernel
theorem dX8_followsBy_132 : decode cX8_followsBy 132 = .ok (.iload 4, 2) := by decide +kernel
theorem dX8_followsBy_134 : decode cX8_followsBy 134 = .ok (.iaload, 1) := by decide +kernel
theorem dX8_followsBy_135 : decode cX8_followsBy 135 = .ok (.iastore, 1) := by decide +kernel
theorem dX8_followsBy_136 : decode cX8_followsBy 136 = .ok (.iinc 4 1, 3) := by decide +kernel
theorem dX8_followsBy_139 : decode cX8_followsBy 139 = .ok (.goto (-24), 3) := by decide +kernel
theorem dX8_followsBy_142 : decode cX8_followsBy 142 = .ok (.iload_n 3, 1) := by decide +kernel
theorem dX8_followsBy_143 : decode cX8_followsBy 143 = .ok (.ireturn, 1) := by decide +kernel
theorem dX8_follows_0 : decode cX8_follows 0 = .ok (.aload_n 0, 1) := by decide +kernel
theorem dX8_follows_1 : decode cX8_follows 1 = .ok (.iload_n 1, 1) := by decide +kernel
theorem dX8_follows_2 : decode cX8_follows 2 = .ok (.invokevirtual 121, 3) := by decide +kernel
theorem dX8_follows_5 : decode cX8_follows 5 = .ok (.ifCond .eq 11, 3) := by decide +kernel
theorem dX8_follows_8 : decode cX8_follows 8 = .ok (.aload_n 0, 1) := by decide +kernel
theorem dX8_follows_9 : decode cX8_follows 9 = .ok (.iload_n 2, 1) := by decide +kernel
theorem dX8_follows_10 : decode cX8_follows 10 = .ok (.invokevirtual 121, 3) := by decide +kernel
theorem dX8_follows_13 : decode cX8_follows 13 = .ok (.ifCond .ne 10, 3) := by decide +kernel
theorem dX8_follows_16 : decode cX8_follows 16 = .ok (.aload_n 0, 1) := by decide +kernel
theorem dX8_follows_17 : decode cX8_follows 17 = .ok (.ldc 64, 2) := by decide +kernel
theorem dX8_follows_19 : decode cX8_follows 19 = .ok (.invokevirtual 81, 3) := by decide +kernel
theorem dX8_follows_22 : decode cX8_follows 22 = .ok (.ireturn, 1) := by decide +kernel
theorem dX8_follows_23 : decode cX8_follows 23 = .ok (.aload_n 0, 1) := by decide +kernel
theorem dX8_follows_24 : decode cX8_follows 24 = .ok (.iload_n 1, 1) := by decide +kernel
theorem dX8_follows_25 : decode cX8_follows 25 = .ok (.invokevirtual 86, 3) := by decide +kernel
theorem dX8_follows_28 : decode cX8_follows 28 = .ok (.ifCond .eq 21, 3) := by decide +kernel
theorem dX8_follows_31 : decode cX8_follows 31 = .ok (.aload_n 0, 1) := by decide +kernel
theorem dX8_follows_32 : decode cX8_follows 32 = .ok (.iload_n 1, 1) := by decide +kernel
theorem dX8_follows_33 : decode cX8_follows 33 = .ok (.iload_n 2, 1) := by decide +kernel
theorem dX8_follows_34 : decode cX8_follows 34 = .ok (.invokevirtual 93, 3) := by decide +kernel
theorem dX8_follows_37 : decode cX8_follows 37 = .ok (.ifCond .eq 12, 3) := by decide +kernel
theorem dX8_follows_40 : decode cX8_follows 40 = .ok (.aload_n 0, 1) := by decide +kernel
theorem dX8_follows_41 : decode cX8_follows 41 = .ok (.iload_n 1, 1) := by decide +kernel
theorem dX8_follows_42 : decode cX8_follows 42 = .ok (.iload_n 2, 1) := by decide +kernel
theorem dX8_follows_43 : decode cX8_follows 43 = .ok (.invokevirtual 111, 3) := by decide +kernel
theorem dX8_follows_46 : decode cX8_follows 46 = .ok (.goto 9, 3) := by decide +kernel
theorem dX8_follows_49 : decode cX8_follows 49 = .ok (.aload_n 0, 1) := by decide +kernel
theorem dX8_follows_50 : decode cX8_follows 50 = .ok (.ldc 156, 2) := by decide +kernel
theorem dX8_follows_52 : decode cX8_follows 52 = .ok (.invokevirtual 81, 3) := by decide +kernel
theorem dX8_follows_55 : decode cX8_follows 55 = .ok (.ireturn, 1) := by decide +kernel
theorem dX8_year_0 : decode cX8_year 0 = .ok (.iconst 0, 1) := by decide +kernel
theorem dX8_year_1 : decode cX8_year 1 = .ok (.istore_n 1, 1) := by decide +kernel
theorem dX8_year_2 : decode cX8_year 2 = .ok (.iload_n 1, 1) := by decide +kernel
theorem dX8_year_3 : decode cX8_year 3 = .ok (.aload_n 0, 1) := by decide +kernel
theorem dX8_year_4 : decode cX8_year 4 = .ok (.getfield 7, 3) := by decide +kernel
theorem dX8_year_7 : decode cX8_year 7 = .ok (.iconst 0, 1) := by decide +kernel
theorem dX8_year_8 : decode cX8_year 8 = .ok (.iaload, 1) := by decide +kernel
theorem dX8_year_9 : decode cX8_year 9 = .ok (.if_icmp .ge 52, 3) := by decide +kernel
theorem dX8_year_12 : decode cX8_year 12 = .ok (.bipush 14, 2) := by decide +kernel
theorem dX8_year_14 : decode cX8_year 14 = .ok (.bipush 6, 2) := by decide +kernel
theorem dX8_year_16 : decode cX8_year 16 = .ok (.iload_n 1, 1) := by decide +kernel
theorem dX8_year_17 : decode cX8_year 17 = .ok (.imul, 1) := by decide +kernel
theorem dX8_year_18 : decode cX8_year 18 = .ok (.iadd, 1) := by decide +kernel
theorem dX8_year_19 : decode cX8_year 19 = .ok (.iconst 1, 1) := by decide +kernel
theorem dX8_year_20 : decode cX8_year 20 = .ok (.iadd, 1) := by decide +kernel
theorem dX8_year_21 : decode cX8_year 21 = .ok (.istore_n 2, 1) := by decide +kernel
theorem dX8_year_22 : decode cX8_year 22 = .ok (.aload_n 0, 1) := by decide +kernel
theorem dX8_year_23 : decode cX8_year 23 = .ok (.getfield 7, 3) := by decide +kernel
theorem dX8_year_26 : decode cX8_year 26 = .ok (.iload_n 2, 1) := by decide +kernel
theorem dX8_year_27 : decode cX8_year 27 = .ok (.dup2, 1) := by decide +kernel
theorem dX8_year_28 : decode cX8_year 28 = .ok (.iaload, 1) := by decide +kernel
theorem dX8_year_29 : decode cX8_year 29 = .ok (.aload_n 0, 1) := by decide +kernel
theorem dX8_year_30 : decode cX8_year 30 = .ok (.iload_n 1, 1) := by decide +kernel
theorem dX8_year_31 : decode cX8_year 31 = .ok (.invokevirtual 86, 3) := by decide +kernel
theorem dX8_year_34 : decode cX8_year 34 = .ok (.ifCond .eq 18, 3) := by decide +kernel
theorem dX8_year_37 : decode cX8_year 37 = .ok (.aload_n 0, 1) := by decide +kernel
theorem dX8_year_38 : decode cX8_year 38 = .ok (.getfield 7, 3) := by decide +kernel
theorem dX8_year_41 : decode cX8_year 41 = .ok (.iload_n 2, 1) := by decide +kernel
theorem dX8_year_42 : decode cX8_year 42 = .ok (.iaload, 1) := by decide +kernel
theorem dX8_year_43 : decode cX8_year 43 = .ok (.bipush 99, 2) := by decide +kernel
theorem dX8_year_45 : decode cX8_year 45 = .ok (.if_icmp .ge 7, 3) := by decide +kernel
theorem dX8_year_48 : decode cX8_year 48 = .ok (.iconst 1, 1) := by decide +kernel
theorem dX8_year_49 : decode cX8_year 49 = .ok (.goto 4, 3) := by decide +kernel
theorem dX8_year_52 : decode cX8_year 52 = .ok (.iconst 0, 1) := by decide +kernel
theorem dX8_year_53 : decode cX8_year 53 = .ok (.iadd, 1) := by decide +kernel
theorem dX8_year_54 : decode cX8_year 54 = .ok (.iastore, 1) := by decide +kernel
theorem dX8_year_55 : decode cX8_year 55 = .ok (.iinc 1 1, 3) := by decide +kernel
theorem dX8_year_58 : decode cX8_year 58 = .ok (.goto (-56), 3) := by decide +kernel
theorem dX8_year_61 : decode cX8_year 61 = .ok (.aload_n 0, 1) := by decide +kernel
theorem dX8_year_62 : decode cX8_year 62 = .ok (.getfield 7, 3) := by decide +kernel
theorem dX8_year_65 : decode cX8_year 65 = .ok (.iconst 2, 1) := by decide +kernel
theorem dX8_year_66 : decode cX8_year 66 = .ok (.dup2, 1) := by decide +kernel
theorem dX8_year_67 : decode cX8_year 67 = .ok (.iaload, 1) := by decide +kernel
theorem dX8_year_68 : decode cX8_year 68 = .ok (.aload_n 0, 1) := by decide +kernel
theorem dX8_year_69 : decode cX8_year 69 = .ok (.getfield 7, 3) := by decide +kernel
theorem dX8_year_72 : decode cX8_year 72 = .ok (.iconst 1, 1) := by decide +kernel
theorem dX8_year_73 : decode cX8_year 73 = .ok (.iaload, 1) := by decide +kernel
theorem dX8_year_74 : decode cX8_year 74 = .ok (.ifCond .lt 7, 3) := by decide +kernel
theorem dX8_year_77 : decode cX8_year 77 = .ok (.iconst 1, 1) := by decide +kernel
theorem dX8_year_78 : decode cX8_year 78 = .ok (.goto 4, 3) := by decide +kernel
theorem dX8_year_81 : decode cX8_year 81 = .ok (.iconst 0, 1) := by decide +kernel
theorem dX8_year_82 : decode cX8_year 82 = .ok (.iadd, 1) := by decide +kernel
theorem dX8_year_83 : decode cX8_year 83 = .ok (.iastore, 1) := by decide +kernel
theorem dX8_year_84 : decode cX8_year 84 = .ok (.iconst 0, 1) := by decide +kernel
theorem dX8_year_85 : decode cX8_year 85 = .ok (.istore_n 1, 1) := by decide +kernel
theorem dX8_year_86 : decode cX8_year 86 = .ok (.iload_n 1, 1) := by decide +kernel
theorem dX8_year_87 : decode cX8_year 87 = .ok (.aload_n 0, 1) := by decide +kernel
theorem dX8_year_88 : decode cX8_year 88 = .ok (.getfield 7, 3) := by decide +kernel
theorem dX8_year_91 : decode cX8_year 91 = .ok (.iconst 0, 1) := by decide +kernel
theorem dX8_year_92 : decode cX8_year 92 = .ok (.iaload, 1) := by decide +kernel
theorem dX8_year_93 : decode cX8_year 93 = .ok (.if_icmp .ge 80, 3) := by decide +kernel
theorem dX8_year_96 : decode cX8_year 96 = .ok (.aload_n 0, 1) := by decide +kernel
theorem dX8_year_97 : decode cX8_year 97 = .ok (.iload_n 1, 1) := by decide +kernel
theorem dX8_year_98 : decode cX8_year 98 = .ok (.invokevirtual 86, 3) := by decide +kernel
theorem dX8_year_101 : decode cX8_year 101 = .ok (.ifCond .eq 66, 3) := by decide +kernel
theorem dX8_year_104 : decode cX8_year 104 = .ok (.aload_n 0, 1) := by decide +kernel
theorem dX8_year_105 : decode cX8_year 105 = .ok (.getfield 7, 3) := by decide +kernel
theorem dX8_year_108 : decode cX8_year 108 = .ok (.iconst 3, 1) := by decide +kernel
theorem dX8_year_109 : decode cX8_year 109 = .ok (.aload_n 0, 1) := by decide +kernel
theorem dX8_year_110 : decode cX8_year 110 = .ok (.getfield 7, 3) := by decide +kernel
theorem dX8_year_113 : decode cX8_year 113 = .ok (.iconst 3, 1) := by decide +kernel
theorem dX8_year_114 : decode cX8_year 114 = .ok (.iaload, 1) := by decide +kernel
theorem dX8_year_115 : decode cX8_year 115 = .ok (.ldc 163, 2) := by decide +kernel
theorem dX8_year_117 : decode cX8_year 117 = .ok (.imul, 1) := by decide +kernel
theorem dX8_year_118 : decode cX8_year 118 = .ok (.sipush 12345, 3) := by decide +kernel
theorem dX8_year_121 : decode cX8_year 121 = .ok (.iadd, 1) := by decide +kernel
theorem dX8_year_122 : decode cX8_year 122 = .ok (.iastore, 1) := by decide +kernel
theorem dX8_year_123 : decode cX8_year 123 = .ok (.aload_n 0, 1) := by decide +kernel
theorem dX8_year_124 : decode cX8_year 124 = .ok (.iload_n 1, 1) := by decide +kernel
theorem dX8_year_125 : decode cX8_year 125 = .ok (.iconst 1, 1) := by decide +kernel
theorem dX8_year_126 : decode cX8_year 126 = .ok (.invokevirtual 65, 3) := by decide +kernel
theorem dX8_year_129 : decode cX8_year 129 = .ok (.bipush 40, 2) := by decide +kernel
theorem dX8_year_131 : decode cX8_year 131 = .ok (.isub, 1) := by decide +kernel
theorem dX8_year_132 : decode cX8_year 132 = .ok (.istore_n 2, 1) := by decide +kernel
theorem dX8_year_133 : decode cX8_year 133 = .ok (.iload_n 2, 1) := by decide +kernel
theorem dX8_year_134 : decode cX8_year 134 = .ok (.ifCond .le 33, 3) := by decide +kernel
theorem dX8_year_137 : decode cX8_year 137 = .ok (.aload_n 0, 1) := by decide +kernel
theorem dX8_year_138 : decode cX8_year 138 = .ok (.getfield 7, 3) := by decide +kernel
theorem dX8_year_141 : decode cX8_year 141 = .ok (.iconst 3, 1) := by decide +kernel
theorem dX8_year_142 : decode cX8_year 142 = .ok (.iaload, 1) := by decide +kernel
theorem dX8_year_143 : decode cX8_year 143 = .ok (.bipush 8, 2) := by decide +kernel
theorem dX8_year_145 : decode cX8_year 145 = .ok (.iushr, 1) := by decide +kernel
theorem dX8_year_146 : decode cX8_year 146 = .ok (.sipush 1000, 3) := by decide +kernel
theorem dX8_year_149 : decode cX8_year 149 = .ok (.irem, 1) := by decide +kernel
theorem dX8_year_150 : decode cX8_year 150 = .ok (.aload_n 0, 1) := by decide +kernel
theorem dX8_year_151 : decode cX8_year 151 = .ok (.getfield 7, 3) := by decide +kernel
theorem dX8_year_154 : decode cX8_year 154 = .ok (.bipush 9, 2) := by decide +kernel
theorem dX8_year_156 : decode cX8_year 156 = .ok (.iaload, 1) := by decide +kernel
theorem dX8_year_157 : decode cX8_year 157 = .ok (.iload_n 2, 1) := by decide +kernel
theorem dX8_year_158 : decode cX8_year 158 = .ok (.imul, 1) := by decide +kernel
theorem dX8_year_159 : decode cX8_year 159 = .ok (.if_icmp .ge 8, 3) := by decide +kernel
theorem dX8_year_162 : decode cX8_year 162 = .ok (.aload_n 0, 1) := by decide +kernel
theorem dX8_year_163 : decode cX8_year 163 = .ok (.iload_n 1, 1) := by decide +kernel
theorem dX8_year_164 : decode cX8_year 164 = .ok (.invokevirtual 164, 3) := by decide +kernel
theorem dX8_year_167 : decode cX8_year 167 = .ok (.iinc 1 1, 3) := by decide +kernel
theorem dX8_year_170 : decode cX8_year 170 = .ok (.goto (-84), 3) := by decide +kernel
theorem dX8_year_173 : decode cX8_year 173 = .ok (.aload_n 0, 1) := by decide +kernel
theorem dX8_year_174 : decode cX8_year 174 = .ok (.getfield 7, 3) := by decide +kernel
theorem dX8_year_177 : decode cX8_year 177 = .ok (.iconst 1, 1) := by decide +kernel
theorem dX8_year_178 : decode cX8_year 178 = .ok (.iaload, 1) := by decide +kernel
theorem dX8_year_179 : decode cX8_year 179 = .ok (.ifCond .lt 18, 3) := by decide +kernel
theorem dX8_year_182 : decode cX8_year 182 = .ok (.aload_n 0, 1) := by decide +kernel
theorem dX8_year_183 : decode cX8_year 183 = .ok (.getfield 7, 3) := by decide +kernel
theorem dX8_year_186 : decode cX8_year 186 = .ok (.iconst 2, 1) := by decide +kernel
theorem dX8_year_187 : decode cX8_year 187 = .ok (.iaload, 1) := by decide +kernel
theorem dX8_year_188 : decode cX8_year 188 = .ok (.aload_n 0, 1) := by decide +kernel
theorem dX8_year_189 : decode cX8_year 189 = .ok (.getfield 7, 3) := by decide +kernel
theorem dX8_year_192 : decode cX8_year 192 = .ok (.iconst 5, 1) := by decide +kernel
theorem dX8_year_193 : decode cX8_year 193 = .ok (.iaload, 1) := by decide +kernel
theorem dX8_year_194 : decode cX8_year 194 = .ok (.if_icmp .lt 14, 3) := by decide +kernel
theorem dX8_year_197 : decode cX8_year 197 = .ok (.aload_n 0, 1) := by decide +kernel
theorem dX8_year_198 : decode cX8_year 198 = .ok (.invokevirtual 157, 3) := by decide +kernel
theorem dX8_year_201 : decode cX8_year 201 = .ok (.ifCond .lt 7, 3) := by decide +kernel
theorem dX8_year_204 : decode cX8_year 204 = .ok (.iconst 1, 1) := by decide +kernel
theorem dX8_year_205 : decode cX8_year 205 = .ok (.goto 4, 3) := by decide +kernel
theorem dX8_year_208 : decode cX8_year 208 = .ok (.iconst 0, 1) := by decide +kernel
theorem dX8_year_209 : decode cX8_year 209 = .ok (.ireturn, 1) := by decide +kernel
theorem dX8_dies_0 : decode cX8_dies 0 = .ok (.aload_n 0, 1) := by decide +kernel
theorem dX8_dies_1 : decode cX8_dies 1 = .ok (.getfield 7, 3) := by decide +kernel
theorem dX8_dies_4 : decode cX8_dies 4 = .ok (.bipush 14, 2) := by decide +kernel
theorem dX8_dies_6 : decode cX8_dies 6 = .ok (.bipush 6, 2) := by decide +kernel
theorem dX8_dies_8 : decode cX8_dies 8 = .ok (.iload_n 1, 1) := by decide +kernel
theorem dX8_dies_9 : decode cX8_dies 9 = .ok (.imul, 1) := by decide +kernel
theorem dX8_dies_10 : decode cX8_dies 10 = .ok (.iadd, 1) := by decide +kernel
theorem dX8_dies_11 : decode cX8_dies 11 = .ok (.iconst 5, 1) := by decide +kernel
theorem dX8_dies_12 : decode cX8_dies 12 = .ok (.iadd, 1) := by decide +kernel
theorem dX8_dies_13 : decode cX8_dies 13 = .ok (.iconst 1, 1) := by decide +kernel
theorem dX8_dies_14 : decode cX8_dies 14 = .ok (.iastore, 1) := by decide +kernel
theorem dX8_dies_15 : decode cX8_dies 15 = .ok (.aload_n 0, 1) := by decide +kernel
theorem dX8_dies_16 : decode cX8_dies 16 = .ok (.iload_n 1, 1) := by decide +kernel
theorem dX8_dies_17 : decode cX8_dies 17 = .ok (.invokevirtual 90, 3) := by decide +kernel
theorem dX8_dies_20 : decode cX8_dies 20 = .ok (.istore_n 2, 1) := by decide +kernel
theorem dX8_dies_21 : decode cX8_dies 21 = .ok (.iload_n 2, 1) := by decide +kernel
theorem dX8_dies_22 : decode cX8_dies 22 = .ok (.ifCond .lt 13, 3) := by decide +kernel
theorem dX8_dies_25 : decode cX8_dies 25 = .ok (.aload_n 0, 1) := by decide +kernel
theorem dX8_dies_26 : decode cX8_dies 26 = .ok (.getfield 7, 3) := by decide +kernel
theorem dX8_dies_29 : decode cX8_dies 29 = .ok (.bipush 10, 2) := by decide +kernel
theorem dX8_dies_31 : decode cX8_dies 31 = .ok (.iload_n 2, 1) := by decide +kernel
theorem dX8_dies_32 : decode cX8_dies 32 = .ok (.iadd, 1) := by decide +kernel
theorem dX8_dies_33 : decode cX8_dies 33 = .ok (.iconst (-1), 1) := by decide +kernel
theorem dX8_dies_34 : decode cX8_dies 34 = .ok (.iastore, 1) := by decide +kernel
theorem dX8_dies_35 : decode cX8_dies 35 = .ok (.aload_n 0, 1) := by decide +kernel
theorem dX8_dies_36 : decode cX8_dies 36 = .ok (.getfield 7, 3) := by decide +kernel
theorem dX8_dies_39 : decode cX8_dies 39 = .ok (.iconst 1, 1) := by decide +kernel
theorem dX8_dies_40 : decode cX8_dies 40 = .ok (.aload_n 0, 1) := by decide +kernel
theorem dX8_dies_41 : decode cX8_dies 41 = .ok (.getfield 7, 3) := by decide +kernel
theorem dX8_dies_44 : decode cX8_dies 44 = .ok (.iconst 1, 1) := by decide +kernel
theorem dX8_dies_45 : decode cX8_dies 45 = .ok (.iaload, 1) := by decide +kernel
theorem dX8_dies_46 : decode cX8_dies 46 = .ok (.iload_n 1, 1) := by decide +kernel
theorem dX8_dies_47 : decode cX8_dies 47 = .ok (.if_icmp .ne 7, 3) := by decide +kernel
theorem dX8_dies_50 : decode cX8_dies 50 = .ok (.iconst (-1), 1) := by decide +kernel
theorem dX8_dies_51 : decode cX8_dies 51 = .ok (.goto 9, 3) := by decide +kernel
theorem dX8_dies_54 : decode cX8_dies 54 = .ok (.aload_n 0, 1) := by decide +kernel
theorem dX8_dies_55 : decode cX8_dies 55 = .ok (.getfield 7, 3) := by decide +kernel
theorem dX8_dies_58 : decode cX8_dies 58 = .ok (.iconst 1, 1) := by decide +kernel
theorem dX8_dies_59 : decode cX8_dies 59 = .ok (.iaload, 1) := by decide +kernel
theorem dX8_dies_60 : decode cX8_dies 60 = .ok (.iastore, 1) := by decide +kernel
theorem dX8_dies_61 : decode cX8_dies 61 = .ok (.return_, 1) := by decide +kernel
theorem dX8_years_0 : decode cX8_years 0 = .ok (.iload_n 1, 1) := by decide +kernel
theorem dX8_years_1 : decode cX8_years 1 = .ok (.i2l, 1) := by decide +kernel
theorem dX8_years_2 : decode cX8_years 2 = .ok (.lconst 1, 1) := by decide +kernel
theorem dX8_years_3 : decode cX8_years 3 = .ok (.ldc2_w 168, 3) := by decide +kernel
theorem dX8_years_6 : decode cX8_years 6 = .ok (.invokestatic 71, 3) := by decide +kernel
theorem dX8_years_9 : decode cX8_years 9 = .ok (.ifCond .ne 10, 3) := by decide +kernel
theorem dX8_years_12 : decode cX8_years 12 = .ok (.aload_n 0, 1) := by decide +kernel
theorem dX8_years_13 : decode cX8_years 13 = .ok (.ldc 64, 2) := by decide +kernel
theorem dX8_years_15 : decode cX8_years 15 = .ok (.invokevirtual 81, 3) := by decide +kernel
theorem dX8_years_18 : decode cX8_years 18 = .ok (.ireturn, 1) := by decide +kernel
theorem dX8_years_19 : decode cX8_years 19 = .ok (.iconst 0, 1) := by decide +kernel
theorem dX8_years_20 : decode cX8_years 20 = .ok (.istore_n 2, 1) := by decide +kernel
theorem dX8_years_21 : decode cX8_years 21 = .ok (.iconst 0, 1) := by decide +kernel
theorem dX8_years_22 : decode cX8_years 22 = .ok (.istore_n 3, 1) := by decide +kernel
theorem dX8_years_23 : decode cX8_years 23 = .ok (.iload_n 3, 1) := by decide +kernel
theorem dX8_years_24 : decode cX8_years 24 = .ok (.iload_n 1, 1) := by decide +kernel
theorem dX8_years_25 : decode cX8_years 25 = .ok (.if_icmp .ge 24, 3) := by decide +kernel
theorem dX8_years_28 : decode cX8_years 28 = .ok (.iload_n 2, 1) := by decide +kernel
theorem dX8_years_29 : decode cX8_years 29 = .ok (.aload_n 0, 1) := by decide +kernel
theorem dX8_years_30 : decode cX8_years 30 = .ok (.invokevirtual 170, 3) := by decide +kernel
theorem dX8_years_33 : decode cX8_years 33 = .ok (.ifCond .eq 7, 3) := by decide +kernel
theorem dX8_years_36 : decode cX8_years 36 = .ok (.iconst 1, 1) := by decide +kernel
theorem dX8_years_37 : decode cX8_years 37 = .ok (.goto 4, 3) := by decide +kernel
theorem dX8_years_40 : decode cX8_years 40 = .ok (.iconst 0, 1) := by decide +kernel
theorem dX8_years_41 : decode cX8_years 41 = .ok (.iadd, 1) := by decide +kernel
theorem dX8_years_42 : decode cX8_years 42 = .ok (.istore_n 2, 1) := by decide +kernel
theorem dX8_years_43 : decode cX8_years 43 = .ok (.iinc 3 1, 3) := by decide +kernel
theorem dX8_years_46 : decode cX8_years 46 = .ok (.goto (-23), 3) := by decide +kernel
theorem dX8_years_49 : decode cX8_years 49 = .ok (.iload_n 2, 1) := by decide +kernel
theorem dX8_years_50 : decode cX8_years 50 = .ok (.ireturn, 1) := by decide +kernel
theorem dX8_seed_0 : decode cX8_seed 0 = .ok (.aload_n 0, 1) := by decide +kernel
theorem dX8_seed_1 : decode cX8_seed 1 = .ok (.iconst 3, 1) := by decide +kernel
theorem dX8_seed_2 : decode cX8_seed 2 = .ok (.iload_n 1, 1) := by decide +kernel
theorem dX8_seed_3 : decode cX8_seed 3 = .ok (.invokevirtual 134, 3) := by decide +kernel
theorem dX8_seed_6 : decode cX8_seed 6 = .ok (.ireturn, 1) := by decide +kernel
theorem dX8_now_0 : decode cX8_now 0 = .ok (.iload_n 1, 1) := by decide +kernel
theorem dX8_now_1 : decode cX8_now 1 = .ok (.i2l, 1) := by decide +kernel
theorem dX8_now_2 : decode cX8_now 2 = .ok (.lconst 0, 1) := by decide +kernel
theorem dX8_now_3 : decode cX8_now 3 = .ok (.iconst 1, 1) := by decide +kernel
theorem dX8_now_4 : decode cX8_now 4 = .ok (.aload_n 0, 1) := by decide +kernel
theorem dX8_now_5 : decode cX8_now 5 = .ok (.getfield 7, 3) := by decide +kernel
theorem dX8_now_8 : decode cX8_now 8 = .ok (.iconst 4, 1) := by decide +kernel
theorem dX8_now_9 : decode cX8_now 9 = .ok (.iaload, 1) := by decide +kernel
theorem dX8_now_10 : decode cX8_now 10 = .ok (.iadd, 1) := by decide +kernel
theorem dX8_now_11 : decode cX8_now 11 = .ok (.i2l, 1) := by decide +kernel
theorem dX8_now_12 : decode cX8_now 12 = .ok (.invokestatic 71, 3) := by decide +kernel
theorem dX8_now_15 : decode cX8_now 15 = .ok (.ifCond .ne 10, 3) := by decide +kernel
theorem dX8_now_18 : decode cX8_now 18 = .ok (.aload_n 0, 1) := by decide +kernel
theorem dX8_now_19 : decode cX8_now 19 = .ok (.ldc 64, 2) := by decide +kernel
theorem dX8_now_21 : decode cX8_now 21 = .ok (.invokevirtual 81, 3) := by decide +kernel
theorem dX8_now_24 : decode cX8_now 24 = .ok (.ireturn, 1) := by decide +kernel
theorem dX8_now_25 : decode cX8_now 25 = .ok (.iload_n 1, 1) := by decide +kernel
theorem dX8_now_26 : decode cX8_now 26 = .ok (.iconst 2, 1) := by decide +kernel
theorem dX8_now_27 : decode cX8_now 27 = .ok (.if_icmp .ge 14, 3) := by decide +kernel
theorem dX8_now_30 : decode cX8_now 30 = .ok (.aload_n 0, 1) := by decide +kernel
theorem dX8_now_31 : decode cX8_now 31 = .ok (.getfield 7, 3) := by decide +kernel
theorem dX8_now_34 : decode cX8_now 34 = .ok (.iconst 1, 1) := by decide +kernel
theorem dX8_now_35 : decode cX8_now 35 = .ok (.iload_n 1, 1) := by decide +kernel
theorem dX8_now_36 : decode cX8_now 36 = .ok (.iadd, 1) := by decide +kernel
theorem dX8_now_37 : decode cX8_now 37 = .ok (.iaload, 1) := by decide +kernel
theorem dX8_now_38 : decode cX8_now 38 = .ok (.goto 14, 3) := by decide +kernel
theorem dX8_now_41 : decode cX8_now 41 = .ok (.aload_n 0, 1) := by decide +kernel
theorem dX8_now_42 : decode cX8_now 42 = .ok (.getfield 7, 3) := by decide +kernel
theorem dX8_now_45 : decode cX8_now 45 = .ok (.bipush 10, 2) := by decide +kernel
theorem dX8_now_47 : decode cX8_now 47 = .ok (.iload_n 1, 1) := by decide +kernel
theorem dX8_now_48 : decode cX8_now 48 = .ok (.iadd, 1) := by decide +kernel
theorem dX8_now_49 : decode cX8_now 49 = .ok (.iconst 2, 1) := by decide +kernel
theorem dX8_now_50 : decode cX8_now 50 = .ok (.isub, 1) := by decide +kernel
theorem dX8_now_51 : decode cX8_now 51 = .ok (.iaload, 1) := by decide +kernel
theorem dX8_now_52 : decode cX8_now 52 = .ok (.ireturn, 1) := by decide +kernel
theorem dX8_laysBy_0 : decode cX8_laysBy 0 = .ok (.iconst 0, 1) := by decide +kernel
theorem dX8_laysBy_1 : decode cX8_laysBy 1 = .ok (.istore_n 1, 1) := by decide +kernel
theorem dX8_laysBy_2 : decode cX8_laysBy 2 = .ok (.iload_n 1, 1) := by decide +kernel
theorem dX8_laysBy_3 : decode cX8_laysBy 3 = .ok (.bipush 74, 2) := by decide +kernel
theorem dX8_laysBy_5 : decode cX8_laysBy 5 = .ok (.if_icmp .ge 21, 3) := by decide +kernel
theorem dX8_laysBy_8 : decode cX8_laysBy 8 = .ok (.aload_n 0, 1) := by decide +kernel
theorem dX8_laysBy_9 : decode cX8_laysBy 9 = .ok (.getfield 42, 3) := by decide +kernel
theorem dX8_laysBy_12 : decode cX8_laysBy 12 = .ok (.iload_n 1, 1) := by decide +kernel
theorem dX8_laysBy_13 : decode cX8_laysBy 13 = .ok (.aload_n 0, 1) := by decide +kernel
theorem dX8_laysBy_14 : decode cX8_laysBy 14 = .ok (.getfield 7, 3) := by decide +kernel
theorem dX8_laysBy_17 : decode cX8_laysBy 17 = .ok (.iload_n 1, 1) := by decide +kernel
theorem dX8_laysBy_18 : decode cX8_laysBy 18 = .ok (.iaload, 1) := by decide +kernel
theorem dX8_laysBy_19 : decode cX8_laysBy 19 = .ok (.iastore, 1) := by decide +kernel
theorem dX8_laysBy_20 : decode cX8_laysBy 20 = .ok (.iinc 1 1, 3) := by decide +kernel
theorem dX8_laysBy_23 : decode cX8_laysBy 23 = .ok (.goto (-21), 3) := by decide +kernel
theorem dX8_laysBy_26 : decode cX8_laysBy 26 = .ok (.return_, 1) := by decide +kernel
theorem dX8_laysBack_0 : decode cX8_laysBack 0 = .ok (.iconst 0, 1) := by decide +kernel
theorem dX8_laysBack_1 : decode cX8_laysBack 1 = .ok (.istore_n 1, 1) := by decide +kernel
theorem dX8_laysBack_2 : decode cX8_laysBack 2 = .ok (.iload_n 1, 1) := by decide +kernel
theorem dX8_laysBack_3 : decode cX8_laysBack 3 = .ok (.bipush 74, 2) := by decide +kernel
theorem dX8_laysBack_5 : decode cX8_laysBack 5 = .ok (.if_icmp .ge 21, 3) := by decide +kernel
theorem dX8_laysBack_8 : decode cX8_laysBack 8 = .ok (.aload_n 0, 1) := by decide +kernel
theorem dX8_laysBack_9 : decode cX8_laysBack 9 = .ok (.getfield 7, 3) := by decide +kernel
theorem dX8_laysBack_12 : decode cX8_laysBack 12 = .ok (.iload_n 1, 1) := by decide +kernel
theorem dX8_laysBack_13 : decode cX8_laysBack 13 = .ok (.aload_n 0, 1) := by decide +kernel
theorem dX8_laysBack_14 : decode cX8_laysBack 14 = .ok (.getfield 42, 3) := by decide +kernel
theorem dX8_laysBack_17 : decode cX8_laysBack 17 = .ok (.iload_n 1, 1) := by decide +kernel
theorem dX8_laysBack_18 : decode cX8_laysBack 18 = .ok (.iaload, 1) := by decide +kernel
theorem dX8_laysBack_19 : decode cX8_laysBack 19 = .ok (.iastore, 1) := by decide +kernel
theorem dX8_laysBack_20 : decode cX8_laysBack 20 = .ok (.iinc 1 1, 3) := by decide +kernel
theorem dX8_laysBack_23 : decode cX8_laysBack 23 = .ok (.goto (-21), 3) := by decide +kernel
theorem dX8_laysBack_26 : decode cX8_laysBack 26 = .ok (.return_, 1) := by decide +kernel
theorem dX8_isChairs_0 : decode cX8_isChairs 0 = .ok (.iload_n 0, 1) := by decide +kernel
theorem dX8_isChairs_1 : decode cX8_isChairs 1 = .ok (.i2l, 1) := by decide +kernel
theorem dX8_isChairs_2 : decode cX8_isChairs 2 = .ok (.lconst 1, 1) := by decide +kernel
theorem dX8_isChairs_3 : decode cX8_isChairs 3 = .ok (.ldc2_w 174, 3) := by decide +kernel
theorem dX8_isChairs_6 : decode cX8_isChairs 6 = .ok (.invokestatic 71, 3) := by decide +kernel
theorem dX8_isChairs_9 : decode cX8_isChairs 9 = .ok (.ireturn, 1) := by decide +kernel
theorem dX8_ahead_0 : decode cX8_ahead 0 = .ok (.iload_n 1, 1) := by decide +kernel
theorem dX8_ahead_1 : decode cX8_ahead 1 = .ok (.invokestatic 176, 3) := by decide +kernel
theorem dX8_ahead_4 : decode cX8_ahead 4 = .ok (.ifCond .ne 10, 3) := by decide +kernel
theorem dX8_ahead_7 : decode cX8_ahead 7 = .ok (.aload_n 0, 1) := by decide +kernel
theorem dX8_ahead_8 : decode cX8_ahead 8 = .ok (.ldc 64, 2) := by decide +kernel
theorem dX8_ahead_10 : decode cX8_ahead 10 = .ok (.invokevirtual 81, 3) := by decide +kernel
theorem dX8_ahead_13 : decode cX8_ahead 13 = .ok (.ireturn, 1) := by decide +kernel
theorem dX8_ahead_14 : decode cX8_ahead 14 = .ok (.aload_n 0, 1) := by decide +kernel
theorem dX8_ahead_15 : decode cX8_ahead 15 = .ok (.invokevirtual 179, 3) := by decide +kernel
theorem dX8_ahead_18 : decode cX8_ahead 18 = .ok (.iconst (-1), 1) := by decide +kernel
theorem dX8_ahead_19 : decode cX8_ahead 19 = .ok (.istore_n 2, 1) := by decide +kernel
theorem dX8_ahead_20 : decode cX8_ahead 20 = .ok (.iconst 0, 1) := by decide +kernel
theorem dX8_ahead_21 : decode cX8_ahead 21 = .ok (.istore_n 3, 1) := by decide +kernel
theorem dX8_ahead_22 : decode cX8_ahead 22 = .ok (.iload_n 3, 1) := by decide +kernel
theorem dX8_ahead_23 : decode cX8_ahead 23 = .ok (.iload_n 1, 1) := by decide +kernel
theorem dX8_ahead_24 : decode cX8_ahead 24 = .ok (.if_icmp .ge 14, 3) := by decide +kernel
theorem dX8_ahead_27 : decode cX8_ahead 27 = .ok (.aload_n 0, 1) := by decide +kernel
theorem dX8_ahead_28 : decode cX8_ahead 28 = .ok (.invokevirtual 157, 3) := by decide +kernel
theorem dX8_ahead_31 : decode cX8_ahead 31 = .ok (.istore_n 2, 1) := by decide +kernel
theorem dX8_ahead_32 : decode cX8_ahead 32 = .ok (.iinc 3 1, 3) := by decide +kernel
theorem dX8_ahead_35 : decode cX8_ahead 35 = .ok (.goto (-13), 3) := by decide +kernel
theorem dX8_ahead_38 : decode cX8_ahead 38 = .ok (.aload_n 0, 1) := by decide +kernel
theorem dX8_ahead_39 : decode cX8_ahead 39 = .ok (.invokevirtual 182, 3) := by decide +kernel
theorem dX8_ahead_42 : decode cX8_ahead 42 = .ok (.iload_n 2, 1) := by decide +kernel
theorem dX8_ahead_43 : decode cX8_ahead 43 = .ok (.ireturn, 1) := by decide +kernel
theorem dX8_asOne_0 : decode cX8_asOne 0 = .ok (.aload_n 0, 1) := by decide +kernel
theorem dX8_asOne_1 : decode cX8_asOne 1 = .ok (.getfield 7, 3) := by decide +kernel
theorem dX8_asOne_4 : decode cX8_asOne 4 = .ok (.iconst 1, 1) := by decide +kernel
theorem dX8_asOne_5 : decode cX8_asOne 5 = .ok (.iaload, 1) := by decide +kernel
theorem dX8_asOne_6 : decode cX8_asOne 6 = .ok (.iconst 1, 1) := by decide +kernel
theorem dX8_asOne_7 : decode cX8_asOne 7 = .ok (.iadd, 1) := by decide +kernel
theorem dX8_asOne_8 : decode cX8_asOne 8 = .ok (.istore_n 1, 1) := by decide +kernel
theorem dX8_asOne_9 : decode cX8_asOne 9 = .ok (.iconst 0, 1) := by decide +kernel
theorem dX8_asOne_10 : decode cX8_asOne 10 = .ok (.istore_n 2, 1) := by decide +kernel
theorem dX8_asOne_11 : decode cX8_asOne 11 = .ok (.iload_n 2, 1) := by decide +kernel
theorem dX8_asOne_12 : decode cX8_asOne 12 = .ok (.iconst 4, 1) := by decide +kernel
theorem dX8_asOne_13 : decode cX8_asOne 13 = .ok (.if_icmp .ge 26, 3) := by decide +kernel
theorem dX8_asOne_16 : decode cX8_asOne 16 = .ok (.bipush 11, 2) := by decide +kernel
theorem dX8_asOne_18 : decode cX8_asOne 18 = .ok (.iload_n 1, 1) := by decide +kernel
theorem dX8_asOne_19 : decode cX8_asOne 19 = .ok (.imul, 1) := by decide +kernel
theorem dX8_asOne_20 : decode cX8_asOne 20 = .ok (.aload_n 0, 1) := by decide +kernel
theorem dX8_asOne_21 : decode cX8_asOne 21 = .ok (.getfield 7, 3) := by decide +kernel
theorem dX8_asOne_24 : decode cX8_asOne 24 = .ok (.bipush 10, 2) := by decide +kernel
theorem dX8_asOne_26 : decode cX8_asOne 26 = .ok (.iload_n 2, 1) := by decide +kernel
theorem dX8_asOne_27 : decode cX8_asOne 27 = .ok (.iadd, 1) := by decide +kernel
theorem dX8_asOne_28 : decode cX8_asOne 28 = .ok (.iaload, 1) := by decide +kernel
theorem dX8_asOne_29 : decode cX8_asOne 29 = .ok (.iadd, 1) := by decide +kernel
theorem dX8_asOne_30 : decode cX8_asOne 30 = .ok (.iconst 1, 1) := by decide +kernel
theorem dX8_asOne_31 : decode cX8_asOne 31 = .ok (.iadd, 1) := by decide +kernel
theorem dX8_asOne_32 : decode cX8_asOne 32 = .ok (.istore_n 1, 1) := by decide +kernel
theorem dX8_asOne_33 : decode cX8_asOne 33 = .ok (.iinc 2 1, 3) := by decide +kernel
theorem dX8_asOne_36 : decode cX8_asOne 36 = .ok (.goto (-25), 3) := by decide +kernel
theorem dX8_asOne_39 : decode cX8_asOne 39 = .ok (.iload_n 1, 1) := by decide +kernel
theorem dX8_asOne_40 : decode cX8_asOne 40 = .ok (.ireturn, 1) := by decide +kernel
theorem dX8_findEver_0 : decode cX8_findEver 0 = .ok (.aload_n 0, 1) := by decide +kernel
theorem dX8_findEver_1 : decode cX8_findEver 1 = .ok (.invokevirtual 179, 3) := by decide +kernel
theorem dX8_findEver_4 : decode cX8_findEver 4 = .ok (.aload_n 0, 1) := by decide +kernel
theorem dX8_findEver_5 : decode cX8_findEver 5 = .ok (.getfield 45, 3) := by decide +kernel
theorem dX8_findEver_8 : decode cX8_findEver 8 = .ok (.iconst 0, 1) := by decide +kernel
theorem dX8_findEver_9 : decode cX8_findEver 9 = .ok (.aload_n 0, 1) := by decide +kernel
theorem dX8_findEver_10 : decode cX8_findEver 10 = .ok (.invokevirtual 185, 3) := by decide +kernel
theorem dX8_findEver_13 : decode cX8_findEver 13 = .ok (.iastore, 1) := by decide +kernel
theorem dX8_findEver_14 : decode cX8_findEver 14 = .ok (.aload_n 0, 1) := by decide +kernel
theorem dX8_findEver_15 : decode cX8_findEver 15 = .ok (.iconst (-1), 1) := by decide +kernel
theorem dX8_findEver_16 : decode cX8_findEver 16 = .ok (.putfield 188, 3) := by decide +kernel
theorem dX8_findEver_19 : decode cX8_findEver 19 = .ok (.iconst 1, 1) := by decide +kernel
theorem dX8_findEver_20 : decode cX8_findEver 20 = .ok (.istore_n 1, 1) := by decide +kernel
theorem dX8_findEver_21 : decode cX8_findEver 21 = .ok (.iload_n 1, 1) := by decide +kernel
theorem dX8_findEver_22 : decode cX8_findEver 22 = .ok (.sipush 300, 3) := by decide +kernel
theorem dX8_findEver_25 : decode cX8_findEver 25 = .ok (.if_icmp .gt 85, 3) := by decide +kernel
theorem dX8_findEver_28 : decode cX8_findEver 28 = .ok (.aload_n 0, 1) := by decide +kernel
theorem dX8_findEver_29 : decode cX8_findEver 29 = .ok (.getfield 188, 3) := by decide +kernel
theorem dX8_findEver_32 : decode cX8_findEver 32 = .ok (.ifCond .ge 78, 3) := by decide +kernel
theorem dX8_findEver_35 : decode cX8_findEver 35 = .ok (.aload_n 0, 1) := by decide +kernel
theorem dX8_findEver_36 : decode cX8_findEver 36 = .ok (.getfield 48, 3) := by decide +kernel
theorem dX8_findEver_39 : decode cX8_findEver 39 = .ok (.iload_n 1, 1) := by decide +kernel
theorem dX8_findEver_40 : decode cX8_findEver 40 = .ok (.aload_n 0, 1) := by decide +kernel
theorem dX8_findEver_41 : decode cX8_findEver 41 = .ok (.invokevirtual 157, 3) := by decide +kernel
theorem dX8_findEver_44 : decode cX8_findEver 44 = .ok (.iastore, 1) := by decide +kernel
theorem dX8_findEver_45 : decode cX8_findEver 45 = .ok (.aload_n 0, 1) := by decide +kernel
theorem dX8_findEver_46 : decode cX8_findEver 46 = .ok (.getfield 45, 3) := by decide +kernel
theorem dX8_findEver_49 : decode cX8_findEver 49 = .ok (.iload_n 1, 1) := by decide +kernel
theorem dX8_findEver_50 : decode cX8_findEver 50 = .ok (.aload_n 0, 1) := by decide +kernel
theorem dX8_findEver_51 : decode cX8_findEver 51 = .ok (.invokevirtual 185, 3) := by decide +kernel
theorem dX8_findEver_54 : decode cX8_findEver 54 = .ok (.iastore, 1) := by decide +kernel
theorem dX8_findEver_55 : decode cX8_findEver 55 = .ok (.iconst 0, 1) := by decide +kernel
theorem dX8_findEver_56 : decode cX8_findEver 56 = .ok (.istore_n 2, 1) := by decide +kernel
theorem dX8_findEver_57 : decode cX8_findEver 57 = .ok (.iload_n 2, 1) := by decide +kernel
theorem dX8_findEver_58 : decode cX8_findEver 58 = .ok (.iload_n 1, 1) := by decide +kernel
theorem dX8_findEver_59 : decode cX8_findEver 59 = .ok (.if_icmp .ge 40, 3) := by decide +kernel
theorem dX8_findEver_62 : decode cX8_findEver 62 = .ok (.aload_n 0, 1) := by decide +kernel
theorem dX8_findEver_63 : decode cX8_findEver 63 = .ok (.getfield 188, 3) := by decide +kernel
theorem dX8_findEver_66 : decode cX8_findEver 66 = .ok (.ifCond .ge 33, 3) := by decide +kernel
theorem dX8_findEver_69 : decode cX8_findEver 69 = .ok (.aload_n 0, 1) := by decide +kernel
theorem dX8_findEver_70 : decode cX8_findEver 70 = .ok (.aload_n 0, 1) := by decide +kernel
theorem dX8_findEver_71 : decode cX8_findEver 71 = .ok (.getfield 45, 3) := by decide +kernel
theorem dX8_findEver_74 : decode cX8_findEver 74 = .ok (.iload_n 2, 1) := by decide +kernel
theorem dX8_findEver_75 : decode cX8_findEver 75 = .ok (.iaload, 1) := by decide +kernel
theorem dX8_findEver_76 : decode cX8_findEver 76 = .ok (.aload_n 0, 1) := by decide +kernel
theorem dX8_findEver_77 : decode cX8_findEver 77 = .ok (.getfield 45, 3) := by decide +kernel
theorem dX8_findEver_80 : decode cX8_findEver 80 = .ok (.iload_n 1, 1) := by decide +kernel
theorem dX8_findEver_81 : decode cX8_findEver 81 = .ok (.iaload, 1) := by decide +kernel
theorem dX8_findEver_82 : decode cX8_findEver 82 = .ok (.if_icmp .ne 7, 3) := by decide +kernel
theorem dX8_findEver_85 : decode cX8_findEver 85 = .ok (.iload_n 2, 1) := by decide +kernel
theorem dX8_findEver_86 : decode cX8_findEver 86 = .ok (.goto 4, 3) := by decide +kernel
theorem dX8_findEver_89 : decode cX8_findEver 89 = .ok (.iconst (-1), 1) := by decide +kernel
theorem dX8_findEver_90 : decode cX8_findEver 90 = .ok (.putfield 188, 3) := by decide +kernel
theorem dX8_findEver_93 : decode cX8_findEver 93 = .ok (.iinc 2 1, 3) := by decide +kernel
theorem dX8_findEver_96 : decode cX8_findEver 96 = .ok (.goto (-39), 3) := by decide +kernel
theorem dX8_findEver_99 : decode cX8_findEver 99 = .ok (.aload_n 0, 1) := by decide +kernel
theorem dX8_findEver_100 : decode cX8_findEver 100 = .ok (.iload_n 1, 1) := by decide +kernel
theorem dX8_findEver_101 : decode cX8_findEver 101 = .ok (.putfield 191, 3) := by decide +kernel
theorem dX8_findEver_104 : decode cX8_findEver 104 = .ok (.iinc 1 1, 3) := by decide +kernel
theorem dX8_findEver_107 : decode cX8_findEver 107 = .ok (.goto (-86), 3) := by decide +kernel
theorem dX8_findEver_110 : decode cX8_findEver 110 = .ok (.aload_n 0, 1) := by decide +kernel
theorem dX8_findEver_111 : decode cX8_findEver 111 = .ok (.invokevirtual 182, 3) := by decide +kernel
theorem dX8_findEver_114 : decode cX8_findEver 114 = .ok (.aload_n 0, 1) := by decide +kernel
theorem dX8_findEver_115 : decode cX8_findEver 115 = .ok (.getfield 188, 3) := by decide +kernel
theorem dX8_findEver_118 : decode cX8_findEver 118 = .ok (.ifCond .lt 7, 3) := by decide +kernel
theorem dX8_findEver_121 : decode cX8_findEver 121 = .ok (.iconst 1, 1) := by decide +kernel
theorem dX8_findEver_122 : decode cX8_findEver 122 = .ok (.goto 4, 3) := by decide +kernel
theorem dX8_findEver_125 : decode cX8_findEver 125 = .ok (.iconst 0, 1) := by decide +kernel
theorem dX8_findEver_126 : decode cX8_findEver 126 = .ok (.ireturn, 1) := by decide +kernel
theorem dX8_ever_0 : decode cX8_ever 0 = .ok (.aload_n 0, 1) := by decide +kernel
theorem dX8_ever_1 : decode cX8_ever 1 = .ok (.invokevirtual 194, 3) := by decide +kernel
theorem dX8_ever_4 : decode cX8_ever 4 = .ok (.ifCond .ne 10, 3) := by decide +kernel
theorem dX8_ever_7 : decode cX8_ever 7 = .ok (.aload_n 0, 1) := by decide +kernel
theorem dX8_ever_8 : decode cX8_ever 8 = .ok (.ldc 197, 2) := by decide +kernel
theorem dX8_ever_10 : decode cX8_ever 10 = .ok (.invokevirtual 81, 3) := by decide +kernel
theorem dX8_ever_13 : decode cX8_ever 13 = .ok (.ireturn, 1) := by decide +kernel
theorem dX8_ever_14 : decode cX8_ever 14 = .ok (.iconst 0, 1) := by decide +kernel
theorem dX8_ever_15 : decode cX8_ever 15 = .ok (.istore_n 1, 1) := by decide +kernel
theorem dX8_ever_16 : decode cX8_ever 16 = .ok (.aload_n 0, 1) := by decide +kernel
theorem dX8_ever_17 : decode cX8_ever 17 = .ok (.getfield 188, 3) := by decide +kernel
theorem dX8_ever_20 : decode cX8_ever 20 = .ok (.iconst 1, 1) := by decide +kernel
theorem dX8_ever_21 : decode cX8_ever 21 = .ok (.iadd, 1) := by decide +kernel
theorem dX8_ever_22 : decode cX8_ever 22 = .ok (.istore_n 2, 1) := by decide +kernel
theorem dX8_ever_23 : decode cX8_ever 23 = .ok (.iload_n 2, 1) := by decide +kernel
theorem dX8_ever_24 : decode cX8_ever 24 = .ok (.aload_n 0, 1) := by decide +kernel
theorem dX8_ever_25 : decode cX8_ever 25 = .ok (.getfield 191, 3) := by decide +kernel
theorem dX8_ever_28 : decode cX8_ever 28 = .ok (.if_icmp .gt 33, 3) := by decide +kernel
theorem dX8_ever_31 : decode cX8_ever 31 = .ok (.iload_n 1, 1) := by decide +kernel
theorem dX8_ever_32 : decode cX8_ever 32 = .ok (.aload_n 0, 1) := by decide +kernel
theorem dX8_ever_33 : decode cX8_ever 33 = .ok (.getfield 48, 3) := by decide +kernel
theorem dX8_ever_36 : decode cX8_ever 36 = .ok (.iload_n 2, 1) := by decide +kernel
theorem dX8_ever_37 : decode cX8_ever 37 = .ok (.iaload, 1) := by decide +kernel
theorem dX8_ever_38 : decode cX8_ever 38 = .ok (.ifCond .ge 7, 3) := by decide +kernel
theorem dX8_ever_41 : decode cX8_ever 41 = .ok (.iconst 0, 1) := by decide +kernel
theorem dX8_ever_42 : decode cX8_ever 42 = .ok (.goto 11, 3) := by decide +kernel
theorem dX8_ever_45 : decode cX8_ever 45 = .ok (.iconst 1, 1) := by decide +kernel
theorem dX8_ever_46 : decode cX8_ever 46 = .ok (.aload_n 0, 1) := by decide +kernel
theorem dX8_ever_47 : decode cX8_ever 47 = .ok (.getfield 48, 3) := by decide +kernel
theorem dX8_ever_50 : decode cX8_ever 50 = .ok (.iload_n 2, 1) := by decide +kernel
theorem dX8_ever_51 : decode cX8_ever 51 = .ok (.iaload, 1) := by decide +kernel
theorem dX8_ever_52 : decode cX8_ever 52 = .ok (.ishl, 1) := by decide +kernel
theorem dX8_ever_53 : decode cX8_ever 53 = .ok (.ior, 1) := by decide +kernel
theorem dX8_ever_54 : decode cX8_ever 54 = .ok (.istore_n 1, 1) := by decide +kernel
theorem dX8_ever_55 : decode cX8_ever 55 = .ok (.iinc 2 1, 3) := by decide +kernel
theorem dX8_ever_58 : decode cX8_ever 58 = .ok (.goto (-35), 3) := by decide +kernel
theorem dX8_ever_61 : decode cX8_ever 61 = .ok (.iload_n 1, 1) := by decide +kernel
theorem dX8_ever_62 : decode cX8_ever 62 = .ok (.ireturn, 1) := by decide +kernel
theorem dX8_turns_0 : decode cX8_turns 0 = .ok (.iload_n 1, 1) := by decide +kernel
theorem dX8_turns_1 : decode cX8_turns 1 = .ok (.i2l, 1) := by decide +kernel
theorem dX8_turns_2 : decode cX8_turns 2 = .ok (.lconst 0, 1) := by decide +kernel
theorem dX8_turns_3 : decode cX8_turns 3 = .ok (.lconst 1, 1) := by decide +kernel
theorem dX8_turns_4 : decode cX8_turns 4 = .ok (.invokestatic 71, 3) := by decide +kernel
theorem dX8_turns_7 : decode cX8_turns 7 = .ok (.ifCond .ne 10, 3) := by decide +kernel
theorem dX8_turns_10 : decode cX8_turns 10 = .ok (.aload_n 0, 1) := by decide +kernel
theorem dX8_turns_11 : decode cX8_turns 11 = .ok (.ldc 64, 2) := by decide +kernel
theorem dX8_turns_13 : decode cX8_turns 13 = .ok (.invokevirtual 81, 3) := by decide +kernel
theorem dX8_turns_16 : decode cX8_turns 16 = .ok (.ireturn, 1) := by decide +kernel
theorem dX8_turns_17 : decode cX8_turns 17 = .ok (.aload_n 0, 1) := by decide +kernel
theorem dX8_turns_18 : decode cX8_turns 18 = .ok (.invokevirtual 194, 3) := by decide +kernel
theorem dX8_turns_21 : decode cX8_turns 21 = .ok (.ifCond .ne 10, 3) := by decide +kernel
theorem dX8_turns_24 : decode cX8_turns 24 = .ok (.aload_n 0, 1) := by decide +kernel
theorem dX8_turns_25 : decode cX8_turns 25 = .ok (.ldc 197, 2) := by decide +kernel
theorem dX8_turns_27 : decode cX8_turns 27 = .ok (.invokevirtual 81, 3) := by decide +kernel
theorem dX8_turns_30 : decode cX8_turns 30 = .ok (.ireturn, 1) := by decide +kernel
theorem dX8_turns_31 : decode cX8_turns 31 = .ok (.iload_n 1, 1) := by decide +kernel
theorem dX8_turns_32 : decode cX8_turns 32 = .ok (.ifCond .ne 10, 3) := by decide +kernel
theorem dX8_turns_35 : decode cX8_turns 35 = .ok (.aload_n 0, 1) := by decide +kernel
theorem dX8_turns_36 : decode cX8_turns 36 = .ok (.getfield 188, 3) := by decide +kernel
theorem dX8_turns_39 : decode cX8_turns 39 = .ok (.goto 12, 3) := by decide +kernel
theorem dX8_turns_42 : decode cX8_turns 42 = .ok (.aload_n 0, 1) := by decide +kernel
theorem dX8_turns_43 : decode cX8_turns 43 = .ok (.getfield 191, 3) := by decide +kernel
theorem dX8_turns_46 : decode cX8_turns 46 = .ok (.aload_n 0, 1) := by decide +kernel
theorem dX8_turns_47 : decode cX8_turns 47 = .ok (.getfield 188, 3) := by decide +kernel
theorem dX8_turns_50 : decode cX8_turns 50 = .ok (.isub, 1) := by decide +kernel
theorem dX8_turns_51 : decode cX8_turns 51 = .ok (.ireturn, 1) := by decide +kernel
theorem dX8_share_0 : decode cX8_share 0 = .ok (.iload_n 1, 1) := by decide +kernel
theorem dX8_share_1 : decode cX8_share 1 = .ok (.i2l, 1) := by decide +kernel
theorem dX8_share_2 : decode cX8_share 2 = .ok (.lconst 0, 1) := by decide +kernel
theorem dX8_share_3 : decode cX8_share 3 = .ok (.ldc2_w 79, 3) := by decide +kernel
theorem dX8_share_6 : decode cX8_share 6 = .ok (.invokestatic 71, 3) := by decide +kernel
theorem dX8_share_9 : decode cX8_share 9 = .ok (.ifCond .eq 10, 3) := by decide +kernel
theorem dX8_share_12 : decode cX8_share 12 = .ok (.iload_n 2, 1) := by decide +kernel
theorem dX8_share_13 : decode cX8_share 13 = .ok (.invokestatic 176, 3) := by decide +kernel
theorem dX8_share_16 : decode cX8_share 16 = .ok (.ifCond .ne 10, 3) := by decide +kernel
theorem dX8_share_19 : decode cX8_share 19 = .ok (.aload_n 0, 1) := by decide +kernel
theorem dX8_share_20 : decode cX8_share 20 = .ok (.ldc 64, 2) := by decide +kernel
theorem dX8_share_22 : decode cX8_share 22 = .ok (.invokevirtual 81, 3) := by decide +kernel
theorem dX8_share_25 : decode cX8_share 25 = .ok (.ireturn, 1) := by decide +kernel
theorem dX8_share_26 : decode cX8_share 26 = .ok (.aload_n 0, 1) := by decide +kernel
theorem dX8_share_27 : decode cX8_share 27 = .ok (.invokevirtual 179, 3) := by decide +kernel
theorem dX8_share_30 : decode cX8_share 30 = .ok (.iconst 0, 1) := by decide +kernel
theorem dX8_share_31 : decode cX8_share 31 = .ok (.istore_n 3, 1) := by decide +kernel
theorem dX8_share_32 : decode cX8_share 32 = .ok (.iconst 0, 1) := by decide +kernel
theorem dX8_share_33 : decode cX8_share 33 = .ok (.istore 4, 2) := by decide +kernel
theorem dX8_share_35 : decode cX8_share 35 = .ok (.iload 4, 2) := by decide +kernel
theorem dX8_share_37 : decode cX8_share 37 = .ok (.iload_n 2, 1) := by decide +kernel
theorem dX8_share_38 : decode cX8_share 38 = .ok (.if_icmp .ge 39, 3) := by decide +kernel
theorem dX8_share_41 : decode cX8_share 41 = .ok (.aload_n 0, 1) := by decide +kernel
theorem dX8_share_42 : decode cX8_share 42 = .ok (.invokevirtual 157, 3) := by decide +kernel
theorem dX8_share_45 : decode cX8_share 45 = .ok (.istore 5, 2) := by decide +kernel
theorem dX8_share_47 : decode cX8_share 47 = .ok (.iload_n 3, 1) := by decide +kernel
theorem dX8_share_48 : decode cX8_share 48 = .ok (.iload 5, 2) := by decide +kernel
theorem dX8_share_50 : decode cX8_share 50 = .ok (.ifCond .lt 18, 3) := by decide +kernel
theorem dX8_share_53 : decode cX8_share 53 = .ok (.aload_n 0, 1) := by decide +kernel
theorem dX8_share_54 : decode cX8_share 54 = .ok (.iload 5, 2) := by decide +kernel
theorem dX8_share_56 : decode cX8_share 56 = .ok (.iconst 2, 1) := by decide +kernel
theorem dX8_share_57 : decode cX8_share 57 = .ok (.invokevirtual 65, 3) := by decide +kernel
theorem dX8_share_60 : decode cX8_share 60 = .ok (.iload_n 1, 1) := by decide +kernel
theorem dX8_share_61 : decode cX8_share 61 = .ok (.if_icmp .ne 7, 3) := by decide +kernel
theorem dX8_share_64 : decode cX8_share 64 = .ok (.iconst 1, 1) := by decide +kernel
theorem dX8_share_65 : decode cX8_share 65 = .ok (.goto 4, 3) := by decide +kernel
theorem dX8_share_68 : decode cX8_share 68 = .ok (.iconst 0, 1) := by decide +kernel
theorem dX8_share_69 : decode cX8_share 69 = .ok (.iadd, 1) := by decide +kernel
theorem dX8_share_70 : decode cX8_share 70 = .ok (.istore_n 3, 1) := by decide +kernel
theorem dX8_share_71 : decode cX8_share 71 = .ok (.iinc 4 1, 3) := by decide +kernel
theorem dX8_share_74 : decode cX8_share 74 = .ok (.goto (-39), 3) := by decide +kernel
theorem dX8_share_77 : decode cX8_share 77 = .ok (.aload_n 0, 1) := by decide +kernel
theorem dX8_share_78 : decode cX8_share 78 = .ok (.invokevirtual 182, 3) := by decide +kernel
theorem dX8_share_81 : decode cX8_share 81 = .ok (.iload_n 3, 1) := by decide +kernel
theorem dX8_share_82 : decode cX8_share 82 = .ok (.ireturn, 1) := by decide +kernel
theorem dX8_hasIn_0 : decode cX8_hasIn 0 = .ok (.iconst 0, 1) := by decide +kernel
theorem dX8_hasIn_1 : decode cX8_hasIn 1 = .ok (.istore_n 3, 1) := by decide +kernel
theorem dX8_hasIn_2 : decode cX8_hasIn 2 = .ok (.iconst 0, 1) := by decide +kernel
theorem dX8_hasIn_3 : decode cX8_hasIn 3 = .ok (.istore 4, 2) := by decide +kernel
theorem dX8_hasIn_5 : decode cX8_hasIn 5 = .ok (.iload 4, 2) := by decide +kernel
theorem dX8_hasIn_7 : decode cX8_hasIn 7 = .ok (.iload_n 2, 1) := by decide +kernel
theorem dX8_hasIn_8 : decode cX8_hasIn 8 = .ok (.if_icmp .ge 39, 3) := by decide +kernel
theorem dX8_hasIn_11 : decode cX8_hasIn 11 = .ok (.aload_n 0, 1) := by decide +kernel
theorem dX8_hasIn_12 : decode cX8_hasIn 12 = .ok (.invokevirtual 157, 3) := by decide +kernel
theorem dX8_hasIn_15 : decode cX8_hasIn 15 = .ok (.istore 5, 2) := by decide +kernel
theorem dX8_hasIn_17 : decode cX8_hasIn 17 = .ok (.iload_n 3, 1) := by decide +kernel
theorem dX8_hasIn_18 : decode cX8_hasIn 18 = .ok (.iload 5, 2) := by decide +kernel
theorem dX8_hasIn_20 : decode cX8_hasIn 20 = .ok (.ifCond .ge 7, 3) := by decide +kernel
theorem dX8_hasIn_23 : decode cX8_hasIn 23 = .ok (.iconst 0, 1) := by decide +kernel
theorem dX8_hasIn_24 : decode cX8_hasIn 24 = .ok (.goto 15, 3) := by decide +kernel
theorem dX8_hasIn_27 : decode cX8_hasIn 27 = .ok (.aload_n 0, 1) := by decide +kernel
theorem dX8_hasIn_28 : decode cX8_hasIn 28 = .ok (.aload_n 0, 1) := by decide +kernel
theorem dX8_hasIn_29 : decode cX8_hasIn 29 = .ok (.iload 5, 2) := by decide +kernel
theorem dX8_hasIn_31 : decode cX8_hasIn 31 = .ok (.iconst 2, 1) := by decide +kernel
theorem dX8_hasIn_32 : decode cX8_hasIn 32 = .ok (.invokevirtual 65, 3) := by decide +kernel
theorem dX8_hasIn_35 : decode cX8_hasIn 35 = .ok (.iload_n 1, 1) := by decide +kernel
theorem dX8_hasIn_36 : decode cX8_hasIn 36 = .ok (.invokevirtual 160, 3) := by decide +kernel
theorem dX8_hasIn_39 : decode cX8_hasIn 39 = .ok (.iadd, 1) := by decide +kernel
theorem dX8_hasIn_40 : decode cX8_hasIn 40 = .ok (.istore_n 3, 1) := by decide +kernel
theorem dX8_hasIn_41 : decode cX8_hasIn 41 = .ok (.iinc 4 1, 3) := by decide +kernel
theorem dX8_hasIn_44 : decode cX8_hasIn 44 = .ok (.goto (-39), 3) := by decide +kernel
theorem dX8_hasIn_47 : decode cX8_hasIn 47 = .ok (.iload_n 3, 1) := by decide +kernel
theorem dX8_hasIn_48 : decode cX8_hasIn 48 = .ok (.ireturn, 1) := by decide +kernel
theorem dX8_has_0 : decode cX8_has 0 = .ok (.iload_n 1, 1) := by decide +kernel
theorem dX8_has_1 : decode cX8_has 1 = .ok (.i2l, 1) := by decide +kernel
theorem dX8_has_2 : decode cX8_has 2 = .ok (.lconst 0, 1) := by decide +kernel
theorem dX8_has_3 : decode cX8_has 3 = .ok (.ldc2_w 79, 3) := by decide +kernel
theorem dX8_has_6 : decode cX8_has 6 = .ok (.invokestatic 71, 3) := by decide +kernel
theorem dX8_has_9 : decode cX8_has 9 = .ok (.ifCond .eq 10, 3) := by decide +kernel
theorem dX8_has_12 : decode cX8_has 12 = .ok (.iload_n 2, 1) := by decide +kernel
theorem dX8_has_13 : decode cX8_has 13 = .ok (.invokestatic 176, 3) := by decide +kernel
theorem dX8_has_16 : decode cX8_has 16 = .ok (.ifCond .ne 10, 3) := by decide +kernel
theorem dX8_has_19 : decode cX8_has 19 = .ok (.aload_n 0, 1) := by decide +kernel
theorem dX8_has_20 : decode cX8_has 20 = .ok (.ldc 64, 2) := by decide +kernel
theorem dX8_has_22 : decode cX8_has 22 = .ok (.invokevirtual 81, 3) := by decide +kernel
theorem dX8_has_25 : decode cX8_has 25 = .ok (.ireturn, 1) := by decide +kernel
theorem dX8_has_26 : decode cX8_has 26 = .ok (.aload_n 0, 1) := by decide +kernel
theorem dX8_has_27 : decode cX8_has 27 = .ok (.invokevirtual 179, 3) := by decide +kernel
theorem dX8_has_30 : decode cX8_has 30 = .ok (.aload_n 0, 1) := by decide +kernel
theorem dX8_has_31 : decode cX8_has 31 = .ok (.iload_n 1, 1) := by decide +kernel
theorem dX8_has_32 : decode cX8_has 32 = .ok (.iload_n 2, 1) := by decide +kernel
theorem dX8_has_33 : decode cX8_has 33 = .ok (.invokevirtual 198, 3) := by decide +kernel
theorem dX8_has_36 : decode cX8_has 36 = .ok (.istore_n 3, 1) := by decide +kernel
theorem dX8_has_37 : decode cX8_has 37 = .ok (.aload_n 0, 1) := by decide +kernel
theorem dX8_has_38 : decode cX8_has 38 = .ok (.invokevirtual 182, 3) := by decide +kernel
theorem dX8_has_41 : decode cX8_has 41 = .ok (.iload_n 3, 1) := by decide +kernel
theorem dX8_has_42 : decode cX8_has 42 = .ok (.ireturn, 1) := by decide +kernel
theorem dX8_but_0 : decode cX8_but 0 = .ok (.iload_n 1, 1) := by decide +kernel
theorem dX8_but_1 : decode cX8_but 1 = .ok (.i2l, 1) := by decide +kernel
theorem dX8_but_2 : decode cX8_but 2 = .ok (.lconst 1, 1) := by decide +kernel
theorem dX8_but_3 : decode cX8_but 3 = .ok (.ldc2_w 144, 3) := by decide +kernel
theorem dX8_but_6 : decode cX8_but 6 = .ok (.invokestatic 71, 3) := by decide +kernel
theorem dX8_but_9 : decode cX8_but 9 = .ok (.ifCond .eq 22, 3) := by decide +kernel
theorem dX8_but_12 : decode cX8_but 12 = .ok (.iload_n 2, 1) := by decide +kernel
theorem dX8_but_13 : decode cX8_but 13 = .ok (.i2l, 1) := by decide +kernel
theorem dX8_but_14 : decode cX8_but 14 = .ok (.lconst 0, 1) := by decide +kernel
theorem dX8_but_15 : decode cX8_but 15 = .ok (.ldc2_w 79, 3) := by decide +kernel
theorem dX8_but_18 : decode cX8_but 18 = .ok (.invokestatic 71, 3) := by decide +kernel
theorem dX8_but_21 : decode cX8_but 21 = .ok (.ifCond .eq 10, 3) := by decide +kernel
theorem dX8_but_24 : decode cX8_but 24 = .ok (.iload_n 3, 1) := by decide +kernel
theorem dX8_but_25 : decode cX8_but 25 = .ok (.invokestatic 176, 3) := by decide +kernel
theorem dX8_but_28 : decode cX8_but 28 = .ok (.ifCond .ne 10, 3) := by decide +kernel
theorem dX8_but_31 : decode cX8_but 31 = .ok (.aload_n 0, 1) := by decide +kernel
theorem dX8_but_32 : decode cX8_but 32 = .ok (.ldc 64, 2) := by decide +kernel
theorem dX8_but_34 : decode cX8_but 34 = .ok (.invokevirtual 81, 3) := by decide +kernel
theorem dX8_but_37 : decode cX8_but 37 = .ok (.ireturn, 1) := by decide +kernel
theorem dX8_but_38 : decode cX8_but 38 = .ok (.aload_n 0, 1) := by decide +kernel
theorem dX8_but_39 : decode cX8_but 39 = .ok (.invokevirtual 179, 3) := by decide +kernel
theorem dX8_but_42 : decode cX8_but 42 = .ok (.aload_n 0, 1) := by decide +kernel
theorem dX8_but_43 : decode cX8_but 43 = .ok (.getfield 7, 3) := by decide +kernel
theorem dX8_but_46 : decode cX8_but 46 = .ok (.iconst 4, 1) := by decide +kernel
theorem dX8_but_47 : decode cX8_but 47 = .ok (.iload_n 1, 1) := by decide +kernel
theorem dX8_but_48 : decode cX8_but 48 = .ok (.iastore, 1) := by decide +kernel
theorem dX8_but_49 : decode cX8_but 49 = .ok (.aload_n 0, 1) := by decide +kernel
theorem dX8_but_50 : decode cX8_but 50 = .ok (.invokevirtual 153, 3) := by decide +kernel
theorem dX8_but_53 : decode cX8_but 53 = .ok (.aload_n 0, 1) := by decide +kernel
theorem dX8_but_54 : decode cX8_but 54 = .ok (.iload_n 2, 1) := by decide +kernel
theorem dX8_but_55 : decode cX8_but 55 = .ok (.iload_n 3, 1) := by decide +kernel
theorem dX8_but_56 : decode cX8_but 56 = .ok (.invokevirtual 198, 3) := by decide +kernel
theorem dX8_but_59 : decode cX8_but 59 = .ok (.istore 4, 2) := by decide +kernel
theorem dX8_but_61 : decode cX8_but 61 = .ok (.aload_n 0, 1) := by decide +kernel
theorem dX8_but_62 : decode cX8_but 62 = .ok (.invokevirtual 182, 3) := by decide +kernel
theorem dX8_but_65 : decode cX8_but 65 = .ok (.iload 4, 2) := by decide +kernel
theorem dX8_but_67 : decode cX8_but 67 = .ok (.ireturn, 1) := by decide +kernel
theorem dX8_vote_0 : decode cX8_vote 0 = .ok (.iconst (-1), 1) := by decide +kernel
theorem dX8_vote_1 : decode cX8_vote 1 = .ok (.istore_n 1, 1) := by decide +kernel
theorem dX8_vote_2 : decode cX8_vote 2 = .ok (.iconst 0, 1) := by decide +kernel
theorem dX8_vote_3 : decode cX8_vote 3 = .ok (.istore_n 2, 1) := by decide +kernel
theorem dX8_vote_4 : decode cX8_vote 4 = .ok (.iconst 0, 1) := by decide +kernel
theorem dX8_vote_5 : decode cX8_vote 5 = .ok (.istore_n 3, 1) := by decide +kernel
theorem dX8_vote_6 : decode cX8_vote 6 = .ok (.iload_n 3, 1) := by decide +kernel
theorem dX8_vote_7 : decode cX8_vote 7 = .ok (.aload_n 0, 1) := by decide +kernel
theorem dX8_vote_8 : decode cX8_vote 8 = .ok (.getfield 7, 3) := by decide +kernel
theorem dX8_vote_11 : decode cX8_vote 11 = .ok (.iconst 0, 1) := by decide +kernel
theorem dX8_vote_12 : decode cX8_vote 12 = .ok (.iaload, 1) := by decide +kernel
theorem dX8_vote_13 : decode cX8_vote 13 = .ok (.if_icmp .ge 80, 3) := by decide +kernel
theorem dX8_vote_16 : decode cX8_vote 16 = .ok (.aload_n 0, 1) := by decide +kernel
theorem dX8_vote_17 : decode cX8_vote 17 = .ok (.iload_n 3, 1) := by decide +kernel
theorem dX8_vote_18 : decode cX8_vote 18 = .ok (.invokevirtual 86, 3) := by decide +kernel
theorem dX8_vote_21 : decode cX8_vote 21 = .ok (.ifCond .eq 66, 3) := by decide +kernel
theorem dX8_vote_24 : decode cX8_vote 24 = .ok (.iconst 0, 1) := by decide +kernel
theorem dX8_vote_25 : decode cX8_vote 25 = .ok (.istore 4, 2) := by decide +kernel
theorem dX8_vote_27 : decode cX8_vote 27 = .ok (.iconst 0, 1) := by decide +kernel
theorem dX8_vote_28 : decode cX8_vote 28 = .ok (.istore 5, 2) := by decide +kernel
theorem dX8_vote_30 : decode cX8_vote 30 = .ok (.iload 5, 2) := by decide +kernel
theorem dX8_vote_32 : decode cX8_vote 32 = .ok (.aload_n 0, 1) := by decide +kernel
theorem dX8_vote_33 : decode cX8_vote 33 = .ok (.getfield 7, 3) := by decide +kernel
theorem dX8_vote_36 : decode cX8_vote 36 = .ok (.iconst 0, 1) := by decide +kernel
theorem dX8_vote_37 : decode cX8_vote 37 = .ok (.iaload, 1) := by decide +kernel
theorem dX8_vote_38 : decode cX8_vote 38 = .ok (.if_icmp .ge 34, 3) := by decide +kernel
theorem dX8_vote_41 : decode cX8_vote 41 = .ok (.iload 4, 2) := by decide +kernel
theorem dX8_vote_43 : decode cX8_vote 43 = .ok (.aload_n 0, 1) := by decide +kernel
theorem dX8_vote_44 : decode cX8_vote 44 = .ok (.iload 5, 2) := by decide +kernel
theorem dX8_vote_46 : decode cX8_vote 46 = .ok (.invokevirtual 86, 3) := by decide +kernel
theorem dX8_vote_49 : decode cX8_vote 49 = .ok (.ifCond .eq 13, 3) := by decide +kernel
theorem dX8_vote_52 : decode cX8_vote 52 = .ok (.aload_n 0, 1) := by decide +kernel
theorem dX8_vote_53 : decode cX8_vote 53 = .ok (.iload 5, 2) := by decide +kernel
theorem dX8_vote_55 : decode cX8_vote 55 = .ok (.iload_n 3, 1) := by decide +kernel
theorem dX8_vote_56 : decode cX8_vote 56 = .ok (.invokevirtual 105, 3) := by decide +kernel
theorem dX8_vote_59 : decode cX8_vote 59 = .ok (.goto 4, 3) := by decide +kernel
theorem dX8_vote_62 : decode cX8_vote 62 = .ok (.iconst 0, 1) := by decide +kernel
theorem dX8_vote_63 : decode cX8_vote 63 = .ok (.iadd, 1) := by decide +kernel
theorem dX8_vote_64 : decode cX8_vote 64 = .ok (.istore 4, 2) := by decide +kernel
theorem dX8_vote_66 : decode cX8_vote 66 = .ok (.iinc 5 1, 3) := by decide +kernel
theorem dX8_vote_69 : decode cX8_vote 69 = .ok (.goto (-39), 3) := by decide +kernel
theorem dX8_vote_72 : decode cX8_vote 72 = .ok (.iload_n 1, 1) := by decide +kernel
theorem dX8_vote_73 : decode cX8_vote 73 = .ok (.ifCond .lt 9, 3) := by decide +kernel
theorem dX8_vote_76 : decode cX8_vote 76 = .ok (.iload 4, 2) := by decide +kernel
theorem dX8_vote_78 : decode cX8_vote 78 = .ok (.iload_n 2, 1) := by decide +kernel
theorem dX8_vote_79 : decode cX8_vote 79 = .ok (.if_icmp .le 8, 3) := by decide +kernel
theorem dX8_vote_82 : decode cX8_vote 82 = .ok (.iload_n 3, 1) := by decide +kernel
theorem dX8_vote_83 : decode cX8_vote 83 = .ok (.istore_n 1, 1) := by decide +kernel
theorem dX8_vote_84 : decode cX8_vote 84 = .ok (.iload 4, 2) := by decide +kernel
theorem dX8_vote_86 : decode cX8_vote 86 = .ok (.istore_n 2, 1) := by decide +kernel
theorem dX8_vote_87 : decode cX8_vote 87 = .ok (.iinc 3 1, 3) := by decide +kernel
theorem dX8_vote_90 : decode cX8_vote 90 = .ok (.goto (-84), 3) := by decide +kernel
theorem dX8_vote_93 : decode cX8_vote 93 = .ok (.iload_n 1, 1) := by decide +kernel
theorem dX8_vote_94 : decode cX8_vote 94 = .ok (.ifCond .ge 12, 3) := by decide +kernel
theorem dX8_vote_97 : decode cX8_vote 97 = .ok (.aload_n 0, 1) := by decide +kernel
theorem dX8_vote_98 : decode cX8_vote 98 = .ok (.ldc 197, 2) := by decide +kernel
theorem dX8_vote_100 : decode cX8_vote 100 = .ok (.invokevirtual 81, 3) := by decide +kernel
theorem dX8_vote_103 : decode cX8_vote 103 = .ok (.goto 4, 3) := by decide +kernel
theorem dX8_vote_106 : decode cX8_vote 106 = .ok (.iload_n 1, 1) := by decide +kernel
theorem dX8_vote_107 : decode cX8_vote 107 = .ok (.ireturn, 1) := by decide +kernel
theorem dX8_keptBy_0 : decode cX8_keptBy 0 = .ok (.aload_n 0, 1) := by decide +kernel
theorem dX8_keptBy_1 : decode cX8_keptBy 1 = .ok (.invokevirtual 179, 3) := by decide +kernel
theorem dX8_keptBy_4 : decode cX8_keptBy 4 = .ok (.aload_n 0, 1) := by decide +kernel
theorem dX8_keptBy_5 : decode cX8_keptBy 5 = .ok (.aload_n 0, 1) := by decide +kernel
theorem dX8_keptBy_6 : decode cX8_keptBy 6 = .ok (.iload_n 1, 1) := by decide +kernel
theorem dX8_keptBy_7 : decode cX8_keptBy 7 = .ok (.iconst 2, 1) := by decide +kernel
theorem dX8_keptBy_8 : decode cX8_keptBy 8 = .ok (.invokevirtual 65, 3) := by decide +kernel
theorem dX8_keptBy_11 : decode cX8_keptBy 11 = .ok (.iload_n 3, 1) := by decide +kernel
theorem dX8_keptBy_12 : decode cX8_keptBy 12 = .ok (.invokevirtual 198, 3) := by decide +kernel
theorem dX8_keptBy_15 : decode cX8_keptBy 15 = .ok (.istore 4, 2) := by decide +kernel
theorem dX8_keptBy_17 : decode cX8_keptBy 17 = .ok (.aload_n 0, 1) := by decide +kernel
theorem dX8_keptBy_18 : decode cX8_keptBy 18 = .ok (.invokevirtual 182, 3) := by decide +kernel
theorem dX8_keptBy_21 : decode cX8_keptBy 21 = .ok (.aload_n 0, 1) := by decide +kernel
theorem dX8_keptBy_22 : decode cX8_keptBy 22 = .ok (.iload_n 1, 1) := by decide +kernel
theorem dX8_keptBy_23 : decode cX8_keptBy 23 = .ok (.putfield 32, 3) := by decide +kernel
theorem dX8_keptBy_26 : decode cX8_keptBy 26 = .ok (.aload_n 0, 1) := by decide +kernel
theorem dX8_keptBy_27 : decode cX8_keptBy 27 = .ok (.iload_n 2, 1) := by decide +kernel
theorem dX8_keptBy_28 : decode cX8_keptBy 28 = .ok (.putfield 36, 3) := by decide +kernel
theorem dX8_keptBy_31 : decode cX8_keptBy 31 = .ok (.aload_n 0, 1) := by decide +kernel
theorem dX8_keptBy_32 : decode cX8_keptBy 32 = .ok (.aload_n 0, 1) := by decide +kernel
theorem dX8_keptBy_33 : decode cX8_keptBy 33 = .ok (.iload_n 1, 1) := by decide +kernel
theorem dX8_keptBy_34 : decode cX8_keptBy 34 = .ok (.iconst 2, 1) := by decide +kernel
theorem dX8_keptBy_35 : decode cX8_keptBy 35 = .ok (.invokevirtual 65, 3) := by decide +kernel
theorem dX8_keptBy_38 : decode cX8_keptBy 38 = .ok (.iload_n 3, 1) := by decide +kernel
theorem dX8_keptBy_39 : decode cX8_keptBy 39 = .ok (.invokevirtual 198, 3) := by decide +kernel
theorem dX8_keptBy_42 : decode cX8_keptBy 42 = .ok (.istore 5, 2) := by decide +kernel
theorem dX8_keptBy_44 : decode cX8_keptBy 44 = .ok (.aload_n 0, 1) := by decide +kernel
theorem dX8_keptBy_45 : decode cX8_keptBy 45 = .ok (.iconst (-1), 1) := by decide +kernel
theorem dX8_keptBy_46 : decode cX8_keptBy 46 = .ok (.putfield 32, 3) := by decide +kernel
theorem dX8_keptBy_49 : decode cX8_keptBy 49 = .ok (.aload_n 0, 1) := by decide +kernel
theorem dX8_keptBy_50 : decode cX8_keptBy 50 = .ok (.iconst (-1), 1) := by decide +kernel
theorem dX8_keptBy_51 : decode cX8_keptBy 51 = .ok (.putfield 36, 3) := by decide +kernel
theorem dX8_keptBy_54 : decode cX8_keptBy 54 = .ok (.aload_n 0, 1) := by decide +kernel
theorem dX8_keptBy_55 : decode cX8_keptBy 55 = .ok (.invokevirtual 182, 3) := by decide +kernel
theorem dX8_keptBy_58 : decode cX8_keptBy 58 = .ok (.iload 5, 2) := by decide +kernel
theorem dX8_keptBy_60 : decode cX8_keptBy 60 = .ok (.iload 4, 2) := by decide +kernel
theorem dX8_keptBy_62 : decode cX8_keptBy 62 = .ok (.isub, 1) := by decide +kernel
theorem dX8_keptBy_63 : decode cX8_keptBy 63 = .ok (.ireturn, 1) := by decide +kernel
theorem dX8_kept_0 : decode cX8_kept 0 = .ok (.aload_n 0, 1) := by decide +kernel
theorem dX8_kept_1 : decode cX8_kept 1 = .ok (.iload_n 1, 1) := by decide +kernel
theorem dX8_kept_2 : decode cX8_kept 2 = .ok (.invokevirtual 121, 3) := by decide +kernel
theorem dX8_kept_5 : decode cX8_kept 5 = .ok (.ifCond .eq 23, 3) := by decide +kernel
theorem dX8_kept_8 : decode cX8_kept 8 = .ok (.aload_n 0, 1) := by decide +kernel
theorem dX8_kept_9 : decode cX8_kept 9 = .ok (.iload_n 2, 1) := by decide +kernel
theorem dX8_kept_10 : decode cX8_kept 10 = .ok (.invokevirtual 121, 3) := by decide +kernel
theorem dX8_kept_13 : decode cX8_kept 13 = .ok (.ifCond .eq 15, 3) := by decide +kernel
theorem dX8_kept_16 : decode cX8_kept 16 = .ok (.iload_n 1, 1) := by decide +kernel
theorem dX8_kept_17 : decode cX8_kept 17 = .ok (.iload_n 2, 1) := by decide +kernel
theorem dX8_kept_18 : decode cX8_kept 18 = .ok (.if_icmp .eq 10, 3) := by decide +kernel
theorem dX8_kept_21 : decode cX8_kept 21 = .ok (.iload_n 3, 1) := by decide +kernel
theorem dX8_kept_22 : decode cX8_kept 22 = .ok (.invokestatic 176, 3) := by decide +kernel
theorem dX8_kept_25 : decode cX8_kept 25 = .ok (.ifCond .ne 10, 3) := by decide +kernel
theorem dX8_kept_28 : decode cX8_kept 28 = .ok (.aload_n 0, 1) := by decide +kernel
theorem dX8_kept_29 : decode cX8_kept 29 = .ok (.ldc 64, 2) := by decide +kernel
theorem dX8_kept_31 : decode cX8_kept 31 = .ok (.invokevirtual 81, 3) := by decide +kernel
theorem dX8_kept_34 : decode cX8_kept 34 = .ok (.ireturn, 1) := by decide +kernel
theorem dX8_kept_35 : decode cX8_kept 35 = .ok (.aload_n 0, 1) := by decide +kernel
theorem dX8_kept_36 : decode cX8_kept 36 = .ok (.iload_n 1, 1) := by decide +kernel
theorem dX8_kept_37 : decode cX8_kept 37 = .ok (.invokevirtual 86, 3) := by decide +kernel
theorem dX8_kept_40 : decode cX8_kept 40 = .ok (.ifCond .eq 21, 3) := by decide +kernel
theorem dX8_kept_43 : decode cX8_kept 43 = .ok (.aload_n 0, 1) := by decide +kernel
theorem dX8_kept_44 : decode cX8_kept 44 = .ok (.iload_n 2, 1) := by decide +kernel
theorem dX8_kept_45 : decode cX8_kept 45 = .ok (.invokevirtual 86, 3) := by decide +kernel
theorem dX8_kept_48 : decode cX8_kept 48 = .ok (.ifCond .eq 13, 3) := by decide +kernel
theorem dX8_kept_51 : decode cX8_kept 51 = .ok (.aload_n 0, 1) := by decide +kernel
theorem dX8_kept_52 : decode cX8_kept 52 = .ok (.iload_n 1, 1) := by decide +kernel
theorem dX8_kept_53 : decode cX8_kept 53 = .ok (.iload_n 2, 1) := by decide +kernel
theorem dX8_kept_54 : decode cX8_kept 54 = .ok (.iload_n 3, 1) := by decide +kernel
theorem dX8_kept_55 : decode cX8_kept 55 = .ok (.invokevirtual 201, 3) := by decide +kernel
theorem dX8_kept_58 : decode cX8_kept 58 = .ok (.goto 9, 3) := by decide +kernel
theorem dX8_kept_61 : decode cX8_kept 61 = .ok (.aload_n 0, 1) := by decide +kernel
theorem dX8_kept_62 : decode cX8_kept 62 = .ok (.ldc 156, 2) := by decide +kernel
theorem dX8_kept_64 : decode cX8_kept 64 = .ok (.invokevirtual 81, 3) := by decide +kernel
theorem dX8_kept_67 : decode cX8_kept 67 = .ok (.ireturn, 1) := by decide +kernel
theorem dX8_pact_0 : decode cX8_pact 0 = .ok (.iload_n 1, 1) := by decide +kernel
theorem dX8_pact_1 : decode cX8_pact 1 = .ok (.i2l, 1) := by decide +kernel
theorem dX8_pact_2 : decode cX8_pact 2 = .ok (.lconst 1, 1) := by decide +kernel
theorem dX8_pact_3 : decode cX8_pact 3 = .ok (.ldc2_w 146, 3) := by decide +kernel
theorem dX8_pact_6 : decode cX8_pact 6 = .ok (.invokestatic 71, 3) := by decide +kernel
theorem dX8_pact_9 : decode cX8_pact 9 = .ok (.ifCond .ne 10, 3) := by decide +kernel
theorem dX8_pact_12 : decode cX8_pact 12 = .ok (.aload_n 0, 1) := by decide +kernel
theorem dX8_pact_13 : decode cX8_pact 13 = .ok (.ldc 64, 2) := by decide +kernel
theorem dX8_pact_15 : decode cX8_pact 15 = .ok (.invokevirtual 81, 3) := by decide +kernel
theorem dX8_pact_18 : decode cX8_pact 18 = .ok (.ireturn, 1) := by decide +kernel
theorem dX8_pact_19 : decode cX8_pact 19 = .ok (.iconst (-1), 1) := by decide +kernel
theorem dX8_pact_20 : decode cX8_pact 20 = .ok (.istore_n 2, 1) := by decide +kernel
theorem dX8_pact_21 : decode cX8_pact 21 = .ok (.iconst 0, 1) := by decide +kernel
theorem dX8_pact_22 : decode cX8_pact 22 = .ok (.istore_n 3, 1) := by decide +kernel
theorem dX8_pact_23 : decode cX8_pact 23 = .ok (.iconst 0, 1) := by decide +kernel
theorem dX8_pact_24 : decode cX8_pact 24 = .ok (.istore 4, 2) := by decide +kernel
theorem dX8_pact_26 : decode cX8_pact 26 = .ok (.iload 4, 2) := by decide +kernel
theorem dX8_pact_28 : decode cX8_pact 28 = .ok (.aload_n 0, 1) := by decide +kernel
theorem dX8_pact_29 : decode cX8_pact 29 = .ok (.getfield 7, 3) := by decide +kernel
theorem dX8_pact_32 : decode cX8_pact 32 = .ok (.iconst 0, 1) := by decide +kernel
theorem dX8_pact_33 : decode cX8_pact 33 = .ok (.iaload, 1) := by decide +kernel
theorem dX8_pact_34 : decode cX8_pact 34 = .ok (.if_icmp .ge 93, 3) := by decide +kernel
theorem dX8_pact_37 : decode cX8_pact 37 = .ok (.iload 4, 2) := by decide +kernel
theorem dX8_pact_39 : decode cX8_pact 39 = .ok (.iconst 1, 1) := by decide +kernel
theorem dX8_pact_40 : decode cX8_pact 40 = .ok (.iadd, 1) := by decide +kernel
theorem dX8_pact_41 : decode cX8_pact 41 = .ok (.istore 5, 2) := by decide +kernel
theorem dX8_pact_43 : decode cX8_pact 43 = .ok (.iload 5, 2) := by decide +kernel
theorem dX8_pact_45 : decode cX8_pact 45 = .ok (.aload_n 0, 1) := by decide +kernel
theorem dX8_pact_46 : decode cX8_pact 46 = .ok (.getfield 7, 3) := by decide +kernel
theorem dX8_pact_49 : decode cX8_pact 49 = .ok (.iconst 0, 1) := by decide +kernel
theorem dX8_pact_50 : decode cX8_pact 50 = .ok (.iaload, 1) := by decide +kernel
theorem dX8_pact_51 : decode cX8_pact 51 = .ok (.if_icmp .ge 70, 3) := by decide +kernel
theorem dX8_pact_54 : decode cX8_pact 54 = .ok (.aload_n 0, 1) := by decide +kernel
theorem dX8_pact_55 : decode cX8_pact 55 = .ok (.iload 4, 2) := by decide +kernel
theorem dX8_pact_57 : decode cX8_pact 57 = .ok (.invokevirtual 86, 3) := by decide +kernel
theorem dX8_pact_60 : decode cX8_pact 60 = .ok (.ifCond .eq 55, 3) := by decide +kernel
theorem dX8_pact_63 : decode cX8_pact 63 = .ok (.aload_n 0, 1) := by decide +kernel
theorem dX8_pact_64 : decode cX8_pact 64 = .ok (.iload 5, 2) := by decide +kernel
theorem dX8_pact_66 : decode cX8_pact 66 = .ok (.invokevirtual 86, 3) := by decide +kernel
theorem dX8_pact_69 : decode cX8_pact 69 = .ok (.ifCond .eq 46, 3) := by decide +kernel
theorem dX8_pact_72 : decode cX8_pact 72 = .ok (.aload_n 0, 1) := by decide +kernel
theorem dX8_pact_73 : decode cX8_pact 73 = .ok (.iload 4, 2) := by decide +kernel
theorem dX8_pact_75 : decode cX8_pact 75 = .ok (.iload 5, 2) := by decide +kernel
theorem dX8_pact_77 : decode cX8_pact 77 = .ok (.iload_n 1, 1) := by decide +kernel
theorem dX8_pact_78 : decode cX8_pact 78 = .ok (.invokevirtual 201, 3) := by decide +kernel
theorem dX8_pact_81 : decode cX8_pact 81 = .ok (.aload_n 0, 1) := by decide +kernel
theorem dX8_pact_82 : decode cX8_pact 82 = .ok (.iload 5, 2) := by decide +kernel
theorem dX8_pact_84 : decode cX8_pact 84 = .ok (.iload 4, 2) := by decide +kernel
theorem dX8_pact_86 : decode cX8_pact 86 = .ok (.iload_n 1, 1) := by decide +kernel
theorem dX8_pact_87 : decode cX8_pact 87 = .ok (.invokevirtual 201, 3) := by decide +kernel
theorem dX8_pact_90 : decode cX8_pact 90 = .ok (.iadd, 1) := by decide +kernel
theorem dX8_pact_91 : decode cX8_pact 91 = .ok (.istore 6, 2) := by decide +kernel
theorem dX8_pact_93 : decode cX8_pact 93 = .ok (.iload_n 2, 1) := by decide +kernel
theorem dX8_pact_94 : decode cX8_pact 94 = .ok (.ifCond .lt 9, 3) := by decide +kernel
theorem dX8_pact_97 : decode cX8_pact 97 = .ok (.iload 6, 2) := by decide +kernel
theorem dX8_pact_99 : decode cX8_pact 99 = .ok (.iload_n 3, 1) := by decide +kernel
theorem dX8_pact_100 : decode cX8_pact 100 = .ok (.if_icmp .le 15, 3) := by decide +kernel
theorem dX8_pact_103 : decode cX8_pact 103 = .ok (.bipush 10, 2) := by decide +kernel
theorem dX8_pact_105 : decode cX8_pact 105 = .ok (.iload 4, 2) := by decide +kernel
theorem dX8_pact_107 : decode cX8_pact 107 = .ok (.imul, 1) := by decide +kernel
theorem dX8_pact_108 : decode cX8_pact 108 = .ok (.iload 5, 2) := by decide +kernel
theorem dX8_pact_110 : decode cX8_pact 110 = .ok (.iadd, 1) := by decide +kernel
theorem dX8_pact_111 : decode cX8_pact 111 = .ok (.istore_n 2, 1) := by decide +kernel
theorem dX8_pact_112 : decode cX8_pact 112 = .ok (.iload 6, 2) := by decide +kernel
theorem dX8_pact_114 : decode cX8_pact 114 = .ok (.istore_n 3, 1) := by decide +kernel
theorem dX8_pact_115 : decode cX8_pact 115 = .ok (.iinc 5 1, 3) := by decide +kernel
theorem dX8_pact_118 : decode cX8_pact 118 = .ok (.goto (-75), 3) := by decide +kernel
theorem dX8_pact_121 : decode cX8_pact 121 = .ok (.iinc 4 1, 3) := by decide +kernel
theorem dX8_pact_124 : decode cX8_pact 124 = .ok (.goto (-98), 3) := by decide +kernel
theorem dX8_pact_127 : decode cX8_pact 127 = .ok (.iload_n 2, 1) := by decide +kernel
theorem dX8_pact_128 : decode cX8_pact 128 = .ok (.ifCond .ge 12, 3) := by decide +kernel
theorem dX8_pact_131 : decode cX8_pact 131 = .ok (.aload_n 0, 1) := by decide +kernel
theorem dX8_pact_132 : decode cX8_pact 132 = .ok (.ldc 197, 2) := by decide +kernel
theorem dX8_pact_134 : decode cX8_pact 134 = .ok (.invokevirtual 81, 3) := by decide +kernel
theorem dX8_pact_137 : decode cX8_pact 137 = .ok (.goto 4, 3) := by decide +kernel
theorem dX8_pact_140 : decode cX8_pact 140 = .ok (.iload_n 2, 1) := by decide +kernel
theorem dX8_pact_141 : decode cX8_pact 141 = .ok (.ireturn, 1) := by decide +kernel
theorem dX8_odds_0 : decode cX8_odds 0 = .ok (.aload_n 0, 1) := by decide +kernel
theorem dX8_odds_1 : decode cX8_odds 1 = .ok (.iload_n 1, 1) := by decide +kernel
theorem dX8_odds_2 : decode cX8_odds 2 = .ok (.invokevirtual 121, 3) := by decide +kernel
theorem dX8_odds_5 : decode cX8_odds 5 = .ok (.ifCond .eq 15, 3) := by decide +kernel
theorem dX8_odds_8 : decode cX8_odds 8 = .ok (.iload_n 2, 1) := by decide +kernel
theorem dX8_odds_9 : decode cX8_odds 9 = .ok (.i2l, 1) := by decide +kernel
theorem dX8_odds_10 : decode cX8_odds 10 = .ok (.lconst 1, 1) := by decide +kernel
theorem dX8_odds_11 : decode cX8_odds 11 = .ok (.ldc2_w 146, 3) := by decide +kernel
theorem dX8_odds_14 : decode cX8_odds 14 = .ok (.invokestatic 71, 3) := by decide +kernel
theorem dX8_odds_17 : decode cX8_odds 17 = .ok (.ifCond .ne 10, 3) := by decide +kernel
theorem dX8_odds_20 : decode cX8_odds 20 = .ok (.aload_n 0, 1) := by decide +kernel
theorem dX8_odds_21 : decode cX8_odds 21 = .ok (.ldc 64, 2) := by decide +kernel
theorem dX8_odds_23 : decode cX8_odds 23 = .ok (.invokevirtual 81, 3) := by decide +kernel
theorem dX8_odds_26 : decode cX8_odds 26 = .ok (.ireturn, 1) := by decide +kernel
theorem dX8_odds_27 : decode cX8_odds 27 = .ok (.aload_n 0, 1) := by decide +kernel
theorem dX8_odds_28 : decode cX8_odds 28 = .ok (.invokevirtual 179, 3) := by decide +kernel
theorem dX8_odds_31 : decode cX8_odds 31 = .ok (.iconst 0, 1) := by decide +kernel
theorem dX8_odds_32 : decode cX8_odds 32 = .ok (.istore_n 3, 1) := by decide +kernel
theorem dX8_odds_33 : decode cX8_odds 33 = .ok (.aload_n 0, 1) := by decide +kernel
theorem dX8_odds_34 : decode cX8_odds 34 = .ok (.getfield 7, 3) := by decide +kernel
theorem dX8_odds_37 : decode cX8_odds 37 = .ok (.iconst 3, 1) := by decide +kernel
theorem dX8_odds_38 : decode cX8_odds 38 = .ok (.iaload, 1) := by decide +kernel
theorem dX8_odds_39 : decode cX8_odds 39 = .ok (.istore 4, 2) := by decide +kernel
theorem dX8_odds_41 : decode cX8_odds 41 = .ok (.iconst 0, 1) := by decide +kernel
theorem dX8_odds_42 : decode cX8_odds 42 = .ok (.istore 5, 2) := by decide +kernel
theorem dX8_odds_44 : decode cX8_odds 44 = .ok (.iload 5, 2) := by decide +kernel
theorem dX8_odds_46 : decode cX8_odds 46 = .ok (.iload_n 2, 1) := by decide +kernel
theorem dX8_odds_47 : decode cX8_odds 47 = .ok (.if_icmp .ge 83, 3) := by decide +kernel
theorem dX8_odds_50 : decode cX8_odds 50 = .ok (.aload_n 0, 1) := by decide +kernel
theorem dX8_odds_51 : decode cX8_odds 51 = .ok (.getfield 7, 3) := by decide +kernel
theorem dX8_odds_54 : decode cX8_odds 54 = .ok (.iconst 3, 1) := by decide +kernel
theorem dX8_odds_55 : decode cX8_odds 55 = .ok (.iload 4, 2) := by decide +kernel
theorem dX8_odds_57 : decode cX8_odds 57 = .ok (.iastore, 1) := by decide +kernel
theorem dX8_odds_58 : decode cX8_odds 58 = .ok (.iconst 0, 1) := by decide +kernel
theorem dX8_odds_59 : decode cX8_odds 59 = .ok (.istore 6, 2) := by decide +kernel
theorem dX8_odds_61 : decode cX8_odds 61 = .ok (.iconst 0, 1) := by decide +kernel
theorem dX8_odds_62 : decode cX8_odds 62 = .ok (.istore 7, 2) := by decide +kernel
theorem dX8_odds_64 : decode cX8_odds 64 = .ok (.iload 7, 2) := by decide +kernel
theorem dX8_odds_66 : decode cX8_odds 66 = .ok (.sipush 200, 3) := by decide +kernel
theorem dX8_odds_69 : decode cX8_odds 69 = .ok (.if_icmp .ge 20, 3) := by decide +kernel
theorem dX8_odds_72 : decode cX8_odds 72 = .ok (.iload 6, 2) := by decide +kernel
theorem dX8_odds_74 : decode cX8_odds 74 = .ok (.ifCond .ne 15, 3) := by decide +kernel
theorem dX8_odds_77 : decode cX8_odds 77 = .ok (.aload_n 0, 1) := by decide +kernel
theorem dX8_odds_78 : decode cX8_odds 78 = .ok (.invokevirtual 170, 3) := by decide +kernel
theorem dX8_odds_81 : decode cX8_odds 81 = .ok (.istore 6, 2) := by decide +kernel
theorem dX8_odds_83 : decode cX8_odds 83 = .ok (.iinc 7 1, 3) := by decide +kernel
theorem dX8_odds_86 : decode cX8_odds 86 = .ok (.goto (-22), 3) := by decide +kernel
theorem dX8_odds_89 : decode cX8_odds 89 = .ok (.iload_n 3, 1) := by decide +kernel
theorem dX8_odds_90 : decode cX8_odds 90 = .ok (.iload 6, 2) := by decide +kernel
theorem dX8_odds_92 : decode cX8_odds 92 = .ok (.ifCond .eq 17, 3) := by decide +kernel
theorem dX8_odds_95 : decode cX8_odds 95 = .ok (.aload_n 0, 1) := by decide +kernel
theorem dX8_odds_96 : decode cX8_odds 96 = .ok (.getfield 7, 3) := by decide +kernel
theorem dX8_odds_99 : decode cX8_odds 99 = .ok (.iconst 1, 1) := by decide +kernel
theorem dX8_odds_100 : decode cX8_odds 100 = .ok (.iaload, 1) := by decide +kernel
theorem dX8_odds_101 : decode cX8_odds 101 = .ok (.iload_n 1, 1) := by decide +kernel
theorem dX8_odds_102 : decode cX8_odds 102 = .ok (.if_icmp .ne 7, 3) := by decide +kernel
theorem dX8_odds_105 : decode cX8_odds 105 = .ok (.iconst 1, 1) := by decide +kernel
theorem dX8_odds_106 : decode cX8_odds 106 = .ok (.goto 4, 3) := by decide +kernel
theorem dX8_odds_109 : decode cX8_odds 109 = .ok (.iconst 0, 1) := by decide +kernel
theorem dX8_odds_110 : decode cX8_odds 110 = .ok (.iadd, 1) := by decide +kernel
theorem dX8_odds_111 : decode cX8_odds 111 = .ok (.istore_n 3, 1) := by decide +kernel
theorem dX8_odds_112 : decode cX8_odds 112 = .ok (.aload_n 0, 1) := by decide +kernel
theorem dX8_odds_113 : decode cX8_odds 113 = .ok (.getfield 7, 3) := by decide +kernel
theorem dX8_odds_116 : decode cX8_odds 116 = .ok (.iconst 3, 1) := by decide +kernel
theorem dX8_odds_117 : decode cX8_odds 117 = .ok (.iaload, 1) := by decide +kernel
theorem dX8_odds_118 : decode cX8_odds 118 = .ok (.istore 4, 2) := by decide +kernel
theorem dX8_odds_120 : decode cX8_odds 120 = .ok (.aload_n 0, 1) := by decide +kernel
theorem dX8_odds_121 : decode cX8_odds 121 = .ok (.invokevirtual 182, 3) := by decide +kernel
theorem dX8_odds_124 : decode cX8_odds 124 = .ok (.iinc 5 1, 3) := by decide +kernel
theorem dX8_odds_127 : decode cX8_odds 127 = .ok (.goto (-83), 3) := by decide +kernel
theorem dX8_odds_130 : decode cX8_odds 130 = .ok (.iload_n 3, 1) := by decide +kernel
theorem dX8_odds_131 : decode cX8_odds 131 = .ok (.ireturn, 1) := by decide +kernel
theorem dX8_feed_0 : decode cX8_feed 0 = .ok (.iload_n 2, 1) := by decide +kernel
theorem dX8_feed_1 : decode cX8_feed 1 = .ok (.i2l, 1) := by decide +kernel
theorem dX8_feed_2 : decode cX8_feed 2 = .ok (.lconst 1, 1) := by decide +kernel
theorem dX8_feed_3 : decode cX8_feed 3 = .ok (.ldc2_w 144, 3) := by decide +kernel
theorem dX8_feed_6 : decode cX8_feed 6 = .ok (.invokestatic 71, 3) := by decide +kernel
theorem dX8_feed_9 : decode cX8_feed 9 = .ok (.ifCond .ne 10, 3) := by decide +kernel
theorem dX8_feed_12 : decode cX8_feed 12 = .ok (.aload_n 0, 1) := by decide +kernel
theorem dX8_feed_13 : decode cX8_feed 13 = .ok (.ldc 64, 2) := by decide +kernel
theorem dX8_feed_15 : decode cX8_feed 15 = .ok (.invokevirtual 81, 3) := by decide +kernel
theorem dX8_feed_18 : decode cX8_feed 18 = .ok (.ireturn, 1) := by decide +kernel
theorem dX8_feed_19 : decode cX8_feed 19 = .ok (.aload_n 0, 1) := by decide +kernel
theorem dX8_feed_20 : decode cX8_feed 20 = .ok (.getfield 204, 3) := by decide +kernel
theorem dX8_feed_23 : decode cX8_feed 23 = .ok (.iload_n 2, 1) := by decide +kernel
theorem dX8_feed_24 : decode cX8_feed 24 = .ok (.iadd, 1) := by decide +kernel
theorem dX8_feed_25 : decode cX8_feed 25 = .ok (.bipush 80, 2) := by decide +kernel
theorem dX8_feed_27 : decode cX8_feed 27 = .ok (.if_icmp .le 10, 3) := by decide +kernel
theorem dX8_feed_30 : decode cX8_feed 30 = .ok (.aload_n 0, 1) := by decide +kernel
theorem dX8_feed_31 : decode cX8_feed 31 = .ok (.ldc 85, 2) := by decide +kernel
theorem dX8_feed_33 : decode cX8_feed 33 = .ok (.invokevirtual 81, 3) := by decide +kernel
theorem dX8_feed_36 : decode cX8_feed 36 = .ok (.ireturn, 1) := by decide +kernel
theorem dX8_feed_37 : decode cX8_feed 37 = .ok (.iload_n 2, 1) := by decide +kernel
theorem dX8_feed_38 : decode cX8_feed 38 = .ok (.iconst 1, 1) := by decide +kernel
theorem dX8_feed_39 : decode cX8_feed 39 = .ok (.isub, 1) := by decide +kernel
theorem dX8_feed_40 : decode cX8_feed 40 = .ok (.istore_n 3, 1) := by decide +kernel
theorem dX8_feed_41 : decode cX8_feed 41 = .ok (.iload_n 3, 1) := by decide +kernel
theorem dX8_feed_42 : decode cX8_feed 42 = .ok (.ifCond .lt 38, 3) := by decide +kernel
theorem dX8_feed_45 : decode cX8_feed 45 = .ok (.aload_n 0, 1) := by decide +kernel
theorem dX8_feed_46 : decode cX8_feed 46 = .ok (.getfield 19, 3) := by decide +kernel
theorem dX8_feed_49 : decode cX8_feed 49 = .ok (.aload_n 0, 1) := by decide +kernel
theorem dX8_feed_50 : decode cX8_feed 50 = .ok (.getfield 204, 3) := by decide +kernel
theorem dX8_feed_53 : decode cX8_feed 53 = .ok (.iload_n 1, 1) := by decide +kernel
theorem dX8_feed_54 : decode cX8_feed 54 = .ok (.bipush 8, 2) := by decide +kernel
theorem dX8_feed_56 : decode cX8_feed 56 = .ok (.iload_n 3, 1) := by decide +kernel
theorem dX8_feed_57 : decode cX8_feed 57 = .ok (.imul, 1) := by decide +kernel
theorem dX8_feed_58 : decode cX8_feed 58 = .ok (.ishr, 1) := by decide +kernel
theorem dX8_feed_59 : decode cX8_feed 59 = .ok (.sipush 255, 3) := by decide +kernel
theorem dX8_feed_62 : decode cX8_feed 62 = .ok (.iand, 1) := by decide +kernel
theorem dX8_feed_63 : decode cX8_feed 63 = .ok (.iastore, 1) := by decide +kernel
theorem dX8_feed_64 : decode cX8_feed 64 = .ok (.aload_n 0, 1) := by decide +kernel
theorem dX8_feed_65 : decode cX8_feed 65 = .ok (.dup, 1) := by decide +kernel
theorem dX8_feed_66 : decode cX8_feed 66 = .ok (.getfield 204, 3) := by decide +kernel
theorem dX8_feed_69 : decode cX8_feed 69 = .ok (.iconst 1, 1) := by decide +kernel
theorem dX8_feed_70 : decode cX8_feed 70 = .ok (.iadd, 1) := by decide +kernel
theorem dX8_feed_71 : decode cX8_feed 71 = .ok (.putfield 204, 3) := by decide +kernel
theorem dX8_feed_74 : decode cX8_feed 74 = .ok (.iinc 3 (-1), 3) := by decide +kernel
theorem dX8_feed_77 : decode cX8_feed 77 = .ok (.goto (-36), 3) := by decide +kernel
theorem dX8_feed_80 : decode cX8_feed 80 = .ok (.aload_n 0, 1) := by decide +kernel
theorem dX8_feed_81 : decode cX8_feed 81 = .ok (.getfield 204, 3) := by decide +kernel
theorem dX8_feed_84 : decode cX8_feed 84 = .ok (.ireturn, 1) := by decide +kernel
theorem dX8_wipe_0 : decode cX8_wipe 0 = .ok (.aload_n 0, 1) := by decide +kernel
theorem dX8_wipe_1 : decode cX8_wipe 1 = .ok (.getfield 204, 3) := by decide +kernel
theorem dX8_wipe_4 : decode cX8_wipe 4 = .ok (.istore_n 1, 1) := by decide +kernel
theorem dX8_wipe_5 : decode cX8_wipe 5 = .ok (.aload_n 0, 1) := by decide +kernel
theorem dX8_wipe_6 : decode cX8_wipe 6 = .ok (.iconst 0, 1) := by decide +kernel
theorem dX8_wipe_7 : decode cX8_wipe 7 = .ok (.putfield 204, 3) := by decide +kernel
theorem dX8_wipe_10 : decode cX8_wipe 10 = .ok (.iload_n 1, 1) := by decide +kernel
theorem dX8_wipe_11 : decode cX8_wipe 11 = .ok (.ireturn, 1) := by decide +kernel
theorem dX8_nameOf_0 : decode cX8_nameOf 0 = .ok (.iload_n 0, 1) := by decide +kernel
theorem dX8_nameOf_1 : decode cX8_nameOf 1 = .ok (.bipush 108, 2) := by decide +kernel
theorem dX8_nameOf_3 : decode cX8_nameOf 3 = .ok (.if_icmp .ne 7, 3) := by decide +kernel
theorem dX8_nameOf_6 : decode cX8_nameOf 6 = .ok (.iconst 0, 1) := by decide +kernel
theorem dX8_nameOf_7 : decode cX8_nameOf 7 = .ok (.goto 54, 3) := by decide +kernel
theorem dX8_nameOf_10 : decode cX8_nameOf 10 = .ok (.iload_n 0, 1) := by decide +kernel
theorem dX8_nameOf_11 : decode cX8_nameOf 11 = .ok (.bipush 97, 2) := by decide +kernel
theorem dX8_nameOf_13 : decode cX8_nameOf 13 = .ok (.if_icmp .ne 7, 3) := by decide +kernel
theorem dX8_nameOf_16 : decode cX8_nameOf 16 = .ok (.iconst 1, 1) := by decide +kernel
theorem dX8_nameOf_17 : decode cX8_nameOf 17 = .ok (.goto 44, 3) := by decide +kernel
theorem dX8_nameOf_20 : decode cX8_nameOf 20 = .ok (.iload_n 0, 1) := by decide +kernel
theorem dX8_nameOf_21 : decode cX8_nameOf 21 = .ok (.bipush 115, 2) := by decide +kernel
theorem dX8_nameOf_23 : decode cX8_nameOf 23 = .ok (.if_icmp .ne 7, 3) := by decide +kernel
theorem dX8_nameOf_26 : decode cX8_nameOf 26 = .ok (.iconst 2, 1) := by decide +kernel
theorem dX8_nameOf_27 : decode cX8_nameOf 27 = .ok (.goto 34, 3) := by decide +kernel
theorem dX8_nameOf_30 : decode cX8_nameOf 30 = .ok (.iload_n 0, 1) := by decide +kernel
theorem dX8_nameOf_31 : decode cX8_nameOf 31 = .ok (.bipush 119, 2) := by decide +kernel
theorem dX8_nameOf_33 : decode cX8_nameOf 33 = .ok (.if_icmp .ne 7, 3) := by decide +kernel
theorem dX8_nameOf_36 : decode cX8_nameOf 36 = .ok (.iconst 3, 1) := by decide +kernel
theorem dX8_nameOf_37 : decode cX8_nameOf 37 = .ok (.goto 24, 3) := by decide +kernel
theorem dX8_nameOf_40 : decode cX8_nameOf 40 = .ok (.iload_n 0, 1) := by decide +kernel
theorem dX8_nameOf_41 : decode cX8_nameOf 41 = .ok (.bipush 114, 2) := by decide +kernel
theorem dX8_nameOf_43 : decode cX8_nameOf 43 = .ok (.if_icmp .ne 7, 3) := by decide +kernel
theorem dX8_nameOf_46 : decode cX8_nameOf 46 = .ok (.iconst 4, 1) := by decide +kernel
theorem dX8_nameOf_47 : decode cX8_nameOf 47 = .ok (.goto 14, 3) := by decide +kernel
theorem dX8_nameOf_50 : decode cX8_nameOf 50 = .ok (.iload_n 0, 1) := by decide +kernel
theorem dX8_nameOf_51 : decode cX8_nameOf 51 = .ok (.bipush 110, 2) := by decide +kernel
theorem dX8_nameOf_53 : decode cX8_nameOf 53 = .ok (.if_icmp .ne 7, 3) := by decide +kernel
theorem dX8_nameOf_56 : decode cX8_nameOf 56 = .ok (.iconst 5, 1) := by decide +kernel
theorem dX8_nameOf_57 : decode cX8_nameOf 57 = .ok (.goto 4, 3) := by decide +kernel
theorem dX8_nameOf_60 : decode cX8_nameOf 60 = .ok (.iconst (-1), 1) := by decide +kernel
theorem dX8_nameOf_61 : decode cX8_nameOf 61 = .ok (.ireturn, 1) := by decide +kernel
theorem dX8_binds_0 : decode cX8_binds 0 = .ok (.iload_n 0, 1) := by decide +kernel
theorem dX8_binds_1 : decode cX8_binds 1 = .ok (.lookupswitch 101 #[(37, 99), (38, 93), (42, 99), (43, 97), (45, 97), (47, 99), (60, 95), (61, 95), (62, 95), (124, 91)], 91) := by decide +kernel
theorem dX8_binds_92 : decode cX8_binds 92 = .ok (.iconst 1, 1) := by decide +kernel
theorem dX8_binds_93 : decode cX8_binds 93 = .ok (.ireturn, 1) := by decide +kernel
theorem dX8_binds_94 : decode cX8_binds 94 = .ok (.iconst 2, 1) := by decide +kernel
theorem dX8_binds_95 : decode cX8_binds 95 = .ok (.ireturn, 1) := by decide +kernel
theorem dX8_binds_96 : decode cX8_binds 96 = .ok (.iconst 3, 1) := by decide +kernel
theorem dX8_binds_97 : decode cX8_binds 97 = .ok (.ireturn, 1) := by decide +kernel
theorem dX8_binds_98 : decode cX8_binds 98 = .ok (.iconst 4, 1) := by decide +kernel
theorem dX8_binds_99 : decode cX8_binds 99 = .ok (.ireturn, 1) := by decide +kernel
theorem dX8_binds_100 : decode cX8_binds 100 = .ok (.iconst 5, 1) := by decide +kernel
theorem dX8_binds_101 : decode cX8_binds 101 = .ok (.ireturn, 1) := by decide +kernel
theorem dX8_binds_102 : decode cX8_binds 102 = .ok (.iconst 0, 1) := by decide +kernel
theorem dX8_binds_103 : decode cX8_binds 103 = .ok (.ireturn, 1) := by decide +kernel
theorem dX8_puts_0 : decode cX8_puts 0 = .ok (.aload_n 0, 1) := by decide +kernel
theorem dX8_puts_1 : decode cX8_puts 1 = .ok (.getfield 51, 3) := by decide +kernel
theorem dX8_puts_4 : decode cX8_puts 4 = .ok (.aload_n 0, 1) := by decide +kernel
theorem dX8_puts_5 : decode cX8_puts 5 = .ok (.getfield 207, 3) := by decide +kernel
theorem dX8_puts_8 : decode cX8_puts 8 = .ok (.iload_n 1, 1) := by decide +kernel
theorem dX8_puts_9 : decode cX8_puts 9 = .ok (.iastore, 1) := by decide +kernel
theorem dX8_puts_10 : decode cX8_puts 10 = .ok (.aload_n 0, 1) := by decide +kernel
theorem dX8_puts_11 : decode cX8_puts 11 = .ok (.dup, 1) := by decide +kernel
theorem dX8_puts_12 : decode cX8_puts 12 = .ok (.getfield 207, 3) := by decide +kernel
theorem dX8_puts_15 : decode cX8_puts 15 = .ok (.iconst 1, 1) := by decide +kernel
theorem dX8_puts_16 : decode cX8_puts 16 = .ok (.iadd, 1) := by decide +kernel
theorem dX8_puts_17 : decode cX8_puts 17 = .ok (.putfield 207, 3) := by decide +kernel
theorem dX8_puts_20 : decode cX8_puts 20 = .ok (.return_, 1) := by decide +kernel
theorem dX8_waits_0 : decode cX8_waits 0 = .ok (.aload_n 0, 1) := by decide +kernel
theorem dX8_waits_1 : decode cX8_waits 1 = .ok (.getfield 54, 3) := by decide +kernel
theorem dX8_waits_4 : decode cX8_waits 4 = .ok (.aload_n 0, 1) := by decide +kernel
theorem dX8_waits_5 : decode cX8_waits 5 = .ok (.getfield 210, 3) := by decide +kernel
theorem dX8_waits_8 : decode cX8_waits 8 = .ok (.iload_n 1, 1) := by decide +kernel
theorem dX8_waits_9 : decode cX8_waits 9 = .ok (.iastore, 1) := by decide +kernel
theorem dX8_waits_10 : decode cX8_waits 10 = .ok (.aload_n 0, 1) := by decide +kernel
theorem dX8_waits_11 : decode cX8_waits 11 = .ok (.dup, 1) := by decide +kernel
theorem dX8_waits_12 : decode cX8_waits 12 = .ok (.getfield 210, 3) := by decide +kernel
theorem dX8_waits_15 : decode cX8_waits 15 = .ok (.iconst 1, 1) := by decide +kernel
theorem dX8_waits_16 : decode cX8_waits 16 = .ok (.iadd, 1) := by decide +kernel
theorem dX8_waits_17 : decode cX8_waits 17 = .ok (.putfield 210, 3) := by decide +kernel
theorem dX8_waits_20 : decode cX8_waits 20 = .ok (.return_, 1) := by decide +kernel
theorem dX8_doneAhead_0 : decode cX8_doneAhead 0 = .ok (.aload_n 0, 1) := by decide +kernel
theorem dX8_doneAhead_1 : decode cX8_doneAhead 1 = .ok (.getfield 210, 3) := by decide +kernel
theorem dX8_doneAhead_4 : decode cX8_doneAhead 4 = .ok (.ifCond .le 71, 3) := by decide +kernel
theorem dX8_doneAhead_7 : decode cX8_doneAhead 7 = .ok (.aload_n 0, 1) := by decide +kernel
theorem dX8_doneAhead_8 : decode cX8_doneAhead 8 = .ok (.getfield 54, 3) := by decide +kernel
theorem dX8_doneAhead_11 : decode cX8_doneAhead 11 = .ok (.aload_n 0, 1) := by decide +kernel
theorem dX8_doneAhead_12 : decode cX8_doneAhead 12 = .ok (.getfield 210, 3) := by decide +kernel
theorem dX8_doneAhead_15 : decode cX8_doneAhead 15 = .ok (.iconst 1, 1) := by decide +kernel
theorem dX8_doneAhead_16 : decode cX8_doneAhead 16 = .ok (.isub, 1) := by decide +kernel
theorem dX8_doneAhead_17 : decode cX8_doneAhead 17 = .ok (.iaload, 1) := by decide +kernel
theorem dX8_doneAhead_18 : decode cX8_doneAhead 18 = .ok (.bipush (-20), 2) := by decide +kernel
theorem dX8_doneAhead_20 : decode cX8_doneAhead 20 = .ok (.if_icmp .eq 19, 3) := by decide +kernel
theorem dX8_doneAhead_23 : decode cX8_doneAhead 23 = .ok (.aload_n 0, 1) := by decide +kernel
theorem dX8_doneAhead_24 : decode cX8_doneAhead 24 = .ok (.getfield 54, 3) := by decide +kernel
theorem dX8_doneAhead_27 : decode cX8_doneAhead 27 = .ok (.aload_n 0, 1) := by decide +kernel
theorem dX8_doneAhead_28 : decode cX8_doneAhead 28 = .ok (.getfield 210, 3) := by decide +kernel
theorem dX8_doneAhead_31 : decode cX8_doneAhead 31 = .ok (.iconst 1, 1) := by decide +kernel
theorem dX8_doneAhead_32 : decode cX8_doneAhead 32 = .ok (.isub, 1) := by decide +kernel
theorem dX8_doneAhead_33 : decode cX8_doneAhead 33 = .ok (.iaload, 1) := by decide +kernel
theorem dX8_doneAhead_34 : decode cX8_doneAhead 34 = .ok (.bipush (-21), 2) := by decide +kernel
theorem dX8_doneAhead_36 : decode cX8_doneAhead 36 = .ok (.if_icmp .ne 39, 3) := by decide +kernel
theorem dX8_doneAhead_39 : decode cX8_doneAhead 39 = .ok (.aload_n 0, 1) := by decide +kernel
theorem dX8_doneAhead_40 : decode cX8_doneAhead 40 = .ok (.dup, 1) := by decide +kernel
theorem dX8_doneAhead_41 : decode cX8_doneAhead 41 = .ok (.getfield 210, 3) := by decide +kernel
theorem dX8_doneAhead_44 : decode cX8_doneAhead 44 = .ok (.iconst 1, 1) := by decide +kernel
theorem dX8_doneAhead_45 : decode cX8_doneAhead 45 = .ok (.isub, 1) := by decide +kernel
theorem dX8_doneAhead_46 : decode cX8_doneAhead 46 = .ok (.putfield 210, 3) := by decide +kernel
theorem dX8_doneAhead_49 : decode cX8_doneAhead 49 = .ok (.aload_n 0, 1) := by decide +kernel
theorem dX8_doneAhead_50 : decode cX8_doneAhead 50 = .ok (.aload_n 0, 1) := by decide +kernel
theorem dX8_doneAhead_51 : decode cX8_doneAhead 51 = .ok (.getfield 54, 3) := by decide +kernel
theorem dX8_doneAhead_54 : decode cX8_doneAhead 54 = .ok (.aload_n 0, 1) := by decide +kernel
theorem dX8_doneAhead_55 : decode cX8_doneAhead 55 = .ok (.getfield 210, 3) := by decide +kernel
theorem dX8_doneAhead_58 : decode cX8_doneAhead 58 = .ok (.iaload, 1) := by decide +kernel
theorem dX8_doneAhead_59 : decode cX8_doneAhead 59 = .ok (.invokevirtual 213, 3) := by decide +kernel
theorem dX8_doneAhead_62 : decode cX8_doneAhead 62 = .ok (.aload_n 0, 1) := by decide +kernel
theorem dX8_doneAhead_63 : decode cX8_doneAhead 63 = .ok (.dup, 1) := by decide +kernel
theorem dX8_doneAhead_64 : decode cX8_doneAhead 64 = .ok (.getfield 216, 3) := by decide +kernel
theorem dX8_doneAhead_67 : decode cX8_doneAhead 67 = .ok (.iconst 1, 1) := by decide +kernel
theorem dX8_doneAhead_68 : decode cX8_doneAhead 68 = .ok (.isub, 1) := by decide +kernel
theorem dX8_doneAhead_69 : decode cX8_doneAhead 69 = .ok (.putfield 216, 3) := by decide +kernel
theorem dX8_doneAhead_72 : decode cX8_doneAhead 72 = .ok (.goto (-72), 3) := by decide +kernel
theorem dX8_doneAhead_75 : decode cX8_doneAhead 75 = .ok (.return_, 1) := by decide +kernel
theorem dX8_doneBy_0 : decode cX8_doneBy 0 = .ok (.aload_n 0, 1) := by decide +kernel
theorem dX8_doneBy_1 : decode cX8_doneBy 1 = .ok (.getfield 210, 3) := by decide +kernel
theorem dX8_doneBy_4 : decode cX8_doneBy 4 = .ok (.ifCond .le 65, 3) := by decide +kernel
theorem dX8_doneBy_7 : decode cX8_doneBy 7 = .ok (.aload_n 0, 1) := by decide +kernel
theorem dX8_doneBy_8 : decode cX8_doneBy 8 = .ok (.getfield 54, 3) := by decide +kernel
theorem dX8_doneBy_11 : decode cX8_doneBy 11 = .ok (.aload_n 0, 1) := by decide +kernel
theorem dX8_doneBy_12 : decode cX8_doneBy 12 = .ok (.getfield 210, 3) := by decide +kernel
theorem dX8_doneBy_15 : decode cX8_doneBy 15 = .ok (.iconst 1, 1) := by decide +kernel
theorem dX8_doneBy_16 : decode cX8_doneBy 16 = .ok (.isub, 1) := by decide +kernel
theorem dX8_doneBy_17 : decode cX8_doneBy 17 = .ok (.iaload, 1) := by decide +kernel
theorem dX8_doneBy_18 : decode cX8_doneBy 18 = .ok (.ifCond .le 51, 3) := by decide +kernel
theorem dX8_doneBy_21 : decode cX8_doneBy 21 = .ok (.aload_n 0, 1) := by decide +kernel
theorem dX8_doneBy_22 : decode cX8_doneBy 22 = .ok (.getfield 54, 3) := by decide +kernel
theorem dX8_doneBy_25 : decode cX8_doneBy 25 = .ok (.aload_n 0, 1) := by decide +kernel
theorem dX8_doneBy_26 : decode cX8_doneBy 26 = .ok (.getfield 210, 3) := by decide +kernel
theorem dX8_doneBy_29 : decode cX8_doneBy 29 = .ok (.iconst 1, 1) := by decide +kernel
theorem dX8_doneBy_30 : decode cX8_doneBy 30 = .ok (.isub, 1) := by decide +kernel
theorem dX8_doneBy_31 : decode cX8_doneBy 31 = .ok (.iaload, 1) := by decide +kernel
theorem dX8_doneBy_32 : decode cX8_doneBy 32 = .ok (.invokestatic 219, 3) := by decide +kernel
theorem dX8_doneBy_35 : decode cX8_doneBy 35 = .ok (.iload_n 1, 1) := by decide +kernel
theorem dX8_doneBy_36 : decode cX8_doneBy 36 = .ok (.if_icmp .lt 33, 3) := by decide +kernel
theorem dX8_doneBy_39 : decode cX8_doneBy 39 = .ok (.aload_n 0, 1) := by decide +kernel
theorem dX8_doneBy_40 : decode cX8_doneBy 40 = .ok (.dup, 1) := by decide +kernel
theorem dX8_doneBy_41 : decode cX8_doneBy 41 = .ok (.getfield 210, 3) := by decide +kernel
theorem dX8_doneBy_44 : decode cX8_doneBy 44 = .ok (.iconst 1, 1) := by decide +kernel
theorem dX8_doneBy_45 : decode cX8_doneBy 45 = .ok (.isub, 1) := by decide +kernel
theorem dX8_doneBy_46 : decode cX8_doneBy 46 = .ok (.putfield 210, 3) := by decide +kernel
theorem dX8_doneBy_49 : decode cX8_doneBy 49 = .ok (.aload_n 0, 1) := by decide +kernel
theorem dX8_doneBy_50 : decode cX8_doneBy 50 = .ok (.sipush 10000, 3) := by decide +kernel
theorem dX8_doneBy_53 : decode cX8_doneBy 53 = .ok (.aload_n 0, 1) := by decide +kernel
theorem dX8_doneBy_54 : decode cX8_doneBy 54 = .ok (.getfield 54, 3) := by decide +kernel
theorem dX8_doneBy_57 : decode cX8_doneBy 57 = .ok (.aload_n 0, 1) := by decide +kernel
theorem dX8_doneBy_58 : decode cX8_doneBy 58 = .ok (.getfield 210, 3) := by decide +kernel
theorem dX8_doneBy_61 : decode cX8_doneBy 61 = .ok (.iaload, 1) := by decide +kernel
theorem dX8_doneBy_62 : decode cX8_doneBy 62 = .ok (.iadd, 1) := by decide +kernel
theorem dX8_doneBy_63 : decode cX8_doneBy 63 = .ok (.invokevirtual 213, 3) := by decide +kernel
theorem dX8_doneBy_66 : decode cX8_doneBy 66 = .ok (.goto (-66), 3) := by decide +kernel
theorem dX8_doneBy_69 : decode cX8_doneBy 69 = .ok (.return_, 1) := by decide +kernel
theorem dX8_isSignRead_0 : decode cX8_isSignRead 0 = .ok (.iload_n 1, 1) := by decide +kernel
theorem dX8_isSignRead_1 : decode cX8_isSignRead 1 = .ok (.invokestatic 219, 3) := by decide +kernel
theorem dX8_isSignRead_4 : decode cX8_isSignRead 4 = .ok (.istore_n 2, 1) := by decide +kernel
theorem dX8_isSignRead_5 : decode cX8_isSignRead 5 = .ok (.iload_n 1, 1) := by decide +kernel
theorem dX8_isSignRead_6 : decode cX8_isSignRead 6 = .ok (.bipush 41, 2) := by decide +kernel
theorem dX8_isSignRead_8 : decode cX8_isSignRead 8 = .ok (.if_icmp .ne 53, 3) := by decide +kernel
theorem dX8_isSignRead_11 : decode cX8_isSignRead 11 = .ok (.aload_n 0, 1) := by decide +kernel
theorem dX8_isSignRead_12 : decode cX8_isSignRead 12 = .ok (.getfield 222, 3) := by decide +kernel
theorem dX8_isSignRead_15 : decode cX8_isSignRead 15 = .ok (.ifCond .ne 5, 3) := by decide +kernel
theorem dX8_isSignRead_18 : decode cX8_isSignRead 18 = .ok (.iconst 0, 1) := by decide +kernel
theorem dX8_isSignRead_19 : decode cX8_isSignRead 19 = .ok (.ireturn, 1) := by decide +kernel
theorem dX8_isSignRead_20 : decode cX8_isSignRead 20 = .ok (.aload_n 0, 1) := by decide +kernel
theorem dX8_isSignRead_21 : decode cX8_isSignRead 21 = .ok (.iconst 1, 1) := by decide +kernel
theorem dX8_isSignRead_22 : decode cX8_isSignRead 22 = .ok (.invokevirtual 225, 3) := by decide +kernel
theorem dX8_isSignRead_25 : decode cX8_isSignRead 25 = .ok (.aload_n 0, 1) := by decide +kernel
theorem dX8_isSignRead_26 : decode cX8_isSignRead 26 = .ok (.dup, 1) := by decide +kernel
theorem dX8_isSignRead_27 : decode cX8_isSignRead 27 = .ok (.getfield 210, 3) := by decide +kernel
theorem dX8_isSignRead_30 : decode cX8_isSignRead 30 = .ok (.iconst 1, 1) := by decide +kernel
theorem dX8_isSignRead_31 : decode cX8_isSignRead 31 = .ok (.isub, 1) := by decide +kernel
theorem dX8_isSignRead_32 : decode cX8_isSignRead 32 = .ok (.putfield 210, 3) := by decide +kernel
theorem dX8_isSignRead_35 : decode cX8_isSignRead 35 = .ok (.aload_n 0, 1) := by decide +kernel
theorem dX8_isSignRead_36 : decode cX8_isSignRead 36 = .ok (.dup, 1) := by decide +kernel
theorem dX8_isSignRead_37 : decode cX8_isSignRead 37 = .ok (.getfield 222, 3) := by decide +kernel
theorem dX8_isSignRead_40 : decode cX8_isSignRead 40 = .ok (.iconst 1, 1) := by decide +kernel
theorem dX8_isSignRead_41 : decode cX8_isSignRead 41 = .ok (.isub, 1) := by decide +kernel
theorem dX8_isSignRead_42 : decode cX8_isSignRead 42 = .ok (.putfield 222, 3) := by decide +kernel
theorem dX8_isSignRead_45 : decode cX8_isSignRead 45 = .ok (.aload_n 0, 1) := by decide +kernel
theorem dX8_isSignRead_46 : decode cX8_isSignRead 46 = .ok (.dup, 1) := by decide +kernel
theorem dX8_isSignRead_47 : decode cX8_isSignRead 47 = .ok (.getfield 216, 3) := by decide +kernel
theorem dX8_isSignRead_50 : decode cX8_isSignRead 50 = .ok (.iconst 1, 1) := by decide +kernel
theorem dX8_isSignRead_51 : decode cX8_isSignRead 51 = .ok (.isub, 1) := by decide +kernel
theorem dX8_isSignRead_52 : decode cX8_isSignRead 52 = .ok (.putfield 216, 3) := by decide +kernel
theorem dX8_isSignRead_55 : decode cX8_isSignRead 55 = .ok (.aload_n 0, 1) := by decide +kernel
theorem dX8_isSignRead_56 : decode cX8_isSignRead 56 = .ok (.invokevirtual 228, 3) := by decide +kernel
theorem dX8_isSignRead_59 : decode cX8_isSignRead 59 = .ok (.iconst 1, 1) := by decide +kernel
theorem dX8_isSignRead_60 : decode cX8_isSignRead 60 = .ok (.ireturn, 1) := by decide +kernel
theorem dX8_isSignRead_61 : decode cX8_isSignRead 61 = .ok (.iload_n 2, 1) := by decide +kernel
theorem dX8_isSignRead_62 : decode cX8_isSignRead 62 = .ok (.ifCond .eq 20, 3) := by decide +kernel
theorem dX8_isSignRead_65 : decode cX8_isSignRead 65 = .ok (.iload_n 2, 1) := by decide +kernel
theorem dX8_isSignRead_66 : decode cX8_isSignRead 66 = .ok (.iconst 3, 1) := by decide +kernel
theorem dX8_isSignRead_67 : decode cX8_isSignRead 67 = .ok (.if_icmp .ne 17, 3) := by decide +kernel
theorem dX8_isSignRead_70 : decode cX8_isSignRead 70 = .ok (.aload_n 0, 1) := by decide +kernel
theorem dX8_isSignRead_71 : decode cX8_isSignRead 71 = .ok (.getfield 57, 3) := by decide +kernel
theorem dX8_isSignRead_74 : decode cX8_isSignRead 74 = .ok (.aload_n 0, 1) := by decide +kernel
theorem dX8_isSignRead_75 : decode cX8_isSignRead 75 = .ok (.getfield 222, 3) := by decide +kernel
theorem dX8_isSignRead_78 : decode cX8_isSignRead 78 = .ok (.baload, 1) := by decide +kernel
theorem dX8_isSignRead_79 : decode cX8_isSignRead 79 = .ok (.ifCond .eq 5, 3) := by decide +kernel
theorem dX8_isSignRead_82 : decode cX8_isSignRead 82 = .ok (.iconst 0, 1) := by decide +kernel
theorem dX8_isSignRead_83 : decode cX8_isSignRead 83 = .ok (.ireturn, 1) := by decide +kernel
theorem dX8_isSignRead_84 : decode cX8_isSignRead 84 = .ok (.aload_n 0, 1) := by decide +kernel
theorem dX8_isSignRead_85 : decode cX8_isSignRead 85 = .ok (.getfield 57, 3) := by decide +kernel
theorem dX8_isSignRead_88 : decode cX8_isSignRead 88 = .ok (.aload_n 0, 1) := by decide +kernel
theorem dX8_isSignRead_89 : decode cX8_isSignRead 89 = .ok (.getfield 222, 3) := by decide +kernel
theorem dX8_isSignRead_92 : decode cX8_isSignRead 92 = .ok (.iload_n 2, 1) := by decide +kernel
theorem dX8_isSignRead_93 : decode cX8_isSignRead 93 = .ok (.iconst 3, 1) := by decide +kernel
theorem dX8_isSignRead_94 : decode cX8_isSignRead 94 = .ok (.if_icmp .eq 20, 3) := by decide +kernel
theorem dX8_isSignRead_97 : decode cX8_isSignRead 97 = .ok (.iload_n 2, 1) := by decide +kernel
theorem dX8_isSignRead_98 : decode cX8_isSignRead 98 = .ok (.iconst 3, 1) := by decide +kernel
theorem dX8_isSignRead_99 : decode cX8_isSignRead 99 = .ok (.if_icmp .le 19, 3) := by decide +kernel
theorem dX8_isSignRead_102 : decode cX8_isSignRead 102 = .ok (.aload_n 0, 1) := by decide +kernel
theorem dX8_isSignRead_103 : decode cX8_isSignRead 103 = .ok (.getfield 57, 3) := by decide +kernel
theorem dX8_isSignRead_106 : decode cX8_isSignRead 106 = .ok (.aload_n 0, 1) := by decide +kernel
theorem dX8_isSignRead_107 : decode cX8_isSignRead 107 = .ok (.getfield 222, 3) := by decide +kernel
theorem dX8_isSignRead_110 : decode cX8_isSignRead 110 = .ok (.baload, 1) := by decide +kernel
theorem dX8_isSignRead_111 : decode cX8_isSignRead 111 = .ok (.ifCond .eq 7, 3) := by decide +kernel
theorem dX8_isSignRead_114 : decode cX8_isSignRead 114 = .ok (.iconst 1, 1) := by decide +kernel
theorem dX8_isSignRead_115 : decode cX8_isSignRead 115 = .ok (.goto 4, 3) := by decide +kernel
theorem dX8_isSignRead_118 : decode cX8_isSignRead 118 = .ok (.iconst 0, 1) := by decide +kernel
theorem dX8_isSignRead_119 : decode cX8_isSignRead 119 = .ok (.bastore, 1) := by decide +kernel
theorem dX8_isSignRead_120 : decode cX8_isSignRead 120 = .ok (.aload_n 0, 1) := by decide +kernel
theorem dX8_isSignRead_121 : decode cX8_isSignRead 121 = .ok (.iload_n 2, 1) := by decide +kernel
theorem dX8_isSignRead_122 : decode cX8_isSignRead 122 = .ok (.invokevirtual 225, 3) := by decide +kernel
theorem dX8_isSignRead_125 : decode cX8_isSignRead 125 = .ok (.aload_n 0, 1) := by decide +kernel
theorem dX8_isSignRead_126 : decode cX8_isSignRead 126 = .ok (.iload_n 1, 1) := by decide +kernel
theorem dX8_isSignRead_127 : decode cX8_isSignRead 127 = .ok (.invokevirtual 231, 3) := by decide +kernel
theorem dX8_isSignRead_130 : decode cX8_isSignRead 130 = .ok (.iconst 1, 1) := by decide +kernel
theorem dX8_isSignRead_131 : decode cX8_isSignRead 131 = .ok (.ireturn, 1) := by decide +kernel
theorem dX8_isOpenRead_0 : decode cX8_isOpenRead 0 = .ok (.aload_n 0, 1) := by decide +kernel
theorem dX8_isOpenRead_1 : decode cX8_isOpenRead 1 = .ok (.getfield 216, 3) := by decide +kernel
theorem dX8_isOpenRead_4 : decode cX8_isOpenRead 4 = .ok (.iconst 5, 1) := by decide +kernel
theorem dX8_isOpenRead_5 : decode cX8_isOpenRead 5 = .ok (.if_icmp .ne 5, 3) := by decide +kernel
theorem dX8_isOpenRead_8 : decode cX8_isOpenRead 8 = .ok (.iconst 0, 1) := by decide +kernel
theorem dX8_isOpenRead_9 : decode cX8_isOpenRead 9 = .ok (.ireturn, 1) := by decide +kernel
theorem dX8_isOpenRead_10 : decode cX8_isOpenRead 10 = .ok (.aload_n 0, 1) := by decide +kernel
theorem dX8_isOpenRead_11 : decode cX8_isOpenRead 11 = .ok (.dup, 1) := by decide +kernel
theorem dX8_isOpenRead_12 : decode cX8_isOpenRead 12 = .ok (.getfield 216, 3) := by decide +kernel
theorem dX8_isOpenRead_15 : decode cX8_isOpenRead 15 = .ok (.iconst 1, 1) := by decide +kernel
theorem dX8_isOpenRead_16 : decode cX8_isOpenRead 16 = .ok (.iadd, 1) := by decide +kernel
theorem dX8_isOpenRead_17 : decode cX8_isOpenRead 17 = .ok (.putfield 216, 3) := by decide +kernel
theorem dX8_isOpenRead_20 : decode cX8_isOpenRead 20 = .ok (.aload_n 0, 1) := by decide +kernel
theorem dX8_isOpenRead_21 : decode cX8_isOpenRead 21 = .ok (.iload_n 1, 1) := by decide +kernel
theorem dX8_isOpenRead_22 : decode cX8_isOpenRead 22 = .ok (.bipush 33, 2) := by decide +kernel
theorem dX8_isOpenRead_24 : decode cX8_isOpenRead 24 = .ok (.if_icmp .ne 8, 3) := by decide +kernel
theorem dX8_isOpenRead_27 : decode cX8_isOpenRead 27 = .ok (.bipush (-20), 2) := by decide +kernel
theorem dX8_isOpenRead_29 : decode cX8_isOpenRead 29 = .ok (.goto 16, 3) := by decide +kernel
theorem dX8_isOpenRead_32 : decode cX8_isOpenRead 32 = .ok (.iload_n 1, 1) := by decide +kernel
theorem dX8_isOpenRead_33 : decode cX8_isOpenRead 33 = .ok (.bipush 45, 2) := by decide +kernel
theorem dX8_isOpenRead_35 : decode cX8_isOpenRead 35 = .ok (.if_icmp .ne 8, 3) := by decide +kernel
theorem dX8_isOpenRead_38 : decode cX8_isOpenRead 38 = .ok (.bipush (-21), 2) := by decide +kernel
theorem dX8_isOpenRead_40 : decode cX8_isOpenRead 40 = .ok (.goto 5, 3) := by decide +kernel
theorem dX8_isOpenRead_43 : decode cX8_isOpenRead 43 = .ok (.bipush (-22), 2) := by decide +kernel
theorem dX8_isOpenRead_45 : decode cX8_isOpenRead 45 = .ok (.invokevirtual 231, 3) := by decide +kernel
theorem dX8_isOpenRead_48 : decode cX8_isOpenRead 48 = .ok (.iload_n 1, 1) := by decide +kernel
theorem dX8_isOpenRead_49 : decode cX8_isOpenRead 49 = .ok (.bipush 40, 2) := by decide +kernel
theorem dX8_isOpenRead_51 : decode cX8_isOpenRead 51 = .ok (.if_icmp .ne 23, 3) := by decide +kernel
theorem dX8_isOpenRead_54 : decode cX8_isOpenRead 54 = .ok (.aload_n 0, 1) := by decide +kernel
theorem dX8_isOpenRead_55 : decode cX8_isOpenRead 55 = .ok (.dup, 1) := by decide +kernel
theorem dX8_isOpenRead_56 : decode cX8_isOpenRead 56 = .ok (.getfield 222, 3) := by decide +kernel
theorem dX8_isOpenRead_59 : decode cX8_isOpenRead 59 = .ok (.iconst 1, 1) := by decide +kernel
theorem dX8_isOpenRead_60 : decode cX8_isOpenRead 60 = .ok (.iadd, 1) := by decide +kernel
theorem dX8_isOpenRead_61 : decode cX8_isOpenRead 61 = .ok (.putfield 222, 3) := by decide +kernel
theorem dX8_isOpenRead_64 : decode cX8_isOpenRead 64 = .ok (.aload_n 0, 1) := by decide +kernel
theorem dX8_isOpenRead_65 : decode cX8_isOpenRead 65 = .ok (.getfield 57, 3) := by decide +kernel
theorem dX8_isOpenRead_68 : decode cX8_isOpenRead 68 = .ok (.aload_n 0, 1) := by decide +kernel
theorem dX8_isOpenRead_69 : decode cX8_isOpenRead 69 = .ok (.getfield 222, 3) := by decide +kernel
theorem dX8_isOpenRead_72 : decode cX8_isOpenRead 72 = .ok (.iconst 0, 1) := by decide +kernel
theorem dX8_isOpenRead_73 : decode cX8_isOpenRead 73 = .ok (.bastore, 1) := by decide +kernel
theorem dX8_isOpenRead_74 : decode cX8_isOpenRead 74 = .ok (.iconst 1, 1) := by decide +kernel
theorem dX8_isOpenRead_75 : decode cX8_isOpenRead 75 = .ok (.ireturn, 1) := by decide +kernel
theorem dX8_text_0 : decode cX8_text 0 = .ok (.aload_n 0, 1) := by decide +kernel
theorem dX8_text_1 : decode cX8_text 1 = .ok (.getfield 204, 3) := by decide +kernel
theorem dX8_text_4 : decode cX8_text 4 = .ok (.istore_n 1, 1) := by decide +kernel
theorem dX8_text_5 : decode cX8_text 5 = .ok (.aload_n 0, 1) := by decide +kernel
theorem dX8_text_6 : decode cX8_text 6 = .ok (.iconst 0, 1) := by decide +kernel
theorem dX8_text_7 : decode cX8_text 7 = .ok (.putfield 204, 3) := by decide +kernel
theorem dX8_text_10 : decode cX8_text 10 = .ok (.aload_n 0, 1) := by decide +kernel
theorem dX8_text_11 : decode cX8_text 11 = .ok (.iconst 0, 1) := by decide +kernel
theorem dX8_text_12 : decode cX8_text 12 = .ok (.putfield 207, 3) := by decide +kernel
theorem dX8_text_15 : decode cX8_text 15 = .ok (.aload_n 0, 1) := by decide +kernel
theorem dX8_text_16 : decode cX8_text 16 = .ok (.iconst 0, 1) := by decide +kernel
theorem dX8_text_17 : decode cX8_text 17 = .ok (.putfield 210, 3) := by decide +kernel
theorem dX8_text_20 : decode cX8_text 20 = .ok (.aload_n 0, 1) := by decide +kernel
theorem dX8_text_21 : decode cX8_text 21 = .ok (.iconst 0, 1) := by decide +kernel
theorem dX8_text_22 : decode cX8_text 22 = .ok (.putfield 222, 3) := by decide +kernel
theorem dX8_text_25 : decode cX8_text 25 = .ok (.aload_n 0, 1) := by decide +kernel
theorem dX8_text_26 : decode cX8_text 26 = .ok (.iconst 0, 1) := by decide +kernel
theorem dX8_text_27 : decode cX8_text 27 = .ok (.putfield 216, 3) := by decide +kernel
theorem dX8_text_30 : decode cX8_text 30 = .ok (.aload_n 0, 1) := by decide +kernel
theorem dX8_text_31 : decode cX8_text 31 = .ok (.getfield 57, 3) := by decide +kernel
theorem dX8_text_34 : decode cX8_text 34 = .ok (.iconst 0, 1) := by decide +kernel
theorem dX8_text_35 : decode cX8_text 35 = .ok (.iconst 0, 1) := by decide +kernel
theorem dX8_text_36 : decode cX8_text 36 = .ok (.bastore, 1) := by decide +kernel
theorem dX8_text_37 : decode cX8_text 37 = .ok (.iconst 0, 1) := by decide +kernel
theorem dX8_text_38 : decode cX8_text 38 = .ok (.istore_n 2, 1) := by decide +kernel
theorem dX8_text_39 : decode cX8_text 39 = .ok (.iconst 0, 1) := by decide +kernel
theorem dX8_text_40 : decode cX8_text 40 = .ok (.istore_n 3, 1) := by decide +kernel
theorem dX8_text_41 : decode cX8_text 41 = .ok (.iload_n 3, 1) := by decide +kernel
theorem dX8_text_42 : decode cX8_text 42 = .ok (.iload_n 1, 1) := by decide +kernel
theorem dX8_text_43 : decode cX8_text 43 = .ok (.if_icmp .ge 223, 3) := by decide +kernel
theorem dX8_text_46 : decode cX8_text 46 = .ok (.aload_n 0, 1) := by decide +kernel
theorem dX8_text_47 : decode cX8_text 47 = .ok (.getfield 19, 3) := by decide +kernel
theorem dX8_text_50 : decode cX8_text 50 = .ok (.iload_n 3, 1) := by decide +kernel
theorem dX8_text_51 : decode cX8_text 51 = .ok (.iaload, 1) := by decide +kernel
theorem dX8_text_52 : decode cX8_text 52 = .ok (.istore 4, 2) := by decide +kernel
theorem dX8_text_54 : decode cX8_text 54 = .ok (.iload_n 2, 1) := by decide +kernel
theorem dX8_text_55 : decode cX8_text 55 = .ok (.ifCond .eq 35, 3) := by decide +kernel
theorem dX8_text_58 : decode cX8_text 58 = .ok (.aload_n 0, 1) := by decide +kernel
theorem dX8_text_59 : decode cX8_text 59 = .ok (.iload 4, 2) := by decide +kernel
theorem dX8_text_61 : decode cX8_text 61 = .ok (.invokevirtual 234, 3) := by decide +kernel
theorem dX8_text_64 : decode cX8_text 64 = .ok (.ifCond .ne 7, 3) := by decide +kernel
theorem dX8_text_67 : decode cX8_text 67 = .ok (.iconst (-1), 1) := by decide +kernel
theorem dX8_text_68 : decode cX8_text 68 = .ok (.iload_n 3, 1) := by decide +kernel
theorem dX8_text_69 : decode cX8_text 69 = .ok (.isub, 1) := by decide +kernel
theorem dX8_text_70 : decode cX8_text 70 = .ok (.ireturn, 1) := by decide +kernel
theorem dX8_text_71 : decode cX8_text 71 = .ok (.iload 4, 2) := by decide +kernel
theorem dX8_text_73 : decode cX8_text 73 = .ok (.bipush 41, 2) := by decide +kernel
theorem dX8_text_75 : decode cX8_text 75 = .ok (.if_icmp .ne 7, 3) := by decide +kernel
theorem dX8_text_78 : decode cX8_text 78 = .ok (.iconst 1, 1) := by decide +kernel
theorem dX8_text_79 : decode cX8_text 79 = .ok (.goto 4, 3) := by decide +kernel
theorem dX8_text_82 : decode cX8_text 82 = .ok (.iconst 0, 1) := by decide +kernel
theorem dX8_text_83 : decode cX8_text 83 = .ok (.istore_n 2, 1) := by decide +kernel
theorem dX8_text_84 : decode cX8_text 84 = .ok (.iinc 3 1, 3) := by decide +kernel
theorem dX8_text_87 : decode cX8_text 87 = .ok (.goto 176, 3) := by decide +kernel
theorem dX8_text_90 : decode cX8_text 90 = .ok (.iload 4, 2) := by decide +kernel
theorem dX8_text_92 : decode cX8_text 92 = .ok (.i2l, 1) := by decide +kernel
theorem dX8_text_93 : decode cX8_text 93 = .ok (.ldc2_w 237, 3) := by decide +kernel
theorem dX8_text_96 : decode cX8_text 96 = .ok (.ldc2_w 239, 3) := by decide +kernel
theorem dX8_text_99 : decode cX8_text 99 = .ok (.invokestatic 71, 3) := by decide +kernel
theorem dX8_text_102 : decode cX8_text 102 = .ok (.ifCond .eq 80, 3) := by decide +kernel
theorem dX8_text_105 : decode cX8_text 105 = .ok (.iconst 0, 1) := by decide +kernel
theorem dX8_text_106 : decode cX8_text 106 = .ok (.istore 5, 2) := by decide +kernel
theorem dX8_text_108 : decode cX8_text 108 = .ok (.iconst 0, 1) := by decide +kernel
theorem dX8_text_109 : decode cX8_text 109 = .ok (.istore 6, 2) := by decide +kernel
theorem dX8_text_111 : decode cX8_text 111 = .ok (.iload 6, 2) := by decide +kernel
theorem dX8_text_113 : decode cX8_text 113 = .ok (.iconst 4, 1) := by decide +kernel
theorem dX8_text_114 : decode cX8_text 114 = .ok (.if_icmp .ge 53, 3) := by decide +kernel
theorem dX8_text_117 : decode cX8_text 117 = .ok (.iload_n 3, 1) := by decide +kernel
theorem dX8_text_118 : decode cX8_text 118 = .ok (.iload_n 1, 1) := by decide +kernel
theorem dX8_text_119 : decode cX8_text 119 = .ok (.if_icmp .ge 48, 3) := by decide +kernel
theorem dX8_text_122 : decode cX8_text 122 = .ok (.aload_n 0, 1) := by decide +kernel
theorem dX8_text_123 : decode cX8_text 123 = .ok (.getfield 19, 3) := by decide +kernel
theorem dX8_text_126 : decode cX8_text 126 = .ok (.iload_n 3, 1) := by decide +kernel
theorem dX8_text_127 : decode cX8_text 127 = .ok (.iaload, 1) := by decide +kernel
theorem dX8_text_128 : decode cX8_text 128 = .ok (.i2l, 1) := by decide +kernel
theorem dX8_text_129 : decode cX8_text 129 = .ok (.ldc2_w 237, 3) := by decide +kernel
theorem dX8_text_132 : decode cX8_text 132 = .ok (.ldc2_w 239, 3) := by decide +kernel
theorem dX8_text_135 : decode cX8_text 135 = .ok (.invokestatic 71, 3) := by decide +kernel
theorem dX8_text_138 : decode cX8_text 138 = .ok (.ifCond .eq 29, 3) := by decide +kernel
theorem dX8_text_141 : decode cX8_text 141 = .ok (.bipush 10, 2) := by decide +kernel
theorem dX8_text_143 : decode cX8_text 143 = .ok (.iload 5, 2) := by decide +kernel
theorem dX8_text_145 : decode cX8_text 145 = .ok (.imul, 1) := by decide +kernel
theorem dX8_text_146 : decode cX8_text 146 = .ok (.aload_n 0, 1) := by decide +kernel
theorem dX8_text_147 : decode cX8_text 147 = .ok (.getfield 19, 3) := by decide +kernel
theorem dX8_text_150 : decode cX8_text 150 = .ok (.iload_n 3, 1) := by decide +kernel
theorem dX8_text_151 : decode cX8_text 151 = .ok (.iaload, 1) := by decide +kernel
theorem dX8_text_152 : decode cX8_text 152 = .ok (.iadd, 1) := by decide +kernel
theorem dX8_text_153 : decode cX8_text 153 = .ok (.bipush 48, 2) := by decide +kernel
theorem dX8_text_155 : decode cX8_text 155 = .ok (.isub, 1) := by decide +kernel
theorem dX8_text_156 : decode cX8_text 156 = .ok (.istore 5, 2) := by decide +kernel
theorem dX8_text_158 : decode cX8_text 158 = .ok (.iinc 3 1, 3) := by decide +kernel
theorem dX8_text_161 : decode cX8_text 161 = .ok (.iinc 6 1, 3) := by decide +kernel
theorem dX8_text_164 : decode cX8_text 164 = .ok (.goto (-53), 3) := by decide +kernel
theorem dX8_text_167 : decode cX8_text 167 = .ok (.aload_n 0, 1) := by decide +kernel
theorem dX8_text_168 : decode cX8_text 168 = .ok (.iload 5, 2) := by decide +kernel
theorem dX8_text_170 : decode cX8_text 170 = .ok (.invokevirtual 213, 3) := by decide +kernel
theorem dX8_text_173 : decode cX8_text 173 = .ok (.aload_n 0, 1) := by decide +kernel
theorem dX8_text_174 : decode cX8_text 174 = .ok (.invokevirtual 228, 3) := by decide +kernel
theorem dX8_text_177 : decode cX8_text 177 = .ok (.iconst 1, 1) := by decide +kernel
theorem dX8_text_178 : decode cX8_text 178 = .ok (.istore_n 2, 1) := by decide +kernel
theorem dX8_text_179 : decode cX8_text 179 = .ok (.goto 84, 3) := by decide +kernel
theorem dX8_text_182 : decode cX8_text 182 = .ok (.iload 4, 2) := by decide +kernel
theorem dX8_text_184 : decode cX8_text 184 = .ok (.invokestatic 241, 3) := by decide +kernel
theorem dX8_text_187 : decode cX8_text 187 = .ok (.ifCond .lt 27, 3) := by decide +kernel
theorem dX8_text_190 : decode cX8_text 190 = .ok (.aload_n 0, 1) := by decide +kernel
theorem dX8_text_191 : decode cX8_text 191 = .ok (.bipush (-10), 2) := by decide +kernel
theorem dX8_text_193 : decode cX8_text 193 = .ok (.iload 4, 2) := by decide +kernel
theorem dX8_text_195 : decode cX8_text 195 = .ok (.invokestatic 241, 3) := by decide +kernel
theorem dX8_text_198 : decode cX8_text 198 = .ok (.isub, 1) := by decide +kernel
theorem dX8_text_199 : decode cX8_text 199 = .ok (.invokevirtual 213, 3) := by decide +kernel
theorem dX8_text_202 : decode cX8_text 202 = .ok (.aload_n 0, 1) := by decide +kernel
theorem dX8_text_203 : decode cX8_text 203 = .ok (.invokevirtual 228, 3) := by decide +kernel
theorem dX8_text_206 : decode cX8_text 206 = .ok (.iconst 1, 1) := by decide +kernel
theorem dX8_text_207 : decode cX8_text 207 = .ok (.istore_n 2, 1) := by decide +kernel
theorem dX8_text_208 : decode cX8_text 208 = .ok (.iinc 3 1, 3) := by decide +kernel
theorem dX8_text_211 : decode cX8_text 211 = .ok (.goto 52, 3) := by decide +kernel
theorem dX8_text_214 : decode cX8_text 214 = .ok (.iload 4, 2) := by decide +kernel
theorem dX8_text_216 : decode cX8_text 216 = .ok (.bipush 33, 2) := by decide +kernel
theorem dX8_text_218 : decode cX8_text 218 = .ok (.if_icmp .eq 17, 3) := by decide +kernel
theorem dX8_text_221 : decode cX8_text 221 = .ok (.iload 4, 2) := by decide +kernel
theorem dX8_text_223 : decode cX8_text 223 = .ok (.bipush 45, 2) := by decide +kernel
theorem dX8_text_225 : decode cX8_text 225 = .ok (.if_icmp .eq 10, 3) := by decide +kernel
theorem dX8_text_228 : decode cX8_text 228 = .ok (.iload 4, 2) := by decide +kernel
theorem dX8_text_230 : decode cX8_text 230 = .ok (.bipush 40, 2) := by decide +kernel
theorem dX8_text_232 : decode cX8_text 232 = .ok (.if_icmp .ne 7, 3) := by decide +kernel
theorem dX8_text_235 : decode cX8_text 235 = .ok (.iconst 1, 1) := by decide +kernel
theorem dX8_text_236 : decode cX8_text 236 = .ok (.goto 4, 3) := by decide +kernel
theorem dX8_text_239 : decode cX8_text 239 = .ok (.iconst 0, 1) := by decide +kernel
theorem dX8_text_240 : decode cX8_text 240 = .ok (.istore 5, 2) := by decide +kernel
theorem dX8_text_242 : decode cX8_text 242 = .ok (.iload 5, 2) := by decide +kernel
theorem dX8_text_244 : decode cX8_text 244 = .ok (.ifCond .eq 12, 3) := by decide +kernel
theorem dX8_text_247 : decode cX8_text 247 = .ok (.aload_n 0, 1) := by decide +kernel
theorem dX8_text_248 : decode cX8_text 248 = .ok (.iload 4, 2) := by decide +kernel
theorem dX8_text_250 : decode cX8_text 250 = .ok (.invokevirtual 244, 3) := by decide +kernel
theorem dX8_text_253 : decode cX8_text 253 = .ok (.ifCond .ne 7, 3) := by decide +kernel
theorem dX8_text_256 : decode cX8_text 256 = .ok (.iconst (-1), 1) := by decide +kernel
theorem dX8_text_257 : decode cX8_text 257 = .ok (.iload_n 3, 1) := by decide +kernel
theorem dX8_text_258 : decode cX8_text 258 = .ok (.isub, 1) := by decide +kernel
theorem dX8_text_259 : decode cX8_text 259 = .ok (.ireturn, 1) := by decide +kernel
theorem dX8_text_260 : decode cX8_text 260 = .ok (.iinc 3 1, 3) := by decide +kernel
theorem dX8_text_263 : decode cX8_text 263 = .ok (.goto (-222), 3) := by decide +kernel
theorem dX8_text_266 : decode cX8_text 266 = .ok (.iload_n 2, 1) := by decide +kernel
theorem dX8_text_267 : decode cX8_text 267 = .ok (.ifCond .eq 10, 3) := by decide +kernel
theorem dX8_text_270 : decode cX8_text 270 = .ok (.aload_n 0, 1) := by decide +kernel
theorem dX8_text_271 : decode cX8_text 271 = .ok (.getfield 222, 3) := by decide +kernel
theorem dX8_text_274 : decode cX8_text 274 = .ok (.ifCond .le 7, 3) := by decide +kernel
theorem dX8_text_277 : decode cX8_text 277 = .ok (.iconst (-1), 1) := by decide +kernel
theorem dX8_text_278 : decode cX8_text 278 = .ok (.iload_n 1, 1) := by decide +kernel
theorem dX8_text_279 : decode cX8_text 279 = .ok (.isub, 1) := by decide +kernel
theorem dX8_text_280 : decode cX8_text 280 = .ok (.ireturn, 1) := by decide +kernel
theorem dX8_text_281 : decode cX8_text 281 = .ok (.aload_n 0, 1) := by decide +kernel
theorem dX8_text_282 : decode cX8_text 282 = .ok (.iconst 1, 1) := by decide +kernel
theorem dX8_text_283 : decode cX8_text 283 = .ok (.invokevirtual 225, 3) := by decide +kernel
theorem dX8_text_286 : decode cX8_text 286 = .ok (.aload_n 0, 1) := by decide +kernel
theorem dX8_text_287 : decode cX8_text 287 = .ok (.getfield 7, 3) := by decide +kernel
theorem dX8_text_290 : decode cX8_text 290 = .ok (.sipush 190, 3) := by decide +kernel
theorem dX8_text_293 : decode cX8_text 293 = .ok (.aload_n 0, 1) := by decide +kernel
theorem dX8_text_294 : decode cX8_text 294 = .ok (.getfield 207, 3) := by decide +kernel
theorem dX8_text_297 : decode cX8_text 297 = .ok (.iastore, 1) := by decide +kernel
theorem dX8_text_298 : decode cX8_text 298 = .ok (.iconst 0, 1) := by decide +kernel
theorem dX8_text_299 : decode cX8_text 299 = .ok (.istore 4, 2) := by decide +kernel
theorem dX8_text_301 : decode cX8_text 301 = .ok (.iload 4, 2) := by decide +kernel
theorem dX8_text_303 : decode cX8_text 303 = .ok (.aload_n 0, 1) := by decide +kernel
theorem dX8_text_304 : decode cX8_text 304 = .ok (.getfield 207, 3) := by decide +kernel
theorem dX8_text_307 : decode cX8_text 307 = .ok (.if_icmp .ge 27, 3) := by decide +kernel
theorem dX8_text_310 : decode cX8_text 310 = .ok (.aload_n 0, 1) := by decide +kernel
theorem dX8_text_311 : decode cX8_text 311 = .ok (.getfield 7, 3) := by decide +kernel
theorem dX8_text_314 : decode cX8_text 314 = .ok (.sipush 191, 3) := by decide +kernel
theorem dX8_text_317 : decode cX8_text 317 = .ok (.iload 4, 2) := by decide +kernel
theorem dX8_text_319 : decode cX8_text 319 = .ok (.iadd, 1) := by decide +kernel
theorem dX8_text_320 : decode cX8_text 320 = .ok (.aload_n 0, 1) := by decide +kernel
theorem dX8_text_321 : decode cX8_text 321 = .ok (.getfield 51, 3) := by decide +kernel
theorem dX8_text_324 : decode cX8_text 324 = .ok (.iload 4, 2) := by decide +kernel
theorem dX8_text_326 : decode cX8_text 326 = .ok (.iaload, 1) := by decide +kernel
theorem dX8_text_327 : decode cX8_text 327 = .ok (.iastore, 1) := by decide +kernel
theorem dX8_text_328 : decode cX8_text 328 = .ok (.iinc 4 1, 3) := by decide +kernel
theorem dX8_text_331 : decode cX8_text 331 = .ok (.goto (-30), 3) := by decide +kernel
theorem dX8_text_334 : decode cX8_text 334 = .ok (.iconst 1, 1) := by decide +kernel
theorem dX8_text_335 : decode cX8_text 335 = .ok (.ireturn, 1) := by decide +kernel
theorem dX8_named_0 : decode cX8_named 0 = .ok (.aload_n 0, 1) := by decide +kernel
theorem dX8_named_1 : decode cX8_named 1 = .ok (.invokevirtual 101, 3) := by decide +kernel
theorem dX8_named_4 : decode cX8_named 4 = .ok (.istore 4, 2) := by decide +kernel
theorem dX8_named_6 : decode cX8_named 6 = .ok (.iload_n 1, 1) := by decide +kernel
theorem dX8_named_7 : decode cX8_named 7 = .ok (.tableswitch 92 0 4 #[33, 40, 47, 68, 85], 33) := by decide +kernel
theorem dX8_named_40 : decode cX8_named 40 = .ok (.aload_n 0, 1) := by decide +kernel
theorem dX8_named_41 : decode cX8_named 41 = .ok (.iload_n 2, 1) := by decide +kernel
theorem dX8_named_42 : decode cX8_named 42 = .ok (.iload_n 3, 1) := by decide +kernel
theorem dX8_named_43 : decode cX8_named 43 = .ok (.invokevirtual 105, 3) := by decide +kernel
theorem dX8_named_46 : decode cX8_named 46 = .ok (.ireturn, 1) := by decide +kernel
theorem dX8_named_47 : decode cX8_named 47 = .ok (.aload_n 0, 1) := by decide +kernel
theorem dX8_named_48 : decode cX8_named 48 = .ok (.iload_n 3, 1) := by decide +kernel
theorem dX8_named_49 : decode cX8_named 49 = .ok (.iconst 1, 1) := by decide +kernel
theorem dX8_named_50 : decode cX8_named 50 = .ok (.invokevirtual 65, 3) := by decide +kernel
theorem dX8_named_53 : decode cX8_named 53 = .ok (.ireturn, 1) := by decide +kernel
theorem dX8_named_54 : decode cX8_named 54 = .ok (.aload_n 0, 1) := by decide +kernel
theorem dX8_named_55 : decode cX8_named 55 = .ok (.iload_n 3, 1) := by decide +kernel
theorem dX8_named_56 : decode cX8_named 56 = .ok (.iconst 2, 1) := by decide +kernel
theorem dX8_named_57 : decode cX8_named 57 = .ok (.invokevirtual 65, 3) := by decide +kernel
theorem dX8_named_60 : decode cX8_named 60 = .ok (.aload_n 0, 1) := by decide +kernel
theorem dX8_named_61 : decode cX8_named 61 = .ok (.iload_n 2, 1) := by decide +kernel
theorem dX8_named_62 : decode cX8_named 62 = .ok (.iconst 2, 1) := by decide +kernel
theorem dX8_named_63 : decode cX8_named 63 = .ok (.invokevirtual 65, 3) := by decide +kernel
theorem dX8_named_66 : decode cX8_named 66 = .ok (.if_icmp .ne 7, 3) := by decide +kernel
theorem dX8_named_69 : decode cX8_named 69 = .ok (.iconst 1, 1) := by decide +kernel
theorem dX8_named_70 : decode cX8_named 70 = .ok (.goto 4, 3) := by decide +kernel
theorem dX8_named_73 : decode cX8_named 73 = .ok (.iconst 0, 1) := by decide +kernel
theorem dX8_named_74 : decode cX8_named 74 = .ok (.ireturn, 1) := by decide +kernel
theorem dX8_named_75 : decode cX8_named 75 = .ok (.aload_n 0, 1) := by decide +kernel
theorem dX8_named_76 : decode cX8_named 76 = .ok (.aload_n 0, 1) := by decide +kernel
theorem dX8_named_77 : decode cX8_named 77 = .ok (.iload_n 3, 1) := by decide +kernel
theorem dX8_named_78 : decode cX8_named 78 = .ok (.iconst 2, 1) := by decide +kernel
theorem dX8_named_79 : decode cX8_named 79 = .ok (.invokevirtual 65, 3) := by decide +kernel
theorem dX8_named_82 : decode cX8_named 82 = .ok (.aload_n 0, 1) := by decide +kernel
theorem dX8_named_83 : decode cX8_named 83 = .ok (.iload_n 2, 1) := by decide +kernel
theorem dX8_named_84 : decode cX8_named 84 = .ok (.iconst 2, 1) := by decide +kernel
theorem dX8_named_85 : decode cX8_named 85 = .ok (.invokevirtual 65, 3) := by decide +kernel
theorem dX8_named_88 : decode cX8_named 88 = .ok (.invokevirtual 160, 3) := by decide +kernel
theorem dX8_named_91 : decode cX8_named 91 = .ok (.ireturn, 1) := by decide +kernel
theorem dX8_named_92 : decode cX8_named 92 = .ok (.aload_n 0, 1) := by decide +kernel
theorem dX8_named_93 : decode cX8_named 93 = .ok (.iload_n 3, 1) := by decide +kernel
theorem dX8_named_94 : decode cX8_named 94 = .ok (.iconst 4, 1) := by decide +kernel
theorem dX8_named_95 : decode cX8_named 95 = .ok (.invokevirtual 65, 3) := by decide +kernel
theorem dX8_named_98 : decode cX8_named 98 = .ok (.ireturn, 1) := by decide +kernel
theorem dX8_named_99 : decode cX8_named 99 = .ok (.iload 4, 2) := by decide +kernel
theorem dX8_named_101 : decode cX8_named 101 = .ok (.ifCond .ge 7, 3) := by decide +kernel
theorem dX8_named_104 : decode cX8_named 104 = .ok (.iconst 0, 1) := by decide +kernel
theorem dX8_named_105 : decode cX8_named 105 = .ok (.goto 10, 3) := by decide +kernel
theorem dX8_named_108 : decode cX8_named 108 = .ok (.aload_n 0, 1) := by decide +kernel
theorem dX8_named_109 : decode cX8_named 109 = .ok (.iload 4, 2) := by decide +kernel
theorem dX8_named_111 : decode cX8_named 111 = .ok (.iload_n 3, 1) := by decide +kernel
theorem dX8_named_112 : decode cX8_named 112 = .ok (.invokevirtual 105, 3) := by decide +kernel
theorem dX8_named_115 : decode cX8_named 115 = .ok (.ireturn, 1) := by decide +kernel
theorem dX8_worked_0 : decode cX8_worked 0 = .ok (.iload_n 0, 1) := by decide +kernel
theorem dX8_worked_1 : decode cX8_worked 1 = .ok (.lookupswitch 168 #[(38, 97), (42, 152), (43, 144), (45, 148), (47, 156), (60, 111), (61, 122), (62, 133), (124, 83)], 83) := by decide +kernel
theorem dX8_worked_84 : decode cX8_worked 84 = .ok (.iload_n 1, 1) := by decide +kernel
theorem dX8_worked_85 : decode cX8_worked 85 = .ok (.ifCond .ne 7, 3) := by decide +kernel
theorem dX8_worked_88 : decode cX8_worked 88 = .ok (.iload_n 2, 1) := by decide +kernel
theorem dX8_worked_89 : decode cX8_worked 89 = .ok (.ifCond .eq 7, 3) := by decide +kernel
theorem dX8_worked_92 : decode cX8_worked 92 = .ok (.iconst 1, 1) := by decide +kernel
theorem dX8_worked_93 : decode cX8_worked 93 = .ok (.goto 4, 3) := by decide +kernel
theorem dX8_worked_96 : decode cX8_worked 96 = .ok (.iconst 0, 1) := by decide +kernel
theorem dX8_worked_97 : decode cX8_worked 97 = .ok (.ireturn, 1) := by decide +kernel
theorem dX8_worked_98 : decode cX8_worked 98 = .ok (.iload_n 1, 1) := by decide +kernel
theorem dX8_worked_99 : decode cX8_worked 99 = .ok (.ifCond .eq 11, 3) := by decide +kernel
theorem dX8_worked_102 : decode cX8_worked 102 = .ok (.iload_n 2, 1) := by decide +kernel
theorem dX8_worked_103 : decode cX8_worked 103 = .ok (.ifCond .eq 7, 3) := by decide +kernel
theorem dX8_worked_106 : decode cX8_worked 106 = .ok (.iconst 1, 1) := by decide +kernel
theorem dX8_worked_107 : decode cX8_worked 107 = .ok (.goto 4, 3) := by decide +kernel
theorem dX8_worked_110 : decode cX8_worked 110 = .ok (.iconst 0, 1) := by decide +kernel
theorem dX8_worked_111 : decode cX8_worked 111 = .ok (.ireturn, 1) := by decide +kernel
theorem dX8_worked_112 : decode cX8_worked 112 = .ok (.iload_n 1, 1) := by decide +kernel
theorem dX8_worked_113 : decode cX8_worked 113 = .ok (.iload_n 2, 1) := by decide +kernel
theorem dX8_worked_114 : decode cX8_worked 114 = .ok (.if_icmp .ge 7, 3) := by decide +kernel
theorem dX8_worked_117 : decode cX8_worked 117 = .ok (.iconst 1, 1) := by decide +kernel
theorem dX8_worked_118 : decode cX8_worked 118 = .ok (.goto 4, 3) := by decide +kernel
theorem dX8_worked_121 : decode cX8_worked 121 = .ok (.iconst 0, 1) := by decide +kernel
theorem dX8_worked_122 : decode cX8_worked 122 = .ok (.ireturn, 1) := by decide +kernel
theorem dX8_worked_123 : decode cX8_worked 123 = .ok (.iload_n 1, 1) := by decide +kernel
theorem dX8_worked_124 : decode cX8_worked 124 = .ok (.iload_n 2, 1) := by decide +kernel
theorem dX8_worked_125 : decode cX8_worked 125 = .ok (.if_icmp .ne 7, 3) := by decide +kernel
theorem dX8_worked_128 : decode cX8_worked 128 = .ok (.iconst 1, 1) := by decide +kernel
theorem dX8_worked_129 : decode cX8_worked 129 = .ok (.goto 4, 3) := by decide +kernel
theorem dX8_worked_132 : decode cX8_worked 132 = .ok (.iconst 0, 1) := by decide +kernel
theorem dX8_worked_133 : decode cX8_worked 133 = .ok (.ireturn, 1) := by decide +kernel
theorem dX8_worked_134 : decode cX8_worked 134 = .ok (.iload_n 1, 1) := by decide +kernel
theorem dX8_worked_135 : decode cX8_worked 135 = .ok (.iload_n 2, 1) := by decide +kernel
theorem dX8_worked_136 : decode cX8_worked 136 = .ok (.if_icmp .le 7, 3) := by decide +kernel
theorem dX8_worked_139 : decode cX8_worked 139 = .ok (.iconst 1, 1) := by decide +kernel
theorem dX8_worked_140 : decode cX8_worked 140 = .ok (.goto 4, 3) := by decide +kernel
theorem dX8_worked_143 : decode cX8_worked 143 = .ok (.iconst 0, 1) := by decide +kernel
theorem dX8_worked_144 : decode cX8_worked 144 = .ok (.ireturn, 1) := by decide +kernel
theorem dX8_worked_145 : decode cX8_worked 145 = .ok (.iload_n 1, 1) := by decide +kernel
theorem dX8_worked_146 : decode cX8_worked 146 = .ok (.iload_n 2, 1) := by decide +kernel
theorem dX8_worked_147 : decode cX8_worked 147 = .ok (.iadd, 1) := by decide +kernel
theorem dX8_worked_148 : decode cX8_worked 148 = .ok (.ireturn, 1) := by decide +kernel
theorem dX8_worked_149 : decode cX8_worked 149 = .ok (.iload_n 1, 1) := by decide +kernel
theorem dX8_worked_150 : decode cX8_worked 150 = .ok (.iload_n 2, 1) := by decide +kernel
theorem dX8_worked_151 : decode cX8_worked 151 = .ok (.isub, 1) := by decide +kernel
theorem dX8_worked_152 : decode cX8_worked 152 = .ok (.ireturn, 1) := by decide +kernel
theorem dX8_worked_153 : decode cX8_worked 153 = .ok (.iload_n 1, 1) := by decide +kernel
theorem dX8_worked_154 : decode cX8_worked 154 = .ok (.iload_n 2, 1) := by decide +kernel
theorem dX8_worked_155 : decode cX8_worked 155 = .ok (.imul, 1) := by decide +kernel
theorem dX8_worked_156 : decode cX8_worked 156 = .ok (.ireturn, 1) := by decide +kernel
theorem dX8_worked_157 : decode cX8_worked 157 = .ok (.iload_n 2, 1) := by decide +kernel
theorem dX8_worked_158 : decode cX8_worked 158 = .ok (.ifCond .ne 7, 3) := by decide +kernel
theorem dX8_worked_161 : decode cX8_worked 161 = .ok (.iconst 0, 1) := by decide +kernel
theorem dX8_worked_162 : decode cX8_worked 162 = .ok (.goto 6, 3) := by decide +kernel
theorem dX8_worked_165 : decode cX8_worked 165 = .ok (.iload_n 1, 1) := by decide +kernel
theorem dX8_worked_166 : decode cX8_worked 166 = .ok (.iload_n 2, 1) := by decide +kernel
theorem dX8_worked_167 : decode cX8_worked 167 = .ok (.idiv, 1) := by decide +kernel
theorem dX8_worked_168 : decode cX8_worked 168 = .ok (.ireturn, 1) := by decide +kernel
theorem dX8_worked_169 : decode cX8_worked 169 = .ok (.iload_n 2, 1) := by decide +kernel
theorem dX8_worked_170 : decode cX8_worked 170 = .ok (.ifCond .ne 7, 3) := by decide +kernel
theorem dX8_worked_173 : decode cX8_worked 173 = .ok (.iconst 0, 1) := by decide +kernel
theorem dX8_worked_174 : decode cX8_worked 174 = .ok (.goto 6, 3) := by decide +kernel
theorem dX8_worked_177 : decode cX8_worked 177 = .ok (.iload_n 1, 1) := by decide +kernel
theorem dX8_worked_178 : decode cX8_worked 178 = .ok (.iload_n 2, 1) := by decide +kernel
theorem dX8_worked_179 : decode cX8_worked 179 = .ok (.irem, 1) := by decide +kernel
theorem dX8_worked_180 : decode cX8_worked 180 = .ok (.ireturn, 1) := by decide +kernel
theorem dX8_givenBy_0 : decode cX8_givenBy 0 = .ok (.iconst 0, 1) := by decide +kernel
theorem dX8_givenBy_1 : decode cX8_givenBy 1 = .ok (.istore_n 3, 1) := by decide +kernel
theorem dX8_givenBy_2 : decode cX8_givenBy 2 = .ok (.iconst 0, 1) := by decide +kernel
theorem dX8_givenBy_3 : decode cX8_givenBy 3 = .ok (.istore 4, 2) := by decide +kernel
theorem dX8_givenBy_5 : decode cX8_givenBy 5 = .ok (.iload 4, 2) := by decide +kernel
theorem dX8_givenBy_7 : decode cX8_givenBy 7 = .ok (.aload_n 0, 1) := by decide +kernel
theorem dX8_givenBy_8 : decode cX8_givenBy 8 = .ok (.getfield 7, 3) := by decide +kernel
theorem dX8_givenBy_11 : decode cX8_givenBy 11 = .ok (.sipush 190, 3) := by decide +kernel
theorem dX8_givenBy_14 : decode cX8_givenBy 14 = .ok (.iaload, 1) := by decide +kernel
theorem dX8_givenBy_15 : decode cX8_givenBy 15 = .ok (.if_icmp .ge 157, 3) := by decide +kernel
theorem dX8_givenBy_18 : decode cX8_givenBy 18 = .ok (.aload_n 0, 1) := by decide +kernel
theorem dX8_givenBy_19 : decode cX8_givenBy 19 = .ok (.getfield 7, 3) := by decide +kernel
theorem dX8_givenBy_22 : decode cX8_givenBy 22 = .ok (.sipush 191, 3) := by decide +kernel
theorem dX8_givenBy_25 : decode cX8_givenBy 25 = .ok (.iload 4, 2) := by decide +kernel
theorem dX8_givenBy_27 : decode cX8_givenBy 27 = .ok (.iadd, 1) := by decide +kernel
theorem dX8_givenBy_28 : decode cX8_givenBy 28 = .ok (.iaload, 1) := by decide +kernel
theorem dX8_givenBy_29 : decode cX8_givenBy 29 = .ok (.istore 5, 2) := by decide +kernel
theorem dX8_givenBy_31 : decode cX8_givenBy 31 = .ok (.iload 5, 2) := by decide +kernel
theorem dX8_givenBy_33 : decode cX8_givenBy 33 = .ok (.sipush 10000, 3) := by decide +kernel
theorem dX8_givenBy_36 : decode cX8_givenBy 36 = .ok (.if_icmp .lt 40, 3) := by decide +kernel
theorem dX8_givenBy_39 : decode cX8_givenBy 39 = .ok (.iinc 3 (-1), 3) := by decide +kernel
theorem dX8_givenBy_42 : decode cX8_givenBy 42 = .ok (.aload_n 0, 1) := by decide +kernel
theorem dX8_givenBy_43 : decode cX8_givenBy 43 = .ok (.getfield 61, 3) := by decide +kernel
theorem dX8_givenBy_46 : decode cX8_givenBy 46 = .ok (.iload_n 3, 1) := by decide +kernel
theorem dX8_givenBy_47 : decode cX8_givenBy 47 = .ok (.iconst 1, 1) := by decide +kernel
theorem dX8_givenBy_48 : decode cX8_givenBy 48 = .ok (.isub, 1) := by decide +kernel
theorem dX8_givenBy_49 : decode cX8_givenBy 49 = .ok (.iload 5, 2) := by decide +kernel
theorem dX8_givenBy_51 : decode cX8_givenBy 51 = .ok (.sipush 10000, 3) := by decide +kernel
theorem dX8_givenBy_54 : decode cX8_givenBy 54 = .ok (.isub, 1) := by decide +kernel
theorem dX8_givenBy_55 : decode cX8_givenBy 55 = .ok (.aload_n 0, 1) := by decide +kernel
theorem dX8_givenBy_56 : decode cX8_givenBy 56 = .ok (.getfield 61, 3) := by decide +kernel
theorem dX8_givenBy_59 : decode cX8_givenBy 59 = .ok (.iload_n 3, 1) := by decide +kernel
theorem dX8_givenBy_60 : decode cX8_givenBy 60 = .ok (.iconst 1, 1) := by decide +kernel
theorem dX8_givenBy_61 : decode cX8_givenBy 61 = .ok (.isub, 1) := by decide +kernel
theorem dX8_givenBy_62 : decode cX8_givenBy 62 = .ok (.iaload, 1) := by decide +kernel
theorem dX8_givenBy_63 : decode cX8_givenBy 63 = .ok (.aload_n 0, 1) := by decide +kernel
theorem dX8_givenBy_64 : decode cX8_givenBy 64 = .ok (.getfield 61, 3) := by decide +kernel
theorem dX8_givenBy_67 : decode cX8_givenBy 67 = .ok (.iload_n 3, 1) := by decide +kernel
theorem dX8_givenBy_68 : decode cX8_givenBy 68 = .ok (.iaload, 1) := by decide +kernel
theorem dX8_givenBy_69 : decode cX8_givenBy 69 = .ok (.invokestatic 247, 3) := by decide +kernel
theorem dX8_givenBy_72 : decode cX8_givenBy 72 = .ok (.iastore, 1) := by decide +kernel
theorem dX8_givenBy_73 : decode cX8_givenBy 73 = .ok (.goto 93, 3) := by decide +kernel
theorem dX8_givenBy_76 : decode cX8_givenBy 76 = .ok (.iload 5, 2) := by decide +kernel
theorem dX8_givenBy_78 : decode cX8_givenBy 78 = .ok (.bipush (-20), 2) := by decide +kernel
theorem dX8_givenBy_80 : decode cX8_givenBy 80 = .ok (.if_icmp .eq 10, 3) := by decide +kernel
theorem dX8_givenBy_83 : decode cX8_givenBy 83 = .ok (.iload 5, 2) := by decide +kernel
theorem dX8_givenBy_85 : decode cX8_givenBy 85 = .ok (.bipush (-21), 2) := by decide +kernel
theorem dX8_givenBy_87 : decode cX8_givenBy 87 = .ok (.if_icmp .ne 49, 3) := by decide +kernel
theorem dX8_givenBy_90 : decode cX8_givenBy 90 = .ok (.aload_n 0, 1) := by decide +kernel
theorem dX8_givenBy_91 : decode cX8_givenBy 91 = .ok (.getfield 61, 3) := by decide +kernel
theorem dX8_givenBy_94 : decode cX8_givenBy 94 = .ok (.iload_n 3, 1) := by decide +kernel
theorem dX8_givenBy_95 : decode cX8_givenBy 95 = .ok (.iconst 1, 1) := by decide +kernel
theorem dX8_givenBy_96 : decode cX8_givenBy 96 = .ok (.isub, 1) := by decide +kernel
theorem dX8_givenBy_97 : decode cX8_givenBy 97 = .ok (.iload 5, 2) := by decide +kernel
theorem dX8_givenBy_99 : decode cX8_givenBy 99 = .ok (.bipush (-21), 2) := by decide +kernel
theorem dX8_givenBy_101 : decode cX8_givenBy 101 = .ok (.if_icmp .ne 15, 3) := by decide +kernel
theorem dX8_givenBy_104 : decode cX8_givenBy 104 = .ok (.aload_n 0, 1) := by decide +kernel
theorem dX8_givenBy_105 : decode cX8_givenBy 105 = .ok (.getfield 61, 3) := by decide +kernel
theorem dX8_givenBy_108 : decode cX8_givenBy 108 = .ok (.iload_n 3, 1) := by decide +kernel
theorem dX8_givenBy_109 : decode cX8_givenBy 109 = .ok (.iconst 1, 1) := by decide +kernel
theorem dX8_givenBy_110 : decode cX8_givenBy 110 = .ok (.isub, 1) := by decide +kernel
theorem dX8_givenBy_111 : decode cX8_givenBy 111 = .ok (.iaload, 1) := by decide +kernel
theorem dX8_givenBy_112 : decode cX8_givenBy 112 = .ok (.ineg, 1) := by decide +kernel
theorem dX8_givenBy_113 : decode cX8_givenBy 113 = .ok (.goto 19, 3) := by decide +kernel
theorem dX8_givenBy_116 : decode cX8_givenBy 116 = .ok (.aload_n 0, 1) := by decide +kernel
theorem dX8_givenBy_117 : decode cX8_givenBy 117 = .ok (.getfield 61, 3) := by decide +kernel
theorem dX8_givenBy_120 : decode cX8_givenBy 120 = .ok (.iload_n 3, 1) := by decide +kernel
theorem dX8_givenBy_121 : decode cX8_givenBy 121 = .ok (.iconst 1, 1) := by decide +kernel
theorem dX8_givenBy_122 : decode cX8_givenBy 122 = .ok (.isub, 1) := by decide +kernel
theorem dX8_givenBy_123 : decode cX8_givenBy 123 = .ok (.iaload, 1) := by decide +kernel
theorem dX8_givenBy_124 : decode cX8_givenBy 124 = .ok (.ifCond .ne 7, 3) := by decide +kernel
theorem dX8_givenBy_127 : decode cX8_givenBy 127 = .ok (.iconst 1, 1) := by decide +kernel
theorem dX8_givenBy_128 : decode cX8_givenBy 128 = .ok (.goto 4, 3) := by decide +kernel
theorem dX8_givenBy_131 : decode cX8_givenBy 131 = .ok (.iconst 0, 1) := by decide +kernel
theorem dX8_givenBy_132 : decode cX8_givenBy 132 = .ok (.iastore, 1) := by decide +kernel
theorem dX8_givenBy_133 : decode cX8_givenBy 133 = .ok (.goto 33, 3) := by decide +kernel
theorem dX8_givenBy_136 : decode cX8_givenBy 136 = .ok (.aload_n 0, 1) := by decide +kernel
theorem dX8_givenBy_137 : decode cX8_givenBy 137 = .ok (.getfield 61, 3) := by decide +kernel
theorem dX8_givenBy_140 : decode cX8_givenBy 140 = .ok (.iload_n 3, 1) := by decide +kernel
theorem dX8_givenBy_141 : decode cX8_givenBy 141 = .ok (.iload 5, 2) := by decide +kernel
theorem dX8_givenBy_143 : decode cX8_givenBy 143 = .ok (.ifCond .lt 8, 3) := by decide +kernel
theorem dX8_givenBy_146 : decode cX8_givenBy 146 = .ok (.iload 5, 2) := by decide +kernel
theorem dX8_givenBy_148 : decode cX8_givenBy 148 = .ok (.goto 14, 3) := by decide +kernel
theorem dX8_givenBy_151 : decode cX8_givenBy 151 = .ok (.aload_n 0, 1) := by decide +kernel
theorem dX8_givenBy_152 : decode cX8_givenBy 152 = .ok (.bipush (-10), 2) := by decide +kernel
theorem dX8_givenBy_154 : decode cX8_givenBy 154 = .ok (.iload 5, 2) := by decide +kernel
theorem dX8_givenBy_156 : decode cX8_givenBy 156 = .ok (.isub, 1) := by decide +kernel
theorem dX8_givenBy_157 : decode cX8_givenBy 157 = .ok (.iload_n 1, 1) := by decide +kernel
theorem dX8_givenBy_158 : decode cX8_givenBy 158 = .ok (.iload_n 2, 1) := by decide +kernel
theorem dX8_givenBy_159 : decode cX8_givenBy 159 = .ok (.invokevirtual 250, 3) := by decide +kernel
theorem dX8_givenBy_162 : decode cX8_givenBy 162 = .ok (.iastore, 1) := by decide +kernel
theorem dX8_givenBy_163 : decode cX8_givenBy 163 = .ok (.iinc 3 1, 3) := by decide +kernel
theorem dX8_givenBy_166 : decode cX8_givenBy 166 = .ok (.iinc 4 1, 3) := by decide +kernel
theorem dX8_givenBy_169 : decode cX8_givenBy 169 = .ok (.goto (-164), 3) := by decide +kernel
theorem dX8_givenBy_172 : decode cX8_givenBy 172 = .ok (.aload_n 0, 1) := by decide +kernel
theorem dX8_givenBy_173 : decode cX8_givenBy 173 = .ok (.getfield 61, 3) := by decide +kernel
theorem dX8_givenBy_176 : decode cX8_givenBy 176 = .ok (.iconst 0, 1) := by decide +kernel
theorem dX8_givenBy_177 : decode cX8_givenBy 177 = .ok (.iaload, 1) := by decide +kernel
theorem dX8_givenBy_178 : decode cX8_givenBy 178 = .ok (.ireturn, 1) := by decide +kernel
theorem dX8_gives_0 : decode cX8_gives 0 = .ok (.aload_n 0, 1) := by decide +kernel
theorem dX8_gives_1 : decode cX8_gives 1 = .ok (.iload_n 1, 1) := by decide +kernel
theorem dX8_gives_2 : decode cX8_gives 2 = .ok (.invokevirtual 121, 3) := by decide +kernel
theorem dX8_gives_5 : decode cX8_gives 5 = .ok (.ifCond .eq 11, 3) := by decide +kernel
theorem dX8_gives_8 : decode cX8_gives 8 = .ok (.aload_n 0, 1) := by decide +kernel
theorem dX8_gives_9 : decode cX8_gives 9 = .ok (.iload_n 2, 1) := by decide +kernel
theorem dX8_gives_10 : decode cX8_gives 10 = .ok (.invokevirtual 121, 3) := by decide +kernel
theorem dX8_gives_13 : decode cX8_gives 13 = .ok (.ifCond .ne 10, 3) := by decide +kernel
theorem dX8_gives_16 : decode cX8_gives 16 = .ok (.aload_n 0, 1) := by decide +kernel
theorem dX8_gives_17 : decode cX8_gives 17 = .ok (.ldc 64, 2) := by decide +kernel
theorem dX8_gives_19 : decode cX8_gives 19 = .ok (.invokevirtual 81, 3) := by decide +kernel
theorem dX8_gives_22 : decode cX8_gives 22 = .ok (.ireturn, 1) := by decide +kernel
theorem dX8_gives_23 : decode cX8_gives 23 = .ok (.aload_n 0, 1) := by decide +kernel
theorem dX8_gives_24 : decode cX8_gives 24 = .ok (.getfield 7, 3) := by decide +kernel
theorem dX8_gives_27 : decode cX8_gives 27 = .ok (.sipush 190, 3) := by decide +kernel
theorem dX8_gives_30 : decode cX8_gives 30 = .ok (.iaload, 1) := by decide +kernel
theorem dX8_gives_31 : decode cX8_gives 31 = .ok (.ifCond .ne 12, 3) := by decide +kernel
theorem dX8_gives_34 : decode cX8_gives 34 = .ok (.aload_n 0, 1) := by decide +kernel
theorem dX8_gives_35 : decode cX8_gives 35 = .ok (.ldc 197, 2) := by decide +kernel
theorem dX8_gives_37 : decode cX8_gives 37 = .ok (.invokevirtual 81, 3) := by decide +kernel
theorem dX8_gives_40 : decode cX8_gives 40 = .ok (.goto 9, 3) := by decide +kernel
theorem dX8_gives_43 : decode cX8_gives 43 = .ok (.aload_n 0, 1) := by decide +kernel
theorem dX8_gives_44 : decode cX8_gives 44 = .ok (.iload_n 1, 1) := by decide +kernel
theorem dX8_gives_45 : decode cX8_gives 45 = .ok (.iload_n 2, 1) := by decide +kernel
theorem dX8_gives_46 : decode cX8_gives 46 = .ok (.invokevirtual 108, 3) := by decide +kernel
theorem dX8_gives_49 : decode cX8_gives 49 = .ok (.ireturn, 1) := by decide +kernel
theorem dX8_untell_0 : decode cX8_untell 0 = .ok (.aload_n 0, 1) := by decide +kernel
theorem dX8_untell_1 : decode cX8_untell 1 = .ok (.sipush 190, 3) := by decide +kernel
theorem dX8_untell_4 : decode cX8_untell 4 = .ok (.iconst 0, 1) := by decide +kernel
theorem dX8_untell_5 : decode cX8_untell 5 = .ok (.invokevirtual 134, 3) := by decide +kernel
theorem dX8_untell_8 : decode cX8_untell 8 = .ok (.ifCond .ne 7, 3) := by decide +kernel
theorem dX8_untell_11 : decode cX8_untell 11 = .ok (.iconst 0, 1) := by decide +kernel
theorem dX8_untell_12 : decode cX8_untell 12 = .ok (.goto 4, 3) := by decide +kernel
theorem dX8_untell_15 : decode cX8_untell 15 = .ok (.iconst 1, 1) := by decide +kernel
theorem dX8_untell_16 : decode cX8_untell 16 = .ok (.ireturn, 1) := by decide +kernel
theorem dX8_isSheet_0 : decode cX8_isSheet 0 = .ok (.iload_n 0, 1) := by decide +kernel
theorem dX8_isSheet_1 : decode cX8_isSheet 1 = .ok (.ifCond .lt 12, 3) := by decide +kernel
theorem dX8_isSheet_4 : decode cX8_isSheet 4 = .ok (.iload_n 0, 1) := by decide +kernel
theorem dX8_isSheet_5 : decode cX8_isSheet 5 = .ok (.iconst 4, 1) := by decide +kernel
theorem dX8_isSheet_6 : decode cX8_isSheet 6 = .ok (.if_icmp .ge 7, 3) := by decide +kernel
theorem dX8_isSheet_9 : decode cX8_isSheet 9 = .ok (.iconst 1, 1) := by decide +kernel
theorem dX8_isSheet_10 : decode cX8_isSheet 10 = .ok (.goto 4, 3) := by decide +kernel
theorem dX8_isSheet_13 : decode cX8_isSheet 13 = .ok (.iconst 0, 1) := by decide +kernel
theorem dX8_isSheet_14 : decode cX8_isSheet 14 = .ok (.ireturn, 1) := by decide +kernel
theorem dX8_narrow_0 : decode cX8_narrow 0 = .ok (.iload_n 0, 1) := by decide +kernel
theorem dX8_narrow_1 : decode cX8_narrow 1 = .ok (.bipush 8, 2) := by decide +kernel
theorem dX8_narrow_3 : decode cX8_narrow 3 = .ok (.if_icmp .ne 10, 3) := by decide +kernel
theorem dX8_narrow_6 : decode cX8_narrow 6 = .ok (.lload_n 1, 1) := by decide +kernel
theorem dX8_narrow_7 : decode cX8_narrow 7 = .ok (.l2i, 1) := by decide +kernel
theorem dX8_narrow_8 : decode cX8_narrow 8 = .ok (.i2b, 1) := by decide +kernel
theorem dX8_narrow_9 : decode cX8_narrow 9 = .ok (.i2l, 1) := by decide +kernel
theorem dX8_narrow_10 : decode cX8_narrow 10 = .ok (.goto 17, 3) := by decide +kernel
theorem dX8_narrow_13 : decode cX8_narrow 13 = .ok (.iload_n 0, 1) := by decide +kernel
theorem dX8_narrow_14 : decode cX8_narrow 14 = .ok (.bipush 16, 2) := by decide +kernel
theorem dX8_narrow_16 : decode cX8_narrow 16 = .ok (.if_icmp .ne 10, 3) := by decide +kernel
theorem dX8_narrow_19 : decode cX8_narrow 19 = .ok (.lload_n 1, 1) := by decide +kernel
theorem dX8_narrow_20 : decode cX8_narrow 20 = .ok (.l2i, 1) := by decide +kernel
theorem dX8_narrow_21 : decode cX8_narrow 21 = .ok (.i2s, 1) := by decide +kernel
theorem dX8_narrow_22 : decode cX8_narrow 22 = .ok (.i2l, 1) := by decide +kernel
theorem dX8_narrow_23 : decode cX8_narrow 23 = .ok (.goto 4, 3) := by decide +kernel
theorem dX8_narrow_26 : decode cX8_narrow 26 = .ok (.lload_n 1, 1) := by decide +kernel
theorem dX8_narrow_27 : decode cX8_narrow 27 = .ok (.lreturn, 1) := by decide +kernel
theorem dX8_sheet_0 : decode cX8_sheet 0 = .ok (.iload_n 1, 1) := by decide +kernel
theorem dX8_sheet_1 : decode cX8_sheet 1 = .ok (.invokestatic 253, 3) := by decide +kernel
theorem dX8_sheet_4 : decode cX8_sheet 4 = .ok (.ifCond .eq 25, 3) := by decide +kernel
theorem dX8_sheet_7 : decode cX8_sheet 7 = .ok (.iload_n 2, 1) := by decide +kernel
theorem dX8_sheet_8 : decode cX8_sheet 8 = .ok (.ifCond .eq 28, 3) := by decide +kernel
theorem dX8_sheet_11 : decode cX8_sheet 11 = .ok (.iload_n 2, 1) := by decide +kernel
theorem dX8_sheet_12 : decode cX8_sheet 12 = .ok (.bipush 8, 2) := by decide +kernel
theorem dX8_sheet_14 : decode cX8_sheet 14 = .ok (.if_icmp .eq 22, 3) := by decide +kernel
theorem dX8_sheet_17 : decode cX8_sheet 17 = .ok (.iload_n 2, 1) := by decide +kernel
theorem dX8_sheet_18 : decode cX8_sheet 18 = .ok (.bipush 16, 2) := by decide +kernel
theorem dX8_sheet_20 : decode cX8_sheet 20 = .ok (.if_icmp .eq 16, 3) := by decide +kernel
theorem dX8_sheet_23 : decode cX8_sheet 23 = .ok (.iload_n 2, 1) := by decide +kernel
theorem dX8_sheet_24 : decode cX8_sheet 24 = .ok (.bipush 64, 2) := by decide +kernel
theorem dX8_sheet_26 : decode cX8_sheet 26 = .ok (.if_icmp .eq 10, 3) := by decide +kernel
theorem dX8_sheet_29 : decode cX8_sheet 29 = .ok (.aload_n 0, 1) := by decide +kernel
theorem dX8_sheet_30 : decode cX8_sheet 30 = .ok (.ldc 64, 2) := by decide +kernel
theorem dX8_sheet_32 : decode cX8_sheet 32 = .ok (.invokevirtual 81, 3) := by decide +kernel
theorem dX8_sheet_35 : decode cX8_sheet 35 = .ok (.ireturn, 1) := by decide +kernel
theorem dX8_sheet_36 : decode cX8_sheet 36 = .ok (.iload_n 3, 1) := by decide +kernel
theorem dX8_sheet_37 : decode cX8_sheet 37 = .ok (.ifCond .ge 11, 3) := by decide +kernel
theorem dX8_sheet_40 : decode cX8_sheet 40 = .ok (.aload_n 0, 1) := by decide +kernel
theorem dX8_sheet_41 : decode cX8_sheet 41 = .ok (.ldc_w 256, 3) := by decide +kernel
theorem dX8_sheet_44 : decode cX8_sheet 44 = .ok (.invokevirtual 81, 3) := by decide +kernel
theorem dX8_sheet_47 : decode cX8_sheet 47 = .ok (.ireturn, 1) := by decide +kernel
theorem dX8_sheet_48 : decode cX8_sheet 48 = .ok (.iload_n 3, 1) := by decide +kernel
theorem dX8_sheet_49 : decode cX8_sheet 49 = .ok (.bipush 40, 2) := by decide +kernel
theorem dX8_sheet_51 : decode cX8_sheet 51 = .ok (.if_icmp .le 10, 3) := by decide +kernel
theorem dX8_sheet_54 : decode cX8_sheet 54 = .ok (.aload_n 0, 1) := by decide +kernel
theorem dX8_sheet_55 : decode cX8_sheet 55 = .ok (.ldc 64, 2) := by decide +kernel
theorem dX8_sheet_57 : decode cX8_sheet 57 = .ok (.invokevirtual 81, 3) := by decide +kernel
theorem dX8_sheet_60 : decode cX8_sheet 60 = .ok (.ireturn, 1) := by decide +kernel
theorem dX8_sheet_61 : decode cX8_sheet 61 = .ok (.aload_n 0, 1) := by decide +kernel
theorem dX8_sheet_62 : decode cX8_sheet 62 = .ok (.getfield 22, 3) := by decide +kernel
theorem dX8_sheet_65 : decode cX8_sheet 65 = .ok (.iload_n 1, 1) := by decide +kernel
theorem dX8_sheet_66 : decode cX8_sheet 66 = .ok (.iload_n 2, 1) := by decide +kernel
theorem dX8_sheet_67 : decode cX8_sheet 67 = .ok (.ifCond .ne 7, 3) := by decide +kernel
theorem dX8_sheet_70 : decode cX8_sheet 70 = .ok (.iconst (-1), 1) := by decide +kernel
theorem dX8_sheet_71 : decode cX8_sheet 71 = .ok (.goto 4, 3) := by decide +kernel
theorem dX8_sheet_74 : decode cX8_sheet 74 = .ok (.iload_n 2, 1) := by decide +kernel
theorem dX8_sheet_75 : decode cX8_sheet 75 = .ok (.iastore, 1) := by decide +kernel
theorem dX8_sheet_76 : decode cX8_sheet 76 = .ok (.aload_n 0, 1) := by decide +kernel
theorem dX8_sheet_77 : decode cX8_sheet 77 = .ok (.getfield 25, 3) := by decide +kernel
theorem dX8_sheet_80 : decode cX8_sheet 80 = .ok (.iload_n 1, 1) := by decide +kernel
theorem dX8_sheet_81 : decode cX8_sheet 81 = .ok (.iload_n 2, 1) := by decide +kernel
theorem dX8_sheet_82 : decode cX8_sheet 82 = .ok (.ifCond .ne 7, 3) := by decide +kernel
theorem dX8_sheet_85 : decode cX8_sheet 85 = .ok (.iconst 0, 1) := by decide +kernel
theorem dX8_sheet_86 : decode cX8_sheet 86 = .ok (.goto 4, 3) := by decide +kernel
theorem dX8_sheet_89 : decode cX8_sheet 89 = .ok (.iload_n 3, 1) := by decide +kernel
theorem dX8_sheet_90 : decode cX8_sheet 90 = .ok (.iastore, 1) := by decide +kernel
theorem dX8_sheet_91 : decode cX8_sheet 91 = .ok (.iconst 0, 1) := by decide +kernel
theorem dX8_sheet_92 : decode cX8_sheet 92 = .ok (.istore 4, 2) := by decide +kernel
theorem dX8_sheet_94 : decode cX8_sheet 94 = .ok (.iload 4, 2) := by decide +kernel
theorem dX8_sheet_96 : decode cX8_sheet 96 = .ok (.bipush 40, 2) := by decide +kernel
theorem dX8_sheet_98 : decode cX8_sheet 98 = .ok (.if_icmp .ge 22, 3) := by decide +kernel
theorem dX8_sheet_101 : decode cX8_sheet 101 = .ok (.aload_n 0, 1) := by decide +kernel
theorem dX8_sheet_102 : decode cX8_sheet 102 = .ok (.getfield 28, 3) := by decide +kernel
theorem dX8_sheet_105 : decode cX8_sheet 105 = .ok (.bipush 40, 2) := by decide +kernel
theorem dX8_sheet_107 : decode cX8_sheet 107 = .ok (.iload_n 1, 1) := by decide +kernel
theorem dX8_sheet_108 : decode cX8_sheet 108 = .ok (.imul, 1) := by decide +kernel
theorem dX8_sheet_109 : decode cX8_sheet 109 = .ok (.iload 4, 2) := by decide +kernel
theorem dX8_sheet_111 : decode cX8_sheet 111 = .ok (.iadd, 1) := by decide +kernel
theorem dX8_sheet_112 : decode cX8_sheet 112 = .ok (.lconst 0, 1) := by decide +kernel
theorem dX8_sheet_113 : decode cX8_sheet 113 = .ok (.lastore, 1) := by decide +kernel
theorem dX8_sheet_114 : decode cX8_sheet 114 = .ok (.iinc 4 1, 3) := by decide +kernel
theorem dX8_sheet_117 : decode cX8_sheet 117 = .ok (.goto (-23), 3) := by decide +kernel
theorem dX8_sheet_120 : decode cX8_sheet 120 = .ok (.aload_n 0, 1) := by decide +kernel
theorem dX8_sheet_121 : decode cX8_sheet 121 = .ok (.getfield 25, 3) := by decide +kernel
theorem dX8_sheet_124 : decode cX8_sheet 124 = .ok (.iload_n 1, 1) := by decide +kernel
theorem dX8_sheet_125 : decode cX8_sheet 125 = .ok (.iaload, 1) := by decide +kernel
theorem dX8_sheet_126 : decode cX8_sheet 126 = .ok (.ireturn, 1) := by decide +kernel
theorem dX8_write_0 : decode cX8_write 0 = .ok (.iload_n 1, 1) := by decide +kernel
theorem dX8_write_1 : decode cX8_write 1 = .ok (.invokestatic 253, 3) := by decide +kernel
theorem dX8_write_4 : decode cX8_write 4 = .ok (.ifCond .ne 11, 3) := by decide +kernel
theorem dX8_write_7 : decode cX8_write 7 = .ok (.aload_n 0, 1) := by decide +kernel
theorem dX8_write_8 : decode cX8_write 8 = .ok (.ldc 64, 2) := by decide +kernel
theorem dX8_write_10 : decode cX8_write 10 = .ok (.invokevirtual 81, 3) := by decide +kernel
theorem dX8_write_13 : decode cX8_write 13 = .ok (.i2l, 1) := by decide +kernel
theorem dX8_write_14 : decode cX8_write 14 = .ok (.lreturn, 1) := by decide +kernel
theorem dX8_write_15 : decode cX8_write 15 = .ok (.aload_n 0, 1) := by decide +kernel
theorem dX8_write_16 : decode cX8_write 16 = .ok (.getfield 22, 3) := by decide +kernel
theorem dX8_write_19 : decode cX8_write 19 = .ok (.iload_n 1, 1) := by decide +kernel
theorem dX8_write_20 : decode cX8_write 20 = .ok (.iaload, 1) := by decide +kernel
theorem dX8_write_21 : decode cX8_write 21 = .ok (.ifCond .ge 12, 3) := by decide +kernel
theorem dX8_write_24 : decode cX8_write 24 = .ok (.aload_n 0, 1) := by decide +kernel
theorem dX8_write_25 : decode cX8_write 25 = .ok (.ldc_w 257, 3) := by decide +kernel
theorem dX8_write_28 : decode cX8_write 28 = .ok (.invokevirtual 81, 3) := by decide +kernel
theorem dX8_write_31 : decode cX8_write 31 = .ok (.i2l, 1) := by decide +kernel
theorem dX8_write_32 : decode cX8_write 32 = .ok (.lreturn, 1) := by decide +kernel
theorem dX8_write_33 : decode cX8_write 33 = .ok (.iload_n 2, 1) := by decide +kernel
theorem dX8_write_34 : decode cX8_write 34 = .ok (.i2l, 1) := by decide +kernel
theorem dX8_write_35 : decode cX8_write 35 = .ok (.lconst 0, 1) := by decide +kernel
theorem dX8_write_36 : decode cX8_write 36 = .ok (.aload_n 0, 1) := by decide +kernel
theorem dX8_write_37 : decode cX8_write 37 = .ok (.getfield 25, 3) := by decide +kernel
theorem dX8_write_40 : decode cX8_write 40 = .ok (.iload_n 1, 1) := by decide +kernel
theorem dX8_write_41 : decode cX8_write 41 = .ok (.iaload, 1) := by decide +kernel
theorem dX8_write_42 : decode cX8_write 42 = .ok (.iconst 1, 1) := by decide +kernel
theorem dX8_write_43 : decode cX8_write 43 = .ok (.isub, 1) := by decide +kernel
theorem dX8_write_44 : decode cX8_write 44 = .ok (.i2l, 1) := by decide +kernel
theorem dX8_write_45 : decode cX8_write 45 = .ok (.invokestatic 71, 3) := by decide +kernel
theorem dX8_write_48 : decode cX8_write 48 = .ok (.ifCond .ne 11, 3) := by decide +kernel
theorem dX8_write_51 : decode cX8_write 51 = .ok (.aload_n 0, 1) := by decide +kernel
theorem dX8_write_52 : decode cX8_write 52 = .ok (.ldc 64, 2) := by decide +kernel
theorem dX8_write_54 : decode cX8_write 54 = .ok (.invokevirtual 81, 3) := by decide +kernel
theorem dX8_write_57 : decode cX8_write 57 = .ok (.i2l, 1) := by decide +kernel
theorem dX8_write_58 : decode cX8_write 58 = .ok (.lreturn, 1) := by decide +kernel
theorem dX8_write_59 : decode cX8_write 59 = .ok (.aload_n 0, 1) := by decide +kernel
theorem dX8_write_60 : decode cX8_write 60 = .ok (.getfield 28, 3) := by decide +kernel
theorem dX8_write_63 : decode cX8_write 63 = .ok (.bipush 40, 2) := by decide +kernel
theorem dX8_write_65 : decode cX8_write 65 = .ok (.iload_n 1, 1) := by decide +kernel
theorem dX8_write_66 : decode cX8_write 66 = .ok (.imul, 1) := by decide +kernel
theorem dX8_write_67 : decode cX8_write 67 = .ok (.iload_n 2, 1) := by decide +kernel
theorem dX8_write_68 : decode cX8_write 68 = .ok (.iadd, 1) := by decide +kernel
theorem dX8_write_69 : decode cX8_write 69 = .ok (.laload, 1) := by decide +kernel
theorem dX8_write_70 : decode cX8_write 70 = .ok (.lstore 5, 2) := by decide +kernel
theorem dX8_write_72 : decode cX8_write 72 = .ok (.aload_n 0, 1) := by decide +kernel
theorem dX8_write_73 : decode cX8_write 73 = .ok (.getfield 28, 3) := by decide +kernel
theorem dX8_write_76 : decode cX8_write 76 = .ok (.bipush 40, 2) := by decide +kernel
theorem dX8_write_78 : decode cX8_write 78 = .ok (.iload_n 1, 1) := by decide +kernel
theorem dX8_write_79 : decode cX8_write 79 = .ok (.imul, 1) := by decide +kernel
theorem dX8_write_80 : decode cX8_write 80 = .ok (.iload_n 2, 1) := by decide +kernel
theorem dX8_write_81 : decode cX8_write 81 = .ok (.iadd, 1) := by decide +kernel
theorem dX8_write_82 : decode cX8_write 82 = .ok (.aload_n 0, 1) := by decide +kernel
theorem dX8_write_83 : decode cX8_write 83 = .ok (.getfield 22, 3) := by decide +kernel
theorem dX8_write_86 : decode cX8_write 86 = .ok (.iload_n 1, 1) := by decide +kernel
theorem dX8_write_87 : decode cX8_write 87 = .ok (.iaload, 1) := by decide +kernel
theorem dX8_write_88 : decode cX8_write 88 = .ok (.lload_n 3, 1) := by decide +kernel
theorem dX8_write_89 : decode cX8_write 89 = .ok (.invokestatic 258, 3) := by decide +kernel
theorem dX8_write_92 : decode cX8_write 92 = .ok (.lastore, 1) := by decide +kernel
theorem dX8_write_93 : decode cX8_write 93 = .ok (.lload 5, 2) := by decide +kernel
theorem dX8_write_95 : decode cX8_write 95 = .ok (.lreturn, 1) := by decide +kernel
theorem dX8_copy_0 : decode cX8_copy 0 = .ok (.iload_n 1, 1) := by decide +kernel
theorem dX8_copy_1 : decode cX8_copy 1 = .ok (.invokestatic 253, 3) := by decide +kernel
theorem dX8_copy_4 : decode cX8_copy 4 = .ok (.ifCond .eq 10, 3) := by decide +kernel
theorem dX8_copy_7 : decode cX8_copy 7 = .ok (.iload_n 3, 1) := by decide +kernel
theorem dX8_copy_8 : decode cX8_copy 8 = .ok (.invokestatic 253, 3) := by decide +kernel
theorem dX8_copy_11 : decode cX8_copy 11 = .ok (.ifCond .ne 10, 3) := by decide +kernel
theorem dX8_copy_14 : decode cX8_copy 14 = .ok (.aload_n 0, 1) := by decide +kernel
theorem dX8_copy_15 : decode cX8_copy 15 = .ok (.ldc 64, 2) := by decide +kernel
theorem dX8_copy_17 : decode cX8_copy 17 = .ok (.invokevirtual 81, 3) := by decide +kernel
theorem dX8_copy_20 : decode cX8_copy 20 = .ok (.ireturn, 1) := by decide +kernel
theorem dX8_copy_21 : decode cX8_copy 21 = .ok (.aload_n 0, 1) := by decide +kernel
theorem dX8_copy_22 : decode cX8_copy 22 = .ok (.getfield 22, 3) := by decide +kernel
theorem dX8_copy_25 : decode cX8_copy 25 = .ok (.iload_n 1, 1) := by decide +kernel
theorem dX8_copy_26 : decode cX8_copy 26 = .ok (.iaload, 1) := by decide +kernel
theorem dX8_copy_27 : decode cX8_copy 27 = .ok (.ifCond .lt 12, 3) := by decide +kernel
theorem dX8_copy_30 : decode cX8_copy 30 = .ok (.aload_n 0, 1) := by decide +kernel
theorem dX8_copy_31 : decode cX8_copy 31 = .ok (.getfield 22, 3) := by decide +kernel
theorem dX8_copy_34 : decode cX8_copy 34 = .ok (.iload_n 3, 1) := by decide +kernel
theorem dX8_copy_35 : decode cX8_copy 35 = .ok (.iaload, 1) := by decide +kernel
theorem dX8_copy_36 : decode cX8_copy 36 = .ok (.ifCond .ge 11, 3) := by decide +kernel
theorem dX8_copy_39 : decode cX8_copy 39 = .ok (.aload_n 0, 1) := by decide +kernel
theorem dX8_copy_40 : decode cX8_copy 40 = .ok (.ldc_w 257, 3) := by decide +kernel
theorem dX8_copy_43 : decode cX8_copy 43 = .ok (.invokevirtual 81, 3) := by decide +kernel
theorem dX8_copy_46 : decode cX8_copy 46 = .ok (.ireturn, 1) := by decide +kernel
theorem dX8_copy_47 : decode cX8_copy 47 = .ok (.aload_n 0, 1) := by decide +kernel
theorem dX8_copy_48 : decode cX8_copy 48 = .ok (.getfield 22, 3) := by decide +kernel
theorem dX8_copy_51 : decode cX8_copy 51 = .ok (.iload_n 1, 1) := by decide +kernel
theorem dX8_copy_52 : decode cX8_copy 52 = .ok (.iaload, 1) := by decide +kernel
theorem dX8_copy_53 : decode cX8_copy 53 = .ok (.aload_n 0, 1) := by decide +kernel
theorem dX8_copy_54 : decode cX8_copy 54 = .ok (.getfield 22, 3) := by decide +kernel
theorem dX8_copy_57 : decode cX8_copy 57 = .ok (.iload_n 3, 1) := by decide +kernel
theorem dX8_copy_58 : decode cX8_copy 58 = .ok (.iaload, 1) := by decide +kernel
theorem dX8_copy_59 : decode cX8_copy 59 = .ok (.if_icmp .eq 10, 3) := by decide +kernel
theorem dX8_copy_62 : decode cX8_copy 62 = .ok (.aload_n 0, 1) := by decide +kernel
theorem dX8_copy_63 : decode cX8_copy 63 = .ok (.ldc 137, 2) := by decide +kernel
theorem dX8_copy_65 : decode cX8_copy 65 = .ok (.invokevirtual 81, 3) := by decide +kernel
theorem dX8_copy_68 : decode cX8_copy 68 = .ok (.ireturn, 1) := by decide +kernel
theorem dX8_copy_69 : decode cX8_copy 69 = .ok (.iload_n 2, 1) := by decide +kernel
theorem dX8_copy_70 : decode cX8_copy 70 = .ok (.ifCond .lt 40, 3) := by decide +kernel
theorem dX8_copy_73 : decode cX8_copy 73 = .ok (.iload 4, 2) := by decide +kernel
theorem dX8_copy_75 : decode cX8_copy 75 = .ok (.ifCond .lt 35, 3) := by decide +kernel
theorem dX8_copy_78 : decode cX8_copy 78 = .ok (.iload 5, 2) := by decide +kernel
theorem dX8_copy_80 : decode cX8_copy 80 = .ok (.ifCond .lt 30, 3) := by decide +kernel
theorem dX8_copy_83 : decode cX8_copy 83 = .ok (.iload 5, 2) := by decide +kernel
theorem dX8_copy_85 : decode cX8_copy 85 = .ok (.aload_n 0, 1) := by decide +kernel
theorem dX8_copy_86 : decode cX8_copy 86 = .ok (.getfield 25, 3) := by decide +kernel
theorem dX8_copy_89 : decode cX8_copy 89 = .ok (.iload_n 1, 1) := by decide +kernel
theorem dX8_copy_90 : decode cX8_copy 90 = .ok (.iaload, 1) := by decide +kernel
theorem dX8_copy_91 : decode cX8_copy 91 = .ok (.iload_n 2, 1) := by decide +kernel
theorem dX8_copy_92 : decode cX8_copy 92 = .ok (.isub, 1) := by decide +kernel
theorem dX8_copy_93 : decode cX8_copy 93 = .ok (.if_icmp .gt 17, 3) := by decide +kernel
theorem dX8_copy_96 : decode cX8_copy 96 = .ok (.iload 5, 2) := by decide +kernel
theorem dX8_copy_98 : decode cX8_copy 98 = .ok (.aload_n 0, 1) := by decide +kernel
theorem dX8_copy_99 : decode cX8_copy 99 = .ok (.getfield 25, 3) := by decide +kernel
theorem dX8_copy_102 : decode cX8_copy 102 = .ok (.iload_n 3, 1) := by decide +kernel
theorem dX8_copy_103 : decode cX8_copy 103 = .ok (.iaload, 1) := by decide +kernel
theorem dX8_copy_104 : decode cX8_copy 104 = .ok (.iload 4, 2) := by decide +kernel
theorem dX8_copy_106 : decode cX8_copy 106 = .ok (.isub, 1) := by decide +kernel
theorem dX8_copy_107 : decode cX8_copy 107 = .ok (.if_icmp .le 10, 3) := by decide +kernel
theorem dX8_copy_110 : decode cX8_copy 110 = .ok (.aload_n 0, 1) := by decide +kernel
theorem dX8_copy_111 : decode cX8_copy 111 = .ok (.ldc 64, 2) := by decide +kernel
theorem dX8_copy_113 : decode cX8_copy 113 = .ok (.invokevirtual 81, 3) := by decide +kernel
theorem dX8_copy_116 : decode cX8_copy 116 = .ok (.ireturn, 1) := by decide +kernel
theorem dX8_copy_117 : decode cX8_copy 117 = .ok (.bipush 40, 2) := by decide +kernel
theorem dX8_copy_119 : decode cX8_copy 119 = .ok (.iload_n 1, 1) := by decide +kernel
theorem dX8_copy_120 : decode cX8_copy 120 = .ok (.imul, 1) := by decide +kernel
theorem dX8_copy_121 : decode cX8_copy 121 = .ok (.iload_n 2, 1) := by decide +kernel
theorem dX8_copy_122 : decode cX8_copy 122 = .ok (.iadd, 1) := by decide +kernel
theorem dX8_copy_123 : decode cX8_copy 123 = .ok (.istore 6, 2) := by decide +kernel
theorem dX8_copy_125 : decode cX8_copy 125 = .ok (.bipush 40, 2) := by decide +kernel
theorem dX8_copy_127 : decode cX8_copy 127 = .ok (.iload_n 3, 1) := by decide +kernel
theorem dX8_copy_128 : decode cX8_copy 128 = .ok (.imul, 1) := by decide +kernel
theorem dX8_copy_129 : decode cX8_copy 129 = .ok (.iload 4, 2) := by decide +kernel
theorem dX8_copy_131 : decode cX8_copy 131 = .ok (.iadd, 1) := by decide +kernel
theorem dX8_copy_132 : decode cX8_copy 132 = .ok (.istore 7, 2) := by decide +kernel
theorem dX8_copy_134 : decode cX8_copy 134 = .ok (.iconst 0, 1) := by decide +kernel
theorem dX8_copy_135 : decode cX8_copy 135 = .ok (.istore 8, 2) := by decide +kernel
theorem dX8_copy_137 : decode cX8_copy 137 = .ok (.iload 8, 2) := by decide +kernel
theorem dX8_copy_139 : decode cX8_copy 139 = .ok (.iload 5, 2) := by decide +kernel
theorem dX8_copy_141 : decode cX8_copy 141 = .ok (.if_icmp .ge 50, 3) := by decide +kernel
theorem dX8_copy_144 : decode cX8_copy 144 = .ok (.iload 6, 2) := by decide +kernel
theorem dX8_copy_146 : decode cX8_copy 146 = .ok (.iload 7, 2) := by decide +kernel
theorem dX8_copy_148 : decode cX8_copy 148 = .ok (.if_icmp .ge 13, 3) := by decide +kernel
theorem dX8_copy_151 : decode cX8_copy 151 = .ok (.iload 5, 2) := by decide +kernel
theorem dX8_copy_153 : decode cX8_copy 153 = .ok (.iconst 1, 1) := by decide +kernel
theorem dX8_copy_154 : decode cX8_copy 154 = .ok (.isub, 1) := by decide +kernel
theorem dX8_copy_155 : decode cX8_copy 155 = .ok (.iload 8, 2) := by decide +kernel
theorem dX8_copy_157 : decode cX8_copy 157 = .ok (.isub, 1) := by decide +kernel
theorem dX8_copy_158 : decode cX8_copy 158 = .ok (.goto 5, 3) := by decide +kernel
theorem dX8_copy_161 : decode cX8_copy 161 = .ok (.iload 8, 2) := by decide +kernel
theorem dX8_copy_163 : decode cX8_copy 163 = .ok (.istore 9, 2) := by decide +kernel
theorem dX8_copy_165 : decode cX8_copy 165 = .ok (.aload_n 0, 1) := by decide +kernel
theorem dX8_copy_166 : decode cX8_copy 166 = .ok (.getfield 28, 3) := by decide +kernel
theorem dX8_copy_169 : decode cX8_copy 169 = .ok (.iload 7, 2) := by decide +kernel
theorem dX8_copy_171 : decode cX8_copy 171 = .ok (.iload 9, 2) := by decide +kernel
theorem dX8_copy_173 : decode cX8_copy 173 = .ok (.iadd, 1) := by decide +kernel
theorem dX8_copy_174 : decode cX8_copy 174 = .ok (.aload_n 0, 1) := by decide +kernel
theorem dX8_copy_175 : decode cX8_copy 175 = .ok (.getfield 28, 3) := by decide +kernel
theorem dX8_copy_178 : decode cX8_copy 178 = .ok (.iload 6, 2) := by decide +kernel
theorem dX8_copy_180 : decode cX8_copy 180 = .ok (.iload 9, 2) := by decide +kernel
theorem dX8_copy_182 : decode cX8_copy 182 = .ok (.iadd, 1) := by decide +kernel
theorem dX8_copy_183 : decode cX8_copy 183 = .ok (.laload, 1) := by decide +kernel
theorem dX8_copy_184 : decode cX8_copy 184 = .ok (.lastore, 1) := by decide +kernel
theorem dX8_copy_185 : decode cX8_copy 185 = .ok (.iinc 8 1, 3) := by decide +kernel
theorem dX8_copy_188 : decode cX8_copy 188 = .ok (.goto (-51), 3) := by decide +kernel
theorem dX8_copy_191 : decode cX8_copy 191 = .ok (.iload 5, 2) := by decide +kernel
theorem dX8_copy_193 : decode cX8_copy 193 = .ok (.ireturn, 1) := by decide +kernel
theorem dX8_lays_0 : decode cX8_lays 0 = .ok (.iload_n 1, 1) := by decide +kernel
theorem dX8_lays_1 : decode cX8_lays 1 = .ok (.invokestatic 253, 3) := by decide +kernel
theorem dX8_lays_4 : decode cX8_lays 4 = .ok (.ifCond .ne 10, 3) := by decide +kernel
theorem dX8_lays_7 : decode cX8_lays 7 = .ok (.aload_n 0, 1) := by decide +kernel
theorem dX8_lays_8 : decode cX8_lays 8 = .ok (.ldc 64, 2) := by decide +kernel
theorem dX8_lays_10 : decode cX8_lays 10 = .ok (.invokevirtual 81, 3) := by decide +kernel
theorem dX8_lays_13 : decode cX8_lays 13 = .ok (.ireturn, 1) := by decide +kernel
theorem dX8_lays_14 : decode cX8_lays 14 = .ok (.aload_n 0, 1) := by decide +kernel
theorem dX8_lays_15 : decode cX8_lays 15 = .ok (.getfield 22, 3) := by decide +kernel
theorem dX8_lays_18 : decode cX8_lays 18 = .ok (.iload_n 1, 1) := by decide +kernel
theorem dX8_lays_19 : decode cX8_lays 19 = .ok (.iaload, 1) := by decide +kernel
theorem dX8_lays_20 : decode cX8_lays 20 = .ok (.ifCond .ge 11, 3) := by decide +kernel
theorem dX8_lays_23 : decode cX8_lays 23 = .ok (.aload_n 0, 1) := by decide +kernel
theorem dX8_lays_24 : decode cX8_lays 24 = .ok (.ldc_w 257, 3) := by decide +kernel
theorem dX8_lays_27 : decode cX8_lays 27 = .ok (.invokevirtual 81, 3) := by decide +kernel
theorem dX8_lays_30 : decode cX8_lays 30 = .ok (.ireturn, 1) := by decide +kernel
theorem dX8_lays_31 : decode cX8_lays 31 = .ok (.aload_n 0, 1) := by decide +kernel
theorem dX8_lays_32 : decode cX8_lays 32 = .ok (.iload_n 2, 1) := by decide +kernel
theorem dX8_lays_33 : decode cX8_lays 33 = .ok (.invokevirtual 121, 3) := by decide +kernel
theorem dX8_lays_36 : decode cX8_lays 36 = .ok (.ifCond .ne 10, 3) := by decide +kernel
theorem dX8_lays_39 : decode cX8_lays 39 = .ok (.aload_n 0, 1) := by decide +kernel
theorem dX8_lays_40 : decode cX8_lays 40 = .ok (.ldc 64, 2) := by decide +kernel
theorem dX8_lays_42 : decode cX8_lays 42 = .ok (.invokevirtual 81, 3) := by decide +kernel
theorem dX8_lays_45 : decode cX8_lays 45 = .ok (.ireturn, 1) := by decide +kernel
theorem dX8_lays_46 : decode cX8_lays 46 = .ok (.iconst 0, 1) := by decide +kernel
theorem dX8_lays_47 : decode cX8_lays 47 = .ok (.istore_n 3, 1) := by decide +kernel
theorem dX8_lays_48 : decode cX8_lays 48 = .ok (.iconst 0, 1) := by decide +kernel
theorem dX8_lays_49 : decode cX8_lays 49 = .ok (.istore 4, 2) := by decide +kernel
theorem dX8_lays_51 : decode cX8_lays 51 = .ok (.iload 4, 2) := by decide +kernel
theorem dX8_lays_53 : decode cX8_lays 53 = .ok (.aload_n 0, 1) := by decide +kernel
theorem dX8_lays_54 : decode cX8_lays 54 = .ok (.getfield 25, 3) := by decide +kernel
theorem dX8_lays_57 : decode cX8_lays 57 = .ok (.iload_n 1, 1) := by decide +kernel
theorem dX8_lays_58 : decode cX8_lays 58 = .ok (.iaload, 1) := by decide +kernel
theorem dX8_lays_59 : decode cX8_lays 59 = .ok (.if_icmp .ge 75, 3) := by decide +kernel
theorem dX8_lays_62 : decode cX8_lays 62 = .ok (.iload 4, 2) := by decide +kernel
theorem dX8_lays_64 : decode cX8_lays 64 = .ok (.aload_n 0, 1) := by decide +kernel
theorem dX8_lays_65 : decode cX8_lays 65 = .ok (.getfield 7, 3) := by decide +kernel
theorem dX8_lays_68 : decode cX8_lays 68 = .ok (.iconst 0, 1) := by decide +kernel
theorem dX8_lays_69 : decode cX8_lays 69 = .ok (.iaload, 1) := by decide +kernel
theorem dX8_lays_70 : decode cX8_lays 70 = .ok (.if_icmp .ge 64, 3) := by decide +kernel
theorem dX8_lays_73 : decode cX8_lays 73 = .ok (.aload_n 0, 1) := by decide +kernel
theorem dX8_lays_74 : decode cX8_lays 74 = .ok (.getfield 28, 3) := by decide +kernel
theorem dX8_lays_77 : decode cX8_lays 77 = .ok (.bipush 40, 2) := by decide +kernel
theorem dX8_lays_79 : decode cX8_lays 79 = .ok (.iload_n 1, 1) := by decide +kernel
theorem dX8_lays_80 : decode cX8_lays 80 = .ok (.imul, 1) := by decide +kernel
theorem dX8_lays_81 : decode cX8_lays 81 = .ok (.iload 4, 2) := by decide +kernel
theorem dX8_lays_83 : decode cX8_lays 83 = .ok (.iadd, 1) := by decide +kernel
theorem dX8_lays_84 : decode cX8_lays 84 = .ok (.laload, 1) := by decide +kernel
theorem dX8_lays_85 : decode cX8_lays 85 = .ok (.lstore 5, 2) := by decide +kernel
theorem dX8_lays_87 : decode cX8_lays 87 = .ok (.iload 4, 2) := by decide +kernel
theorem dX8_lays_89 : decode cX8_lays 89 = .ok (.iload_n 2, 1) := by decide +kernel
theorem dX8_lays_90 : decode cX8_lays 90 = .ok (.if_icmp .eq 38, 3) := by decide +kernel
theorem dX8_lays_93 : decode cX8_lays 93 = .ok (.lload 5, 2) := by decide +kernel
theorem dX8_lays_95 : decode cX8_lays 95 = .ok (.ldc2_w 138, 3) := by decide +kernel
theorem dX8_lays_98 : decode cX8_lays 98 = .ok (.ldc2_w 140, 3) := by decide +kernel
theorem dX8_lays_101 : decode cX8_lays 101 = .ok (.invokestatic 71, 3) := by decide +kernel
theorem dX8_lays_104 : decode cX8_lays 104 = .ok (.ifCond .eq 24, 3) := by decide +kernel
theorem dX8_lays_107 : decode cX8_lays 107 = .ok (.aload_n 0, 1) := by decide +kernel
theorem dX8_lays_108 : decode cX8_lays 108 = .ok (.getfield 7, 3) := by decide +kernel
theorem dX8_lays_111 : decode cX8_lays 111 = .ok (.bipush 74, 2) := by decide +kernel
theorem dX8_lays_113 : decode cX8_lays 113 = .ok (.bipush 10, 2) := by decide +kernel
theorem dX8_lays_115 : decode cX8_lays 115 = .ok (.iload_n 2, 1) := by decide +kernel
theorem dX8_lays_116 : decode cX8_lays 116 = .ok (.imul, 1) := by decide +kernel
theorem dX8_lays_117 : decode cX8_lays 117 = .ok (.iadd, 1) := by decide +kernel
theorem dX8_lays_118 : decode cX8_lays 118 = .ok (.iload 4, 2) := by decide +kernel
theorem dX8_lays_120 : decode cX8_lays 120 = .ok (.iadd, 1) := by decide +kernel
theorem dX8_lays_121 : decode cX8_lays 121 = .ok (.lload 5, 2) := by decide +kernel
theorem dX8_lays_123 : decode cX8_lays 123 = .ok (.l2i, 1) := by decide +kernel
theorem dX8_lays_124 : decode cX8_lays 124 = .ok (.iastore, 1) := by decide +kernel
theorem dX8_lays_125 : decode cX8_lays 125 = .ok (.iinc 3 1, 3) := by decide +kernel
theorem dX8_lays_128 : decode cX8_lays 128 = .ok (.iinc 4 1, 3) := by decide +kernel
theorem dX8_lays_131 : decode cX8_lays 131 = .ok (.goto (-80), 3) := by decide +kernel
theorem dX8_lays_134 : decode cX8_lays 134 = .ok (.iload_n 3, 1) := by decide +kernel
theorem dX8_lays_135 : decode cX8_lays 135 = .ok (.ireturn, 1) := by decide +kernel
theorem dX8_read_0 : decode cX8_read 0 = .ok (.iload_n 1, 1) := by decide +kernel
theorem dX8_read_1 : decode cX8_read 1 = .ok (.invokestatic 253, 3) := by decide +kernel
theorem dX8_read_4 : decode cX8_read 4 = .ok (.ifCond .ne 10, 3) := by decide +kernel
theorem dX8_read_7 : decode cX8_read 7 = .ok (.aload_n 0, 1) := by decide +kernel
theorem dX8_read_8 : decode cX8_read 8 = .ok (.ldc 64, 2) := by decide +kernel
theorem dX8_read_10 : decode cX8_read 10 = .ok (.invokevirtual 81, 3) := by decide +kernel
theorem dX8_read_13 : decode cX8_read 13 = .ok (.ireturn, 1) := by decide +kernel
theorem dX8_read_14 : decode cX8_read 14 = .ok (.aload_n 0, 1) := by decide +kernel
theorem dX8_read_15 : decode cX8_read 15 = .ok (.getfield 22, 3) := by decide +kernel
theorem dX8_read_18 : decode cX8_read 18 = .ok (.iload_n 1, 1) := by decide +kernel
theorem dX8_read_19 : decode cX8_read 19 = .ok (.iaload, 1) := by decide +kernel
theorem dX8_read_20 : decode cX8_read 20 = .ok (.ifCond .ge 11, 3) := by decide +kernel
theorem dX8_read_23 : decode cX8_read 23 = .ok (.aload_n 0, 1) := by decide +kernel
theorem dX8_read_24 : decode cX8_read 24 = .ok (.ldc_w 257, 3) := by decide +kernel
theorem dX8_read_27 : decode cX8_read 27 = .ok (.invokevirtual 81, 3) := by decide +kernel
theorem dX8_read_30 : decode cX8_read 30 = .ok (.ireturn, 1) := by decide +kernel
theorem dX8_read_31 : decode cX8_read 31 = .ok (.aload_n 0, 1) := by decide +kernel
theorem dX8_read_32 : decode cX8_read 32 = .ok (.invokevirtual 179, 3) := by decide +kernel
theorem dX8_read_35 : decode cX8_read 35 = .ok (.iconst 0, 1) := by decide +kernel
theorem dX8_read_36 : decode cX8_read 36 = .ok (.istore_n 2, 1) := by decide +kernel
theorem dX8_read_37 : decode cX8_read 37 = .ok (.iconst 0, 1) := by decide +kernel
theorem dX8_read_38 : decode cX8_read 38 = .ok (.istore_n 3, 1) := by decide +kernel
theorem dX8_read_39 : decode cX8_read 39 = .ok (.iload_n 3, 1) := by decide +kernel
theorem dX8_read_40 : decode cX8_read 40 = .ok (.aload_n 0, 1) := by decide +kernel
theorem dX8_read_41 : decode cX8_read 41 = .ok (.getfield 25, 3) := by decide +kernel
theorem dX8_read_44 : decode cX8_read 44 = .ok (.iload_n 1, 1) := by decide +kernel
theorem dX8_read_45 : decode cX8_read 45 = .ok (.iaload, 1) := by decide +kernel
theorem dX8_read_46 : decode cX8_read 46 = .ok (.if_icmp .ge 41, 3) := by decide +kernel
theorem dX8_read_49 : decode cX8_read 49 = .ok (.iload_n 2, 1) := by decide +kernel
theorem dX8_read_50 : decode cX8_read 50 = .ok (.ifCond .ne 37, 3) := by decide +kernel
theorem dX8_read_53 : decode cX8_read 53 = .ok (.aload_n 0, 1) := by decide +kernel
theorem dX8_read_54 : decode cX8_read 54 = .ok (.getfield 28, 3) := by decide +kernel
theorem dX8_read_57 : decode cX8_read 57 = .ok (.bipush 40, 2) := by decide +kernel
theorem dX8_read_59 : decode cX8_read 59 = .ok (.iload_n 1, 1) := by decide +kernel
theorem dX8_read_60 : decode cX8_read 60 = .ok (.imul, 1) := by decide +kernel
theorem dX8_read_61 : decode cX8_read 61 = .ok (.iload_n 3, 1) := by decide +kernel
theorem dX8_read_62 : decode cX8_read 62 = .ok (.iadd, 1) := by decide +kernel
theorem dX8_read_63 : decode cX8_read 63 = .ok (.laload, 1) := by decide +kernel
theorem dX8_read_64 : decode cX8_read 64 = .ok (.aload_n 0, 1) := by decide +kernel
theorem dX8_read_65 : decode cX8_read 65 = .ok (.invokevirtual 157, 3) := by decide +kernel
theorem dX8_read_68 : decode cX8_read 68 = .ok (.i2l, 1) := by decide +kernel
theorem dX8_read_69 : decode cX8_read 69 = .ok (.lcmp, 1) := by decide +kernel
theorem dX8_read_70 : decode cX8_read 70 = .ok (.ifCond .ne 7, 3) := by decide +kernel
theorem dX8_read_73 : decode cX8_read 73 = .ok (.iconst 0, 1) := by decide +kernel
theorem dX8_read_74 : decode cX8_read 74 = .ok (.goto 6, 3) := by decide +kernel
theorem dX8_read_77 : decode cX8_read 77 = .ok (.iload_n 3, 1) := by decide +kernel
theorem dX8_read_78 : decode cX8_read 78 = .ok (.iconst 1, 1) := by decide +kernel
theorem dX8_read_79 : decode cX8_read 79 = .ok (.iadd, 1) := by decide +kernel
theorem dX8_read_80 : decode cX8_read 80 = .ok (.istore_n 2, 1) := by decide +kernel
theorem dX8_read_81 : decode cX8_read 81 = .ok (.iinc 3 1, 3) := by decide +kernel
theorem dX8_read_84 : decode cX8_read 84 = .ok (.goto (-45), 3) := by decide +kernel
theorem dX8_read_87 : decode cX8_read 87 = .ok (.aload_n 0, 1) := by decide +kernel
theorem dX8_read_88 : decode cX8_read 88 = .ok (.invokevirtual 182, 3) := by decide +kernel
theorem dX8_read_91 : decode cX8_read 91 = .ok (.iload_n 2, 1) := by decide +kernel
theorem dX8_read_92 : decode cX8_read 92 = .ok (.ireturn, 1) := by decide +kernel
theorem dX8_image_0 : decode cX8_image 0 = .ok (.iconst 0, 1) := by decide +kernel
theorem dX8_image_1 : decode cX8_image 1 = .ok (.istore_n 1, 1) := by decide +kernel
theorem dX8_image_2 : decode cX8_image 2 = .ok (.iload_n 1, 1) := by decide +kernel
theorem dX8_image_3 : decode cX8_image 3 = .ok (.sipush 271, 3) := by decide +kernel
theorem dX8_image_6 : decode cX8_image 6 = .ok (.if_icmp .ge 21, 3) := by decide +kernel
theorem dX8_image_9 : decode cX8_image 9 = .ok (.aload_n 0, 1) := by decide +kernel
theorem dX8_image_10 : decode cX8_image 10 = .ok (.getfield 13, 3) := by decide +kernel
theorem dX8_image_13 : decode cX8_image 13 = .ok (.iload_n 1, 1) := by decide +kernel
theorem dX8_image_14 : decode cX8_image 14 = .ok (.aload_n 0, 1) := by decide +kernel
theorem dX8_image_15 : decode cX8_image 15 = .ok (.getfield 7, 3) := by decide +kernel
theorem dX8_image_18 : decode cX8_image 18 = .ok (.iload_n 1, 1) := by decide +kernel
theorem dX8_image_19 : decode cX8_image 19 = .ok (.iaload, 1) := by decide +kernel
theorem dX8_image_20 : decode cX8_image 20 = .ok (.iastore, 1) := by decide +kernel
theorem dX8_image_21 : decode cX8_image 21 = .ok (.iinc 1 1, 3) := by decide +kernel
theorem dX8_image_24 : decode cX8_image 24 = .ok (.goto (-22), 3) := by decide +kernel
theorem dX8_image_27 : decode cX8_image 27 = .ok (.aload_n 0, 1) := by decide +kernel
theorem dX8_image_28 : decode cX8_image 28 = .ok (.iconst 1, 1) := by decide +kernel
theorem dX8_image_29 : decode cX8_image 29 = .ok (.putfield 262, 3) := by decide +kernel
theorem dX8_image_32 : decode cX8_image 32 = .ok (.iconst 1, 1) := by decide +kernel
theorem dX8_image_33 : decode cX8_image 33 = .ok (.ireturn, 1) := by decide +kernel
theorem dX8_undo_0 : decode cX8_undo 0 = .ok (.aload_n 0, 1) := by decide +kernel
theorem dX8_undo_1 : decode cX8_undo 1 = .ok (.getfield 262, 3) := by decide +kernel
theorem dX8_undo_4 : decode cX8_undo 4 = .ok (.ifCond .ne 10, 3) := by decide +kernel
theorem dX8_undo_7 : decode cX8_undo 7 = .ok (.aload_n 0, 1) := by decide +kernel
theorem dX8_undo_8 : decode cX8_undo 8 = .ok (.ldc 197, 2) := by decide +kernel
theorem dX8_undo_10 : decode cX8_undo 10 = .ok (.invokevirtual 81, 3) := by decide +kernel
theorem dX8_undo_13 : decode cX8_undo 13 = .ok (.ireturn, 1) := by decide +kernel
theorem dX8_undo_14 : decode cX8_undo 14 = .ok (.iconst 0, 1) := by decide +kernel
theorem dX8_undo_15 : decode cX8_undo 15 = .ok (.istore_n 1, 1) := by decide +kernel
theorem dX8_undo_16 : decode cX8_undo 16 = .ok (.iload_n 1, 1) := by decide +kernel
theorem dX8_undo_17 : decode cX8_undo 17 = .ok (.sipush 271, 3) := by decide +kernel
theorem dX8_undo_20 : decode cX8_undo 20 = .ok (.if_icmp .ge 21, 3) := by decide +kernel
theorem dX8_undo_23 : decode cX8_undo 23 = .ok (.aload_n 0, 1) := by decide +kernel
theorem dX8_undo_24 : decode cX8_undo 24 = .ok (.getfield 7, 3) := by decide +kernel
theorem dX8_undo_27 : decode cX8_undo 27 = .ok (.iload_n 1, 1) := by decide +kernel
theorem dX8_undo_28 : decode cX8_undo 28 = .ok (.aload_n 0, 1) := by decide +kernel
theorem dX8_undo_29 : decode cX8_undo 29 = .ok (.getfield 13, 3) := by decide +kernel
theorem dX8_undo_32 : decode cX8_undo 32 = .ok (.iload_n 1, 1) := by decide +kernel
theorem dX8_undo_33 : decode cX8_undo 33 = .ok (.iaload, 1) := by decide +kernel
theorem dX8_undo_34 : decode cX8_undo 34 = .ok (.iastore, 1) := by decide +kernel
theorem dX8_undo_35 : decode cX8_undo 35 = .ok (.iinc 1 1, 3) := by decide +kernel
theorem dX8_undo_38 : decode cX8_undo 38 = .ok (.goto (-22), 3) := by decide +kernel
theorem dX8_undo_41 : decode cX8_undo 41 = .ok (.aload_n 0, 1) := by decide +kernel
theorem dX8_undo_42 : decode cX8_undo 42 = .ok (.getfield 7, 3) := by decide +kernel
theorem dX8_undo_45 : decode cX8_undo 45 = .ok (.iconst 0, 1) := by decide +kernel
theorem dX8_undo_46 : decode cX8_undo 46 = .ok (.iaload, 1) := by decide +kernel
theorem dX8_undo_47 : decode cX8_undo 47 = .ok (.ireturn, 1) := by decide +kernel
theorem dX8_tear_0 : decode cX8_tear 0 = .ok (.aload_n 0, 1) := by decide +kernel
theorem dX8_tear_1 : decode cX8_tear 1 = .ok (.getfield 262, 3) := by decide +kernel
theorem dX8_tear_4 : decode cX8_tear 4 = .ok (.istore_n 1, 1) := by decide +kernel
theorem dX8_tear_5 : decode cX8_tear 5 = .ok (.aload_n 0, 1) := by decide +kernel
theorem dX8_tear_6 : decode cX8_tear 6 = .ok (.iconst 0, 1) := by decide +kernel
theorem dX8_tear_7 : decode cX8_tear 7 = .ok (.putfield 262, 3) := by decide +kernel
theorem dX8_tear_10 : decode cX8_tear 10 = .ok (.iload_n 1, 1) := by decide +kernel
theorem dX8_tear_11 : decode cX8_tear 11 = .ok (.ifCond .eq 7, 3) := by decide +kernel
theorem dX8_tear_14 : decode cX8_tear 14 = .ok (.iconst 1, 1) := by decide +kernel
theorem dX8_tear_15 : decode cX8_tear 15 = .ok (.goto 4, 3) := by decide +kernel
theorem dX8_tear_18 : decode cX8_tear 18 = .ok (.iconst 0, 1) := by decide +kernel
theorem dX8_tear_19 : decode cX8_tear 19 = .ok (.ireturn, 1) := by decide +kernel
theorem dX8_ofAll_0 : decode cX8_ofAll 0 = .ok (.iconst 0, 1) := by decide +kernel
theorem dX8_ofAll_1 : decode cX8_ofAll 1 = .ok (.istore_n 2, 1) := by decide +kernel
theorem dX8_ofAll_2 : decode cX8_ofAll 2 = .ok (.iconst 0, 1) := by decide +kernel
theorem dX8_ofAll_3 : decode cX8_ofAll 3 = .ok (.istore_n 3, 1) := by decide +kernel
theorem dX8_ofAll_4 : decode cX8_ofAll 4 = .ok (.iload_n 3, 1) := by decide +kernel
theorem dX8_ofAll_5 : decode cX8_ofAll 5 = .ok (.aload_n 0, 1) := by decide +kernel
theorem dX8_ofAll_6 : decode cX8_ofAll 6 = .ok (.getfield 7, 3) := by decide +kernel
theorem dX8_ofAll_9 : decode cX8_ofAll 9 = .ok (.iconst 0, 1) := by decide +kernel
theorem dX8_ofAll_10 : decode cX8_ofAll 10 = .ok (.iaload, 1) := by decide +kernel
theorem dX8_ofAll_11 : decode cX8_ofAll 11 = .ok (.if_icmp .ge 18, 3) := by decide +kernel
theorem dX8_ofAll_14 : decode cX8_ofAll 14 = .ok (.iload_n 2, 1) := by decide +kernel
theorem dX8_ofAll_15 : decode cX8_ofAll 15 = .ok (.aload_n 0, 1) := by decide +kernel
theorem dX8_ofAll_16 : decode cX8_ofAll 16 = .ok (.iload_n 3, 1) := by decide +kernel
theorem dX8_ofAll_17 : decode cX8_ofAll 17 = .ok (.iload_n 1, 1) := by decide +kernel
theorem dX8_ofAll_18 : decode cX8_ofAll 18 = .ok (.invokevirtual 65, 3) := by decide +kernel
theorem dX8_ofAll_21 : decode cX8_ofAll 21 = .ok (.iadd, 1) := by decide +kernel
theorem dX8_ofAll_22 : decode cX8_ofAll 22 = .ok (.istore_n 2, 1) := by decide +kernel
theorem dX8_ofAll_23 : decode cX8_ofAll 23 = .ok (.iinc 3 1, 3) := by decide +kernel
theorem dX8_ofAll_26 : decode cX8_ofAll 26 = .ok (.goto (-22), 3) := by decide +kernel
theorem dX8_ofAll_29 : decode cX8_ofAll 29 = .ok (.iload_n 2, 1) := by decide +kernel
theorem dX8_ofAll_30 : decode cX8_ofAll 30 = .ok (.ireturn, 1) := by decide +kernel
theorem dX8_namedMany_0 : decode cX8_namedMany 0 = .ok (.iconst 0, 1) := by decide +kernel
theorem dX8_namedMany_1 : decode cX8_namedMany 1 = .ok (.istore_n 1, 1) := by decide +kernel
theorem dX8_namedMany_2 : decode cX8_namedMany 2 = .ok (.iconst 0, 1) := by decide +kernel
theorem dX8_namedMany_3 : decode cX8_namedMany 3 = .ok (.istore_n 2, 1) := by decide +kernel
theorem dX8_namedMany_4 : decode cX8_namedMany 4 = .ok (.iload_n 2, 1) := by decide +kernel
theorem dX8_namedMany_5 : decode cX8_namedMany 5 = .ok (.iconst 4, 1) := by decide +kernel
theorem dX8_namedMany_6 : decode cX8_namedMany 6 = .ok (.if_icmp .ge 29, 3) := by decide +kernel
theorem dX8_namedMany_9 : decode cX8_namedMany 9 = .ok (.iload_n 1, 1) := by decide +kernel
theorem dX8_namedMany_10 : decode cX8_namedMany 10 = .ok (.aload_n 0, 1) := by decide +kernel
theorem dX8_namedMany_11 : decode cX8_namedMany 11 = .ok (.getfield 7, 3) := by decide +kernel
theorem dX8_namedMany_14 : decode cX8_namedMany 14 = .ok (.bipush 10, 2) := by decide +kernel
theorem dX8_namedMany_16 : decode cX8_namedMany 16 = .ok (.iload_n 2, 1) := by decide +kernel
theorem dX8_namedMany_17 : decode cX8_namedMany 17 = .ok (.iadd, 1) := by decide +kernel
theorem dX8_namedMany_18 : decode cX8_namedMany 18 = .ok (.iaload, 1) := by decide +kernel
theorem dX8_namedMany_19 : decode cX8_namedMany 19 = .ok (.ifCond .lt 7, 3) := by decide +kernel
theorem dX8_namedMany_22 : decode cX8_namedMany 22 = .ok (.iconst 1, 1) := by decide +kernel
theorem dX8_namedMany_23 : decode cX8_namedMany 23 = .ok (.goto 4, 3) := by decide +kernel
theorem dX8_namedMany_26 : decode cX8_namedMany 26 = .ok (.iconst 0, 1) := by decide +kernel
theorem dX8_namedMany_27 : decode cX8_namedMany 27 = .ok (.iadd, 1) := by decide +kernel
theorem dX8_namedMany_28 : decode cX8_namedMany 28 = .ok (.istore_n 1, 1) := by decide +kernel
theorem dX8_namedMany_29 : decode cX8_namedMany 29 = .ok (.iinc 2 1, 3) := by decide +kernel
theorem dX8_namedMany_32 : decode cX8_namedMany 32 = .ok (.goto (-28), 3) := by decide +kernel
theorem dX8_namedMany_35 : decode cX8_namedMany 35 = .ok (.iload_n 1, 1) := by decide +kernel
theorem dX8_namedMany_36 : decode cX8_namedMany 36 = .ok (.ireturn, 1) := by decide +kernel
theorem dX8_count_0 : decode cX8_count 0 = .ok (.iload_n 1, 1) := by decide +kernel
theorem dX8_count_1 : decode cX8_count 1 = .ok (.tableswitch 82 0 5 #[39, 46, 59, 64, 70, 75], 39) := by decide +kernel
theorem dX8_count_40 : decode cX8_count 40 = .ok (.aload_n 0, 1) := by decide +kernel
theorem dX8_count_41 : decode cX8_count 41 = .ok (.getfield 7, 3) := by decide +kernel
theorem dX8_count_44 : decode cX8_count 44 = .ok (.iconst 0, 1) := by decide +kernel
theorem dX8_count_45 : decode cX8_count 45 = .ok (.iaload, 1) := by decide +kernel
theorem dX8_count_46 : decode cX8_count 46 = .ok (.ireturn, 1) := by decide +kernel
theorem dX8_count_47 : decode cX8_count 47 = .ok (.aload_n 0, 1) := by decide +kernel
theorem dX8_count_48 : decode cX8_count 48 = .ok (.getfield 7, 3) := by decide +kernel
theorem dX8_count_51 : decode cX8_count 51 = .ok (.iconst 0, 1) := by decide +kernel
theorem dX8_count_52 : decode cX8_count 52 = .ok (.iaload, 1) := by decide +kernel
theorem dX8_count_53 : decode cX8_count 53 = .ok (.aload_n 0, 1) := by decide +kernel
theorem dX8_count_54 : decode cX8_count 54 = .ok (.iconst 5, 1) := by decide +kernel
theorem dX8_count_55 : decode cX8_count 55 = .ok (.invokevirtual 265, 3) := by decide +kernel
theorem dX8_count_58 : decode cX8_count 58 = .ok (.isub, 1) := by decide +kernel
theorem dX8_count_59 : decode cX8_count 59 = .ok (.ireturn, 1) := by decide +kernel
theorem dX8_count_60 : decode cX8_count 60 = .ok (.aload_n 0, 1) := by decide +kernel
theorem dX8_count_61 : decode cX8_count 61 = .ok (.invokevirtual 268, 3) := by decide +kernel
theorem dX8_count_64 : decode cX8_count 64 = .ok (.ireturn, 1) := by decide +kernel
theorem dX8_count_65 : decode cX8_count 65 = .ok (.aload_n 0, 1) := by decide +kernel
theorem dX8_count_66 : decode cX8_count 66 = .ok (.iconst 4, 1) := by decide +kernel
theorem dX8_count_67 : decode cX8_count 67 = .ok (.invokevirtual 265, 3) := by decide +kernel
theorem dX8_count_70 : decode cX8_count 70 = .ok (.ireturn, 1) := by decide +kernel
theorem dX8_count_71 : decode cX8_count 71 = .ok (.aload_n 0, 1) := by decide +kernel
theorem dX8_count_72 : decode cX8_count 72 = .ok (.getfield 204, 3) := by decide +kernel
theorem dX8_count_75 : decode cX8_count 75 = .ok (.ireturn, 1) := by decide +kernel
theorem dX8_count_76 : decode cX8_count 76 = .ok (.aload_n 0, 1) := by decide +kernel
theorem dX8_count_77 : decode cX8_count 77 = .ok (.getfield 7, 3) := by decide +kernel
theorem dX8_count_80 : decode cX8_count 80 = .ok (.iconst 3, 1) := by decide +kernel
theorem dX8_count_81 : decode cX8_count 81 = .ok (.iaload, 1) := by decide +kernel
theorem dX8_count_82 : decode cX8_count 82 = .ok (.ireturn, 1) := by decide +kernel
theorem dX8_count_83 : decode cX8_count 83 = .ok (.aload_n 0, 1) := by decide +kernel
theorem dX8_count_84 : decode cX8_count 84 = .ok (.ldc 64, 2) := by decide +kernel
theorem dX8_count_86 : decode cX8_count 86 = .ok (.invokevirtual 81, 3) := by decide +kernel
theorem dX8_count_89 : decode cX8_count 89 = .ok (.ireturn, 1) := by decide +kernel
theorem dX8_status_0 : decode cX8_status 0 = .ok (.iload_n 1, 1) := by decide +kernel
theorem dX8_status_1 : decode cX8_status 1 = .ok (.i2l, 1) := by decide +kernel
theorem dX8_status_2 : decode cX8_status 2 = .ok (.ldc2_w 271, 3) := by decide +kernel
theorem dX8_status_5 : decode cX8_status 5 = .ok (.ldc2_w 69, 3) := by decide +kernel
theorem dX8_status_8 : decode cX8_status 8 = .ok (.invokestatic 71, 3) := by decide +kernel
theorem dX8_status_11 : decode cX8_status 11 = .ok (.ifCond .eq 14, 3) := by decide +kernel
theorem dX8_status_14 : decode cX8_status 14 = .ok (.aload_n 0, 1) := by decide +kernel
theorem dX8_status_15 : decode cX8_status 15 = .ok (.getfield 16, 3) := by decide +kernel
theorem dX8_status_18 : decode cX8_status 18 = .ok (.iload_n 1, 1) := by decide +kernel
theorem dX8_status_19 : decode cX8_status 19 = .ok (.iconst 1, 1) := by decide +kernel
theorem dX8_status_20 : decode cX8_status 20 = .ok (.iadd, 1) := by decide +kernel
theorem dX8_status_21 : decode cX8_status 21 = .ok (.iaload, 1) := by decide +kernel
theorem dX8_status_22 : decode cX8_status 22 = .ok (.goto 9, 3) := by decide +kernel
theorem dX8_status_25 : decode cX8_status 25 = .ok (.aload_n 0, 1) := by decide +kernel
theorem dX8_status_26 : decode cX8_status 26 = .ok (.ldc 64, 2) := by decide +kernel
theorem dX8_status_28 : decode cX8_status 28 = .ok (.invokevirtual 81, 3) := by decide +kernel
theorem dX8_status_31 : decode cX8_status 31 = .ok (.ireturn, 1) := by decide +kernel
