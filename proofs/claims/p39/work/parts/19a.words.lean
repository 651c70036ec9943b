theorem dX0_enterFunction_0 : decode cX0_enterFunction 0 = .ok (.new 61, 3) := by decide +kernel
theorem dX0_enterFunction_3 : decode cX0_enterFunction 3 = .ok (.dup, 1) := by decide +kernel
theorem dX0_enterFunction_4 : decode cX0_enterFunction 4 = .ok (.iload_n 2, 1) := by decide +kernel
theorem dX0_enterFunction_5 : decode cX0_enterFunction 5 = .ok (.invokespecial 63, 3) := by decide +kernel
theorem dX0_enterFunction_8 : decode cX0_enterFunction 8 = .ok (.astore_n 3, 1) := by decide +kernel
theorem dX0_enterFunction_9 : decode cX0_enterFunction 9 = .ok (.iload_n 2, 1) := by decide +kernel
theorem dX0_enterFunction_10 : decode cX0_enterFunction 10 = .ok (.newarray .int, 2) := by decide +kernel
theorem dX0_enterFunction_12 : decode cX0_enterFunction 12 = .ok (.astore 4, 2) := by decide +kernel
theorem dX0_enterFunction_14 : decode cX0_enterFunction 14 = .ok (.iload_n 1, 1) := by decide +kernel
theorem dX0_enterFunction_15 : decode cX0_enterFunction 15 = .ok (.istore 5, 2) := by decide +kernel
theorem dX0_enterFunction_17 : decode cX0_enterFunction 17 = .ok (.iconst 0, 1) := by decide +kernel
theorem dX0_enterFunction_18 : decode cX0_enterFunction 18 = .ok (.istore 6, 2) := by decide +kernel
theorem dX0_enterFunction_20 : decode cX0_enterFunction 20 = .ok (.iload 6, 2) := by decide +kernel
theorem dX0_enterFunction_22 : decode cX0_enterFunction 22 = .ok (.iload_n 2, 1) := by decide +kernel
theorem dX0_enterFunction_23 : decode cX0_enterFunction 23 = .ok (.if_icmp .ge 53, 3) := by decide +kernel
theorem dX0_enterFunction_26 : decode cX0_enterFunction 26 = .ok (.aload_n 3, 1) := by decide +kernel
theorem dX0_enterFunction_27 : decode cX0_enterFunction 27 = .ok (.aload_n 0, 1) := by decide +kernel
theorem dX0_enterFunction_28 : decode cX0_enterFunction 28 = .ok (.getfield 23, 3) := by decide +kernel
theorem dX0_enterFunction_31 : decode cX0_enterFunction 31 = .ok (.iload 5, 2) := by decide +kernel
theorem dX0_enterFunction_33 : decode cX0_enterFunction 33 = .ok (.invokevirtual 66, 3) := by decide +kernel
theorem dX0_enterFunction_36 : decode cX0_enterFunction 36 = .ok (.invokevirtual 69, 3) := by decide +kernel
theorem dX0_enterFunction_39 : decode cX0_enterFunction 39 = .ok (.pop, 1) := by decide +kernel
theorem dX0_enterFunction_40 : decode cX0_enterFunction 40 = .ok (.aload 4, 2) := by decide +kernel
theorem dX0_enterFunction_42 : decode cX0_enterFunction 42 = .ok (.iload 6, 2) := by decide +kernel
theorem dX0_enterFunction_44 : decode cX0_enterFunction 44 = .ok (.aload_n 0, 1) := by decide +kernel
theorem dX0_enterFunction_45 : decode cX0_enterFunction 45 = .ok (.getfield 23, 3) := by decide +kernel
theorem dX0_enterFunction_48 : decode cX0_enterFunction 48 = .ok (.iconst 1, 1) := by decide +kernel
theorem dX0_enterFunction_49 : decode cX0_enterFunction 49 = .ok (.iload_n 2, 1) := by decide +kernel
theorem dX0_enterFunction_50 : decode cX0_enterFunction 50 = .ok (.iconst 1, 1) := by decide +kernel
theorem dX0_enterFunction_51 : decode cX0_enterFunction 51 = .ok (.isub, 1) := by decide +kernel
theorem dX0_enterFunction_52 : decode cX0_enterFunction 52 = .ok (.iload 6, 2) := by decide +kernel
theorem dX0_enterFunction_54 : decode cX0_enterFunction 54 = .ok (.isub, 1) := by decide +kernel
theorem dX0_enterFunction_55 : decode cX0_enterFunction 55 = .ok (.invokevirtual 73, 3) := by decide +kernel
theorem dX0_enterFunction_58 : decode cX0_enterFunction 58 = .ok (.iastore, 1) := by decide +kernel
theorem dX0_enterFunction_59 : decode cX0_enterFunction 59 = .ok (.aload_n 0, 1) := by decide +kernel
theorem dX0_enterFunction_60 : decode cX0_enterFunction 60 = .ok (.getfield 23, 3) := by decide +kernel
theorem dX0_enterFunction_63 : decode cX0_enterFunction 63 = .ok (.iload 5, 2) := by decide +kernel
theorem dX0_enterFunction_65 : decode cX0_enterFunction 65 = .ok (.invokevirtual 58, 3) := by decide +kernel
theorem dX0_enterFunction_68 : decode cX0_enterFunction 68 = .ok (.istore 5, 2) := by decide +kernel
theorem dX0_enterFunction_70 : decode cX0_enterFunction 70 = .ok (.iinc 6 1, 3) := by decide +kernel
theorem dX0_enterFunction_73 : decode cX0_enterFunction 73 = .ok (.goto (-53), 3) := by decide +kernel
theorem dX0_enterFunction_76 : decode cX0_enterFunction 76 = .ok (.aload_n 0, 1) := by decide +kernel
theorem dX0_enterFunction_77 : decode cX0_enterFunction 77 = .ok (.getfield 11, 3) := by decide +kernel
theorem dX0_enterFunction_80 : decode cX0_enterFunction 80 = .ok (.aload_n 0, 1) := by decide +kernel
theorem dX0_enterFunction_81 : decode cX0_enterFunction 81 = .ok (.getfield 35, 3) := by decide +kernel
theorem dX0_enterFunction_84 : decode cX0_enterFunction 84 = .ok (.new 9, 3) := by decide +kernel
theorem dX0_enterFunction_87 : decode cX0_enterFunction 87 = .ok (.dup, 1) := by decide +kernel
theorem dX0_enterFunction_88 : decode cX0_enterFunction 88 = .ok (.iload_n 1, 1) := by decide +kernel
theorem dX0_enterFunction_89 : decode cX0_enterFunction 89 = .ok (.iload_n 2, 1) := by decide +kernel
theorem dX0_enterFunction_90 : decode cX0_enterFunction 90 = .ok (.aload_n 0, 1) := by decide +kernel
theorem dX0_enterFunction_91 : decode cX0_enterFunction 91 = .ok (.getfield 39, 3) := by decide +kernel
theorem dX0_enterFunction_94 : decode cX0_enterFunction 94 = .ok (.invokespecial 77, 3) := by decide +kernel
theorem dX0_enterFunction_97 : decode cX0_enterFunction 97 = .ok (.aastore, 1) := by decide +kernel
theorem dX0_enterFunction_98 : decode cX0_enterFunction 98 = .ok (.aload_n 0, 1) := by decide +kernel
theorem dX0_enterFunction_99 : decode cX0_enterFunction 99 = .ok (.getfield 19, 3) := by decide +kernel
theorem dX0_enterFunction_102 : decode cX0_enterFunction 102 = .ok (.aload_n 0, 1) := by decide +kernel
theorem dX0_enterFunction_103 : decode cX0_enterFunction 103 = .ok (.getfield 39, 3) := by decide +kernel
theorem dX0_enterFunction_106 : decode cX0_enterFunction 106 = .ok (.new 17, 3) := by decide +kernel
theorem dX0_enterFunction_109 : decode cX0_enterFunction 109 = .ok (.dup, 1) := by decide +kernel
theorem dX0_enterFunction_110 : decode cX0_enterFunction 110 = .ok (.aload_n 0, 1) := by decide +kernel
theorem dX0_enterFunction_111 : decode cX0_enterFunction 111 = .ok (.getfield 35, 3) := by decide +kernel
theorem dX0_enterFunction_114 : decode cX0_enterFunction 114 = .ok (.aload_n 3, 1) := by decide +kernel
theorem dX0_enterFunction_115 : decode cX0_enterFunction 115 = .ok (.iload 5, 2) := by decide +kernel
theorem dX0_enterFunction_117 : decode cX0_enterFunction 117 = .ok (.aload 4, 2) := by decide +kernel
theorem dX0_enterFunction_119 : decode cX0_enterFunction 119 = .ok (.invokespecial 80, 3) := by decide +kernel
theorem dX0_enterFunction_122 : decode cX0_enterFunction 122 = .ok (.aastore, 1) := by decide +kernel
theorem dX0_enterFunction_123 : decode cX0_enterFunction 123 = .ok (.aload_n 0, 1) := by decide +kernel
theorem dX0_enterFunction_124 : decode cX0_enterFunction 124 = .ok (.dup, 1) := by decide +kernel
theorem dX0_enterFunction_125 : decode cX0_enterFunction 125 = .ok (.getfield 39, 3) := by decide +kernel
theorem dX0_enterFunction_128 : decode cX0_enterFunction 128 = .ok (.iconst 1, 1) := by decide +kernel
theorem dX0_enterFunction_129 : decode cX0_enterFunction 129 = .ok (.iadd, 1) := by decide +kernel
theorem dX0_enterFunction_130 : decode cX0_enterFunction 130 = .ok (.putfield 39, 3) := by decide +kernel
theorem dX0_enterFunction_133 : decode cX0_enterFunction 133 = .ok (.aload_n 0, 1) := by decide +kernel
theorem dX0_enterFunction_134 : decode cX0_enterFunction 134 = .ok (.dup, 1) := by decide +kernel
theorem dX0_enterFunction_135 : decode cX0_enterFunction 135 = .ok (.getfield 35, 3) := by decide +kernel
theorem dX0_enterFunction_138 : decode cX0_enterFunction 138 = .ok (.iconst 1, 1) := by decide +kernel
theorem dX0_enterFunction_139 : decode cX0_enterFunction 139 = .ok (.iadd, 1) := by decide +kernel
theorem dX0_enterFunction_140 : decode cX0_enterFunction 140 = .ok (.putfield 35, 3) := by decide +kernel
theorem dX0_enterFunction_143 : decode cX0_enterFunction 143 = .ok (.aload_n 0, 1) := by decide +kernel
theorem dX0_enterFunction_144 : decode cX0_enterFunction 144 = .ok (.getfield 35, 3) := by decide +kernel
theorem dX0_enterFunction_147 : decode cX0_enterFunction 147 = .ok (.iconst 1, 1) := by decide +kernel
theorem dX0_enterFunction_148 : decode cX0_enterFunction 148 = .ok (.isub, 1) := by decide +kernel
theorem dX0_enterFunction_149 : decode cX0_enterFunction 149 = .ok (.ireturn, 1) := by decide +kernel
theorem dX0_childOf_0 : decode cX0_childOf 0 = .ok (.aload_n 0, 1) := by decide +kernel
theorem dX0_childOf_1 : decode cX0_childOf 1 = .ok (.getfield 31, 3) := by decide +kernel
theorem dX0_childOf_4 : decode cX0_childOf 4 = .ok (.iload_n 3, 1) := by decide +kernel
theorem dX0_childOf_5 : decode cX0_childOf 5 = .ok (.invokevirtual 101, 3) := by decide +kernel
theorem dX0_childOf_8 : decode cX0_childOf 8 = .ok (.istore 4, 2) := by decide +kernel
theorem dX0_childOf_10 : decode cX0_childOf 10 = .ok (.aload_n 1, 1) := by decide +kernel
theorem dX0_childOf_11 : decode cX0_childOf 11 = .ok (.getfield 83, 3) := by decide +kernel
theorem dX0_childOf_14 : decode cX0_childOf 14 = .ok (.getfield 98, 3) := by decide +kernel
theorem dX0_childOf_17 : decode cX0_childOf 17 = .ok (.istore 5, 2) := by decide +kernel
theorem dX0_childOf_19 : decode cX0_childOf 19 = .ok (.new 61, 3) := by decide +kernel
theorem dX0_childOf_22 : decode cX0_childOf 22 = .ok (.dup, 1) := by decide +kernel
theorem dX0_childOf_23 : decode cX0_childOf 23 = .ok (.iload 5, 2) := by decide +kernel
theorem dX0_childOf_25 : decode cX0_childOf 25 = .ok (.iconst 1, 1) := by decide +kernel
theorem dX0_childOf_26 : decode cX0_childOf 26 = .ok (.isub, 1) := by decide +kernel
theorem dX0_childOf_27 : decode cX0_childOf 27 = .ok (.iload 4, 2) := by decide +kernel
theorem dX0_childOf_29 : decode cX0_childOf 29 = .ok (.iadd, 1) := by decide +kernel
theorem dX0_childOf_30 : decode cX0_childOf 30 = .ok (.invokespecial 63, 3) := by decide +kernel
theorem dX0_childOf_33 : decode cX0_childOf 33 = .ok (.astore 6, 2) := by decide +kernel
theorem dX0_childOf_35 : decode cX0_childOf 35 = .ok (.iconst 0, 1) := by decide +kernel
theorem dX0_childOf_36 : decode cX0_childOf 36 = .ok (.istore 7, 2) := by decide +kernel
theorem dX0_childOf_38 : decode cX0_childOf 38 = .ok (.iload 7, 2) := by decide +kernel
theorem dX0_childOf_40 : decode cX0_childOf 40 = .ok (.iload_n 2, 1) := by decide +kernel
theorem dX0_childOf_41 : decode cX0_childOf 41 = .ok (.if_icmp .ge 24, 3) := by decide +kernel
theorem dX0_childOf_44 : decode cX0_childOf 44 = .ok (.aload 6, 2) := by decide +kernel
theorem dX0_childOf_46 : decode cX0_childOf 46 = .ok (.aload_n 1, 1) := by decide +kernel
theorem dX0_childOf_47 : decode cX0_childOf 47 = .ok (.getfield 83, 3) := by decide +kernel
theorem dX0_childOf_50 : decode cX0_childOf 50 = .ok (.iload 7, 2) := by decide +kernel
theorem dX0_childOf_52 : decode cX0_childOf 52 = .ok (.invokevirtual 87, 3) := by decide +kernel
theorem dX0_childOf_55 : decode cX0_childOf 55 = .ok (.invokevirtual 69, 3) := by decide +kernel
theorem dX0_childOf_58 : decode cX0_childOf 58 = .ok (.pop, 1) := by decide +kernel
theorem dX0_childOf_59 : decode cX0_childOf 59 = .ok (.iinc 7 1, 3) := by decide +kernel
theorem dX0_childOf_62 : decode cX0_childOf 62 = .ok (.goto (-24), 3) := by decide +kernel
theorem dX0_childOf_65 : decode cX0_childOf 65 = .ok (.aload_n 0, 1) := by decide +kernel
theorem dX0_childOf_66 : decode cX0_childOf 66 = .ok (.getfield 23, 3) := by decide +kernel
theorem dX0_childOf_69 : decode cX0_childOf 69 = .ok (.iconst 3, 1) := by decide +kernel
theorem dX0_childOf_70 : decode cX0_childOf 70 = .ok (.iload_n 3, 1) := by decide +kernel
theorem dX0_childOf_71 : decode cX0_childOf 71 = .ok (.invokevirtual 73, 3) := by decide +kernel
theorem dX0_childOf_74 : decode cX0_childOf 74 = .ok (.istore 7, 2) := by decide +kernel
theorem dX0_childOf_76 : decode cX0_childOf 76 = .ok (.iconst 0, 1) := by decide +kernel
theorem dX0_childOf_77 : decode cX0_childOf 77 = .ok (.istore 8, 2) := by decide +kernel
theorem dX0_childOf_79 : decode cX0_childOf 79 = .ok (.iload 8, 2) := by decide +kernel
theorem dX0_childOf_81 : decode cX0_childOf 81 = .ok (.iload 4, 2) := by decide +kernel
theorem dX0_childOf_83 : decode cX0_childOf 83 = .ok (.if_icmp .ge 61, 3) := by decide +kernel
theorem dX0_childOf_86 : decode cX0_childOf 86 = .ok (.aload 6, 2) := by decide +kernel
theorem dX0_childOf_88 : decode cX0_childOf 88 = .ok (.aload_n 0, 1) := by decide +kernel
theorem dX0_childOf_89 : decode cX0_childOf 89 = .ok (.getfield 23, 3) := by decide +kernel
theorem dX0_childOf_92 : decode cX0_childOf 92 = .ok (.iconst 2, 1) := by decide +kernel
theorem dX0_childOf_93 : decode cX0_childOf 93 = .ok (.aload_n 0, 1) := by decide +kernel
theorem dX0_childOf_94 : decode cX0_childOf 94 = .ok (.getfield 31, 3) := by decide +kernel
theorem dX0_childOf_97 : decode cX0_childOf 97 = .ok (.iload_n 3, 1) := by decide +kernel
theorem dX0_childOf_98 : decode cX0_childOf 98 = .ok (.iload 8, 2) := by decide +kernel
theorem dX0_childOf_100 : decode cX0_childOf 100 = .ok (.invokevirtual 125, 3) := by decide +kernel
theorem dX0_childOf_103 : decode cX0_childOf 103 = .ok (.invokevirtual 73, 3) := by decide +kernel
theorem dX0_childOf_106 : decode cX0_childOf 106 = .ok (.invokevirtual 69, 3) := by decide +kernel
theorem dX0_childOf_109 : decode cX0_childOf 109 = .ok (.pop, 1) := by decide +kernel
theorem dX0_childOf_110 : decode cX0_childOf 110 = .ok (.aload_n 0, 1) := by decide +kernel
theorem dX0_childOf_111 : decode cX0_childOf 111 = .ok (.getfield 23, 3) := by decide +kernel
theorem dX0_childOf_114 : decode cX0_childOf 114 = .ok (.bipush 7, 2) := by decide +kernel
theorem dX0_childOf_116 : decode cX0_childOf 116 = .ok (.iload 7, 2) := by decide +kernel
theorem dX0_childOf_118 : decode cX0_childOf 118 = .ok (.aload_n 0, 1) := by decide +kernel
theorem dX0_childOf_119 : decode cX0_childOf 119 = .ok (.getfield 23, 3) := by decide +kernel
theorem dX0_childOf_122 : decode cX0_childOf 122 = .ok (.iconst 1, 1) := by decide +kernel
theorem dX0_childOf_123 : decode cX0_childOf 123 = .ok (.iload 4, 2) := by decide +kernel
theorem dX0_childOf_125 : decode cX0_childOf 125 = .ok (.iconst 1, 1) := by decide +kernel
theorem dX0_childOf_126 : decode cX0_childOf 126 = .ok (.isub, 1) := by decide +kernel
theorem dX0_childOf_127 : decode cX0_childOf 127 = .ok (.iload 8, 2) := by decide +kernel
theorem dX0_childOf_129 : decode cX0_childOf 129 = .ok (.isub, 1) := by decide +kernel
theorem dX0_childOf_130 : decode cX0_childOf 130 = .ok (.invokevirtual 73, 3) := by decide +kernel
theorem dX0_childOf_133 : decode cX0_childOf 133 = .ok (.invokevirtual 128, 3) := by decide +kernel
theorem dX0_childOf_136 : decode cX0_childOf 136 = .ok (.istore 7, 2) := by decide +kernel
theorem dX0_childOf_138 : decode cX0_childOf 138 = .ok (.iinc 8 1, 3) := by decide +kernel
theorem dX0_childOf_141 : decode cX0_childOf 141 = .ok (.goto (-62), 3) := by decide +kernel
theorem dX0_childOf_144 : decode cX0_childOf 144 = .ok (.iload_n 2, 1) := by decide +kernel
theorem dX0_childOf_145 : decode cX0_childOf 145 = .ok (.iconst 1, 1) := by decide +kernel
theorem dX0_childOf_146 : decode cX0_childOf 146 = .ok (.iadd, 1) := by decide +kernel
theorem dX0_childOf_147 : decode cX0_childOf 147 = .ok (.istore 8, 2) := by decide +kernel
theorem dX0_childOf_149 : decode cX0_childOf 149 = .ok (.iload 8, 2) := by decide +kernel
theorem dX0_childOf_151 : decode cX0_childOf 151 = .ok (.iload 5, 2) := by decide +kernel
theorem dX0_childOf_153 : decode cX0_childOf 153 = .ok (.if_icmp .ge 50, 3) := by decide +kernel
theorem dX0_childOf_156 : decode cX0_childOf 156 = .ok (.aload_n 0, 1) := by decide +kernel
theorem dX0_childOf_157 : decode cX0_childOf 157 = .ok (.aload_n 1, 1) := by decide +kernel
theorem dX0_childOf_158 : decode cX0_childOf 158 = .ok (.getfield 83, 3) := by decide +kernel
theorem dX0_childOf_161 : decode cX0_childOf 161 = .ok (.iload 8, 2) := by decide +kernel
theorem dX0_childOf_163 : decode cX0_childOf 163 = .ok (.invokevirtual 87, 3) := by decide +kernel
theorem dX0_childOf_166 : decode cX0_childOf 166 = .ok (.iload 7, 2) := by decide +kernel
theorem dX0_childOf_168 : decode cX0_childOf 168 = .ok (.iload 4, 2) := by decide +kernel
theorem dX0_childOf_170 : decode cX0_childOf 170 = .ok (.iload 8, 2) := by decide +kernel
theorem dX0_childOf_172 : decode cX0_childOf 172 = .ok (.iconst 1, 1) := by decide +kernel
theorem dX0_childOf_173 : decode cX0_childOf 173 = .ok (.isub, 1) := by decide +kernel
theorem dX0_childOf_174 : decode cX0_childOf 174 = .ok (.iload_n 2, 1) := by decide +kernel
theorem dX0_childOf_175 : decode cX0_childOf 175 = .ok (.isub, 1) := by decide +kernel
theorem dX0_childOf_176 : decode cX0_childOf 176 = .ok (.invokevirtual 132, 3) := by decide +kernel
theorem dX0_childOf_179 : decode cX0_childOf 179 = .ok (.istore 9, 2) := by decide +kernel
theorem dX0_childOf_181 : decode cX0_childOf 181 = .ok (.iload 9, 2) := by decide +kernel
theorem dX0_childOf_183 : decode cX0_childOf 183 = .ok (.iconst (-1), 1) := by decide +kernel
theorem dX0_childOf_184 : decode cX0_childOf 184 = .ok (.if_icmp .ne 5, 3) := by decide +kernel
theorem dX0_childOf_187 : decode cX0_childOf 187 = .ok (.aconst_null, 1) := by decide +kernel
theorem dX0_childOf_188 : decode cX0_childOf 188 = .ok (.areturn, 1) := by decide +kernel
theorem dX0_childOf_189 : decode cX0_childOf 189 = .ok (.aload 6, 2) := by decide +kernel
theorem dX0_childOf_191 : decode cX0_childOf 191 = .ok (.iload 9, 2) := by decide +kernel
theorem dX0_childOf_193 : decode cX0_childOf 193 = .ok (.invokevirtual 69, 3) := by decide +kernel
theorem dX0_childOf_196 : decode cX0_childOf 196 = .ok (.pop, 1) := by decide +kernel
theorem dX0_childOf_197 : decode cX0_childOf 197 = .ok (.iinc 8 1, 3) := by decide +kernel
theorem dX0_childOf_200 : decode cX0_childOf 200 = .ok (.goto (-51), 3) := by decide +kernel
theorem dX0_childOf_203 : decode cX0_childOf 203 = .ok (.aload_n 0, 1) := by decide +kernel
theorem dX0_childOf_204 : decode cX0_childOf 204 = .ok (.aload_n 1, 1) := by decide +kernel
theorem dX0_childOf_205 : decode cX0_childOf 205 = .ok (.getfield 136, 3) := by decide +kernel
theorem dX0_childOf_208 : decode cX0_childOf 208 = .ok (.iload 7, 2) := by decide +kernel
theorem dX0_childOf_210 : decode cX0_childOf 210 = .ok (.iload 4, 2) := by decide +kernel
theorem dX0_childOf_212 : decode cX0_childOf 212 = .ok (.iload 5, 2) := by decide +kernel
theorem dX0_childOf_214 : decode cX0_childOf 214 = .ok (.iconst 1, 1) := by decide +kernel
theorem dX0_childOf_215 : decode cX0_childOf 215 = .ok (.isub, 1) := by decide +kernel
theorem dX0_childOf_216 : decode cX0_childOf 216 = .ok (.iload_n 2, 1) := by decide +kernel
theorem dX0_childOf_217 : decode cX0_childOf 217 = .ok (.isub, 1) := by decide +kernel
theorem dX0_childOf_218 : decode cX0_childOf 218 = .ok (.invokevirtual 132, 3) := by decide +kernel
theorem dX0_childOf_221 : decode cX0_childOf 221 = .ok (.istore 8, 2) := by decide +kernel
theorem dX0_childOf_223 : decode cX0_childOf 223 = .ok (.iload 8, 2) := by decide +kernel
theorem dX0_childOf_225 : decode cX0_childOf 225 = .ok (.iconst (-1), 1) := by decide +kernel
theorem dX0_childOf_226 : decode cX0_childOf 226 = .ok (.if_icmp .ne 5, 3) := by decide +kernel
theorem dX0_childOf_229 : decode cX0_childOf 229 = .ok (.aconst_null, 1) := by decide +kernel
theorem dX0_childOf_230 : decode cX0_childOf 230 = .ok (.areturn, 1) := by decide +kernel
theorem dX0_childOf_231 : decode cX0_childOf 231 = .ok (.aload_n 1, 1) := by decide +kernel
theorem dX0_childOf_232 : decode cX0_childOf 232 = .ok (.getfield 137, 3) := by decide +kernel
theorem dX0_childOf_235 : decode cX0_childOf 235 = .ok (.arraylength, 1) := by decide +kernel
theorem dX0_childOf_236 : decode cX0_childOf 236 = .ok (.newarray .int, 2) := by decide +kernel
theorem dX0_childOf_238 : decode cX0_childOf 238 = .ok (.astore 9, 2) := by decide +kernel
theorem dX0_childOf_240 : decode cX0_childOf 240 = .ok (.iconst 0, 1) := by decide +kernel
theorem dX0_childOf_241 : decode cX0_childOf 241 = .ok (.istore 10, 2) := by decide +kernel
theorem dX0_childOf_243 : decode cX0_childOf 243 = .ok (.iload 10, 2) := by decide +kernel
theorem dX0_childOf_245 : decode cX0_childOf 245 = .ok (.aload 9, 2) := by decide +kernel
theorem dX0_childOf_247 : decode cX0_childOf 247 = .ok (.arraylength, 1) := by decide +kernel
theorem dX0_childOf_248 : decode cX0_childOf 248 = .ok (.if_icmp .ge 53, 3) := by decide +kernel
theorem dX0_childOf_251 : decode cX0_childOf 251 = .ok (.aload_n 0, 1) := by decide +kernel
theorem dX0_childOf_252 : decode cX0_childOf 252 = .ok (.getfield 23, 3) := by decide +kernel
theorem dX0_childOf_255 : decode cX0_childOf 255 = .ok (.invokevirtual 107, 3) := by decide +kernel
theorem dX0_childOf_258 : decode cX0_childOf 258 = .ok (.istore 11, 2) := by decide +kernel
theorem dX0_childOf_260 : decode cX0_childOf 260 = .ok (.aload 9, 2) := by decide +kernel
theorem dX0_childOf_262 : decode cX0_childOf 262 = .ok (.iload 10, 2) := by decide +kernel
theorem dX0_childOf_264 : decode cX0_childOf 264 = .ok (.aload_n 0, 1) := by decide +kernel
theorem dX0_childOf_265 : decode cX0_childOf 265 = .ok (.getfield 23, 3) := by decide +kernel
theorem dX0_childOf_268 : decode cX0_childOf 268 = .ok (.iload 11, 2) := by decide +kernel
theorem dX0_childOf_270 : decode cX0_childOf 270 = .ok (.aload_n 0, 1) := by decide +kernel
theorem dX0_childOf_271 : decode cX0_childOf 271 = .ok (.aload_n 1, 1) := by decide +kernel
theorem dX0_childOf_272 : decode cX0_childOf 272 = .ok (.getfield 137, 3) := by decide +kernel
theorem dX0_childOf_275 : decode cX0_childOf 275 = .ok (.iload 10, 2) := by decide +kernel
theorem dX0_childOf_277 : decode cX0_childOf 277 = .ok (.iaload, 1) := by decide +kernel
theorem dX0_childOf_278 : decode cX0_childOf 278 = .ok (.iload 7, 2) := by decide +kernel
theorem dX0_childOf_280 : decode cX0_childOf 280 = .ok (.iload 4, 2) := by decide +kernel
theorem dX0_childOf_282 : decode cX0_childOf 282 = .ok (.iload 5, 2) := by decide +kernel
theorem dX0_childOf_284 : decode cX0_childOf 284 = .ok (.iconst 1, 1) := by decide +kernel
theorem dX0_childOf_285 : decode cX0_childOf 285 = .ok (.isub, 1) := by decide +kernel
theorem dX0_childOf_286 : decode cX0_childOf 286 = .ok (.iload_n 2, 1) := by decide +kernel
theorem dX0_childOf_287 : decode cX0_childOf 287 = .ok (.isub, 1) := by decide +kernel
theorem dX0_childOf_288 : decode cX0_childOf 288 = .ok (.invokevirtual 141, 3) := by decide +kernel
theorem dX0_childOf_291 : decode cX0_childOf 291 = .ok (.invokevirtual 144, 3) := by decide +kernel
theorem dX0_childOf_294 : decode cX0_childOf 294 = .ok (.iastore, 1) := by decide +kernel
theorem dX0_childOf_295 : decode cX0_childOf 295 = .ok (.iinc 10 1, 3) := by decide +kernel
theorem dX0_childOf_298 : decode cX0_childOf 298 = .ok (.goto (-55), 3) := by decide +kernel
theorem dX0_childOf_301 : decode cX0_childOf 301 = .ok (.new 17, 3) := by decide +kernel
theorem dX0_childOf_304 : decode cX0_childOf 304 = .ok (.dup, 1) := by decide +kernel
theorem dX0_childOf_305 : decode cX0_childOf 305 = .ok (.aload_n 1, 1) := by decide +kernel
theorem dX0_childOf_306 : decode cX0_childOf 306 = .ok (.getfield 147, 3) := by decide +kernel
theorem dX0_childOf_309 : decode cX0_childOf 309 = .ok (.aload 6, 2) := by decide +kernel
theorem dX0_childOf_311 : decode cX0_childOf 311 = .ok (.iload 8, 2) := by decide +kernel
theorem dX0_childOf_313 : decode cX0_childOf 313 = .ok (.aload 9, 2) := by decide +kernel
theorem dX0_childOf_315 : decode cX0_childOf 315 = .ok (.invokespecial 80, 3) := by decide +kernel
theorem dX0_childOf_318 : decode cX0_childOf 318 = .ok (.areturn, 1) := by decide +kernel
theorem dX2_init_0 : decode cX2_init 0 = .ok (.aload_n 0, 1) := by decide +kernel
theorem dX2_init_1 : decode cX2_init 1 = .ok (.invokespecial 1, 3) := by decide +kernel
theorem dX2_init_4 : decode cX2_init 4 = .ok (.aload_n 0, 1) := by decide +kernel
theorem dX2_init_5 : decode cX2_init 5 = .ok (.iload_n 1, 1) := by decide +kernel
theorem dX2_init_6 : decode cX2_init 6 = .ok (.putfield 7, 3) := by decide +kernel
theorem dX2_init_9 : decode cX2_init 9 = .ok (.aload_n 0, 1) := by decide +kernel
theorem dX2_init_10 : decode cX2_init 10 = .ok (.iload_n 2, 1) := by decide +kernel
theorem dX2_init_11 : decode cX2_init 11 = .ok (.putfield 13, 3) := by decide +kernel
theorem dX2_init_14 : decode cX2_init 14 = .ok (.aload_n 0, 1) := by decide +kernel
theorem dX2_init_15 : decode cX2_init 15 = .ok (.iload_n 3, 1) := by decide +kernel
theorem dX2_init_16 : decode cX2_init 16 = .ok (.putfield 16, 3) := by decide +kernel
theorem dX2_init_19 : decode cX2_init 19 = .ok (.return_, 1) := by decide +kernel
theorem dX3_init_0 : decode cX3_init 0 = .ok (.aload_n 0, 1) := by decide +kernel
theorem dX3_init_1 : decode cX3_init 1 = .ok (.invokespecial 3, 3) := by decide +kernel
theorem dX3_init_4 : decode cX3_init 4 = .ok (.aload_n 0, 1) := by decide +kernel
theorem dX3_init_5 : decode cX3_init 5 = .ok (.iload_n 1, 1) := by decide +kernel
theorem dX3_init_6 : decode cX3_init 6 = .ok (.putfield 9, 3) := by decide +kernel
theorem dX3_init_9 : decode cX3_init 9 = .ok (.aload_n 0, 1) := by decide +kernel
theorem dX3_init_10 : decode cX3_init 10 = .ok (.aload_n 2, 1) := by decide +kernel
theorem dX3_init_11 : decode cX3_init 11 = .ok (.putfield 15, 3) := by decide +kernel
theorem dX3_init_14 : decode cX3_init 14 = .ok (.aload_n 0, 1) := by decide +kernel
theorem dX3_init_15 : decode cX3_init 15 = .ok (.iload_n 3, 1) := by decide +kernel
theorem dX3_init_16 : decode cX3_init 16 = .ok (.putfield 19, 3) := by decide +kernel
theorem dX3_init_19 : decode cX3_init 19 = .ok (.aload_n 0, 1) := by decide +kernel
theorem dX3_init_20 : decode cX3_init 20 = .ok (.aload 4, 2) := by decide +kernel
theorem dX3_init_22 : decode cX3_init 22 = .ok (.putfield 22, 3) := by decide +kernel
theorem dX3_init_25 : decode cX3_init 25 = .ok (.aload_n 0, 1) := by decide +kernel
theorem dX3_init_26 : decode cX3_init 26 = .ok (.bipush 111, 2) := by decide +kernel
theorem dX3_init_28 : decode cX3_init 28 = .ok (.putfield 26, 3) := by decide +kernel
theorem dX3_init_31 : decode cX3_init 31 = .ok (.aload_n 0, 1) := by decide +kernel
theorem dX3_init_32 : decode cX3_init 32 = .ok (.iconst (-1), 1) := by decide +kernel
theorem dX3_init_33 : decode cX3_init 33 = .ok (.putfield 30, 3) := by decide +kernel
theorem dX3_init_36 : decode cX3_init 36 = .ok (.aload_n 0, 1) := by decide +kernel
theorem dX3_init_37 : decode cX3_init 37 = .ok (.iconst (-1), 1) := by decide +kernel
theorem dX3_init_38 : decode cX3_init 38 = .ok (.putfield 33, 3) := by decide +kernel
theorem dX3_init_41 : decode cX3_init 41 = .ok (.aload_n 0, 1) := by decide +kernel
theorem dX3_init_42 : decode cX3_init 42 = .ok (.iconst (-1), 1) := by decide +kernel
theorem dX3_init_43 : decode cX3_init 43 = .ok (.putfield 36, 3) := by decide +kernel
theorem dX3_init_46 : decode cX3_init 46 = .ok (.return_, 1) := by decide +kernel
theorem wm1000 : (Jvm.Cond.code ({ cls := "TelescopeCourt$Docket", name := "formWithValue", desc := "(IIII)I" } : Jvm.MethodName) prog_2_method_11_code (6 : Nat) (Option.some Jvm.ClassFile.FieldType.int)) ∈ W0 := wm_of 1000 (by decide +kernel) (by decide +kernel)
theorem wm22 : (Jvm.Cond.initialized "TelescopeCourt$Function") ∈ W0 := wm_of 22 (by decide +kernel) (by decide +kernel)
theorem wm23 : (Jvm.Cond.initialized "TelescopeCourt$Goal") ∈ W0 := wm_of 23 (by decide +kernel) (by decide +kernel)
theorem wm874 : (Jvm.Cond.classLink "TelescopeCourt$Docket" (61 : Nat) "TelescopeCourt$Telescope") ∈ W0 := wm_of 874 (by decide +kernel) (by decide +kernel)
theorem wm875 : (Jvm.Cond.methodLink "TelescopeCourt$Docket" (63 : Nat) ({ cls := "TelescopeCourt$Telescope", name := "<init>", desc := "(I)V" } : Jvm.MethodName)) ∈ W0 := wm_of 875 (by decide +kernel) (by decide +kernel)
theorem wm877 : (Jvm.Cond.methodLink "TelescopeCourt$Docket" (69 : Nat) ({ cls := "TelescopeCourt$Telescope", name := "push", desc := "(I)Z" } : Jvm.MethodName)) ∈ W0 := wm_of 877 (by decide +kernel) (by decide +kernel)
theorem wm878 : (Jvm.Cond.methodLink "TelescopeCourt$Docket" (73 : Nat) ({ cls := "TelescopeCourt$Terms", name := "leaf", desc := "(II)I" } : Jvm.MethodName)) ∈ W0 := wm_of 878 (by decide +kernel) (by decide +kernel)
theorem wm879 : (Jvm.Cond.instantiable "TelescopeCourt$Function" (3 : Nat)) ∈ W0 := wm_of 879 (by decide +kernel) (by decide +kernel)
theorem wm880 : (Jvm.Cond.methodLink "TelescopeCourt$Docket" (77 : Nat) ({ cls := "TelescopeCourt$Function", name := "<init>", desc := "(III)V" } : Jvm.MethodName)) ∈ W0 := wm_of 880 (by decide +kernel) (by decide +kernel)
theorem wm881 : (Jvm.Cond.instanceMethod ({ cls := "TelescopeCourt$Function", name := "<init>", desc := "(III)V" } : Jvm.MethodName)) ∈ W0 := wm_of 881 (by decide +kernel) (by decide +kernel)
theorem wm882 : (Jvm.Cond.code ({ cls := "TelescopeCourt$Function", name := "<init>", desc := "(III)V" } : Jvm.MethodName) prog_4_method_1_code (4 : Nat) (Option.none : Option Jvm.ClassFile.FieldType)) ∈ W0 := wm_of 882 (by decide +kernel) (by decide +kernel)
theorem wm883 : (Jvm.Cond.methodLink "TelescopeCourt$Function" (1 : Nat) ({ cls := "java/lang/Object", name := "<init>", desc := "()V" } : Jvm.MethodName)) ∈ W0 := wm_of 883 (by decide +kernel) (by decide +kernel)
theorem wm884 : (Jvm.Cond.fieldLink "TelescopeCourt$Function" (7 : Nat) "TelescopeCourt$Function" "type" "I") ∈ W0 := wm_of 884 (by decide +kernel) (by decide +kernel)
theorem wm886 : (Jvm.Cond.fieldLink "TelescopeCourt$Function" (13 : Nat) "TelescopeCourt$Function" "arity" "I") ∈ W0 := wm_of 886 (by decide +kernel) (by decide +kernel)
theorem wm889 : (Jvm.Cond.fieldLink "TelescopeCourt$Function" (16 : Nat) "TelescopeCourt$Function" "firstGoal" "I") ∈ W0 := wm_of 889 (by decide +kernel) (by decide +kernel)
theorem wm898 : (Jvm.Cond.instantiable "TelescopeCourt$Goal" (8 : Nat)) ∈ W0 := wm_of 898 (by decide +kernel) (by decide +kernel)
theorem wm899 : (Jvm.Cond.methodLink "TelescopeCourt$Docket" (80 : Nat) ({ cls := "TelescopeCourt$Goal", name := "<init>", desc := "(ILTelescopeCourt$Telescope;I[I)V" } : Jvm.MethodName)) ∈ W0 := wm_of 899 (by decide +kernel) (by decide +kernel)
theorem wm900 : (Jvm.Cond.instanceMethod ({ cls := "TelescopeCourt$Goal", name := "<init>", desc := "(ILTelescopeCourt$Telescope;I[I)V" } : Jvm.MethodName)) ∈ W0 := wm_of 900 (by decide +kernel) (by decide +kernel)
theorem wm901 : (Jvm.Cond.code ({ cls := "TelescopeCourt$Goal", name := "<init>", desc := "(ILTelescopeCourt$Telescope;I[I)V" } : Jvm.MethodName) prog_5_method_1_code (5 : Nat) (Option.none : Option Jvm.ClassFile.FieldType)) ∈ W0 := wm_of 901 (by decide +kernel) (by decide +kernel)
theorem wm902 : (Jvm.Cond.methodLink "TelescopeCourt$Goal" (3 : Nat) ({ cls := "java/lang/Object", name := "<init>", desc := "()V" } : Jvm.MethodName)) ∈ W0 := wm_of 902 (by decide +kernel) (by decide +kernel)
theorem wm903 : (Jvm.Cond.fieldLink "TelescopeCourt$Goal" (9 : Nat) "TelescopeCourt$Goal" "function" "I") ∈ W0 := wm_of 903 (by decide +kernel) (by decide +kernel)
theorem wm908 : (Jvm.Cond.fieldLink "TelescopeCourt$Goal" (15 : Nat) "TelescopeCourt$Goal" "context" "LTelescopeCourt$Telescope;") ∈ W0 := wm_of 908 (by decide +kernel) (by decide +kernel)
theorem wm912 : (Jvm.Cond.fieldLink "TelescopeCourt$Goal" (19 : Nat) "TelescopeCourt$Goal" "type" "I") ∈ W0 := wm_of 912 (by decide +kernel) (by decide +kernel)
theorem wm915 : (Jvm.Cond.fieldLink "TelescopeCourt$Goal" (22 : Nat) "TelescopeCourt$Goal" "patterns" "[I") ∈ W0 := wm_of 915 (by decide +kernel) (by decide +kernel)
theorem wm992 : (Jvm.Cond.methodLink "TelescopeCourt$Docket" (125 : Nat) ({ cls := "TelescopeCourt$Signature", name := "partOf", desc := "(II)I" } : Jvm.MethodName)) ∈ W0 := wm_of 992 (by decide +kernel) (by decide +kernel)
theorem wm993 : (Jvm.Cond.instanceMethod ({ cls := "TelescopeCourt$Signature", name := "partOf", desc := "(II)I" } : Jvm.MethodName)) ∈ W0 := wm_of 993 (by decide +kernel) (by decide +kernel)
theorem wm994 : (Jvm.Cond.selects "TelescopeCourt$Signature" ({ cls := "TelescopeCourt$Signature", name := "partOf", desc := "(II)I" } : Jvm.MethodName) ({ cls := "TelescopeCourt$Signature", name := "partOf", desc := "(II)I" } : Jvm.MethodName)) ∈ W0 := wm_of 994 (by decide +kernel) (by decide +kernel)
theorem wm995 : (Jvm.Cond.code ({ cls := "TelescopeCourt$Signature", name := "partOf", desc := "(II)I" } : Jvm.MethodName) prog_9_method_10_code (3 : Nat) (Option.some Jvm.ClassFile.FieldType.int)) ∈ W0 := wm_of 995 (by decide +kernel) (by decide +kernel)
theorem wm996 : (Jvm.Cond.methodLink "TelescopeCourt$Docket" (128 : Nat) ({ cls := "TelescopeCourt$Terms", name := "pair", desc := "(III)I" } : Jvm.MethodName)) ∈ W0 := wm_of 996 (by decide +kernel) (by decide +kernel)
theorem wm997 : (Jvm.Cond.methodLink "TelescopeCourt$Docket" (132 : Nat) ({ cls := "TelescopeCourt$Docket", name := "formWithValue", desc := "(IIII)I" } : Jvm.MethodName)) ∈ W0 := wm_of 997 (by decide +kernel) (by decide +kernel)
theorem wm999 : (Jvm.Cond.instanceMethod ({ cls := "TelescopeCourt$Docket", name := "formWithValue", desc := "(IIII)I" } : Jvm.MethodName)) ∈ W0 := wm_of 999 (by decide +kernel) (by decide +kernel)
theorem ws_p14 : Cond.selects "TelescopeCourt$Docket" ⟨"TelescopeCourt$Docket", "formWithValue", "(IIII)I"⟩ ⟨"TelescopeCourt$Docket", "formWithValue", "(IIII)I"⟩ ∈ W0 := wms_of 14 (by decide +kernel : lw_privs[14]? = some (⟨"TelescopeCourt$Docket", "formWithValue", "(IIII)I"⟩, 8))
