theorem dX5_valueOf_0 : decode cX5_valueOf 0 = .ok (.aload_n 0, 1) := by decide +kernel
theorem dX5_valueOf_1 : decode cX5_valueOf 1 = .ok (.getfield 25, 3) := by decide +kernel
theorem dX5_valueOf_4 : decode cX5_valueOf 4 = .ok (.iload_n 1, 1) := by decide +kernel
theorem dX5_valueOf_5 : decode cX5_valueOf 5 = .ok (.invokevirtual 37, 3) := by decide +kernel
theorem dX5_valueOf_8 : decode cX5_valueOf 8 = .ok (.aload_n 0, 1) := by decide +kernel
theorem dX5_valueOf_9 : decode cX5_valueOf 9 = .ok (.getfield 33, 3) := by decide +kernel
theorem dX5_valueOf_12 : decode cX5_valueOf 12 = .ok (.getfield 43, 3) := by decide +kernel
theorem dX5_valueOf_15 : decode cX5_valueOf 15 = .ok (.iconst (-1), 1) := by decide +kernel
theorem dX5_valueOf_16 : decode cX5_valueOf 16 = .ok (.ixor, 1) := by decide +kernel
theorem dX5_valueOf_17 : decode cX5_valueOf 17 = .ok (.iand, 1) := by decide +kernel
theorem dX5_valueOf_18 : decode cX5_valueOf 18 = .ok (.ifCond .eq 5, 3) := by decide +kernel
theorem dX5_valueOf_21 : decode cX5_valueOf 21 = .ok (.iconst (-1), 1) := by decide +kernel
theorem dX5_valueOf_22 : decode cX5_valueOf 22 = .ok (.ireturn, 1) := by decide +kernel
theorem dX5_valueOf_23 : decode cX5_valueOf 23 = .ok (.aload_n 0, 1) := by decide +kernel
theorem dX5_valueOf_24 : decode cX5_valueOf 24 = .ok (.iload_n 2, 1) := by decide +kernel
theorem dX5_valueOf_25 : decode cX5_valueOf 25 = .ok (.putfield 49, 3) := by decide +kernel
theorem dX5_valueOf_28 : decode cX5_valueOf 28 = .ok (.aload_n 0, 1) := by decide +kernel
theorem dX5_valueOf_29 : decode cX5_valueOf 29 = .ok (.iconst 0, 1) := by decide +kernel
theorem dX5_valueOf_30 : decode cX5_valueOf 30 = .ok (.putfield 53, 3) := by decide +kernel
theorem dX5_valueOf_33 : decode cX5_valueOf 33 = .ok (.aload_n 0, 1) := by decide +kernel
theorem dX5_valueOf_34 : decode cX5_valueOf 34 = .ok (.iconst 0, 1) := by decide +kernel
theorem dX5_valueOf_35 : decode cX5_valueOf 35 = .ok (.putfield 56, 3) := by decide +kernel
theorem dX5_valueOf_38 : decode cX5_valueOf 38 = .ok (.iload_n 1, 1) := by decide +kernel
theorem dX5_valueOf_39 : decode cX5_valueOf 39 = .ok (.istore_n 3, 1) := by decide +kernel
theorem dX5_valueOf_40 : decode cX5_valueOf 40 = .ok (.iconst 0, 1) := by decide +kernel
theorem dX5_valueOf_41 : decode cX5_valueOf 41 = .ok (.istore 4, 2) := by decide +kernel
theorem dX5_valueOf_43 : decode cX5_valueOf 43 = .ok (.iconst 0, 1) := by decide +kernel
theorem dX5_valueOf_44 : decode cX5_valueOf 44 = .ok (.istore 5, 2) := by decide +kernel
theorem dX5_valueOf_46 : decode cX5_valueOf 46 = .ok (.iload 5, 2) := by decide +kernel
theorem dX5_valueOf_48 : decode cX5_valueOf 48 = .ok (.ldc 59, 2) := by decide +kernel
theorem dX5_valueOf_50 : decode cX5_valueOf 50 = .ok (.if_icmp .ge 171, 3) := by decide +kernel
theorem dX5_valueOf_53 : decode cX5_valueOf 53 = .ok (.iload_n 3, 1) := by decide +kernel
theorem dX5_valueOf_54 : decode cX5_valueOf 54 = .ok (.iconst (-1), 1) := by decide +kernel
theorem dX5_valueOf_55 : decode cX5_valueOf 55 = .ok (.if_icmp .eq 166, 3) := by decide +kernel
theorem dX5_valueOf_58 : decode cX5_valueOf 58 = .ok (.iload 4, 2) := by decide +kernel
theorem dX5_valueOf_60 : decode cX5_valueOf 60 = .ok (.ifCond .ne 55, 3) := by decide +kernel
theorem dX5_valueOf_63 : decode cX5_valueOf 63 = .ok (.aload_n 0, 1) := by decide +kernel
theorem dX5_valueOf_64 : decode cX5_valueOf 64 = .ok (.getfield 25, 3) := by decide +kernel
theorem dX5_valueOf_67 : decode cX5_valueOf 67 = .ok (.iload_n 3, 1) := by decide +kernel
theorem dX5_valueOf_68 : decode cX5_valueOf 68 = .ok (.invokevirtual 60, 3) := by decide +kernel
theorem dX5_valueOf_71 : decode cX5_valueOf 71 = .ok (.bipush 7, 2) := by decide +kernel
theorem dX5_valueOf_73 : decode cX5_valueOf 73 = .ok (.if_icmp .ne 42, 3) := by decide +kernel
theorem dX5_valueOf_76 : decode cX5_valueOf 76 = .ok (.aload_n 0, 1) := by decide +kernel
theorem dX5_valueOf_77 : decode cX5_valueOf 77 = .ok (.aload_n 0, 1) := by decide +kernel
theorem dX5_valueOf_78 : decode cX5_valueOf 78 = .ok (.getfield 25, 3) := by decide +kernel
theorem dX5_valueOf_81 : decode cX5_valueOf 81 = .ok (.iload_n 3, 1) := by decide +kernel
theorem dX5_valueOf_82 : decode cX5_valueOf 82 = .ok (.invokevirtual 63, 3) := by decide +kernel
theorem dX5_valueOf_85 : decode cX5_valueOf 85 = .ok (.iconst 0, 1) := by decide +kernel
theorem dX5_valueOf_86 : decode cX5_valueOf 86 = .ok (.invokevirtual 66, 3) := by decide +kernel
theorem dX5_valueOf_89 : decode cX5_valueOf 89 = .ok (.aload_n 0, 1) := by decide +kernel
theorem dX5_valueOf_90 : decode cX5_valueOf 90 = .ok (.getfield 53, 3) := by decide +kernel
theorem dX5_valueOf_93 : decode cX5_valueOf 93 = .ok (.sipush 4200, 3) := by decide +kernel
theorem dX5_valueOf_96 : decode cX5_valueOf 96 = .ok (.if_icmp .ge 14, 3) := by decide +kernel
theorem dX5_valueOf_99 : decode cX5_valueOf 99 = .ok (.aload_n 0, 1) := by decide +kernel
theorem dX5_valueOf_100 : decode cX5_valueOf 100 = .ok (.getfield 25, 3) := by decide +kernel
theorem dX5_valueOf_103 : decode cX5_valueOf 103 = .ok (.iload_n 3, 1) := by decide +kernel
theorem dX5_valueOf_104 : decode cX5_valueOf 104 = .ok (.invokevirtual 70, 3) := by decide +kernel
theorem dX5_valueOf_107 : decode cX5_valueOf 107 = .ok (.goto 4, 3) := by decide +kernel
theorem dX5_valueOf_110 : decode cX5_valueOf 110 = .ok (.iconst (-1), 1) := by decide +kernel
theorem dX5_valueOf_111 : decode cX5_valueOf 111 = .ok (.istore_n 3, 1) := by decide +kernel
theorem dX5_valueOf_112 : decode cX5_valueOf 112 = .ok (.goto 103, 3) := by decide +kernel
theorem dX5_valueOf_115 : decode cX5_valueOf 115 = .ok (.aload_n 0, 1) := by decide +kernel
theorem dX5_valueOf_116 : decode cX5_valueOf 116 = .ok (.getfield 53, 3) := by decide +kernel
theorem dX5_valueOf_119 : decode cX5_valueOf 119 = .ok (.ifCond .ne 5, 3) := by decide +kernel
theorem dX5_valueOf_122 : decode cX5_valueOf 122 = .ok (.iload_n 3, 1) := by decide +kernel
theorem dX5_valueOf_123 : decode cX5_valueOf 123 = .ok (.ireturn, 1) := by decide +kernel
theorem dX5_valueOf_124 : decode cX5_valueOf 124 = .ok (.aload_n 0, 1) := by decide +kernel
theorem dX5_valueOf_125 : decode cX5_valueOf 125 = .ok (.getfield 15, 3) := by decide +kernel
theorem dX5_valueOf_128 : decode cX5_valueOf 128 = .ok (.aload_n 0, 1) := by decide +kernel
theorem dX5_valueOf_129 : decode cX5_valueOf 129 = .ok (.getfield 53, 3) := by decide +kernel
theorem dX5_valueOf_132 : decode cX5_valueOf 132 = .ok (.iconst 1, 1) := by decide +kernel
theorem dX5_valueOf_133 : decode cX5_valueOf 133 = .ok (.isub, 1) := by decide +kernel
theorem dX5_valueOf_134 : decode cX5_valueOf 134 = .ok (.baload, 1) := by decide +kernel
theorem dX5_valueOf_135 : decode cX5_valueOf 135 = .ok (.ifCond .eq 45, 3) := by decide +kernel
theorem dX5_valueOf_138 : decode cX5_valueOf 138 = .ok (.aload_n 0, 1) := by decide +kernel
theorem dX5_valueOf_139 : decode cX5_valueOf 139 = .ok (.dup, 1) := by decide +kernel
theorem dX5_valueOf_140 : decode cX5_valueOf 140 = .ok (.getfield 53, 3) := by decide +kernel
theorem dX5_valueOf_143 : decode cX5_valueOf 143 = .ok (.iconst 1, 1) := by decide +kernel
theorem dX5_valueOf_144 : decode cX5_valueOf 144 = .ok (.isub, 1) := by decide +kernel
theorem dX5_valueOf_145 : decode cX5_valueOf 145 = .ok (.putfield 53, 3) := by decide +kernel
theorem dX5_valueOf_148 : decode cX5_valueOf 148 = .ok (.aload_n 0, 1) := by decide +kernel
theorem dX5_valueOf_149 : decode cX5_valueOf 149 = .ok (.aload_n 0, 1) := by decide +kernel
theorem dX5_valueOf_150 : decode cX5_valueOf 150 = .ok (.getfield 11, 3) := by decide +kernel
theorem dX5_valueOf_153 : decode cX5_valueOf 153 = .ok (.aload_n 0, 1) := by decide +kernel
theorem dX5_valueOf_154 : decode cX5_valueOf 154 = .ok (.getfield 53, 3) := by decide +kernel
theorem dX5_valueOf_157 : decode cX5_valueOf 157 = .ok (.iaload, 1) := by decide +kernel
theorem dX5_valueOf_158 : decode cX5_valueOf 158 = .ok (.iload_n 3, 1) := by decide +kernel
theorem dX5_valueOf_159 : decode cX5_valueOf 159 = .ok (.invokevirtual 73, 3) := by decide +kernel
theorem dX5_valueOf_162 : decode cX5_valueOf 162 = .ok (.istore_n 3, 1) := by decide +kernel
theorem dX5_valueOf_163 : decode cX5_valueOf 163 = .ok (.aload_n 0, 1) := by decide +kernel
theorem dX5_valueOf_164 : decode cX5_valueOf 164 = .ok (.getfield 77, 3) := by decide +kernel
theorem dX5_valueOf_167 : decode cX5_valueOf 167 = .ok (.ifCond .ne 7, 3) := by decide +kernel
theorem dX5_valueOf_170 : decode cX5_valueOf 170 = .ok (.iconst 1, 1) := by decide +kernel
theorem dX5_valueOf_171 : decode cX5_valueOf 171 = .ok (.goto 4, 3) := by decide +kernel
theorem dX5_valueOf_174 : decode cX5_valueOf 174 = .ok (.iconst 0, 1) := by decide +kernel
theorem dX5_valueOf_175 : decode cX5_valueOf 175 = .ok (.istore 4, 2) := by decide +kernel
theorem dX5_valueOf_177 : decode cX5_valueOf 177 = .ok (.goto 38, 3) := by decide +kernel
theorem dX5_valueOf_180 : decode cX5_valueOf 180 = .ok (.aload_n 0, 1) := by decide +kernel
theorem dX5_valueOf_181 : decode cX5_valueOf 181 = .ok (.getfield 11, 3) := by decide +kernel
theorem dX5_valueOf_184 : decode cX5_valueOf 184 = .ok (.aload_n 0, 1) := by decide +kernel
theorem dX5_valueOf_185 : decode cX5_valueOf 185 = .ok (.getfield 53, 3) := by decide +kernel
theorem dX5_valueOf_188 : decode cX5_valueOf 188 = .ok (.iconst 1, 1) := by decide +kernel
theorem dX5_valueOf_189 : decode cX5_valueOf 189 = .ok (.isub, 1) := by decide +kernel
theorem dX5_valueOf_190 : decode cX5_valueOf 190 = .ok (.iaload, 1) := by decide +kernel
theorem dX5_valueOf_191 : decode cX5_valueOf 191 = .ok (.istore 6, 2) := by decide +kernel
theorem dX5_valueOf_193 : decode cX5_valueOf 193 = .ok (.aload_n 0, 1) := by decide +kernel
theorem dX5_valueOf_194 : decode cX5_valueOf 194 = .ok (.dup, 1) := by decide +kernel
theorem dX5_valueOf_195 : decode cX5_valueOf 195 = .ok (.getfield 53, 3) := by decide +kernel
theorem dX5_valueOf_198 : decode cX5_valueOf 198 = .ok (.iconst 1, 1) := by decide +kernel
theorem dX5_valueOf_199 : decode cX5_valueOf 199 = .ok (.isub, 1) := by decide +kernel
theorem dX5_valueOf_200 : decode cX5_valueOf 200 = .ok (.putfield 53, 3) := by decide +kernel
theorem dX5_valueOf_203 : decode cX5_valueOf 203 = .ok (.aload_n 0, 1) := by decide +kernel
theorem dX5_valueOf_204 : decode cX5_valueOf 204 = .ok (.iload_n 3, 1) := by decide +kernel
theorem dX5_valueOf_205 : decode cX5_valueOf 205 = .ok (.iconst 1, 1) := by decide +kernel
theorem dX5_valueOf_206 : decode cX5_valueOf 206 = .ok (.invokevirtual 66, 3) := by decide +kernel
theorem dX5_valueOf_209 : decode cX5_valueOf 209 = .ok (.iload 6, 2) := by decide +kernel
theorem dX5_valueOf_211 : decode cX5_valueOf 211 = .ok (.istore_n 3, 1) := by decide +kernel
theorem dX5_valueOf_212 : decode cX5_valueOf 212 = .ok (.iconst 0, 1) := by decide +kernel
theorem dX5_valueOf_213 : decode cX5_valueOf 213 = .ok (.istore 4, 2) := by decide +kernel
theorem dX5_valueOf_215 : decode cX5_valueOf 215 = .ok (.iinc 5 1, 3) := by decide +kernel
theorem dX5_valueOf_218 : decode cX5_valueOf 218 = .ok (.goto (-172), 3) := by decide +kernel
theorem dX5_valueOf_221 : decode cX5_valueOf 221 = .ok (.iconst (-1), 1) := by decide +kernel
theorem dX5_valueOf_222 : decode cX5_valueOf 222 = .ok (.ireturn, 1) := by decide +kernel
theorem dX5_applied_0 : decode cX5_applied 0 = .ok (.aload_n 0, 1) := by decide +kernel
theorem dX5_applied_1 : decode cX5_applied 1 = .ok (.aload_n 0, 1) := by decide +kernel
theorem dX5_applied_2 : decode cX5_applied 2 = .ok (.getfield 25, 3) := by decide +kernel
theorem dX5_applied_5 : decode cX5_applied 5 = .ok (.iload_n 1, 1) := by decide +kernel
theorem dX5_applied_6 : decode cX5_applied 6 = .ok (.invokevirtual 60, 3) := by decide +kernel
theorem dX5_applied_9 : decode cX5_applied 9 = .ok (.bipush 6, 2) := by decide +kernel
theorem dX5_applied_11 : decode cX5_applied 11 = .ok (.if_icmp .ne 7, 3) := by decide +kernel
theorem dX5_applied_14 : decode cX5_applied 14 = .ok (.iconst 1, 1) := by decide +kernel
theorem dX5_applied_15 : decode cX5_applied 15 = .ok (.goto 4, 3) := by decide +kernel
theorem dX5_applied_18 : decode cX5_applied 18 = .ok (.iconst 0, 1) := by decide +kernel
theorem dX5_applied_19 : decode cX5_applied 19 = .ok (.putfield 77, 3) := by decide +kernel
theorem dX5_applied_22 : decode cX5_applied 22 = .ok (.aload_n 0, 1) := by decide +kernel
theorem dX5_applied_23 : decode cX5_applied 23 = .ok (.getfield 77, 3) := by decide +kernel
theorem dX5_applied_26 : decode cX5_applied 26 = .ok (.ifCond .eq 32, 3) := by decide +kernel
theorem dX5_applied_29 : decode cX5_applied 29 = .ok (.aload_n 0, 1) := by decide +kernel
theorem dX5_applied_30 : decode cX5_applied 30 = .ok (.invokevirtual 80, 3) := by decide +kernel
theorem dX5_applied_33 : decode cX5_applied 33 = .ok (.ifCond .eq 23, 3) := by decide +kernel
theorem dX5_applied_36 : decode cX5_applied 36 = .ok (.aload_n 0, 1) := by decide +kernel
theorem dX5_applied_37 : decode cX5_applied 37 = .ok (.getfield 25, 3) := by decide +kernel
theorem dX5_applied_40 : decode cX5_applied 40 = .ok (.aload_n 0, 1) := by decide +kernel
theorem dX5_applied_41 : decode cX5_applied 41 = .ok (.getfield 25, 3) := by decide +kernel
theorem dX5_applied_44 : decode cX5_applied 44 = .ok (.iload_n 1, 1) := by decide +kernel
theorem dX5_applied_45 : decode cX5_applied 45 = .ok (.invokevirtual 63, 3) := by decide +kernel
theorem dX5_applied_48 : decode cX5_applied 48 = .ok (.iload_n 2, 1) := by decide +kernel
theorem dX5_applied_49 : decode cX5_applied 49 = .ok (.iconst 0, 1) := by decide +kernel
theorem dX5_applied_50 : decode cX5_applied 50 = .ok (.invokestatic 84, 3) := by decide +kernel
theorem dX5_applied_53 : decode cX5_applied 53 = .ok (.goto 4, 3) := by decide +kernel
theorem dX5_applied_56 : decode cX5_applied 56 = .ok (.iconst (-1), 1) := by decide +kernel
theorem dX5_applied_57 : decode cX5_applied 57 = .ok (.ireturn, 1) := by decide +kernel
theorem dX5_applied_58 : decode cX5_applied 58 = .ok (.aload_n 0, 1) := by decide +kernel
theorem dX5_applied_59 : decode cX5_applied 59 = .ok (.getfield 25, 3) := by decide +kernel
theorem dX5_applied_62 : decode cX5_applied 62 = .ok (.bipush 7, 2) := by decide +kernel
theorem dX5_applied_64 : decode cX5_applied 64 = .ok (.iload_n 1, 1) := by decide +kernel
theorem dX5_applied_65 : decode cX5_applied 65 = .ok (.iload_n 2, 1) := by decide +kernel
theorem dX5_applied_66 : decode cX5_applied 66 = .ok (.invokevirtual 90, 3) := by decide +kernel
theorem dX5_applied_69 : decode cX5_applied 69 = .ok (.istore_n 3, 1) := by decide +kernel
theorem dX5_applied_70 : decode cX5_applied 70 = .ok (.aload_n 0, 1) := by decide +kernel
theorem dX5_applied_71 : decode cX5_applied 71 = .ok (.getfield 25, 3) := by decide +kernel
theorem dX5_applied_74 : decode cX5_applied 74 = .ok (.iload_n 3, 1) := by decide +kernel
theorem dX5_applied_75 : decode cX5_applied 75 = .ok (.invokevirtual 94, 3) := by decide +kernel
theorem dX5_applied_78 : decode cX5_applied 78 = .ok (.istore 4, 2) := by decide +kernel
theorem dX5_applied_80 : decode cX5_applied 80 = .ok (.aload_n 0, 1) := by decide +kernel
theorem dX5_applied_81 : decode cX5_applied 81 = .ok (.getfield 25, 3) := by decide +kernel
theorem dX5_applied_84 : decode cX5_applied 84 = .ok (.iload_n 3, 1) := by decide +kernel
theorem dX5_applied_85 : decode cX5_applied 85 = .ok (.invokevirtual 97, 3) := by decide +kernel
theorem dX5_applied_88 : decode cX5_applied 88 = .ok (.istore 5, 2) := by decide +kernel
theorem dX5_applied_90 : decode cX5_applied 90 = .ok (.aload_n 0, 1) := by decide +kernel
theorem dX5_applied_91 : decode cX5_applied 91 = .ok (.getfield 25, 3) := by decide +kernel
theorem dX5_applied_94 : decode cX5_applied 94 = .ok (.iload 4, 2) := by decide +kernel
theorem dX5_applied_96 : decode cX5_applied 96 = .ok (.invokevirtual 60, 3) := by decide +kernel
theorem dX5_applied_99 : decode cX5_applied 99 = .ok (.iconst 3, 1) := by decide +kernel
theorem dX5_applied_100 : decode cX5_applied 100 = .ok (.if_icmp .ne 30, 3) := by decide +kernel
theorem dX5_applied_103 : decode cX5_applied 103 = .ok (.iload 5, 2) := by decide +kernel
theorem dX5_applied_105 : decode cX5_applied 105 = .ok (.aload_n 0, 1) := by decide +kernel
theorem dX5_applied_106 : decode cX5_applied 106 = .ok (.getfield 29, 3) := by decide +kernel
theorem dX5_applied_109 : decode cX5_applied 109 = .ok (.aload_n 0, 1) := by decide +kernel
theorem dX5_applied_110 : decode cX5_applied 110 = .ok (.getfield 25, 3) := by decide +kernel
theorem dX5_applied_113 : decode cX5_applied 113 = .ok (.iload 4, 2) := by decide +kernel
theorem dX5_applied_115 : decode cX5_applied 115 = .ok (.invokevirtual 70, 3) := by decide +kernel
theorem dX5_applied_118 : decode cX5_applied 118 = .ok (.invokevirtual 100, 3) := by decide +kernel
theorem dX5_applied_121 : decode cX5_applied 121 = .ok (.if_icmp .gt 7, 3) := by decide +kernel
theorem dX5_applied_124 : decode cX5_applied 124 = .ok (.iload_n 3, 1) := by decide +kernel
theorem dX5_applied_125 : decode cX5_applied 125 = .ok (.goto 4, 3) := by decide +kernel
theorem dX5_applied_128 : decode cX5_applied 128 = .ok (.iconst (-1), 1) := by decide +kernel
theorem dX5_applied_129 : decode cX5_applied 129 = .ok (.ireturn, 1) := by decide +kernel
theorem dX5_applied_130 : decode cX5_applied 130 = .ok (.aload_n 0, 1) := by decide +kernel
theorem dX5_applied_131 : decode cX5_applied 131 = .ok (.getfield 25, 3) := by decide +kernel
theorem dX5_applied_134 : decode cX5_applied 134 = .ok (.iload 4, 2) := by decide +kernel
theorem dX5_applied_136 : decode cX5_applied 136 = .ok (.invokevirtual 60, 3) := by decide +kernel
theorem dX5_applied_139 : decode cX5_applied 139 = .ok (.iconst 4, 1) := by decide +kernel
theorem dX5_applied_140 : decode cX5_applied 140 = .ok (.if_icmp .ne 22, 3) := by decide +kernel
theorem dX5_applied_143 : decode cX5_applied 143 = .ok (.aload_n 0, 1) := by decide +kernel
theorem dX5_applied_144 : decode cX5_applied 144 = .ok (.getfield 33, 3) := by decide +kernel
theorem dX5_applied_147 : decode cX5_applied 147 = .ok (.aload_n 0, 1) := by decide +kernel
theorem dX5_applied_148 : decode cX5_applied 148 = .ok (.getfield 25, 3) := by decide +kernel
theorem dX5_applied_151 : decode cX5_applied 151 = .ok (.iload 4, 2) := by decide +kernel
theorem dX5_applied_153 : decode cX5_applied 153 = .ok (.invokevirtual 70, 3) := by decide +kernel
theorem dX5_applied_156 : decode cX5_applied 156 = .ok (.invokevirtual 105, 3) := by decide +kernel
theorem dX5_applied_159 : decode cX5_applied 159 = .ok (.goto 4, 3) := by decide +kernel
theorem dX5_applied_162 : decode cX5_applied 162 = .ok (.aconst_null, 1) := by decide +kernel
theorem dX5_applied_163 : decode cX5_applied 163 = .ok (.astore 6, 2) := by decide +kernel
theorem dX5_applied_165 : decode cX5_applied 165 = .ok (.aload 6, 2) := by decide +kernel
theorem dX5_applied_167 : decode cX5_applied 167 = .ok (.ifnull 13, 3) := by decide +kernel
theorem dX5_applied_170 : decode cX5_applied 170 = .ok (.iload 5, 2) := by decide +kernel
theorem dX5_applied_172 : decode cX5_applied 172 = .ok (.aload 6, 2) := by decide +kernel
theorem dX5_applied_174 : decode cX5_applied 174 = .ok (.getfield 109, 3) := by decide +kernel
theorem dX5_applied_177 : decode cX5_applied 177 = .ok (.if_icmp .le 5, 3) := by decide +kernel
theorem dX5_applied_180 : decode cX5_applied 180 = .ok (.iconst (-1), 1) := by decide +kernel
theorem dX5_applied_181 : decode cX5_applied 181 = .ok (.ireturn, 1) := by decide +kernel
theorem dX5_applied_182 : decode cX5_applied 182 = .ok (.iload 5, 2) := by decide +kernel
theorem dX5_applied_184 : decode cX5_applied 184 = .ok (.aload 6, 2) := by decide +kernel
theorem dX5_applied_186 : decode cX5_applied 186 = .ok (.getfield 109, 3) := by decide +kernel
theorem dX5_applied_189 : decode cX5_applied 189 = .ok (.if_icmp .ge 5, 3) := by decide +kernel
theorem dX5_applied_192 : decode cX5_applied 192 = .ok (.iload_n 3, 1) := by decide +kernel
theorem dX5_applied_193 : decode cX5_applied 193 = .ok (.ireturn, 1) := by decide +kernel
theorem dX5_applied_194 : decode cX5_applied 194 = .ok (.aload_n 0, 1) := by decide +kernel
theorem dX5_applied_195 : decode cX5_applied 195 = .ok (.iconst 1, 1) := by decide +kernel
theorem dX5_applied_196 : decode cX5_applied 196 = .ok (.putfield 77, 3) := by decide +kernel
theorem dX5_applied_199 : decode cX5_applied 199 = .ok (.aload_n 0, 1) := by decide +kernel
theorem dX5_applied_200 : decode cX5_applied 200 = .ok (.invokevirtual 80, 3) := by decide +kernel
theorem dX5_applied_203 : decode cX5_applied 203 = .ok (.ifCond .eq 22, 3) := by decide +kernel
theorem dX5_applied_206 : decode cX5_applied 206 = .ok (.aload_n 0, 1) := by decide +kernel
theorem dX5_applied_207 : decode cX5_applied 207 = .ok (.aload 6, 2) := by decide +kernel
theorem dX5_applied_209 : decode cX5_applied 209 = .ok (.aload_n 0, 1) := by decide +kernel
theorem dX5_applied_210 : decode cX5_applied 210 = .ok (.getfield 25, 3) := by decide +kernel
theorem dX5_applied_213 : decode cX5_applied 213 = .ok (.iload 4, 2) := by decide +kernel
theorem dX5_applied_215 : decode cX5_applied 215 = .ok (.invokevirtual 70, 3) := by decide +kernel
theorem dX5_applied_218 : decode cX5_applied 218 = .ok (.iload_n 3, 1) := by decide +kernel
theorem dX5_applied_219 : decode cX5_applied 219 = .ok (.invokevirtual 114, 3) := by decide +kernel
theorem dX5_applied_222 : decode cX5_applied 222 = .ok (.goto 4, 3) := by decide +kernel
theorem dX5_applied_225 : decode cX5_applied 225 = .ok (.iconst (-1), 1) := by decide +kernel
theorem dX5_applied_226 : decode cX5_applied 226 = .ok (.ireturn, 1) := by decide +kernel
theorem dX5_rightSideFor_0 : decode cX5_rightSideFor 0 = .ok (.iload_n 3, 1) := by decide +kernel
theorem dX5_rightSideFor_1 : decode cX5_rightSideFor 1 = .ok (.istore 4, 2) := by decide +kernel
theorem dX5_rightSideFor_3 : decode cX5_rightSideFor 3 = .ok (.aload_n 1, 1) := by decide +kernel
theorem dX5_rightSideFor_4 : decode cX5_rightSideFor 4 = .ok (.getfield 109, 3) := by decide +kernel
theorem dX5_rightSideFor_7 : decode cX5_rightSideFor 7 = .ok (.iconst 1, 1) := by decide +kernel
theorem dX5_rightSideFor_8 : decode cX5_rightSideFor 8 = .ok (.isub, 1) := by decide +kernel
theorem dX5_rightSideFor_9 : decode cX5_rightSideFor 9 = .ok (.istore 5, 2) := by decide +kernel
theorem dX5_rightSideFor_11 : decode cX5_rightSideFor 11 = .ok (.iload 5, 2) := by decide +kernel
theorem dX5_rightSideFor_13 : decode cX5_rightSideFor 13 = .ok (.ifCond .lt 42, 3) := by decide +kernel
theorem dX5_rightSideFor_16 : decode cX5_rightSideFor 16 = .ok (.iload 5, 2) := by decide +kernel
theorem dX5_rightSideFor_18 : decode cX5_rightSideFor 18 = .ok (.iconst 4, 1) := by decide +kernel
theorem dX5_rightSideFor_19 : decode cX5_rightSideFor 19 = .ok (.if_icmp .ge 36, 3) := by decide +kernel
theorem dX5_rightSideFor_22 : decode cX5_rightSideFor 22 = .ok (.aload_n 0, 1) := by decide +kernel
theorem dX5_rightSideFor_23 : decode cX5_rightSideFor 23 = .ok (.getfield 19, 3) := by decide +kernel
theorem dX5_rightSideFor_26 : decode cX5_rightSideFor 26 = .ok (.iload 5, 2) := by decide +kernel
theorem dX5_rightSideFor_28 : decode cX5_rightSideFor 28 = .ok (.aload_n 0, 1) := by decide +kernel
theorem dX5_rightSideFor_29 : decode cX5_rightSideFor 29 = .ok (.getfield 25, 3) := by decide +kernel
theorem dX5_rightSideFor_32 : decode cX5_rightSideFor 32 = .ok (.iload 4, 2) := by decide +kernel
theorem dX5_rightSideFor_34 : decode cX5_rightSideFor 34 = .ok (.invokevirtual 63, 3) := by decide +kernel
theorem dX5_rightSideFor_37 : decode cX5_rightSideFor 37 = .ok (.iastore, 1) := by decide +kernel
theorem dX5_rightSideFor_38 : decode cX5_rightSideFor 38 = .ok (.aload_n 0, 1) := by decide +kernel
theorem dX5_rightSideFor_39 : decode cX5_rightSideFor 39 = .ok (.getfield 25, 3) := by decide +kernel
theorem dX5_rightSideFor_42 : decode cX5_rightSideFor 42 = .ok (.iload 4, 2) := by decide +kernel
theorem dX5_rightSideFor_44 : decode cX5_rightSideFor 44 = .ok (.invokevirtual 70, 3) := by decide +kernel
theorem dX5_rightSideFor_47 : decode cX5_rightSideFor 47 = .ok (.istore 4, 2) := by decide +kernel
theorem dX5_rightSideFor_49 : decode cX5_rightSideFor 49 = .ok (.iinc 5 (-1), 3) := by decide +kernel
theorem dX5_rightSideFor_52 : decode cX5_rightSideFor 52 = .ok (.goto (-41), 3) := by decide +kernel
theorem dX5_rightSideFor_55 : decode cX5_rightSideFor 55 = .ok (.aload_n 0, 1) := by decide +kernel
theorem dX5_rightSideFor_56 : decode cX5_rightSideFor 56 = .ok (.getfield 49, 3) := by decide +kernel
theorem dX5_rightSideFor_59 : decode cX5_rightSideFor 59 = .ok (.ifCond .eq 11, 3) := by decide +kernel
theorem dX5_rightSideFor_62 : decode cX5_rightSideFor 62 = .ok (.aload_n 0, 1) := by decide +kernel
theorem dX5_rightSideFor_63 : decode cX5_rightSideFor 63 = .ok (.aload_n 1, 1) := by decide +kernel
theorem dX5_rightSideFor_64 : decode cX5_rightSideFor 64 = .ok (.invokevirtual 118, 3) := by decide +kernel
theorem dX5_rightSideFor_67 : decode cX5_rightSideFor 67 = .ok (.goto 8, 3) := by decide +kernel
theorem dX5_rightSideFor_70 : decode cX5_rightSideFor 70 = .ok (.aload_n 0, 1) := by decide +kernel
theorem dX5_rightSideFor_71 : decode cX5_rightSideFor 71 = .ok (.iload_n 2, 1) := by decide +kernel
theorem dX5_rightSideFor_72 : decode cX5_rightSideFor 72 = .ok (.invokevirtual 122, 3) := by decide +kernel
theorem dX5_rightSideFor_75 : decode cX5_rightSideFor 75 = .ok (.astore 5, 2) := by decide +kernel
theorem dX5_rightSideFor_77 : decode cX5_rightSideFor 77 = .ok (.aload 5, 2) := by decide +kernel
theorem dX5_rightSideFor_79 : decode cX5_rightSideFor 79 = .ok (.ifnonnull 7, 3) := by decide +kernel
theorem dX5_rightSideFor_82 : decode cX5_rightSideFor 82 = .ok (.iconst (-1), 1) := by decide +kernel
theorem dX5_rightSideFor_83 : decode cX5_rightSideFor 83 = .ok (.goto 13, 3) := by decide +kernel
theorem dX5_rightSideFor_86 : decode cX5_rightSideFor 86 = .ok (.aload_n 0, 1) := by decide +kernel
theorem dX5_rightSideFor_87 : decode cX5_rightSideFor 87 = .ok (.aload 5, 2) := by decide +kernel
theorem dX5_rightSideFor_89 : decode cX5_rightSideFor 89 = .ok (.getfield 126, 3) := by decide +kernel
theorem dX5_rightSideFor_92 : decode cX5_rightSideFor 92 = .ok (.iconst 0, 1) := by decide +kernel
theorem dX5_rightSideFor_93 : decode cX5_rightSideFor 93 = .ok (.invokestatic 131, 3) := by decide +kernel
theorem dX5_rightSideFor_96 : decode cX5_rightSideFor 96 = .ok (.ireturn, 1) := by decide +kernel
theorem dX5_clauseBySplits_0 : decode cX5_clauseBySplits 0 = .ok (.aload_n 0, 1) := by decide +kernel
theorem dX5_clauseBySplits_1 : decode cX5_clauseBySplits 1 = .ok (.aload_n 1, 1) := by decide +kernel
theorem dX5_clauseBySplits_2 : decode cX5_clauseBySplits 2 = .ok (.getfield 109, 3) := by decide +kernel
theorem dX5_clauseBySplits_5 : decode cX5_clauseBySplits 5 = .ok (.putfield 135, 3) := by decide +kernel
theorem dX5_clauseBySplits_8 : decode cX5_clauseBySplits 8 = .ok (.iconst 0, 1) := by decide +kernel
theorem dX5_clauseBySplits_9 : decode cX5_clauseBySplits 9 = .ok (.istore_n 2, 1) := by decide +kernel
theorem dX5_clauseBySplits_10 : decode cX5_clauseBySplits 10 = .ok (.iload_n 2, 1) := by decide +kernel
theorem dX5_clauseBySplits_11 : decode cX5_clauseBySplits 11 = .ok (.aload_n 0, 1) := by decide +kernel
theorem dX5_clauseBySplits_12 : decode cX5_clauseBySplits 12 = .ok (.getfield 135, 3) := by decide +kernel
theorem dX5_clauseBySplits_15 : decode cX5_clauseBySplits 15 = .ok (.if_icmp .ge 26, 3) := by decide +kernel
theorem dX5_clauseBySplits_18 : decode cX5_clauseBySplits 18 = .ok (.iload_n 2, 1) := by decide +kernel
theorem dX5_clauseBySplits_19 : decode cX5_clauseBySplits 19 = .ok (.iconst 4, 1) := by decide +kernel
theorem dX5_clauseBySplits_20 : decode cX5_clauseBySplits 20 = .ok (.if_icmp .ge 21, 3) := by decide +kernel
theorem dX5_clauseBySplits_23 : decode cX5_clauseBySplits 23 = .ok (.aload_n 0, 1) := by decide +kernel
theorem dX5_clauseBySplits_24 : decode cX5_clauseBySplits 24 = .ok (.getfield 22, 3) := by decide +kernel
theorem dX5_clauseBySplits_27 : decode cX5_clauseBySplits 27 = .ok (.iload_n 2, 1) := by decide +kernel
theorem dX5_clauseBySplits_28 : decode cX5_clauseBySplits 28 = .ok (.aload_n 0, 1) := by decide +kernel
theorem dX5_clauseBySplits_29 : decode cX5_clauseBySplits 29 = .ok (.getfield 19, 3) := by decide +kernel
theorem dX5_clauseBySplits_32 : decode cX5_clauseBySplits 32 = .ok (.iload_n 2, 1) := by decide +kernel
theorem dX5_clauseBySplits_33 : decode cX5_clauseBySplits 33 = .ok (.iaload, 1) := by decide +kernel
theorem dX5_clauseBySplits_34 : decode cX5_clauseBySplits 34 = .ok (.iastore, 1) := by decide +kernel
theorem dX5_clauseBySplits_35 : decode cX5_clauseBySplits 35 = .ok (.iinc 2 1, 3) := by decide +kernel
theorem dX5_clauseBySplits_38 : decode cX5_clauseBySplits 38 = .ok (.goto (-28), 3) := by decide +kernel
theorem dX5_clauseBySplits_41 : decode cX5_clauseBySplits 41 = .ok (.aload_n 0, 1) := by decide +kernel
theorem dX5_clauseBySplits_42 : decode cX5_clauseBySplits 42 = .ok (.getfield 33, 3) := by decide +kernel
theorem dX5_clauseBySplits_45 : decode cX5_clauseBySplits 45 = .ok (.aload_n 1, 1) := by decide +kernel
theorem dX5_clauseBySplits_46 : decode cX5_clauseBySplits 46 = .ok (.getfield 138, 3) := by decide +kernel
theorem dX5_clauseBySplits_49 : decode cX5_clauseBySplits 49 = .ok (.invokevirtual 141, 3) := by decide +kernel
theorem dX5_clauseBySplits_52 : decode cX5_clauseBySplits 52 = .ok (.astore_n 2, 1) := by decide +kernel
theorem dX5_clauseBySplits_53 : decode cX5_clauseBySplits 53 = .ok (.iconst 0, 1) := by decide +kernel
theorem dX5_clauseBySplits_54 : decode cX5_clauseBySplits 54 = .ok (.istore_n 3, 1) := by decide +kernel
theorem dX5_clauseBySplits_55 : decode cX5_clauseBySplits 55 = .ok (.iload_n 3, 1) := by decide +kernel
theorem dX5_clauseBySplits_56 : decode cX5_clauseBySplits 56 = .ok (.bipush 40, 2) := by decide +kernel
theorem dX5_clauseBySplits_58 : decode cX5_clauseBySplits 58 = .ok (.if_icmp .ge 43, 3) := by decide +kernel
theorem dX5_clauseBySplits_61 : decode cX5_clauseBySplits 61 = .ok (.aload_n 2, 1) := by decide +kernel
theorem dX5_clauseBySplits_62 : decode cX5_clauseBySplits 62 = .ok (.ifnull 39, 3) := by decide +kernel
theorem dX5_clauseBySplits_65 : decode cX5_clauseBySplits 65 = .ok (.aload_n 2, 1) := by decide +kernel
theorem dX5_clauseBySplits_66 : decode cX5_clauseBySplits 66 = .ok (.getfield 144, 3) := by decide +kernel
theorem dX5_clauseBySplits_69 : decode cX5_clauseBySplits 69 = .ok (.bipush 115, 2) := by decide +kernel
theorem dX5_clauseBySplits_71 : decode cX5_clauseBySplits 71 = .ok (.if_icmp .eq 18, 3) := by decide +kernel
theorem dX5_clauseBySplits_74 : decode cX5_clauseBySplits 74 = .ok (.aload_n 2, 1) := by decide +kernel
theorem dX5_clauseBySplits_75 : decode cX5_clauseBySplits 75 = .ok (.getfield 144, 3) := by decide +kernel
theorem dX5_clauseBySplits_78 : decode cX5_clauseBySplits 78 = .ok (.bipush 102, 2) := by decide +kernel
theorem dX5_clauseBySplits_80 : decode cX5_clauseBySplits 80 = .ok (.if_icmp .ne 7, 3) := by decide +kernel
theorem dX5_clauseBySplits_83 : decode cX5_clauseBySplits 83 = .ok (.aload_n 2, 1) := by decide +kernel
theorem dX5_clauseBySplits_84 : decode cX5_clauseBySplits 84 = .ok (.goto 4, 3) := by decide +kernel
theorem dX5_clauseBySplits_87 : decode cX5_clauseBySplits 87 = .ok (.aconst_null, 1) := by decide +kernel
theorem dX5_clauseBySplits_88 : decode cX5_clauseBySplits 88 = .ok (.areturn, 1) := by decide +kernel
theorem dX5_clauseBySplits_89 : decode cX5_clauseBySplits 89 = .ok (.aload_n 0, 1) := by decide +kernel
theorem dX5_clauseBySplits_90 : decode cX5_clauseBySplits 90 = .ok (.aload_n 2, 1) := by decide +kernel
theorem dX5_clauseBySplits_91 : decode cX5_clauseBySplits 91 = .ok (.invokevirtual 148, 3) := by decide +kernel
theorem dX5_clauseBySplits_94 : decode cX5_clauseBySplits 94 = .ok (.astore_n 2, 1) := by decide +kernel
theorem dX5_clauseBySplits_95 : decode cX5_clauseBySplits 95 = .ok (.iinc 3 1, 3) := by decide +kernel
theorem dX5_clauseBySplits_98 : decode cX5_clauseBySplits 98 = .ok (.goto (-43), 3) := by decide +kernel
theorem dX5_clauseBySplits_101 : decode cX5_clauseBySplits 101 = .ok (.aconst_null, 1) := by decide +kernel
theorem dX5_clauseBySplits_102 : decode cX5_clauseBySplits 102 = .ok (.areturn, 1) := by decide +kernel
theorem dX5_goDown_0 : decode cX5_goDown 0 = .ok (.aload_n 1, 1) := by decide +kernel
theorem dX5_goDown_1 : decode cX5_goDown 1 = .ok (.getfield 152, 3) := by decide +kernel
theorem dX5_goDown_4 : decode cX5_goDown 4 = .ok (.istore_n 2, 1) := by decide +kernel
theorem dX5_goDown_5 : decode cX5_goDown 5 = .ok (.iload_n 2, 1) := by decide +kernel
theorem dX5_goDown_6 : decode cX5_goDown 6 = .ok (.ifCond .lt 11, 3) := by decide +kernel
theorem dX5_goDown_9 : decode cX5_goDown 9 = .ok (.iload_n 2, 1) := by decide +kernel
theorem dX5_goDown_10 : decode cX5_goDown 10 = .ok (.aload_n 0, 1) := by decide +kernel
theorem dX5_goDown_11 : decode cX5_goDown 11 = .ok (.getfield 135, 3) := by decide +kernel
theorem dX5_goDown_14 : decode cX5_goDown 14 = .ok (.if_icmp .lt 5, 3) := by decide +kernel
theorem dX5_goDown_17 : decode cX5_goDown 17 = .ok (.aconst_null, 1) := by decide +kernel
theorem dX5_goDown_18 : decode cX5_goDown 18 = .ok (.areturn, 1) := by decide +kernel
theorem dX5_goDown_19 : decode cX5_goDown 19 = .ok (.aload_n 0, 1) := by decide +kernel
theorem dX5_goDown_20 : decode cX5_goDown 20 = .ok (.getfield 22, 3) := by decide +kernel
theorem dX5_goDown_23 : decode cX5_goDown 23 = .ok (.iload_n 2, 1) := by decide +kernel
theorem dX5_goDown_24 : decode cX5_goDown 24 = .ok (.iaload, 1) := by decide +kernel
theorem dX5_goDown_25 : decode cX5_goDown 25 = .ok (.istore_n 3, 1) := by decide +kernel
theorem dX5_goDown_26 : decode cX5_goDown 26 = .ok (.aload_n 0, 1) := by decide +kernel
theorem dX5_goDown_27 : decode cX5_goDown 27 = .ok (.getfield 25, 3) := by decide +kernel
theorem dX5_goDown_30 : decode cX5_goDown 30 = .ok (.iload_n 3, 1) := by decide +kernel
theorem dX5_goDown_31 : decode cX5_goDown 31 = .ok (.invokevirtual 94, 3) := by decide +kernel
theorem dX5_goDown_34 : decode cX5_goDown 34 = .ok (.istore 4, 2) := by decide +kernel
theorem dX5_goDown_36 : decode cX5_goDown 36 = .ok (.aload_n 0, 1) := by decide +kernel
theorem dX5_goDown_37 : decode cX5_goDown 37 = .ok (.getfield 25, 3) := by decide +kernel
theorem dX5_goDown_40 : decode cX5_goDown 40 = .ok (.iload_n 3, 1) := by decide +kernel
theorem dX5_goDown_41 : decode cX5_goDown 41 = .ok (.invokevirtual 97, 3) := by decide +kernel
theorem dX5_goDown_44 : decode cX5_goDown 44 = .ok (.istore 5, 2) := by decide +kernel
theorem dX5_goDown_46 : decode cX5_goDown 46 = .ok (.aload_n 0, 1) := by decide +kernel
theorem dX5_goDown_47 : decode cX5_goDown 47 = .ok (.getfield 135, 3) := by decide +kernel
theorem dX5_goDown_50 : decode cX5_goDown 50 = .ok (.iconst 1, 1) := by decide +kernel
theorem dX5_goDown_51 : decode cX5_goDown 51 = .ok (.isub, 1) := by decide +kernel
theorem dX5_goDown_52 : decode cX5_goDown 52 = .ok (.iload 5, 2) := by decide +kernel
theorem dX5_goDown_54 : decode cX5_goDown 54 = .ok (.iadd, 1) := by decide +kernel
theorem dX5_goDown_55 : decode cX5_goDown 55 = .ok (.istore 6, 2) := by decide +kernel
theorem dX5_goDown_57 : decode cX5_goDown 57 = .ok (.aload_n 0, 1) := by decide +kernel
theorem dX5_goDown_58 : decode cX5_goDown 58 = .ok (.getfield 25, 3) := by decide +kernel
theorem dX5_goDown_61 : decode cX5_goDown 61 = .ok (.iload 4, 2) := by decide +kernel
theorem dX5_goDown_63 : decode cX5_goDown 63 = .ok (.invokevirtual 60, 3) := by decide +kernel
theorem dX5_goDown_66 : decode cX5_goDown 66 = .ok (.iconst 3, 1) := by decide +kernel
theorem dX5_goDown_67 : decode cX5_goDown 67 = .ok (.if_icmp .ne 10, 3) := by decide +kernel
theorem dX5_goDown_70 : decode cX5_goDown 70 = .ok (.iload 6, 2) := by decide +kernel
theorem dX5_goDown_72 : decode cX5_goDown 72 = .ok (.bipush 12, 2) := by decide +kernel
theorem dX5_goDown_74 : decode cX5_goDown 74 = .ok (.if_icmp .le 5, 3) := by decide +kernel
theorem dX5_goDown_77 : decode cX5_goDown 77 = .ok (.aconst_null, 1) := by decide +kernel
theorem dX5_goDown_78 : decode cX5_goDown 78 = .ok (.areturn, 1) := by decide +kernel
theorem dX5_goDown_79 : decode cX5_goDown 79 = .ok (.aload_n 0, 1) := by decide +kernel
theorem dX5_goDown_80 : decode cX5_goDown 80 = .ok (.getfield 22, 3) := by decide +kernel
theorem dX5_goDown_83 : decode cX5_goDown 83 = .ok (.iload_n 2, 1) := by decide +kernel
theorem dX5_goDown_84 : decode cX5_goDown 84 = .ok (.iconst 1, 1) := by decide +kernel
theorem dX5_goDown_85 : decode cX5_goDown 85 = .ok (.iadd, 1) := by decide +kernel
theorem dX5_goDown_86 : decode cX5_goDown 86 = .ok (.aload_n 0, 1) := by decide +kernel
theorem dX5_goDown_87 : decode cX5_goDown 87 = .ok (.getfield 22, 3) := by decide +kernel
theorem dX5_goDown_90 : decode cX5_goDown 90 = .ok (.iload_n 2, 1) := by decide +kernel
theorem dX5_goDown_91 : decode cX5_goDown 91 = .ok (.iload 5, 2) := by decide +kernel
theorem dX5_goDown_93 : decode cX5_goDown 93 = .ok (.iadd, 1) := by decide +kernel
theorem dX5_goDown_94 : decode cX5_goDown 94 = .ok (.aload_n 0, 1) := by decide +kernel
theorem dX5_goDown_95 : decode cX5_goDown 95 = .ok (.getfield 135, 3) := by decide +kernel
theorem dX5_goDown_98 : decode cX5_goDown 98 = .ok (.iload_n 2, 1) := by decide +kernel
theorem dX5_goDown_99 : decode cX5_goDown 99 = .ok (.isub, 1) := by decide +kernel
theorem dX5_goDown_100 : decode cX5_goDown 100 = .ok (.iconst 1, 1) := by decide +kernel
theorem dX5_goDown_101 : decode cX5_goDown 101 = .ok (.isub, 1) := by decide +kernel
theorem dX5_goDown_102 : decode cX5_goDown 102 = .ok (.invokestatic 155, 3) := by decide +kernel
theorem dX5_goDown_105 : decode cX5_goDown 105 = .ok (.iload 5, 2) := by decide +kernel
theorem dX5_goDown_107 : decode cX5_goDown 107 = .ok (.iconst 1, 1) := by decide +kernel
theorem dX5_goDown_108 : decode cX5_goDown 108 = .ok (.isub, 1) := by decide +kernel
theorem dX5_goDown_109 : decode cX5_goDown 109 = .ok (.istore 7, 2) := by decide +kernel
theorem dX5_goDown_111 : decode cX5_goDown 111 = .ok (.iload 7, 2) := by decide +kernel
theorem dX5_goDown_113 : decode cX5_goDown 113 = .ok (.ifCond .lt 35, 3) := by decide +kernel
theorem dX5_goDown_116 : decode cX5_goDown 116 = .ok (.aload_n 0, 1) := by decide +kernel
theorem dX5_goDown_117 : decode cX5_goDown 117 = .ok (.getfield 22, 3) := by decide +kernel
theorem dX5_goDown_120 : decode cX5_goDown 120 = .ok (.iload_n 2, 1) := by decide +kernel
theorem dX5_goDown_121 : decode cX5_goDown 121 = .ok (.iload 7, 2) := by decide +kernel
theorem dX5_goDown_123 : decode cX5_goDown 123 = .ok (.iadd, 1) := by decide +kernel
theorem dX5_goDown_124 : decode cX5_goDown 124 = .ok (.aload_n 0, 1) := by decide +kernel
theorem dX5_goDown_125 : decode cX5_goDown 125 = .ok (.getfield 25, 3) := by decide +kernel
theorem dX5_goDown_128 : decode cX5_goDown 128 = .ok (.iload_n 3, 1) := by decide +kernel
theorem dX5_goDown_129 : decode cX5_goDown 129 = .ok (.invokevirtual 63, 3) := by decide +kernel
theorem dX5_goDown_132 : decode cX5_goDown 132 = .ok (.iastore, 1) := by decide +kernel
theorem dX5_goDown_133 : decode cX5_goDown 133 = .ok (.aload_n 0, 1) := by decide +kernel
theorem dX5_goDown_134 : decode cX5_goDown 134 = .ok (.getfield 25, 3) := by decide +kernel
theorem dX5_goDown_137 : decode cX5_goDown 137 = .ok (.iload_n 3, 1) := by decide +kernel
theorem dX5_goDown_138 : decode cX5_goDown 138 = .ok (.invokevirtual 70, 3) := by decide +kernel
theorem dX5_goDown_141 : decode cX5_goDown 141 = .ok (.istore_n 3, 1) := by decide +kernel
theorem dX5_goDown_142 : decode cX5_goDown 142 = .ok (.iinc 7 (-1), 3) := by decide +kernel
theorem dX5_goDown_145 : decode cX5_goDown 145 = .ok (.goto (-34), 3) := by decide +kernel
theorem dX5_goDown_148 : decode cX5_goDown 148 = .ok (.aload_n 0, 1) := by decide +kernel
theorem dX5_goDown_149 : decode cX5_goDown 149 = .ok (.iload 6, 2) := by decide +kernel
theorem dX5_goDown_151 : decode cX5_goDown 151 = .ok (.putfield 135, 3) := by decide +kernel
theorem dX5_goDown_154 : decode cX5_goDown 154 = .ok (.aload_n 0, 1) := by decide +kernel
theorem dX5_goDown_155 : decode cX5_goDown 155 = .ok (.getfield 33, 3) := by decide +kernel
theorem dX5_goDown_158 : decode cX5_goDown 158 = .ok (.aload_n 1, 1) := by decide +kernel
theorem dX5_goDown_159 : decode cX5_goDown 159 = .ok (.getfield 161, 3) := by decide +kernel
theorem dX5_goDown_162 : decode cX5_goDown 162 = .ok (.aload_n 0, 1) := by decide +kernel
theorem dX5_goDown_163 : decode cX5_goDown 163 = .ok (.getfield 29, 3) := by decide +kernel
theorem dX5_goDown_166 : decode cX5_goDown 166 = .ok (.aload_n 0, 1) := by decide +kernel
theorem dX5_goDown_167 : decode cX5_goDown 167 = .ok (.getfield 25, 3) := by decide +kernel
theorem dX5_goDown_170 : decode cX5_goDown 170 = .ok (.iload 4, 2) := by decide +kernel
theorem dX5_goDown_172 : decode cX5_goDown 172 = .ok (.invokevirtual 70, 3) := by decide +kernel
theorem dX5_goDown_175 : decode cX5_goDown 175 = .ok (.invokevirtual 164, 3) := by decide +kernel
theorem dX5_goDown_178 : decode cX5_goDown 178 = .ok (.iadd, 1) := by decide +kernel
theorem dX5_goDown_179 : decode cX5_goDown 179 = .ok (.invokevirtual 141, 3) := by decide +kernel
theorem dX5_goDown_182 : decode cX5_goDown 182 = .ok (.areturn, 1) := by decide +kernel
theorem dX5_clauseByOrder_0 : decode cX5_clauseByOrder 0 = .ok (.iconst 0, 1) := by decide +kernel
theorem dX5_clauseByOrder_1 : decode cX5_clauseByOrder 1 = .ok (.istore_n 2, 1) := by decide +kernel
theorem dX5_clauseByOrder_2 : decode cX5_clauseByOrder 2 = .ok (.iload_n 2, 1) := by decide +kernel
theorem dX5_clauseByOrder_3 : decode cX5_clauseByOrder 3 = .ok (.aload_n 0, 1) := by decide +kernel
theorem dX5_clauseByOrder_4 : decode cX5_clauseByOrder 4 = .ok (.getfield 33, 3) := by decide +kernel
theorem dX5_clauseByOrder_7 : decode cX5_clauseByOrder 7 = .ok (.getfield 167, 3) := by decide +kernel
theorem dX5_clauseByOrder_10 : decode cX5_clauseByOrder 10 = .ok (.if_icmp .ge 110, 3) := by decide +kernel
theorem dX5_clauseByOrder_13 : decode cX5_clauseByOrder 13 = .ok (.aload_n 0, 1) := by decide +kernel
theorem dX5_clauseByOrder_14 : decode cX5_clauseByOrder 14 = .ok (.getfield 33, 3) := by decide +kernel
theorem dX5_clauseByOrder_17 : decode cX5_clauseByOrder 17 = .ok (.iload_n 2, 1) := by decide +kernel
theorem dX5_clauseByOrder_18 : decode cX5_clauseByOrder 18 = .ok (.invokevirtual 141, 3) := by decide +kernel
theorem dX5_clauseByOrder_21 : decode cX5_clauseByOrder 21 = .ok (.astore_n 3, 1) := by decide +kernel
theorem dX5_clauseByOrder_22 : decode cX5_clauseByOrder 22 = .ok (.aload_n 3, 1) := by decide +kernel
theorem dX5_clauseByOrder_23 : decode cX5_clauseByOrder 23 = .ok (.ifnull 91, 3) := by decide +kernel
theorem dX5_clauseByOrder_26 : decode cX5_clauseByOrder 26 = .ok (.aload_n 3, 1) := by decide +kernel
theorem dX5_clauseByOrder_27 : decode cX5_clauseByOrder 27 = .ok (.getfield 170, 3) := by decide +kernel
theorem dX5_clauseByOrder_30 : decode cX5_clauseByOrder 30 = .ok (.iload_n 1, 1) := by decide +kernel
theorem dX5_clauseByOrder_31 : decode cX5_clauseByOrder 31 = .ok (.if_icmp .ne 83, 3) := by decide +kernel
theorem dX5_clauseByOrder_34 : decode cX5_clauseByOrder 34 = .ok (.aload_n 3, 1) := by decide +kernel
theorem dX5_clauseByOrder_35 : decode cX5_clauseByOrder 35 = .ok (.getfield 144, 3) := by decide +kernel
theorem dX5_clauseByOrder_38 : decode cX5_clauseByOrder 38 = .ok (.bipush 102, 2) := by decide +kernel
theorem dX5_clauseByOrder_40 : decode cX5_clauseByOrder 40 = .ok (.if_icmp .ne 74, 3) := by decide +kernel
theorem dX5_clauseByOrder_43 : decode cX5_clauseByOrder 43 = .ok (.aload_n 0, 1) := by decide +kernel
theorem dX5_clauseByOrder_44 : decode cX5_clauseByOrder 44 = .ok (.aload_n 3, 1) := by decide +kernel
theorem dX5_clauseByOrder_45 : decode cX5_clauseByOrder 45 = .ok (.getfield 172, 3) := by decide +kernel
theorem dX5_clauseByOrder_48 : decode cX5_clauseByOrder 48 = .ok (.getfield 176, 3) := by decide +kernel
theorem dX5_clauseByOrder_51 : decode cX5_clauseByOrder 51 = .ok (.putfield 135, 3) := by decide +kernel
theorem dX5_clauseByOrder_54 : decode cX5_clauseByOrder 54 = .ok (.iconst 1, 1) := by decide +kernel
theorem dX5_clauseByOrder_55 : decode cX5_clauseByOrder 55 = .ok (.istore 4, 2) := by decide +kernel
theorem dX5_clauseByOrder_57 : decode cX5_clauseByOrder 57 = .ok (.iconst 0, 1) := by decide +kernel
theorem dX5_clauseByOrder_58 : decode cX5_clauseByOrder 58 = .ok (.istore 5, 2) := by decide +kernel
theorem dX5_clauseByOrder_60 : decode cX5_clauseByOrder 60 = .ok (.iload 5, 2) := by decide +kernel
theorem dX5_clauseByOrder_62 : decode cX5_clauseByOrder 62 = .ok (.aload_n 3, 1) := by decide +kernel
theorem dX5_clauseByOrder_63 : decode cX5_clauseByOrder 63 = .ok (.getfield 181, 3) := by decide +kernel
theorem dX5_clauseByOrder_66 : decode cX5_clauseByOrder 66 = .ok (.arraylength, 1) := by decide +kernel
theorem dX5_clauseByOrder_67 : decode cX5_clauseByOrder 67 = .ok (.if_icmp .ge 40, 3) := by decide +kernel
theorem dX5_clauseByOrder_70 : decode cX5_clauseByOrder 70 = .ok (.iload 5, 2) := by decide +kernel
theorem dX5_clauseByOrder_72 : decode cX5_clauseByOrder 72 = .ok (.iconst 4, 1) := by decide +kernel
theorem dX5_clauseByOrder_73 : decode cX5_clauseByOrder 73 = .ok (.if_icmp .ge 34, 3) := by decide +kernel
theorem dX5_clauseByOrder_76 : decode cX5_clauseByOrder 76 = .ok (.iload 4, 2) := by decide +kernel
theorem dX5_clauseByOrder_78 : decode cX5_clauseByOrder 78 = .ok (.ifCond .eq 29, 3) := by decide +kernel
theorem dX5_clauseByOrder_81 : decode cX5_clauseByOrder 81 = .ok (.aload_n 0, 1) := by decide +kernel
theorem dX5_clauseByOrder_82 : decode cX5_clauseByOrder 82 = .ok (.aload_n 3, 1) := by decide +kernel
theorem dX5_clauseByOrder_83 : decode cX5_clauseByOrder 83 = .ok (.getfield 181, 3) := by decide +kernel
theorem dX5_clauseByOrder_86 : decode cX5_clauseByOrder 86 = .ok (.iload 5, 2) := by decide +kernel
theorem dX5_clauseByOrder_88 : decode cX5_clauseByOrder 88 = .ok (.iaload, 1) := by decide +kernel
theorem dX5_clauseByOrder_89 : decode cX5_clauseByOrder 89 = .ok (.aload_n 0, 1) := by decide +kernel
theorem dX5_clauseByOrder_90 : decode cX5_clauseByOrder 90 = .ok (.getfield 19, 3) := by decide +kernel
theorem dX5_clauseByOrder_93 : decode cX5_clauseByOrder 93 = .ok (.iload 5, 2) := by decide +kernel
theorem dX5_clauseByOrder_95 : decode cX5_clauseByOrder 95 = .ok (.iaload, 1) := by decide +kernel
theorem dX5_clauseByOrder_96 : decode cX5_clauseByOrder 96 = .ok (.invokestatic 184, 3) := by decide +kernel
theorem dX5_clauseByOrder_99 : decode cX5_clauseByOrder 99 = .ok (.istore 4, 2) := by decide +kernel
theorem dX5_clauseByOrder_101 : decode cX5_clauseByOrder 101 = .ok (.iinc 5 1, 3) := by decide +kernel
theorem dX5_clauseByOrder_104 : decode cX5_clauseByOrder 104 = .ok (.goto (-44), 3) := by decide +kernel
theorem dX5_clauseByOrder_107 : decode cX5_clauseByOrder 107 = .ok (.iload 4, 2) := by decide +kernel
theorem dX5_clauseByOrder_109 : decode cX5_clauseByOrder 109 = .ok (.ifCond .eq 5, 3) := by decide +kernel
theorem dX5_clauseByOrder_112 : decode cX5_clauseByOrder 112 = .ok (.aload_n 3, 1) := by decide +kernel
theorem dX5_clauseByOrder_113 : decode cX5_clauseByOrder 113 = .ok (.areturn, 1) := by decide +kernel
theorem dX5_clauseByOrder_114 : decode cX5_clauseByOrder 114 = .ok (.iinc 2 1, 3) := by decide +kernel
theorem dX5_clauseByOrder_117 : decode cX5_clauseByOrder 117 = .ok (.goto (-115), 3) := by decide +kernel
theorem dX5_clauseByOrder_120 : decode cX5_clauseByOrder 120 = .ok (.aconst_null, 1) := by decide +kernel
theorem dX5_clauseByOrder_121 : decode cX5_clauseByOrder 121 = .ok (.areturn, 1) := by decide +kernel
theorem wm1166 : (Jvm.Cond.methodLink "TelescopeCourt$Machine" (37 : Nat) ({ cls := "TelescopeCourt$Terms", name := "callsOf", desc := "(I)I" } : Jvm.MethodName)) ∈ W0 := wm_of 1166 (by decide +kernel) (by decide +kernel)
theorem wm1167 : (Jvm.Cond.constant "TelescopeCourt$Machine" (59 : Nat) (1000000 : Int32)) ∈ W0 := wm_of 1167 (by decide +kernel) (by decide +kernel)
theorem wm1170 : (Jvm.Cond.methodLink "TelescopeCourt$Machine" (66 : Nat) ({ cls := "TelescopeCourt$Machine", name := "push", desc := "(IZ)V" } : Jvm.MethodName)) ∈ W0 := wm_of 1170 (by decide +kernel) (by decide +kernel)
theorem wm1172 : (Jvm.Cond.instanceMethod ({ cls := "TelescopeCourt$Machine", name := "push", desc := "(IZ)V" } : Jvm.MethodName)) ∈ W0 := wm_of 1172 (by decide +kernel) (by decide +kernel)
theorem wm1173 : (Jvm.Cond.code ({ cls := "TelescopeCourt$Machine", name := "push", desc := "(IZ)V" } : Jvm.MethodName) prog_7_method_3_code (3 : Nat) (Option.none : Option Jvm.ClassFile.FieldType)) ∈ W0 := wm_of 1173 (by decide +kernel) (by decide +kernel)
theorem wm1175 : (Jvm.Cond.methodLink "TelescopeCourt$Machine" (73 : Nat) ({ cls := "TelescopeCourt$Machine", name := "applied", desc := "(II)I" } : Jvm.MethodName)) ∈ W0 := wm_of 1175 (by decide +kernel) (by decide +kernel)
theorem wm1177 : (Jvm.Cond.instanceMethod ({ cls := "TelescopeCourt$Machine", name := "applied", desc := "(II)I" } : Jvm.MethodName)) ∈ W0 := wm_of 1177 (by decide +kernel) (by decide +kernel)
theorem wm1178 : (Jvm.Cond.code ({ cls := "TelescopeCourt$Machine", name := "applied", desc := "(II)I" } : Jvm.MethodName) prog_7_method_4_code (7 : Nat) (Option.some Jvm.ClassFile.FieldType.int)) ∈ W0 := wm_of 1178 (by decide +kernel) (by decide +kernel)
theorem wm1179 : (Jvm.Cond.methodLink "TelescopeCourt$Machine" (80 : Nat) ({ cls := "TelescopeCourt$Machine", name := "takeStep", desc := "()Z" } : Jvm.MethodName)) ∈ W0 := wm_of 1179 (by decide +kernel) (by decide +kernel)
theorem wm1181 : (Jvm.Cond.instanceMethod ({ cls := "TelescopeCourt$Machine", name := "takeStep", desc := "()Z" } : Jvm.MethodName)) ∈ W0 := wm_of 1181 (by decide +kernel) (by decide +kernel)
theorem wm1182 : (Jvm.Cond.code ({ cls := "TelescopeCourt$Machine", name := "takeStep", desc := "()Z" } : Jvm.MethodName) prog_7_method_5_code (1 : Nat) (Option.some Jvm.ClassFile.FieldType.boolean)) ∈ W0 := wm_of 1182 (by decide +kernel) (by decide +kernel)
theorem wm1185 : (Jvm.Cond.methodLink "TelescopeCourt$Machine" (94 : Nat) ({ cls := "TelescopeCourt$Terms", name := "headOf", desc := "(I)I" } : Jvm.MethodName)) ∈ W0 := wm_of 1185 (by decide +kernel) (by decide +kernel)
theorem wm1186 : (Jvm.Cond.instanceMethod ({ cls := "TelescopeCourt$Terms", name := "headOf", desc := "(I)I" } : Jvm.MethodName)) ∈ W0 := wm_of 1186 (by decide +kernel) (by decide +kernel)
theorem wm1187 : (Jvm.Cond.selects "TelescopeCourt$Terms" ({ cls := "TelescopeCourt$Terms", name := "headOf", desc := "(I)I" } : Jvm.MethodName) ({ cls := "TelescopeCourt$Terms", name := "headOf", desc := "(I)I" } : Jvm.MethodName)) ∈ W0 := wm_of 1187 (by decide +kernel) (by decide +kernel)
theorem wm1188 : (Jvm.Cond.code ({ cls := "TelescopeCourt$Terms", name := "headOf", desc := "(I)I" } : Jvm.MethodName) prog_11_method_12_code (4 : Nat) (Option.some Jvm.ClassFile.FieldType.int)) ∈ W0 := wm_of 1188 (by decide +kernel) (by decide +kernel)
theorem wm1189 : (Jvm.Cond.methodLink "TelescopeCourt$Machine" (97 : Nat) ({ cls := "TelescopeCourt$Terms", name := "argumentsOf", desc := "(I)I" } : Jvm.MethodName)) ∈ W0 := wm_of 1189 (by decide +kernel) (by decide +kernel)
theorem wm1190 : (Jvm.Cond.methodLink "TelescopeCourt$Machine" (100 : Nat) ({ cls := "TelescopeCourt$Signature", name := "partsOf", desc := "(I)I" } : Jvm.MethodName)) ∈ W0 := wm_of 1190 (by decide +kernel) (by decide +kernel)
theorem wm1191 : (Jvm.Cond.methodLink "TelescopeCourt$Machine" (105 : Nat) ({ cls := "TelescopeCourt$Docket", name := "function", desc := "(I)LTelescopeCourt$Function;" } : Jvm.MethodName)) ∈ W0 := wm_of 1191 (by decide +kernel) (by decide +kernel)
theorem wm1192 : (Jvm.Cond.methodLink "TelescopeCourt$Machine" (114 : Nat) ({ cls := "TelescopeCourt$Machine", name := "rightSideFor", desc := "(LTelescopeCourt$Function;II)I" } : Jvm.MethodName)) ∈ W0 := wm_of 1192 (by decide +kernel) (by decide +kernel)
theorem wm1194 : (Jvm.Cond.instanceMethod ({ cls := "TelescopeCourt$Machine", name := "rightSideFor", desc := "(LTelescopeCourt$Function;II)I" } : Jvm.MethodName)) ∈ W0 := wm_of 1194 (by decide +kernel) (by decide +kernel)
theorem wm1195 : (Jvm.Cond.code ({ cls := "TelescopeCourt$Machine", name := "rightSideFor", desc := "(LTelescopeCourt$Function;II)I" } : Jvm.MethodName) prog_7_method_6_code (6 : Nat) (Option.some Jvm.ClassFile.FieldType.int)) ∈ W0 := wm_of 1195 (by decide +kernel) (by decide +kernel)
theorem wm1196 : (Jvm.Cond.methodLink "TelescopeCourt$Machine" (118 : Nat) ({ cls := "TelescopeCourt$Machine", name := "clauseBySplits", desc := "(LTelescopeCourt$Function;)LTelescopeCourt$Goal;" } : Jvm.MethodName)) ∈ W0 := wm_of 1196 (by decide +kernel) (by decide +kernel)
theorem wm1198 : (Jvm.Cond.instanceMethod ({ cls := "TelescopeCourt$Machine", name := "clauseBySplits", desc := "(LTelescopeCourt$Function;)LTelescopeCourt$Goal;" } : Jvm.MethodName)) ∈ W0 := wm_of 1198 (by decide +kernel) (by decide +kernel)
theorem wm1199 : (Jvm.Cond.code ({ cls := "TelescopeCourt$Machine", name := "clauseBySplits", desc := "(LTelescopeCourt$Function;)LTelescopeCourt$Goal;" } : Jvm.MethodName) prog_7_method_7_code (4 : Nat) (Option.some (Jvm.ClassFile.FieldType.object "TelescopeCourt$Goal"))) ∈ W0 := wm_of 1199 (by decide +kernel) (by decide +kernel)
theorem wm1200 : (Jvm.Cond.methodLink "TelescopeCourt$Machine" (141 : Nat) ({ cls := "TelescopeCourt$Docket", name := "goal", desc := "(I)LTelescopeCourt$Goal;" } : Jvm.MethodName)) ∈ W0 := wm_of 1200 (by decide +kernel) (by decide +kernel)
theorem wm1201 : (Jvm.Cond.methodLink "TelescopeCourt$Machine" (148 : Nat) ({ cls := "TelescopeCourt$Machine", name := "goDown", desc := "(LTelescopeCourt$Goal;)LTelescopeCourt$Goal;" } : Jvm.MethodName)) ∈ W0 := wm_of 1201 (by decide +kernel) (by decide +kernel)
theorem wm1203 : (Jvm.Cond.instanceMethod ({ cls := "TelescopeCourt$Machine", name := "goDown", desc := "(LTelescopeCourt$Goal;)LTelescopeCourt$Goal;" } : Jvm.MethodName)) ∈ W0 := wm_of 1203 (by decide +kernel) (by decide +kernel)
theorem wm1204 : (Jvm.Cond.code ({ cls := "TelescopeCourt$Machine", name := "goDown", desc := "(LTelescopeCourt$Goal;)LTelescopeCourt$Goal;" } : Jvm.MethodName) prog_7_method_8_code (8 : Nat) (Option.some (Jvm.ClassFile.FieldType.object "TelescopeCourt$Goal"))) ∈ W0 := wm_of 1204 (by decide +kernel) (by decide +kernel)
theorem wm1205 : (Jvm.Cond.methodLink "TelescopeCourt$Machine" (155 : Nat) ({ cls := "java/lang/System", name := "arraycopy", desc := "(Ljava/lang/Object;ILjava/lang/Object;II)V" } : Jvm.MethodName)) ∈ W0 := wm_of 1205 (by decide +kernel) (by decide +kernel)
theorem wm1206 : (Jvm.Cond.static ({ cls := "java/lang/System", name := "arraycopy", desc := "(Ljava/lang/Object;ILjava/lang/Object;II)V" } : Jvm.MethodName)) ∈ W0 := wm_of 1206 (by decide +kernel) (by decide +kernel)
theorem wm1207 : (Jvm.Cond.native ({ cls := "java/lang/System", name := "arraycopy", desc := "(Ljava/lang/Object;ILjava/lang/Object;II)V" } : Jvm.MethodName)) ∈ W0 := wm_of 1207 (by decide +kernel) (by decide +kernel)
theorem wm1208 : (Jvm.Cond.methodLink "TelescopeCourt$Machine" (164 : Nat) ({ cls := "TelescopeCourt$Signature", name := "rankOf", desc := "(I)I" } : Jvm.MethodName)) ∈ W0 := wm_of 1208 (by decide +kernel) (by decide +kernel)
theorem wm1209 : (Jvm.Cond.instanceMethod ({ cls := "TelescopeCourt$Signature", name := "rankOf", desc := "(I)I" } : Jvm.MethodName)) ∈ W0 := wm_of 1209 (by decide +kernel) (by decide +kernel)
theorem wm1210 : (Jvm.Cond.selects "TelescopeCourt$Signature" ({ cls := "TelescopeCourt$Signature", name := "rankOf", desc := "(I)I" } : Jvm.MethodName) ({ cls := "TelescopeCourt$Signature", name := "rankOf", desc := "(I)I" } : Jvm.MethodName)) ∈ W0 := wm_of 1210 (by decide +kernel) (by decide +kernel)
theorem wm1211 : (Jvm.Cond.code ({ cls := "TelescopeCourt$Signature", name := "rankOf", desc := "(I)I" } : Jvm.MethodName) prog_9_method_12_code (2 : Nat) (Option.some Jvm.ClassFile.FieldType.int)) ∈ W0 := wm_of 1211 (by decide +kernel) (by decide +kernel)
theorem wm1212 : (Jvm.Cond.methodLink "TelescopeCourt$Machine" (122 : Nat) ({ cls := "TelescopeCourt$Machine", name := "clauseByOrder", desc := "(I)LTelescopeCourt$Goal;" } : Jvm.MethodName)) ∈ W0 := wm_of 1212 (by decide +kernel) (by decide +kernel)
theorem wm1214 : (Jvm.Cond.instanceMethod ({ cls := "TelescopeCourt$Machine", name := "clauseByOrder", desc := "(I)LTelescopeCourt$Goal;" } : Jvm.MethodName)) ∈ W0 := wm_of 1214 (by decide +kernel) (by decide +kernel)
theorem wm1215 : (Jvm.Cond.code ({ cls := "TelescopeCourt$Machine", name := "clauseByOrder", desc := "(I)LTelescopeCourt$Goal;" } : Jvm.MethodName) prog_7_method_9_code (6 : Nat) (Option.some (Jvm.ClassFile.FieldType.object "TelescopeCourt$Goal"))) ∈ W0 := wm_of 1215 (by decide +kernel) (by decide +kernel)
theorem wm24 : (Jvm.Cond.initialized "java/lang/System") ∈ W0 := wm_of 24 (by decide +kernel) (by decide +kernel)
theorem wm257 : (Jvm.Cond.fieldLink "TelescopeCourt$Machine" (77 : Nat) "TelescopeCourt$Machine" "wasStep" "Z") ∈ W0 := wm_of 257 (by decide +kernel) (by decide +kernel)
theorem wm258 : (Jvm.Cond.fieldLink "TelescopeCourt$Machine" (49 : Nat) "TelescopeCourt$Machine" "bySplits" "Z") ∈ W0 := wm_of 258 (by decide +kernel) (by decide +kernel)
theorem ws_p21 : Cond.selects "TelescopeCourt$Machine" ⟨"TelescopeCourt$Machine", "push", "(IZ)V"⟩ ⟨"TelescopeCourt$Machine", "push", "(IZ)V"⟩ ∈ W0 := wms_of 21 (by decide +kernel : lw_privs[21]? = some (⟨"TelescopeCourt$Machine", "push", "(IZ)V"⟩, 12))
theorem ws_p22 : Cond.selects "TelescopeCourt$Machine" ⟨"TelescopeCourt$Machine", "applied", "(II)I"⟩ ⟨"TelescopeCourt$Machine", "applied", "(II)I"⟩ ∈ W0 := wms_of 22 (by decide +kernel : lw_privs[22]? = some (⟨"TelescopeCourt$Machine", "applied", "(II)I"⟩, 12))
theorem ws_p23 : Cond.selects "TelescopeCourt$Machine" ⟨"TelescopeCourt$Machine", "takeStep", "()Z"⟩ ⟨"TelescopeCourt$Machine", "takeStep", "()Z"⟩ ∈ W0 := wms_of 23 (by decide +kernel : lw_privs[23]? = some (⟨"TelescopeCourt$Machine", "takeStep", "()Z"⟩, 12))
theorem ws_p24 : Cond.selects "TelescopeCourt$Machine" ⟨"TelescopeCourt$Machine", "rightSideFor", "(LTelescopeCourt$Function;II)I"⟩ ⟨"TelescopeCourt$Machine", "rightSideFor", "(LTelescopeCourt$Function;II)I"⟩ ∈ W0 := wms_of 24 (by decide +kernel : lw_privs[24]? = some (⟨"TelescopeCourt$Machine", "rightSideFor", "(LTelescopeCourt$Function;II)I"⟩, 12))
theorem ws_p25 : Cond.selects "TelescopeCourt$Machine" ⟨"TelescopeCourt$Machine", "clauseBySplits", "(LTelescopeCourt$Function;)LTelescopeCourt$Goal;"⟩ ⟨"TelescopeCourt$Machine", "clauseBySplits", "(LTelescopeCourt$Function;)LTelescopeCourt$Goal;"⟩ ∈ W0 := wms_of 25 (by decide +kernel : lw_privs[25]? = some (⟨"TelescopeCourt$Machine", "clauseBySplits", "(LTelescopeCourt$Function;)LTelescopeCourt$Goal;"⟩, 12))
theorem ws_p26 : Cond.selects "TelescopeCourt$Machine" ⟨"TelescopeCourt$Machine", "goDown", "(LTelescopeCourt$Goal;)LTelescopeCourt$Goal;"⟩ ⟨"TelescopeCourt$Machine", "goDown", "(LTelescopeCourt$Goal;)LTelescopeCourt$Goal;"⟩ ∈ W0 := wms_of 26 (by decide +kernel : lw_privs[26]? = some (⟨"TelescopeCourt$Machine", "goDown", "(LTelescopeCourt$Goal;)LTelescopeCourt$Goal;"⟩, 12))
theorem ws_p27 : Cond.selects "TelescopeCourt$Machine" ⟨"TelescopeCourt$Machine", "clauseByOrder", "(I)LTelescopeCourt$Goal;"⟩ ⟨"TelescopeCourt$Machine", "clauseByOrder", "(I)LTelescopeCourt$Goal;"⟩ ∈ W0 := wms_of 27 (by decide +kernel : lw_privs[27]? = some (⟨"TelescopeCourt$Machine", "clauseByOrder", "(I)LTelescopeCourt$Goal;"⟩, 12))
theorem nw1183 : (Jvm.Cond.methodLinkNest "TelescopeCourt$Machine" (84 : Nat) ({ cls := "TelescopeCourt$Moves", name := "put", desc := "(LTelescopeCourt$Terms;III)I" } : Jvm.MethodName) "TelescopeCourt") ∈ NW := nw_of 1183 (by decide +kernel) (by decide +kernel)
theorem nw147 : (Jvm.Cond.fieldLinkNest "TelescopeCourt$Machine" (167 : Nat) "TelescopeCourt$Docket" "goalCount" "I" "TelescopeCourt") ∈ NW := nw_of 147 (by decide +kernel) (by decide +kernel)
theorem nw149 : (Jvm.Cond.fieldLinkNest "TelescopeCourt$Machine" (43 : Nat) "TelescopeCourt$Docket" "acceptedOnes" "I" "TelescopeCourt") ∈ NW := nw_of 149 (by decide +kernel) (by decide +kernel)
theorem nw188 : (Jvm.Cond.fieldLinkNest "TelescopeCourt$Machine" (176 : Nat) "TelescopeCourt$Telescope" "many" "I" "TelescopeCourt") ∈ NW := nw_of 188 (by decide +kernel) (by decide +kernel)
theorem nw887 : (Jvm.Cond.fieldLinkNest "TelescopeCourt$Machine" (109 : Nat) "TelescopeCourt$Function" "arity" "I" "TelescopeCourt") ∈ NW := nw_of 887 (by decide +kernel) (by decide +kernel)
theorem nw890 : (Jvm.Cond.fieldLinkNest "TelescopeCourt$Machine" (138 : Nat) "TelescopeCourt$Function" "firstGoal" "I" "TelescopeCourt") ∈ NW := nw_of 890 (by decide +kernel) (by decide +kernel)
theorem nw905 : (Jvm.Cond.fieldLinkNest "TelescopeCourt$Machine" (170 : Nat) "TelescopeCourt$Goal" "function" "I" "TelescopeCourt") ∈ NW := nw_of 905 (by decide +kernel) (by decide +kernel)
theorem nw910 : (Jvm.Cond.fieldLinkNest "TelescopeCourt$Machine" (172 : Nat) "TelescopeCourt$Goal" "context" "LTelescopeCourt$Telescope;" "TelescopeCourt") ∈ NW := nw_of 910 (by decide +kernel) (by decide +kernel)
theorem nw917 : (Jvm.Cond.fieldLinkNest "TelescopeCourt$Machine" (181 : Nat) "TelescopeCourt$Goal" "patterns" "[I" "TelescopeCourt") ∈ NW := nw_of 917 (by decide +kernel) (by decide +kernel)
theorem nw921 : (Jvm.Cond.fieldLinkNest "TelescopeCourt$Machine" (144 : Nat) "TelescopeCourt$Goal" "state" "C" "TelescopeCourt") ∈ NW := nw_of 921 (by decide +kernel) (by decide +kernel)
theorem nw926 : (Jvm.Cond.fieldLinkNest "TelescopeCourt$Machine" (126 : Nat) "TelescopeCourt$Goal" "right" "I" "TelescopeCourt") ∈ NW := nw_of 926 (by decide +kernel) (by decide +kernel)
theorem nw929 : (Jvm.Cond.fieldLinkNest "TelescopeCourt$Machine" (152 : Nat) "TelescopeCourt$Goal" "place" "I" "TelescopeCourt") ∈ NW := nw_of 929 (by decide +kernel) (by decide +kernel)
theorem nw931 : (Jvm.Cond.fieldLinkNest "TelescopeCourt$Machine" (161 : Nat) "TelescopeCourt$Goal" "firstChild" "I" "TelescopeCourt") ∈ NW := nw_of 931 (by decide +kernel) (by decide +kernel)
