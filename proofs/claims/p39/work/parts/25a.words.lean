theorem dX11_allSteps_0 : decode cX11_allSteps 0 = .ok (.aload_n 0, 1) := by decide +kernel
theorem dX11_allSteps_1 : decode cX11_allSteps 1 = .ok (.getfield 303, 3) := by decide +kernel
theorem dX11_allSteps_4 : decode cX11_allSteps 4 = .ok (.lreturn, 1) := by decide +kernel
theorem dL_cell_0 : decode cL_cell 0 = .ok (.iload_n 1, 1) := by decide +kernel
theorem dL_cell_1 : decode cL_cell 1 = .ok (.aload_n 0, 1) := by decide +kernel
theorem dL_cell_2 : decode cL_cell 2 = .ok (.arraylength, 1) := by decide +kernel
theorem dL_cell_3 : decode cL_cell 3 = .ok (.if_icmp .ge 9, 3) := by decide +kernel
theorem dL_cell_6 : decode cL_cell 6 = .ok (.aload_n 0, 1) := by decide +kernel
theorem dL_cell_7 : decode cL_cell 7 = .ok (.iload_n 1, 1) := by decide +kernel
theorem dL_cell_8 : decode cL_cell 8 = .ok (.iaload, 1) := by decide +kernel
theorem dL_cell_9 : decode cL_cell 9 = .ok (.goto 11, 3) := by decide +kernel
theorem dL_cell_12 : decode cL_cell 12 = .ok (.sipush 7919, 3) := by decide +kernel
theorem dL_cell_15 : decode cL_cell 15 = .ok (.iload_n 1, 1) := by decide +kernel
theorem dL_cell_16 : decode cL_cell 16 = .ok (.imul, 1) := by decide +kernel
theorem dL_cell_17 : decode cL_cell 17 = .ok (.bipush 12, 2) := by decide +kernel
theorem dL_cell_19 : decode cL_cell 19 = .ok (.iadd, 1) := by decide +kernel
theorem dL_cell_20 : decode cL_cell 20 = .ok (.ireturn, 1) := by decide +kernel
theorem dL_some_0 : decode cL_some 0 = .ok (.aload_n 0, 1) := by decide +kernel
theorem dL_some_1 : decode cL_some 1 = .ok (.iload_n 1, 1) := by decide +kernel
theorem dL_some_2 : decode cL_some 2 = .ok (.invokestatic 7, 3) := by decide +kernel
theorem dL_some_5 : decode cL_some 5 = .ok (.iconst 3, 1) := by decide +kernel
theorem dL_some_6 : decode cL_some 6 = .ok (.iushr, 1) := by decide +kernel
theorem dL_some_7 : decode cL_some 7 = .ok (.iload_n 2, 1) := by decide +kernel
theorem dL_some_8 : decode cL_some 8 = .ok (.irem, 1) := by decide +kernel
theorem dL_some_9 : decode cL_some 9 = .ok (.ireturn, 1) := by decide +kernel
theorem dL_laid_0 : decode cL_laid 0 = .ok (.iload_n 0, 1) := by decide +kernel
theorem dL_laid_1 : decode cL_laid 1 = .ok (.ifCond .ge 7, 3) := by decide +kernel
theorem dL_laid_4 : decode cL_laid 4 = .ok (.iload_n 1, 1) := by decide +kernel
theorem dL_laid_5 : decode cL_laid 5 = .ok (.goto 10, 3) := by decide +kernel
theorem dL_laid_8 : decode cL_laid 8 = .ok (.iload_n 1, 1) := by decide +kernel
theorem dL_laid_9 : decode cL_laid 9 = .ok (.iload_n 0, 1) := by decide +kernel
theorem dL_laid_10 : decode cL_laid 10 = .ok (.iconst 1, 1) := by decide +kernel
theorem dL_laid_11 : decode cL_laid 11 = .ok (.iadd, 1) := by decide +kernel
theorem dL_laid_12 : decode cL_laid 12 = .ok (.invokestatic 125, 3) := by decide +kernel
theorem dL_laid_15 : decode cL_laid 15 = .ok (.ireturn, 1) := by decide +kernel
theorem dL_refuses_0 : decode cL_refuses 0 = .ok (.aload_n 0, 1) := by decide +kernel
theorem dL_refuses_1 : decode cL_refuses 1 = .ok (.iconst (-1), 1) := by decide +kernel
theorem dL_refuses_2 : decode cL_refuses 2 = .ok (.invokestatic 130, 3) := by decide +kernel
theorem dL_refuses_5 : decode cL_refuses 5 = .ok (.ldc 21, 2) := by decide +kernel
theorem dL_refuses_7 : decode cL_refuses 7 = .ok (.if_icmp .ne 178, 3) := by decide +kernel
theorem dL_refuses_10 : decode cL_refuses 10 = .ok (.aload_n 0, 1) := by decide +kernel
theorem dL_refuses_11 : decode cL_refuses 11 = .ok (.bipush 16, 2) := by decide +kernel
theorem dL_refuses_13 : decode cL_refuses 13 = .ok (.invokestatic 133, 3) := by decide +kernel
theorem dL_refuses_16 : decode cL_refuses 16 = .ok (.ldc 21, 2) := by decide +kernel
theorem dL_refuses_18 : decode cL_refuses 18 = .ok (.if_icmp .ne 167, 3) := by decide +kernel
theorem dL_refuses_21 : decode cL_refuses 21 = .ok (.aload_n 0, 1) := by decide +kernel
theorem dL_refuses_22 : decode cL_refuses 22 = .ok (.iload_n 1, 1) := by decide +kernel
theorem dL_refuses_23 : decode cL_refuses 23 = .ok (.iconst 0, 1) := by decide +kernel
theorem dL_refuses_24 : decode cL_refuses 24 = .ok (.invokestatic 135, 3) := by decide +kernel
theorem dL_refuses_27 : decode cL_refuses 27 = .ok (.ldc 34, 2) := by decide +kernel
theorem dL_refuses_29 : decode cL_refuses 29 = .ok (.if_icmp .ne 156, 3) := by decide +kernel
theorem dL_refuses_32 : decode cL_refuses 32 = .ok (.aload_n 0, 1) := by decide +kernel
theorem dL_refuses_33 : decode cL_refuses 33 = .ok (.iconst 0, 1) := by decide +kernel
theorem dL_refuses_34 : decode cL_refuses 34 = .ok (.iconst (-1), 1) := by decide +kernel
theorem dL_refuses_35 : decode cL_refuses 35 = .ok (.invokestatic 138, 3) := by decide +kernel
theorem dL_refuses_38 : decode cL_refuses 38 = .ok (.ldc 34, 2) := by decide +kernel
theorem dL_refuses_40 : decode cL_refuses 40 = .ok (.if_icmp .ne 145, 3) := by decide +kernel
theorem dL_refuses_43 : decode cL_refuses 43 = .ok (.aload_n 0, 1) := by decide +kernel
theorem dL_refuses_44 : decode cL_refuses 44 = .ok (.iload_n 1, 1) := by decide +kernel
theorem dL_refuses_45 : decode cL_refuses 45 = .ok (.iload_n 1, 1) := by decide +kernel
theorem dL_refuses_46 : decode cL_refuses 46 = .ok (.invokestatic 140, 3) := by decide +kernel
theorem dL_refuses_49 : decode cL_refuses 49 = .ok (.ldc 34, 2) := by decide +kernel
theorem dL_refuses_51 : decode cL_refuses 51 = .ok (.if_icmp .ne 134, 3) := by decide +kernel
theorem dL_refuses_54 : decode cL_refuses 54 = .ok (.aload_n 0, 1) := by decide +kernel
theorem dL_refuses_55 : decode cL_refuses 55 = .ok (.bipush 6, 2) := by decide +kernel
theorem dL_refuses_57 : decode cL_refuses 57 = .ok (.invokestatic 142, 3) := by decide +kernel
theorem dL_refuses_60 : decode cL_refuses 60 = .ok (.ldc 46, 2) := by decide +kernel
theorem dL_refuses_62 : decode cL_refuses 62 = .ok (.if_icmp .ne 123, 3) := by decide +kernel
theorem dL_refuses_65 : decode cL_refuses 65 = .ok (.aload_n 0, 1) := by decide +kernel
theorem dL_refuses_66 : decode cL_refuses 66 = .ok (.iload_n 3, 1) := by decide +kernel
theorem dL_refuses_67 : decode cL_refuses 67 = .ok (.invokestatic 144, 3) := by decide +kernel
theorem dL_refuses_70 : decode cL_refuses 70 = .ok (.ldc 46, 2) := by decide +kernel
theorem dL_refuses_72 : decode cL_refuses 72 = .ok (.if_icmp .ne 113, 3) := by decide +kernel
theorem dL_refuses_75 : decode cL_refuses 75 = .ok (.aload_n 0, 1) := by decide +kernel
theorem dL_refuses_76 : decode cL_refuses 76 = .ok (.iconst 0, 1) := by decide +kernel
theorem dL_refuses_77 : decode cL_refuses 77 = .ok (.iconst 4, 1) := by decide +kernel
theorem dL_refuses_78 : decode cL_refuses 78 = .ok (.iconst 0, 1) := by decide +kernel
theorem dL_refuses_79 : decode cL_refuses 79 = .ok (.iconst 0, 1) := by decide +kernel
theorem dL_refuses_80 : decode cL_refuses 80 = .ok (.iconst 0, 1) := by decide +kernel
theorem dL_refuses_81 : decode cL_refuses 81 = .ok (.invokestatic 146, 3) := by decide +kernel
theorem dL_refuses_84 : decode cL_refuses 84 = .ok (.ldc 21, 2) := by decide +kernel
theorem dL_refuses_86 : decode cL_refuses 86 = .ok (.if_icmp .ne 99, 3) := by decide +kernel
theorem dL_refuses_89 : decode cL_refuses 89 = .ok (.aload_n 0, 1) := by decide +kernel
theorem dL_refuses_90 : decode cL_refuses 90 = .ok (.iload_n 1, 1) := by decide +kernel
theorem dL_refuses_91 : decode cL_refuses 91 = .ok (.invokestatic 149, 3) := by decide +kernel
theorem dL_refuses_94 : decode cL_refuses 94 = .ok (.ldc 34, 2) := by decide +kernel
theorem dL_refuses_96 : decode cL_refuses 96 = .ok (.if_icmp .ne 89, 3) := by decide +kernel
theorem dL_refuses_99 : decode cL_refuses 99 = .ok (.aload_n 0, 1) := by decide +kernel
theorem dL_refuses_100 : decode cL_refuses 100 = .ok (.iconst (-1), 1) := by decide +kernel
theorem dL_refuses_101 : decode cL_refuses 101 = .ok (.invokestatic 151, 3) := by decide +kernel
theorem dL_refuses_104 : decode cL_refuses 104 = .ok (.ldc 34, 2) := by decide +kernel
theorem dL_refuses_106 : decode cL_refuses 106 = .ok (.if_icmp .ne 79, 3) := by decide +kernel
theorem dL_refuses_109 : decode cL_refuses 109 = .ok (.aload_n 0, 1) := by decide +kernel
theorem dL_refuses_110 : decode cL_refuses 110 = .ok (.iload_n 1, 1) := by decide +kernel
theorem dL_refuses_111 : decode cL_refuses 111 = .ok (.invokestatic 153, 3) := by decide +kernel
theorem dL_refuses_114 : decode cL_refuses 114 = .ok (.ldc 34, 2) := by decide +kernel
theorem dL_refuses_116 : decode cL_refuses 116 = .ok (.if_icmp .ne 69, 3) := by decide +kernel
theorem dL_refuses_119 : decode cL_refuses 119 = .ok (.aload_n 0, 1) := by decide +kernel
theorem dL_refuses_120 : decode cL_refuses 120 = .ok (.iload_n 2, 1) := by decide +kernel
theorem dL_refuses_121 : decode cL_refuses 121 = .ok (.iconst 0, 1) := by decide +kernel
theorem dL_refuses_122 : decode cL_refuses 122 = .ok (.invokestatic 155, 3) := by decide +kernel
theorem dL_refuses_125 : decode cL_refuses 125 = .ok (.ldc 46, 2) := by decide +kernel
theorem dL_refuses_127 : decode cL_refuses 127 = .ok (.if_icmp .ne 58, 3) := by decide +kernel
theorem dL_refuses_130 : decode cL_refuses 130 = .ok (.aload_n 0, 1) := by decide +kernel
theorem dL_refuses_131 : decode cL_refuses 131 = .ok (.iload_n 2, 1) := by decide +kernel
theorem dL_refuses_132 : decode cL_refuses 132 = .ok (.iconst 0, 1) := by decide +kernel
theorem dL_refuses_133 : decode cL_refuses 133 = .ok (.invokestatic 157, 3) := by decide +kernel
theorem dL_refuses_136 : decode cL_refuses 136 = .ok (.ldc 46, 2) := by decide +kernel
theorem dL_refuses_138 : decode cL_refuses 138 = .ok (.if_icmp .ne 47, 3) := by decide +kernel
theorem dL_refuses_141 : decode cL_refuses 141 = .ok (.aload_n 0, 1) := by decide +kernel
theorem dL_refuses_142 : decode cL_refuses 142 = .ok (.iload_n 2, 1) := by decide +kernel
theorem dL_refuses_143 : decode cL_refuses 143 = .ok (.invokestatic 159, 3) := by decide +kernel
theorem dL_refuses_146 : decode cL_refuses 146 = .ok (.ldc 46, 2) := by decide +kernel
theorem dL_refuses_148 : decode cL_refuses 148 = .ok (.if_icmp .ne 37, 3) := by decide +kernel
theorem dL_refuses_151 : decode cL_refuses 151 = .ok (.aload_n 0, 1) := by decide +kernel
theorem dL_refuses_152 : decode cL_refuses 152 = .ok (.iload_n 2, 1) := by decide +kernel
theorem dL_refuses_153 : decode cL_refuses 153 = .ok (.invokestatic 161, 3) := by decide +kernel
theorem dL_refuses_156 : decode cL_refuses 156 = .ok (.ldc 46, 2) := by decide +kernel
theorem dL_refuses_158 : decode cL_refuses 158 = .ok (.if_icmp .ne 27, 3) := by decide +kernel
theorem dL_refuses_161 : decode cL_refuses 161 = .ok (.aload_n 0, 1) := by decide +kernel
theorem dL_refuses_162 : decode cL_refuses 162 = .ok (.iload_n 3, 1) := by decide +kernel
theorem dL_refuses_163 : decode cL_refuses 163 = .ok (.invokestatic 163, 3) := by decide +kernel
theorem dL_refuses_166 : decode cL_refuses 166 = .ok (.ldc 46, 2) := by decide +kernel
theorem dL_refuses_168 : decode cL_refuses 168 = .ok (.if_icmp .ne 17, 3) := by decide +kernel
theorem dL_refuses_171 : decode cL_refuses 171 = .ok (.aload_n 0, 1) := by decide +kernel
theorem dL_refuses_172 : decode cL_refuses 172 = .ok (.iload_n 1, 1) := by decide +kernel
theorem dL_refuses_173 : decode cL_refuses 173 = .ok (.invokestatic 165, 3) := by decide +kernel
theorem dL_refuses_176 : decode cL_refuses 176 = .ok (.ldc 34, 2) := by decide +kernel
theorem dL_refuses_178 : decode cL_refuses 178 = .ok (.if_icmp .ne 7, 3) := by decide +kernel
theorem dL_refuses_181 : decode cL_refuses 181 = .ok (.iconst 1, 1) := by decide +kernel
theorem dL_refuses_182 : decode cL_refuses 182 = .ok (.goto 4, 3) := by decide +kernel
theorem dL_refuses_185 : decode cL_refuses 185 = .ok (.iconst 0, 1) := by decide +kernel
theorem dL_refuses_186 : decode cL_refuses 186 = .ok (.ireturn, 1) := by decide +kernel
theorem wm0 : (Jvm.Cond.initialized "TelescopeCourtLaw") ∈ W0 := wm_of 0 (by decide +kernel) (by decide +kernel)
theorem wm1019 : (Jvm.Cond.methodLink "TelescopeCourtLaw" (157 : Nat) ({ cls := "TelescopeCourtLaw", name := "fill", desc := "(LTelescopeCourt;II)I" } : Jvm.MethodName)) ∈ W0 := wm_of 1019 (by decide +kernel) (by decide +kernel)
theorem wm1020 : (Jvm.Cond.static ({ cls := "TelescopeCourtLaw", name := "fill", desc := "(LTelescopeCourt;II)I" } : Jvm.MethodName)) ∈ W0 := wm_of 1020 (by decide +kernel) (by decide +kernel)
theorem wm1040 : (Jvm.Cond.methodLink "TelescopeCourtLaw" (159 : Nat) ({ cls := "TelescopeCourtLaw", name := "auto", desc := "(LTelescopeCourt;I)I" } : Jvm.MethodName)) ∈ W0 := wm_of 1040 (by decide +kernel) (by decide +kernel)
theorem wm1041 : (Jvm.Cond.static ({ cls := "TelescopeCourtLaw", name := "auto", desc := "(LTelescopeCourt;I)I" } : Jvm.MethodName)) ∈ W0 := wm_of 1041 (by decide +kernel) (by decide +kernel)
theorem wm1053 : (Jvm.Cond.methodLink "TelescopeCourtLaw" (161 : Nat) ({ cls := "TelescopeCourtLaw", name := "reopen", desc := "(LTelescopeCourt;I)I" } : Jvm.MethodName)) ∈ W0 := wm_of 1053 (by decide +kernel) (by decide +kernel)
theorem wm1054 : (Jvm.Cond.static ({ cls := "TelescopeCourtLaw", name := "reopen", desc := "(LTelescopeCourt;I)I" } : Jvm.MethodName)) ∈ W0 := wm_of 1054 (by decide +kernel) (by decide +kernel)
theorem wm1094 : (Jvm.Cond.methodLink "TelescopeCourtLaw" (163 : Nat) ({ cls := "TelescopeCourtLaw", name := "accept", desc := "(LTelescopeCourt;I)I" } : Jvm.MethodName)) ∈ W0 := wm_of 1094 (by decide +kernel) (by decide +kernel)
theorem wm1095 : (Jvm.Cond.static ({ cls := "TelescopeCourtLaw", name := "accept", desc := "(LTelescopeCourt;I)I" } : Jvm.MethodName)) ∈ W0 := wm_of 1095 (by decide +kernel) (by decide +kernel)
theorem wm1151 : (Jvm.Cond.methodLink "TelescopeCourtLaw" (165 : Nat) ({ cls := "TelescopeCourtLaw", name := "run", desc := "(LTelescopeCourt;I)I" } : Jvm.MethodName)) ∈ W0 := wm_of 1151 (by decide +kernel) (by decide +kernel)
theorem wm1152 : (Jvm.Cond.static ({ cls := "TelescopeCourtLaw", name := "run", desc := "(LTelescopeCourt;I)I" } : Jvm.MethodName)) ∈ W0 := wm_of 1152 (by decide +kernel) (by decide +kernel)
theorem wm1247 : (Jvm.Cond.methodLink "TelescopeCourtLaw" (125 : Nat) ({ cls := "java/lang/Math", name := "max", desc := "(II)I" } : Jvm.MethodName)) ∈ W0 := wm_of 1247 (by decide +kernel) (by decide +kernel)
theorem wm1251 : (Jvm.Cond.methodLink "TelescopeCourtLaw" (149 : Nat) ({ cls := "TelescopeCourtLaw", name := "size", desc := "(LTelescopeCourt;I)I" } : Jvm.MethodName)) ∈ W0 := wm_of 1251 (by decide +kernel) (by decide +kernel)
theorem wm1252 : (Jvm.Cond.static ({ cls := "TelescopeCourtLaw", name := "size", desc := "(LTelescopeCourt;I)I" } : Jvm.MethodName)) ∈ W0 := wm_of 1252 (by decide +kernel) (by decide +kernel)
theorem wm637 : (Jvm.Cond.methodLink "TelescopeCourtLaw" (7 : Nat) ({ cls := "TelescopeCourtLaw", name := "cell", desc := "([II)I" } : Jvm.MethodName)) ∈ W0 := wm_of 637 (by decide +kernel) (by decide +kernel)
theorem wm638 : (Jvm.Cond.static ({ cls := "TelescopeCourtLaw", name := "cell", desc := "([II)I" } : Jvm.MethodName)) ∈ W0 := wm_of 638 (by decide +kernel) (by decide +kernel)
theorem wm639 : (Jvm.Cond.code ({ cls := "TelescopeCourtLaw", name := "cell", desc := "([II)I" } : Jvm.MethodName) method_2_code (2 : Nat) (Option.some Jvm.ClassFile.FieldType.int)) ∈ W0 := wm_of 639 (by decide +kernel) (by decide +kernel)
theorem wm640 : (Jvm.Cond.methodLink "TelescopeCourtLaw" (130 : Nat) ({ cls := "TelescopeCourtLaw", name := "universe", desc := "(LTelescopeCourt;I)I" } : Jvm.MethodName)) ∈ W0 := wm_of 640 (by decide +kernel) (by decide +kernel)
theorem wm641 : (Jvm.Cond.static ({ cls := "TelescopeCourtLaw", name := "universe", desc := "(LTelescopeCourt;I)I" } : Jvm.MethodName)) ∈ W0 := wm_of 641 (by decide +kernel) (by decide +kernel)
theorem wm688 : (Jvm.Cond.methodLink "TelescopeCourtLaw" (133 : Nat) ({ cls := "TelescopeCourtLaw", name := "variable", desc := "(LTelescopeCourt;I)I" } : Jvm.MethodName)) ∈ W0 := wm_of 688 (by decide +kernel) (by decide +kernel)
theorem wm689 : (Jvm.Cond.static ({ cls := "TelescopeCourtLaw", name := "variable", desc := "(LTelescopeCourt;I)I" } : Jvm.MethodName)) ∈ W0 := wm_of 689 (by decide +kernel) (by decide +kernel)
theorem wm696 : (Jvm.Cond.methodLink "TelescopeCourtLaw" (140 : Nat) ({ cls := "TelescopeCourtLaw", name := "functions", desc := "(LTelescopeCourt;II)I" } : Jvm.MethodName)) ∈ W0 := wm_of 696 (by decide +kernel) (by decide +kernel)
theorem wm697 : (Jvm.Cond.static ({ cls := "TelescopeCourtLaw", name := "functions", desc := "(LTelescopeCourt;II)I" } : Jvm.MethodName)) ∈ W0 := wm_of 697 (by decide +kernel) (by decide +kernel)
theorem wm731 : (Jvm.Cond.methodLink "TelescopeCourtLaw" (138 : Nat) ({ cls := "TelescopeCourtLaw", name := "lambda", desc := "(LTelescopeCourt;II)I" } : Jvm.MethodName)) ∈ W0 := wm_of 731 (by decide +kernel) (by decide +kernel)
theorem wm732 : (Jvm.Cond.static ({ cls := "TelescopeCourtLaw", name := "lambda", desc := "(LTelescopeCourt;II)I" } : Jvm.MethodName)) ∈ W0 := wm_of 732 (by decide +kernel) (by decide +kernel)
theorem wm738 : (Jvm.Cond.methodLink "TelescopeCourtLaw" (135 : Nat) ({ cls := "TelescopeCourtLaw", name := "apply", desc := "(LTelescopeCourt;II)I" } : Jvm.MethodName)) ∈ W0 := wm_of 738 (by decide +kernel) (by decide +kernel)
theorem wm739 : (Jvm.Cond.static ({ cls := "TelescopeCourtLaw", name := "apply", desc := "(LTelescopeCourt;II)I" } : Jvm.MethodName)) ∈ W0 := wm_of 739 (by decide +kernel) (by decide +kernel)
theorem wm745 : (Jvm.Cond.methodLink "TelescopeCourtLaw" (142 : Nat) ({ cls := "TelescopeCourtLaw", name := "dataNode", desc := "(LTelescopeCourt;I)I" } : Jvm.MethodName)) ∈ W0 := wm_of 745 (by decide +kernel) (by decide +kernel)
theorem wm746 : (Jvm.Cond.static ({ cls := "TelescopeCourtLaw", name := "dataNode", desc := "(LTelescopeCourt;I)I" } : Jvm.MethodName)) ∈ W0 := wm_of 746 (by decide +kernel) (by decide +kernel)
theorem wm768 : (Jvm.Cond.methodLink "TelescopeCourtLaw" (144 : Nat) ({ cls := "TelescopeCourtLaw", name := "functionNode", desc := "(LTelescopeCourt;I)I" } : Jvm.MethodName)) ∈ W0 := wm_of 768 (by decide +kernel) (by decide +kernel)
theorem wm769 : (Jvm.Cond.static ({ cls := "TelescopeCourtLaw", name := "functionNode", desc := "(LTelescopeCourt;I)I" } : Jvm.MethodName)) ∈ W0 := wm_of 769 (by decide +kernel) (by decide +kernel)
theorem wm787 : (Jvm.Cond.methodLink "TelescopeCourtLaw" (146 : Nat) ({ cls := "TelescopeCourtLaw", name := "addConstructor", desc := "(LTelescopeCourt;IIIII)I" } : Jvm.MethodName)) ∈ W0 := wm_of 787 (by decide +kernel) (by decide +kernel)
theorem wm788 : (Jvm.Cond.static ({ cls := "TelescopeCourtLaw", name := "addConstructor", desc := "(LTelescopeCourt;IIIII)I" } : Jvm.MethodName)) ∈ W0 := wm_of 788 (by decide +kernel) (by decide +kernel)
theorem wm807 : (Jvm.Cond.methodLink "TelescopeCourtLaw" (151 : Nat) ({ cls := "TelescopeCourtLaw", name := "normal", desc := "(LTelescopeCourt;I)I" } : Jvm.MethodName)) ∈ W0 := wm_of 807 (by decide +kernel) (by decide +kernel)
theorem wm808 : (Jvm.Cond.static ({ cls := "TelescopeCourtLaw", name := "normal", desc := "(LTelescopeCourt;I)I" } : Jvm.MethodName)) ∈ W0 := wm_of 808 (by decide +kernel) (by decide +kernel)
theorem wm855 : (Jvm.Cond.methodLink "TelescopeCourtLaw" (153 : Nat) ({ cls := "TelescopeCourtLaw", name := "declare", desc := "(LTelescopeCourt;I)I" } : Jvm.MethodName)) ∈ W0 := wm_of 855 (by decide +kernel) (by decide +kernel)
theorem wm856 : (Jvm.Cond.static ({ cls := "TelescopeCourtLaw", name := "declare", desc := "(LTelescopeCourt;I)I" } : Jvm.MethodName)) ∈ W0 := wm_of 856 (by decide +kernel) (by decide +kernel)
theorem wm949 : (Jvm.Cond.methodLink "TelescopeCourtLaw" (155 : Nat) ({ cls := "TelescopeCourtLaw", name := "split", desc := "(LTelescopeCourt;II)I" } : Jvm.MethodName)) ∈ W0 := wm_of 949 (by decide +kernel) (by decide +kernel)
theorem wm950 : (Jvm.Cond.static ({ cls := "TelescopeCourtLaw", name := "split", desc := "(LTelescopeCourt;II)I" } : Jvm.MethodName)) ∈ W0 := wm_of 950 (by decide +kernel) (by decide +kernel)
