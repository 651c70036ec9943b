theorem dX0_splitBy_0 : decode cX0_splitBy 0 = .ok (.aload_n 1, 1) := by decide +kernel
theorem dX0_splitBy_1 : decode cX0_splitBy 1 = .ok (.getfield 83, 3) := by decide +kernel
theorem dX0_splitBy_4 : decode cX0_splitBy 4 = .ok (.iload_n 2, 1) := by decide +kernel
theorem dX0_splitBy_5 : decode cX0_splitBy 5 = .ok (.invokevirtual 87, 3) := by decide +kernel
theorem dX0_splitBy_8 : decode cX0_splitBy 8 = .ok (.istore_n 3, 1) := by decide +kernel
theorem dX0_splitBy_9 : decode cX0_splitBy 9 = .ok (.aload_n 0, 1) := by decide +kernel
theorem dX0_splitBy_10 : decode cX0_splitBy 10 = .ok (.getfield 23, 3) := by decide +kernel
theorem dX0_splitBy_13 : decode cX0_splitBy 13 = .ok (.iload_n 3, 1) := by decide +kernel
theorem dX0_splitBy_14 : decode cX0_splitBy 14 = .ok (.invokevirtual 52, 3) := by decide +kernel
theorem dX0_splitBy_17 : decode cX0_splitBy 17 = .ok (.iconst 2, 1) := by decide +kernel
theorem dX0_splitBy_18 : decode cX0_splitBy 18 = .ok (.if_icmp .eq 5, 3) := by decide +kernel
theorem dX0_splitBy_21 : decode cX0_splitBy 21 = .ok (.iconst (-1), 1) := by decide +kernel
theorem dX0_splitBy_22 : decode cX0_splitBy 22 = .ok (.ireturn, 1) := by decide +kernel
theorem dX0_splitBy_23 : decode cX0_splitBy 23 = .ok (.aload_n 0, 1) := by decide +kernel
theorem dX0_splitBy_24 : decode cX0_splitBy 24 = .ok (.getfield 23, 3) := by decide +kernel
theorem dX0_splitBy_27 : decode cX0_splitBy 27 = .ok (.iload_n 3, 1) := by decide +kernel
theorem dX0_splitBy_28 : decode cX0_splitBy 28 = .ok (.invokevirtual 66, 3) := by decide +kernel
theorem dX0_splitBy_31 : decode cX0_splitBy 31 = .ok (.istore 4, 2) := by decide +kernel
theorem dX0_splitBy_33 : decode cX0_splitBy 33 = .ok (.aload_n 0, 1) := by decide +kernel
theorem dX0_splitBy_34 : decode cX0_splitBy 34 = .ok (.getfield 23, 3) := by decide +kernel
theorem dX0_splitBy_37 : decode cX0_splitBy 37 = .ok (.invokevirtual 107, 3) := by decide +kernel
theorem dX0_splitBy_40 : decode cX0_splitBy 40 = .ok (.istore 5, 2) := by decide +kernel
theorem dX0_splitBy_42 : decode cX0_splitBy 42 = .ok (.iconst 0, 1) := by decide +kernel
theorem dX0_splitBy_43 : decode cX0_splitBy 43 = .ok (.istore 6, 2) := by decide +kernel
theorem dX0_splitBy_45 : decode cX0_splitBy 45 = .ok (.iconst 0, 1) := by decide +kernel
theorem dX0_splitBy_46 : decode cX0_splitBy 46 = .ok (.istore 7, 2) := by decide +kernel
theorem dX0_splitBy_48 : decode cX0_splitBy 48 = .ok (.iload 7, 2) := by decide +kernel
theorem dX0_splitBy_50 : decode cX0_splitBy 50 = .ok (.aload_n 0, 1) := by decide +kernel
theorem dX0_splitBy_51 : decode cX0_splitBy 51 = .ok (.getfield 31, 3) := by decide +kernel
theorem dX0_splitBy_54 : decode cX0_splitBy 54 = .ok (.getfield 90, 3) := by decide +kernel
theorem dX0_splitBy_57 : decode cX0_splitBy 57 = .ok (.if_icmp .ge 81, 3) := by decide +kernel
theorem dX0_splitBy_60 : decode cX0_splitBy 60 = .ok (.aload_n 0, 1) := by decide +kernel
theorem dX0_splitBy_61 : decode cX0_splitBy 61 = .ok (.getfield 31, 3) := by decide +kernel
theorem dX0_splitBy_64 : decode cX0_splitBy 64 = .ok (.iload 7, 2) := by decide +kernel
theorem dX0_splitBy_66 : decode cX0_splitBy 66 = .ok (.invokevirtual 95, 3) := by decide +kernel
theorem dX0_splitBy_69 : decode cX0_splitBy 69 = .ok (.iload 4, 2) := by decide +kernel
theorem dX0_splitBy_71 : decode cX0_splitBy 71 = .ok (.if_icmp .ne 61, 3) := by decide +kernel
theorem dX0_splitBy_74 : decode cX0_splitBy 74 = .ok (.aload_n 0, 1) := by decide +kernel
theorem dX0_splitBy_75 : decode cX0_splitBy 75 = .ok (.getfield 39, 3) := by decide +kernel
theorem dX0_splitBy_78 : decode cX0_splitBy 78 = .ok (.iload 6, 2) := by decide +kernel
theorem dX0_splitBy_80 : decode cX0_splitBy 80 = .ok (.iadd, 1) := by decide +kernel
theorem dX0_splitBy_81 : decode cX0_splitBy 81 = .ok (.aload_n 0, 1) := by decide +kernel
theorem dX0_splitBy_82 : decode cX0_splitBy 82 = .ok (.getfield 19, 3) := by decide +kernel
theorem dX0_splitBy_85 : decode cX0_splitBy 85 = .ok (.arraylength, 1) := by decide +kernel
theorem dX0_splitBy_86 : decode cX0_splitBy 86 = .ok (.if_icmp .ge 46, 3) := by decide +kernel
theorem dX0_splitBy_89 : decode cX0_splitBy 89 = .ok (.aload_n 0, 1) := by decide +kernel
theorem dX0_splitBy_90 : decode cX0_splitBy 90 = .ok (.aload_n 1, 1) := by decide +kernel
theorem dX0_splitBy_91 : decode cX0_splitBy 91 = .ok (.iload_n 2, 1) := by decide +kernel
theorem dX0_splitBy_92 : decode cX0_splitBy 92 = .ok (.iload 7, 2) := by decide +kernel
theorem dX0_splitBy_94 : decode cX0_splitBy 94 = .ok (.invokevirtual 111, 3) := by decide +kernel
theorem dX0_splitBy_97 : decode cX0_splitBy 97 = .ok (.astore 8, 2) := by decide +kernel
theorem dX0_splitBy_99 : decode cX0_splitBy 99 = .ok (.aload 8, 2) := by decide +kernel
theorem dX0_splitBy_101 : decode cX0_splitBy 101 = .ok (.ifnonnull 14, 3) := by decide +kernel
theorem dX0_splitBy_104 : decode cX0_splitBy 104 = .ok (.aload_n 0, 1) := by decide +kernel
theorem dX0_splitBy_105 : decode cX0_splitBy 105 = .ok (.getfield 23, 3) := by decide +kernel
theorem dX0_splitBy_108 : decode cX0_splitBy 108 = .ok (.iload 5, 2) := by decide +kernel
theorem dX0_splitBy_110 : decode cX0_splitBy 110 = .ok (.invokevirtual 115, 3) := by decide +kernel
theorem dX0_splitBy_113 : decode cX0_splitBy 113 = .ok (.iconst (-1), 1) := by decide +kernel
theorem dX0_splitBy_114 : decode cX0_splitBy 114 = .ok (.ireturn, 1) := by decide +kernel
theorem dX0_splitBy_115 : decode cX0_splitBy 115 = .ok (.aload_n 0, 1) := by decide +kernel
theorem dX0_splitBy_116 : decode cX0_splitBy 116 = .ok (.getfield 19, 3) := by decide +kernel
theorem dX0_splitBy_119 : decode cX0_splitBy 119 = .ok (.aload_n 0, 1) := by decide +kernel
theorem dX0_splitBy_120 : decode cX0_splitBy 120 = .ok (.getfield 39, 3) := by decide +kernel
theorem dX0_splitBy_123 : decode cX0_splitBy 123 = .ok (.iload 6, 2) := by decide +kernel
theorem dX0_splitBy_125 : decode cX0_splitBy 125 = .ok (.iadd, 1) := by decide +kernel
theorem dX0_splitBy_126 : decode cX0_splitBy 126 = .ok (.aload 8, 2) := by decide +kernel
theorem dX0_splitBy_128 : decode cX0_splitBy 128 = .ok (.aastore, 1) := by decide +kernel
theorem dX0_splitBy_129 : decode cX0_splitBy 129 = .ok (.iinc 6 1, 3) := by decide +kernel
theorem dX0_splitBy_132 : decode cX0_splitBy 132 = .ok (.iinc 7 1, 3) := by decide +kernel
theorem dX0_splitBy_135 : decode cX0_splitBy 135 = .ok (.goto (-87), 3) := by decide +kernel
theorem dX0_splitBy_138 : decode cX0_splitBy 138 = .ok (.aload_n 1, 1) := by decide +kernel
theorem dX0_splitBy_139 : decode cX0_splitBy 139 = .ok (.iload_n 2, 1) := by decide +kernel
theorem dX0_splitBy_140 : decode cX0_splitBy 140 = .ok (.aload_n 0, 1) := by decide +kernel
theorem dX0_splitBy_141 : decode cX0_splitBy 141 = .ok (.getfield 39, 3) := by decide +kernel
theorem dX0_splitBy_144 : decode cX0_splitBy 144 = .ok (.invokevirtual 118, 3) := by decide +kernel
theorem dX0_splitBy_147 : decode cX0_splitBy 147 = .ok (.aload_n 0, 1) := by decide +kernel
theorem dX0_splitBy_148 : decode cX0_splitBy 148 = .ok (.dup, 1) := by decide +kernel
theorem dX0_splitBy_149 : decode cX0_splitBy 149 = .ok (.getfield 39, 3) := by decide +kernel
theorem dX0_splitBy_152 : decode cX0_splitBy 152 = .ok (.iload 6, 2) := by decide +kernel
theorem dX0_splitBy_154 : decode cX0_splitBy 154 = .ok (.iadd, 1) := by decide +kernel
theorem dX0_splitBy_155 : decode cX0_splitBy 155 = .ok (.putfield 39, 3) := by decide +kernel
theorem dX0_splitBy_158 : decode cX0_splitBy 158 = .ok (.aload_n 0, 1) := by decide +kernel
theorem dX0_splitBy_159 : decode cX0_splitBy 159 = .ok (.getfield 31, 3) := by decide +kernel
theorem dX0_splitBy_162 : decode cX0_splitBy 162 = .ok (.iload 4, 2) := by decide +kernel
theorem dX0_splitBy_164 : decode cX0_splitBy 164 = .ok (.invokevirtual 122, 3) := by decide +kernel
theorem dX0_splitBy_167 : decode cX0_splitBy 167 = .ok (.iload 6, 2) := by decide +kernel
theorem dX0_splitBy_169 : decode cX0_splitBy 169 = .ok (.ireturn, 1) := by decide +kernel
theorem wm1010 : (Jvm.Cond.methodLink "TelescopeCourt$Docket" (118 : Nat) ({ cls := "TelescopeCourt$Goal", name := "splitInto", desc := "(II)V" } : Jvm.MethodName)) ∈ W0 := wm_of 1010 (by decide +kernel) (by decide +kernel)
theorem wm1011 : (Jvm.Cond.instanceMethod ({ cls := "TelescopeCourt$Goal", name := "splitInto", desc := "(II)V" } : Jvm.MethodName)) ∈ W0 := wm_of 1011 (by decide +kernel) (by decide +kernel)
theorem wm1012 : (Jvm.Cond.selects "TelescopeCourt$Goal" ({ cls := "TelescopeCourt$Goal", name := "splitInto", desc := "(II)V" } : Jvm.MethodName) ({ cls := "TelescopeCourt$Goal", name := "splitInto", desc := "(II)V" } : Jvm.MethodName)) ∈ W0 := wm_of 1012 (by decide +kernel) (by decide +kernel)
theorem wm1013 : (Jvm.Cond.code ({ cls := "TelescopeCourt$Goal", name := "splitInto", desc := "(II)V" } : Jvm.MethodName) prog_5_method_4_code (3 : Nat) (Option.none : Option Jvm.ClassFile.FieldType)) ∈ W0 := wm_of 1013 (by decide +kernel) (by decide +kernel)
theorem wm1014 : (Jvm.Cond.methodLink "TelescopeCourt$Docket" (122 : Nat) ({ cls := "TelescopeCourt$Signature", name := "noteSplit", desc := "(I)V" } : Jvm.MethodName)) ∈ W0 := wm_of 1014 (by decide +kernel) (by decide +kernel)
theorem wm1015 : (Jvm.Cond.instanceMethod ({ cls := "TelescopeCourt$Signature", name := "noteSplit", desc := "(I)V" } : Jvm.MethodName)) ∈ W0 := wm_of 1015 (by decide +kernel) (by decide +kernel)
theorem wm1016 : (Jvm.Cond.selects "TelescopeCourt$Signature" ({ cls := "TelescopeCourt$Signature", name := "noteSplit", desc := "(I)V" } : Jvm.MethodName) ({ cls := "TelescopeCourt$Signature", name := "noteSplit", desc := "(I)V" } : Jvm.MethodName)) ∈ W0 := wm_of 1016 (by decide +kernel) (by decide +kernel)
theorem wm1017 : (Jvm.Cond.code ({ cls := "TelescopeCourt$Signature", name := "noteSplit", desc := "(I)V" } : Jvm.MethodName) prog_9_method_5_code (2 : Nat) (Option.none : Option Jvm.ClassFile.FieldType)) ∈ W0 := wm_of 1017 (by decide +kernel) (by decide +kernel)
theorem wm988 : (Jvm.Cond.methodLink "TelescopeCourt$Docket" (111 : Nat) ({ cls := "TelescopeCourt$Docket", name := "childOf", desc := "(LTelescopeCourt$Goal;II)LTelescopeCourt$Goal;" } : Jvm.MethodName)) ∈ W0 := wm_of 988 (by decide +kernel) (by decide +kernel)
theorem wm990 : (Jvm.Cond.instanceMethod ({ cls := "TelescopeCourt$Docket", name := "childOf", desc := "(LTelescopeCourt$Goal;II)LTelescopeCourt$Goal;" } : Jvm.MethodName)) ∈ W0 := wm_of 990 (by decide +kernel) (by decide +kernel)
theorem wm991 : (Jvm.Cond.code ({ cls := "TelescopeCourt$Docket", name := "childOf", desc := "(LTelescopeCourt$Goal;II)LTelescopeCourt$Goal;" } : Jvm.MethodName) prog_2_method_10_code (12 : Nat) (Option.some (Jvm.ClassFile.FieldType.object "TelescopeCourt$Goal"))) ∈ W0 := wm_of 991 (by decide +kernel) (by decide +kernel)
theorem ws_p13 : Cond.selects "TelescopeCourt$Docket" ⟨"TelescopeCourt$Docket", "childOf", "(LTelescopeCourt$Goal;II)LTelescopeCourt$Goal;"⟩ ⟨"TelescopeCourt$Docket", "childOf", "(LTelescopeCourt$Goal;II)LTelescopeCourt$Goal;"⟩ ∈ W0 := wms_of 13 (by decide +kernel : lw_privs[13]? = some (⟨"TelescopeCourt$Docket", "childOf", "(LTelescopeCourt$Goal;II)LTelescopeCourt$Goal;"⟩, 8))
