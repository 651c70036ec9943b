theorem dX4_takeCallsOf_0 : decode cX4_takeCallsOf 0 = .ok (.aload_n 1, 1) := by decide +kernel
theorem dX4_takeCallsOf_1 : decode cX4_takeCallsOf 1 = .ok (.ifnull 33, 3) := by decide +kernel
theorem dX4_takeCallsOf_4 : decode cX4_takeCallsOf 4 = .ok (.aload_n 1, 1) := by decide +kernel
theorem dX4_takeCallsOf_5 : decode cX4_takeCallsOf 5 = .ok (.getfield 33, 3) := by decide +kernel
theorem dX4_takeCallsOf_8 : decode cX4_takeCallsOf 8 = .ok (.aload_n 0, 1) := by decide +kernel
theorem dX4_takeCallsOf_9 : decode cX4_takeCallsOf 9 = .ok (.getfield 19, 3) := by decide +kernel
theorem dX4_takeCallsOf_12 : decode cX4_takeCallsOf 12 = .ok (.if_icmp .ne 22, 3) := by decide +kernel
theorem dX4_takeCallsOf_15 : decode cX4_takeCallsOf 15 = .ok (.aload_n 1, 1) := by decide +kernel
theorem dX4_takeCallsOf_16 : decode cX4_takeCallsOf 16 = .ok (.getfield 36, 3) := by decide +kernel
theorem dX4_takeCallsOf_19 : decode cX4_takeCallsOf 19 = .ok (.bipush 102, 2) := by decide +kernel
theorem dX4_takeCallsOf_21 : decode cX4_takeCallsOf 21 = .ok (.if_icmp .ne 13, 3) := by decide +kernel
theorem dX4_takeCallsOf_24 : decode cX4_takeCallsOf 24 = .ok (.aload_n 0, 1) := by decide +kernel
theorem dX4_takeCallsOf_25 : decode cX4_takeCallsOf 25 = .ok (.aload_n 1, 1) := by decide +kernel
theorem dX4_takeCallsOf_26 : decode cX4_takeCallsOf 26 = .ok (.aload_n 1, 1) := by decide +kernel
theorem dX4_takeCallsOf_27 : decode cX4_takeCallsOf 27 = .ok (.getfield 40, 3) := by decide +kernel
theorem dX4_takeCallsOf_30 : decode cX4_takeCallsOf 30 = .ok (.iconst 0, 1) := by decide +kernel
theorem dX4_takeCallsOf_31 : decode cX4_takeCallsOf 31 = .ok (.invokestatic 43, 3) := by decide +kernel
theorem dX4_takeCallsOf_34 : decode cX4_takeCallsOf 34 = .ok (.return_, 1) := by decide +kernel
theorem dX4_visit_0 : decode cX4_visit 0 = .ok (.aload_n 0, 1) := by decide +kernel
theorem dX4_visit_1 : decode cX4_visit 1 = .ok (.getfield 15, 3) := by decide +kernel
theorem dX4_visit_4 : decode cX4_visit 4 = .ok (.astore 4, 2) := by decide +kernel
theorem dX4_visit_6 : decode cX4_visit 6 = .ok (.aload 4, 2) := by decide +kernel
theorem dX4_visit_8 : decode cX4_visit 8 = .ok (.iload_n 2, 1) := by decide +kernel
theorem dX4_visit_9 : decode cX4_visit 9 = .ok (.invokevirtual 47, 3) := by decide +kernel
theorem dX4_visit_12 : decode cX4_visit 12 = .ok (.aload_n 0, 1) := by decide +kernel
theorem dX4_visit_13 : decode cX4_visit 13 = .ok (.getfield 19, 3) := by decide +kernel
theorem dX4_visit_16 : decode cX4_visit 16 = .ok (.ishr, 1) := by decide +kernel
theorem dX4_visit_17 : decode cX4_visit 17 = .ok (.iconst 1, 1) := by decide +kernel
theorem dX4_visit_18 : decode cX4_visit 18 = .ok (.iand, 1) := by decide +kernel
theorem dX4_visit_19 : decode cX4_visit 19 = .ok (.ifCond .ne 4, 3) := by decide +kernel
theorem dX4_visit_22 : decode cX4_visit 22 = .ok (.return_, 1) := by decide +kernel
theorem dX4_visit_23 : decode cX4_visit 23 = .ok (.aload 4, 2) := by decide +kernel
theorem dX4_visit_25 : decode cX4_visit 25 = .ok (.iload_n 2, 1) := by decide +kernel
theorem dX4_visit_26 : decode cX4_visit 26 = .ok (.invokevirtual 53, 3) := by decide +kernel
theorem dX4_visit_29 : decode cX4_visit 29 = .ok (.istore 5, 2) := by decide +kernel
theorem dX4_visit_31 : decode cX4_visit 31 = .ok (.iload_n 2, 1) := by decide +kernel
theorem dX4_visit_32 : decode cX4_visit 32 = .ok (.istore 6, 2) := by decide +kernel
theorem dX4_visit_34 : decode cX4_visit 34 = .ok (.iconst 0, 1) := by decide +kernel
theorem dX4_visit_35 : decode cX4_visit 35 = .ok (.istore 7, 2) := by decide +kernel
theorem dX4_visit_37 : decode cX4_visit 37 = .ok (.iload 7, 2) := by decide +kernel
theorem dX4_visit_39 : decode cX4_visit 39 = .ok (.iload 5, 2) := by decide +kernel
theorem dX4_visit_41 : decode cX4_visit 41 = .ok (.if_icmp .ge 31, 3) := by decide +kernel
theorem dX4_visit_44 : decode cX4_visit 44 = .ok (.aload_n 0, 1) := by decide +kernel
theorem dX4_visit_45 : decode cX4_visit 45 = .ok (.aload_n 1, 1) := by decide +kernel
theorem dX4_visit_46 : decode cX4_visit 46 = .ok (.aload 4, 2) := by decide +kernel
theorem dX4_visit_48 : decode cX4_visit 48 = .ok (.iload 6, 2) := by decide +kernel
theorem dX4_visit_50 : decode cX4_visit 50 = .ok (.invokevirtual 56, 3) := by decide +kernel
theorem dX4_visit_53 : decode cX4_visit 53 = .ok (.iload_n 3, 1) := by decide +kernel
theorem dX4_visit_54 : decode cX4_visit 54 = .ok (.invokestatic 43, 3) := by decide +kernel
theorem dX4_visit_57 : decode cX4_visit 57 = .ok (.aload 4, 2) := by decide +kernel
theorem dX4_visit_59 : decode cX4_visit 59 = .ok (.iload 6, 2) := by decide +kernel
theorem dX4_visit_61 : decode cX4_visit 61 = .ok (.invokevirtual 59, 3) := by decide +kernel
theorem dX4_visit_64 : decode cX4_visit 64 = .ok (.istore 6, 2) := by decide +kernel
theorem dX4_visit_66 : decode cX4_visit 66 = .ok (.iinc 7 1, 3) := by decide +kernel
theorem dX4_visit_69 : decode cX4_visit 69 = .ok (.goto (-32), 3) := by decide +kernel
theorem dX4_visit_72 : decode cX4_visit 72 = .ok (.aload 4, 2) := by decide +kernel
theorem dX4_visit_74 : decode cX4_visit 74 = .ok (.iload 6, 2) := by decide +kernel
theorem dX4_visit_76 : decode cX4_visit 76 = .ok (.invokevirtual 62, 3) := by decide +kernel
theorem dX4_visit_79 : decode cX4_visit 79 = .ok (.iconst 5, 1) := by decide +kernel
theorem dX4_visit_80 : decode cX4_visit 80 = .ok (.if_icmp .lt 34, 3) := by decide +kernel
theorem dX4_visit_83 : decode cX4_visit 83 = .ok (.aload_n 0, 1) := by decide +kernel
theorem dX4_visit_84 : decode cX4_visit 84 = .ok (.aload_n 1, 1) := by decide +kernel
theorem dX4_visit_85 : decode cX4_visit 85 = .ok (.aload 4, 2) := by decide +kernel
theorem dX4_visit_87 : decode cX4_visit 87 = .ok (.iload 6, 2) := by decide +kernel
theorem dX4_visit_89 : decode cX4_visit 89 = .ok (.invokevirtual 59, 3) := by decide +kernel
theorem dX4_visit_92 : decode cX4_visit 92 = .ok (.iload_n 3, 1) := by decide +kernel
theorem dX4_visit_93 : decode cX4_visit 93 = .ok (.invokestatic 43, 3) := by decide +kernel
theorem dX4_visit_96 : decode cX4_visit 96 = .ok (.aload_n 0, 1) := by decide +kernel
theorem dX4_visit_97 : decode cX4_visit 97 = .ok (.aload_n 1, 1) := by decide +kernel
theorem dX4_visit_98 : decode cX4_visit 98 = .ok (.aload 4, 2) := by decide +kernel
theorem dX4_visit_100 : decode cX4_visit 100 = .ok (.iload 6, 2) := by decide +kernel
theorem dX4_visit_102 : decode cX4_visit 102 = .ok (.invokevirtual 56, 3) := by decide +kernel
theorem dX4_visit_105 : decode cX4_visit 105 = .ok (.iload_n 3, 1) := by decide +kernel
theorem dX4_visit_106 : decode cX4_visit 106 = .ok (.iconst 1, 1) := by decide +kernel
theorem dX4_visit_107 : decode cX4_visit 107 = .ok (.iadd, 1) := by decide +kernel
theorem dX4_visit_108 : decode cX4_visit 108 = .ok (.invokestatic 43, 3) := by decide +kernel
theorem dX4_visit_111 : decode cX4_visit 111 = .ok (.goto 39, 3) := by decide +kernel
theorem dX4_visit_114 : decode cX4_visit 114 = .ok (.aload 4, 2) := by decide +kernel
theorem dX4_visit_116 : decode cX4_visit 116 = .ok (.iload 6, 2) := by decide +kernel
theorem dX4_visit_118 : decode cX4_visit 118 = .ok (.invokevirtual 62, 3) := by decide +kernel
theorem dX4_visit_121 : decode cX4_visit 121 = .ok (.iconst 4, 1) := by decide +kernel
theorem dX4_visit_122 : decode cX4_visit 122 = .ok (.if_icmp .ne 28, 3) := by decide +kernel
theorem dX4_visit_125 : decode cX4_visit 125 = .ok (.aload 4, 2) := by decide +kernel
theorem dX4_visit_127 : decode cX4_visit 127 = .ok (.iload 6, 2) := by decide +kernel
theorem dX4_visit_129 : decode cX4_visit 129 = .ok (.invokevirtual 59, 3) := by decide +kernel
theorem dX4_visit_132 : decode cX4_visit 132 = .ok (.aload_n 0, 1) := by decide +kernel
theorem dX4_visit_133 : decode cX4_visit 133 = .ok (.getfield 19, 3) := by decide +kernel
theorem dX4_visit_136 : decode cX4_visit 136 = .ok (.if_icmp .ne 14, 3) := by decide +kernel
theorem dX4_visit_139 : decode cX4_visit 139 = .ok (.aload_n 0, 1) := by decide +kernel
theorem dX4_visit_140 : decode cX4_visit 140 = .ok (.aload_n 0, 1) := by decide +kernel
theorem dX4_visit_141 : decode cX4_visit 141 = .ok (.aload_n 1, 1) := by decide +kernel
theorem dX4_visit_142 : decode cX4_visit 142 = .ok (.iload_n 2, 1) := by decide +kernel
theorem dX4_visit_143 : decode cX4_visit 143 = .ok (.iload_n 3, 1) := by decide +kernel
theorem dX4_visit_144 : decode cX4_visit 144 = .ok (.invokevirtual 65, 3) := by decide +kernel
theorem dX4_visit_147 : decode cX4_visit 147 = .ok (.invokevirtual 69, 3) := by decide +kernel
theorem dX4_visit_150 : decode cX4_visit 150 = .ok (.return_, 1) := by decide +kernel
theorem wm1031 : (Jvm.Cond.instanceMethod ({ cls := "TelescopeCourt$Terms", name := "callsOf", desc := "(I)I" } : Jvm.MethodName)) ∈ W0 := wm_of 1031 (by decide +kernel) (by decide +kernel)
theorem wm1032 : (Jvm.Cond.selects "TelescopeCourt$Terms" ({ cls := "TelescopeCourt$Terms", name := "callsOf", desc := "(I)I" } : Jvm.MethodName) ({ cls := "TelescopeCourt$Terms", name := "callsOf", desc := "(I)I" } : Jvm.MethodName)) ∈ W0 := wm_of 1032 (by decide +kernel) (by decide +kernel)
theorem wm1033 : (Jvm.Cond.code ({ cls := "TelescopeCourt$Terms", name := "callsOf", desc := "(I)I" } : Jvm.MethodName) prog_11_method_10_code (2 : Nat) (Option.some Jvm.ClassFile.FieldType.int)) ∈ W0 := wm_of 1033 (by decide +kernel) (by decide +kernel)
theorem wm1110 : (Jvm.Cond.methodLink "TelescopeCourt$Graphs" (43 : Nat) ({ cls := "TelescopeCourt$Graphs", name := "visit", desc := "(LTelescopeCourt$Graphs;LTelescopeCourt$Goal;II)V" } : Jvm.MethodName)) ∈ W0 := wm_of 1110 (by decide +kernel) (by decide +kernel)
theorem wm1111 : (Jvm.Cond.static ({ cls := "TelescopeCourt$Graphs", name := "visit", desc := "(LTelescopeCourt$Graphs;LTelescopeCourt$Goal;II)V" } : Jvm.MethodName)) ∈ W0 := wm_of 1111 (by decide +kernel) (by decide +kernel)
theorem wm1112 : (Jvm.Cond.code ({ cls := "TelescopeCourt$Graphs", name := "visit", desc := "(LTelescopeCourt$Graphs;LTelescopeCourt$Goal;II)V" } : Jvm.MethodName) prog_6_method_4_code (8 : Nat) (Option.none : Option Jvm.ClassFile.FieldType)) ∈ W0 := wm_of 1112 (by decide +kernel) (by decide +kernel)
theorem wm1113 : (Jvm.Cond.methodLink "TelescopeCourt$Graphs" (47 : Nat) ({ cls := "TelescopeCourt$Terms", name := "callsOf", desc := "(I)I" } : Jvm.MethodName)) ∈ W0 := wm_of 1113 (by decide +kernel) (by decide +kernel)
theorem wm1121 : (Jvm.Cond.methodLink "TelescopeCourt$Graphs" (65 : Nat) ({ cls := "TelescopeCourt$Graphs", name := "graphOf", desc := "(LTelescopeCourt$Goal;II)I" } : Jvm.MethodName)) ∈ W0 := wm_of 1121 (by decide +kernel) (by decide +kernel)
theorem wm1123 : (Jvm.Cond.instanceMethod ({ cls := "TelescopeCourt$Graphs", name := "graphOf", desc := "(LTelescopeCourt$Goal;II)I" } : Jvm.MethodName)) ∈ W0 := wm_of 1123 (by decide +kernel) (by decide +kernel)
theorem wm1124 : (Jvm.Cond.code ({ cls := "TelescopeCourt$Graphs", name := "graphOf", desc := "(LTelescopeCourt$Goal;II)I" } : Jvm.MethodName) prog_6_method_5_code (8 : Nat) (Option.some Jvm.ClassFile.FieldType.int)) ∈ W0 := wm_of 1124 (by decide +kernel) (by decide +kernel)
theorem ws_p16 : Cond.selects "TelescopeCourt$Graphs" ⟨"TelescopeCourt$Graphs", "graphOf", "(LTelescopeCourt$Goal;II)I"⟩ ⟨"TelescopeCourt$Graphs", "graphOf", "(LTelescopeCourt$Goal;II)I"⟩ ∈ W0 := wms_of 16 (by decide +kernel : lw_privs[16]? = some (⟨"TelescopeCourt$Graphs", "graphOf", "(LTelescopeCourt$Goal;II)I"⟩, 6))
theorem nw904 : (Jvm.Cond.fieldLinkNest "TelescopeCourt$Graphs" (33 : Nat) "TelescopeCourt$Goal" "function" "I" "TelescopeCourt") ∈ NW := nw_of 904 (by decide +kernel) (by decide +kernel)
theorem nw920 : (Jvm.Cond.fieldLinkNest "TelescopeCourt$Graphs" (36 : Nat) "TelescopeCourt$Goal" "state" "C" "TelescopeCourt") ∈ NW := nw_of 920 (by decide +kernel) (by decide +kernel)
theorem nw925 : (Jvm.Cond.fieldLinkNest "TelescopeCourt$Graphs" (40 : Nat) "TelescopeCourt$Goal" "right" "I" "TelescopeCourt") ∈ NW := nw_of 925 (by decide +kernel) (by decide +kernel)
