theorem dX11_universe_0 : decode cX11_universe 0 = .ok (.iload_n 1, 1) := by decide +kernel
theorem dX11_universe_1 : decode cX11_universe 1 = .ok (.ifCond .lt 8, 3) := by decide +kernel
theorem dX11_universe_4 : decode cX11_universe 4 = .ok (.iload_n 1, 1) := by decide +kernel
theorem dX11_universe_5 : decode cX11_universe 5 = .ok (.iconst 3, 1) := by decide +kernel
theorem dX11_universe_6 : decode cX11_universe 6 = .ok (.if_icmp .le 13, 3) := by decide +kernel
theorem dX11_universe_9 : decode cX11_universe 9 = .ok (.new 70, 3) := by decide +kernel
theorem dX11_universe_12 : decode cX11_universe 12 = .ok (.dup, 1) := by decide +kernel
theorem dX11_universe_13 : decode cX11_universe 13 = .ok (.ldc 72, 2) := by decide +kernel
theorem dX11_universe_15 : decode cX11_universe 15 = .ok (.invokespecial 74, 3) := by decide +kernel
theorem dX11_universe_18 : decode cX11_universe 18 = .ok (.athrow, 1) := by decide +kernel
theorem dX11_universe_19 : decode cX11_universe 19 = .ok (.aload_n 0, 1) := by decide +kernel
theorem dX11_universe_20 : decode cX11_universe 20 = .ok (.iconst 0, 1) := by decide +kernel
theorem dX11_universe_21 : decode cX11_universe 21 = .ok (.iload_n 1, 1) := by decide +kernel
theorem dX11_universe_22 : decode cX11_universe 22 = .ok (.invokevirtual 77, 3) := by decide +kernel
theorem dX11_universe_25 : decode cX11_universe 25 = .ok (.ireturn, 1) := by decide +kernel
theorem dX11_variable_0 : decode cX11_variable 0 = .ok (.iload_n 1, 1) := by decide +kernel
theorem dX11_variable_1 : decode cX11_variable 1 = .ok (.ifCond .lt 9, 3) := by decide +kernel
theorem dX11_variable_4 : decode cX11_variable 4 = .ok (.iload_n 1, 1) := by decide +kernel
theorem dX11_variable_5 : decode cX11_variable 5 = .ok (.bipush 15, 2) := by decide +kernel
theorem dX11_variable_7 : decode cX11_variable 7 = .ok (.if_icmp .le 13, 3) := by decide +kernel
theorem dX11_variable_10 : decode cX11_variable 10 = .ok (.new 70, 3) := by decide +kernel
theorem dX11_variable_13 : decode cX11_variable 13 = .ok (.dup, 1) := by decide +kernel
theorem dX11_variable_14 : decode cX11_variable 14 = .ok (.ldc 81, 2) := by decide +kernel
theorem dX11_variable_16 : decode cX11_variable 16 = .ok (.invokespecial 74, 3) := by decide +kernel
theorem dX11_variable_19 : decode cX11_variable 19 = .ok (.athrow, 1) := by decide +kernel
theorem dX11_variable_20 : decode cX11_variable 20 = .ok (.aload_n 0, 1) := by decide +kernel
theorem dX11_variable_21 : decode cX11_variable 21 = .ok (.iconst 1, 1) := by decide +kernel
theorem dX11_variable_22 : decode cX11_variable 22 = .ok (.iload_n 1, 1) := by decide +kernel
theorem dX11_variable_23 : decode cX11_variable 23 = .ok (.invokevirtual 77, 3) := by decide +kernel
theorem dX11_variable_26 : decode cX11_variable 26 = .ok (.ireturn, 1) := by decide +kernel
theorem dX11_functions_0 : decode cX11_functions 0 = .ok (.aload_n 0, 1) := by decide +kernel
theorem dX11_functions_1 : decode cX11_functions 1 = .ok (.iconst 5, 1) := by decide +kernel
theorem dX11_functions_2 : decode cX11_functions 2 = .ok (.iload_n 1, 1) := by decide +kernel
theorem dX11_functions_3 : decode cX11_functions 3 = .ok (.iload_n 2, 1) := by decide +kernel
theorem dX11_functions_4 : decode cX11_functions 4 = .ok (.invokevirtual 83, 3) := by decide +kernel
theorem dX11_functions_7 : decode cX11_functions 7 = .ok (.ireturn, 1) := by decide +kernel
theorem dX11_lambda_0 : decode cX11_lambda 0 = .ok (.aload_n 0, 1) := by decide +kernel
theorem dX11_lambda_1 : decode cX11_lambda 1 = .ok (.bipush 6, 2) := by decide +kernel
theorem dX11_lambda_3 : decode cX11_lambda 3 = .ok (.iload_n 1, 1) := by decide +kernel
theorem dX11_lambda_4 : decode cX11_lambda 4 = .ok (.iload_n 2, 1) := by decide +kernel
theorem dX11_lambda_5 : decode cX11_lambda 5 = .ok (.invokevirtual 83, 3) := by decide +kernel
theorem dX11_lambda_8 : decode cX11_lambda 8 = .ok (.ireturn, 1) := by decide +kernel
theorem dX11_apply_0 : decode cX11_apply 0 = .ok (.aload_n 0, 1) := by decide +kernel
theorem dX11_apply_1 : decode cX11_apply 1 = .ok (.bipush 7, 2) := by decide +kernel
theorem dX11_apply_3 : decode cX11_apply 3 = .ok (.iload_n 1, 1) := by decide +kernel
theorem dX11_apply_4 : decode cX11_apply 4 = .ok (.iload_n 2, 1) := by decide +kernel
theorem dX11_apply_5 : decode cX11_apply 5 = .ok (.invokevirtual 83, 3) := by decide +kernel
theorem dX11_apply_8 : decode cX11_apply 8 = .ok (.ireturn, 1) := by decide +kernel
theorem dX11_dataNode_0 : decode cX11_dataNode 0 = .ok (.aload_n 0, 1) := by decide +kernel
theorem dX11_dataNode_1 : decode cX11_dataNode 1 = .ok (.getfield 28, 3) := by decide +kernel
theorem dX11_dataNode_4 : decode cX11_dataNode 4 = .ok (.iload_n 1, 1) := by decide +kernel
theorem dX11_dataNode_5 : decode cX11_dataNode 5 = .ok (.invokevirtual 87, 3) := by decide +kernel
theorem dX11_dataNode_8 : decode cX11_dataNode 8 = .ok (.ifCond .ne 13, 3) := by decide +kernel
theorem dX11_dataNode_11 : decode cX11_dataNode 11 = .ok (.new 91, 3) := by decide +kernel
theorem dX11_dataNode_14 : decode cX11_dataNode 14 = .ok (.dup, 1) := by decide +kernel
theorem dX11_dataNode_15 : decode cX11_dataNode 15 = .ok (.ldc 93, 2) := by decide +kernel
theorem dX11_dataNode_17 : decode cX11_dataNode 17 = .ok (.invokespecial 95, 3) := by decide +kernel
theorem dX11_dataNode_20 : decode cX11_dataNode 20 = .ok (.athrow, 1) := by decide +kernel
theorem dX11_dataNode_21 : decode cX11_dataNode 21 = .ok (.aload_n 0, 1) := by decide +kernel
theorem dX11_dataNode_22 : decode cX11_dataNode 22 = .ok (.iconst 2, 1) := by decide +kernel
theorem dX11_dataNode_23 : decode cX11_dataNode 23 = .ok (.iload_n 1, 1) := by decide +kernel
theorem dX11_dataNode_24 : decode cX11_dataNode 24 = .ok (.invokevirtual 77, 3) := by decide +kernel
theorem dX11_dataNode_27 : decode cX11_dataNode 27 = .ok (.ireturn, 1) := by decide +kernel
theorem dX11_constructorNode_0 : decode cX11_constructorNode 0 = .ok (.aload_n 0, 1) := by decide +kernel
theorem dX11_constructorNode_1 : decode cX11_constructorNode 1 = .ok (.getfield 28, 3) := by decide +kernel
theorem dX11_constructorNode_4 : decode cX11_constructorNode 4 = .ok (.iload_n 1, 1) := by decide +kernel
theorem dX11_constructorNode_5 : decode cX11_constructorNode 5 = .ok (.invokevirtual 96, 3) := by decide +kernel
theorem dX11_constructorNode_8 : decode cX11_constructorNode 8 = .ok (.ifCond .ne 13, 3) := by decide +kernel
theorem dX11_constructorNode_11 : decode cX11_constructorNode 11 = .ok (.new 91, 3) := by decide +kernel
theorem dX11_constructorNode_14 : decode cX11_constructorNode 14 = .ok (.dup, 1) := by decide +kernel
theorem dX11_constructorNode_15 : decode cX11_constructorNode 15 = .ok (.ldc 99, 2) := by decide +kernel
theorem dX11_constructorNode_17 : decode cX11_constructorNode 17 = .ok (.invokespecial 95, 3) := by decide +kernel
theorem dX11_constructorNode_20 : decode cX11_constructorNode 20 = .ok (.athrow, 1) := by decide +kernel
theorem dX11_constructorNode_21 : decode cX11_constructorNode 21 = .ok (.aload_n 0, 1) := by decide +kernel
theorem dX11_constructorNode_22 : decode cX11_constructorNode 22 = .ok (.iconst 3, 1) := by decide +kernel
theorem dX11_constructorNode_23 : decode cX11_constructorNode 23 = .ok (.iload_n 1, 1) := by decide +kernel
theorem dX11_constructorNode_24 : decode cX11_constructorNode 24 = .ok (.invokevirtual 77, 3) := by decide +kernel
theorem dX11_constructorNode_27 : decode cX11_constructorNode 27 = .ok (.ireturn, 1) := by decide +kernel
theorem dX11_functionNode_0 : decode cX11_functionNode 0 = .ok (.aload_n 0, 1) := by decide +kernel
theorem dX11_functionNode_1 : decode cX11_functionNode 1 = .ok (.iload_n 1, 1) := by decide +kernel
theorem dX11_functionNode_2 : decode cX11_functionNode 2 = .ok (.invokevirtual 101, 3) := by decide +kernel
theorem dX11_functionNode_5 : decode cX11_functionNode 5 = .ok (.pop, 1) := by decide +kernel
theorem dX11_functionNode_6 : decode cX11_functionNode 6 = .ok (.aload_n 0, 1) := by decide +kernel
theorem dX11_functionNode_7 : decode cX11_functionNode 7 = .ok (.iconst 4, 1) := by decide +kernel
theorem dX11_functionNode_8 : decode cX11_functionNode 8 = .ok (.iload_n 1, 1) := by decide +kernel
theorem dX11_functionNode_9 : decode cX11_functionNode 9 = .ok (.invokevirtual 77, 3) := by decide +kernel
theorem dX11_functionNode_12 : decode cX11_functionNode 12 = .ok (.ireturn, 1) := by decide +kernel
theorem dX11_addData_0 : decode cX11_addData 0 = .ok (.aload_n 0, 1) := by decide +kernel
theorem dX11_addData_1 : decode cX11_addData 1 = .ok (.getfield 28, 3) := by decide +kernel
theorem dX11_addData_4 : decode cX11_addData 4 = .ok (.getfield 105, 3) := by decide +kernel
theorem dX11_addData_7 : decode cX11_addData 7 = .ok (.bipush 6, 2) := by decide +kernel
theorem dX11_addData_9 : decode cX11_addData 9 = .ok (.if_icmp .lt 13, 3) := by decide +kernel
theorem dX11_addData_12 : decode cX11_addData 12 = .ok (.new 109, 3) := by decide +kernel
theorem dX11_addData_15 : decode cX11_addData 15 = .ok (.dup, 1) := by decide +kernel
theorem dX11_addData_16 : decode cX11_addData 16 = .ok (.ldc 111, 2) := by decide +kernel
theorem dX11_addData_18 : decode cX11_addData 18 = .ok (.invokespecial 113, 3) := by decide +kernel
theorem dX11_addData_21 : decode cX11_addData 21 = .ok (.athrow, 1) := by decide +kernel
theorem dX11_addData_22 : decode cX11_addData 22 = .ok (.aload_n 0, 1) := by decide +kernel
theorem dX11_addData_23 : decode cX11_addData 23 = .ok (.getfield 28, 3) := by decide +kernel
theorem dX11_addData_26 : decode cX11_addData 26 = .ok (.invokevirtual 114, 3) := by decide +kernel
theorem dX11_addData_29 : decode cX11_addData 29 = .ok (.ireturn, 1) := by decide +kernel
theorem dX11_addConstructor_0 : decode cX11_addConstructor 0 = .ok (.iload_n 2, 1) := by decide +kernel
theorem dX11_addConstructor_1 : decode cX11_addConstructor 1 = .ok (.ifCond .lt 8, 3) := by decide +kernel
theorem dX11_addConstructor_4 : decode cX11_addConstructor 4 = .ok (.iload_n 2, 1) := by decide +kernel
theorem dX11_addConstructor_5 : decode cX11_addConstructor 5 = .ok (.iconst 3, 1) := by decide +kernel
theorem dX11_addConstructor_6 : decode cX11_addConstructor 6 = .ok (.if_icmp .le 13, 3) := by decide +kernel
theorem dX11_addConstructor_9 : decode cX11_addConstructor 9 = .ok (.new 70, 3) := by decide +kernel
theorem dX11_addConstructor_12 : decode cX11_addConstructor 12 = .ok (.dup, 1) := by decide +kernel
theorem dX11_addConstructor_13 : decode cX11_addConstructor 13 = .ok (.ldc 118, 2) := by decide +kernel
theorem dX11_addConstructor_15 : decode cX11_addConstructor 15 = .ok (.invokespecial 74, 3) := by decide +kernel
theorem dX11_addConstructor_18 : decode cX11_addConstructor 18 = .ok (.athrow, 1) := by decide +kernel
theorem dX11_addConstructor_19 : decode cX11_addConstructor 19 = .ok (.aload_n 0, 1) := by decide +kernel
theorem dX11_addConstructor_20 : decode cX11_addConstructor 20 = .ok (.getfield 28, 3) := by decide +kernel
theorem dX11_addConstructor_23 : decode cX11_addConstructor 23 = .ok (.iload_n 1, 1) := by decide +kernel
theorem dX11_addConstructor_24 : decode cX11_addConstructor 24 = .ok (.invokevirtual 87, 3) := by decide +kernel
theorem dX11_addConstructor_27 : decode cX11_addConstructor 27 = .ok (.ifCond .eq 57, 3) := by decide +kernel
theorem dX11_addConstructor_30 : decode cX11_addConstructor 30 = .ok (.iload_n 2, 1) := by decide +kernel
theorem dX11_addConstructor_31 : decode cX11_addConstructor 31 = .ok (.iconst 1, 1) := by decide +kernel
theorem dX11_addConstructor_32 : decode cX11_addConstructor 32 = .ok (.if_icmp .lt 14, 3) := by decide +kernel
theorem dX11_addConstructor_35 : decode cX11_addConstructor 35 = .ok (.aload_n 0, 1) := by decide +kernel
theorem dX11_addConstructor_36 : decode cX11_addConstructor 36 = .ok (.getfield 28, 3) := by decide +kernel
theorem dX11_addConstructor_39 : decode cX11_addConstructor 39 = .ok (.iload_n 3, 1) := by decide +kernel
theorem dX11_addConstructor_40 : decode cX11_addConstructor 40 = .ok (.invokevirtual 87, 3) := by decide +kernel
theorem dX11_addConstructor_43 : decode cX11_addConstructor 43 = .ok (.ifCond .eq 41, 3) := by decide +kernel
theorem dX11_addConstructor_46 : decode cX11_addConstructor 46 = .ok (.iload_n 2, 1) := by decide +kernel
theorem dX11_addConstructor_47 : decode cX11_addConstructor 47 = .ok (.iconst 2, 1) := by decide +kernel
theorem dX11_addConstructor_48 : decode cX11_addConstructor 48 = .ok (.if_icmp .lt 15, 3) := by decide +kernel
theorem dX11_addConstructor_51 : decode cX11_addConstructor 51 = .ok (.aload_n 0, 1) := by decide +kernel
theorem dX11_addConstructor_52 : decode cX11_addConstructor 52 = .ok (.getfield 28, 3) := by decide +kernel
theorem dX11_addConstructor_55 : decode cX11_addConstructor 55 = .ok (.iload 4, 2) := by decide +kernel
theorem dX11_addConstructor_57 : decode cX11_addConstructor 57 = .ok (.invokevirtual 87, 3) := by decide +kernel
theorem dX11_addConstructor_60 : decode cX11_addConstructor 60 = .ok (.ifCond .eq 24, 3) := by decide +kernel
theorem dX11_addConstructor_63 : decode cX11_addConstructor 63 = .ok (.iload_n 2, 1) := by decide +kernel
theorem dX11_addConstructor_64 : decode cX11_addConstructor 64 = .ok (.iconst 3, 1) := by decide +kernel
theorem dX11_addConstructor_65 : decode cX11_addConstructor 65 = .ok (.if_icmp .lt 15, 3) := by decide +kernel
theorem dX11_addConstructor_68 : decode cX11_addConstructor 68 = .ok (.aload_n 0, 1) := by decide +kernel
theorem dX11_addConstructor_69 : decode cX11_addConstructor 69 = .ok (.getfield 28, 3) := by decide +kernel
theorem dX11_addConstructor_72 : decode cX11_addConstructor 72 = .ok (.iload 5, 2) := by decide +kernel
theorem dX11_addConstructor_74 : decode cX11_addConstructor 74 = .ok (.invokevirtual 87, 3) := by decide +kernel
theorem dX11_addConstructor_77 : decode cX11_addConstructor 77 = .ok (.ifCond .eq 7, 3) := by decide +kernel
theorem dX11_addConstructor_80 : decode cX11_addConstructor 80 = .ok (.iconst 1, 1) := by decide +kernel
theorem dX11_addConstructor_81 : decode cX11_addConstructor 81 = .ok (.goto 4, 3) := by decide +kernel
theorem dX11_addConstructor_84 : decode cX11_addConstructor 84 = .ok (.iconst 0, 1) := by decide +kernel
theorem dX11_addConstructor_85 : decode cX11_addConstructor 85 = .ok (.istore 6, 2) := by decide +kernel
theorem dX11_addConstructor_87 : decode cX11_addConstructor 87 = .ok (.iload 6, 2) := by decide +kernel
theorem dX11_addConstructor_89 : decode cX11_addConstructor 89 = .ok (.ifCond .ne 13, 3) := by decide +kernel
theorem dX11_addConstructor_92 : decode cX11_addConstructor 92 = .ok (.new 91, 3) := by decide +kernel
theorem dX11_addConstructor_95 : decode cX11_addConstructor 95 = .ok (.dup, 1) := by decide +kernel
theorem dX11_addConstructor_96 : decode cX11_addConstructor 96 = .ok (.ldc 93, 2) := by decide +kernel
theorem dX11_addConstructor_98 : decode cX11_addConstructor 98 = .ok (.invokespecial 95, 3) := by decide +kernel
theorem dX11_addConstructor_101 : decode cX11_addConstructor 101 = .ok (.athrow, 1) := by decide +kernel
theorem dX11_addConstructor_102 : decode cX11_addConstructor 102 = .ok (.aload_n 0, 1) := by decide +kernel
theorem dX11_addConstructor_103 : decode cX11_addConstructor 103 = .ok (.getfield 28, 3) := by decide +kernel
theorem dX11_addConstructor_106 : decode cX11_addConstructor 106 = .ok (.getfield 120, 3) := by decide +kernel
theorem dX11_addConstructor_109 : decode cX11_addConstructor 109 = .ok (.bipush 16, 2) := by decide +kernel
theorem dX11_addConstructor_111 : decode cX11_addConstructor 111 = .ok (.if_icmp .ge 24, 3) := by decide +kernel
theorem dX11_addConstructor_114 : decode cX11_addConstructor 114 = .ok (.aload_n 0, 1) := by decide +kernel
theorem dX11_addConstructor_115 : decode cX11_addConstructor 115 = .ok (.getfield 28, 3) := by decide +kernel
theorem dX11_addConstructor_118 : decode cX11_addConstructor 118 = .ok (.iload_n 1, 1) := by decide +kernel
theorem dX11_addConstructor_119 : decode cX11_addConstructor 119 = .ok (.invokevirtual 123, 3) := by decide +kernel
theorem dX11_addConstructor_122 : decode cX11_addConstructor 122 = .ok (.ifCond .ne 13, 3) := by decide +kernel
theorem dX11_addConstructor_125 : decode cX11_addConstructor 125 = .ok (.aload_n 0, 1) := by decide +kernel
theorem dX11_addConstructor_126 : decode cX11_addConstructor 126 = .ok (.getfield 37, 3) := by decide +kernel
theorem dX11_addConstructor_129 : decode cX11_addConstructor 129 = .ok (.getfield 126, 3) := by decide +kernel
theorem dX11_addConstructor_132 : decode cX11_addConstructor 132 = .ok (.ifCond .eq 13, 3) := by decide +kernel
theorem dX11_addConstructor_135 : decode cX11_addConstructor 135 = .ok (.new 109, 3) := by decide +kernel
theorem dX11_addConstructor_138 : decode cX11_addConstructor 138 = .ok (.dup, 1) := by decide +kernel
theorem dX11_addConstructor_139 : decode cX11_addConstructor 139 = .ok (.ldc 129, 2) := by decide +kernel
theorem dX11_addConstructor_141 : decode cX11_addConstructor 141 = .ok (.invokespecial 113, 3) := by decide +kernel
theorem dX11_addConstructor_144 : decode cX11_addConstructor 144 = .ok (.athrow, 1) := by decide +kernel
theorem dX11_addConstructor_145 : decode cX11_addConstructor 145 = .ok (.aload_n 0, 1) := by decide +kernel
theorem dX11_addConstructor_146 : decode cX11_addConstructor 146 = .ok (.getfield 28, 3) := by decide +kernel
theorem dX11_addConstructor_149 : decode cX11_addConstructor 149 = .ok (.iload_n 1, 1) := by decide +kernel
theorem dX11_addConstructor_150 : decode cX11_addConstructor 150 = .ok (.iload_n 2, 1) := by decide +kernel
theorem dX11_addConstructor_151 : decode cX11_addConstructor 151 = .ok (.iload_n 3, 1) := by decide +kernel
theorem dX11_addConstructor_152 : decode cX11_addConstructor 152 = .ok (.iload 4, 2) := by decide +kernel
theorem dX11_addConstructor_154 : decode cX11_addConstructor 154 = .ok (.iload 5, 2) := by decide +kernel
theorem dX11_addConstructor_156 : decode cX11_addConstructor 156 = .ok (.invokevirtual 131, 3) := by decide +kernel
theorem dX11_addConstructor_159 : decode cX11_addConstructor 159 = .ok (.ireturn, 1) := by decide +kernel
theorem dX11_size_0 : decode cX11_size 0 = .ok (.aload_n 0, 1) := by decide +kernel
theorem dX11_size_1 : decode cX11_size 1 = .ok (.getfield 10, 3) := by decide +kernel
theorem dX11_size_4 : decode cX11_size 4 = .ok (.aload_n 0, 1) := by decide +kernel
theorem dX11_size_5 : decode cX11_size 5 = .ok (.iload_n 1, 1) := by decide +kernel
theorem dX11_size_6 : decode cX11_size 6 = .ok (.invokevirtual 135, 3) := by decide +kernel
theorem dX11_size_9 : decode cX11_size 9 = .ok (.invokevirtual 139, 3) := by decide +kernel
theorem dX11_size_12 : decode cX11_size 12 = .ok (.ireturn, 1) := by decide +kernel
theorem dX11_number_0 : decode cX11_number 0 = .ok (.aload_n 0, 1) := by decide +kernel
theorem dX11_number_1 : decode cX11_number 1 = .ok (.getfield 10, 3) := by decide +kernel
theorem dX11_number_4 : decode cX11_number 4 = .ok (.aload_n 0, 1) := by decide +kernel
theorem dX11_number_5 : decode cX11_number 5 = .ok (.iload_n 1, 1) := by decide +kernel
theorem dX11_number_6 : decode cX11_number 6 = .ok (.invokevirtual 135, 3) := by decide +kernel
theorem dX11_number_9 : decode cX11_number 9 = .ok (.invokevirtual 142, 3) := by decide +kernel
theorem dX11_number_12 : decode cX11_number 12 = .ok (.ireturn, 1) := by decide +kernel
theorem dX11_normal_0 : decode cX11_normal 0 = .ok (.aload_n 0, 1) := by decide +kernel
theorem dX11_normal_1 : decode cX11_normal 1 = .ok (.iload_n 1, 1) := by decide +kernel
theorem dX11_normal_2 : decode cX11_normal 2 = .ok (.invokevirtual 135, 3) := by decide +kernel
theorem dX11_normal_5 : decode cX11_normal 5 = .ok (.istore_n 2, 1) := by decide +kernel
theorem dX11_normal_6 : decode cX11_normal 6 = .ok (.aload_n 0, 1) := by decide +kernel
theorem dX11_normal_7 : decode cX11_normal 7 = .ok (.getfield 10, 3) := by decide +kernel
theorem dX11_normal_10 : decode cX11_normal 10 = .ok (.invokevirtual 145, 3) := by decide +kernel
theorem dX11_normal_13 : decode cX11_normal 13 = .ok (.istore_n 3, 1) := by decide +kernel
theorem dX11_normal_14 : decode cX11_normal 14 = .ok (.aload_n 0, 1) := by decide +kernel
theorem dX11_normal_15 : decode cX11_normal 15 = .ok (.iload_n 3, 1) := by decide +kernel
theorem dX11_normal_16 : decode cX11_normal 16 = .ok (.aload_n 0, 1) := by decide +kernel
theorem dX11_normal_17 : decode cX11_normal 17 = .ok (.getfield 21, 3) := by decide +kernel
theorem dX11_normal_20 : decode cX11_normal 20 = .ok (.iload_n 2, 1) := by decide +kernel
theorem dX11_normal_21 : decode cX11_normal 21 = .ok (.invokevirtual 148, 3) := by decide +kernel
theorem dX11_normal_24 : decode cX11_normal 24 = .ok (.invokevirtual 151, 3) := by decide +kernel
theorem dX11_normal_27 : decode cX11_normal 27 = .ok (.ireturn, 1) := by decide +kernel
theorem dX11_typeOf_0 : decode cX11_typeOf 0 = .ok (.aload_n 0, 1) := by decide +kernel
theorem dX11_typeOf_1 : decode cX11_typeOf 1 = .ok (.iload_n 1, 1) := by decide +kernel
theorem dX11_typeOf_2 : decode cX11_typeOf 2 = .ok (.invokevirtual 135, 3) := by decide +kernel
theorem dX11_typeOf_5 : decode cX11_typeOf 5 = .ok (.istore_n 2, 1) := by decide +kernel
theorem dX11_typeOf_6 : decode cX11_typeOf 6 = .ok (.aload_n 0, 1) := by decide +kernel
theorem dX11_typeOf_7 : decode cX11_typeOf 7 = .ok (.getfield 10, 3) := by decide +kernel
theorem dX11_typeOf_10 : decode cX11_typeOf 10 = .ok (.invokevirtual 145, 3) := by decide +kernel
theorem dX11_typeOf_13 : decode cX11_typeOf 13 = .ok (.istore_n 3, 1) := by decide +kernel
theorem dX11_typeOf_14 : decode cX11_typeOf 14 = .ok (.aload_n 0, 1) := by decide +kernel
theorem dX11_typeOf_15 : decode cX11_typeOf 15 = .ok (.iload_n 3, 1) := by decide +kernel
theorem dX11_typeOf_16 : decode cX11_typeOf 16 = .ok (.aload_n 0, 1) := by decide +kernel
theorem dX11_typeOf_17 : decode cX11_typeOf 17 = .ok (.getfield 46, 3) := by decide +kernel
theorem dX11_typeOf_20 : decode cX11_typeOf 20 = .ok (.iload_n 2, 1) := by decide +kernel
theorem dX11_typeOf_21 : decode cX11_typeOf 21 = .ok (.invokevirtual 154, 3) := by decide +kernel
theorem dX11_typeOf_24 : decode cX11_typeOf 24 = .ok (.invokevirtual 151, 3) := by decide +kernel
theorem dX11_typeOf_27 : decode cX11_typeOf 27 = .ok (.ireturn, 1) := by decide +kernel
theorem dX11_level_0 : decode cX11_level 0 = .ok (.aload_n 0, 1) := by decide +kernel
theorem dX11_level_1 : decode cX11_level 1 = .ok (.getfield 46, 3) := by decide +kernel
theorem dX11_level_4 : decode cX11_level 4 = .ok (.aload_n 0, 1) := by decide +kernel
theorem dX11_level_5 : decode cX11_level 5 = .ok (.iload_n 1, 1) := by decide +kernel
theorem dX11_level_6 : decode cX11_level 6 = .ok (.invokevirtual 135, 3) := by decide +kernel
theorem dX11_level_9 : decode cX11_level 9 = .ok (.invokevirtual 155, 3) := by decide +kernel
theorem dX11_level_12 : decode cX11_level 12 = .ok (.istore_n 2, 1) := by decide +kernel
theorem dX11_level_13 : decode cX11_level 13 = .ok (.iload_n 2, 1) := by decide +kernel
theorem dX11_level_14 : decode cX11_level 14 = .ok (.iconst (-1), 1) := by decide +kernel
theorem dX11_level_15 : decode cX11_level 15 = .ok (.if_icmp .ne 13, 3) := by decide +kernel
theorem dX11_level_18 : decode cX11_level 18 = .ok (.new 158, 3) := by decide +kernel
theorem dX11_level_21 : decode cX11_level 21 = .ok (.dup, 1) := by decide +kernel
theorem dX11_level_22 : decode cX11_level 22 = .ok (.ldc 160, 2) := by decide +kernel
theorem dX11_level_24 : decode cX11_level 24 = .ok (.invokespecial 162, 3) := by decide +kernel
theorem dX11_level_27 : decode cX11_level 27 = .ok (.athrow, 1) := by decide +kernel
theorem dX11_level_28 : decode cX11_level 28 = .ok (.iload_n 2, 1) := by decide +kernel
theorem dX11_level_29 : decode cX11_level 29 = .ok (.ireturn, 1) := by decide +kernel
theorem dX11_isOf_0 : decode cX11_isOf 0 = .ok (.aload_n 0, 1) := by decide +kernel
theorem dX11_isOf_1 : decode cX11_isOf 1 = .ok (.iload_n 1, 1) := by decide +kernel
theorem dX11_isOf_2 : decode cX11_isOf 2 = .ok (.invokevirtual 135, 3) := by decide +kernel
theorem dX11_isOf_5 : decode cX11_isOf 5 = .ok (.istore_n 3, 1) := by decide +kernel
theorem dX11_isOf_6 : decode cX11_isOf 6 = .ok (.aload_n 0, 1) := by decide +kernel
theorem dX11_isOf_7 : decode cX11_isOf 7 = .ok (.iload_n 2, 1) := by decide +kernel
theorem dX11_isOf_8 : decode cX11_isOf 8 = .ok (.invokevirtual 135, 3) := by decide +kernel
theorem dX11_isOf_11 : decode cX11_isOf 11 = .ok (.istore 4, 2) := by decide +kernel
theorem dX11_isOf_13 : decode cX11_isOf 13 = .ok (.aload_n 0, 1) := by decide +kernel
theorem dX11_isOf_14 : decode cX11_isOf 14 = .ok (.getfield 10, 3) := by decide +kernel
theorem dX11_isOf_17 : decode cX11_isOf 17 = .ok (.invokevirtual 145, 3) := by decide +kernel
theorem dX11_isOf_20 : decode cX11_isOf 20 = .ok (.istore 5, 2) := by decide +kernel
theorem dX11_isOf_22 : decode cX11_isOf 22 = .ok (.aload_n 0, 1) := by decide +kernel
theorem dX11_isOf_23 : decode cX11_isOf 23 = .ok (.getfield 46, 3) := by decide +kernel
theorem dX11_isOf_26 : decode cX11_isOf 26 = .ok (.iload_n 3, 1) := by decide +kernel
theorem dX11_isOf_27 : decode cX11_isOf 27 = .ok (.invokevirtual 154, 3) := by decide +kernel
theorem dX11_isOf_30 : decode cX11_isOf 30 = .ok (.istore 6, 2) := by decide +kernel
theorem dX11_isOf_32 : decode cX11_isOf 32 = .ok (.aload_n 0, 1) := by decide +kernel
theorem dX11_isOf_33 : decode cX11_isOf 33 = .ok (.getfield 21, 3) := by decide +kernel
theorem dX11_isOf_36 : decode cX11_isOf 36 = .ok (.iload 4, 2) := by decide +kernel
theorem dX11_isOf_38 : decode cX11_isOf 38 = .ok (.invokevirtual 148, 3) := by decide +kernel
theorem dX11_isOf_41 : decode cX11_isOf 41 = .ok (.istore 7, 2) := by decide +kernel
theorem dX11_isOf_43 : decode cX11_isOf 43 = .ok (.aload_n 0, 1) := by decide +kernel
theorem dX11_isOf_44 : decode cX11_isOf 44 = .ok (.getfield 10, 3) := by decide +kernel
theorem dX11_isOf_47 : decode cX11_isOf 47 = .ok (.iload 6, 2) := by decide +kernel
theorem dX11_isOf_49 : decode cX11_isOf 49 = .ok (.iload 7, 2) := by decide +kernel
theorem dX11_isOf_51 : decode cX11_isOf 51 = .ok (.invokestatic 163, 3) := by decide +kernel
theorem dX11_isOf_54 : decode cX11_isOf 54 = .ok (.istore 8, 2) := by decide +kernel
theorem dX11_isOf_56 : decode cX11_isOf 56 = .ok (.aload_n 0, 1) := by decide +kernel
theorem dX11_isOf_57 : decode cX11_isOf 57 = .ok (.getfield 10, 3) := by decide +kernel
theorem dX11_isOf_60 : decode cX11_isOf 60 = .ok (.iload 5, 2) := by decide +kernel
theorem dX11_isOf_62 : decode cX11_isOf 62 = .ok (.invokevirtual 169, 3) := by decide +kernel
theorem dX11_isOf_65 : decode cX11_isOf 65 = .ok (.iload 8, 2) := by decide +kernel
theorem dX11_isOf_67 : decode cX11_isOf 67 = .ok (.ireturn, 1) := by decide +kernel
theorem dX11_declare_0 : decode cX11_declare 0 = .ok (.aload_n 0, 1) := by decide +kernel
theorem dX11_declare_1 : decode cX11_declare 1 = .ok (.iload_n 1, 1) := by decide +kernel
theorem dX11_declare_2 : decode cX11_declare 2 = .ok (.invokevirtual 135, 3) := by decide +kernel
theorem dX11_declare_5 : decode cX11_declare 5 = .ok (.istore_n 2, 1) := by decide +kernel
theorem dX11_declare_6 : decode cX11_declare 6 = .ok (.aload_n 0, 1) := by decide +kernel
theorem dX11_declare_7 : decode cX11_declare 7 = .ok (.getfield 10, 3) := by decide +kernel
theorem dX11_declare_10 : decode cX11_declare 10 = .ok (.invokevirtual 145, 3) := by decide +kernel
theorem dX11_declare_13 : decode cX11_declare 13 = .ok (.istore_n 3, 1) := by decide +kernel
theorem dX11_declare_14 : decode cX11_declare 14 = .ok (.aload_n 0, 1) := by decide +kernel
theorem dX11_declare_15 : decode cX11_declare 15 = .ok (.getfield 46, 3) := by decide +kernel
theorem dX11_declare_18 : decode cX11_declare 18 = .ok (.iload_n 2, 1) := by decide +kernel
theorem dX11_declare_19 : decode cX11_declare 19 = .ok (.invokevirtual 155, 3) := by decide +kernel
theorem dX11_declare_22 : decode cX11_declare 22 = .ok (.iconst (-1), 1) := by decide +kernel
theorem dX11_declare_23 : decode cX11_declare 23 = .ok (.if_icmp .ne 7, 3) := by decide +kernel
theorem dX11_declare_26 : decode cX11_declare 26 = .ok (.iconst (-1), 1) := by decide +kernel
theorem dX11_declare_27 : decode cX11_declare 27 = .ok (.goto 11, 3) := by decide +kernel
theorem dX11_declare_30 : decode cX11_declare 30 = .ok (.aload_n 0, 1) := by decide +kernel
theorem dX11_declare_31 : decode cX11_declare 31 = .ok (.getfield 21, 3) := by decide +kernel
theorem dX11_declare_34 : decode cX11_declare 34 = .ok (.iload_n 2, 1) := by decide +kernel
theorem dX11_declare_35 : decode cX11_declare 35 = .ok (.invokevirtual 148, 3) := by decide +kernel
theorem dX11_declare_38 : decode cX11_declare 38 = .ok (.istore 4, 2) := by decide +kernel
theorem dX11_declare_40 : decode cX11_declare 40 = .ok (.aload_n 0, 1) := by decide +kernel
theorem dX11_declare_41 : decode cX11_declare 41 = .ok (.getfield 37, 3) := by decide +kernel
theorem dX11_declare_44 : decode cX11_declare 44 = .ok (.iload 4, 2) := by decide +kernel
theorem dX11_declare_46 : decode cX11_declare 46 = .ok (.invokevirtual 173, 3) := by decide +kernel
theorem dX11_declare_49 : decode cX11_declare 49 = .ok (.istore 5, 2) := by decide +kernel
theorem dX11_declare_51 : decode cX11_declare 51 = .ok (.iload 5, 2) := by decide +kernel
theorem dX11_declare_53 : decode cX11_declare 53 = .ok (.iconst 1, 1) := by decide +kernel
theorem dX11_declare_54 : decode cX11_declare 54 = .ok (.if_icmp .lt 9, 3) := by decide +kernel
theorem dX11_declare_57 : decode cX11_declare 57 = .ok (.iload 5, 2) := by decide +kernel
theorem dX11_declare_59 : decode cX11_declare 59 = .ok (.iconst 4, 1) := by decide +kernel
theorem dX11_declare_60 : decode cX11_declare 60 = .ok (.if_icmp .le 21, 3) := by decide +kernel
theorem dX11_declare_63 : decode cX11_declare 63 = .ok (.aload_n 0, 1) := by decide +kernel
theorem dX11_declare_64 : decode cX11_declare 64 = .ok (.getfield 10, 3) := by decide +kernel
theorem dX11_declare_67 : decode cX11_declare 67 = .ok (.iload_n 3, 1) := by decide +kernel
theorem dX11_declare_68 : decode cX11_declare 68 = .ok (.invokevirtual 169, 3) := by decide +kernel
theorem dX11_declare_71 : decode cX11_declare 71 = .ok (.new 158, 3) := by decide +kernel
theorem dX11_declare_74 : decode cX11_declare 74 = .ok (.dup, 1) := by decide +kernel
theorem dX11_declare_75 : decode cX11_declare 75 = .ok (.ldc 176, 2) := by decide +kernel
theorem dX11_declare_77 : decode cX11_declare 77 = .ok (.invokespecial 162, 3) := by decide +kernel
theorem dX11_declare_80 : decode cX11_declare 80 = .ok (.athrow, 1) := by decide +kernel
theorem dX11_declare_81 : decode cX11_declare 81 = .ok (.aload_n 0, 1) := by decide +kernel
theorem dX11_declare_82 : decode cX11_declare 82 = .ok (.getfield 37, 3) := by decide +kernel
theorem dX11_declare_85 : decode cX11_declare 85 = .ok (.getfield 178, 3) := by decide +kernel
theorem dX11_declare_88 : decode cX11_declare 88 = .ok (.bipush 8, 2) := by decide +kernel
theorem dX11_declare_90 : decode cX11_declare 90 = .ok (.if_icmp .ge 15, 3) := by decide +kernel
theorem dX11_declare_93 : decode cX11_declare 93 = .ok (.aload_n 0, 1) := by decide +kernel
theorem dX11_declare_94 : decode cX11_declare 94 = .ok (.getfield 37, 3) := by decide +kernel
theorem dX11_declare_97 : decode cX11_declare 97 = .ok (.getfield 181, 3) := by decide +kernel
theorem dX11_declare_100 : decode cX11_declare 100 = .ok (.bipush 40, 2) := by decide +kernel
theorem dX11_declare_102 : decode cX11_declare 102 = .ok (.if_icmp .lt 21, 3) := by decide +kernel
theorem dX11_declare_105 : decode cX11_declare 105 = .ok (.aload_n 0, 1) := by decide +kernel
theorem dX11_declare_106 : decode cX11_declare 106 = .ok (.getfield 10, 3) := by decide +kernel
theorem dX11_declare_109 : decode cX11_declare 109 = .ok (.iload_n 3, 1) := by decide +kernel
theorem dX11_declare_110 : decode cX11_declare 110 = .ok (.invokevirtual 169, 3) := by decide +kernel
theorem dX11_declare_113 : decode cX11_declare 113 = .ok (.new 109, 3) := by decide +kernel
theorem dX11_declare_116 : decode cX11_declare 116 = .ok (.dup, 1) := by decide +kernel
theorem dX11_declare_117 : decode cX11_declare 117 = .ok (.ldc 184, 2) := by decide +kernel
theorem dX11_declare_119 : decode cX11_declare 119 = .ok (.invokespecial 113, 3) := by decide +kernel
theorem dX11_declare_122 : decode cX11_declare 122 = .ok (.athrow, 1) := by decide +kernel
theorem dX11_declare_123 : decode cX11_declare 123 = .ok (.aload_n 0, 1) := by decide +kernel
theorem dX11_declare_124 : decode cX11_declare 124 = .ok (.getfield 37, 3) := by decide +kernel
theorem dX11_declare_127 : decode cX11_declare 127 = .ok (.iload 4, 2) := by decide +kernel
theorem dX11_declare_129 : decode cX11_declare 129 = .ok (.iload 5, 2) := by decide +kernel
theorem dX11_declare_131 : decode cX11_declare 131 = .ok (.invokevirtual 186, 3) := by decide +kernel
theorem dX11_declare_134 : decode cX11_declare 134 = .ok (.ireturn, 1) := by decide +kernel
theorem dX11_split_0 : decode cX11_split 0 = .ok (.aload_n 0, 1) := by decide +kernel
theorem dX11_split_1 : decode cX11_split 1 = .ok (.iload_n 1, 1) := by decide +kernel
theorem dX11_split_2 : decode cX11_split 2 = .ok (.invokevirtual 189, 3) := by decide +kernel
theorem dX11_split_5 : decode cX11_split 5 = .ok (.astore_n 3, 1) := by decide +kernel
theorem dX11_split_6 : decode cX11_split 6 = .ok (.aload_n 3, 1) := by decide +kernel
theorem dX11_split_7 : decode cX11_split 7 = .ok (.iload_n 2, 1) := by decide +kernel
theorem dX11_split_8 : decode cX11_split 8 = .ok (.invokestatic 193, 3) := by decide +kernel
theorem dX11_split_11 : decode cX11_split 11 = .ok (.aload_n 3, 1) := by decide +kernel
theorem dX11_split_12 : decode cX11_split 12 = .ok (.getfield 197, 3) := by decide +kernel
theorem dX11_split_15 : decode cX11_split 15 = .ok (.bipush 111, 2) := by decide +kernel
theorem dX11_split_17 : decode cX11_split 17 = .ok (.if_icmp .ne 15, 3) := by decide +kernel
theorem dX11_split_20 : decode cX11_split 20 = .ok (.aload_n 0, 1) := by decide +kernel
theorem dX11_split_21 : decode cX11_split 21 = .ok (.getfield 37, 3) := by decide +kernel
theorem dX11_split_24 : decode cX11_split 24 = .ok (.aload_n 3, 1) := by decide +kernel
theorem dX11_split_25 : decode cX11_split 25 = .ok (.iload_n 2, 1) := by decide +kernel
theorem dX11_split_26 : decode cX11_split 26 = .ok (.invokevirtual 203, 3) := by decide +kernel
theorem dX11_split_29 : decode cX11_split 29 = .ok (.ifCond .eq 13, 3) := by decide +kernel
theorem dX11_split_32 : decode cX11_split 32 = .ok (.new 109, 3) := by decide +kernel
theorem dX11_split_35 : decode cX11_split 35 = .ok (.dup, 1) := by decide +kernel
theorem dX11_split_36 : decode cX11_split 36 = .ok (.ldc 207, 2) := by decide +kernel
theorem dX11_split_38 : decode cX11_split 38 = .ok (.invokespecial 113, 3) := by decide +kernel
theorem dX11_split_41 : decode cX11_split 41 = .ok (.athrow, 1) := by decide +kernel
theorem dX11_split_42 : decode cX11_split 42 = .ok (.aload_n 0, 1) := by decide +kernel
theorem dX11_split_43 : decode cX11_split 43 = .ok (.getfield 37, 3) := by decide +kernel
theorem dX11_split_46 : decode cX11_split 46 = .ok (.aload_n 3, 1) := by decide +kernel
theorem dX11_split_47 : decode cX11_split 47 = .ok (.iload_n 2, 1) := by decide +kernel
theorem dX11_split_48 : decode cX11_split 48 = .ok (.invokevirtual 209, 3) := by decide +kernel
theorem dX11_split_51 : decode cX11_split 51 = .ok (.istore 4, 2) := by decide +kernel
theorem dX11_split_53 : decode cX11_split 53 = .ok (.iload 4, 2) := by decide +kernel
theorem dX11_split_55 : decode cX11_split 55 = .ok (.iconst (-1), 1) := by decide +kernel
theorem dX11_split_56 : decode cX11_split 56 = .ok (.if_icmp .ne 13, 3) := by decide +kernel
theorem dX11_split_59 : decode cX11_split 59 = .ok (.new 158, 3) := by decide +kernel
theorem dX11_split_62 : decode cX11_split 62 = .ok (.dup, 1) := by decide +kernel
theorem dX11_split_63 : decode cX11_split 63 = .ok (.ldc 213, 2) := by decide +kernel
theorem dX11_split_65 : decode cX11_split 65 = .ok (.invokespecial 162, 3) := by decide +kernel
theorem dX11_split_68 : decode cX11_split 68 = .ok (.athrow, 1) := by decide +kernel
theorem dX11_split_69 : decode cX11_split 69 = .ok (.iload 4, 2) := by decide +kernel
theorem dX11_split_71 : decode cX11_split 71 = .ok (.ireturn, 1) := by decide +kernel
theorem dX11_fill_0 : decode cX11_fill 0 = .ok (.aload_n 0, 1) := by decide +kernel
theorem dX11_fill_1 : decode cX11_fill 1 = .ok (.iload_n 1, 1) := by decide +kernel
theorem dX11_fill_2 : decode cX11_fill 2 = .ok (.invokevirtual 189, 3) := by decide +kernel
theorem dX11_fill_5 : decode cX11_fill 5 = .ok (.astore_n 3, 1) := by decide +kernel
theorem dX11_fill_6 : decode cX11_fill 6 = .ok (.aload_n 0, 1) := by decide +kernel
theorem dX11_fill_7 : decode cX11_fill 7 = .ok (.iload_n 2, 1) := by decide +kernel
theorem dX11_fill_8 : decode cX11_fill 8 = .ok (.invokevirtual 135, 3) := by decide +kernel
theorem dX11_fill_11 : decode cX11_fill 11 = .ok (.istore 4, 2) := by decide +kernel
theorem dX11_fill_13 : decode cX11_fill 13 = .ok (.aload_n 3, 1) := by decide +kernel
theorem dX11_fill_14 : decode cX11_fill 14 = .ok (.invokestatic 215, 3) := by decide +kernel
theorem dX11_fill_17 : decode cX11_fill 17 = .ok (.aload_n 0, 1) := by decide +kernel
theorem dX11_fill_18 : decode cX11_fill 18 = .ok (.getfield 37, 3) := by decide +kernel
theorem dX11_fill_21 : decode cX11_fill 21 = .ok (.getfield 126, 3) := by decide +kernel
theorem dX11_fill_24 : decode cX11_fill 24 = .ok (.iconst 1, 1) := by decide +kernel
theorem dX11_fill_25 : decode cX11_fill 25 = .ok (.aload_n 3, 1) := by decide +kernel
theorem dX11_fill_26 : decode cX11_fill 26 = .ok (.getfield 219, 3) := by decide +kernel
theorem dX11_fill_29 : decode cX11_fill 29 = .ok (.ishl, 1) := by decide +kernel
theorem dX11_fill_30 : decode cX11_fill 30 = .ok (.ior, 1) := by decide +kernel
theorem dX11_fill_31 : decode cX11_fill 31 = .ok (.istore 5, 2) := by decide +kernel
theorem dX11_fill_33 : decode cX11_fill 33 = .ok (.aload_n 0, 1) := by decide +kernel
theorem dX11_fill_34 : decode cX11_fill 34 = .ok (.getfield 10, 3) := by decide +kernel
theorem dX11_fill_37 : decode cX11_fill 37 = .ok (.iload 4, 2) := by decide +kernel
theorem dX11_fill_39 : decode cX11_fill 39 = .ok (.invokevirtual 222, 3) := by decide +kernel
theorem dX11_fill_42 : decode cX11_fill 42 = .ok (.iload 5, 2) := by decide +kernel
theorem dX11_fill_44 : decode cX11_fill 44 = .ok (.iconst (-1), 1) := by decide +kernel
theorem dX11_fill_45 : decode cX11_fill 45 = .ok (.ixor, 1) := by decide +kernel
theorem dX11_fill_46 : decode cX11_fill 46 = .ok (.iand, 1) := by decide +kernel
theorem dX11_fill_47 : decode cX11_fill 47 = .ok (.ifCond .ne 23, 3) := by decide +kernel
theorem dX11_fill_50 : decode cX11_fill 50 = .ok (.aload_n 0, 1) := by decide +kernel
theorem dX11_fill_51 : decode cX11_fill 51 = .ok (.getfield 46, 3) := by decide +kernel
theorem dX11_fill_54 : decode cX11_fill 54 = .ok (.aload_n 3, 1) := by decide +kernel
theorem dX11_fill_55 : decode cX11_fill 55 = .ok (.getfield 225, 3) := by decide +kernel
theorem dX11_fill_58 : decode cX11_fill 58 = .ok (.iload 4, 2) := by decide +kernel
theorem dX11_fill_60 : decode cX11_fill 60 = .ok (.aload_n 3, 1) := by decide +kernel
theorem dX11_fill_61 : decode cX11_fill 61 = .ok (.getfield 229, 3) := by decide +kernel
theorem dX11_fill_64 : decode cX11_fill 64 = .ok (.invokevirtual 232, 3) := by decide +kernel
theorem dX11_fill_67 : decode cX11_fill 67 = .ok (.ifCond .ne 13, 3) := by decide +kernel
theorem dX11_fill_70 : decode cX11_fill 70 = .ok (.new 158, 3) := by decide +kernel
theorem dX11_fill_73 : decode cX11_fill 73 = .ok (.dup, 1) := by decide +kernel
theorem dX11_fill_74 : decode cX11_fill 74 = .ok (.ldc 236, 2) := by decide +kernel
theorem dX11_fill_76 : decode cX11_fill 76 = .ok (.invokespecial 162, 3) := by decide +kernel
theorem dX11_fill_79 : decode cX11_fill 79 = .ok (.athrow, 1) := by decide +kernel
theorem dX11_fill_80 : decode cX11_fill 80 = .ok (.aload_n 3, 1) := by decide +kernel
theorem dX11_fill_81 : decode cX11_fill 81 = .ok (.iload 4, 2) := by decide +kernel
theorem dX11_fill_83 : decode cX11_fill 83 = .ok (.invokevirtual 238, 3) := by decide +kernel
theorem dX11_fill_86 : decode cX11_fill 86 = .ok (.aload_n 0, 1) := by decide +kernel
theorem dX11_fill_87 : decode cX11_fill 87 = .ok (.getfield 37, 3) := by decide +kernel
theorem dX11_fill_90 : decode cX11_fill 90 = .ok (.aload_n 3, 1) := by decide +kernel
theorem dX11_fill_91 : decode cX11_fill 91 = .ok (.getfield 219, 3) := by decide +kernel
theorem dX11_fill_94 : decode cX11_fill 94 = .ok (.invokevirtual 241, 3) := by decide +kernel
theorem dX11_fill_97 : decode cX11_fill 97 = .ok (.ireturn, 1) := by decide +kernel
theorem dX11_auto_0 : decode cX11_auto 0 = .ok (.aload_n 0, 1) := by decide +kernel
theorem dX11_auto_1 : decode cX11_auto 1 = .ok (.iload_n 1, 1) := by decide +kernel
theorem dX11_auto_2 : decode cX11_auto 2 = .ok (.invokevirtual 189, 3) := by decide +kernel
theorem dX11_auto_5 : decode cX11_auto 5 = .ok (.astore_n 2, 1) := by decide +kernel
theorem dX11_auto_6 : decode cX11_auto 6 = .ok (.aload_n 2, 1) := by decide +kernel
theorem dX11_auto_7 : decode cX11_auto 7 = .ok (.invokestatic 215, 3) := by decide +kernel
theorem dX11_auto_10 : decode cX11_auto 10 = .ok (.aload_n 0, 1) := by decide +kernel
theorem dX11_auto_11 : decode cX11_auto 11 = .ok (.getfield 37, 3) := by decide +kernel
theorem dX11_auto_14 : decode cX11_auto 14 = .ok (.aload_n 2, 1) := by decide +kernel
theorem dX11_auto_15 : decode cX11_auto 15 = .ok (.invokevirtual 244, 3) := by decide +kernel
theorem dX11_auto_18 : decode cX11_auto 18 = .ok (.istore_n 3, 1) := by decide +kernel
theorem dX11_auto_19 : decode cX11_auto 19 = .ok (.iload_n 3, 1) := by decide +kernel
theorem dX11_auto_20 : decode cX11_auto 20 = .ok (.iconst (-1), 1) := by decide +kernel
theorem dX11_auto_21 : decode cX11_auto 21 = .ok (.if_icmp .ne 13, 3) := by decide +kernel
theorem dX11_auto_24 : decode cX11_auto 24 = .ok (.new 158, 3) := by decide +kernel
theorem dX11_auto_27 : decode cX11_auto 27 = .ok (.dup, 1) := by decide +kernel
theorem dX11_auto_28 : decode cX11_auto 28 = .ok (.ldc 248, 2) := by decide +kernel
theorem dX11_auto_30 : decode cX11_auto 30 = .ok (.invokespecial 162, 3) := by decide +kernel
theorem dX11_auto_33 : decode cX11_auto 33 = .ok (.athrow, 1) := by decide +kernel
theorem dX11_auto_34 : decode cX11_auto 34 = .ok (.aload_n 2, 1) := by decide +kernel
theorem dX11_auto_35 : decode cX11_auto 35 = .ok (.aload_n 0, 1) := by decide +kernel
theorem dX11_auto_36 : decode cX11_auto 36 = .ok (.getfield 10, 3) := by decide +kernel
theorem dX11_auto_39 : decode cX11_auto 39 = .ok (.iconst 1, 1) := by decide +kernel
theorem dX11_auto_40 : decode cX11_auto 40 = .ok (.aload_n 2, 1) := by decide +kernel
theorem dX11_auto_41 : decode cX11_auto 41 = .ok (.getfield 225, 3) := by decide +kernel
theorem dX11_auto_44 : decode cX11_auto 44 = .ok (.getfield 250, 3) := by decide +kernel
theorem dX11_auto_47 : decode cX11_auto 47 = .ok (.iconst 1, 1) := by decide +kernel
theorem dX11_auto_48 : decode cX11_auto 48 = .ok (.isub, 1) := by decide +kernel
theorem dX11_auto_49 : decode cX11_auto 49 = .ok (.iload_n 3, 1) := by decide +kernel
theorem dX11_auto_50 : decode cX11_auto 50 = .ok (.isub, 1) := by decide +kernel
theorem dX11_auto_51 : decode cX11_auto 51 = .ok (.invokevirtual 255, 3) := by decide +kernel
theorem dX11_auto_54 : decode cX11_auto 54 = .ok (.invokevirtual 238, 3) := by decide +kernel
theorem dX11_auto_57 : decode cX11_auto 57 = .ok (.iload_n 3, 1) := by decide +kernel
theorem dX11_auto_58 : decode cX11_auto 58 = .ok (.ireturn, 1) := by decide +kernel
theorem dX11_reopen_0 : decode cX11_reopen 0 = .ok (.aload_n 0, 1) := by decide +kernel
theorem dX11_reopen_1 : decode cX11_reopen 1 = .ok (.iload_n 1, 1) := by decide +kernel
theorem dX11_reopen_2 : decode cX11_reopen 2 = .ok (.invokevirtual 189, 3) := by decide +kernel
theorem dX11_reopen_5 : decode cX11_reopen 5 = .ok (.astore_n 2, 1) := by decide +kernel
theorem dX11_reopen_6 : decode cX11_reopen 6 = .ok (.aload_n 2, 1) := by decide +kernel
theorem dX11_reopen_7 : decode cX11_reopen 7 = .ok (.getfield 197, 3) := by decide +kernel
theorem dX11_reopen_10 : decode cX11_reopen 10 = .ok (.bipush 102, 2) := by decide +kernel
theorem dX11_reopen_12 : decode cX11_reopen 12 = .ok (.if_icmp .ne 17, 3) := by decide +kernel
theorem dX11_reopen_15 : decode cX11_reopen 15 = .ok (.aload_n 0, 1) := by decide +kernel
theorem dX11_reopen_16 : decode cX11_reopen 16 = .ok (.getfield 37, 3) := by decide +kernel
theorem dX11_reopen_19 : decode cX11_reopen 19 = .ok (.aload_n 2, 1) := by decide +kernel
theorem dX11_reopen_20 : decode cX11_reopen 20 = .ok (.getfield 219, 3) := by decide +kernel
theorem dX11_reopen_23 : decode cX11_reopen 23 = .ok (.invokevirtual 258, 3) := by decide +kernel
theorem dX11_reopen_26 : decode cX11_reopen 26 = .ok (.ifCond .eq 14, 3) := by decide +kernel
theorem dX11_reopen_29 : decode cX11_reopen 29 = .ok (.new 109, 3) := by decide +kernel
theorem dX11_reopen_32 : decode cX11_reopen 32 = .ok (.dup, 1) := by decide +kernel
theorem dX11_reopen_33 : decode cX11_reopen 33 = .ok (.ldc_w 261, 3) := by decide +kernel
theorem dX11_reopen_36 : decode cX11_reopen 36 = .ok (.invokespecial 113, 3) := by decide +kernel
theorem dX11_reopen_39 : decode cX11_reopen 39 = .ok (.athrow, 1) := by decide +kernel
theorem dX11_reopen_40 : decode cX11_reopen 40 = .ok (.aload_n 0, 1) := by decide +kernel
theorem dX11_reopen_41 : decode cX11_reopen 41 = .ok (.getfield 10, 3) := by decide +kernel
theorem dX11_reopen_44 : decode cX11_reopen 44 = .ok (.aload_n 2, 1) := by decide +kernel
theorem dX11_reopen_45 : decode cX11_reopen 45 = .ok (.getfield 263, 3) := by decide +kernel
theorem dX11_reopen_48 : decode cX11_reopen 48 = .ok (.invokevirtual 139, 3) := by decide +kernel
theorem dX11_reopen_51 : decode cX11_reopen 51 = .ok (.istore_n 3, 1) := by decide +kernel
theorem dX11_reopen_52 : decode cX11_reopen 52 = .ok (.aload_n 2, 1) := by decide +kernel
theorem dX11_reopen_53 : decode cX11_reopen 53 = .ok (.invokevirtual 266, 3) := by decide +kernel
theorem dX11_reopen_56 : decode cX11_reopen 56 = .ok (.iload_n 3, 1) := by decide +kernel
theorem dX11_reopen_57 : decode cX11_reopen 57 = .ok (.ireturn, 1) := by decide +kernel
theorem dX11_goalState_0 : decode cX11_goalState 0 = .ok (.aload_n 0, 1) := by decide +kernel
theorem dX11_goalState_1 : decode cX11_goalState 1 = .ok (.iload_n 1, 1) := by decide +kernel
theorem dX11_goalState_2 : decode cX11_goalState 2 = .ok (.invokevirtual 189, 3) := by decide +kernel
theorem dX11_goalState_5 : decode cX11_goalState 5 = .ok (.getfield 197, 3) := by decide +kernel
theorem dX11_goalState_8 : decode cX11_goalState 8 = .ok (.ireturn, 1) := by decide +kernel
theorem dX11_contextSize_0 : decode cX11_contextSize 0 = .ok (.aload_n 0, 1) := by decide +kernel
theorem dX11_contextSize_1 : decode cX11_contextSize 1 = .ok (.iload_n 1, 1) := by decide +kernel
theorem dX11_contextSize_2 : decode cX11_contextSize 2 = .ok (.invokevirtual 189, 3) := by decide +kernel
theorem dX11_contextSize_5 : decode cX11_contextSize 5 = .ok (.getfield 225, 3) := by decide +kernel
theorem dX11_contextSize_8 : decode cX11_contextSize 8 = .ok (.getfield 250, 3) := by decide +kernel
theorem dX11_contextSize_11 : decode cX11_contextSize 11 = .ok (.ireturn, 1) := by decide +kernel
theorem dX11_contextType_0 : decode cX11_contextType 0 = .ok (.aload_n 0, 1) := by decide +kernel
theorem dX11_contextType_1 : decode cX11_contextType 1 = .ok (.iload_n 1, 1) := by decide +kernel
theorem dX11_contextType_2 : decode cX11_contextType 2 = .ok (.invokevirtual 189, 3) := by decide +kernel
theorem dX11_contextType_5 : decode cX11_contextType 5 = .ok (.astore_n 3, 1) := by decide +kernel
theorem dX11_contextType_6 : decode cX11_contextType 6 = .ok (.aload_n 3, 1) := by decide +kernel
theorem dX11_contextType_7 : decode cX11_contextType 7 = .ok (.iload_n 2, 1) := by decide +kernel
theorem dX11_contextType_8 : decode cX11_contextType 8 = .ok (.invokestatic 193, 3) := by decide +kernel
theorem dX11_contextType_11 : decode cX11_contextType 11 = .ok (.aload_n 0, 1) := by decide +kernel
theorem dX11_contextType_12 : decode cX11_contextType 12 = .ok (.getfield 10, 3) := by decide +kernel
theorem dX11_contextType_15 : decode cX11_contextType 15 = .ok (.aload_n 3, 1) := by decide +kernel
theorem dX11_contextType_16 : decode cX11_contextType 16 = .ok (.getfield 225, 3) := by decide +kernel
theorem dX11_contextType_19 : decode cX11_contextType 19 = .ok (.iload_n 2, 1) := by decide +kernel
theorem dX11_contextType_20 : decode cX11_contextType 20 = .ok (.invokevirtual 269, 3) := by decide +kernel
theorem dX11_contextType_23 : decode cX11_contextType 23 = .ok (.invokevirtual 142, 3) := by decide +kernel
theorem dX11_contextType_26 : decode cX11_contextType 26 = .ok (.ireturn, 1) := by decide +kernel
theorem dX11_openGoals_0 : decode cX11_openGoals 0 = .ok (.aload_n 0, 1) := by decide +kernel
theorem dX11_openGoals_1 : decode cX11_openGoals 1 = .ok (.iload_n 1, 1) := by decide +kernel
theorem dX11_openGoals_2 : decode cX11_openGoals 2 = .ok (.invokevirtual 101, 3) := by decide +kernel
theorem dX11_openGoals_5 : decode cX11_openGoals 5 = .ok (.pop, 1) := by decide +kernel
theorem dX11_openGoals_6 : decode cX11_openGoals 6 = .ok (.aload_n 0, 1) := by decide +kernel
theorem dX11_openGoals_7 : decode cX11_openGoals 7 = .ok (.getfield 37, 3) := by decide +kernel
theorem dX11_openGoals_10 : decode cX11_openGoals 10 = .ok (.iload_n 1, 1) := by decide +kernel
theorem dX11_openGoals_11 : decode cX11_openGoals 11 = .ok (.invokevirtual 241, 3) := by decide +kernel
theorem dX11_openGoals_14 : decode cX11_openGoals 14 = .ok (.ireturn, 1) := by decide +kernel
theorem dX11_accept_0 : decode cX11_accept 0 = .ok (.aload_n 0, 1) := by decide +kernel
theorem dX11_accept_1 : decode cX11_accept 1 = .ok (.iload_n 1, 1) := by decide +kernel
theorem dX11_accept_2 : decode cX11_accept 2 = .ok (.invokevirtual 101, 3) := by decide +kernel
theorem dX11_accept_5 : decode cX11_accept 5 = .ok (.astore_n 2, 1) := by decide +kernel
theorem dX11_accept_6 : decode cX11_accept 6 = .ok (.aload_n 0, 1) := by decide +kernel
theorem dX11_accept_7 : decode cX11_accept 7 = .ok (.getfield 37, 3) := by decide +kernel
theorem dX11_accept_10 : decode cX11_accept 10 = .ok (.iload_n 1, 1) := by decide +kernel
theorem dX11_accept_11 : decode cX11_accept 11 = .ok (.invokevirtual 258, 3) := by decide +kernel
theorem dX11_accept_14 : decode cX11_accept 14 = .ok (.ifCond .ne 14, 3) := by decide +kernel
theorem dX11_accept_17 : decode cX11_accept 17 = .ok (.aload_n 0, 1) := by decide +kernel
theorem dX11_accept_18 : decode cX11_accept 18 = .ok (.getfield 37, 3) := by decide +kernel
theorem dX11_accept_21 : decode cX11_accept 21 = .ok (.iload_n 1, 1) := by decide +kernel
theorem dX11_accept_22 : decode cX11_accept 22 = .ok (.invokevirtual 241, 3) := by decide +kernel
theorem dX11_accept_25 : decode cX11_accept 25 = .ok (.ifCond .le 14, 3) := by decide +kernel
theorem dX11_accept_28 : decode cX11_accept 28 = .ok (.new 109, 3) := by decide +kernel
theorem dX11_accept_31 : decode cX11_accept 31 = .ok (.dup, 1) := by decide +kernel
theorem dX11_accept_32 : decode cX11_accept 32 = .ok (.ldc_w 272, 3) := by decide +kernel
theorem dX11_accept_35 : decode cX11_accept 35 = .ok (.invokespecial 113, 3) := by decide +kernel
theorem dX11_accept_38 : decode cX11_accept 38 = .ok (.athrow, 1) := by decide +kernel
theorem dX11_accept_39 : decode cX11_accept 39 = .ok (.aload_n 0, 1) := by decide +kernel
theorem dX11_accept_40 : decode cX11_accept 40 = .ok (.getfield 53, 3) := by decide +kernel
theorem dX11_accept_43 : decode cX11_accept 43 = .ok (.iload_n 1, 1) := by decide +kernel
theorem dX11_accept_44 : decode cX11_accept 44 = .ok (.aload_n 2, 1) := by decide +kernel
theorem dX11_accept_45 : decode cX11_accept 45 = .ok (.getfield 274, 3) := by decide +kernel
theorem dX11_accept_48 : decode cX11_accept 48 = .ok (.invokevirtual 279, 3) := by decide +kernel
theorem dX11_accept_51 : decode cX11_accept 51 = .ok (.iconst 0, 1) := by decide +kernel
theorem dX11_accept_52 : decode cX11_accept 52 = .ok (.istore_n 3, 1) := by decide +kernel
theorem dX11_accept_53 : decode cX11_accept 53 = .ok (.iload_n 3, 1) := by decide +kernel
theorem dX11_accept_54 : decode cX11_accept 54 = .ok (.aload_n 0, 1) := by decide +kernel
theorem dX11_accept_55 : decode cX11_accept 55 = .ok (.getfield 37, 3) := by decide +kernel
theorem dX11_accept_58 : decode cX11_accept 58 = .ok (.getfield 181, 3) := by decide +kernel
theorem dX11_accept_61 : decode cX11_accept 61 = .ok (.if_icmp .ge 24, 3) := by decide +kernel
theorem dX11_accept_64 : decode cX11_accept 64 = .ok (.aload_n 0, 1) := by decide +kernel
theorem dX11_accept_65 : decode cX11_accept 65 = .ok (.getfield 53, 3) := by decide +kernel
theorem dX11_accept_68 : decode cX11_accept 68 = .ok (.aload_n 0, 1) := by decide +kernel
theorem dX11_accept_69 : decode cX11_accept 69 = .ok (.getfield 37, 3) := by decide +kernel
theorem dX11_accept_72 : decode cX11_accept 72 = .ok (.iload_n 3, 1) := by decide +kernel
theorem dX11_accept_73 : decode cX11_accept 73 = .ok (.invokevirtual 283, 3) := by decide +kernel
theorem dX11_accept_76 : decode cX11_accept 76 = .ok (.invokevirtual 286, 3) := by decide +kernel
theorem dX11_accept_79 : decode cX11_accept 79 = .ok (.iinc 3 1, 3) := by decide +kernel
theorem dX11_accept_82 : decode cX11_accept 82 = .ok (.goto (-29), 3) := by decide +kernel
theorem dX11_accept_85 : decode cX11_accept 85 = .ok (.aload_n 0, 1) := by decide +kernel
theorem dX11_accept_86 : decode cX11_accept 86 = .ok (.getfield 53, 3) := by decide +kernel
theorem dX11_accept_89 : decode cX11_accept 89 = .ok (.invokevirtual 289, 3) := by decide +kernel
theorem dX11_accept_92 : decode cX11_accept 92 = .ok (.ifCond .ne 14, 3) := by decide +kernel
theorem dX11_accept_95 : decode cX11_accept 95 = .ok (.new 158, 3) := by decide +kernel
theorem dX11_accept_98 : decode cX11_accept 98 = .ok (.dup, 1) := by decide +kernel
theorem dX11_accept_99 : decode cX11_accept 99 = .ok (.ldc_w 293, 3) := by decide +kernel
theorem dX11_accept_102 : decode cX11_accept 102 = .ok (.invokespecial 162, 3) := by decide +kernel
theorem dX11_accept_105 : decode cX11_accept 105 = .ok (.athrow, 1) := by decide +kernel
theorem dX11_accept_106 : decode cX11_accept 106 = .ok (.aload_n 0, 1) := by decide +kernel
theorem dX11_accept_107 : decode cX11_accept 107 = .ok (.getfield 37, 3) := by decide +kernel
theorem dX11_accept_110 : decode cX11_accept 110 = .ok (.dup, 1) := by decide +kernel
theorem dX11_accept_111 : decode cX11_accept 111 = .ok (.getfield 126, 3) := by decide +kernel
theorem dX11_accept_114 : decode cX11_accept 114 = .ok (.iconst 1, 1) := by decide +kernel
theorem dX11_accept_115 : decode cX11_accept 115 = .ok (.iload_n 1, 1) := by decide +kernel
theorem dX11_accept_116 : decode cX11_accept 116 = .ok (.ishl, 1) := by decide +kernel
theorem dX11_accept_117 : decode cX11_accept 117 = .ok (.ior, 1) := by decide +kernel
theorem dX11_accept_118 : decode cX11_accept 118 = .ok (.putfield 126, 3) := by decide +kernel
theorem dX11_accept_121 : decode cX11_accept 121 = .ok (.aload_n 0, 1) := by decide +kernel
theorem dX11_accept_122 : decode cX11_accept 122 = .ok (.getfield 53, 3) := by decide +kernel
theorem dX11_accept_125 : decode cX11_accept 125 = .ok (.getfield 295, 3) := by decide +kernel
theorem dX11_accept_128 : decode cX11_accept 128 = .ok (.ireturn, 1) := by decide +kernel
theorem dX11_isAccepted_0 : decode cX11_isAccepted 0 = .ok (.aload_n 0, 1) := by decide +kernel
theorem dX11_isAccepted_1 : decode cX11_isAccepted 1 = .ok (.iload_n 1, 1) := by decide +kernel
theorem dX11_isAccepted_2 : decode cX11_isAccepted 2 = .ok (.invokevirtual 101, 3) := by decide +kernel
theorem dX11_isAccepted_5 : decode cX11_isAccepted 5 = .ok (.pop, 1) := by decide +kernel
theorem dX11_isAccepted_6 : decode cX11_isAccepted 6 = .ok (.aload_n 0, 1) := by decide +kernel
theorem dX11_isAccepted_7 : decode cX11_isAccepted 7 = .ok (.getfield 37, 3) := by decide +kernel
theorem dX11_isAccepted_10 : decode cX11_isAccepted 10 = .ok (.iload_n 1, 1) := by decide +kernel
theorem dX11_isAccepted_11 : decode cX11_isAccepted 11 = .ok (.invokevirtual 258, 3) := by decide +kernel
theorem dX11_isAccepted_14 : decode cX11_isAccepted 14 = .ok (.ireturn, 1) := by decide +kernel
theorem dX11_run_0 : decode cX11_run 0 = .ok (.aload_n 0, 1) := by decide +kernel
theorem dX11_run_1 : decode cX11_run 1 = .ok (.iload_n 1, 1) := by decide +kernel
theorem dX11_run_2 : decode cX11_run 2 = .ok (.invokevirtual 135, 3) := by decide +kernel
theorem dX11_run_5 : decode cX11_run 5 = .ok (.istore_n 2, 1) := by decide +kernel
theorem dX11_run_6 : decode cX11_run 6 = .ok (.aload_n 0, 1) := by decide +kernel
theorem dX11_run_7 : decode cX11_run 7 = .ok (.getfield 10, 3) := by decide +kernel
theorem dX11_run_10 : decode cX11_run 10 = .ok (.invokevirtual 145, 3) := by decide +kernel
theorem dX11_run_13 : decode cX11_run 13 = .ok (.istore_n 3, 1) := by decide +kernel
theorem dX11_run_14 : decode cX11_run 14 = .ok (.aload_n 0, 1) := by decide +kernel
theorem dX11_run_15 : decode cX11_run 15 = .ok (.getfield 46, 3) := by decide +kernel
theorem dX11_run_18 : decode cX11_run 18 = .ok (.iload_n 2, 1) := by decide +kernel
theorem dX11_run_19 : decode cX11_run 19 = .ok (.invokevirtual 296, 3) := by decide +kernel
theorem dX11_run_22 : decode cX11_run 22 = .ok (.ifCond .eq 15, 3) := by decide +kernel
theorem dX11_run_25 : decode cX11_run 25 = .ok (.aload_n 0, 1) := by decide +kernel
theorem dX11_run_26 : decode cX11_run 26 = .ok (.getfield 62, 3) := by decide +kernel
theorem dX11_run_29 : decode cX11_run 29 = .ok (.iload_n 2, 1) := by decide +kernel
theorem dX11_run_30 : decode cX11_run 30 = .ok (.iconst 1, 1) := by decide +kernel
theorem dX11_run_31 : decode cX11_run 31 = .ok (.invokevirtual 299, 3) := by decide +kernel
theorem dX11_run_34 : decode cX11_run 34 = .ok (.goto 4, 3) := by decide +kernel
theorem dX11_run_37 : decode cX11_run 37 = .ok (.iconst (-1), 1) := by decide +kernel
theorem dX11_run_38 : decode cX11_run 38 = .ok (.istore 4, 2) := by decide +kernel
theorem dX11_run_40 : decode cX11_run 40 = .ok (.aload_n 0, 1) := by decide +kernel
theorem dX11_run_41 : decode cX11_run 41 = .ok (.iload_n 3, 1) := by decide +kernel
theorem dX11_run_42 : decode cX11_run 42 = .ok (.iload 4, 2) := by decide +kernel
theorem dX11_run_44 : decode cX11_run 44 = .ok (.invokevirtual 151, 3) := by decide +kernel
theorem dX11_run_47 : decode cX11_run 47 = .ok (.istore 5, 2) := by decide +kernel
theorem dX11_run_49 : decode cX11_run 49 = .ok (.aload_n 0, 1) := by decide +kernel
theorem dX11_run_50 : decode cX11_run 50 = .ok (.dup, 1) := by decide +kernel
theorem dX11_run_51 : decode cX11_run 51 = .ok (.getfield 303, 3) := by decide +kernel
theorem dX11_run_54 : decode cX11_run 54 = .ok (.aload_n 0, 1) := by decide +kernel
theorem dX11_run_55 : decode cX11_run 55 = .ok (.getfield 62, 3) := by decide +kernel
theorem dX11_run_58 : decode cX11_run 58 = .ok (.getfield 307, 3) := by decide +kernel
theorem dX11_run_61 : decode cX11_run 61 = .ok (.i2l, 1) := by decide +kernel
theorem dX11_run_62 : decode cX11_run 62 = .ok (.ladd, 1) := by decide +kernel
theorem dX11_run_63 : decode cX11_run 63 = .ok (.putfield 303, 3) := by decide +kernel
theorem dX11_run_66 : decode cX11_run 66 = .ok (.iload 5, 2) := by decide +kernel
theorem dX11_run_68 : decode cX11_run 68 = .ok (.ireturn, 1) := by decide +kernel
theorem dX11_runByClauses_0 : decode cX11_runByClauses 0 = .ok (.aload_n 0, 1) := by decide +kernel
theorem dX11_runByClauses_1 : decode cX11_runByClauses 1 = .ok (.iload_n 1, 1) := by decide +kernel
theorem dX11_runByClauses_2 : decode cX11_runByClauses 2 = .ok (.invokevirtual 135, 3) := by decide +kernel
theorem dX11_runByClauses_5 : decode cX11_runByClauses 5 = .ok (.istore_n 2, 1) := by decide +kernel
theorem dX11_runByClauses_6 : decode cX11_runByClauses 6 = .ok (.aload_n 0, 1) := by decide +kernel
theorem dX11_runByClauses_7 : decode cX11_runByClauses 7 = .ok (.getfield 10, 3) := by decide +kernel
theorem dX11_runByClauses_10 : decode cX11_runByClauses 10 = .ok (.invokevirtual 145, 3) := by decide +kernel
theorem dX11_runByClauses_13 : decode cX11_runByClauses 13 = .ok (.istore_n 3, 1) := by decide +kernel
theorem dX11_runByClauses_14 : decode cX11_runByClauses 14 = .ok (.aload_n 0, 1) := by decide +kernel
theorem dX11_runByClauses_15 : decode cX11_runByClauses 15 = .ok (.getfield 46, 3) := by decide +kernel
theorem dX11_runByClauses_18 : decode cX11_runByClauses 18 = .ok (.iload_n 2, 1) := by decide +kernel
theorem dX11_runByClauses_19 : decode cX11_runByClauses 19 = .ok (.invokevirtual 296, 3) := by decide +kernel
theorem dX11_runByClauses_22 : decode cX11_runByClauses 22 = .ok (.ifCond .eq 15, 3) := by decide +kernel
theorem dX11_runByClauses_25 : decode cX11_runByClauses 25 = .ok (.aload_n 0, 1) := by decide +kernel
theorem dX11_runByClauses_26 : decode cX11_runByClauses 26 = .ok (.getfield 62, 3) := by decide +kernel
theorem dX11_runByClauses_29 : decode cX11_runByClauses 29 = .ok (.iload_n 2, 1) := by decide +kernel
theorem dX11_runByClauses_30 : decode cX11_runByClauses 30 = .ok (.iconst 0, 1) := by decide +kernel
theorem dX11_runByClauses_31 : decode cX11_runByClauses 31 = .ok (.invokevirtual 299, 3) := by decide +kernel
theorem dX11_runByClauses_34 : decode cX11_runByClauses 34 = .ok (.goto 4, 3) := by decide +kernel
theorem dX11_runByClauses_37 : decode cX11_runByClauses 37 = .ok (.iconst (-1), 1) := by decide +kernel
theorem dX11_runByClauses_38 : decode cX11_runByClauses 38 = .ok (.istore 4, 2) := by decide +kernel
theorem dX11_runByClauses_40 : decode cX11_runByClauses 40 = .ok (.aload_n 0, 1) := by decide +kernel
theorem dX11_runByClauses_41 : decode cX11_runByClauses 41 = .ok (.iload_n 3, 1) := by decide +kernel
theorem dX11_runByClauses_42 : decode cX11_runByClauses 42 = .ok (.iload 4, 2) := by decide +kernel
theorem dX11_runByClauses_44 : decode cX11_runByClauses 44 = .ok (.invokevirtual 151, 3) := by decide +kernel
theorem dX11_runByClauses_47 : decode cX11_runByClauses 47 = .ok (.ireturn, 1) := by decide +kernel
theorem dX11_steps_0 : decode cX11_steps 0 = .ok (.aload_n 0, 1) := by decide +kernel
theorem dX11_steps_1 : decode cX11_steps 1 = .ok (.iload_n 1, 1) := by decide +kernel
theorem dX11_steps_2 : decode cX11_steps 2 = .ok (.invokevirtual 135, 3) := by decide +kernel
theorem dX11_steps_5 : decode cX11_steps 5 = .ok (.istore_n 2, 1) := by decide +kernel
theorem dX11_steps_6 : decode cX11_steps 6 = .ok (.aload_n 0, 1) := by decide +kernel
theorem dX11_steps_7 : decode cX11_steps 7 = .ok (.getfield 10, 3) := by decide +kernel
theorem dX11_steps_10 : decode cX11_steps 10 = .ok (.invokevirtual 145, 3) := by decide +kernel
theorem dX11_steps_13 : decode cX11_steps 13 = .ok (.istore_n 3, 1) := by decide +kernel
theorem dX11_steps_14 : decode cX11_steps 14 = .ok (.aload_n 0, 1) := by decide +kernel
theorem dX11_steps_15 : decode cX11_steps 15 = .ok (.getfield 46, 3) := by decide +kernel
theorem dX11_steps_18 : decode cX11_steps 18 = .ok (.iload_n 2, 1) := by decide +kernel
theorem dX11_steps_19 : decode cX11_steps 19 = .ok (.invokevirtual 296, 3) := by decide +kernel
theorem dX11_steps_22 : decode cX11_steps 22 = .ok (.ifCond .eq 15, 3) := by decide +kernel
theorem dX11_steps_25 : decode cX11_steps 25 = .ok (.aload_n 0, 1) := by decide +kernel
theorem dX11_steps_26 : decode cX11_steps 26 = .ok (.getfield 62, 3) := by decide +kernel
theorem dX11_steps_29 : decode cX11_steps 29 = .ok (.iload_n 2, 1) := by decide +kernel
theorem dX11_steps_30 : decode cX11_steps 30 = .ok (.iconst 1, 1) := by decide +kernel
theorem dX11_steps_31 : decode cX11_steps 31 = .ok (.invokevirtual 299, 3) := by decide +kernel
theorem dX11_steps_34 : decode cX11_steps 34 = .ok (.goto 4, 3) := by decide +kernel
theorem dX11_steps_37 : decode cX11_steps 37 = .ok (.iconst (-1), 1) := by decide +kernel
theorem dX11_steps_38 : decode cX11_steps 38 = .ok (.istore 4, 2) := by decide +kernel
theorem dX11_steps_40 : decode cX11_steps 40 = .ok (.aload_n 0, 1) := by decide +kernel
theorem dX11_steps_41 : decode cX11_steps 41 = .ok (.iload_n 3, 1) := by decide +kernel
theorem dX11_steps_42 : decode cX11_steps 42 = .ok (.iload 4, 2) := by decide +kernel
theorem dX11_steps_44 : decode cX11_steps 44 = .ok (.invokevirtual 151, 3) := by decide +kernel
theorem dX11_steps_47 : decode cX11_steps 47 = .ok (.pop, 1) := by decide +kernel
theorem dX11_steps_48 : decode cX11_steps 48 = .ok (.aload_n 0, 1) := by decide +kernel
theorem dX11_steps_49 : decode cX11_steps 49 = .ok (.getfield 62, 3) := by decide +kernel
theorem dX11_steps_52 : decode cX11_steps 52 = .ok (.getfield 307, 3) := by decide +kernel
theorem dX11_steps_55 : decode cX11_steps 55 = .ok (.ireturn, 1) := by decide +kernel
theorem dX11_valueSize_0 : decode cX11_valueSize 0 = .ok (.aload_n 0, 1) := by decide +kernel
theorem dX11_valueSize_1 : decode cX11_valueSize 1 = .ok (.iload_n 1, 1) := by decide +kernel
theorem dX11_valueSize_2 : decode cX11_valueSize 2 = .ok (.invokevirtual 135, 3) := by decide +kernel
theorem dX11_valueSize_5 : decode cX11_valueSize 5 = .ok (.istore_n 2, 1) := by decide +kernel
theorem dX11_valueSize_6 : decode cX11_valueSize 6 = .ok (.aload_n 0, 1) := by decide +kernel
theorem dX11_valueSize_7 : decode cX11_valueSize 7 = .ok (.getfield 10, 3) := by decide +kernel
theorem dX11_valueSize_10 : decode cX11_valueSize 10 = .ok (.invokevirtual 145, 3) := by decide +kernel
theorem dX11_valueSize_13 : decode cX11_valueSize 13 = .ok (.istore_n 3, 1) := by decide +kernel
theorem dX11_valueSize_14 : decode cX11_valueSize 14 = .ok (.aload_n 0, 1) := by decide +kernel
theorem dX11_valueSize_15 : decode cX11_valueSize 15 = .ok (.getfield 46, 3) := by decide +kernel
theorem dX11_valueSize_18 : decode cX11_valueSize 18 = .ok (.iload_n 2, 1) := by decide +kernel
theorem dX11_valueSize_19 : decode cX11_valueSize 19 = .ok (.invokevirtual 296, 3) := by decide +kernel
theorem dX11_valueSize_22 : decode cX11_valueSize 22 = .ok (.ifCond .eq 15, 3) := by decide +kernel
theorem dX11_valueSize_25 : decode cX11_valueSize 25 = .ok (.aload_n 0, 1) := by decide +kernel
theorem dX11_valueSize_26 : decode cX11_valueSize 26 = .ok (.getfield 62, 3) := by decide +kernel
theorem dX11_valueSize_29 : decode cX11_valueSize 29 = .ok (.iload_n 2, 1) := by decide +kernel
theorem dX11_valueSize_30 : decode cX11_valueSize 30 = .ok (.iconst 1, 1) := by decide +kernel
theorem dX11_valueSize_31 : decode cX11_valueSize 31 = .ok (.invokevirtual 299, 3) := by decide +kernel
theorem dX11_valueSize_34 : decode cX11_valueSize 34 = .ok (.goto 4, 3) := by decide +kernel
theorem dX11_valueSize_37 : decode cX11_valueSize 37 = .ok (.iconst (-1), 1) := by decide +kernel
theorem dX11_valueSize_38 : decode cX11_valueSize 38 = .ok (.istore 4, 2) := by decide +kernel
theorem dX11_valueSize_40 : decode cX11_valueSize 40 = .ok (.aload_n 0, 1) := by decide +kernel
theorem dX11_valueSize_41 : decode cX11_valueSize 41 = .ok (.getfield 10, 3) := by decide +kernel
theorem dX11_valueSize_44 : decode cX11_valueSize 44 = .ok (.iload 4, 2) := by decide +kernel
theorem dX11_valueSize_46 : decode cX11_valueSize 46 = .ok (.invokevirtual 139, 3) := by decide +kernel
theorem dX11_valueSize_49 : decode cX11_valueSize 49 = .ok (.istore 5, 2) := by decide +kernel
theorem dX11_valueSize_51 : decode cX11_valueSize 51 = .ok (.aload_n 0, 1) := by decide +kernel
theorem dX11_valueSize_52 : decode cX11_valueSize 52 = .ok (.iload_n 3, 1) := by decide +kernel
theorem dX11_valueSize_53 : decode cX11_valueSize 53 = .ok (.iload 4, 2) := by decide +kernel
theorem dX11_valueSize_55 : decode cX11_valueSize 55 = .ok (.invokevirtual 151, 3) := by decide +kernel
theorem dX11_valueSize_58 : decode cX11_valueSize 58 = .ok (.pop, 1) := by decide +kernel
theorem dX11_valueSize_59 : decode cX11_valueSize 59 = .ok (.iload 5, 2) := by decide +kernel
theorem dX11_valueSize_61 : decode cX11_valueSize 61 = .ok (.iconst 1, 1) := by decide +kernel
theorem dX11_valueSize_62 : decode cX11_valueSize 62 = .ok (.iadd, 1) := by decide +kernel
theorem dX11_valueSize_63 : decode cX11_valueSize 63 = .ok (.iconst 2, 1) := by decide +kernel
theorem dX11_valueSize_64 : decode cX11_valueSize 64 = .ok (.idiv, 1) := by decide +kernel
theorem dX11_valueSize_65 : decode cX11_valueSize 65 = .ok (.ireturn, 1) := by decide +kernel
theorem dX11_isSound_0 : decode cX11_isSound 0 = .ok (.iconst 0, 1) := by decide +kernel
theorem dX11_isSound_1 : decode cX11_isSound 1 = .ok (.istore_n 1, 1) := by decide +kernel
theorem dX11_isSound_2 : decode cX11_isSound 2 = .ok (.iload_n 1, 1) := by decide +kernel
theorem dX11_isSound_3 : decode cX11_isSound 3 = .ok (.aload_n 0, 1) := by decide +kernel
theorem dX11_isSound_4 : decode cX11_isSound 4 = .ok (.getfield 37, 3) := by decide +kernel
theorem dX11_isSound_7 : decode cX11_isSound 7 = .ok (.getfield 181, 3) := by decide +kernel
theorem dX11_isSound_10 : decode cX11_isSound 10 = .ok (.if_icmp .ge 55, 3) := by decide +kernel
theorem dX11_isSound_13 : decode cX11_isSound 13 = .ok (.aload_n 0, 1) := by decide +kernel
theorem dX11_isSound_14 : decode cX11_isSound 14 = .ok (.getfield 37, 3) := by decide +kernel
theorem dX11_isSound_17 : decode cX11_isSound 17 = .ok (.iload_n 1, 1) := by decide +kernel
theorem dX11_isSound_18 : decode cX11_isSound 18 = .ok (.invokevirtual 283, 3) := by decide +kernel
theorem dX11_isSound_21 : decode cX11_isSound 21 = .ok (.astore_n 2, 1) := by decide +kernel
theorem dX11_isSound_22 : decode cX11_isSound 22 = .ok (.aload_n 2, 1) := by decide +kernel
theorem dX11_isSound_23 : decode cX11_isSound 23 = .ok (.ifnull 36, 3) := by decide +kernel
theorem dX11_isSound_26 : decode cX11_isSound 26 = .ok (.aload_n 2, 1) := by decide +kernel
theorem dX11_isSound_27 : decode cX11_isSound 27 = .ok (.getfield 197, 3) := by decide +kernel
theorem dX11_isSound_30 : decode cX11_isSound 30 = .ok (.bipush 102, 2) := by decide +kernel
theorem dX11_isSound_32 : decode cX11_isSound 32 = .ok (.if_icmp .ne 27, 3) := by decide +kernel
theorem dX11_isSound_35 : decode cX11_isSound 35 = .ok (.aload_n 0, 1) := by decide +kernel
theorem dX11_isSound_36 : decode cX11_isSound 36 = .ok (.getfield 46, 3) := by decide +kernel
theorem dX11_isSound_39 : decode cX11_isSound 39 = .ok (.aload_n 2, 1) := by decide +kernel
theorem dX11_isSound_40 : decode cX11_isSound 40 = .ok (.getfield 225, 3) := by decide +kernel
theorem dX11_isSound_43 : decode cX11_isSound 43 = .ok (.aload_n 2, 1) := by decide +kernel
theorem dX11_isSound_44 : decode cX11_isSound 44 = .ok (.getfield 263, 3) := by decide +kernel
theorem dX11_isSound_47 : decode cX11_isSound 47 = .ok (.aload_n 2, 1) := by decide +kernel
theorem dX11_isSound_48 : decode cX11_isSound 48 = .ok (.getfield 229, 3) := by decide +kernel
theorem dX11_isSound_51 : decode cX11_isSound 51 = .ok (.invokevirtual 232, 3) := by decide +kernel
theorem dX11_isSound_54 : decode cX11_isSound 54 = .ok (.ifCond .ne 5, 3) := by decide +kernel
theorem dX11_isSound_57 : decode cX11_isSound 57 = .ok (.iconst 0, 1) := by decide +kernel
theorem dX11_isSound_58 : decode cX11_isSound 58 = .ok (.ireturn, 1) := by decide +kernel
theorem dX11_isSound_59 : decode cX11_isSound 59 = .ok (.iinc 1 1, 3) := by decide +kernel
theorem dX11_isSound_62 : decode cX11_isSound 62 = .ok (.goto (-60), 3) := by decide +kernel
theorem dX11_isSound_65 : decode cX11_isSound 65 = .ok (.aload_n 0, 1) := by decide +kernel
theorem dX11_isSound_66 : decode cX11_isSound 66 = .ok (.getfield 37, 3) := by decide +kernel
theorem dX11_isSound_69 : decode cX11_isSound 69 = .ok (.invokevirtual 324, 3) := by decide +kernel
theorem dX11_isSound_72 : decode cX11_isSound 72 = .ok (.ifCond .ne 17, 3) := by decide +kernel
theorem dX11_isSound_75 : decode cX11_isSound 75 = .ok (.aload_n 0, 1) := by decide +kernel
theorem dX11_isSound_76 : decode cX11_isSound 76 = .ok (.getfield 37, 3) := by decide +kernel
theorem dX11_isSound_79 : decode cX11_isSound 79 = .ok (.invokevirtual 327, 3) := by decide +kernel
theorem dX11_isSound_82 : decode cX11_isSound 82 = .ok (.ifCond .ne 7, 3) := by decide +kernel
theorem dX11_isSound_85 : decode cX11_isSound 85 = .ok (.iconst 1, 1) := by decide +kernel
theorem dX11_isSound_86 : decode cX11_isSound 86 = .ok (.goto 4, 3) := by decide +kernel
theorem dX11_isSound_89 : decode cX11_isSound 89 = .ok (.iconst 0, 1) := by decide +kernel
theorem dX11_isSound_90 : decode cX11_isSound 90 = .ok (.ireturn, 1) := by decide +kernel
theorem dX11_layLeaf_0 : decode cX11_layLeaf 0 = .ok (.aload_n 0, 1) := by decide +kernel
theorem dX11_layLeaf_1 : decode cX11_layLeaf 1 = .ok (.getfield 330, 3) := by decide +kernel
theorem dX11_layLeaf_4 : decode cX11_layLeaf 4 = .ok (.aload_n 0, 1) := by decide +kernel
theorem dX11_layLeaf_5 : decode cX11_layLeaf 5 = .ok (.getfield 66, 3) := by decide +kernel
theorem dX11_layLeaf_8 : decode cX11_layLeaf 8 = .ok (.arraylength, 1) := by decide +kernel
theorem dX11_layLeaf_9 : decode cX11_layLeaf 9 = .ok (.if_icmp .lt 14, 3) := by decide +kernel
theorem dX11_layLeaf_12 : decode cX11_layLeaf 12 = .ok (.new 109, 3) := by decide +kernel
theorem dX11_layLeaf_15 : decode cX11_layLeaf 15 = .ok (.dup, 1) := by decide +kernel
theorem dX11_layLeaf_16 : decode cX11_layLeaf 16 = .ok (.ldc_w 333, 3) := by decide +kernel
theorem dX11_layLeaf_19 : decode cX11_layLeaf 19 = .ok (.invokespecial 113, 3) := by decide +kernel
theorem dX11_layLeaf_22 : decode cX11_layLeaf 22 = .ok (.athrow, 1) := by decide +kernel
theorem dX11_layLeaf_23 : decode cX11_layLeaf 23 = .ok (.aload_n 0, 1) := by decide +kernel
theorem dX11_layLeaf_24 : decode cX11_layLeaf 24 = .ok (.getfield 66, 3) := by decide +kernel
theorem dX11_layLeaf_27 : decode cX11_layLeaf 27 = .ok (.aload_n 0, 1) := by decide +kernel
theorem dX11_layLeaf_28 : decode cX11_layLeaf 28 = .ok (.getfield 330, 3) := by decide +kernel
theorem dX11_layLeaf_31 : decode cX11_layLeaf 31 = .ok (.aload_n 0, 1) := by decide +kernel
theorem dX11_layLeaf_32 : decode cX11_layLeaf 32 = .ok (.getfield 10, 3) := by decide +kernel
theorem dX11_layLeaf_35 : decode cX11_layLeaf 35 = .ok (.iload_n 1, 1) := by decide +kernel
theorem dX11_layLeaf_36 : decode cX11_layLeaf 36 = .ok (.iload_n 2, 1) := by decide +kernel
theorem dX11_layLeaf_37 : decode cX11_layLeaf 37 = .ok (.invokevirtual 255, 3) := by decide +kernel
theorem dX11_layLeaf_40 : decode cX11_layLeaf 40 = .ok (.iastore, 1) := by decide +kernel
theorem dX11_layLeaf_41 : decode cX11_layLeaf 41 = .ok (.aload_n 0, 1) := by decide +kernel
theorem dX11_layLeaf_42 : decode cX11_layLeaf 42 = .ok (.dup, 1) := by decide +kernel
theorem dX11_layLeaf_43 : decode cX11_layLeaf 43 = .ok (.getfield 330, 3) := by decide +kernel
theorem dX11_layLeaf_46 : decode cX11_layLeaf 46 = .ok (.iconst 1, 1) := by decide +kernel
theorem dX11_layLeaf_47 : decode cX11_layLeaf 47 = .ok (.iadd, 1) := by decide +kernel
theorem dX11_layLeaf_48 : decode cX11_layLeaf 48 = .ok (.putfield 330, 3) := by decide +kernel
theorem dX11_layLeaf_51 : decode cX11_layLeaf 51 = .ok (.aload_n 0, 1) := by decide +kernel
theorem dX11_layLeaf_52 : decode cX11_layLeaf 52 = .ok (.getfield 330, 3) := by decide +kernel
theorem dX11_layLeaf_55 : decode cX11_layLeaf 55 = .ok (.iconst 1, 1) := by decide +kernel
theorem dX11_layLeaf_56 : decode cX11_layLeaf 56 = .ok (.isub, 1) := by decide +kernel
theorem dX11_layLeaf_57 : decode cX11_layLeaf 57 = .ok (.ireturn, 1) := by decide +kernel
theorem dX11_layPair_0 : decode cX11_layPair 0 = .ok (.aload_n 0, 1) := by decide +kernel
theorem dX11_layPair_1 : decode cX11_layPair 1 = .ok (.iload_n 2, 1) := by decide +kernel
theorem dX11_layPair_2 : decode cX11_layPair 2 = .ok (.invokevirtual 135, 3) := by decide +kernel
theorem dX11_layPair_5 : decode cX11_layPair 5 = .ok (.istore 4, 2) := by decide +kernel
theorem dX11_layPair_7 : decode cX11_layPair 7 = .ok (.aload_n 0, 1) := by decide +kernel
theorem dX11_layPair_8 : decode cX11_layPair 8 = .ok (.iload_n 3, 1) := by decide +kernel
theorem dX11_layPair_9 : decode cX11_layPair 9 = .ok (.invokevirtual 135, 3) := by decide +kernel
theorem dX11_layPair_12 : decode cX11_layPair 12 = .ok (.istore 5, 2) := by decide +kernel
theorem dX11_layPair_14 : decode cX11_layPair 14 = .ok (.aload_n 0, 1) := by decide +kernel
theorem dX11_layPair_15 : decode cX11_layPair 15 = .ok (.getfield 330, 3) := by decide +kernel
theorem dX11_layPair_18 : decode cX11_layPair 18 = .ok (.aload_n 0, 1) := by decide +kernel
theorem dX11_layPair_19 : decode cX11_layPair 19 = .ok (.getfield 66, 3) := by decide +kernel
theorem dX11_layPair_22 : decode cX11_layPair 22 = .ok (.arraylength, 1) := by decide +kernel
theorem dX11_layPair_23 : decode cX11_layPair 23 = .ok (.if_icmp .ge 29, 3) := by decide +kernel
theorem dX11_layPair_26 : decode cX11_layPair 26 = .ok (.iconst 1, 1) := by decide +kernel
theorem dX11_layPair_27 : decode cX11_layPair 27 = .ok (.aload_n 0, 1) := by decide +kernel
theorem dX11_layPair_28 : decode cX11_layPair 28 = .ok (.getfield 10, 3) := by decide +kernel
theorem dX11_layPair_31 : decode cX11_layPair 31 = .ok (.iload 4, 2) := by decide +kernel
theorem dX11_layPair_33 : decode cX11_layPair 33 = .ok (.invokevirtual 139, 3) := by decide +kernel
theorem dX11_layPair_36 : decode cX11_layPair 36 = .ok (.iadd, 1) := by decide +kernel
theorem dX11_layPair_37 : decode cX11_layPair 37 = .ok (.aload_n 0, 1) := by decide +kernel
theorem dX11_layPair_38 : decode cX11_layPair 38 = .ok (.getfield 10, 3) := by decide +kernel
theorem dX11_layPair_41 : decode cX11_layPair 41 = .ok (.iload 5, 2) := by decide +kernel
theorem dX11_layPair_43 : decode cX11_layPair 43 = .ok (.invokevirtual 139, 3) := by decide +kernel
theorem dX11_layPair_46 : decode cX11_layPair 46 = .ok (.iadd, 1) := by decide +kernel
theorem dX11_layPair_47 : decode cX11_layPair 47 = .ok (.bipush 30, 2) := by decide +kernel
theorem dX11_layPair_49 : decode cX11_layPair 49 = .ok (.if_icmp .le 14, 3) := by decide +kernel
theorem dX11_layPair_52 : decode cX11_layPair 52 = .ok (.new 109, 3) := by decide +kernel
theorem dX11_layPair_55 : decode cX11_layPair 55 = .ok (.dup, 1) := by decide +kernel
theorem dX11_layPair_56 : decode cX11_layPair 56 = .ok (.ldc_w 335, 3) := by decide +kernel
theorem dX11_layPair_59 : decode cX11_layPair 59 = .ok (.invokespecial 113, 3) := by decide +kernel
theorem dX11_layPair_62 : decode cX11_layPair 62 = .ok (.athrow, 1) := by decide +kernel
theorem dX11_layPair_63 : decode cX11_layPair 63 = .ok (.aload_n 0, 1) := by decide +kernel
theorem dX11_layPair_64 : decode cX11_layPair 64 = .ok (.getfield 66, 3) := by decide +kernel
theorem dX11_layPair_67 : decode cX11_layPair 67 = .ok (.aload_n 0, 1) := by decide +kernel
theorem dX11_layPair_68 : decode cX11_layPair 68 = .ok (.getfield 330, 3) := by decide +kernel
theorem dX11_layPair_71 : decode cX11_layPair 71 = .ok (.aload_n 0, 1) := by decide +kernel
theorem dX11_layPair_72 : decode cX11_layPair 72 = .ok (.getfield 10, 3) := by decide +kernel
theorem dX11_layPair_75 : decode cX11_layPair 75 = .ok (.iload_n 1, 1) := by decide +kernel
theorem dX11_layPair_76 : decode cX11_layPair 76 = .ok (.iload 4, 2) := by decide +kernel
theorem dX11_layPair_78 : decode cX11_layPair 78 = .ok (.iload 5, 2) := by decide +kernel
theorem dX11_layPair_80 : decode cX11_layPair 80 = .ok (.invokevirtual 337, 3) := by decide +kernel
theorem dX11_layPair_83 : decode cX11_layPair 83 = .ok (.iastore, 1) := by decide +kernel
theorem dX11_layPair_84 : decode cX11_layPair 84 = .ok (.aload_n 0, 1) := by decide +kernel
theorem dX11_layPair_85 : decode cX11_layPair 85 = .ok (.dup, 1) := by decide +kernel
theorem dX11_layPair_86 : decode cX11_layPair 86 = .ok (.getfield 330, 3) := by decide +kernel
theorem dX11_layPair_89 : decode cX11_layPair 89 = .ok (.iconst 1, 1) := by decide +kernel
theorem dX11_layPair_90 : decode cX11_layPair 90 = .ok (.iadd, 1) := by decide +kernel
theorem dX11_layPair_91 : decode cX11_layPair 91 = .ok (.putfield 330, 3) := by decide +kernel
theorem dX11_layPair_94 : decode cX11_layPair 94 = .ok (.aload_n 0, 1) := by decide +kernel
theorem dX11_layPair_95 : decode cX11_layPair 95 = .ok (.getfield 330, 3) := by decide +kernel
theorem dX11_layPair_98 : decode cX11_layPair 98 = .ok (.iconst 1, 1) := by decide +kernel
theorem dX11_layPair_99 : decode cX11_layPair 99 = .ok (.isub, 1) := by decide +kernel
theorem dX11_layPair_100 : decode cX11_layPair 100 = .ok (.ireturn, 1) := by decide +kernel
theorem dX11_termAt_0 : decode cX11_termAt 0 = .ok (.iload_n 1, 1) := by decide +kernel
theorem dX11_termAt_1 : decode cX11_termAt 1 = .ok (.ifCond .lt 11, 3) := by decide +kernel
theorem dX11_termAt_4 : decode cX11_termAt 4 = .ok (.iload_n 1, 1) := by decide +kernel
theorem dX11_termAt_5 : decode cX11_termAt 5 = .ok (.aload_n 0, 1) := by decide +kernel
theorem dX11_termAt_6 : decode cX11_termAt 6 = .ok (.getfield 330, 3) := by decide +kernel
theorem dX11_termAt_9 : decode cX11_termAt 9 = .ok (.if_icmp .lt 14, 3) := by decide +kernel
theorem dX11_termAt_12 : decode cX11_termAt 12 = .ok (.new 340, 3) := by decide +kernel
theorem dX11_termAt_15 : decode cX11_termAt 15 = .ok (.dup, 1) := by decide +kernel
theorem dX11_termAt_16 : decode cX11_termAt 16 = .ok (.ldc_w 342, 3) := by decide +kernel
theorem dX11_termAt_19 : decode cX11_termAt 19 = .ok (.invokespecial 344, 3) := by decide +kernel
theorem dX11_termAt_22 : decode cX11_termAt 22 = .ok (.athrow, 1) := by decide +kernel
theorem dX11_termAt_23 : decode cX11_termAt 23 = .ok (.aload_n 0, 1) := by decide +kernel
theorem dX11_termAt_24 : decode cX11_termAt 24 = .ok (.getfield 66, 3) := by decide +kernel
theorem dX11_termAt_27 : decode cX11_termAt 27 = .ok (.iload_n 1, 1) := by decide +kernel
theorem dX11_termAt_28 : decode cX11_termAt 28 = .ok (.iaload, 1) := by decide +kernel
theorem dX11_termAt_29 : decode cX11_termAt 29 = .ok (.ireturn, 1) := by decide +kernel
theorem dX11_functionAt_0 : decode cX11_functionAt 0 = .ok (.aload_n 0, 1) := by decide +kernel
theorem dX11_functionAt_1 : decode cX11_functionAt 1 = .ok (.getfield 37, 3) := by decide +kernel
theorem dX11_functionAt_4 : decode cX11_functionAt 4 = .ok (.iload_n 1, 1) := by decide +kernel
theorem dX11_functionAt_5 : decode cX11_functionAt 5 = .ok (.invokevirtual 345, 3) := by decide +kernel
theorem dX11_functionAt_8 : decode cX11_functionAt 8 = .ok (.astore_n 2, 1) := by decide +kernel
theorem dX11_functionAt_9 : decode cX11_functionAt 9 = .ok (.aload_n 2, 1) := by decide +kernel
theorem dX11_functionAt_10 : decode cX11_functionAt 10 = .ok (.ifnonnull 14, 3) := by decide +kernel
theorem dX11_functionAt_13 : decode cX11_functionAt 13 = .ok (.new 91, 3) := by decide +kernel
theorem dX11_functionAt_16 : decode cX11_functionAt 16 = .ok (.dup, 1) := by decide +kernel
theorem dX11_functionAt_17 : decode cX11_functionAt 17 = .ok (.ldc_w 347, 3) := by decide +kernel
theorem dX11_functionAt_20 : decode cX11_functionAt 20 = .ok (.invokespecial 95, 3) := by decide +kernel
theorem dX11_functionAt_23 : decode cX11_functionAt 23 = .ok (.athrow, 1) := by decide +kernel
theorem dX11_functionAt_24 : decode cX11_functionAt 24 = .ok (.aload_n 2, 1) := by decide +kernel
theorem dX11_functionAt_25 : decode cX11_functionAt 25 = .ok (.areturn, 1) := by decide +kernel
theorem dX11_goalAt_0 : decode cX11_goalAt 0 = .ok (.aload_n 0, 1) := by decide +kernel
theorem dX11_goalAt_1 : decode cX11_goalAt 1 = .ok (.getfield 37, 3) := by decide +kernel
theorem dX11_goalAt_4 : decode cX11_goalAt 4 = .ok (.iload_n 1, 1) := by decide +kernel
theorem dX11_goalAt_5 : decode cX11_goalAt 5 = .ok (.invokevirtual 283, 3) := by decide +kernel
theorem dX11_goalAt_8 : decode cX11_goalAt 8 = .ok (.astore_n 2, 1) := by decide +kernel
theorem dX11_goalAt_9 : decode cX11_goalAt 9 = .ok (.aload_n 2, 1) := by decide +kernel
theorem dX11_goalAt_10 : decode cX11_goalAt 10 = .ok (.ifnonnull 14, 3) := by decide +kernel
theorem dX11_goalAt_13 : decode cX11_goalAt 13 = .ok (.new 91, 3) := by decide +kernel
theorem dX11_goalAt_16 : decode cX11_goalAt 16 = .ok (.dup, 1) := by decide +kernel
theorem dX11_goalAt_17 : decode cX11_goalAt 17 = .ok (.ldc_w 349, 3) := by decide +kernel
theorem dX11_goalAt_20 : decode cX11_goalAt 20 = .ok (.invokespecial 95, 3) := by decide +kernel
theorem dX11_goalAt_23 : decode cX11_goalAt 23 = .ok (.athrow, 1) := by decide +kernel
theorem dX11_goalAt_24 : decode cX11_goalAt 24 = .ok (.aload_n 2, 1) := by decide +kernel
theorem dX11_goalAt_25 : decode cX11_goalAt 25 = .ok (.areturn, 1) := by decide +kernel
theorem dX11_needPlace_0 : decode cX11_needPlace 0 = .ok (.iload_n 1, 1) := by decide +kernel
theorem dX11_needPlace_1 : decode cX11_needPlace 1 = .ok (.ifCond .lt 14, 3) := by decide +kernel
theorem dX11_needPlace_4 : decode cX11_needPlace 4 = .ok (.iload_n 1, 1) := by decide +kernel
theorem dX11_needPlace_5 : decode cX11_needPlace 5 = .ok (.aload_n 0, 1) := by decide +kernel
theorem dX11_needPlace_6 : decode cX11_needPlace 6 = .ok (.getfield 225, 3) := by decide +kernel
theorem dX11_needPlace_9 : decode cX11_needPlace 9 = .ok (.getfield 250, 3) := by decide +kernel
theorem dX11_needPlace_12 : decode cX11_needPlace 12 = .ok (.if_icmp .lt 14, 3) := by decide +kernel
theorem dX11_needPlace_15 : decode cX11_needPlace 15 = .ok (.new 340, 3) := by decide +kernel
theorem dX11_needPlace_18 : decode cX11_needPlace 18 = .ok (.dup, 1) := by decide +kernel
theorem dX11_needPlace_19 : decode cX11_needPlace 19 = .ok (.ldc_w 351, 3) := by decide +kernel
theorem dX11_needPlace_22 : decode cX11_needPlace 22 = .ok (.invokespecial 344, 3) := by decide +kernel
theorem dX11_needPlace_25 : decode cX11_needPlace 25 = .ok (.athrow, 1) := by decide +kernel
theorem dX11_needPlace_26 : decode cX11_needPlace 26 = .ok (.return_, 1) := by decide +kernel
theorem dX11_needOpen_0 : decode cX11_needOpen 0 = .ok (.aload_n 0, 1) := by decide +kernel
theorem dX11_needOpen_1 : decode cX11_needOpen 1 = .ok (.getfield 197, 3) := by decide +kernel
theorem dX11_needOpen_4 : decode cX11_needOpen 4 = .ok (.bipush 111, 2) := by decide +kernel
theorem dX11_needOpen_6 : decode cX11_needOpen 6 = .ok (.if_icmp .eq 14, 3) := by decide +kernel
theorem dX11_needOpen_9 : decode cX11_needOpen 9 = .ok (.new 109, 3) := by decide +kernel
theorem dX11_needOpen_12 : decode cX11_needOpen 12 = .ok (.dup, 1) := by decide +kernel
theorem dX11_needOpen_13 : decode cX11_needOpen 13 = .ok (.ldc_w 353, 3) := by decide +kernel
theorem dX11_needOpen_16 : decode cX11_needOpen 16 = .ok (.invokespecial 113, 3) := by decide +kernel
theorem dX11_needOpen_19 : decode cX11_needOpen 19 = .ok (.athrow, 1) := by decide +kernel
theorem dX11_needOpen_20 : decode cX11_needOpen 20 = .ok (.return_, 1) := by decide +kernel
theorem dX11_numberOfScratch_0 : decode cX11_numberOfScratch 0 = .ok (.aload_n 0, 1) := by decide +kernel
theorem dX11_numberOfScratch_1 : decode cX11_numberOfScratch 1 = .ok (.getfield 10, 3) := by decide +kernel
theorem dX11_numberOfScratch_4 : decode cX11_numberOfScratch 4 = .ok (.iload_n 2, 1) := by decide +kernel
theorem dX11_numberOfScratch_5 : decode cX11_numberOfScratch 5 = .ok (.invokevirtual 142, 3) := by decide +kernel
theorem dX11_numberOfScratch_8 : decode cX11_numberOfScratch 8 = .ok (.istore_n 3, 1) := by decide +kernel
theorem dX11_numberOfScratch_9 : decode cX11_numberOfScratch 9 = .ok (.aload_n 0, 1) := by decide +kernel
theorem dX11_numberOfScratch_10 : decode cX11_numberOfScratch 10 = .ok (.getfield 10, 3) := by decide +kernel
theorem dX11_numberOfScratch_13 : decode cX11_numberOfScratch 13 = .ok (.iload_n 1, 1) := by decide +kernel
theorem dX11_numberOfScratch_14 : decode cX11_numberOfScratch 14 = .ok (.invokevirtual 169, 3) := by decide +kernel
theorem dX11_numberOfScratch_17 : decode cX11_numberOfScratch 17 = .ok (.iload_n 2, 1) := by decide +kernel
theorem dX11_numberOfScratch_18 : decode cX11_numberOfScratch 18 = .ok (.iconst (-1), 1) := by decide +kernel
theorem dX11_numberOfScratch_19 : decode cX11_numberOfScratch 19 = .ok (.if_icmp .ne 14, 3) := by decide +kernel
theorem dX11_numberOfScratch_22 : decode cX11_numberOfScratch 22 = .ok (.new 158, 3) := by decide +kernel
theorem dX11_numberOfScratch_25 : decode cX11_numberOfScratch 25 = .ok (.dup, 1) := by decide +kernel
theorem dX11_numberOfScratch_26 : decode cX11_numberOfScratch 26 = .ok (.ldc_w 355, 3) := by decide +kernel
theorem dX11_numberOfScratch_29 : decode cX11_numberOfScratch 29 = .ok (.invokespecial 162, 3) := by decide +kernel
theorem dX11_numberOfScratch_32 : decode cX11_numberOfScratch 32 = .ok (.athrow, 1) := by decide +kernel
theorem dX11_numberOfScratch_33 : decode cX11_numberOfScratch 33 = .ok (.iload_n 3, 1) := by decide +kernel
theorem dX11_numberOfScratch_34 : decode cX11_numberOfScratch 34 = .ok (.ireturn, 1) := by decide +kernel
theorem dL_universe_0 : decode cL_universe 0 = .ok (.aload_n 0, 1) := by decide +kernel
theorem dL_universe_1 : decode cL_universe 1 = .ok (.iload_n 1, 1) := by decide +kernel
theorem dL_universe_2 : decode cL_universe 2 = .ok (.invokevirtual 13, 3) := by decide +kernel
theorem dL_universe_5 : decode cL_universe 5 = .ok (.ireturn, 1) := by decide +kernel
theorem dL_universe_6 : decode cL_universe 6 = .ok (.astore_n 2, 1) := by decide +kernel
theorem dL_universe_7 : decode cL_universe 7 = .ok (.ldc 21, 2) := by decide +kernel
theorem dL_universe_9 : decode cL_universe 9 = .ok (.ireturn, 1) := by decide +kernel
theorem dL_universe_10 : decode cL_universe 10 = .ok (.astore_n 2, 1) := by decide +kernel
theorem dL_universe_11 : decode cL_universe 11 = .ok (.ldc 24, 2) := by decide +kernel
theorem dL_universe_13 : decode cL_universe 13 = .ok (.ireturn, 1) := by decide +kernel
theorem dL_variable_0 : decode cL_variable 0 = .ok (.aload_n 0, 1) := by decide +kernel
theorem dL_variable_1 : decode cL_variable 1 = .ok (.iload_n 1, 1) := by decide +kernel
theorem dL_variable_2 : decode cL_variable 2 = .ok (.invokevirtual 25, 3) := by decide +kernel
theorem dL_variable_5 : decode cL_variable 5 = .ok (.ireturn, 1) := by decide +kernel
theorem dL_variable_6 : decode cL_variable 6 = .ok (.astore_n 2, 1) := by decide +kernel
theorem dL_variable_7 : decode cL_variable 7 = .ok (.ldc 21, 2) := by decide +kernel
theorem dL_variable_9 : decode cL_variable 9 = .ok (.ireturn, 1) := by decide +kernel
theorem dL_variable_10 : decode cL_variable 10 = .ok (.astore_n 2, 1) := by decide +kernel
theorem dL_variable_11 : decode cL_variable 11 = .ok (.ldc 24, 2) := by decide +kernel
theorem dL_variable_13 : decode cL_variable 13 = .ok (.ireturn, 1) := by decide +kernel
theorem dL_functions_0 : decode cL_functions 0 = .ok (.aload_n 0, 1) := by decide +kernel
theorem dL_functions_1 : decode cL_functions 1 = .ok (.iload_n 1, 1) := by decide +kernel
theorem dL_functions_2 : decode cL_functions 2 = .ok (.iload_n 2, 1) := by decide +kernel
theorem dL_functions_3 : decode cL_functions 3 = .ok (.invokevirtual 28, 3) := by decide +kernel
theorem dL_functions_6 : decode cL_functions 6 = .ok (.ireturn, 1) := by decide +kernel
theorem dL_functions_7 : decode cL_functions 7 = .ok (.astore_n 3, 1) := by decide +kernel
theorem dL_functions_8 : decode cL_functions 8 = .ok (.ldc 34, 2) := by decide +kernel
theorem dL_functions_10 : decode cL_functions 10 = .ok (.ireturn, 1) := by decide +kernel
theorem dL_functions_11 : decode cL_functions 11 = .ok (.astore_n 3, 1) := by decide +kernel
theorem dL_functions_12 : decode cL_functions 12 = .ok (.ldc 24, 2) := by decide +kernel
theorem dL_functions_14 : decode cL_functions 14 = .ok (.ireturn, 1) := by decide +kernel
theorem dL_lambda_0 : decode cL_lambda 0 = .ok (.aload_n 0, 1) := by decide +kernel
theorem dL_lambda_1 : decode cL_lambda 1 = .ok (.iload_n 1, 1) := by decide +kernel
theorem dL_lambda_2 : decode cL_lambda 2 = .ok (.iload_n 2, 1) := by decide +kernel
theorem dL_lambda_3 : decode cL_lambda 3 = .ok (.invokevirtual 35, 3) := by decide +kernel
theorem dL_lambda_6 : decode cL_lambda 6 = .ok (.ireturn, 1) := by decide +kernel
theorem dL_lambda_7 : decode cL_lambda 7 = .ok (.astore_n 3, 1) := by decide +kernel
theorem dL_lambda_8 : decode cL_lambda 8 = .ok (.ldc 34, 2) := by decide +kernel
theorem dL_lambda_10 : decode cL_lambda 10 = .ok (.ireturn, 1) := by decide +kernel
theorem dL_lambda_11 : decode cL_lambda 11 = .ok (.astore_n 3, 1) := by decide +kernel
theorem dL_lambda_12 : decode cL_lambda 12 = .ok (.ldc 24, 2) := by decide +kernel
theorem dL_lambda_14 : decode cL_lambda 14 = .ok (.ireturn, 1) := by decide +kernel
theorem dL_apply_0 : decode cL_apply 0 = .ok (.aload_n 0, 1) := by decide +kernel
theorem dL_apply_1 : decode cL_apply 1 = .ok (.iload_n 1, 1) := by decide +kernel
theorem dL_apply_2 : decode cL_apply 2 = .ok (.iload_n 2, 1) := by decide +kernel
theorem dL_apply_3 : decode cL_apply 3 = .ok (.invokevirtual 38, 3) := by decide +kernel
theorem dL_apply_6 : decode cL_apply 6 = .ok (.ireturn, 1) := by decide +kernel
theorem dL_apply_7 : decode cL_apply 7 = .ok (.astore_n 3, 1) := by decide +kernel
theorem dL_apply_8 : decode cL_apply 8 = .ok (.ldc 34, 2) := by decide +kernel
theorem dL_apply_10 : decode cL_apply 10 = .ok (.ireturn, 1) := by decide +kernel
theorem dL_apply_11 : decode cL_apply 11 = .ok (.astore_n 3, 1) := by decide +kernel
theorem dL_apply_12 : decode cL_apply 12 = .ok (.ldc 24, 2) := by decide +kernel
theorem dL_apply_14 : decode cL_apply 14 = .ok (.ireturn, 1) := by decide +kernel
theorem dL_dataNode_0 : decode cL_dataNode 0 = .ok (.aload_n 0, 1) := by decide +kernel
theorem dL_dataNode_1 : decode cL_dataNode 1 = .ok (.iload_n 1, 1) := by decide +kernel
theorem dL_dataNode_2 : decode cL_dataNode 2 = .ok (.invokevirtual 41, 3) := by decide +kernel
theorem dL_dataNode_5 : decode cL_dataNode 5 = .ok (.ireturn, 1) := by decide +kernel
theorem dL_dataNode_6 : decode cL_dataNode 6 = .ok (.astore_n 2, 1) := by decide +kernel
theorem dL_dataNode_7 : decode cL_dataNode 7 = .ok (.ldc 46, 2) := by decide +kernel
theorem dL_dataNode_9 : decode cL_dataNode 9 = .ok (.ireturn, 1) := by decide +kernel
theorem dL_dataNode_10 : decode cL_dataNode 10 = .ok (.astore_n 2, 1) := by decide +kernel
theorem dL_dataNode_11 : decode cL_dataNode 11 = .ok (.ldc 24, 2) := by decide +kernel
theorem dL_dataNode_13 : decode cL_dataNode 13 = .ok (.ireturn, 1) := by decide +kernel
theorem dL_constructorNode_0 : decode cL_constructorNode 0 = .ok (.aload_n 0, 1) := by decide +kernel
theorem dL_constructorNode_1 : decode cL_constructorNode 1 = .ok (.iload_n 1, 1) := by decide +kernel
theorem dL_constructorNode_2 : decode cL_constructorNode 2 = .ok (.invokevirtual 47, 3) := by decide +kernel
theorem dL_constructorNode_5 : decode cL_constructorNode 5 = .ok (.ireturn, 1) := by decide +kernel
theorem dL_constructorNode_6 : decode cL_constructorNode 6 = .ok (.astore_n 2, 1) := by decide +kernel
theorem dL_constructorNode_7 : decode cL_constructorNode 7 = .ok (.ldc 46, 2) := by decide +kernel
theorem dL_constructorNode_9 : decode cL_constructorNode 9 = .ok (.ireturn, 1) := by decide +kernel
theorem dL_constructorNode_10 : decode cL_constructorNode 10 = .ok (.astore_n 2, 1) := by decide +kernel
theorem dL_constructorNode_11 : decode cL_constructorNode 11 = .ok (.ldc 24, 2) := by decide +kernel
theorem dL_constructorNode_13 : decode cL_constructorNode 13 = .ok (.ireturn, 1) := by decide +kernel
theorem dL_functionNode_0 : decode cL_functionNode 0 = .ok (.aload_n 0, 1) := by decide +kernel
theorem dL_functionNode_1 : decode cL_functionNode 1 = .ok (.iload_n 1, 1) := by decide +kernel
theorem dL_functionNode_2 : decode cL_functionNode 2 = .ok (.invokevirtual 50, 3) := by decide +kernel
theorem dL_functionNode_5 : decode cL_functionNode 5 = .ok (.ireturn, 1) := by decide +kernel
theorem dL_functionNode_6 : decode cL_functionNode 6 = .ok (.astore_n 2, 1) := by decide +kernel
theorem dL_functionNode_7 : decode cL_functionNode 7 = .ok (.ldc 46, 2) := by decide +kernel
theorem dL_functionNode_9 : decode cL_functionNode 9 = .ok (.ireturn, 1) := by decide +kernel
theorem dL_functionNode_10 : decode cL_functionNode 10 = .ok (.astore_n 2, 1) := by decide +kernel
theorem dL_functionNode_11 : decode cL_functionNode 11 = .ok (.ldc 24, 2) := by decide +kernel
theorem dL_functionNode_13 : decode cL_functionNode 13 = .ok (.ireturn, 1) := by decide +kernel
theorem dL_addData_0 : decode cL_addData 0 = .ok (.aload_n 0, 1) := by decide +kernel
theorem dL_addData_1 : decode cL_addData 1 = .ok (.invokevirtual 53, 3) := by decide +kernel
theorem dL_addData_4 : decode cL_addData 4 = .ok (.ireturn, 1) := by decide +kernel
theorem dL_addData_5 : decode cL_addData 5 = .ok (.astore_n 1, 1) := by decide +kernel
theorem dL_addData_6 : decode cL_addData 6 = .ok (.ldc 24, 2) := by decide +kernel
theorem dL_addData_8 : decode cL_addData 8 = .ok (.ireturn, 1) := by decide +kernel
theorem dL_addConstructor_0 : decode cL_addConstructor 0 = .ok (.aload_n 0, 1) := by decide +kernel
theorem dL_addConstructor_1 : decode cL_addConstructor 1 = .ok (.iload_n 1, 1) := by decide +kernel
theorem dL_addConstructor_2 : decode cL_addConstructor 2 = .ok (.iload_n 2, 1) := by decide +kernel
theorem dL_addConstructor_3 : decode cL_addConstructor 3 = .ok (.iload_n 3, 1) := by decide +kernel
theorem dL_addConstructor_4 : decode cL_addConstructor 4 = .ok (.iload 4, 2) := by decide +kernel
theorem dL_addConstructor_6 : decode cL_addConstructor 6 = .ok (.iload 5, 2) := by decide +kernel
theorem dL_addConstructor_8 : decode cL_addConstructor 8 = .ok (.invokevirtual 57, 3) := by decide +kernel
theorem dL_addConstructor_11 : decode cL_addConstructor 11 = .ok (.ireturn, 1) := by decide +kernel
theorem dL_addConstructor_12 : decode cL_addConstructor 12 = .ok (.astore 6, 2) := by decide +kernel
theorem dL_addConstructor_14 : decode cL_addConstructor 14 = .ok (.ldc 46, 2) := by decide +kernel
theorem dL_addConstructor_16 : decode cL_addConstructor 16 = .ok (.ireturn, 1) := by decide +kernel
theorem dL_addConstructor_17 : decode cL_addConstructor 17 = .ok (.astore 6, 2) := by decide +kernel
theorem dL_addConstructor_19 : decode cL_addConstructor 19 = .ok (.ldc 21, 2) := by decide +kernel
theorem dL_addConstructor_21 : decode cL_addConstructor 21 = .ok (.ireturn, 1) := by decide +kernel
theorem dL_addConstructor_22 : decode cL_addConstructor 22 = .ok (.astore 6, 2) := by decide +kernel
theorem dL_addConstructor_24 : decode cL_addConstructor 24 = .ok (.ldc 24, 2) := by decide +kernel
theorem dL_addConstructor_26 : decode cL_addConstructor 26 = .ok (.ireturn, 1) := by decide +kernel
theorem dL_size_0 : decode cL_size 0 = .ok (.aload_n 0, 1) := by decide +kernel
theorem dL_size_1 : decode cL_size 1 = .ok (.iload_n 1, 1) := by decide +kernel
theorem dL_size_2 : decode cL_size 2 = .ok (.invokevirtual 61, 3) := by decide +kernel
theorem dL_size_5 : decode cL_size 5 = .ok (.ireturn, 1) := by decide +kernel
theorem dL_size_6 : decode cL_size 6 = .ok (.astore_n 2, 1) := by decide +kernel
theorem dL_size_7 : decode cL_size 7 = .ok (.ldc 34, 2) := by decide +kernel
theorem dL_size_9 : decode cL_size 9 = .ok (.ireturn, 1) := by decide +kernel
theorem dL_normal_0 : decode cL_normal 0 = .ok (.aload_n 0, 1) := by decide +kernel
theorem dL_normal_1 : decode cL_normal 1 = .ok (.iload_n 1, 1) := by decide +kernel
theorem dL_normal_2 : decode cL_normal 2 = .ok (.invokevirtual 67, 3) := by decide +kernel
theorem dL_normal_5 : decode cL_normal 5 = .ok (.ireturn, 1) := by decide +kernel
theorem dL_normal_6 : decode cL_normal 6 = .ok (.astore_n 2, 1) := by decide +kernel
theorem dL_normal_7 : decode cL_normal 7 = .ok (.ldc 34, 2) := by decide +kernel
theorem dL_normal_9 : decode cL_normal 9 = .ok (.ireturn, 1) := by decide +kernel
theorem dL_normal_10 : decode cL_normal 10 = .ok (.astore_n 2, 1) := by decide +kernel
theorem dL_normal_11 : decode cL_normal 11 = .ok (.ldc 72, 2) := by decide +kernel
theorem dL_normal_13 : decode cL_normal 13 = .ok (.ireturn, 1) := by decide +kernel
theorem dL_typeOf_0 : decode cL_typeOf 0 = .ok (.aload_n 0, 1) := by decide +kernel
theorem dL_typeOf_1 : decode cL_typeOf 1 = .ok (.iload_n 1, 1) := by decide +kernel
theorem dL_typeOf_2 : decode cL_typeOf 2 = .ok (.invokevirtual 73, 3) := by decide +kernel
theorem dL_typeOf_5 : decode cL_typeOf 5 = .ok (.ireturn, 1) := by decide +kernel
theorem dL_typeOf_6 : decode cL_typeOf 6 = .ok (.astore_n 2, 1) := by decide +kernel
theorem dL_typeOf_7 : decode cL_typeOf 7 = .ok (.ldc 34, 2) := by decide +kernel
theorem dL_typeOf_9 : decode cL_typeOf 9 = .ok (.ireturn, 1) := by decide +kernel
theorem dL_typeOf_10 : decode cL_typeOf 10 = .ok (.astore_n 2, 1) := by decide +kernel
theorem dL_typeOf_11 : decode cL_typeOf 11 = .ok (.ldc 72, 2) := by decide +kernel
theorem dL_typeOf_13 : decode cL_typeOf 13 = .ok (.ireturn, 1) := by decide +kernel
theorem dL_level_0 : decode cL_level 0 = .ok (.aload_n 0, 1) := by decide +kernel
theorem dL_level_1 : decode cL_level 1 = .ok (.iload_n 1, 1) := by decide +kernel
theorem dL_level_2 : decode cL_level 2 = .ok (.invokevirtual 76, 3) := by decide +kernel
theorem dL_level_5 : decode cL_level 5 = .ok (.ireturn, 1) := by decide +kernel
theorem dL_level_6 : decode cL_level 6 = .ok (.astore_n 2, 1) := by decide +kernel
theorem dL_level_7 : decode cL_level 7 = .ok (.ldc 34, 2) := by decide +kernel
theorem dL_level_9 : decode cL_level 9 = .ok (.ireturn, 1) := by decide +kernel
theorem dL_level_10 : decode cL_level 10 = .ok (.astore_n 2, 1) := by decide +kernel
theorem dL_level_11 : decode cL_level 11 = .ok (.ldc 72, 2) := by decide +kernel
theorem dL_level_13 : decode cL_level 13 = .ok (.ireturn, 1) := by decide +kernel
theorem dL_declare_0 : decode cL_declare 0 = .ok (.aload_n 0, 1) := by decide +kernel
theorem dL_declare_1 : decode cL_declare 1 = .ok (.iload_n 1, 1) := by decide +kernel
theorem dL_declare_2 : decode cL_declare 2 = .ok (.invokevirtual 79, 3) := by decide +kernel
theorem dL_declare_5 : decode cL_declare 5 = .ok (.ireturn, 1) := by decide +kernel
theorem dL_declare_6 : decode cL_declare 6 = .ok (.astore_n 2, 1) := by decide +kernel
theorem dL_declare_7 : decode cL_declare 7 = .ok (.ldc 34, 2) := by decide +kernel
theorem dL_declare_9 : decode cL_declare 9 = .ok (.ireturn, 1) := by decide +kernel
theorem dL_declare_10 : decode cL_declare 10 = .ok (.astore_n 2, 1) := by decide +kernel
theorem dL_declare_11 : decode cL_declare 11 = .ok (.ldc 72, 2) := by decide +kernel
theorem dL_declare_13 : decode cL_declare 13 = .ok (.ireturn, 1) := by decide +kernel
theorem dL_declare_14 : decode cL_declare 14 = .ok (.astore_n 2, 1) := by decide +kernel
theorem dL_declare_15 : decode cL_declare 15 = .ok (.ldc 24, 2) := by decide +kernel
theorem dL_declare_17 : decode cL_declare 17 = .ok (.ireturn, 1) := by decide +kernel
theorem dL_split_0 : decode cL_split 0 = .ok (.aload_n 0, 1) := by decide +kernel
theorem dL_split_1 : decode cL_split 1 = .ok (.iload_n 1, 1) := by decide +kernel
theorem dL_split_2 : decode cL_split 2 = .ok (.iload_n 2, 1) := by decide +kernel
theorem dL_split_3 : decode cL_split 3 = .ok (.invokevirtual 82, 3) := by decide +kernel
theorem dL_split_6 : decode cL_split 6 = .ok (.ireturn, 1) := by decide +kernel
theorem dL_split_7 : decode cL_split 7 = .ok (.astore_n 3, 1) := by decide +kernel
theorem dL_split_8 : decode cL_split 8 = .ok (.ldc 46, 2) := by decide +kernel
theorem dL_split_10 : decode cL_split 10 = .ok (.ireturn, 1) := by decide +kernel
theorem dL_split_11 : decode cL_split 11 = .ok (.astore_n 3, 1) := by decide +kernel
theorem dL_split_12 : decode cL_split 12 = .ok (.ldc 34, 2) := by decide +kernel
theorem dL_split_14 : decode cL_split 14 = .ok (.ireturn, 1) := by decide +kernel
theorem dL_split_15 : decode cL_split 15 = .ok (.astore_n 3, 1) := by decide +kernel
theorem dL_split_16 : decode cL_split 16 = .ok (.ldc 24, 2) := by decide +kernel
theorem dL_split_18 : decode cL_split 18 = .ok (.ireturn, 1) := by decide +kernel
theorem dL_split_19 : decode cL_split 19 = .ok (.astore_n 3, 1) := by decide +kernel
theorem dL_split_20 : decode cL_split 20 = .ok (.ldc 72, 2) := by decide +kernel
theorem dL_split_22 : decode cL_split 22 = .ok (.ireturn, 1) := by decide +kernel
theorem dL_fill_0 : decode cL_fill 0 = .ok (.aload_n 0, 1) := by decide +kernel
theorem dL_fill_1 : decode cL_fill 1 = .ok (.iload_n 1, 1) := by decide +kernel
theorem dL_fill_2 : decode cL_fill 2 = .ok (.iload_n 2, 1) := by decide +kernel
theorem dL_fill_3 : decode cL_fill 3 = .ok (.invokevirtual 85, 3) := by decide +kernel
theorem dL_fill_6 : decode cL_fill 6 = .ok (.ireturn, 1) := by decide +kernel
theorem dL_fill_7 : decode cL_fill 7 = .ok (.astore_n 3, 1) := by decide +kernel
theorem dL_fill_8 : decode cL_fill 8 = .ok (.ldc 46, 2) := by decide +kernel
theorem dL_fill_10 : decode cL_fill 10 = .ok (.ireturn, 1) := by decide +kernel
theorem dL_fill_11 : decode cL_fill 11 = .ok (.astore_n 3, 1) := by decide +kernel
theorem dL_fill_12 : decode cL_fill 12 = .ok (.ldc 34, 2) := by decide +kernel
theorem dL_fill_14 : decode cL_fill 14 = .ok (.ireturn, 1) := by decide +kernel
theorem dL_fill_15 : decode cL_fill 15 = .ok (.astore_n 3, 1) := by decide +kernel
theorem dL_fill_16 : decode cL_fill 16 = .ok (.ldc 24, 2) := by decide +kernel
theorem dL_fill_18 : decode cL_fill 18 = .ok (.ireturn, 1) := by decide +kernel
theorem dL_fill_19 : decode cL_fill 19 = .ok (.astore_n 3, 1) := by decide +kernel
theorem dL_fill_20 : decode cL_fill 20 = .ok (.ldc 72, 2) := by decide +kernel
theorem dL_fill_22 : decode cL_fill 22 = .ok (.ireturn, 1) := by decide +kernel
theorem dL_auto_0 : decode cL_auto 0 = .ok (.aload_n 0, 1) := by decide +kernel
theorem dL_auto_1 : decode cL_auto 1 = .ok (.iload_n 1, 1) := by decide +kernel
theorem dL_auto_2 : decode cL_auto 2 = .ok (.invokevirtual 88, 3) := by decide +kernel
theorem dL_auto_5 : decode cL_auto 5 = .ok (.ireturn, 1) := by decide +kernel
theorem dL_auto_6 : decode cL_auto 6 = .ok (.astore_n 2, 1) := by decide +kernel
theorem dL_auto_7 : decode cL_auto 7 = .ok (.ldc 46, 2) := by decide +kernel
theorem dL_auto_9 : decode cL_auto 9 = .ok (.ireturn, 1) := by decide +kernel
theorem dL_auto_10 : decode cL_auto 10 = .ok (.astore_n 2, 1) := by decide +kernel
theorem dL_auto_11 : decode cL_auto 11 = .ok (.ldc 24, 2) := by decide +kernel
theorem dL_auto_13 : decode cL_auto 13 = .ok (.ireturn, 1) := by decide +kernel
theorem dL_auto_14 : decode cL_auto 14 = .ok (.astore_n 2, 1) := by decide +kernel
theorem dL_auto_15 : decode cL_auto 15 = .ok (.ldc 72, 2) := by decide +kernel
theorem dL_auto_17 : decode cL_auto 17 = .ok (.ireturn, 1) := by decide +kernel
theorem dL_reopen_0 : decode cL_reopen 0 = .ok (.aload_n 0, 1) := by decide +kernel
theorem dL_reopen_1 : decode cL_reopen 1 = .ok (.iload_n 1, 1) := by decide +kernel
theorem dL_reopen_2 : decode cL_reopen 2 = .ok (.invokevirtual 91, 3) := by decide +kernel
theorem dL_reopen_5 : decode cL_reopen 5 = .ok (.ireturn, 1) := by decide +kernel
theorem dL_reopen_6 : decode cL_reopen 6 = .ok (.astore_n 2, 1) := by decide +kernel
theorem dL_reopen_7 : decode cL_reopen 7 = .ok (.ldc 46, 2) := by decide +kernel
theorem dL_reopen_9 : decode cL_reopen 9 = .ok (.ireturn, 1) := by decide +kernel
theorem dL_reopen_10 : decode cL_reopen 10 = .ok (.astore_n 2, 1) := by decide +kernel
theorem dL_reopen_11 : decode cL_reopen 11 = .ok (.ldc 24, 2) := by decide +kernel
theorem dL_reopen_13 : decode cL_reopen 13 = .ok (.ireturn, 1) := by decide +kernel
theorem dL_goalState_0 : decode cL_goalState 0 = .ok (.aload_n 0, 1) := by decide +kernel
theorem dL_goalState_1 : decode cL_goalState 1 = .ok (.iload_n 1, 1) := by decide +kernel
theorem dL_goalState_2 : decode cL_goalState 2 = .ok (.invokevirtual 94, 3) := by decide +kernel
theorem dL_goalState_5 : decode cL_goalState 5 = .ok (.ireturn, 1) := by decide +kernel
theorem dL_goalState_6 : decode cL_goalState 6 = .ok (.astore_n 2, 1) := by decide +kernel
theorem dL_goalState_7 : decode cL_goalState 7 = .ok (.ldc 46, 2) := by decide +kernel
theorem dL_goalState_9 : decode cL_goalState 9 = .ok (.ireturn, 1) := by decide +kernel
theorem dL_contextSize_0 : decode cL_contextSize 0 = .ok (.aload_n 0, 1) := by decide +kernel
theorem dL_contextSize_1 : decode cL_contextSize 1 = .ok (.iload_n 1, 1) := by decide +kernel
theorem dL_contextSize_2 : decode cL_contextSize 2 = .ok (.invokevirtual 98, 3) := by decide +kernel
theorem dL_contextSize_5 : decode cL_contextSize 5 = .ok (.ireturn, 1) := by decide +kernel
theorem dL_contextSize_6 : decode cL_contextSize 6 = .ok (.astore_n 2, 1) := by decide +kernel
theorem dL_contextSize_7 : decode cL_contextSize 7 = .ok (.ldc 46, 2) := by decide +kernel
theorem dL_contextSize_9 : decode cL_contextSize 9 = .ok (.ireturn, 1) := by decide +kernel
theorem dL_contextType_0 : decode cL_contextType 0 = .ok (.aload_n 0, 1) := by decide +kernel
theorem dL_contextType_1 : decode cL_contextType 1 = .ok (.iload_n 1, 1) := by decide +kernel
theorem dL_contextType_2 : decode cL_contextType 2 = .ok (.iload_n 2, 1) := by decide +kernel
theorem dL_contextType_3 : decode cL_contextType 3 = .ok (.invokevirtual 101, 3) := by decide +kernel
theorem dL_contextType_6 : decode cL_contextType 6 = .ok (.ireturn, 1) := by decide +kernel
theorem dL_contextType_7 : decode cL_contextType 7 = .ok (.astore_n 3, 1) := by decide +kernel
theorem dL_contextType_8 : decode cL_contextType 8 = .ok (.ldc 46, 2) := by decide +kernel
theorem dL_contextType_10 : decode cL_contextType 10 = .ok (.ireturn, 1) := by decide +kernel
theorem dL_contextType_11 : decode cL_contextType 11 = .ok (.astore_n 3, 1) := by decide +kernel
theorem dL_contextType_12 : decode cL_contextType 12 = .ok (.ldc 34, 2) := by decide +kernel
theorem dL_contextType_14 : decode cL_contextType 14 = .ok (.ireturn, 1) := by decide +kernel
theorem dL_openGoals_0 : decode cL_openGoals 0 = .ok (.aload_n 0, 1) := by decide +kernel
theorem dL_openGoals_1 : decode cL_openGoals 1 = .ok (.iload_n 1, 1) := by decide +kernel
theorem dL_openGoals_2 : decode cL_openGoals 2 = .ok (.invokevirtual 107, 3) := by decide +kernel
theorem dL_openGoals_5 : decode cL_openGoals 5 = .ok (.ireturn, 1) := by decide +kernel
theorem dL_openGoals_6 : decode cL_openGoals 6 = .ok (.astore_n 2, 1) := by decide +kernel
theorem dL_openGoals_7 : decode cL_openGoals 7 = .ok (.ldc 46, 2) := by decide +kernel
theorem dL_openGoals_9 : decode cL_openGoals 9 = .ok (.ireturn, 1) := by decide +kernel
theorem dL_accept_0 : decode cL_accept 0 = .ok (.aload_n 0, 1) := by decide +kernel
theorem dL_accept_1 : decode cL_accept 1 = .ok (.iload_n 1, 1) := by decide +kernel
theorem dL_accept_2 : decode cL_accept 2 = .ok (.invokevirtual 110, 3) := by decide +kernel
theorem dL_accept_5 : decode cL_accept 5 = .ok (.ireturn, 1) := by decide +kernel
theorem dL_accept_6 : decode cL_accept 6 = .ok (.astore_n 2, 1) := by decide +kernel
theorem dL_accept_7 : decode cL_accept 7 = .ok (.ldc 46, 2) := by decide +kernel
theorem dL_accept_9 : decode cL_accept 9 = .ok (.ireturn, 1) := by decide +kernel
theorem dL_accept_10 : decode cL_accept 10 = .ok (.astore_n 2, 1) := by decide +kernel
theorem dL_accept_11 : decode cL_accept 11 = .ok (.ldc 24, 2) := by decide +kernel
theorem dL_accept_13 : decode cL_accept 13 = .ok (.ireturn, 1) := by decide +kernel
theorem dL_accept_14 : decode cL_accept 14 = .ok (.astore_n 2, 1) := by decide +kernel
theorem dL_accept_15 : decode cL_accept 15 = .ok (.ldc 72, 2) := by decide +kernel
theorem dL_accept_17 : decode cL_accept 17 = .ok (.ireturn, 1) := by decide +kernel
theorem dL_run_0 : decode cL_run 0 = .ok (.aload_n 0, 1) := by decide +kernel
theorem dL_run_1 : decode cL_run 1 = .ok (.iload_n 1, 1) := by decide +kernel
theorem dL_run_2 : decode cL_run 2 = .ok (.invokevirtual 113, 3) := by decide +kernel
theorem dL_run_5 : decode cL_run 5 = .ok (.ireturn, 1) := by decide +kernel
theorem dL_run_6 : decode cL_run 6 = .ok (.astore_n 2, 1) := by decide +kernel
theorem dL_run_7 : decode cL_run 7 = .ok (.ldc 34, 2) := by decide +kernel
theorem dL_run_9 : decode cL_run 9 = .ok (.ireturn, 1) := by decide +kernel
theorem dL_run_10 : decode cL_run 10 = .ok (.astore_n 2, 1) := by decide +kernel
theorem dL_run_11 : decode cL_run 11 = .ok (.ldc 72, 2) := by decide +kernel
theorem dL_run_13 : decode cL_run 13 = .ok (.ireturn, 1) := by decide +kernel
theorem dL_runByClauses_0 : decode cL_runByClauses 0 = .ok (.aload_n 0, 1) := by decide +kernel
theorem dL_runByClauses_1 : decode cL_runByClauses 1 = .ok (.iload_n 1, 1) := by decide +kernel
theorem dL_runByClauses_2 : decode cL_runByClauses 2 = .ok (.invokevirtual 116, 3) := by decide +kernel
theorem dL_runByClauses_5 : decode cL_runByClauses 5 = .ok (.ireturn, 1) := by decide +kernel
theorem dL_runByClauses_6 : decode cL_runByClauses 6 = .ok (.astore_n 2, 1) := by decide +kernel
theorem dL_runByClauses_7 : decode cL_runByClauses 7 = .ok (.ldc 34, 2) := by decide +kernel
theorem dL_runByClauses_9 : decode cL_runByClauses 9 = .ok (.ireturn, 1) := by decide +kernel
theorem dL_runByClauses_10 : decode cL_runByClauses 10 = .ok (.astore_n 2, 1) := by decide +kernel
theorem dL_runByClauses_11 : decode cL_runByClauses 11 = .ok (.ldc 72, 2) := by decide +kernel
theorem dL_runByClauses_13 : decode cL_runByClauses 13 = .ok (.ireturn, 1) := by decide +kernel
theorem dL_steps_0 : decode cL_steps 0 = .ok (.aload_n 0, 1) := by decide +kernel
theorem dL_steps_1 : decode cL_steps 1 = .ok (.iload_n 1, 1) := by decide +kernel
theorem dL_steps_2 : decode cL_steps 2 = .ok (.invokevirtual 119, 3) := by decide +kernel
theorem dL_steps_5 : decode cL_steps 5 = .ok (.ireturn, 1) := by decide +kernel
theorem dL_steps_6 : decode cL_steps 6 = .ok (.astore_n 2, 1) := by decide +kernel
theorem dL_steps_7 : decode cL_steps 7 = .ok (.ldc 34, 2) := by decide +kernel
theorem dL_steps_9 : decode cL_steps 9 = .ok (.ireturn, 1) := by decide +kernel
theorem dL_steps_10 : decode cL_steps 10 = .ok (.astore_n 2, 1) := by decide +kernel
theorem dL_steps_11 : decode cL_steps 11 = .ok (.ldc 72, 2) := by decide +kernel
theorem dL_steps_13 : decode cL_steps 13 = .ok (.ireturn, 1) := by decide +kernel
theorem dL_valueSize_0 : decode cL_valueSize 0 = .ok (.aload_n 0, 1) := by decide +kernel
theorem dL_valueSize_1 : decode cL_valueSize 1 = .ok (.iload_n 1, 1) := by decide +kernel
theorem dL_valueSize_2 : decode cL_valueSize 2 = .ok (.invokevirtual 122, 3) := by decide +kernel
theorem dL_valueSize_5 : decode cL_valueSize 5 = .ok (.ireturn, 1) := by decide +kernel
theorem dL_valueSize_6 : decode cL_valueSize 6 = .ok (.astore_n 2, 1) := by decide +kernel
theorem dL_valueSize_7 : decode cL_valueSize 7 = .ok (.ldc 34, 2) := by decide +kernel
theorem dL_valueSize_9 : decode cL_valueSize 9 = .ok (.ireturn, 1) := by decide +kernel
theorem dL_valueSize_10 : decode cL_valueSize 10 = .ok (.astore_n 2, 1) := by decide +kernel
theorem dL_valueSize_11 : decode cL_valueSize 11 = .ok (.ldc 72, 2) := by decide +kernel
theorem dL_valueSize_13 : decode cL_valueSize 13 = .ok (.ireturn, 1) := by decide +kernel
theorem wm1 : (Jvm.Cond.initialized "TelescopeCourt") ∈ W0 := wm_of 1 (by decide +kernel) (by decide +kernel)
theorem wm1021 : (Jvm.Cond.codeWith ({ cls := "TelescopeCourtLaw", name := "fill", desc := "(LTelescopeCourt;II)I" } : Jvm.MethodName) method_21_code (4 : Nat) (Option.some Jvm.ClassFile.FieldType.int) [((0 : Nat), (6 : Nat), (7 : Nat), (44 : Nat)), ((0 : Nat), (6 : Nat), (11 : Nat), (32 : Nat)), ((0 : Nat), (6 : Nat), (15 : Nat), (22 : Nat)), ((0 : Nat), (6 : Nat), (19 : Nat), (70 : Nat))]) ∈ W0 := wm_of 1021 (by decide +kernel) (by decide +kernel)
theorem wm1022 : (Jvm.Cond.methodLink "TelescopeCourtLaw" (85 : Nat) ({ cls := "TelescopeCourt", name := "fill", desc := "(II)I" } : Jvm.MethodName)) ∈ W0 := wm_of 1022 (by decide +kernel) (by decide +kernel)
theorem wm1023 : (Jvm.Cond.instanceMethod ({ cls := "TelescopeCourt", name := "fill", desc := "(II)I" } : Jvm.MethodName)) ∈ W0 := wm_of 1023 (by decide +kernel) (by decide +kernel)
theorem wm1024 : (Jvm.Cond.selects "TelescopeCourt" ({ cls := "TelescopeCourt", name := "fill", desc := "(II)I" } : Jvm.MethodName) ({ cls := "TelescopeCourt", name := "fill", desc := "(II)I" } : Jvm.MethodName)) ∈ W0 := wm_of 1024 (by decide +kernel) (by decide +kernel)
theorem wm1025 : (Jvm.Cond.code ({ cls := "TelescopeCourt", name := "fill", desc := "(II)I" } : Jvm.MethodName) prog_1_method_20_code (6 : Nat) (Option.some Jvm.ClassFile.FieldType.int)) ∈ W0 := wm_of 1025 (by decide +kernel) (by decide +kernel)
theorem wm1026 : (Jvm.Cond.methodLink "TelescopeCourt" (215 : Nat) ({ cls := "TelescopeCourt", name := "needOpen", desc := "(LTelescopeCourt$Goal;)V" } : Jvm.MethodName)) ∈ W0 := wm_of 1026 (by decide +kernel) (by decide +kernel)
theorem wm1027 : (Jvm.Cond.static ({ cls := "TelescopeCourt", name := "needOpen", desc := "(LTelescopeCourt$Goal;)V" } : Jvm.MethodName)) ∈ W0 := wm_of 1027 (by decide +kernel) (by decide +kernel)
theorem wm1028 : (Jvm.Cond.code ({ cls := "TelescopeCourt", name := "needOpen", desc := "(LTelescopeCourt$Goal;)V" } : Jvm.MethodName) prog_1_method_44_code (1 : Nat) (Option.none : Option Jvm.ClassFile.FieldType)) ∈ W0 := wm_of 1028 (by decide +kernel) (by decide +kernel)
theorem wm1030 : (Jvm.Cond.methodLink "TelescopeCourt" (222 : Nat) ({ cls := "TelescopeCourt$Terms", name := "callsOf", desc := "(I)I" } : Jvm.MethodName)) ∈ W0 := wm_of 1030 (by decide +kernel) (by decide +kernel)
theorem wm1035 : (Jvm.Cond.methodLink "TelescopeCourt" (238 : Nat) ({ cls := "TelescopeCourt$Goal", name := "fillWith", desc := "(I)V" } : Jvm.MethodName)) ∈ W0 := wm_of 1035 (by decide +kernel) (by decide +kernel)
theorem wm1036 : (Jvm.Cond.instanceMethod ({ cls := "TelescopeCourt$Goal", name := "fillWith", desc := "(I)V" } : Jvm.MethodName)) ∈ W0 := wm_of 1036 (by decide +kernel) (by decide +kernel)
theorem wm1037 : (Jvm.Cond.selects "TelescopeCourt$Goal" ({ cls := "TelescopeCourt$Goal", name := "fillWith", desc := "(I)V" } : Jvm.MethodName) ({ cls := "TelescopeCourt$Goal", name := "fillWith", desc := "(I)V" } : Jvm.MethodName)) ∈ W0 := wm_of 1037 (by decide +kernel) (by decide +kernel)
theorem wm1038 : (Jvm.Cond.code ({ cls := "TelescopeCourt$Goal", name := "fillWith", desc := "(I)V" } : Jvm.MethodName) prog_5_method_2_code (2 : Nat) (Option.none : Option Jvm.ClassFile.FieldType)) ∈ W0 := wm_of 1038 (by decide +kernel) (by decide +kernel)
theorem wm1039 : (Jvm.Cond.methodLink "TelescopeCourt" (241 : Nat) ({ cls := "TelescopeCourt$Docket", name := "openOnesOf", desc := "(I)I" } : Jvm.MethodName)) ∈ W0 := wm_of 1039 (by decide +kernel) (by decide +kernel)
theorem wm1042 : (Jvm.Cond.codeWith ({ cls := "TelescopeCourtLaw", name := "auto", desc := "(LTelescopeCourt;I)I" } : Jvm.MethodName) method_22_code (3 : Nat) (Option.some Jvm.ClassFile.FieldType.int) [((0 : Nat), (5 : Nat), (6 : Nat), (44 : Nat)), ((0 : Nat), (5 : Nat), (10 : Nat), (22 : Nat)), ((0 : Nat), (5 : Nat), (14 : Nat), (70 : Nat))]) ∈ W0 := wm_of 1042 (by decide +kernel) (by decide +kernel)
theorem wm1043 : (Jvm.Cond.methodLink "TelescopeCourtLaw" (88 : Nat) ({ cls := "TelescopeCourt", name := "auto", desc := "(I)I" } : Jvm.MethodName)) ∈ W0 := wm_of 1043 (by decide +kernel) (by decide +kernel)
theorem wm1044 : (Jvm.Cond.instanceMethod ({ cls := "TelescopeCourt", name := "auto", desc := "(I)I" } : Jvm.MethodName)) ∈ W0 := wm_of 1044 (by decide +kernel) (by decide +kernel)
theorem wm1045 : (Jvm.Cond.selects "TelescopeCourt" ({ cls := "TelescopeCourt", name := "auto", desc := "(I)I" } : Jvm.MethodName) ({ cls := "TelescopeCourt", name := "auto", desc := "(I)I" } : Jvm.MethodName)) ∈ W0 := wm_of 1045 (by decide +kernel) (by decide +kernel)
theorem wm1046 : (Jvm.Cond.code ({ cls := "TelescopeCourt", name := "auto", desc := "(I)I" } : Jvm.MethodName) prog_1_method_21_code (4 : Nat) (Option.some Jvm.ClassFile.FieldType.int)) ∈ W0 := wm_of 1046 (by decide +kernel) (by decide +kernel)
theorem wm1047 : (Jvm.Cond.methodLink "TelescopeCourt" (244 : Nat) ({ cls := "TelescopeCourt$Docket", name := "innermostThatFits", desc := "(LTelescopeCourt$Goal;)I" } : Jvm.MethodName)) ∈ W0 := wm_of 1047 (by decide +kernel) (by decide +kernel)
theorem wm1048 : (Jvm.Cond.instanceMethod ({ cls := "TelescopeCourt$Docket", name := "innermostThatFits", desc := "(LTelescopeCourt$Goal;)I" } : Jvm.MethodName)) ∈ W0 := wm_of 1048 (by decide +kernel) (by decide +kernel)
theorem wm1049 : (Jvm.Cond.selects "TelescopeCourt$Docket" ({ cls := "TelescopeCourt$Docket", name := "innermostThatFits", desc := "(LTelescopeCourt$Goal;)I" } : Jvm.MethodName) ({ cls := "TelescopeCourt$Docket", name := "innermostThatFits", desc := "(LTelescopeCourt$Goal;)I" } : Jvm.MethodName)) ∈ W0 := wm_of 1049 (by decide +kernel) (by decide +kernel)
theorem wm1050 : (Jvm.Cond.code ({ cls := "TelescopeCourt$Docket", name := "innermostThatFits", desc := "(LTelescopeCourt$Goal;)I" } : Jvm.MethodName) prog_2_method_13_code (6 : Nat) (Option.some Jvm.ClassFile.FieldType.int)) ∈ W0 := wm_of 1050 (by decide +kernel) (by decide +kernel)
theorem wm1055 : (Jvm.Cond.codeWith ({ cls := "TelescopeCourtLaw", name := "reopen", desc := "(LTelescopeCourt;I)I" } : Jvm.MethodName) method_23_code (3 : Nat) (Option.some Jvm.ClassFile.FieldType.int) [((0 : Nat), (5 : Nat), (6 : Nat), (44 : Nat)), ((0 : Nat), (5 : Nat), (10 : Nat), (22 : Nat))]) ∈ W0 := wm_of 1055 (by decide +kernel) (by decide +kernel)
theorem wm1056 : (Jvm.Cond.methodLink "TelescopeCourtLaw" (91 : Nat) ({ cls := "TelescopeCourt", name := "reopen", desc := "(I)I" } : Jvm.MethodName)) ∈ W0 := wm_of 1056 (by decide +kernel) (by decide +kernel)
theorem wm1057 : (Jvm.Cond.instanceMethod ({ cls := "TelescopeCourt", name := "reopen", desc := "(I)I" } : Jvm.MethodName)) ∈ W0 := wm_of 1057 (by decide +kernel) (by decide +kernel)
theorem wm1058 : (Jvm.Cond.selects "TelescopeCourt" ({ cls := "TelescopeCourt", name := "reopen", desc := "(I)I" } : Jvm.MethodName) ({ cls := "TelescopeCourt", name := "reopen", desc := "(I)I" } : Jvm.MethodName)) ∈ W0 := wm_of 1058 (by decide +kernel) (by decide +kernel)
theorem wm1059 : (Jvm.Cond.code ({ cls := "TelescopeCourt", name := "reopen", desc := "(I)I" } : Jvm.MethodName) prog_1_method_22_code (4 : Nat) (Option.some Jvm.ClassFile.FieldType.int)) ∈ W0 := wm_of 1059 (by decide +kernel) (by decide +kernel)
theorem wm1061 : (Jvm.Cond.methodLink "TelescopeCourt" (266 : Nat) ({ cls := "TelescopeCourt$Goal", name := "open", desc := "()V" } : Jvm.MethodName)) ∈ W0 := wm_of 1061 (by decide +kernel) (by decide +kernel)
theorem wm1062 : (Jvm.Cond.instanceMethod ({ cls := "TelescopeCourt$Goal", name := "open", desc := "()V" } : Jvm.MethodName)) ∈ W0 := wm_of 1062 (by decide +kernel) (by decide +kernel)
theorem wm1063 : (Jvm.Cond.selects "TelescopeCourt$Goal" ({ cls := "TelescopeCourt$Goal", name := "open", desc := "()V" } : Jvm.MethodName) ({ cls := "TelescopeCourt$Goal", name := "open", desc := "()V" } : Jvm.MethodName)) ∈ W0 := wm_of 1063 (by decide +kernel) (by decide +kernel)
theorem wm1064 : (Jvm.Cond.code ({ cls := "TelescopeCourt$Goal", name := "open", desc := "()V" } : Jvm.MethodName) prog_5_method_3_code (1 : Nat) (Option.none : Option Jvm.ClassFile.FieldType)) ∈ W0 := wm_of 1064 (by decide +kernel) (by decide +kernel)
theorem wm1067 : (Jvm.Cond.codeWith ({ cls := "TelescopeCourtLaw", name := "goalState", desc := "(LTelescopeCourt;I)I" } : Jvm.MethodName) method_24_code (3 : Nat) (Option.some Jvm.ClassFile.FieldType.int) [((0 : Nat), (5 : Nat), (6 : Nat), (44 : Nat))]) ∈ W0 := wm_of 1067 (by decide +kernel) (by decide +kernel)
theorem wm1068 : (Jvm.Cond.methodLink "TelescopeCourtLaw" (94 : Nat) ({ cls := "TelescopeCourt", name := "goalState", desc := "(I)C" } : Jvm.MethodName)) ∈ W0 := wm_of 1068 (by decide +kernel) (by decide +kernel)
theorem wm1069 : (Jvm.Cond.instanceMethod ({ cls := "TelescopeCourt", name := "goalState", desc := "(I)C" } : Jvm.MethodName)) ∈ W0 := wm_of 1069 (by decide +kernel) (by decide +kernel)
theorem wm1070 : (Jvm.Cond.selects "TelescopeCourt" ({ cls := "TelescopeCourt", name := "goalState", desc := "(I)C" } : Jvm.MethodName) ({ cls := "TelescopeCourt", name := "goalState", desc := "(I)C" } : Jvm.MethodName)) ∈ W0 := wm_of 1070 (by decide +kernel) (by decide +kernel)
theorem wm1071 : (Jvm.Cond.code ({ cls := "TelescopeCourt", name := "goalState", desc := "(I)C" } : Jvm.MethodName) prog_1_method_23_code (2 : Nat) (Option.some Jvm.ClassFile.FieldType.char)) ∈ W0 := wm_of 1071 (by decide +kernel) (by decide +kernel)
theorem wm1074 : (Jvm.Cond.codeWith ({ cls := "TelescopeCourtLaw", name := "contextSize", desc := "(LTelescopeCourt;I)I" } : Jvm.MethodName) method_25_code (3 : Nat) (Option.some Jvm.ClassFile.FieldType.int) [((0 : Nat), (5 : Nat), (6 : Nat), (44 : Nat))]) ∈ W0 := wm_of 1074 (by decide +kernel) (by decide +kernel)
theorem wm1075 : (Jvm.Cond.methodLink "TelescopeCourtLaw" (98 : Nat) ({ cls := "TelescopeCourt", name := "contextSize", desc := "(I)I" } : Jvm.MethodName)) ∈ W0 := wm_of 1075 (by decide +kernel) (by decide +kernel)
theorem wm1076 : (Jvm.Cond.instanceMethod ({ cls := "TelescopeCourt", name := "contextSize", desc := "(I)I" } : Jvm.MethodName)) ∈ W0 := wm_of 1076 (by decide +kernel) (by decide +kernel)
theorem wm1077 : (Jvm.Cond.selects "TelescopeCourt" ({ cls := "TelescopeCourt", name := "contextSize", desc := "(I)I" } : Jvm.MethodName) ({ cls := "TelescopeCourt", name := "contextSize", desc := "(I)I" } : Jvm.MethodName)) ∈ W0 := wm_of 1077 (by decide +kernel) (by decide +kernel)
theorem wm1078 : (Jvm.Cond.code ({ cls := "TelescopeCourt", name := "contextSize", desc := "(I)I" } : Jvm.MethodName) prog_1_method_24_code (2 : Nat) (Option.some Jvm.ClassFile.FieldType.int)) ∈ W0 := wm_of 1078 (by decide +kernel) (by decide +kernel)
theorem wm1081 : (Jvm.Cond.codeWith ({ cls := "TelescopeCourtLaw", name := "contextType", desc := "(LTelescopeCourt;II)I" } : Jvm.MethodName) method_26_code (4 : Nat) (Option.some Jvm.ClassFile.FieldType.int) [((0 : Nat), (6 : Nat), (7 : Nat), (44 : Nat)), ((0 : Nat), (6 : Nat), (11 : Nat), (32 : Nat))]) ∈ W0 := wm_of 1081 (by decide +kernel) (by decide +kernel)
theorem wm1082 : (Jvm.Cond.methodLink "TelescopeCourtLaw" (101 : Nat) ({ cls := "TelescopeCourt", name := "contextType", desc := "(II)I" } : Jvm.MethodName)) ∈ W0 := wm_of 1082 (by decide +kernel) (by decide +kernel)
theorem wm1083 : (Jvm.Cond.instanceMethod ({ cls := "TelescopeCourt", name := "contextType", desc := "(II)I" } : Jvm.MethodName)) ∈ W0 := wm_of 1083 (by decide +kernel) (by decide +kernel)
theorem wm1084 : (Jvm.Cond.selects "TelescopeCourt" ({ cls := "TelescopeCourt", name := "contextType", desc := "(II)I" } : Jvm.MethodName) ({ cls := "TelescopeCourt", name := "contextType", desc := "(II)I" } : Jvm.MethodName)) ∈ W0 := wm_of 1084 (by decide +kernel) (by decide +kernel)
theorem wm1085 : (Jvm.Cond.code ({ cls := "TelescopeCourt", name := "contextType", desc := "(II)I" } : Jvm.MethodName) prog_1_method_25_code (4 : Nat) (Option.some Jvm.ClassFile.FieldType.int)) ∈ W0 := wm_of 1085 (by decide +kernel) (by decide +kernel)
theorem wm1086 : (Jvm.Cond.methodLink "TelescopeCourt" (269 : Nat) ({ cls := "TelescopeCourt$Telescope", name := "typeAt", desc := "(I)I" } : Jvm.MethodName)) ∈ W0 := wm_of 1086 (by decide +kernel) (by decide +kernel)
theorem wm1089 : (Jvm.Cond.codeWith ({ cls := "TelescopeCourtLaw", name := "openGoals", desc := "(LTelescopeCourt;I)I" } : Jvm.MethodName) method_28_code (3 : Nat) (Option.some Jvm.ClassFile.FieldType.int) [((0 : Nat), (5 : Nat), (6 : Nat), (44 : Nat))]) ∈ W0 := wm_of 1089 (by decide +kernel) (by decide +kernel)
theorem wm1090 : (Jvm.Cond.methodLink "TelescopeCourtLaw" (107 : Nat) ({ cls := "TelescopeCourt", name := "openGoals", desc := "(I)I" } : Jvm.MethodName)) ∈ W0 := wm_of 1090 (by decide +kernel) (by decide +kernel)
theorem wm1091 : (Jvm.Cond.instanceMethod ({ cls := "TelescopeCourt", name := "openGoals", desc := "(I)I" } : Jvm.MethodName)) ∈ W0 := wm_of 1091 (by decide +kernel) (by decide +kernel)
theorem wm1092 : (Jvm.Cond.selects "TelescopeCourt" ({ cls := "TelescopeCourt", name := "openGoals", desc := "(I)I" } : Jvm.MethodName) ({ cls := "TelescopeCourt", name := "openGoals", desc := "(I)I" } : Jvm.MethodName)) ∈ W0 := wm_of 1092 (by decide +kernel) (by decide +kernel)
theorem wm1093 : (Jvm.Cond.code ({ cls := "TelescopeCourt", name := "openGoals", desc := "(I)I" } : Jvm.MethodName) prog_1_method_27_code (2 : Nat) (Option.some Jvm.ClassFile.FieldType.int)) ∈ W0 := wm_of 1093 (by decide +kernel) (by decide +kernel)
theorem wm1096 : (Jvm.Cond.codeWith ({ cls := "TelescopeCourtLaw", name := "accept", desc := "(LTelescopeCourt;I)I" } : Jvm.MethodName) method_29_code (3 : Nat) (Option.some Jvm.ClassFile.FieldType.int) [((0 : Nat), (5 : Nat), (6 : Nat), (44 : Nat)), ((0 : Nat), (5 : Nat), (10 : Nat), (22 : Nat)), ((0 : Nat), (5 : Nat), (14 : Nat), (70 : Nat))]) ∈ W0 := wm_of 1096 (by decide +kernel) (by decide +kernel)
theorem wm1097 : (Jvm.Cond.methodLink "TelescopeCourtLaw" (110 : Nat) ({ cls := "TelescopeCourt", name := "accept", desc := "(I)I" } : Jvm.MethodName)) ∈ W0 := wm_of 1097 (by decide +kernel) (by decide +kernel)
theorem wm1098 : (Jvm.Cond.instanceMethod ({ cls := "TelescopeCourt", name := "accept", desc := "(I)I" } : Jvm.MethodName)) ∈ W0 := wm_of 1098 (by decide +kernel) (by decide +kernel)
theorem wm1099 : (Jvm.Cond.selects "TelescopeCourt" ({ cls := "TelescopeCourt", name := "accept", desc := "(I)I" } : Jvm.MethodName) ({ cls := "TelescopeCourt", name := "accept", desc := "(I)I" } : Jvm.MethodName)) ∈ W0 := wm_of 1099 (by decide +kernel) (by decide +kernel)
theorem wm1100 : (Jvm.Cond.code ({ cls := "TelescopeCourt", name := "accept", desc := "(I)I" } : Jvm.MethodName) prog_1_method_28_code (4 : Nat) (Option.some Jvm.ClassFile.FieldType.int)) ∈ W0 := wm_of 1100 (by decide +kernel) (by decide +kernel)
theorem wm1102 : (Jvm.Cond.methodLink "TelescopeCourt" (279 : Nat) ({ cls := "TelescopeCourt$Graphs", name := "begin", desc := "(II)V" } : Jvm.MethodName)) ∈ W0 := wm_of 1102 (by decide +kernel) (by decide +kernel)
theorem wm1103 : (Jvm.Cond.instanceMethod ({ cls := "TelescopeCourt$Graphs", name := "begin", desc := "(II)V" } : Jvm.MethodName)) ∈ W0 := wm_of 1103 (by decide +kernel) (by decide +kernel)
theorem wm1104 : (Jvm.Cond.selects "TelescopeCourt$Graphs" ({ cls := "TelescopeCourt$Graphs", name := "begin", desc := "(II)V" } : Jvm.MethodName) ({ cls := "TelescopeCourt$Graphs", name := "begin", desc := "(II)V" } : Jvm.MethodName)) ∈ W0 := wm_of 1104 (by decide +kernel) (by decide +kernel)
theorem wm1105 : (Jvm.Cond.code ({ cls := "TelescopeCourt$Graphs", name := "begin", desc := "(II)V" } : Jvm.MethodName) prog_6_method_2_code (3 : Nat) (Option.none : Option Jvm.ClassFile.FieldType)) ∈ W0 := wm_of 1105 (by decide +kernel) (by decide +kernel)
theorem wm1106 : (Jvm.Cond.methodLink "TelescopeCourt" (286 : Nat) ({ cls := "TelescopeCourt$Graphs", name := "takeCallsOf", desc := "(LTelescopeCourt$Goal;)V" } : Jvm.MethodName)) ∈ W0 := wm_of 1106 (by decide +kernel) (by decide +kernel)
theorem wm1107 : (Jvm.Cond.instanceMethod ({ cls := "TelescopeCourt$Graphs", name := "takeCallsOf", desc := "(LTelescopeCourt$Goal;)V" } : Jvm.MethodName)) ∈ W0 := wm_of 1107 (by decide +kernel) (by decide +kernel)
theorem wm1108 : (Jvm.Cond.selects "TelescopeCourt$Graphs" ({ cls := "TelescopeCourt$Graphs", name := "takeCallsOf", desc := "(LTelescopeCourt$Goal;)V" } : Jvm.MethodName) ({ cls := "TelescopeCourt$Graphs", name := "takeCallsOf", desc := "(LTelescopeCourt$Goal;)V" } : Jvm.MethodName)) ∈ W0 := wm_of 1108 (by decide +kernel) (by decide +kernel)
theorem wm1109 : (Jvm.Cond.code ({ cls := "TelescopeCourt$Graphs", name := "takeCallsOf", desc := "(LTelescopeCourt$Goal;)V" } : Jvm.MethodName) prog_6_method_3_code (2 : Nat) (Option.none : Option Jvm.ClassFile.FieldType)) ∈ W0 := wm_of 1109 (by decide +kernel) (by decide +kernel)
theorem wm1138 : (Jvm.Cond.methodLink "TelescopeCourt" (289 : Nat) ({ cls := "TelescopeCourt$Graphs", name := "comeToAnEnd", desc := "()Z" } : Jvm.MethodName)) ∈ W0 := wm_of 1138 (by decide +kernel) (by decide +kernel)
theorem wm1139 : (Jvm.Cond.instanceMethod ({ cls := "TelescopeCourt$Graphs", name := "comeToAnEnd", desc := "()Z" } : Jvm.MethodName)) ∈ W0 := wm_of 1139 (by decide +kernel) (by decide +kernel)
theorem wm1140 : (Jvm.Cond.selects "TelescopeCourt$Graphs" ({ cls := "TelescopeCourt$Graphs", name := "comeToAnEnd", desc := "()Z" } : Jvm.MethodName) ({ cls := "TelescopeCourt$Graphs", name := "comeToAnEnd", desc := "()Z" } : Jvm.MethodName)) ∈ W0 := wm_of 1140 (by decide +kernel) (by decide +kernel)
theorem wm1141 : (Jvm.Cond.code ({ cls := "TelescopeCourt$Graphs", name := "comeToAnEnd", desc := "()Z" } : Jvm.MethodName) prog_6_method_8_code (4 : Nat) (Option.some Jvm.ClassFile.FieldType.boolean)) ∈ W0 := wm_of 1141 (by decide +kernel) (by decide +kernel)
theorem wm1153 : (Jvm.Cond.codeWith ({ cls := "TelescopeCourtLaw", name := "run", desc := "(LTelescopeCourt;I)I" } : Jvm.MethodName) method_30_code (3 : Nat) (Option.some Jvm.ClassFile.FieldType.int) [((0 : Nat), (5 : Nat), (6 : Nat), (32 : Nat)), ((0 : Nat), (5 : Nat), (10 : Nat), (70 : Nat))]) ∈ W0 := wm_of 1153 (by decide +kernel) (by decide +kernel)
theorem wm1154 : (Jvm.Cond.methodLink "TelescopeCourtLaw" (113 : Nat) ({ cls := "TelescopeCourt", name := "run", desc := "(I)I" } : Jvm.MethodName)) ∈ W0 := wm_of 1154 (by decide +kernel) (by decide +kernel)
theorem wm1155 : (Jvm.Cond.instanceMethod ({ cls := "TelescopeCourt", name := "run", desc := "(I)I" } : Jvm.MethodName)) ∈ W0 := wm_of 1155 (by decide +kernel) (by decide +kernel)
theorem wm1156 : (Jvm.Cond.selects "TelescopeCourt" ({ cls := "TelescopeCourt", name := "run", desc := "(I)I" } : Jvm.MethodName) ({ cls := "TelescopeCourt", name := "run", desc := "(I)I" } : Jvm.MethodName)) ∈ W0 := wm_of 1156 (by decide +kernel) (by decide +kernel)
theorem wm1157 : (Jvm.Cond.code ({ cls := "TelescopeCourt", name := "run", desc := "(I)I" } : Jvm.MethodName) prog_1_method_30_code (6 : Nat) (Option.some Jvm.ClassFile.FieldType.int)) ∈ W0 := wm_of 1157 (by decide +kernel) (by decide +kernel)
theorem wm1158 : (Jvm.Cond.methodLink "TelescopeCourt" (296 : Nat) ({ cls := "TelescopeCourt$Typing", name := "isOfData", desc := "(I)Z" } : Jvm.MethodName)) ∈ W0 := wm_of 1158 (by decide +kernel) (by decide +kernel)
theorem wm1159 : (Jvm.Cond.instanceMethod ({ cls := "TelescopeCourt$Typing", name := "isOfData", desc := "(I)Z" } : Jvm.MethodName)) ∈ W0 := wm_of 1159 (by decide +kernel) (by decide +kernel)
theorem wm1160 : (Jvm.Cond.selects "TelescopeCourt$Typing" ({ cls := "TelescopeCourt$Typing", name := "isOfData", desc := "(I)Z" } : Jvm.MethodName) ({ cls := "TelescopeCourt$Typing", name := "isOfData", desc := "(I)Z" } : Jvm.MethodName)) ∈ W0 := wm_of 1160 (by decide +kernel) (by decide +kernel)
theorem wm1161 : (Jvm.Cond.code ({ cls := "TelescopeCourt$Typing", name := "isOfData", desc := "(I)Z" } : Jvm.MethodName) prog_12_method_3_code (4 : Nat) (Option.some Jvm.ClassFile.FieldType.boolean)) ∈ W0 := wm_of 1161 (by decide +kernel) (by decide +kernel)
theorem wm1162 : (Jvm.Cond.methodLink "TelescopeCourt" (299 : Nat) ({ cls := "TelescopeCourt$Machine", name := "valueOf", desc := "(IZ)I" } : Jvm.MethodName)) ∈ W0 := wm_of 1162 (by decide +kernel) (by decide +kernel)
theorem wm1163 : (Jvm.Cond.instanceMethod ({ cls := "TelescopeCourt$Machine", name := "valueOf", desc := "(IZ)I" } : Jvm.MethodName)) ∈ W0 := wm_of 1163 (by decide +kernel) (by decide +kernel)
theorem wm1164 : (Jvm.Cond.selects "TelescopeCourt$Machine" ({ cls := "TelescopeCourt$Machine", name := "valueOf", desc := "(IZ)I" } : Jvm.MethodName) ({ cls := "TelescopeCourt$Machine", name := "valueOf", desc := "(IZ)I" } : Jvm.MethodName)) ∈ W0 := wm_of 1164 (by decide +kernel) (by decide +kernel)
theorem wm1165 : (Jvm.Cond.code ({ cls := "TelescopeCourt$Machine", name := "valueOf", desc := "(IZ)I" } : Jvm.MethodName) prog_7_method_2_code (7 : Nat) (Option.some Jvm.ClassFile.FieldType.int)) ∈ W0 := wm_of 1165 (by decide +kernel) (by decide +kernel)
theorem wm1225 : (Jvm.Cond.codeWith ({ cls := "TelescopeCourtLaw", name := "runByClauses", desc := "(LTelescopeCourt;I)I" } : Jvm.MethodName) method_31_code (3 : Nat) (Option.some Jvm.ClassFile.FieldType.int) [((0 : Nat), (5 : Nat), (6 : Nat), (32 : Nat)), ((0 : Nat), (5 : Nat), (10 : Nat), (70 : Nat))]) ∈ W0 := wm_of 1225 (by decide +kernel) (by decide +kernel)
theorem wm1226 : (Jvm.Cond.methodLink "TelescopeCourtLaw" (116 : Nat) ({ cls := "TelescopeCourt", name := "runByClauses", desc := "(I)I" } : Jvm.MethodName)) ∈ W0 := wm_of 1226 (by decide +kernel) (by decide +kernel)
theorem wm1227 : (Jvm.Cond.instanceMethod ({ cls := "TelescopeCourt", name := "runByClauses", desc := "(I)I" } : Jvm.MethodName)) ∈ W0 := wm_of 1227 (by decide +kernel) (by decide +kernel)
theorem wm1228 : (Jvm.Cond.selects "TelescopeCourt" ({ cls := "TelescopeCourt", name := "runByClauses", desc := "(I)I" } : Jvm.MethodName) ({ cls := "TelescopeCourt", name := "runByClauses", desc := "(I)I" } : Jvm.MethodName)) ∈ W0 := wm_of 1228 (by decide +kernel) (by decide +kernel)
theorem wm1229 : (Jvm.Cond.code ({ cls := "TelescopeCourt", name := "runByClauses", desc := "(I)I" } : Jvm.MethodName) prog_1_method_31_code (5 : Nat) (Option.some Jvm.ClassFile.FieldType.int)) ∈ W0 := wm_of 1229 (by decide +kernel) (by decide +kernel)
theorem wm1232 : (Jvm.Cond.codeWith ({ cls := "TelescopeCourtLaw", name := "steps", desc := "(LTelescopeCourt;I)I" } : Jvm.MethodName) method_32_code (3 : Nat) (Option.some Jvm.ClassFile.FieldType.int) [((0 : Nat), (5 : Nat), (6 : Nat), (32 : Nat)), ((0 : Nat), (5 : Nat), (10 : Nat), (70 : Nat))]) ∈ W0 := wm_of 1232 (by decide +kernel) (by decide +kernel)
theorem wm1233 : (Jvm.Cond.methodLink "TelescopeCourtLaw" (119 : Nat) ({ cls := "TelescopeCourt", name := "steps", desc := "(I)I" } : Jvm.MethodName)) ∈ W0 := wm_of 1233 (by decide +kernel) (by decide +kernel)
theorem wm1234 : (Jvm.Cond.instanceMethod ({ cls := "TelescopeCourt", name := "steps", desc := "(I)I" } : Jvm.MethodName)) ∈ W0 := wm_of 1234 (by decide +kernel) (by decide +kernel)
theorem wm1235 : (Jvm.Cond.selects "TelescopeCourt" ({ cls := "TelescopeCourt", name := "steps", desc := "(I)I" } : Jvm.MethodName) ({ cls := "TelescopeCourt", name := "steps", desc := "(I)I" } : Jvm.MethodName)) ∈ W0 := wm_of 1235 (by decide +kernel) (by decide +kernel)
theorem wm1236 : (Jvm.Cond.code ({ cls := "TelescopeCourt", name := "steps", desc := "(I)I" } : Jvm.MethodName) prog_1_method_32_code (5 : Nat) (Option.some Jvm.ClassFile.FieldType.int)) ∈ W0 := wm_of 1236 (by decide +kernel) (by decide +kernel)
theorem wm1239 : (Jvm.Cond.codeWith ({ cls := "TelescopeCourtLaw", name := "valueSize", desc := "(LTelescopeCourt;I)I" } : Jvm.MethodName) method_33_code (3 : Nat) (Option.some Jvm.ClassFile.FieldType.int) [((0 : Nat), (5 : Nat), (6 : Nat), (32 : Nat)), ((0 : Nat), (5 : Nat), (10 : Nat), (70 : Nat))]) ∈ W0 := wm_of 1239 (by decide +kernel) (by decide +kernel)
theorem wm1240 : (Jvm.Cond.methodLink "TelescopeCourtLaw" (122 : Nat) ({ cls := "TelescopeCourt", name := "valueSize", desc := "(I)I" } : Jvm.MethodName)) ∈ W0 := wm_of 1240 (by decide +kernel) (by decide +kernel)
theorem wm1241 : (Jvm.Cond.instanceMethod ({ cls := "TelescopeCourt", name := "valueSize", desc := "(I)I" } : Jvm.MethodName)) ∈ W0 := wm_of 1241 (by decide +kernel) (by decide +kernel)
theorem wm1242 : (Jvm.Cond.selects "TelescopeCourt" ({ cls := "TelescopeCourt", name := "valueSize", desc := "(I)I" } : Jvm.MethodName) ({ cls := "TelescopeCourt", name := "valueSize", desc := "(I)I" } : Jvm.MethodName)) ∈ W0 := wm_of 1242 (by decide +kernel) (by decide +kernel)
theorem wm1243 : (Jvm.Cond.code ({ cls := "TelescopeCourt", name := "valueSize", desc := "(I)I" } : Jvm.MethodName) prog_1_method_33_code (6 : Nat) (Option.some Jvm.ClassFile.FieldType.int)) ∈ W0 := wm_of 1243 (by decide +kernel) (by decide +kernel)
theorem wm1253 : (Jvm.Cond.codeWith ({ cls := "TelescopeCourtLaw", name := "size", desc := "(LTelescopeCourt;I)I" } : Jvm.MethodName) method_14_code (3 : Nat) (Option.some Jvm.ClassFile.FieldType.int) [((0 : Nat), (5 : Nat), (6 : Nat), (32 : Nat))]) ∈ W0 := wm_of 1253 (by decide +kernel) (by decide +kernel)
theorem wm14 : (Jvm.Cond.initialized "java/lang/IllegalStateException") ∈ W0 := wm_of 14 (by decide +kernel) (by decide +kernel)
theorem wm15 : (Jvm.Cond.initialized "java/lang/IllegalArgumentException") ∈ W0 := wm_of 15 (by decide +kernel) (by decide +kernel)
theorem wm16 : (Jvm.Cond.initialized "java/util/NoSuchElementException") ∈ W0 := wm_of 16 (by decide +kernel) (by decide +kernel)
theorem wm17 : (Jvm.Cond.initialized "java/lang/IndexOutOfBoundsException") ∈ W0 := wm_of 17 (by decide +kernel) (by decide +kernel)
theorem wm21 : (Jvm.Cond.initialized "java/lang/UnsupportedOperationException") ∈ W0 := wm_of 21 (by decide +kernel) (by decide +kernel)
theorem wm292 : (Jvm.Cond.fieldLink "TelescopeCourt" (330 : Nat) "TelescopeCourt" "laid" "I") ∈ W0 := wm_of 292 (by decide +kernel) (by decide +kernel)
theorem wm293 : (Jvm.Cond.fieldLink "TelescopeCourt" (303 : Nat) "TelescopeCourt" "stepsOfRuns" "J") ∈ W0 := wm_of 293 (by decide +kernel) (by decide +kernel)
theorem wm315 : (Jvm.Cond.methodLink "TelescopeCourtLaw" (61 : Nat) ({ cls := "TelescopeCourt", name := "size", desc := "(I)I" } : Jvm.MethodName)) ∈ W0 := wm_of 315 (by decide +kernel) (by decide +kernel)
theorem wm316 : (Jvm.Cond.instanceMethod ({ cls := "TelescopeCourt", name := "size", desc := "(I)I" } : Jvm.MethodName)) ∈ W0 := wm_of 316 (by decide +kernel) (by decide +kernel)
theorem wm317 : (Jvm.Cond.selects "TelescopeCourt" ({ cls := "TelescopeCourt", name := "size", desc := "(I)I" } : Jvm.MethodName) ({ cls := "TelescopeCourt", name := "size", desc := "(I)I" } : Jvm.MethodName)) ∈ W0 := wm_of 317 (by decide +kernel) (by decide +kernel)
theorem wm318 : (Jvm.Cond.code ({ cls := "TelescopeCourt", name := "size", desc := "(I)I" } : Jvm.MethodName) prog_1_method_12_code (2 : Nat) (Option.some Jvm.ClassFile.FieldType.int)) ∈ W0 := wm_of 318 (by decide +kernel) (by decide +kernel)
theorem wm319 : (Jvm.Cond.methodLink "TelescopeCourt" (135 : Nat) ({ cls := "TelescopeCourt", name := "termAt", desc := "(I)I" } : Jvm.MethodName)) ∈ W0 := wm_of 319 (by decide +kernel) (by decide +kernel)
theorem wm321 : (Jvm.Cond.instanceMethod ({ cls := "TelescopeCourt", name := "termAt", desc := "(I)I" } : Jvm.MethodName)) ∈ W0 := wm_of 321 (by decide +kernel) (by decide +kernel)
theorem wm322 : (Jvm.Cond.code ({ cls := "TelescopeCourt", name := "termAt", desc := "(I)I" } : Jvm.MethodName) prog_1_method_40_code (2 : Nat) (Option.some Jvm.ClassFile.FieldType.int)) ∈ W0 := wm_of 322 (by decide +kernel) (by decide +kernel)
theorem wm323 : (Jvm.Cond.classLink "TelescopeCourt" (340 : Nat) "java/lang/IndexOutOfBoundsException") ∈ W0 := wm_of 323 (by decide +kernel) (by decide +kernel)
theorem wm394 : (Jvm.Cond.methodLink "TelescopeCourt" (139 : Nat) ({ cls := "TelescopeCourt$Terms", name := "sizeOf", desc := "(I)I" } : Jvm.MethodName)) ∈ W0 := wm_of 394 (by decide +kernel) (by decide +kernel)
theorem wm402 : (Jvm.Cond.methodLink "TelescopeCourt" (142 : Nat) ({ cls := "TelescopeCourt$Terms", name := "numberOf", desc := "(I)I" } : Jvm.MethodName)) ∈ W0 := wm_of 402 (by decide +kernel) (by decide +kernel)
theorem wm410 : (Jvm.Cond.methodLink "TelescopeCourt" (145 : Nat) ({ cls := "TelescopeCourt$Terms", name := "mark", desc := "()I" } : Jvm.MethodName)) ∈ W0 := wm_of 410 (by decide +kernel) (by decide +kernel)
theorem wm414 : (Jvm.Cond.methodLink "TelescopeCourt" (154 : Nat) ({ cls := "TelescopeCourt$Typing", name := "formOf", desc := "(I)I" } : Jvm.MethodName)) ∈ W0 := wm_of 414 (by decide +kernel) (by decide +kernel)
theorem wm415 : (Jvm.Cond.instanceMethod ({ cls := "TelescopeCourt$Typing", name := "formOf", desc := "(I)I" } : Jvm.MethodName)) ∈ W0 := wm_of 415 (by decide +kernel) (by decide +kernel)
theorem wm416 : (Jvm.Cond.selects "TelescopeCourt$Typing" ({ cls := "TelescopeCourt$Typing", name := "formOf", desc := "(I)I" } : Jvm.MethodName) ({ cls := "TelescopeCourt$Typing", name := "formOf", desc := "(I)I" } : Jvm.MethodName)) ∈ W0 := wm_of 416 (by decide +kernel) (by decide +kernel)
theorem wm417 : (Jvm.Cond.code ({ cls := "TelescopeCourt$Typing", name := "formOf", desc := "(I)I" } : Jvm.MethodName) prog_12_method_5_code (3 : Nat) (Option.some Jvm.ClassFile.FieldType.int)) ∈ W0 := wm_of 417 (by decide +kernel) (by decide +kernel)
theorem wm564 : (Jvm.Cond.methodLink "TelescopeCourt" (148 : Nat) ({ cls := "TelescopeCourt$Forms", name := "formOf", desc := "(I)I" } : Jvm.MethodName)) ∈ W0 := wm_of 564 (by decide +kernel) (by decide +kernel)
theorem wm566 : (Jvm.Cond.methodLink "TelescopeCourt" (169 : Nat) ({ cls := "TelescopeCourt$Terms", name := "release", desc := "(I)V" } : Jvm.MethodName)) ∈ W0 := wm_of 566 (by decide +kernel) (by decide +kernel)
theorem wm571 : (Jvm.Cond.methodLink "TelescopeCourt" (101 : Nat) ({ cls := "TelescopeCourt", name := "functionAt", desc := "(I)LTelescopeCourt$Function;" } : Jvm.MethodName)) ∈ W0 := wm_of 571 (by decide +kernel) (by decide +kernel)
theorem wm573 : (Jvm.Cond.instanceMethod ({ cls := "TelescopeCourt", name := "functionAt", desc := "(I)LTelescopeCourt$Function;" } : Jvm.MethodName)) ∈ W0 := wm_of 573 (by decide +kernel) (by decide +kernel)
theorem wm574 : (Jvm.Cond.code ({ cls := "TelescopeCourt", name := "functionAt", desc := "(I)LTelescopeCourt$Function;" } : Jvm.MethodName) prog_1_method_41_code (3 : Nat) (Option.some (Jvm.ClassFile.FieldType.object "TelescopeCourt$Function"))) ∈ W0 := wm_of 574 (by decide +kernel) (by decide +kernel)
theorem wm575 : (Jvm.Cond.methodLink "TelescopeCourt" (345 : Nat) ({ cls := "TelescopeCourt$Docket", name := "function", desc := "(I)LTelescopeCourt$Function;" } : Jvm.MethodName)) ∈ W0 := wm_of 575 (by decide +kernel) (by decide +kernel)
theorem wm576 : (Jvm.Cond.classLink "TelescopeCourt" (91 : Nat) "java/util/NoSuchElementException") ∈ W0 := wm_of 576 (by decide +kernel) (by decide +kernel)
theorem wm592 : (Jvm.Cond.methodLink "TelescopeCourt" (258 : Nat) ({ cls := "TelescopeCourt$Docket", name := "hasAccepted", desc := "(I)Z" } : Jvm.MethodName)) ∈ W0 := wm_of 592 (by decide +kernel) (by decide +kernel)
theorem wm604 : (Jvm.Cond.methodLink "TelescopeCourt" (283 : Nat) ({ cls := "TelescopeCourt$Docket", name := "goal", desc := "(I)LTelescopeCourt$Goal;" } : Jvm.MethodName)) ∈ W0 := wm_of 604 (by decide +kernel) (by decide +kernel)
theorem wm608 : (Jvm.Cond.methodLink "TelescopeCourt" (232 : Nat) ({ cls := "TelescopeCourt$Typing", name := "fits", desc := "(LTelescopeCourt$Telescope;II)Z" } : Jvm.MethodName)) ∈ W0 := wm_of 608 (by decide +kernel) (by decide +kernel)
theorem wm609 : (Jvm.Cond.instanceMethod ({ cls := "TelescopeCourt$Typing", name := "fits", desc := "(LTelescopeCourt$Telescope;II)Z" } : Jvm.MethodName)) ∈ W0 := wm_of 609 (by decide +kernel) (by decide +kernel)
theorem wm610 : (Jvm.Cond.selects "TelescopeCourt$Typing" ({ cls := "TelescopeCourt$Typing", name := "fits", desc := "(LTelescopeCourt$Telescope;II)Z" } : Jvm.MethodName) ({ cls := "TelescopeCourt$Typing", name := "fits", desc := "(LTelescopeCourt$Telescope;II)Z" } : Jvm.MethodName)) ∈ W0 := wm_of 610 (by decide +kernel) (by decide +kernel)
theorem wm611 : (Jvm.Cond.code ({ cls := "TelescopeCourt$Typing", name := "fits", desc := "(LTelescopeCourt$Telescope;II)Z" } : Jvm.MethodName) prog_12_method_4_code (6 : Nat) (Option.some Jvm.ClassFile.FieldType.boolean)) ∈ W0 := wm_of 611 (by decide +kernel) (by decide +kernel)
theorem wm612 : (Jvm.Cond.methodLink "TelescopeCourt" (324 : Nat) ({ cls := "TelescopeCourt$Docket", name := "anAcceptedOneIsOpen", desc := "()Z" } : Jvm.MethodName)) ∈ W0 := wm_of 612 (by decide +kernel) (by decide +kernel)
theorem wm613 : (Jvm.Cond.instanceMethod ({ cls := "TelescopeCourt$Docket", name := "anAcceptedOneIsOpen", desc := "()Z" } : Jvm.MethodName)) ∈ W0 := wm_of 613 (by decide +kernel) (by decide +kernel)
theorem wm614 : (Jvm.Cond.selects "TelescopeCourt$Docket" ({ cls := "TelescopeCourt$Docket", name := "anAcceptedOneIsOpen", desc := "()Z" } : Jvm.MethodName) ({ cls := "TelescopeCourt$Docket", name := "anAcceptedOneIsOpen", desc := "()Z" } : Jvm.MethodName)) ∈ W0 := wm_of 614 (by decide +kernel) (by decide +kernel)
theorem wm615 : (Jvm.Cond.code ({ cls := "TelescopeCourt$Docket", name := "anAcceptedOneIsOpen", desc := "()Z" } : Jvm.MethodName) prog_2_method_17_code (2 : Nat) (Option.some Jvm.ClassFile.FieldType.boolean)) ∈ W0 := wm_of 615 (by decide +kernel) (by decide +kernel)
theorem wm622 : (Jvm.Cond.methodLink "TelescopeCourt" (327 : Nat) ({ cls := "TelescopeCourt$Docket", name := "twoAreAlike", desc := "()Z" } : Jvm.MethodName)) ∈ W0 := wm_of 622 (by decide +kernel) (by decide +kernel)
theorem wm623 : (Jvm.Cond.instanceMethod ({ cls := "TelescopeCourt$Docket", name := "twoAreAlike", desc := "()Z" } : Jvm.MethodName)) ∈ W0 := wm_of 623 (by decide +kernel) (by decide +kernel)
theorem wm624 : (Jvm.Cond.selects "TelescopeCourt$Docket" ({ cls := "TelescopeCourt$Docket", name := "twoAreAlike", desc := "()Z" } : Jvm.MethodName) ({ cls := "TelescopeCourt$Docket", name := "twoAreAlike", desc := "()Z" } : Jvm.MethodName)) ∈ W0 := wm_of 624 (by decide +kernel) (by decide +kernel)
theorem wm625 : (Jvm.Cond.code ({ cls := "TelescopeCourt$Docket", name := "twoAreAlike", desc := "()Z" } : Jvm.MethodName) prog_2_method_18_code (3 : Nat) (Option.some Jvm.ClassFile.FieldType.boolean)) ∈ W0 := wm_of 625 (by decide +kernel) (by decide +kernel)
theorem wm642 : (Jvm.Cond.codeWith ({ cls := "TelescopeCourtLaw", name := "universe", desc := "(LTelescopeCourt;I)I" } : Jvm.MethodName) method_4_code (3 : Nat) (Option.some Jvm.ClassFile.FieldType.int) [((0 : Nat), (5 : Nat), (6 : Nat), (19 : Nat)), ((0 : Nat), (5 : Nat), (10 : Nat), (22 : Nat))]) ∈ W0 := wm_of 642 (by decide +kernel) (by decide +kernel)
theorem wm643 : (Jvm.Cond.classLink "TelescopeCourtLaw" (19 : Nat) "java/lang/IllegalArgumentException") ∈ W0 := wm_of 643 (by decide +kernel) (by decide +kernel)
theorem wm644 : (Jvm.Cond.classLink "TelescopeCourtLaw" (22 : Nat) "java/lang/IllegalStateException") ∈ W0 := wm_of 644 (by decide +kernel) (by decide +kernel)
theorem wm645 : (Jvm.Cond.methodLink "TelescopeCourtLaw" (13 : Nat) ({ cls := "TelescopeCourt", name := "universe", desc := "(I)I" } : Jvm.MethodName)) ∈ W0 := wm_of 645 (by decide +kernel) (by decide +kernel)
theorem wm646 : (Jvm.Cond.instanceMethod ({ cls := "TelescopeCourt", name := "universe", desc := "(I)I" } : Jvm.MethodName)) ∈ W0 := wm_of 646 (by decide +kernel) (by decide +kernel)
theorem wm647 : (Jvm.Cond.selects "TelescopeCourt" ({ cls := "TelescopeCourt", name := "universe", desc := "(I)I" } : Jvm.MethodName) ({ cls := "TelescopeCourt", name := "universe", desc := "(I)I" } : Jvm.MethodName)) ∈ W0 := wm_of 647 (by decide +kernel) (by decide +kernel)
theorem wm648 : (Jvm.Cond.code ({ cls := "TelescopeCourt", name := "universe", desc := "(I)I" } : Jvm.MethodName) prog_1_method_2_code (2 : Nat) (Option.some Jvm.ClassFile.FieldType.int)) ∈ W0 := wm_of 648 (by decide +kernel) (by decide +kernel)
theorem wm649 : (Jvm.Cond.classLink "TelescopeCourt" (70 : Nat) "java/lang/IllegalArgumentException") ∈ W0 := wm_of 649 (by decide +kernel) (by decide +kernel)
theorem wm665 : (Jvm.Cond.methodLink "TelescopeCourt" (77 : Nat) ({ cls := "TelescopeCourt", name := "layLeaf", desc := "(II)I" } : Jvm.MethodName)) ∈ W0 := wm_of 665 (by decide +kernel) (by decide +kernel)
theorem wm667 : (Jvm.Cond.instanceMethod ({ cls := "TelescopeCourt", name := "layLeaf", desc := "(II)I" } : Jvm.MethodName)) ∈ W0 := wm_of 667 (by decide +kernel) (by decide +kernel)
theorem wm668 : (Jvm.Cond.code ({ cls := "TelescopeCourt", name := "layLeaf", desc := "(II)I" } : Jvm.MethodName) prog_1_method_38_code (3 : Nat) (Option.some Jvm.ClassFile.FieldType.int)) ∈ W0 := wm_of 668 (by decide +kernel) (by decide +kernel)
theorem wm669 : (Jvm.Cond.classLink "TelescopeCourt" (109 : Nat) "java/lang/IllegalStateException") ∈ W0 := wm_of 669 (by decide +kernel) (by decide +kernel)
theorem wm685 : (Jvm.Cond.methodLink "TelescopeCourt" (255 : Nat) ({ cls := "TelescopeCourt$Terms", name := "leaf", desc := "(II)I" } : Jvm.MethodName)) ∈ W0 := wm_of 685 (by decide +kernel) (by decide +kernel)
theorem wm686 : (Jvm.Cond.constant "TelescopeCourtLaw" (21 : Nat) (-2000000 : Int32)) ∈ W0 := wm_of 686 (by decide +kernel) (by decide +kernel)
theorem wm687 : (Jvm.Cond.constant "TelescopeCourtLaw" (24 : Nat) (-1000000 : Int32)) ∈ W0 := wm_of 687 (by decide +kernel) (by decide +kernel)
theorem wm690 : (Jvm.Cond.codeWith ({ cls := "TelescopeCourtLaw", name := "variable", desc := "(LTelescopeCourt;I)I" } : Jvm.MethodName) method_5_code (3 : Nat) (Option.some Jvm.ClassFile.FieldType.int) [((0 : Nat), (5 : Nat), (6 : Nat), (19 : Nat)), ((0 : Nat), (5 : Nat), (10 : Nat), (22 : Nat))]) ∈ W0 := wm_of 690 (by decide +kernel) (by decide +kernel)
theorem wm691 : (Jvm.Cond.methodLink "TelescopeCourtLaw" (25 : Nat) ({ cls := "TelescopeCourt", name := "variable", desc := "(I)I" } : Jvm.MethodName)) ∈ W0 := wm_of 691 (by decide +kernel) (by decide +kernel)
theorem wm692 : (Jvm.Cond.instanceMethod ({ cls := "TelescopeCourt", name := "variable", desc := "(I)I" } : Jvm.MethodName)) ∈ W0 := wm_of 692 (by decide +kernel) (by decide +kernel)
theorem wm693 : (Jvm.Cond.selects "TelescopeCourt" ({ cls := "TelescopeCourt", name := "variable", desc := "(I)I" } : Jvm.MethodName) ({ cls := "TelescopeCourt", name := "variable", desc := "(I)I" } : Jvm.MethodName)) ∈ W0 := wm_of 693 (by decide +kernel) (by decide +kernel)
theorem wm694 : (Jvm.Cond.code ({ cls := "TelescopeCourt", name := "variable", desc := "(I)I" } : Jvm.MethodName) prog_1_method_3_code (2 : Nat) (Option.some Jvm.ClassFile.FieldType.int)) ∈ W0 := wm_of 694 (by decide +kernel) (by decide +kernel)
theorem wm698 : (Jvm.Cond.codeWith ({ cls := "TelescopeCourtLaw", name := "functions", desc := "(LTelescopeCourt;II)I" } : Jvm.MethodName) method_6_code (4 : Nat) (Option.some Jvm.ClassFile.FieldType.int) [((0 : Nat), (6 : Nat), (7 : Nat), (32 : Nat)), ((0 : Nat), (6 : Nat), (11 : Nat), (22 : Nat))]) ∈ W0 := wm_of 698 (by decide +kernel) (by decide +kernel)
theorem wm699 : (Jvm.Cond.classLink "TelescopeCourtLaw" (32 : Nat) "java/lang/IndexOutOfBoundsException") ∈ W0 := wm_of 699 (by decide +kernel) (by decide +kernel)
theorem wm720 : (Jvm.Cond.methodLink "TelescopeCourtLaw" (28 : Nat) ({ cls := "TelescopeCourt", name := "functions", desc := "(II)I" } : Jvm.MethodName)) ∈ W0 := wm_of 720 (by decide +kernel) (by decide +kernel)
theorem wm721 : (Jvm.Cond.instanceMethod ({ cls := "TelescopeCourt", name := "functions", desc := "(II)I" } : Jvm.MethodName)) ∈ W0 := wm_of 721 (by decide +kernel) (by decide +kernel)
theorem wm722 : (Jvm.Cond.selects "TelescopeCourt" ({ cls := "TelescopeCourt", name := "functions", desc := "(II)I" } : Jvm.MethodName) ({ cls := "TelescopeCourt", name := "functions", desc := "(II)I" } : Jvm.MethodName)) ∈ W0 := wm_of 722 (by decide +kernel) (by decide +kernel)
theorem wm723 : (Jvm.Cond.code ({ cls := "TelescopeCourt", name := "functions", desc := "(II)I" } : Jvm.MethodName) prog_1_method_4_code (3 : Nat) (Option.some Jvm.ClassFile.FieldType.int)) ∈ W0 := wm_of 723 (by decide +kernel) (by decide +kernel)
theorem wm724 : (Jvm.Cond.methodLink "TelescopeCourt" (83 : Nat) ({ cls := "TelescopeCourt", name := "layPair", desc := "(III)I" } : Jvm.MethodName)) ∈ W0 := wm_of 724 (by decide +kernel) (by decide +kernel)
theorem wm726 : (Jvm.Cond.instanceMethod ({ cls := "TelescopeCourt", name := "layPair", desc := "(III)I" } : Jvm.MethodName)) ∈ W0 := wm_of 726 (by decide +kernel) (by decide +kernel)
theorem wm727 : (Jvm.Cond.code ({ cls := "TelescopeCourt", name := "layPair", desc := "(III)I" } : Jvm.MethodName) prog_1_method_39_code (6 : Nat) (Option.some Jvm.ClassFile.FieldType.int)) ∈ W0 := wm_of 727 (by decide +kernel) (by decide +kernel)
theorem wm729 : (Jvm.Cond.methodLink "TelescopeCourt" (337 : Nat) ({ cls := "TelescopeCourt$Terms", name := "pair", desc := "(III)I" } : Jvm.MethodName)) ∈ W0 := wm_of 729 (by decide +kernel) (by decide +kernel)
theorem wm730 : (Jvm.Cond.constant "TelescopeCourtLaw" (34 : Nat) (-2500000 : Int32)) ∈ W0 := wm_of 730 (by decide +kernel) (by decide +kernel)
theorem wm733 : (Jvm.Cond.codeWith ({ cls := "TelescopeCourtLaw", name := "lambda", desc := "(LTelescopeCourt;II)I" } : Jvm.MethodName) method_7_code (4 : Nat) (Option.some Jvm.ClassFile.FieldType.int) [((0 : Nat), (6 : Nat), (7 : Nat), (32 : Nat)), ((0 : Nat), (6 : Nat), (11 : Nat), (22 : Nat))]) ∈ W0 := wm_of 733 (by decide +kernel) (by decide +kernel)
theorem wm734 : (Jvm.Cond.methodLink "TelescopeCourtLaw" (35 : Nat) ({ cls := "TelescopeCourt", name := "lambda", desc := "(II)I" } : Jvm.MethodName)) ∈ W0 := wm_of 734 (by decide +kernel) (by decide +kernel)
theorem wm735 : (Jvm.Cond.instanceMethod ({ cls := "TelescopeCourt", name := "lambda", desc := "(II)I" } : Jvm.MethodName)) ∈ W0 := wm_of 735 (by decide +kernel) (by decide +kernel)
theorem wm736 : (Jvm.Cond.selects "TelescopeCourt" ({ cls := "TelescopeCourt", name := "lambda", desc := "(II)I" } : Jvm.MethodName) ({ cls := "TelescopeCourt", name := "lambda", desc := "(II)I" } : Jvm.MethodName)) ∈ W0 := wm_of 736 (by decide +kernel) (by decide +kernel)
theorem wm737 : (Jvm.Cond.code ({ cls := "TelescopeCourt", name := "lambda", desc := "(II)I" } : Jvm.MethodName) prog_1_method_5_code (3 : Nat) (Option.some Jvm.ClassFile.FieldType.int)) ∈ W0 := wm_of 737 (by decide +kernel) (by decide +kernel)
theorem wm740 : (Jvm.Cond.codeWith ({ cls := "TelescopeCourtLaw", name := "apply", desc := "(LTelescopeCourt;II)I" } : Jvm.MethodName) method_8_code (4 : Nat) (Option.some Jvm.ClassFile.FieldType.int) [((0 : Nat), (6 : Nat), (7 : Nat), (32 : Nat)), ((0 : Nat), (6 : Nat), (11 : Nat), (22 : Nat))]) ∈ W0 := wm_of 740 (by decide +kernel) (by decide +kernel)
theorem wm741 : (Jvm.Cond.methodLink "TelescopeCourtLaw" (38 : Nat) ({ cls := "TelescopeCourt", name := "apply", desc := "(II)I" } : Jvm.MethodName)) ∈ W0 := wm_of 741 (by decide +kernel) (by decide +kernel)
theorem wm742 : (Jvm.Cond.instanceMethod ({ cls := "TelescopeCourt", name := "apply", desc := "(II)I" } : Jvm.MethodName)) ∈ W0 := wm_of 742 (by decide +kernel) (by decide +kernel)
theorem wm743 : (Jvm.Cond.selects "TelescopeCourt" ({ cls := "TelescopeCourt", name := "apply", desc := "(II)I" } : Jvm.MethodName) ({ cls := "TelescopeCourt", name := "apply", desc := "(II)I" } : Jvm.MethodName)) ∈ W0 := wm_of 743 (by decide +kernel) (by decide +kernel)
theorem wm744 : (Jvm.Cond.code ({ cls := "TelescopeCourt", name := "apply", desc := "(II)I" } : Jvm.MethodName) prog_1_method_6_code (3 : Nat) (Option.some Jvm.ClassFile.FieldType.int)) ∈ W0 := wm_of 744 (by decide +kernel) (by decide +kernel)
theorem wm747 : (Jvm.Cond.codeWith ({ cls := "TelescopeCourtLaw", name := "dataNode", desc := "(LTelescopeCourt;I)I" } : Jvm.MethodName) method_9_code (3 : Nat) (Option.some Jvm.ClassFile.FieldType.int) [((0 : Nat), (5 : Nat), (6 : Nat), (44 : Nat)), ((0 : Nat), (5 : Nat), (10 : Nat), (22 : Nat))]) ∈ W0 := wm_of 747 (by decide +kernel) (by decide +kernel)
theorem wm748 : (Jvm.Cond.classLink "TelescopeCourtLaw" (44 : Nat) "java/util/NoSuchElementException") ∈ W0 := wm_of 748 (by decide +kernel) (by decide +kernel)
theorem wm749 : (Jvm.Cond.methodLink "TelescopeCourtLaw" (41 : Nat) ({ cls := "TelescopeCourt", name := "dataNode", desc := "(I)I" } : Jvm.MethodName)) ∈ W0 := wm_of 749 (by decide +kernel) (by decide +kernel)
theorem wm750 : (Jvm.Cond.instanceMethod ({ cls := "TelescopeCourt", name := "dataNode", desc := "(I)I" } : Jvm.MethodName)) ∈ W0 := wm_of 750 (by decide +kernel) (by decide +kernel)
theorem wm751 : (Jvm.Cond.selects "TelescopeCourt" ({ cls := "TelescopeCourt", name := "dataNode", desc := "(I)I" } : Jvm.MethodName) ({ cls := "TelescopeCourt", name := "dataNode", desc := "(I)I" } : Jvm.MethodName)) ∈ W0 := wm_of 751 (by decide +kernel) (by decide +kernel)
theorem wm752 : (Jvm.Cond.code ({ cls := "TelescopeCourt", name := "dataNode", desc := "(I)I" } : Jvm.MethodName) prog_1_method_7_code (2 : Nat) (Option.some Jvm.ClassFile.FieldType.int)) ∈ W0 := wm_of 752 (by decide +kernel) (by decide +kernel)
theorem wm753 : (Jvm.Cond.methodLink "TelescopeCourt" (87 : Nat) ({ cls := "TelescopeCourt$Signature", name := "hasData", desc := "(I)Z" } : Jvm.MethodName)) ∈ W0 := wm_of 753 (by decide +kernel) (by decide +kernel)
theorem wm758 : (Jvm.Cond.constant "TelescopeCourtLaw" (46 : Nat) (-3000000 : Int32)) ∈ W0 := wm_of 758 (by decide +kernel) (by decide +kernel)
theorem wm761 : (Jvm.Cond.codeWith ({ cls := "TelescopeCourtLaw", name := "constructorNode", desc := "(LTelescopeCourt;I)I" } : Jvm.MethodName) method_10_code (3 : Nat) (Option.some Jvm.ClassFile.FieldType.int) [((0 : Nat), (5 : Nat), (6 : Nat), (44 : Nat)), ((0 : Nat), (5 : Nat), (10 : Nat), (22 : Nat))]) ∈ W0 := wm_of 761 (by decide +kernel) (by decide +kernel)
theorem wm762 : (Jvm.Cond.methodLink "TelescopeCourtLaw" (47 : Nat) ({ cls := "TelescopeCourt", name := "constructorNode", desc := "(I)I" } : Jvm.MethodName)) ∈ W0 := wm_of 762 (by decide +kernel) (by decide +kernel)
theorem wm763 : (Jvm.Cond.instanceMethod ({ cls := "TelescopeCourt", name := "constructorNode", desc := "(I)I" } : Jvm.MethodName)) ∈ W0 := wm_of 763 (by decide +kernel) (by decide +kernel)
theorem wm764 : (Jvm.Cond.selects "TelescopeCourt" ({ cls := "TelescopeCourt", name := "constructorNode", desc := "(I)I" } : Jvm.MethodName) ({ cls := "TelescopeCourt", name := "constructorNode", desc := "(I)I" } : Jvm.MethodName)) ∈ W0 := wm_of 764 (by decide +kernel) (by decide +kernel)
theorem wm765 : (Jvm.Cond.code ({ cls := "TelescopeCourt", name := "constructorNode", desc := "(I)I" } : Jvm.MethodName) prog_1_method_8_code (2 : Nat) (Option.some Jvm.ClassFile.FieldType.int)) ∈ W0 := wm_of 765 (by decide +kernel) (by decide +kernel)
theorem wm766 : (Jvm.Cond.methodLink "TelescopeCourt" (96 : Nat) ({ cls := "TelescopeCourt$Signature", name := "hasConstructor", desc := "(I)Z" } : Jvm.MethodName)) ∈ W0 := wm_of 766 (by decide +kernel) (by decide +kernel)
theorem wm770 : (Jvm.Cond.codeWith ({ cls := "TelescopeCourtLaw", name := "functionNode", desc := "(LTelescopeCourt;I)I" } : Jvm.MethodName) method_11_code (3 : Nat) (Option.some Jvm.ClassFile.FieldType.int) [((0 : Nat), (5 : Nat), (6 : Nat), (44 : Nat)), ((0 : Nat), (5 : Nat), (10 : Nat), (22 : Nat))]) ∈ W0 := wm_of 770 (by decide +kernel) (by decide +kernel)
theorem wm771 : (Jvm.Cond.methodLink "TelescopeCourtLaw" (50 : Nat) ({ cls := "TelescopeCourt", name := "functionNode", desc := "(I)I" } : Jvm.MethodName)) ∈ W0 := wm_of 771 (by decide +kernel) (by decide +kernel)
theorem wm772 : (Jvm.Cond.instanceMethod ({ cls := "TelescopeCourt", name := "functionNode", desc := "(I)I" } : Jvm.MethodName)) ∈ W0 := wm_of 772 (by decide +kernel) (by decide +kernel)
theorem wm773 : (Jvm.Cond.selects "TelescopeCourt" ({ cls := "TelescopeCourt", name := "functionNode", desc := "(I)I" } : Jvm.MethodName) ({ cls := "TelescopeCourt", name := "functionNode", desc := "(I)I" } : Jvm.MethodName)) ∈ W0 := wm_of 773 (by decide +kernel) (by decide +kernel)
theorem wm774 : (Jvm.Cond.code ({ cls := "TelescopeCourt", name := "functionNode", desc := "(I)I" } : Jvm.MethodName) prog_1_method_9_code (2 : Nat) (Option.some Jvm.ClassFile.FieldType.int)) ∈ W0 := wm_of 774 (by decide +kernel) (by decide +kernel)
theorem wm777 : (Jvm.Cond.codeWith ({ cls := "TelescopeCourtLaw", name := "addData", desc := "(LTelescopeCourt;)I" } : Jvm.MethodName) method_12_code (2 : Nat) (Option.some Jvm.ClassFile.FieldType.int) [((0 : Nat), (4 : Nat), (5 : Nat), (22 : Nat))]) ∈ W0 := wm_of 777 (by decide +kernel) (by decide +kernel)
theorem wm778 : (Jvm.Cond.methodLink "TelescopeCourtLaw" (53 : Nat) ({ cls := "TelescopeCourt", name := "addData", desc := "()I" } : Jvm.MethodName)) ∈ W0 := wm_of 778 (by decide +kernel) (by decide +kernel)
theorem wm779 : (Jvm.Cond.instanceMethod ({ cls := "TelescopeCourt", name := "addData", desc := "()I" } : Jvm.MethodName)) ∈ W0 := wm_of 779 (by decide +kernel) (by decide +kernel)
theorem wm780 : (Jvm.Cond.selects "TelescopeCourt" ({ cls := "TelescopeCourt", name := "addData", desc := "()I" } : Jvm.MethodName) ({ cls := "TelescopeCourt", name := "addData", desc := "()I" } : Jvm.MethodName)) ∈ W0 := wm_of 780 (by decide +kernel) (by decide +kernel)
theorem wm781 : (Jvm.Cond.code ({ cls := "TelescopeCourt", name := "addData", desc := "()I" } : Jvm.MethodName) prog_1_method_10_code (1 : Nat) (Option.some Jvm.ClassFile.FieldType.int)) ∈ W0 := wm_of 781 (by decide +kernel) (by decide +kernel)
theorem wm783 : (Jvm.Cond.methodLink "TelescopeCourt" (114 : Nat) ({ cls := "TelescopeCourt$Signature", name := "enterData", desc := "()I" } : Jvm.MethodName)) ∈ W0 := wm_of 783 (by decide +kernel) (by decide +kernel)
theorem wm784 : (Jvm.Cond.instanceMethod ({ cls := "TelescopeCourt$Signature", name := "enterData", desc := "()I" } : Jvm.MethodName)) ∈ W0 := wm_of 784 (by decide +kernel) (by decide +kernel)
theorem wm785 : (Jvm.Cond.selects "TelescopeCourt$Signature" ({ cls := "TelescopeCourt$Signature", name := "enterData", desc := "()I" } : Jvm.MethodName) ({ cls := "TelescopeCourt$Signature", name := "enterData", desc := "()I" } : Jvm.MethodName)) ∈ W0 := wm_of 785 (by decide +kernel) (by decide +kernel)
theorem wm786 : (Jvm.Cond.code ({ cls := "TelescopeCourt$Signature", name := "enterData", desc := "()I" } : Jvm.MethodName) prog_9_method_6_code (1 : Nat) (Option.some Jvm.ClassFile.FieldType.int)) ∈ W0 := wm_of 786 (by decide +kernel) (by decide +kernel)
theorem wm789 : (Jvm.Cond.codeWith ({ cls := "TelescopeCourtLaw", name := "addConstructor", desc := "(LTelescopeCourt;IIIII)I" } : Jvm.MethodName) method_13_code (7 : Nat) (Option.some Jvm.ClassFile.FieldType.int) [((0 : Nat), (11 : Nat), (12 : Nat), (44 : Nat)), ((0 : Nat), (11 : Nat), (17 : Nat), (19 : Nat)), ((0 : Nat), (11 : Nat), (22 : Nat), (22 : Nat))]) ∈ W0 := wm_of 789 (by decide +kernel) (by decide +kernel)
theorem wm790 : (Jvm.Cond.methodLink "TelescopeCourtLaw" (57 : Nat) ({ cls := "TelescopeCourt", name := "addConstructor", desc := "(IIIII)I" } : Jvm.MethodName)) ∈ W0 := wm_of 790 (by decide +kernel) (by decide +kernel)
theorem wm791 : (Jvm.Cond.instanceMethod ({ cls := "TelescopeCourt", name := "addConstructor", desc := "(IIIII)I" } : Jvm.MethodName)) ∈ W0 := wm_of 791 (by decide +kernel) (by decide +kernel)
theorem wm792 : (Jvm.Cond.selects "TelescopeCourt" ({ cls := "TelescopeCourt", name := "addConstructor", desc := "(IIIII)I" } : Jvm.MethodName) ({ cls := "TelescopeCourt", name := "addConstructor", desc := "(IIIII)I" } : Jvm.MethodName)) ∈ W0 := wm_of 792 (by decide +kernel) (by decide +kernel)
theorem wm793 : (Jvm.Cond.code ({ cls := "TelescopeCourt", name := "addConstructor", desc := "(IIIII)I" } : Jvm.MethodName) prog_1_method_11_code (7 : Nat) (Option.some Jvm.ClassFile.FieldType.int)) ∈ W0 := wm_of 793 (by decide +kernel) (by decide +kernel)
theorem wm795 : (Jvm.Cond.methodLink "TelescopeCourt" (123 : Nat) ({ cls := "TelescopeCourt$Signature", name := "wasSplit", desc := "(I)Z" } : Jvm.MethodName)) ∈ W0 := wm_of 795 (by decide +kernel) (by decide +kernel)
theorem wm796 : (Jvm.Cond.instanceMethod ({ cls := "TelescopeCourt$Signature", name := "wasSplit", desc := "(I)Z" } : Jvm.MethodName)) ∈ W0 := wm_of 796 (by decide +kernel) (by decide +kernel)
theorem wm797 : (Jvm.Cond.selects "TelescopeCourt$Signature" ({ cls := "TelescopeCourt$Signature", name := "wasSplit", desc := "(I)Z" } : Jvm.MethodName) ({ cls := "TelescopeCourt$Signature", name := "wasSplit", desc := "(I)Z" } : Jvm.MethodName)) ∈ W0 := wm_of 797 (by decide +kernel) (by decide +kernel)
theorem wm798 : (Jvm.Cond.code ({ cls := "TelescopeCourt$Signature", name := "wasSplit", desc := "(I)Z" } : Jvm.MethodName) prog_9_method_4_code (2 : Nat) (Option.some Jvm.ClassFile.FieldType.boolean)) ∈ W0 := wm_of 798 (by decide +kernel) (by decide +kernel)
theorem wm801 : (Jvm.Cond.methodLink "TelescopeCourt" (131 : Nat) ({ cls := "TelescopeCourt$Signature", name := "enterConstructor", desc := "(IIIII)I" } : Jvm.MethodName)) ∈ W0 := wm_of 801 (by decide +kernel) (by decide +kernel)
theorem wm802 : (Jvm.Cond.instanceMethod ({ cls := "TelescopeCourt$Signature", name := "enterConstructor", desc := "(IIIII)I" } : Jvm.MethodName)) ∈ W0 := wm_of 802 (by decide +kernel) (by decide +kernel)
theorem wm803 : (Jvm.Cond.selects "TelescopeCourt$Signature" ({ cls := "TelescopeCourt$Signature", name := "enterConstructor", desc := "(IIIII)I" } : Jvm.MethodName) ({ cls := "TelescopeCourt$Signature", name := "enterConstructor", desc := "(IIIII)I" } : Jvm.MethodName)) ∈ W0 := wm_of 803 (by decide +kernel) (by decide +kernel)
theorem wm804 : (Jvm.Cond.code ({ cls := "TelescopeCourt$Signature", name := "enterConstructor", desc := "(IIIII)I" } : Jvm.MethodName) prog_9_method_7_code (9 : Nat) (Option.some Jvm.ClassFile.FieldType.int)) ∈ W0 := wm_of 804 (by decide +kernel) (by decide +kernel)
theorem wm809 : (Jvm.Cond.codeWith ({ cls := "TelescopeCourtLaw", name := "normal", desc := "(LTelescopeCourt;I)I" } : Jvm.MethodName) method_16_code (3 : Nat) (Option.some Jvm.ClassFile.FieldType.int) [((0 : Nat), (5 : Nat), (6 : Nat), (32 : Nat)), ((0 : Nat), (5 : Nat), (10 : Nat), (70 : Nat))]) ∈ W0 := wm_of 809 (by decide +kernel) (by decide +kernel)
theorem wm810 : (Jvm.Cond.classLink "TelescopeCourtLaw" (70 : Nat) "java/lang/UnsupportedOperationException") ∈ W0 := wm_of 810 (by decide +kernel) (by decide +kernel)
theorem wm811 : (Jvm.Cond.methodLink "TelescopeCourtLaw" (67 : Nat) ({ cls := "TelescopeCourt", name := "normal", desc := "(I)I" } : Jvm.MethodName)) ∈ W0 := wm_of 811 (by decide +kernel) (by decide +kernel)
theorem wm812 : (Jvm.Cond.instanceMethod ({ cls := "TelescopeCourt", name := "normal", desc := "(I)I" } : Jvm.MethodName)) ∈ W0 := wm_of 812 (by decide +kernel) (by decide +kernel)
theorem wm813 : (Jvm.Cond.selects "TelescopeCourt" ({ cls := "TelescopeCourt", name := "normal", desc := "(I)I" } : Jvm.MethodName) ({ cls := "TelescopeCourt", name := "normal", desc := "(I)I" } : Jvm.MethodName)) ∈ W0 := wm_of 813 (by decide +kernel) (by decide +kernel)
theorem wm814 : (Jvm.Cond.code ({ cls := "TelescopeCourt", name := "normal", desc := "(I)I" } : Jvm.MethodName) prog_1_method_14_code (4 : Nat) (Option.some Jvm.ClassFile.FieldType.int)) ∈ W0 := wm_of 814 (by decide +kernel) (by decide +kernel)
theorem wm815 : (Jvm.Cond.methodLink "TelescopeCourt" (151 : Nat) ({ cls := "TelescopeCourt", name := "numberOfScratch", desc := "(II)I" } : Jvm.MethodName)) ∈ W0 := wm_of 815 (by decide +kernel) (by decide +kernel)
theorem wm817 : (Jvm.Cond.instanceMethod ({ cls := "TelescopeCourt", name := "numberOfScratch", desc := "(II)I" } : Jvm.MethodName)) ∈ W0 := wm_of 817 (by decide +kernel) (by decide +kernel)
theorem wm818 : (Jvm.Cond.code ({ cls := "TelescopeCourt", name := "numberOfScratch", desc := "(II)I" } : Jvm.MethodName) prog_1_method_45_code (4 : Nat) (Option.some Jvm.ClassFile.FieldType.int)) ∈ W0 := wm_of 818 (by decide +kernel) (by decide +kernel)
theorem wm819 : (Jvm.Cond.classLink "TelescopeCourt" (158 : Nat) "java/lang/UnsupportedOperationException") ∈ W0 := wm_of 819 (by decide +kernel) (by decide +kernel)
theorem wm835 : (Jvm.Cond.constant "TelescopeCourtLaw" (72 : Nat) (-1500000 : Int32)) ∈ W0 := wm_of 835 (by decide +kernel) (by decide +kernel)
theorem wm838 : (Jvm.Cond.codeWith ({ cls := "TelescopeCourtLaw", name := "typeOf", desc := "(LTelescopeCourt;I)I" } : Jvm.MethodName) method_17_code (3 : Nat) (Option.some Jvm.ClassFile.FieldType.int) [((0 : Nat), (5 : Nat), (6 : Nat), (32 : Nat)), ((0 : Nat), (5 : Nat), (10 : Nat), (70 : Nat))]) ∈ W0 := wm_of 838 (by decide +kernel) (by decide +kernel)
theorem wm839 : (Jvm.Cond.methodLink "TelescopeCourtLaw" (73 : Nat) ({ cls := "TelescopeCourt", name := "typeOf", desc := "(I)I" } : Jvm.MethodName)) ∈ W0 := wm_of 839 (by decide +kernel) (by decide +kernel)
theorem wm840 : (Jvm.Cond.instanceMethod ({ cls := "TelescopeCourt", name := "typeOf", desc := "(I)I" } : Jvm.MethodName)) ∈ W0 := wm_of 840 (by decide +kernel) (by decide +kernel)
theorem wm841 : (Jvm.Cond.selects "TelescopeCourt" ({ cls := "TelescopeCourt", name := "typeOf", desc := "(I)I" } : Jvm.MethodName) ({ cls := "TelescopeCourt", name := "typeOf", desc := "(I)I" } : Jvm.MethodName)) ∈ W0 := wm_of 841 (by decide +kernel) (by decide +kernel)
theorem wm842 : (Jvm.Cond.code ({ cls := "TelescopeCourt", name := "typeOf", desc := "(I)I" } : Jvm.MethodName) prog_1_method_15_code (4 : Nat) (Option.some Jvm.ClassFile.FieldType.int)) ∈ W0 := wm_of 842 (by decide +kernel) (by decide +kernel)
theorem wm845 : (Jvm.Cond.codeWith ({ cls := "TelescopeCourtLaw", name := "level", desc := "(LTelescopeCourt;I)I" } : Jvm.MethodName) method_18_code (3 : Nat) (Option.some Jvm.ClassFile.FieldType.int) [((0 : Nat), (5 : Nat), (6 : Nat), (32 : Nat)), ((0 : Nat), (5 : Nat), (10 : Nat), (70 : Nat))]) ∈ W0 := wm_of 845 (by decide +kernel) (by decide +kernel)
theorem wm846 : (Jvm.Cond.methodLink "TelescopeCourtLaw" (76 : Nat) ({ cls := "TelescopeCourt", name := "level", desc := "(I)I" } : Jvm.MethodName)) ∈ W0 := wm_of 846 (by decide +kernel) (by decide +kernel)
theorem wm847 : (Jvm.Cond.instanceMethod ({ cls := "TelescopeCourt", name := "level", desc := "(I)I" } : Jvm.MethodName)) ∈ W0 := wm_of 847 (by decide +kernel) (by decide +kernel)
theorem wm848 : (Jvm.Cond.selects "TelescopeCourt" ({ cls := "TelescopeCourt", name := "level", desc := "(I)I" } : Jvm.MethodName) ({ cls := "TelescopeCourt", name := "level", desc := "(I)I" } : Jvm.MethodName)) ∈ W0 := wm_of 848 (by decide +kernel) (by decide +kernel)
theorem wm849 : (Jvm.Cond.code ({ cls := "TelescopeCourt", name := "level", desc := "(I)I" } : Jvm.MethodName) prog_1_method_16_code (3 : Nat) (Option.some Jvm.ClassFile.FieldType.int)) ∈ W0 := wm_of 849 (by decide +kernel) (by decide +kernel)
theorem wm850 : (Jvm.Cond.methodLink "TelescopeCourt" (155 : Nat) ({ cls := "TelescopeCourt$Typing", name := "levelOf", desc := "(I)I" } : Jvm.MethodName)) ∈ W0 := wm_of 850 (by decide +kernel) (by decide +kernel)
theorem wm851 : (Jvm.Cond.instanceMethod ({ cls := "TelescopeCourt$Typing", name := "levelOf", desc := "(I)I" } : Jvm.MethodName)) ∈ W0 := wm_of 851 (by decide +kernel) (by decide +kernel)
theorem wm852 : (Jvm.Cond.selects "TelescopeCourt$Typing" ({ cls := "TelescopeCourt$Typing", name := "levelOf", desc := "(I)I" } : Jvm.MethodName) ({ cls := "TelescopeCourt$Typing", name := "levelOf", desc := "(I)I" } : Jvm.MethodName)) ∈ W0 := wm_of 852 (by decide +kernel) (by decide +kernel)
theorem wm853 : (Jvm.Cond.code ({ cls := "TelescopeCourt$Typing", name := "levelOf", desc := "(I)I" } : Jvm.MethodName) prog_12_method_2_code (5 : Nat) (Option.some Jvm.ClassFile.FieldType.int)) ∈ W0 := wm_of 853 (by decide +kernel) (by decide +kernel)
theorem wm857 : (Jvm.Cond.codeWith ({ cls := "TelescopeCourtLaw", name := "declare", desc := "(LTelescopeCourt;I)I" } : Jvm.MethodName) method_19_code (3 : Nat) (Option.some Jvm.ClassFile.FieldType.int) [((0 : Nat), (5 : Nat), (6 : Nat), (32 : Nat)), ((0 : Nat), (5 : Nat), (10 : Nat), (70 : Nat)), ((0 : Nat), (5 : Nat), (14 : Nat), (22 : Nat))]) ∈ W0 := wm_of 857 (by decide +kernel) (by decide +kernel)
theorem wm858 : (Jvm.Cond.methodLink "TelescopeCourtLaw" (79 : Nat) ({ cls := "TelescopeCourt", name := "declare", desc := "(I)I" } : Jvm.MethodName)) ∈ W0 := wm_of 858 (by decide +kernel) (by decide +kernel)
theorem wm859 : (Jvm.Cond.instanceMethod ({ cls := "TelescopeCourt", name := "declare", desc := "(I)I" } : Jvm.MethodName)) ∈ W0 := wm_of 859 (by decide +kernel) (by decide +kernel)
theorem wm860 : (Jvm.Cond.selects "TelescopeCourt" ({ cls := "TelescopeCourt", name := "declare", desc := "(I)I" } : Jvm.MethodName) ({ cls := "TelescopeCourt", name := "declare", desc := "(I)I" } : Jvm.MethodName)) ∈ W0 := wm_of 860 (by decide +kernel) (by decide +kernel)
theorem wm861 : (Jvm.Cond.code ({ cls := "TelescopeCourt", name := "declare", desc := "(I)I" } : Jvm.MethodName) prog_1_method_18_code (6 : Nat) (Option.some Jvm.ClassFile.FieldType.int)) ∈ W0 := wm_of 861 (by decide +kernel) (by decide +kernel)
theorem wm862 : (Jvm.Cond.methodLink "TelescopeCourt" (173 : Nat) ({ cls := "TelescopeCourt$Docket", name := "domainsOf", desc := "(I)I" } : Jvm.MethodName)) ∈ W0 := wm_of 862 (by decide +kernel) (by decide +kernel)
theorem wm863 : (Jvm.Cond.instanceMethod ({ cls := "TelescopeCourt$Docket", name := "domainsOf", desc := "(I)I" } : Jvm.MethodName)) ∈ W0 := wm_of 863 (by decide +kernel) (by decide +kernel)
theorem wm864 : (Jvm.Cond.selects "TelescopeCourt$Docket" ({ cls := "TelescopeCourt$Docket", name := "domainsOf", desc := "(I)I" } : Jvm.MethodName) ({ cls := "TelescopeCourt$Docket", name := "domainsOf", desc := "(I)I" } : Jvm.MethodName)) ∈ W0 := wm_of 864 (by decide +kernel) (by decide +kernel)
theorem wm865 : (Jvm.Cond.code ({ cls := "TelescopeCourt$Docket", name := "domainsOf", desc := "(I)I" } : Jvm.MethodName) prog_2_method_6_code (4 : Nat) (Option.some Jvm.ClassFile.FieldType.int)) ∈ W0 := wm_of 865 (by decide +kernel) (by decide +kernel)
theorem wm870 : (Jvm.Cond.methodLink "TelescopeCourt" (186 : Nat) ({ cls := "TelescopeCourt$Docket", name := "enterFunction", desc := "(II)I" } : Jvm.MethodName)) ∈ W0 := wm_of 870 (by decide +kernel) (by decide +kernel)
theorem wm871 : (Jvm.Cond.instanceMethod ({ cls := "TelescopeCourt$Docket", name := "enterFunction", desc := "(II)I" } : Jvm.MethodName)) ∈ W0 := wm_of 871 (by decide +kernel) (by decide +kernel)
theorem wm872 : (Jvm.Cond.selects "TelescopeCourt$Docket" ({ cls := "TelescopeCourt$Docket", name := "enterFunction", desc := "(II)I" } : Jvm.MethodName) ({ cls := "TelescopeCourt$Docket", name := "enterFunction", desc := "(II)I" } : Jvm.MethodName)) ∈ W0 := wm_of 872 (by decide +kernel) (by decide +kernel)
theorem wm873 : (Jvm.Cond.code ({ cls := "TelescopeCourt$Docket", name := "enterFunction", desc := "(II)I" } : Jvm.MethodName) prog_2_method_7_code (7 : Nat) (Option.some Jvm.ClassFile.FieldType.int)) ∈ W0 := wm_of 873 (by decide +kernel) (by decide +kernel)
theorem wm951 : (Jvm.Cond.codeWith ({ cls := "TelescopeCourtLaw", name := "split", desc := "(LTelescopeCourt;II)I" } : Jvm.MethodName) method_20_code (4 : Nat) (Option.some Jvm.ClassFile.FieldType.int) [((0 : Nat), (6 : Nat), (7 : Nat), (44 : Nat)), ((0 : Nat), (6 : Nat), (11 : Nat), (32 : Nat)), ((0 : Nat), (6 : Nat), (15 : Nat), (22 : Nat)), ((0 : Nat), (6 : Nat), (19 : Nat), (70 : Nat))]) ∈ W0 := wm_of 951 (by decide +kernel) (by decide +kernel)
theorem wm952 : (Jvm.Cond.methodLink "TelescopeCourtLaw" (82 : Nat) ({ cls := "TelescopeCourt", name := "split", desc := "(II)I" } : Jvm.MethodName)) ∈ W0 := wm_of 952 (by decide +kernel) (by decide +kernel)
theorem wm953 : (Jvm.Cond.instanceMethod ({ cls := "TelescopeCourt", name := "split", desc := "(II)I" } : Jvm.MethodName)) ∈ W0 := wm_of 953 (by decide +kernel) (by decide +kernel)
theorem wm954 : (Jvm.Cond.selects "TelescopeCourt" ({ cls := "TelescopeCourt", name := "split", desc := "(II)I" } : Jvm.MethodName) ({ cls := "TelescopeCourt", name := "split", desc := "(II)I" } : Jvm.MethodName)) ∈ W0 := wm_of 954 (by decide +kernel) (by decide +kernel)
theorem wm955 : (Jvm.Cond.code ({ cls := "TelescopeCourt", name := "split", desc := "(II)I" } : Jvm.MethodName) prog_1_method_19_code (5 : Nat) (Option.some Jvm.ClassFile.FieldType.int)) ∈ W0 := wm_of 955 (by decide +kernel) (by decide +kernel)
theorem wm956 : (Jvm.Cond.methodLink "TelescopeCourt" (189 : Nat) ({ cls := "TelescopeCourt", name := "goalAt", desc := "(I)LTelescopeCourt$Goal;" } : Jvm.MethodName)) ∈ W0 := wm_of 956 (by decide +kernel) (by decide +kernel)
theorem wm958 : (Jvm.Cond.instanceMethod ({ cls := "TelescopeCourt", name := "goalAt", desc := "(I)LTelescopeCourt$Goal;" } : Jvm.MethodName)) ∈ W0 := wm_of 958 (by decide +kernel) (by decide +kernel)
theorem wm959 : (Jvm.Cond.code ({ cls := "TelescopeCourt", name := "goalAt", desc := "(I)LTelescopeCourt$Goal;" } : Jvm.MethodName) prog_1_method_42_code (3 : Nat) (Option.some (Jvm.ClassFile.FieldType.object "TelescopeCourt$Goal"))) ∈ W0 := wm_of 959 (by decide +kernel) (by decide +kernel)
theorem wm961 : (Jvm.Cond.methodLink "TelescopeCourt" (193 : Nat) ({ cls := "TelescopeCourt", name := "needPlace", desc := "(LTelescopeCourt$Goal;I)V" } : Jvm.MethodName)) ∈ W0 := wm_of 961 (by decide +kernel) (by decide +kernel)
theorem wm962 : (Jvm.Cond.static ({ cls := "TelescopeCourt", name := "needPlace", desc := "(LTelescopeCourt$Goal;I)V" } : Jvm.MethodName)) ∈ W0 := wm_of 962 (by decide +kernel) (by decide +kernel)
theorem wm963 : (Jvm.Cond.code ({ cls := "TelescopeCourt", name := "needPlace", desc := "(LTelescopeCourt$Goal;I)V" } : Jvm.MethodName) prog_1_method_43_code (2 : Nat) (Option.none : Option Jvm.ClassFile.FieldType)) ∈ W0 := wm_of 963 (by decide +kernel) (by decide +kernel)
theorem wm965 : (Jvm.Cond.methodLink "TelescopeCourt" (203 : Nat) ({ cls := "TelescopeCourt$Docket", name := "splitIsTooMuch", desc := "(LTelescopeCourt$Goal;I)Z" } : Jvm.MethodName)) ∈ W0 := wm_of 965 (by decide +kernel) (by decide +kernel)
theorem wm966 : (Jvm.Cond.instanceMethod ({ cls := "TelescopeCourt$Docket", name := "splitIsTooMuch", desc := "(LTelescopeCourt$Goal;I)Z" } : Jvm.MethodName)) ∈ W0 := wm_of 966 (by decide +kernel) (by decide +kernel)
theorem wm967 : (Jvm.Cond.selects "TelescopeCourt$Docket" ({ cls := "TelescopeCourt$Docket", name := "splitIsTooMuch", desc := "(LTelescopeCourt$Goal;I)Z" } : Jvm.MethodName) ({ cls := "TelescopeCourt$Docket", name := "splitIsTooMuch", desc := "(LTelescopeCourt$Goal;I)Z" } : Jvm.MethodName)) ∈ W0 := wm_of 967 (by decide +kernel) (by decide +kernel)
theorem wm968 : (Jvm.Cond.code ({ cls := "TelescopeCourt$Docket", name := "splitIsTooMuch", desc := "(LTelescopeCourt$Goal;I)Z" } : Jvm.MethodName) prog_2_method_8_code (6 : Nat) (Option.some Jvm.ClassFile.FieldType.boolean)) ∈ W0 := wm_of 968 (by decide +kernel) (by decide +kernel)
theorem wm983 : (Jvm.Cond.methodLink "TelescopeCourt" (209 : Nat) ({ cls := "TelescopeCourt$Docket", name := "splitBy", desc := "(LTelescopeCourt$Goal;I)I" } : Jvm.MethodName)) ∈ W0 := wm_of 983 (by decide +kernel) (by decide +kernel)
theorem wm984 : (Jvm.Cond.instanceMethod ({ cls := "TelescopeCourt$Docket", name := "splitBy", desc := "(LTelescopeCourt$Goal;I)I" } : Jvm.MethodName)) ∈ W0 := wm_of 984 (by decide +kernel) (by decide +kernel)
theorem wm985 : (Jvm.Cond.selects "TelescopeCourt$Docket" ({ cls := "TelescopeCourt$Docket", name := "splitBy", desc := "(LTelescopeCourt$Goal;I)I" } : Jvm.MethodName) ({ cls := "TelescopeCourt$Docket", name := "splitBy", desc := "(LTelescopeCourt$Goal;I)I" } : Jvm.MethodName)) ∈ W0 := wm_of 985 (by decide +kernel) (by decide +kernel)
theorem wm986 : (Jvm.Cond.code ({ cls := "TelescopeCourt$Docket", name := "splitBy", desc := "(LTelescopeCourt$Goal;I)I" } : Jvm.MethodName) prog_2_method_9_code (9 : Nat) (Option.some Jvm.ClassFile.FieldType.int)) ∈ W0 := wm_of 986 (by decide +kernel) (by decide +kernel)
theorem ws_p0 : Cond.selects "TelescopeCourt" ⟨"TelescopeCourt", "termAt", "(I)I"⟩ ⟨"TelescopeCourt", "termAt", "(I)I"⟩ ∈ W0 := wms_of 0 (by decide +kernel : lw_privs[0]? = some (⟨"TelescopeCourt", "termAt", "(I)I"⟩, 10))
theorem ws_p10 : Cond.selects "TelescopeCourt" ⟨"TelescopeCourt", "layPair", "(III)I"⟩ ⟨"TelescopeCourt", "layPair", "(III)I"⟩ ∈ W0 := wms_of 10 (by decide +kernel : lw_privs[10]? = some (⟨"TelescopeCourt", "layPair", "(III)I"⟩, 10))
theorem ws_p11 : Cond.selects "TelescopeCourt" ⟨"TelescopeCourt", "numberOfScratch", "(II)I"⟩ ⟨"TelescopeCourt", "numberOfScratch", "(II)I"⟩ ∈ W0 := wms_of 11 (by decide +kernel : lw_privs[11]? = some (⟨"TelescopeCourt", "numberOfScratch", "(II)I"⟩, 10))
theorem ws_p12 : Cond.selects "TelescopeCourt" ⟨"TelescopeCourt", "goalAt", "(I)LTelescopeCourt$Goal;"⟩ ⟨"TelescopeCourt", "goalAt", "(I)LTelescopeCourt$Goal;"⟩ ∈ W0 := wms_of 12 (by decide +kernel : lw_privs[12]? = some (⟨"TelescopeCourt", "goalAt", "(I)LTelescopeCourt$Goal;"⟩, 10))
theorem ws_p7 : Cond.selects "TelescopeCourt" ⟨"TelescopeCourt", "functionAt", "(I)LTelescopeCourt$Function;"⟩ ⟨"TelescopeCourt", "functionAt", "(I)LTelescopeCourt$Function;"⟩ ∈ W0 := wms_of 7 (by decide +kernel : lw_privs[7]? = some (⟨"TelescopeCourt", "functionAt", "(I)LTelescopeCourt$Function;"⟩, 10))
theorem ws_p9 : Cond.selects "TelescopeCourt" ⟨"TelescopeCourt", "layLeaf", "(II)I"⟩ ⟨"TelescopeCourt", "layLeaf", "(II)I"⟩ ∈ W0 := wms_of 9 (by decide +kernel : lw_privs[9]? = some (⟨"TelescopeCourt", "layLeaf", "(II)I"⟩, 10))
theorem nw104 : (Jvm.Cond.fieldLinkNest "TelescopeCourt" (105 : Nat) "TelescopeCourt$Signature" "dataCount" "I" "TelescopeCourt") ∈ NW := nw_of 104 (by decide +kernel) (by decide +kernel)
theorem nw107 : (Jvm.Cond.fieldLinkNest "TelescopeCourt" (120 : Nat) "TelescopeCourt$Signature" "constructorCount" "I" "TelescopeCourt") ∈ NW := nw_of 107 (by decide +kernel) (by decide +kernel)
theorem nw145 : (Jvm.Cond.fieldLinkNest "TelescopeCourt" (178 : Nat) "TelescopeCourt$Docket" "functionCount" "I" "TelescopeCourt") ∈ NW := nw_of 145 (by decide +kernel) (by decide +kernel)
theorem nw148 : (Jvm.Cond.fieldLinkNest "TelescopeCourt" (181 : Nat) "TelescopeCourt$Docket" "goalCount" "I" "TelescopeCourt") ∈ NW := nw_of 148 (by decide +kernel) (by decide +kernel)
theorem nw151 : (Jvm.Cond.fieldLinkNest "TelescopeCourt" (126 : Nat) "TelescopeCourt$Docket" "acceptedOnes" "I" "TelescopeCourt") ∈ NW := nw_of 151 (by decide +kernel) (by decide +kernel)
theorem nw189 : (Jvm.Cond.fieldLinkNest "TelescopeCourt" (250 : Nat) "TelescopeCourt$Telescope" "many" "I" "TelescopeCourt") ∈ NW := nw_of 189 (by decide +kernel) (by decide +kernel)
theorem nw225 : (Jvm.Cond.fieldLinkNest "TelescopeCourt" (295 : Nat) "TelescopeCourt$Graphs" "many" "I" "TelescopeCourt") ∈ NW := nw_of 225 (by decide +kernel) (by decide +kernel)
theorem nw256 : (Jvm.Cond.fieldLinkNest "TelescopeCourt" (307 : Nat) "TelescopeCourt$Machine" "taken" "I" "TelescopeCourt") ∈ NW := nw_of 256 (by decide +kernel) (by decide +kernel)
theorem nw325 : (Jvm.Cond.castable "java/lang/IndexOutOfBoundsException" "java/lang/IndexOutOfBoundsException") ∈ NW := nw_of 325 (by decide +kernel) (by decide +kernel)
theorem nw565 : (Jvm.Cond.methodLinkNest "TelescopeCourt" (163 : Nat) ({ cls := "TelescopeCourt$Moves", name := "same", desc := "(LTelescopeCourt$Terms;II)Z" } : Jvm.MethodName) "TelescopeCourt") ∈ NW := nw_of 565 (by decide +kernel) (by decide +kernel)
theorem nw578 : (Jvm.Cond.castable "java/util/NoSuchElementException" "java/util/NoSuchElementException") ∈ NW := nw_of 578 (by decide +kernel) (by decide +kernel)
theorem nw651 : (Jvm.Cond.castable "java/lang/IllegalArgumentException" "java/lang/IllegalArgumentException") ∈ NW := nw_of 651 (by decide +kernel) (by decide +kernel)
theorem nw671 : (Jvm.Cond.castable "java/lang/IllegalStateException" "java/lang/IllegalStateException") ∈ NW := nw_of 671 (by decide +kernel) (by decide +kernel)
theorem nw821 : (Jvm.Cond.castable "java/lang/UnsupportedOperationException" "java/lang/UnsupportedOperationException") ∈ NW := nw_of 821 (by decide +kernel) (by decide +kernel)
theorem nw888 : (Jvm.Cond.fieldLinkNest "TelescopeCourt" (274 : Nat) "TelescopeCourt$Function" "arity" "I" "TelescopeCourt") ∈ NW := nw_of 888 (by decide +kernel) (by decide +kernel)
theorem nw907 : (Jvm.Cond.fieldLinkNest "TelescopeCourt" (219 : Nat) "TelescopeCourt$Goal" "function" "I" "TelescopeCourt") ∈ NW := nw_of 907 (by decide +kernel) (by decide +kernel)
theorem nw911 : (Jvm.Cond.fieldLinkNest "TelescopeCourt" (225 : Nat) "TelescopeCourt$Goal" "context" "LTelescopeCourt$Telescope;" "TelescopeCourt") ∈ NW := nw_of 911 (by decide +kernel) (by decide +kernel)
theorem nw914 : (Jvm.Cond.fieldLinkNest "TelescopeCourt" (229 : Nat) "TelescopeCourt$Goal" "type" "I" "TelescopeCourt") ∈ NW := nw_of 914 (by decide +kernel) (by decide +kernel)
theorem nw923 : (Jvm.Cond.fieldLinkNest "TelescopeCourt" (197 : Nat) "TelescopeCourt$Goal" "state" "C" "TelescopeCourt") ∈ NW := nw_of 923 (by decide +kernel) (by decide +kernel)
theorem nw927 : (Jvm.Cond.fieldLinkNest "TelescopeCourt" (263 : Nat) "TelescopeCourt$Goal" "right" "I" "TelescopeCourt") ∈ NW := nw_of 927 (by decide +kernel) (by decide +kernel)
