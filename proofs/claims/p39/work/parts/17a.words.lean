theorem dX10_levelOf_0 : decode cX10_levelOf 0 = .ok (.aload_n 0, 1) := by decide +kernel
theorem dX10_levelOf_1 : decode cX10_levelOf 1 = .ok (.getfield 23, 3) := by decide +kernel
theorem dX10_levelOf_4 : decode cX10_levelOf 4 = .ok (.invokevirtual 39, 3) := by decide +kernel
theorem dX10_levelOf_7 : decode cX10_levelOf 7 = .ok (.istore_n 2, 1) := by decide +kernel
theorem dX10_levelOf_8 : decode cX10_levelOf 8 = .ok (.aload_n 0, 1) := by decide +kernel
theorem dX10_levelOf_9 : decode cX10_levelOf 9 = .ok (.getfield 20, 3) := by decide +kernel
theorem dX10_levelOf_12 : decode cX10_levelOf 12 = .ok (.aload_n 0, 1) := by decide +kernel
theorem dX10_levelOf_13 : decode cX10_levelOf 13 = .ok (.getfield 14, 3) := by decide +kernel
theorem dX10_levelOf_16 : decode cX10_levelOf 16 = .ok (.invokevirtual 45, 3) := by decide +kernel
theorem dX10_levelOf_19 : decode cX10_levelOf 19 = .ok (.aload_n 0, 1) := by decide +kernel
theorem dX10_levelOf_20 : decode cX10_levelOf 20 = .ok (.getfield 27, 3) := by decide +kernel
theorem dX10_levelOf_23 : decode cX10_levelOf 23 = .ok (.aload_n 0, 1) := by decide +kernel
theorem dX10_levelOf_24 : decode cX10_levelOf 24 = .ok (.iload_n 1, 1) := by decide +kernel
theorem dX10_levelOf_25 : decode cX10_levelOf 25 = .ok (.invokestatic 49, 3) := by decide +kernel
theorem dX10_levelOf_28 : decode cX10_levelOf 28 = .ok (.invokevirtual 53, 3) := by decide +kernel
theorem dX10_levelOf_31 : decode cX10_levelOf 31 = .ok (.istore_n 3, 1) := by decide +kernel
theorem dX10_levelOf_32 : decode cX10_levelOf 32 = .ok (.aload_n 0, 1) := by decide +kernel
theorem dX10_levelOf_33 : decode cX10_levelOf 33 = .ok (.getfield 23, 3) := by decide +kernel
theorem dX10_levelOf_36 : decode cX10_levelOf 36 = .ok (.iload_n 3, 1) := by decide +kernel
theorem dX10_levelOf_37 : decode cX10_levelOf 37 = .ok (.invokevirtual 59, 3) := by decide +kernel
theorem dX10_levelOf_40 : decode cX10_levelOf 40 = .ok (.ifCond .ne 14, 3) := by decide +kernel
theorem dX10_levelOf_43 : decode cX10_levelOf 43 = .ok (.aload_n 0, 1) := by decide +kernel
theorem dX10_levelOf_44 : decode cX10_levelOf 44 = .ok (.getfield 23, 3) := by decide +kernel
theorem dX10_levelOf_47 : decode cX10_levelOf 47 = .ok (.iload_n 3, 1) := by decide +kernel
theorem dX10_levelOf_48 : decode cX10_levelOf 48 = .ok (.invokevirtual 62, 3) := by decide +kernel
theorem dX10_levelOf_51 : decode cX10_levelOf 51 = .ok (.goto 4, 3) := by decide +kernel
theorem dX10_levelOf_54 : decode cX10_levelOf 54 = .ok (.iconst (-1), 1) := by decide +kernel
theorem dX10_levelOf_55 : decode cX10_levelOf 55 = .ok (.istore 4, 2) := by decide +kernel
theorem dX10_levelOf_57 : decode cX10_levelOf 57 = .ok (.aload_n 0, 1) := by decide +kernel
theorem dX10_levelOf_58 : decode cX10_levelOf 58 = .ok (.getfield 23, 3) := by decide +kernel
theorem dX10_levelOf_61 : decode cX10_levelOf 61 = .ok (.iload_n 2, 1) := by decide +kernel
theorem dX10_levelOf_62 : decode cX10_levelOf 62 = .ok (.invokevirtual 65, 3) := by decide +kernel
theorem dX10_levelOf_65 : decode cX10_levelOf 65 = .ok (.iload 4, 2) := by decide +kernel
theorem dX10_levelOf_67 : decode cX10_levelOf 67 = .ok (.ireturn, 1) := by decide +kernel
theorem dX10_isOfData_0 : decode cX10_isOfData 0 = .ok (.aload_n 0, 1) := by decide +kernel
theorem dX10_isOfData_1 : decode cX10_isOfData 1 = .ok (.getfield 23, 3) := by decide +kernel
theorem dX10_isOfData_4 : decode cX10_isOfData 4 = .ok (.invokevirtual 39, 3) := by decide +kernel
theorem dX10_isOfData_7 : decode cX10_isOfData 7 = .ok (.istore_n 2, 1) := by decide +kernel
theorem dX10_isOfData_8 : decode cX10_isOfData 8 = .ok (.aload_n 0, 1) := by decide +kernel
theorem dX10_isOfData_9 : decode cX10_isOfData 9 = .ok (.getfield 20, 3) := by decide +kernel
theorem dX10_isOfData_12 : decode cX10_isOfData 12 = .ok (.aload_n 0, 1) := by decide +kernel
theorem dX10_isOfData_13 : decode cX10_isOfData 13 = .ok (.getfield 14, 3) := by decide +kernel
theorem dX10_isOfData_16 : decode cX10_isOfData 16 = .ok (.invokevirtual 45, 3) := by decide +kernel
theorem dX10_isOfData_19 : decode cX10_isOfData 19 = .ok (.aload_n 0, 1) := by decide +kernel
theorem dX10_isOfData_20 : decode cX10_isOfData 20 = .ok (.getfield 23, 3) := by decide +kernel
theorem dX10_isOfData_23 : decode cX10_isOfData 23 = .ok (.aload_n 0, 1) := by decide +kernel
theorem dX10_isOfData_24 : decode cX10_isOfData 24 = .ok (.getfield 27, 3) := by decide +kernel
theorem dX10_isOfData_27 : decode cX10_isOfData 27 = .ok (.aload_n 0, 1) := by decide +kernel
theorem dX10_isOfData_28 : decode cX10_isOfData 28 = .ok (.iload_n 1, 1) := by decide +kernel
theorem dX10_isOfData_29 : decode cX10_isOfData 29 = .ok (.invokestatic 49, 3) := by decide +kernel
theorem dX10_isOfData_32 : decode cX10_isOfData 32 = .ok (.invokevirtual 53, 3) := by decide +kernel
theorem dX10_isOfData_35 : decode cX10_isOfData 35 = .ok (.invokevirtual 59, 3) := by decide +kernel
theorem dX10_isOfData_38 : decode cX10_isOfData 38 = .ok (.istore_n 3, 1) := by decide +kernel
theorem dX10_isOfData_39 : decode cX10_isOfData 39 = .ok (.aload_n 0, 1) := by decide +kernel
theorem dX10_isOfData_40 : decode cX10_isOfData 40 = .ok (.getfield 23, 3) := by decide +kernel
theorem dX10_isOfData_43 : decode cX10_isOfData 43 = .ok (.iload_n 2, 1) := by decide +kernel
theorem dX10_isOfData_44 : decode cX10_isOfData 44 = .ok (.invokevirtual 65, 3) := by decide +kernel
theorem dX10_isOfData_47 : decode cX10_isOfData 47 = .ok (.iload_n 3, 1) := by decide +kernel
theorem dX10_isOfData_48 : decode cX10_isOfData 48 = .ok (.iconst 2, 1) := by decide +kernel
theorem dX10_isOfData_49 : decode cX10_isOfData 49 = .ok (.if_icmp .ne 7, 3) := by decide +kernel
theorem dX10_isOfData_52 : decode cX10_isOfData 52 = .ok (.iconst 1, 1) := by decide +kernel
theorem dX10_isOfData_53 : decode cX10_isOfData 53 = .ok (.goto 4, 3) := by decide +kernel
theorem dX10_isOfData_56 : decode cX10_isOfData 56 = .ok (.iconst 0, 1) := by decide +kernel
theorem dX10_isOfData_57 : decode cX10_isOfData 57 = .ok (.ireturn, 1) := by decide +kernel
theorem dX10_fits_0 : decode cX10_fits 0 = .ok (.aload_n 0, 1) := by decide +kernel
theorem dX10_fits_1 : decode cX10_fits 1 = .ok (.getfield 23, 3) := by decide +kernel
theorem dX10_fits_4 : decode cX10_fits 4 = .ok (.invokevirtual 39, 3) := by decide +kernel
theorem dX10_fits_7 : decode cX10_fits 7 = .ok (.istore 4, 2) := by decide +kernel
theorem dX10_fits_9 : decode cX10_fits 9 = .ok (.aload_n 0, 1) := by decide +kernel
theorem dX10_fits_10 : decode cX10_fits 10 = .ok (.getfield 20, 3) := by decide +kernel
theorem dX10_fits_13 : decode cX10_fits 13 = .ok (.aload_n 1, 1) := by decide +kernel
theorem dX10_fits_14 : decode cX10_fits 14 = .ok (.invokevirtual 45, 3) := by decide +kernel
theorem dX10_fits_17 : decode cX10_fits 17 = .ok (.aload_n 0, 1) := by decide +kernel
theorem dX10_fits_18 : decode cX10_fits 18 = .ok (.getfield 23, 3) := by decide +kernel
theorem dX10_fits_21 : decode cX10_fits 21 = .ok (.aload_n 0, 1) := by decide +kernel
theorem dX10_fits_22 : decode cX10_fits 22 = .ok (.getfield 27, 3) := by decide +kernel
theorem dX10_fits_25 : decode cX10_fits 25 = .ok (.aload_n 0, 1) := by decide +kernel
theorem dX10_fits_26 : decode cX10_fits 26 = .ok (.iload_n 2, 1) := by decide +kernel
theorem dX10_fits_27 : decode cX10_fits 27 = .ok (.invokestatic 49, 3) := by decide +kernel
theorem dX10_fits_30 : decode cX10_fits 30 = .ok (.invokevirtual 53, 3) := by decide +kernel
theorem dX10_fits_33 : decode cX10_fits 33 = .ok (.iload_n 3, 1) := by decide +kernel
theorem dX10_fits_34 : decode cX10_fits 34 = .ok (.invokestatic 68, 3) := by decide +kernel
theorem dX10_fits_37 : decode cX10_fits 37 = .ok (.istore 5, 2) := by decide +kernel
theorem dX10_fits_39 : decode cX10_fits 39 = .ok (.aload_n 0, 1) := by decide +kernel
theorem dX10_fits_40 : decode cX10_fits 40 = .ok (.getfield 23, 3) := by decide +kernel
theorem dX10_fits_43 : decode cX10_fits 43 = .ok (.iload 4, 2) := by decide +kernel
theorem dX10_fits_45 : decode cX10_fits 45 = .ok (.invokevirtual 65, 3) := by decide +kernel
theorem dX10_fits_48 : decode cX10_fits 48 = .ok (.iload 5, 2) := by decide +kernel
theorem dX10_fits_50 : decode cX10_fits 50 = .ok (.ireturn, 1) := by decide +kernel
theorem dX10_formOf_0 : decode cX10_formOf 0 = .ok (.aload_n 0, 1) := by decide +kernel
theorem dX10_formOf_1 : decode cX10_formOf 1 = .ok (.getfield 23, 3) := by decide +kernel
theorem dX10_formOf_4 : decode cX10_formOf 4 = .ok (.invokevirtual 39, 3) := by decide +kernel
theorem dX10_formOf_7 : decode cX10_formOf 7 = .ok (.istore_n 2, 1) := by decide +kernel
theorem dX10_formOf_8 : decode cX10_formOf 8 = .ok (.aload_n 0, 1) := by decide +kernel
theorem dX10_formOf_9 : decode cX10_formOf 9 = .ok (.getfield 20, 3) := by decide +kernel
theorem dX10_formOf_12 : decode cX10_formOf 12 = .ok (.aload_n 0, 1) := by decide +kernel
theorem dX10_formOf_13 : decode cX10_formOf 13 = .ok (.getfield 14, 3) := by decide +kernel
theorem dX10_formOf_16 : decode cX10_formOf 16 = .ok (.invokevirtual 45, 3) := by decide +kernel
theorem dX10_formOf_19 : decode cX10_formOf 19 = .ok (.aload_n 0, 1) := by decide +kernel
theorem dX10_formOf_20 : decode cX10_formOf 20 = .ok (.getfield 23, 3) := by decide +kernel
theorem dX10_formOf_23 : decode cX10_formOf 23 = .ok (.iload_n 2, 1) := by decide +kernel
theorem dX10_formOf_24 : decode cX10_formOf 24 = .ok (.aload_n 0, 1) := by decide +kernel
theorem dX10_formOf_25 : decode cX10_formOf 25 = .ok (.getfield 27, 3) := by decide +kernel
theorem dX10_formOf_28 : decode cX10_formOf 28 = .ok (.aload_n 0, 1) := by decide +kernel
theorem dX10_formOf_29 : decode cX10_formOf 29 = .ok (.iload_n 1, 1) := by decide +kernel
theorem dX10_formOf_30 : decode cX10_formOf 30 = .ok (.invokestatic 49, 3) := by decide +kernel
theorem dX10_formOf_33 : decode cX10_formOf 33 = .ok (.invokevirtual 53, 3) := by decide +kernel
theorem dX10_formOf_36 : decode cX10_formOf 36 = .ok (.invokevirtual 74, 3) := by decide +kernel
theorem dX10_formOf_39 : decode cX10_formOf 39 = .ok (.ireturn, 1) := by decide +kernel
theorem dX10_find_0 : decode cX10_find 0 = .ok (.aload_n 0, 1) := by decide +kernel
theorem dX10_find_1 : decode cX10_find 1 = .ok (.getfield 23, 3) := by decide +kernel
theorem dX10_find_4 : decode cX10_find 4 = .ok (.astore_n 2, 1) := by decide +kernel
theorem dX10_find_5 : decode cX10_find 5 = .ok (.aload_n 2, 1) := by decide +kernel
theorem dX10_find_6 : decode cX10_find 6 = .ok (.iload_n 1, 1) := by decide +kernel
theorem dX10_find_7 : decode cX10_find 7 = .ok (.invokevirtual 62, 3) := by decide +kernel
theorem dX10_find_10 : decode cX10_find 10 = .ok (.istore_n 3, 1) := by decide +kernel
theorem dX10_find_11 : decode cX10_find 11 = .ok (.aload_n 2, 1) := by decide +kernel
theorem dX10_find_12 : decode cX10_find 12 = .ok (.iload_n 1, 1) := by decide +kernel
theorem dX10_find_13 : decode cX10_find 13 = .ok (.invokevirtual 59, 3) := by decide +kernel
theorem dX10_find_16 : decode cX10_find 16 = .ok (.tableswitch 136 0 7 #[48, 66, 93, 100, 109, 118, 124, 130], 48) := by decide +kernel
theorem dX10_find_64 : decode cX10_find 64 = .ok (.iload_n 3, 1) := by decide +kernel
theorem dX10_find_65 : decode cX10_find 65 = .ok (.iconst 3, 1) := by decide +kernel
theorem dX10_find_66 : decode cX10_find 66 = .ok (.if_icmp .ge 14, 3) := by decide +kernel
theorem dX10_find_69 : decode cX10_find 69 = .ok (.aload_n 2, 1) := by decide +kernel
theorem dX10_find_70 : decode cX10_find 70 = .ok (.iconst 0, 1) := by decide +kernel
theorem dX10_find_71 : decode cX10_find 71 = .ok (.iload_n 3, 1) := by decide +kernel
theorem dX10_find_72 : decode cX10_find 72 = .ok (.iconst 1, 1) := by decide +kernel
theorem dX10_find_73 : decode cX10_find 73 = .ok (.iadd, 1) := by decide +kernel
theorem dX10_find_74 : decode cX10_find 74 = .ok (.invokevirtual 78, 3) := by decide +kernel
theorem dX10_find_77 : decode cX10_find 77 = .ok (.goto 4, 3) := by decide +kernel
theorem dX10_find_80 : decode cX10_find 80 = .ok (.iconst (-1), 1) := by decide +kernel
theorem dX10_find_81 : decode cX10_find 81 = .ok (.ireturn, 1) := by decide +kernel
theorem dX10_find_82 : decode cX10_find 82 = .ok (.aload_n 2, 1) := by decide +kernel
theorem dX10_find_83 : decode cX10_find 83 = .ok (.aload_n 0, 1) := by decide +kernel
theorem dX10_find_84 : decode cX10_find 84 = .ok (.getfield 20, 3) := by decide +kernel
theorem dX10_find_87 : decode cX10_find 87 = .ok (.aload_n 0, 1) := by decide +kernel
theorem dX10_find_88 : decode cX10_find 88 = .ok (.getfield 20, 3) := by decide +kernel
theorem dX10_find_91 : decode cX10_find 91 = .ok (.getfield 81, 3) := by decide +kernel
theorem dX10_find_94 : decode cX10_find 94 = .ok (.iconst 1, 1) := by decide +kernel
theorem dX10_find_95 : decode cX10_find 95 = .ok (.isub, 1) := by decide +kernel
theorem dX10_find_96 : decode cX10_find 96 = .ok (.iload_n 3, 1) := by decide +kernel
theorem dX10_find_97 : decode cX10_find 97 = .ok (.isub, 1) := by decide +kernel
theorem dX10_find_98 : decode cX10_find 98 = .ok (.invokevirtual 85, 3) := by decide +kernel
theorem dX10_find_101 : decode cX10_find 101 = .ok (.iload_n 3, 1) := by decide +kernel
theorem dX10_find_102 : decode cX10_find 102 = .ok (.iconst 1, 1) := by decide +kernel
theorem dX10_find_103 : decode cX10_find 103 = .ok (.iadd, 1) := by decide +kernel
theorem dX10_find_104 : decode cX10_find 104 = .ok (.iconst 0, 1) := by decide +kernel
theorem dX10_find_105 : decode cX10_find 105 = .ok (.invokestatic 88, 3) := by decide +kernel
theorem dX10_find_108 : decode cX10_find 108 = .ok (.ireturn, 1) := by decide +kernel
theorem dX10_find_109 : decode cX10_find 109 = .ok (.aload_n 2, 1) := by decide +kernel
theorem dX10_find_110 : decode cX10_find 110 = .ok (.iconst 0, 1) := by decide +kernel
theorem dX10_find_111 : decode cX10_find 111 = .ok (.iconst 0, 1) := by decide +kernel
theorem dX10_find_112 : decode cX10_find 112 = .ok (.invokevirtual 78, 3) := by decide +kernel
theorem dX10_find_115 : decode cX10_find 115 = .ok (.ireturn, 1) := by decide +kernel
theorem dX10_find_116 : decode cX10_find 116 = .ok (.aload_n 0, 1) := by decide +kernel
theorem dX10_find_117 : decode cX10_find 117 = .ok (.getfield 31, 3) := by decide +kernel
theorem dX10_find_120 : decode cX10_find 120 = .ok (.iload_n 3, 1) := by decide +kernel
theorem dX10_find_121 : decode cX10_find 121 = .ok (.invokevirtual 92, 3) := by decide +kernel
theorem dX10_find_124 : decode cX10_find 124 = .ok (.ireturn, 1) := by decide +kernel
theorem dX10_find_125 : decode cX10_find 125 = .ok (.aload_n 0, 1) := by decide +kernel
theorem dX10_find_126 : decode cX10_find 126 = .ok (.getfield 35, 3) := by decide +kernel
theorem dX10_find_129 : decode cX10_find 129 = .ok (.iload_n 3, 1) := by decide +kernel
theorem dX10_find_130 : decode cX10_find 130 = .ok (.invokevirtual 97, 3) := by decide +kernel
theorem dX10_find_133 : decode cX10_find 133 = .ok (.ireturn, 1) := by decide +kernel
theorem dX10_find_134 : decode cX10_find 134 = .ok (.aload_n 0, 1) := by decide +kernel
theorem dX10_find_135 : decode cX10_find 135 = .ok (.iload_n 1, 1) := by decide +kernel
theorem dX10_find_136 : decode cX10_find 136 = .ok (.invokestatic 102, 3) := by decide +kernel
theorem dX10_find_139 : decode cX10_find 139 = .ok (.ireturn, 1) := by decide +kernel
theorem dX10_find_140 : decode cX10_find 140 = .ok (.aload_n 0, 1) := by decide +kernel
theorem dX10_find_141 : decode cX10_find 141 = .ok (.iload_n 1, 1) := by decide +kernel
theorem dX10_find_142 : decode cX10_find 142 = .ok (.invokestatic 105, 3) := by decide +kernel
theorem dX10_find_145 : decode cX10_find 145 = .ok (.ireturn, 1) := by decide +kernel
theorem dX10_find_146 : decode cX10_find 146 = .ok (.aload_n 0, 1) := by decide +kernel
theorem dX10_find_147 : decode cX10_find 147 = .ok (.iload_n 1, 1) := by decide +kernel
theorem dX10_find_148 : decode cX10_find 148 = .ok (.invokestatic 108, 3) := by decide +kernel
theorem dX10_find_151 : decode cX10_find 151 = .ok (.ireturn, 1) := by decide +kernel
theorem dX10_find_152 : decode cX10_find 152 = .ok (.iconst (-1), 1) := by decide +kernel
theorem dX10_find_153 : decode cX10_find 153 = .ok (.ireturn, 1) := by decide +kernel
theorem dX10_ofFunctions_0 : decode cX10_ofFunctions 0 = .ok (.aload_n 0, 1) := by decide +kernel
theorem dX10_ofFunctions_1 : decode cX10_ofFunctions 1 = .ok (.getfield 23, 3) := by decide +kernel
theorem dX10_ofFunctions_4 : decode cX10_ofFunctions 4 = .ok (.astore_n 2, 1) := by decide +kernel
theorem dX10_ofFunctions_5 : decode cX10_ofFunctions 5 = .ok (.aload_n 2, 1) := by decide +kernel
theorem dX10_ofFunctions_6 : decode cX10_ofFunctions 6 = .ok (.iload_n 1, 1) := by decide +kernel
theorem dX10_ofFunctions_7 : decode cX10_ofFunctions 7 = .ok (.invokevirtual 62, 3) := by decide +kernel
theorem dX10_ofFunctions_10 : decode cX10_ofFunctions 10 = .ok (.istore_n 3, 1) := by decide +kernel
theorem dX10_ofFunctions_11 : decode cX10_ofFunctions 11 = .ok (.aload_n 0, 1) := by decide +kernel
theorem dX10_ofFunctions_12 : decode cX10_ofFunctions 12 = .ok (.getfield 27, 3) := by decide +kernel
theorem dX10_ofFunctions_15 : decode cX10_ofFunctions 15 = .ok (.aload_n 0, 1) := by decide +kernel
theorem dX10_ofFunctions_16 : decode cX10_ofFunctions 16 = .ok (.iload_n 3, 1) := by decide +kernel
theorem dX10_ofFunctions_17 : decode cX10_ofFunctions 17 = .ok (.invokestatic 49, 3) := by decide +kernel
theorem dX10_ofFunctions_20 : decode cX10_ofFunctions 20 = .ok (.invokevirtual 53, 3) := by decide +kernel
theorem dX10_ofFunctions_23 : decode cX10_ofFunctions 23 = .ok (.istore 4, 2) := by decide +kernel
theorem dX10_ofFunctions_25 : decode cX10_ofFunctions 25 = .ok (.aload_n 2, 1) := by decide +kernel
theorem dX10_ofFunctions_26 : decode cX10_ofFunctions 26 = .ok (.iload 4, 2) := by decide +kernel
theorem dX10_ofFunctions_28 : decode cX10_ofFunctions 28 = .ok (.invokevirtual 59, 3) := by decide +kernel
theorem dX10_ofFunctions_31 : decode cX10_ofFunctions 31 = .ok (.ifCond .ne 14, 3) := by decide +kernel
theorem dX10_ofFunctions_34 : decode cX10_ofFunctions 34 = .ok (.aload_n 0, 1) := by decide +kernel
theorem dX10_ofFunctions_35 : decode cX10_ofFunctions 35 = .ok (.getfield 20, 3) := by decide +kernel
theorem dX10_ofFunctions_38 : decode cX10_ofFunctions 38 = .ok (.iload_n 3, 1) := by decide +kernel
theorem dX10_ofFunctions_39 : decode cX10_ofFunctions 39 = .ok (.invokevirtual 111, 3) := by decide +kernel
theorem dX10_ofFunctions_42 : decode cX10_ofFunctions 42 = .ok (.ifCond .ne 5, 3) := by decide +kernel
theorem dX10_ofFunctions_45 : decode cX10_ofFunctions 45 = .ok (.iconst (-1), 1) := by decide +kernel
theorem dX10_ofFunctions_46 : decode cX10_ofFunctions 46 = .ok (.ireturn, 1) := by decide +kernel
theorem dX10_ofFunctions_47 : decode cX10_ofFunctions 47 = .ok (.aload_n 0, 1) := by decide +kernel
theorem dX10_ofFunctions_48 : decode cX10_ofFunctions 48 = .ok (.getfield 27, 3) := by decide +kernel
theorem dX10_ofFunctions_51 : decode cX10_ofFunctions 51 = .ok (.aload_n 0, 1) := by decide +kernel
theorem dX10_ofFunctions_52 : decode cX10_ofFunctions 52 = .ok (.aload_n 2, 1) := by decide +kernel
theorem dX10_ofFunctions_53 : decode cX10_ofFunctions 53 = .ok (.iload_n 1, 1) := by decide +kernel
theorem dX10_ofFunctions_54 : decode cX10_ofFunctions 54 = .ok (.invokevirtual 115, 3) := by decide +kernel
theorem dX10_ofFunctions_57 : decode cX10_ofFunctions 57 = .ok (.invokestatic 49, 3) := by decide +kernel
theorem dX10_ofFunctions_60 : decode cX10_ofFunctions 60 = .ok (.invokevirtual 53, 3) := by decide +kernel
theorem dX10_ofFunctions_63 : decode cX10_ofFunctions 63 = .ok (.istore 5, 2) := by decide +kernel
theorem dX10_ofFunctions_65 : decode cX10_ofFunctions 65 = .ok (.aload_n 0, 1) := by decide +kernel
theorem dX10_ofFunctions_66 : decode cX10_ofFunctions 66 = .ok (.getfield 20, 3) := by decide +kernel
theorem dX10_ofFunctions_69 : decode cX10_ofFunctions 69 = .ok (.invokevirtual 118, 3) := by decide +kernel
theorem dX10_ofFunctions_72 : decode cX10_ofFunctions 72 = .ok (.aload_n 2, 1) := by decide +kernel
theorem dX10_ofFunctions_73 : decode cX10_ofFunctions 73 = .ok (.iload 5, 2) := by decide +kernel
theorem dX10_ofFunctions_75 : decode cX10_ofFunctions 75 = .ok (.invokevirtual 59, 3) := by decide +kernel
theorem dX10_ofFunctions_78 : decode cX10_ofFunctions 78 = .ok (.ifCond .eq 5, 3) := by decide +kernel
theorem dX10_ofFunctions_81 : decode cX10_ofFunctions 81 = .ok (.iconst (-1), 1) := by decide +kernel
theorem dX10_ofFunctions_82 : decode cX10_ofFunctions 82 = .ok (.ireturn, 1) := by decide +kernel
theorem dX10_ofFunctions_83 : decode cX10_ofFunctions 83 = .ok (.aload_n 2, 1) := by decide +kernel
theorem dX10_ofFunctions_84 : decode cX10_ofFunctions 84 = .ok (.iconst 0, 1) := by decide +kernel
theorem dX10_ofFunctions_85 : decode cX10_ofFunctions 85 = .ok (.aload_n 2, 1) := by decide +kernel
theorem dX10_ofFunctions_86 : decode cX10_ofFunctions 86 = .ok (.iload 4, 2) := by decide +kernel
theorem dX10_ofFunctions_88 : decode cX10_ofFunctions 88 = .ok (.invokevirtual 62, 3) := by decide +kernel
theorem dX10_ofFunctions_91 : decode cX10_ofFunctions 91 = .ok (.aload_n 2, 1) := by decide +kernel
theorem dX10_ofFunctions_92 : decode cX10_ofFunctions 92 = .ok (.iload 5, 2) := by decide +kernel
theorem dX10_ofFunctions_94 : decode cX10_ofFunctions 94 = .ok (.invokevirtual 62, 3) := by decide +kernel
theorem dX10_ofFunctions_97 : decode cX10_ofFunctions 97 = .ok (.invokestatic 121, 3) := by decide +kernel
theorem dX10_ofFunctions_100 : decode cX10_ofFunctions 100 = .ok (.invokevirtual 78, 3) := by decide +kernel
theorem dX10_ofFunctions_103 : decode cX10_ofFunctions 103 = .ok (.ireturn, 1) := by decide +kernel
theorem dX10_ofLambda_0 : decode cX10_ofLambda 0 = .ok (.aload_n 0, 1) := by decide +kernel
theorem dX10_ofLambda_1 : decode cX10_ofLambda 1 = .ok (.getfield 23, 3) := by decide +kernel
theorem dX10_ofLambda_4 : decode cX10_ofLambda 4 = .ok (.astore_n 2, 1) := by decide +kernel
theorem dX10_ofLambda_5 : decode cX10_ofLambda 5 = .ok (.aload_n 2, 1) := by decide +kernel
theorem dX10_ofLambda_6 : decode cX10_ofLambda 6 = .ok (.iload_n 1, 1) := by decide +kernel
theorem dX10_ofLambda_7 : decode cX10_ofLambda 7 = .ok (.invokevirtual 62, 3) := by decide +kernel
theorem dX10_ofLambda_10 : decode cX10_ofLambda 10 = .ok (.istore_n 3, 1) := by decide +kernel
theorem dX10_ofLambda_11 : decode cX10_ofLambda 11 = .ok (.aload_n 0, 1) := by decide +kernel
theorem dX10_ofLambda_12 : decode cX10_ofLambda 12 = .ok (.getfield 27, 3) := by decide +kernel
theorem dX10_ofLambda_15 : decode cX10_ofLambda 15 = .ok (.aload_n 0, 1) := by decide +kernel
theorem dX10_ofLambda_16 : decode cX10_ofLambda 16 = .ok (.iload_n 3, 1) := by decide +kernel
theorem dX10_ofLambda_17 : decode cX10_ofLambda 17 = .ok (.invokestatic 49, 3) := by decide +kernel
theorem dX10_ofLambda_20 : decode cX10_ofLambda 20 = .ok (.invokevirtual 53, 3) := by decide +kernel
theorem dX10_ofLambda_23 : decode cX10_ofLambda 23 = .ok (.istore 4, 2) := by decide +kernel
theorem dX10_ofLambda_25 : decode cX10_ofLambda 25 = .ok (.aload_n 2, 1) := by decide +kernel
theorem dX10_ofLambda_26 : decode cX10_ofLambda 26 = .ok (.iload 4, 2) := by decide +kernel
theorem dX10_ofLambda_28 : decode cX10_ofLambda 28 = .ok (.invokevirtual 59, 3) := by decide +kernel
theorem dX10_ofLambda_31 : decode cX10_ofLambda 31 = .ok (.ifCond .ne 14, 3) := by decide +kernel
theorem dX10_ofLambda_34 : decode cX10_ofLambda 34 = .ok (.aload_n 0, 1) := by decide +kernel
theorem dX10_ofLambda_35 : decode cX10_ofLambda 35 = .ok (.getfield 20, 3) := by decide +kernel
theorem dX10_ofLambda_38 : decode cX10_ofLambda 38 = .ok (.iload_n 3, 1) := by decide +kernel
theorem dX10_ofLambda_39 : decode cX10_ofLambda 39 = .ok (.invokevirtual 111, 3) := by decide +kernel
theorem dX10_ofLambda_42 : decode cX10_ofLambda 42 = .ok (.ifCond .ne 5, 3) := by decide +kernel
theorem dX10_ofLambda_45 : decode cX10_ofLambda 45 = .ok (.iconst (-1), 1) := by decide +kernel
theorem dX10_ofLambda_46 : decode cX10_ofLambda 46 = .ok (.ireturn, 1) := by decide +kernel
theorem dX10_ofLambda_47 : decode cX10_ofLambda 47 = .ok (.aload_n 0, 1) := by decide +kernel
theorem dX10_ofLambda_48 : decode cX10_ofLambda 48 = .ok (.aload_n 2, 1) := by decide +kernel
theorem dX10_ofLambda_49 : decode cX10_ofLambda 49 = .ok (.iload_n 1, 1) := by decide +kernel
theorem dX10_ofLambda_50 : decode cX10_ofLambda 50 = .ok (.invokevirtual 115, 3) := by decide +kernel
theorem dX10_ofLambda_53 : decode cX10_ofLambda 53 = .ok (.invokestatic 49, 3) := by decide +kernel
theorem dX10_ofLambda_56 : decode cX10_ofLambda 56 = .ok (.istore 5, 2) := by decide +kernel
theorem dX10_ofLambda_58 : decode cX10_ofLambda 58 = .ok (.aload_n 0, 1) := by decide +kernel
theorem dX10_ofLambda_59 : decode cX10_ofLambda 59 = .ok (.getfield 20, 3) := by decide +kernel
theorem dX10_ofLambda_62 : decode cX10_ofLambda 62 = .ok (.invokevirtual 118, 3) := by decide +kernel
theorem dX10_ofLambda_65 : decode cX10_ofLambda 65 = .ok (.aload_n 2, 1) := by decide +kernel
theorem dX10_ofLambda_66 : decode cX10_ofLambda 66 = .ok (.iconst 5, 1) := by decide +kernel
theorem dX10_ofLambda_67 : decode cX10_ofLambda 67 = .ok (.iload_n 3, 1) := by decide +kernel
theorem dX10_ofLambda_68 : decode cX10_ofLambda 68 = .ok (.iload 5, 2) := by decide +kernel
theorem dX10_ofLambda_70 : decode cX10_ofLambda 70 = .ok (.invokevirtual 126, 3) := by decide +kernel
theorem dX10_ofLambda_73 : decode cX10_ofLambda 73 = .ok (.ireturn, 1) := by decide +kernel
theorem dX10_ofApplication_0 : decode cX10_ofApplication 0 = .ok (.aload_n 0, 1) := by decide +kernel
theorem dX10_ofApplication_1 : decode cX10_ofApplication 1 = .ok (.getfield 23, 3) := by decide +kernel
theorem dX10_ofApplication_4 : decode cX10_ofApplication 4 = .ok (.astore_n 2, 1) := by decide +kernel
theorem dX10_ofApplication_5 : decode cX10_ofApplication 5 = .ok (.aload_n 2, 1) := by decide +kernel
theorem dX10_ofApplication_6 : decode cX10_ofApplication 6 = .ok (.iload_n 1, 1) := by decide +kernel
theorem dX10_ofApplication_7 : decode cX10_ofApplication 7 = .ok (.invokevirtual 115, 3) := by decide +kernel
theorem dX10_ofApplication_10 : decode cX10_ofApplication 10 = .ok (.istore_n 3, 1) := by decide +kernel
theorem dX10_ofApplication_11 : decode cX10_ofApplication 11 = .ok (.aload_n 0, 1) := by decide +kernel
theorem dX10_ofApplication_12 : decode cX10_ofApplication 12 = .ok (.getfield 27, 3) := by decide +kernel
theorem dX10_ofApplication_15 : decode cX10_ofApplication 15 = .ok (.aload_n 0, 1) := by decide +kernel
theorem dX10_ofApplication_16 : decode cX10_ofApplication 16 = .ok (.aload_n 2, 1) := by decide +kernel
theorem dX10_ofApplication_17 : decode cX10_ofApplication 17 = .ok (.iload_n 1, 1) := by decide +kernel
theorem dX10_ofApplication_18 : decode cX10_ofApplication 18 = .ok (.invokevirtual 62, 3) := by decide +kernel
theorem dX10_ofApplication_21 : decode cX10_ofApplication 21 = .ok (.invokestatic 49, 3) := by decide +kernel
theorem dX10_ofApplication_24 : decode cX10_ofApplication 24 = .ok (.invokevirtual 53, 3) := by decide +kernel
theorem dX10_ofApplication_27 : decode cX10_ofApplication 27 = .ok (.istore 4, 2) := by decide +kernel
theorem dX10_ofApplication_29 : decode cX10_ofApplication 29 = .ok (.aload_n 2, 1) := by decide +kernel
theorem dX10_ofApplication_30 : decode cX10_ofApplication 30 = .ok (.iload 4, 2) := by decide +kernel
theorem dX10_ofApplication_32 : decode cX10_ofApplication 32 = .ok (.invokevirtual 59, 3) := by decide +kernel
theorem dX10_ofApplication_35 : decode cX10_ofApplication 35 = .ok (.iconst 5, 1) := by decide +kernel
theorem dX10_ofApplication_36 : decode cX10_ofApplication 36 = .ok (.if_icmp .eq 5, 3) := by decide +kernel
theorem dX10_ofApplication_39 : decode cX10_ofApplication 39 = .ok (.iconst (-1), 1) := by decide +kernel
theorem dX10_ofApplication_40 : decode cX10_ofApplication 40 = .ok (.ireturn, 1) := by decide +kernel
theorem dX10_ofApplication_41 : decode cX10_ofApplication 41 = .ok (.aload_n 2, 1) := by decide +kernel
theorem dX10_ofApplication_42 : decode cX10_ofApplication 42 = .ok (.invokevirtual 39, 3) := by decide +kernel
theorem dX10_ofApplication_45 : decode cX10_ofApplication 45 = .ok (.istore 5, 2) := by decide +kernel
theorem dX10_ofApplication_47 : decode cX10_ofApplication 47 = .ok (.aload_n 2, 1) := by decide +kernel
theorem dX10_ofApplication_48 : decode cX10_ofApplication 48 = .ok (.aload_n 0, 1) := by decide +kernel
theorem dX10_ofApplication_49 : decode cX10_ofApplication 49 = .ok (.getfield 27, 3) := by decide +kernel
theorem dX10_ofApplication_52 : decode cX10_ofApplication 52 = .ok (.aload_n 0, 1) := by decide +kernel
theorem dX10_ofApplication_53 : decode cX10_ofApplication 53 = .ok (.iload_n 3, 1) := by decide +kernel
theorem dX10_ofApplication_54 : decode cX10_ofApplication 54 = .ok (.invokestatic 49, 3) := by decide +kernel
theorem dX10_ofApplication_57 : decode cX10_ofApplication 57 = .ok (.invokevirtual 53, 3) := by decide +kernel
theorem dX10_ofApplication_60 : decode cX10_ofApplication 60 = .ok (.aload_n 2, 1) := by decide +kernel
theorem dX10_ofApplication_61 : decode cX10_ofApplication 61 = .ok (.iload 4, 2) := by decide +kernel
theorem dX10_ofApplication_63 : decode cX10_ofApplication 63 = .ok (.invokevirtual 62, 3) := by decide +kernel
theorem dX10_ofApplication_66 : decode cX10_ofApplication 66 = .ok (.invokestatic 68, 3) := by decide +kernel
theorem dX10_ofApplication_69 : decode cX10_ofApplication 69 = .ok (.istore 6, 2) := by decide +kernel
theorem dX10_ofApplication_71 : decode cX10_ofApplication 71 = .ok (.aload_n 2, 1) := by decide +kernel
theorem dX10_ofApplication_72 : decode cX10_ofApplication 72 = .ok (.iload 5, 2) := by decide +kernel
theorem dX10_ofApplication_74 : decode cX10_ofApplication 74 = .ok (.invokevirtual 65, 3) := by decide +kernel
theorem dX10_ofApplication_77 : decode cX10_ofApplication 77 = .ok (.iload 6, 2) := by decide +kernel
theorem dX10_ofApplication_79 : decode cX10_ofApplication 79 = .ok (.ifCond .eq 18, 3) := by decide +kernel
theorem dX10_ofApplication_82 : decode cX10_ofApplication 82 = .ok (.aload_n 2, 1) := by decide +kernel
theorem dX10_ofApplication_83 : decode cX10_ofApplication 83 = .ok (.aload_n 2, 1) := by decide +kernel
theorem dX10_ofApplication_84 : decode cX10_ofApplication 84 = .ok (.iload 4, 2) := by decide +kernel
theorem dX10_ofApplication_86 : decode cX10_ofApplication 86 = .ok (.invokevirtual 115, 3) := by decide +kernel
theorem dX10_ofApplication_89 : decode cX10_ofApplication 89 = .ok (.iload_n 3, 1) := by decide +kernel
theorem dX10_ofApplication_90 : decode cX10_ofApplication 90 = .ok (.iconst 0, 1) := by decide +kernel
theorem dX10_ofApplication_91 : decode cX10_ofApplication 91 = .ok (.invokestatic 130, 3) := by decide +kernel
theorem dX10_ofApplication_94 : decode cX10_ofApplication 94 = .ok (.goto 4, 3) := by decide +kernel
theorem dX10_ofApplication_97 : decode cX10_ofApplication 97 = .ok (.iconst (-1), 1) := by decide +kernel
theorem dX10_ofApplication_98 : decode cX10_ofApplication 98 = .ok (.ireturn, 1) := by decide +kernel
theorem wm418 : (Jvm.Cond.methodLink "TelescopeCourt$Typing" (39 : Nat) ({ cls := "TelescopeCourt$Terms", name := "mark", desc := "()I" } : Jvm.MethodName)) ∈ W0 := wm_of 418 (by decide +kernel) (by decide +kernel)
theorem wm419 : (Jvm.Cond.methodLink "TelescopeCourt$Typing" (45 : Nat) ({ cls := "TelescopeCourt$Telescope", name := "become", desc := "(LTelescopeCourt$Telescope;)V" } : Jvm.MethodName)) ∈ W0 := wm_of 419 (by decide +kernel) (by decide +kernel)
theorem wm420 : (Jvm.Cond.instanceMethod ({ cls := "TelescopeCourt$Telescope", name := "become", desc := "(LTelescopeCourt$Telescope;)V" } : Jvm.MethodName)) ∈ W0 := wm_of 420 (by decide +kernel) (by decide +kernel)
theorem wm421 : (Jvm.Cond.selects "TelescopeCourt$Telescope" ({ cls := "TelescopeCourt$Telescope", name := "become", desc := "(LTelescopeCourt$Telescope;)V" } : Jvm.MethodName) ({ cls := "TelescopeCourt$Telescope", name := "become", desc := "(LTelescopeCourt$Telescope;)V" } : Jvm.MethodName)) ∈ W0 := wm_of 421 (by decide +kernel) (by decide +kernel)
theorem wm422 : (Jvm.Cond.code ({ cls := "TelescopeCourt$Telescope", name := "become", desc := "(LTelescopeCourt$Telescope;)V" } : Jvm.MethodName) prog_10_method_5_code (3 : Nat) (Option.none : Option Jvm.ClassFile.FieldType)) ∈ W0 := wm_of 422 (by decide +kernel) (by decide +kernel)
theorem wm427 : (Jvm.Cond.methodLink "TelescopeCourt$Typing" (49 : Nat) ({ cls := "TelescopeCourt$Typing", name := "find", desc := "(LTelescopeCourt$Typing;I)I" } : Jvm.MethodName)) ∈ W0 := wm_of 427 (by decide +kernel) (by decide +kernel)
theorem wm428 : (Jvm.Cond.static ({ cls := "TelescopeCourt$Typing", name := "find", desc := "(LTelescopeCourt$Typing;I)I" } : Jvm.MethodName)) ∈ W0 := wm_of 428 (by decide +kernel) (by decide +kernel)
theorem wm429 : (Jvm.Cond.code ({ cls := "TelescopeCourt$Typing", name := "find", desc := "(LTelescopeCourt$Typing;I)I" } : Jvm.MethodName) prog_12_method_6_code (4 : Nat) (Option.some Jvm.ClassFile.FieldType.int)) ∈ W0 := wm_of 429 (by decide +kernel) (by decide +kernel)
theorem wm430 : (Jvm.Cond.methodLink "TelescopeCourt$Typing" (62 : Nat) ({ cls := "TelescopeCourt$Terms", name := "firstOf", desc := "(I)I" } : Jvm.MethodName)) ∈ W0 := wm_of 430 (by decide +kernel) (by decide +kernel)
theorem wm434 : (Jvm.Cond.methodLink "TelescopeCourt$Typing" (59 : Nat) ({ cls := "TelescopeCourt$Terms", name := "kindOf", desc := "(I)I" } : Jvm.MethodName)) ∈ W0 := wm_of 434 (by decide +kernel) (by decide +kernel)
theorem wm438 : (Jvm.Cond.methodLink "TelescopeCourt$Typing" (78 : Nat) ({ cls := "TelescopeCourt$Terms", name := "leaf", desc := "(II)I" } : Jvm.MethodName)) ∈ W0 := wm_of 438 (by decide +kernel) (by decide +kernel)
theorem wm444 : (Jvm.Cond.methodLink "TelescopeCourt$Typing" (85 : Nat) ({ cls := "TelescopeCourt$Telescope", name := "typeAt", desc := "(I)I" } : Jvm.MethodName)) ∈ W0 := wm_of 444 (by decide +kernel) (by decide +kernel)
theorem wm475 : (Jvm.Cond.methodLink "TelescopeCourt$Typing" (92 : Nat) ({ cls := "TelescopeCourt$Signature", name := "typeOfConstructor", desc := "(I)I" } : Jvm.MethodName)) ∈ W0 := wm_of 475 (by decide +kernel) (by decide +kernel)
theorem wm476 : (Jvm.Cond.instanceMethod ({ cls := "TelescopeCourt$Signature", name := "typeOfConstructor", desc := "(I)I" } : Jvm.MethodName)) ∈ W0 := wm_of 476 (by decide +kernel) (by decide +kernel)
theorem wm477 : (Jvm.Cond.selects "TelescopeCourt$Signature" ({ cls := "TelescopeCourt$Signature", name := "typeOfConstructor", desc := "(I)I" } : Jvm.MethodName) ({ cls := "TelescopeCourt$Signature", name := "typeOfConstructor", desc := "(I)I" } : Jvm.MethodName)) ∈ W0 := wm_of 477 (by decide +kernel) (by decide +kernel)
theorem wm478 : (Jvm.Cond.code ({ cls := "TelescopeCourt$Signature", name := "typeOfConstructor", desc := "(I)I" } : Jvm.MethodName) prog_9_method_11_code (2 : Nat) (Option.some Jvm.ClassFile.FieldType.int)) ∈ W0 := wm_of 478 (by decide +kernel) (by decide +kernel)
theorem wm483 : (Jvm.Cond.methodLink "TelescopeCourt$Typing" (97 : Nat) ({ cls := "TelescopeCourt$Docket", name := "typeOfFunction", desc := "(I)I" } : Jvm.MethodName)) ∈ W0 := wm_of 483 (by decide +kernel) (by decide +kernel)
theorem wm484 : (Jvm.Cond.instanceMethod ({ cls := "TelescopeCourt$Docket", name := "typeOfFunction", desc := "(I)I" } : Jvm.MethodName)) ∈ W0 := wm_of 484 (by decide +kernel) (by decide +kernel)
theorem wm485 : (Jvm.Cond.selects "TelescopeCourt$Docket" ({ cls := "TelescopeCourt$Docket", name := "typeOfFunction", desc := "(I)I" } : Jvm.MethodName) ({ cls := "TelescopeCourt$Docket", name := "typeOfFunction", desc := "(I)I" } : Jvm.MethodName)) ∈ W0 := wm_of 485 (by decide +kernel) (by decide +kernel)
theorem wm486 : (Jvm.Cond.code ({ cls := "TelescopeCourt$Docket", name := "typeOfFunction", desc := "(I)I" } : Jvm.MethodName) prog_2_method_4_code (3 : Nat) (Option.some Jvm.ClassFile.FieldType.int)) ∈ W0 := wm_of 486 (by decide +kernel) (by decide +kernel)
theorem wm491 : (Jvm.Cond.methodLink "TelescopeCourt$Typing" (102 : Nat) ({ cls := "TelescopeCourt$Typing", name := "ofFunctions", desc := "(LTelescopeCourt$Typing;I)I" } : Jvm.MethodName)) ∈ W0 := wm_of 491 (by decide +kernel) (by decide +kernel)
theorem wm492 : (Jvm.Cond.static ({ cls := "TelescopeCourt$Typing", name := "ofFunctions", desc := "(LTelescopeCourt$Typing;I)I" } : Jvm.MethodName)) ∈ W0 := wm_of 492 (by decide +kernel) (by decide +kernel)
theorem wm493 : (Jvm.Cond.code ({ cls := "TelescopeCourt$Typing", name := "ofFunctions", desc := "(LTelescopeCourt$Typing;I)I" } : Jvm.MethodName) prog_12_method_7_code (6 : Nat) (Option.some Jvm.ClassFile.FieldType.int)) ∈ W0 := wm_of 493 (by decide +kernel) (by decide +kernel)
theorem wm494 : (Jvm.Cond.methodLink "TelescopeCourt$Typing" (53 : Nat) ({ cls := "TelescopeCourt$Forms", name := "formOf", desc := "(I)I" } : Jvm.MethodName)) ∈ W0 := wm_of 494 (by decide +kernel) (by decide +kernel)
theorem wm541 : (Jvm.Cond.methodLink "TelescopeCourt$Typing" (111 : Nat) ({ cls := "TelescopeCourt$Telescope", name := "push", desc := "(I)Z" } : Jvm.MethodName)) ∈ W0 := wm_of 541 (by decide +kernel) (by decide +kernel)
theorem wm542 : (Jvm.Cond.methodLink "TelescopeCourt$Typing" (115 : Nat) ({ cls := "TelescopeCourt$Terms", name := "secondOf", desc := "(I)I" } : Jvm.MethodName)) ∈ W0 := wm_of 542 (by decide +kernel) (by decide +kernel)
theorem wm543 : (Jvm.Cond.methodLink "TelescopeCourt$Typing" (118 : Nat) ({ cls := "TelescopeCourt$Telescope", name := "pop", desc := "()V" } : Jvm.MethodName)) ∈ W0 := wm_of 543 (by decide +kernel) (by decide +kernel)
theorem wm544 : (Jvm.Cond.instanceMethod ({ cls := "TelescopeCourt$Telescope", name := "pop", desc := "()V" } : Jvm.MethodName)) ∈ W0 := wm_of 544 (by decide +kernel) (by decide +kernel)
theorem wm545 : (Jvm.Cond.selects "TelescopeCourt$Telescope" ({ cls := "TelescopeCourt$Telescope", name := "pop", desc := "()V" } : Jvm.MethodName) ({ cls := "TelescopeCourt$Telescope", name := "pop", desc := "()V" } : Jvm.MethodName)) ∈ W0 := wm_of 545 (by decide +kernel) (by decide +kernel)
theorem wm546 : (Jvm.Cond.code ({ cls := "TelescopeCourt$Telescope", name := "pop", desc := "()V" } : Jvm.MethodName) prog_10_method_3_code (1 : Nat) (Option.none : Option Jvm.ClassFile.FieldType)) ∈ W0 := wm_of 546 (by decide +kernel) (by decide +kernel)
theorem wm547 : (Jvm.Cond.methodLink "TelescopeCourt$Typing" (121 : Nat) ({ cls := "java/lang/Math", name := "max", desc := "(II)I" } : Jvm.MethodName)) ∈ W0 := wm_of 547 (by decide +kernel) (by decide +kernel)
theorem wm548 : (Jvm.Cond.methodLink "TelescopeCourt$Typing" (105 : Nat) ({ cls := "TelescopeCourt$Typing", name := "ofLambda", desc := "(LTelescopeCourt$Typing;I)I" } : Jvm.MethodName)) ∈ W0 := wm_of 548 (by decide +kernel) (by decide +kernel)
theorem wm549 : (Jvm.Cond.static ({ cls := "TelescopeCourt$Typing", name := "ofLambda", desc := "(LTelescopeCourt$Typing;I)I" } : Jvm.MethodName)) ∈ W0 := wm_of 549 (by decide +kernel) (by decide +kernel)
theorem wm550 : (Jvm.Cond.code ({ cls := "TelescopeCourt$Typing", name := "ofLambda", desc := "(LTelescopeCourt$Typing;I)I" } : Jvm.MethodName) prog_12_method_8_code (6 : Nat) (Option.some Jvm.ClassFile.FieldType.int)) ∈ W0 := wm_of 550 (by decide +kernel) (by decide +kernel)
theorem wm551 : (Jvm.Cond.methodLink "TelescopeCourt$Typing" (126 : Nat) ({ cls := "TelescopeCourt$Terms", name := "pair", desc := "(III)I" } : Jvm.MethodName)) ∈ W0 := wm_of 551 (by decide +kernel) (by decide +kernel)
theorem wm552 : (Jvm.Cond.methodLink "TelescopeCourt$Typing" (108 : Nat) ({ cls := "TelescopeCourt$Typing", name := "ofApplication", desc := "(LTelescopeCourt$Typing;I)I" } : Jvm.MethodName)) ∈ W0 := wm_of 552 (by decide +kernel) (by decide +kernel)
theorem wm553 : (Jvm.Cond.static ({ cls := "TelescopeCourt$Typing", name := "ofApplication", desc := "(LTelescopeCourt$Typing;I)I" } : Jvm.MethodName)) ∈ W0 := wm_of 553 (by decide +kernel) (by decide +kernel)
theorem wm554 : (Jvm.Cond.code ({ cls := "TelescopeCourt$Typing", name := "ofApplication", desc := "(LTelescopeCourt$Typing;I)I" } : Jvm.MethodName) prog_12_method_9_code (7 : Nat) (Option.some Jvm.ClassFile.FieldType.int)) ∈ W0 := wm_of 554 (by decide +kernel) (by decide +kernel)
theorem wm561 : (Jvm.Cond.methodLink "TelescopeCourt$Typing" (65 : Nat) ({ cls := "TelescopeCourt$Terms", name := "release", desc := "(I)V" } : Jvm.MethodName)) ∈ W0 := wm_of 561 (by decide +kernel) (by decide +kernel)
theorem wm563 : (Jvm.Cond.methodLink "TelescopeCourt$Typing" (74 : Nat) ({ cls := "TelescopeCourt$Terms", name := "keep", desc := "(II)I" } : Jvm.MethodName)) ∈ W0 := wm_of 563 (by decide +kernel) (by decide +kernel)
theorem nw186 : (Jvm.Cond.fieldLinkNest "TelescopeCourt$Typing" (81 : Nat) "TelescopeCourt$Telescope" "many" "I" "TelescopeCourt") ∈ NW := nw_of 186 (by decide +kernel) (by decide +kernel)
theorem nw448 : (Jvm.Cond.methodLinkNest "TelescopeCourt$Typing" (88 : Nat) ({ cls := "TelescopeCourt$Moves", name := "lift", desc := "(LTelescopeCourt$Terms;III)I" } : Jvm.MethodName) "TelescopeCourt") ∈ NW := nw_of 448 (by decide +kernel) (by decide +kernel)
theorem nw555 : (Jvm.Cond.methodLinkNest "TelescopeCourt$Typing" (68 : Nat) ({ cls := "TelescopeCourt$Moves", name := "same", desc := "(LTelescopeCourt$Terms;II)Z" } : Jvm.MethodName) "TelescopeCourt") ∈ NW := nw_of 555 (by decide +kernel) (by decide +kernel)
theorem nw562 : (Jvm.Cond.methodLinkNest "TelescopeCourt$Typing" (130 : Nat) ({ cls := "TelescopeCourt$Moves", name := "put", desc := "(LTelescopeCourt$Terms;III)I" } : Jvm.MethodName) "TelescopeCourt") ∈ NW := nw_of 562 (by decide +kernel) (by decide +kernel)
