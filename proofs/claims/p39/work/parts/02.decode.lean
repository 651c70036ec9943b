theorem dX0_init_0 : decode cX0_init 0 = .ok (.aload_n 0, 1) := by decide +kernel
theorem dX0_init_1 : decode cX0_init 1 = .ok (.invokespecial 3, 3) := by decide +kernel
theorem dX0_init_4 : decode cX0_init 4 = .ok (.aload_n 0, 1) := by decide +kernel
theorem dX0_init_5 : decode cX0_init 5 = .ok (.bipush 8, 2) := by decide +kernel
theorem dX0_init_7 : decode cX0_init 7 = .ok (.anewarray 9, 3) := by decide +kernel
theorem dX0_init_10 : decode cX0_init 10 = .ok (.putfield 11, 3) := by decide +kernel
theorem dX0_init_13 : decode cX0_init 13 = .ok (.aload_n 0, 1) := by decide +kernel
theorem dX0_init_14 : decode cX0_init 14 = .ok (.bipush 40, 2) := by decide +kernel
theorem dX0_init_16 : decode cX0_init 16 = .ok (.anewarray 17, 3) := by decide +kernel
theorem dX0_init_19 : decode cX0_init 19 = .ok (.putfield 19, 3) := by decide +kernel
theorem dX0_init_22 : decode cX0_init 22 = .ok (.aload_n 0, 1) := by decide +kernel
theorem dX0_init_23 : decode cX0_init 23 = .ok (.aload_n 1, 1) := by decide +kernel
theorem dX0_init_24 : decode cX0_init 24 = .ok (.putfield 23, 3) := by decide +kernel
theorem dX0_init_27 : decode cX0_init 27 = .ok (.aload_n 0, 1) := by decide +kernel
theorem dX0_init_28 : decode cX0_init 28 = .ok (.aload_n 2, 1) := by decide +kernel
theorem dX0_init_29 : decode cX0_init 29 = .ok (.putfield 27, 3) := by decide +kernel
theorem dX0_init_32 : decode cX0_init 32 = .ok (.aload_n 0, 1) := by decide +kernel
theorem dX0_init_33 : decode cX0_init 33 = .ok (.aload_n 3, 1) := by decide +kernel
theorem dX0_init_34 : decode cX0_init 34 = .ok (.putfield 31, 3) := by decide +kernel
theorem dX0_init_37 : decode cX0_init 37 = .ok (.return_, 1) := by decide +kernel
theorem dX1_init_0 : decode cX1_init 0 = .ok (.aload_n 0, 1) := by decide +kernel
theorem dX1_init_1 : decode cX1_init 1 = .ok (.invokespecial 3, 3) := by decide +kernel
theorem dX1_init_4 : decode cX1_init 4 = .ok (.aload_n 0, 1) := by decide +kernel
theorem dX1_init_5 : decode cX1_init 5 = .ok (.bipush 80, 2) := by decide +kernel
theorem dX1_init_7 : decode cX1_init 7 = .ok (.newarray .int, 2) := by decide +kernel
theorem dX1_init_9 : decode cX1_init 9 = .ok (.putfield 9, 3) := by decide +kernel
theorem dX1_init_12 : decode cX1_init 12 = .ok (.aload_n 0, 1) := by decide +kernel
theorem dX1_init_13 : decode cX1_init 13 = .ok (.aload_n 1, 1) := by decide +kernel
theorem dX1_init_14 : decode cX1_init 14 = .ok (.putfield 15, 3) := by decide +kernel
theorem dX1_init_17 : decode cX1_init 17 = .ok (.return_, 1) := by decide +kernel
theorem dX1_formOf_0 : decode cX1_formOf 0 = .ok (.aload_n 0, 1) := by decide +kernel
theorem dX1_formOf_1 : decode cX1_formOf 1 = .ok (.getfield 15, 3) := by decide +kernel
theorem dX1_formOf_4 : decode cX1_formOf 4 = .ok (.invokevirtual 19, 3) := by decide +kernel
theorem dX1_formOf_7 : decode cX1_formOf 7 = .ok (.istore_n 2, 1) := by decide +kernel
theorem dX1_formOf_8 : decode cX1_formOf 8 = .ok (.iload_n 1, 1) := by decide +kernel
theorem dX1_formOf_9 : decode cX1_formOf 9 = .ok (.istore_n 3, 1) := by decide +kernel
theorem dX1_formOf_10 : decode cX1_formOf 10 = .ok (.iconst 0, 1) := by decide +kernel
theorem dX1_formOf_11 : decode cX1_formOf 11 = .ok (.istore 4, 2) := by decide +kernel
theorem dX1_formOf_13 : decode cX1_formOf 13 = .ok (.iload 4, 2) := by decide +kernel
theorem dX1_formOf_15 : decode cX1_formOf 15 = .ok (.bipush 20, 2) := by decide +kernel
theorem dX1_formOf_17 : decode cX1_formOf 17 = .ok (.if_icmp .gt 96, 3) := by decide +kernel
theorem dX1_formOf_20 : decode cX1_formOf 20 = .ok (.iload_n 3, 1) := by decide +kernel
theorem dX1_formOf_21 : decode cX1_formOf 21 = .ok (.iconst (-1), 1) := by decide +kernel
theorem dX1_formOf_22 : decode cX1_formOf 22 = .ok (.if_icmp .eq 91, 3) := by decide +kernel
theorem dX1_formOf_25 : decode cX1_formOf 25 = .ok (.aload_n 0, 1) := by decide +kernel
theorem dX1_formOf_26 : decode cX1_formOf 26 = .ok (.getfield 15, 3) := by decide +kernel
theorem dX1_formOf_29 : decode cX1_formOf 29 = .ok (.iload_n 3, 1) := by decide +kernel
theorem dX1_formOf_30 : decode cX1_formOf 30 = .ok (.invokevirtual 25, 3) := by decide +kernel
theorem dX1_formOf_33 : decode cX1_formOf 33 = .ok (.bipush 80, 2) := by decide +kernel
theorem dX1_formOf_35 : decode cX1_formOf 35 = .ok (.if_icmp .le 6, 3) := by decide +kernel
theorem dX1_formOf_38 : decode cX1_formOf 38 = .ok (.goto 75, 3) := by decide +kernel
theorem dX1_formOf_41 : decode cX1_formOf 41 = .ok (.aload_n 0, 1) := by decide +kernel
theorem dX1_formOf_42 : decode cX1_formOf 42 = .ok (.getfield 15, 3) := by decide +kernel
theorem dX1_formOf_45 : decode cX1_formOf 45 = .ok (.iload_n 3, 1) := by decide +kernel
theorem dX1_formOf_46 : decode cX1_formOf 46 = .ok (.invokevirtual 29, 3) := by decide +kernel
theorem dX1_formOf_49 : decode cX1_formOf 49 = .ok (.ifCond .ne 13, 3) := by decide +kernel
theorem dX1_formOf_52 : decode cX1_formOf 52 = .ok (.aload_n 0, 1) := by decide +kernel
theorem dX1_formOf_53 : decode cX1_formOf 53 = .ok (.getfield 15, 3) := by decide +kernel
theorem dX1_formOf_56 : decode cX1_formOf 56 = .ok (.iload_n 2, 1) := by decide +kernel
theorem dX1_formOf_57 : decode cX1_formOf 57 = .ok (.iload_n 3, 1) := by decide +kernel
theorem dX1_formOf_58 : decode cX1_formOf 58 = .ok (.invokevirtual 33, 3) := by decide +kernel
theorem dX1_formOf_61 : decode cX1_formOf 61 = .ok (.ireturn, 1) := by decide +kernel
theorem dX1_formOf_62 : decode cX1_formOf 62 = .ok (.aload_n 0, 1) := by decide +kernel
theorem dX1_formOf_63 : decode cX1_formOf 63 = .ok (.iload_n 3, 1) := by decide +kernel
theorem dX1_formOf_64 : decode cX1_formOf 64 = .ok (.invokevirtual 37, 3) := by decide +kernel
theorem dX1_formOf_67 : decode cX1_formOf 67 = .ok (.istore 5, 2) := by decide +kernel
theorem dX1_formOf_69 : decode cX1_formOf 69 = .ok (.aload_n 0, 1) := by decide +kernel
theorem dX1_formOf_70 : decode cX1_formOf 70 = .ok (.aload_n 0, 1) := by decide +kernel
theorem dX1_formOf_71 : decode cX1_formOf 71 = .ok (.getfield 15, 3) := by decide +kernel
theorem dX1_formOf_74 : decode cX1_formOf 74 = .ok (.aload_n 0, 1) := by decide +kernel
theorem dX1_formOf_75 : decode cX1_formOf 75 = .ok (.getfield 15, 3) := by decide +kernel
theorem dX1_formOf_78 : decode cX1_formOf 78 = .ok (.aload_n 0, 1) := by decide +kernel
theorem dX1_formOf_79 : decode cX1_formOf 79 = .ok (.getfield 15, 3) := by decide +kernel
theorem dX1_formOf_82 : decode cX1_formOf 82 = .ok (.iload 5, 2) := by decide +kernel
theorem dX1_formOf_84 : decode cX1_formOf 84 = .ok (.invokevirtual 40, 3) := by decide +kernel
theorem dX1_formOf_87 : decode cX1_formOf 87 = .ok (.invokevirtual 43, 3) := by decide +kernel
theorem dX1_formOf_90 : decode cX1_formOf 90 = .ok (.aload_n 0, 1) := by decide +kernel
theorem dX1_formOf_91 : decode cX1_formOf 91 = .ok (.getfield 15, 3) := by decide +kernel
theorem dX1_formOf_94 : decode cX1_formOf 94 = .ok (.iload 5, 2) := by decide +kernel
theorem dX1_formOf_96 : decode cX1_formOf 96 = .ok (.invokevirtual 43, 3) := by decide +kernel
theorem dX1_formOf_99 : decode cX1_formOf 99 = .ok (.iconst 0, 1) := by decide +kernel
theorem dX1_formOf_100 : decode cX1_formOf 100 = .ok (.invokestatic 46, 3) := by decide +kernel
theorem dX1_formOf_103 : decode cX1_formOf 103 = .ok (.invokevirtual 52, 3) := by decide +kernel
theorem dX1_formOf_106 : decode cX1_formOf 106 = .ok (.istore_n 3, 1) := by decide +kernel
theorem dX1_formOf_107 : decode cX1_formOf 107 = .ok (.iinc 4 1, 3) := by decide +kernel
theorem dX1_formOf_110 : decode cX1_formOf 110 = .ok (.goto (-97), 3) := by decide +kernel
theorem dX1_formOf_113 : decode cX1_formOf 113 = .ok (.aload_n 0, 1) := by decide +kernel
theorem dX1_formOf_114 : decode cX1_formOf 114 = .ok (.getfield 15, 3) := by decide +kernel
theorem dX1_formOf_117 : decode cX1_formOf 117 = .ok (.iload_n 2, 1) := by decide +kernel
theorem dX1_formOf_118 : decode cX1_formOf 118 = .ok (.invokevirtual 55, 3) := by decide +kernel
theorem dX1_formOf_121 : decode cX1_formOf 121 = .ok (.iconst (-1), 1) := by decide +kernel
theorem dX1_formOf_122 : decode cX1_formOf 122 = .ok (.ireturn, 1) := by decide +kernel
theorem dX1_goDown_0 : decode cX1_goDown 0 = .ok (.iload_n 1, 1) := by decide +kernel
theorem dX1_goDown_1 : decode cX1_goDown 1 = .ok (.istore_n 2, 1) := by decide +kernel
theorem dX1_goDown_2 : decode cX1_goDown 2 = .ok (.aload_n 0, 1) := by decide +kernel
theorem dX1_goDown_3 : decode cX1_goDown 3 = .ok (.iconst 0, 1) := by decide +kernel
theorem dX1_goDown_4 : decode cX1_goDown 4 = .ok (.putfield 59, 3) := by decide +kernel
theorem dX1_goDown_7 : decode cX1_goDown 7 = .ok (.aload_n 0, 1) := by decide +kernel
theorem dX1_goDown_8 : decode cX1_goDown 8 = .ok (.getfield 15, 3) := by decide +kernel
theorem dX1_goDown_11 : decode cX1_goDown 11 = .ok (.aload_n 0, 1) := by decide +kernel
theorem dX1_goDown_12 : decode cX1_goDown 12 = .ok (.getfield 15, 3) := by decide +kernel
theorem dX1_goDown_15 : decode cX1_goDown 15 = .ok (.iload_n 2, 1) := by decide +kernel
theorem dX1_goDown_16 : decode cX1_goDown 16 = .ok (.invokevirtual 40, 3) := by decide +kernel
theorem dX1_goDown_19 : decode cX1_goDown 19 = .ok (.invokevirtual 63, 3) := by decide +kernel
theorem dX1_goDown_22 : decode cX1_goDown 22 = .ok (.bipush 6, 2) := by decide +kernel
theorem dX1_goDown_24 : decode cX1_goDown 24 = .ok (.if_icmp .ne 16, 3) := by decide +kernel
theorem dX1_goDown_27 : decode cX1_goDown 27 = .ok (.aload_n 0, 1) := by decide +kernel
theorem dX1_goDown_28 : decode cX1_goDown 28 = .ok (.getfield 15, 3) := by decide +kernel
theorem dX1_goDown_31 : decode cX1_goDown 31 = .ok (.iload_n 2, 1) := by decide +kernel
theorem dX1_goDown_32 : decode cX1_goDown 32 = .ok (.invokevirtual 63, 3) := by decide +kernel
theorem dX1_goDown_35 : decode cX1_goDown 35 = .ok (.bipush 7, 2) := by decide +kernel
theorem dX1_goDown_37 : decode cX1_goDown 37 = .ok (.if_icmp .eq 78, 3) := by decide +kernel
theorem dX1_goDown_40 : decode cX1_goDown 40 = .ok (.aload_n 0, 1) := by decide +kernel
theorem dX1_goDown_41 : decode cX1_goDown 41 = .ok (.getfield 59, 3) := by decide +kernel
theorem dX1_goDown_44 : decode cX1_goDown 44 = .ok (.aload_n 0, 1) := by decide +kernel
theorem dX1_goDown_45 : decode cX1_goDown 45 = .ok (.getfield 9, 3) := by decide +kernel
theorem dX1_goDown_48 : decode cX1_goDown 48 = .ok (.arraylength, 1) := by decide +kernel
theorem dX1_goDown_49 : decode cX1_goDown 49 = .ok (.if_icmp .lt 5, 3) := by decide +kernel
theorem dX1_goDown_52 : decode cX1_goDown 52 = .ok (.iconst (-1), 1) := by decide +kernel
theorem dX1_goDown_53 : decode cX1_goDown 53 = .ok (.ireturn, 1) := by decide +kernel
theorem dX1_goDown_54 : decode cX1_goDown 54 = .ok (.aload_n 0, 1) := by decide +kernel
theorem dX1_goDown_55 : decode cX1_goDown 55 = .ok (.getfield 9, 3) := by decide +kernel
theorem dX1_goDown_58 : decode cX1_goDown 58 = .ok (.aload_n 0, 1) := by decide +kernel
theorem dX1_goDown_59 : decode cX1_goDown 59 = .ok (.getfield 59, 3) := by decide +kernel
theorem dX1_goDown_62 : decode cX1_goDown 62 = .ok (.iload_n 2, 1) := by decide +kernel
theorem dX1_goDown_63 : decode cX1_goDown 63 = .ok (.iastore, 1) := by decide +kernel
theorem dX1_goDown_64 : decode cX1_goDown 64 = .ok (.aload_n 0, 1) := by decide +kernel
theorem dX1_goDown_65 : decode cX1_goDown 65 = .ok (.dup, 1) := by decide +kernel
theorem dX1_goDown_66 : decode cX1_goDown 66 = .ok (.getfield 59, 3) := by decide +kernel
theorem dX1_goDown_69 : decode cX1_goDown 69 = .ok (.iconst 1, 1) := by decide +kernel
theorem dX1_goDown_70 : decode cX1_goDown 70 = .ok (.iadd, 1) := by decide +kernel
theorem dX1_goDown_71 : decode cX1_goDown 71 = .ok (.putfield 59, 3) := by decide +kernel
theorem dX1_goDown_74 : decode cX1_goDown 74 = .ok (.aload_n 0, 1) := by decide +kernel
theorem dX1_goDown_75 : decode cX1_goDown 75 = .ok (.getfield 15, 3) := by decide +kernel
theorem dX1_goDown_78 : decode cX1_goDown 78 = .ok (.aload_n 0, 1) := by decide +kernel
theorem dX1_goDown_79 : decode cX1_goDown 79 = .ok (.getfield 15, 3) := by decide +kernel
theorem dX1_goDown_82 : decode cX1_goDown 82 = .ok (.iload_n 2, 1) := by decide +kernel
theorem dX1_goDown_83 : decode cX1_goDown 83 = .ok (.invokevirtual 40, 3) := by decide +kernel
theorem dX1_goDown_86 : decode cX1_goDown 86 = .ok (.invokevirtual 29, 3) := by decide +kernel
theorem dX1_goDown_89 : decode cX1_goDown 89 = .ok (.ifCond .eq 14, 3) := by decide +kernel
theorem dX1_goDown_92 : decode cX1_goDown 92 = .ok (.aload_n 0, 1) := by decide +kernel
theorem dX1_goDown_93 : decode cX1_goDown 93 = .ok (.getfield 15, 3) := by decide +kernel
theorem dX1_goDown_96 : decode cX1_goDown 96 = .ok (.iload_n 2, 1) := by decide +kernel
theorem dX1_goDown_97 : decode cX1_goDown 97 = .ok (.invokevirtual 40, 3) := by decide +kernel
theorem dX1_goDown_100 : decode cX1_goDown 100 = .ok (.goto 11, 3) := by decide +kernel
theorem dX1_goDown_103 : decode cX1_goDown 103 = .ok (.aload_n 0, 1) := by decide +kernel
theorem dX1_goDown_104 : decode cX1_goDown 104 = .ok (.getfield 15, 3) := by decide +kernel
theorem dX1_goDown_107 : decode cX1_goDown 107 = .ok (.iload_n 2, 1) := by decide +kernel
theorem dX1_goDown_108 : decode cX1_goDown 108 = .ok (.invokevirtual 43, 3) := by decide +kernel
theorem dX1_goDown_111 : decode cX1_goDown 111 = .ok (.istore_n 2, 1) := by decide +kernel
theorem dX1_goDown_112 : decode cX1_goDown 112 = .ok (.goto (-105), 3) := by decide +kernel
theorem dX1_goDown_115 : decode cX1_goDown 115 = .ok (.iload_n 2, 1) := by decide +kernel
theorem dX1_goDown_116 : decode cX1_goDown 116 = .ok (.ireturn, 1) := by decide +kernel
theorem dX1_goUp_0 : decode cX1_goUp 0 = .ok (.iload_n 1, 1) := by decide +kernel
theorem dX1_goUp_1 : decode cX1_goUp 1 = .ok (.istore_n 2, 1) := by decide +kernel
theorem dX1_goUp_2 : decode cX1_goUp 2 = .ok (.aload_n 0, 1) := by decide +kernel
theorem dX1_goUp_3 : decode cX1_goUp 3 = .ok (.getfield 59, 3) := by decide +kernel
theorem dX1_goUp_6 : decode cX1_goUp 6 = .ok (.iconst 1, 1) := by decide +kernel
theorem dX1_goUp_7 : decode cX1_goUp 7 = .ok (.isub, 1) := by decide +kernel
theorem dX1_goUp_8 : decode cX1_goUp 8 = .ok (.istore_n 3, 1) := by decide +kernel
theorem dX1_goUp_9 : decode cX1_goUp 9 = .ok (.iload_n 3, 1) := by decide +kernel
theorem dX1_goUp_10 : decode cX1_goUp 10 = .ok (.ifCond .lt 101, 3) := by decide +kernel
theorem dX1_goUp_13 : decode cX1_goUp 13 = .ok (.iload_n 2, 1) := by decide +kernel
theorem dX1_goUp_14 : decode cX1_goUp 14 = .ok (.iconst (-1), 1) := by decide +kernel
theorem dX1_goUp_15 : decode cX1_goUp 15 = .ok (.if_icmp .eq 96, 3) := by decide +kernel
theorem dX1_goUp_18 : decode cX1_goUp 18 = .ok (.aload_n 0, 1) := by decide +kernel
theorem dX1_goUp_19 : decode cX1_goUp 19 = .ok (.getfield 9, 3) := by decide +kernel
theorem dX1_goUp_22 : decode cX1_goUp 22 = .ok (.iload_n 3, 1) := by decide +kernel
theorem dX1_goUp_23 : decode cX1_goUp 23 = .ok (.iaload, 1) := by decide +kernel
theorem dX1_goUp_24 : decode cX1_goUp 24 = .ok (.istore 4, 2) := by decide +kernel
theorem dX1_goUp_26 : decode cX1_goUp 26 = .ok (.aload_n 0, 1) := by decide +kernel
theorem dX1_goUp_27 : decode cX1_goUp 27 = .ok (.getfield 15, 3) := by decide +kernel
theorem dX1_goUp_30 : decode cX1_goUp 30 = .ok (.aload_n 0, 1) := by decide +kernel
theorem dX1_goUp_31 : decode cX1_goUp 31 = .ok (.getfield 15, 3) := by decide +kernel
theorem dX1_goUp_34 : decode cX1_goUp 34 = .ok (.iload 4, 2) := by decide +kernel
theorem dX1_goUp_36 : decode cX1_goUp 36 = .ok (.invokevirtual 40, 3) := by decide +kernel
theorem dX1_goUp_39 : decode cX1_goUp 39 = .ok (.invokevirtual 29, 3) := by decide +kernel
theorem dX1_goUp_42 : decode cX1_goUp 42 = .ok (.istore 5, 2) := by decide +kernel
theorem dX1_goUp_44 : decode cX1_goUp 44 = .ok (.iload 5, 2) := by decide +kernel
theorem dX1_goUp_46 : decode cX1_goUp 46 = .ok (.ifCond .eq 32, 3) := by decide +kernel
theorem dX1_goUp_49 : decode cX1_goUp 49 = .ok (.aload_n 0, 1) := by decide +kernel
theorem dX1_goUp_50 : decode cX1_goUp 50 = .ok (.getfield 15, 3) := by decide +kernel
theorem dX1_goUp_53 : decode cX1_goUp 53 = .ok (.aload_n 0, 1) := by decide +kernel
theorem dX1_goUp_54 : decode cX1_goUp 54 = .ok (.getfield 15, 3) := by decide +kernel
theorem dX1_goUp_57 : decode cX1_goUp 57 = .ok (.iload 4, 2) := by decide +kernel
theorem dX1_goUp_59 : decode cX1_goUp 59 = .ok (.invokevirtual 63, 3) := by decide +kernel
theorem dX1_goUp_62 : decode cX1_goUp 62 = .ok (.iload_n 2, 1) := by decide +kernel
theorem dX1_goUp_63 : decode cX1_goUp 63 = .ok (.aload_n 0, 1) := by decide +kernel
theorem dX1_goUp_64 : decode cX1_goUp 64 = .ok (.getfield 15, 3) := by decide +kernel
theorem dX1_goUp_67 : decode cX1_goUp 67 = .ok (.iload 4, 2) := by decide +kernel
theorem dX1_goUp_69 : decode cX1_goUp 69 = .ok (.invokevirtual 43, 3) := by decide +kernel
theorem dX1_goUp_72 : decode cX1_goUp 72 = .ok (.invokevirtual 66, 3) := by decide +kernel
theorem dX1_goUp_75 : decode cX1_goUp 75 = .ok (.goto 29, 3) := by decide +kernel
theorem dX1_goUp_78 : decode cX1_goUp 78 = .ok (.aload_n 0, 1) := by decide +kernel
theorem dX1_goUp_79 : decode cX1_goUp 79 = .ok (.getfield 15, 3) := by decide +kernel
theorem dX1_goUp_82 : decode cX1_goUp 82 = .ok (.aload_n 0, 1) := by decide +kernel
theorem dX1_goUp_83 : decode cX1_goUp 83 = .ok (.getfield 15, 3) := by decide +kernel
theorem dX1_goUp_86 : decode cX1_goUp 86 = .ok (.iload 4, 2) := by decide +kernel
theorem dX1_goUp_88 : decode cX1_goUp 88 = .ok (.invokevirtual 63, 3) := by decide +kernel
theorem dX1_goUp_91 : decode cX1_goUp 91 = .ok (.aload_n 0, 1) := by decide +kernel
theorem dX1_goUp_92 : decode cX1_goUp 92 = .ok (.getfield 15, 3) := by decide +kernel
theorem dX1_goUp_95 : decode cX1_goUp 95 = .ok (.iload 4, 2) := by decide +kernel
theorem dX1_goUp_97 : decode cX1_goUp 97 = .ok (.invokevirtual 40, 3) := by decide +kernel
theorem dX1_goUp_100 : decode cX1_goUp 100 = .ok (.iload_n 2, 1) := by decide +kernel
theorem dX1_goUp_101 : decode cX1_goUp 101 = .ok (.invokevirtual 66, 3) := by decide +kernel
theorem dX1_goUp_104 : decode cX1_goUp 104 = .ok (.istore_n 2, 1) := by decide +kernel
theorem dX1_goUp_105 : decode cX1_goUp 105 = .ok (.iinc 3 (-1), 3) := by decide +kernel
theorem dX1_goUp_108 : decode cX1_goUp 108 = .ok (.goto (-99), 3) := by decide +kernel
theorem dX1_goUp_111 : decode cX1_goUp 111 = .ok (.iload_n 2, 1) := by decide +kernel
theorem dX1_goUp_112 : decode cX1_goUp 112 = .ok (.ireturn, 1) := by decide +kernel
theorem dX4_init_0 : decode cX4_init 0 = .ok (.aload_n 0, 1) := by decide +kernel
theorem dX4_init_1 : decode cX4_init 1 = .ok (.invokespecial 3, 3) := by decide +kernel
theorem dX4_init_4 : decode cX4_init 4 = .ok (.aload_n 0, 1) := by decide +kernel
theorem dX4_init_5 : decode cX4_init 5 = .ok (.sipush 200, 3) := by decide +kernel
theorem dX4_init_8 : decode cX4_init 8 = .ok (.newarray .int, 2) := by decide +kernel
theorem dX4_init_10 : decode cX4_init 10 = .ok (.putfield 9, 3) := by decide +kernel
theorem dX4_init_13 : decode cX4_init 13 = .ok (.aload_n 0, 1) := by decide +kernel
theorem dX4_init_14 : decode cX4_init 14 = .ok (.aload_n 1, 1) := by decide +kernel
theorem dX4_init_15 : decode cX4_init 15 = .ok (.putfield 15, 3) := by decide +kernel
theorem dX4_init_18 : decode cX4_init 18 = .ok (.return_, 1) := by decide +kernel
theorem dX4_begin_0 : decode cX4_begin 0 = .ok (.aload_n 0, 1) := by decide +kernel
theorem dX4_begin_1 : decode cX4_begin 1 = .ok (.iload_n 1, 1) := by decide +kernel
theorem dX4_begin_2 : decode cX4_begin 2 = .ok (.putfield 19, 3) := by decide +kernel
theorem dX4_begin_5 : decode cX4_begin 5 = .ok (.aload_n 0, 1) := by decide +kernel
theorem dX4_begin_6 : decode cX4_begin 6 = .ok (.iload_n 2, 1) := by decide +kernel
theorem dX4_begin_7 : decode cX4_begin 7 = .ok (.putfield 23, 3) := by decide +kernel
theorem dX4_begin_10 : decode cX4_begin 10 = .ok (.aload_n 0, 1) := by decide +kernel
theorem dX4_begin_11 : decode cX4_begin 11 = .ok (.iconst 0, 1) := by decide +kernel
theorem dX4_begin_12 : decode cX4_begin 12 = .ok (.putfield 26, 3) := by decide +kernel
theorem dX4_begin_15 : decode cX4_begin 15 = .ok (.aload_n 0, 1) := by decide +kernel
theorem dX4_begin_16 : decode cX4_begin 16 = .ok (.iconst 0, 1) := by decide +kernel
theorem dX4_begin_17 : decode cX4_begin 17 = .ok (.putfield 29, 3) := by decide +kernel
theorem dX4_begin_20 : decode cX4_begin 20 = .ok (.return_, 1) := by decide +kernel
theorem dX4_graphOf_0 : decode cX4_graphOf 0 = .ok (.iconst 0, 1) := by decide +kernel
theorem dX4_graphOf_1 : decode cX4_graphOf 1 = .ok (.istore 4, 2) := by decide +kernel
theorem dX4_graphOf_3 : decode cX4_graphOf 3 = .ok (.iload_n 2, 1) := by decide +kernel
theorem dX4_graphOf_4 : decode cX4_graphOf 4 = .ok (.istore 5, 2) := by decide +kernel
theorem dX4_graphOf_6 : decode cX4_graphOf 6 = .ok (.aload_n 0, 1) := by decide +kernel
theorem dX4_graphOf_7 : decode cX4_graphOf 7 = .ok (.getfield 15, 3) := by decide +kernel
theorem dX4_graphOf_10 : decode cX4_graphOf 10 = .ok (.iload_n 2, 1) := by decide +kernel
theorem dX4_graphOf_11 : decode cX4_graphOf 11 = .ok (.invokevirtual 53, 3) := by decide +kernel
theorem dX4_graphOf_14 : decode cX4_graphOf 14 = .ok (.iconst 1, 1) := by decide +kernel
theorem dX4_graphOf_15 : decode cX4_graphOf 15 = .ok (.isub, 1) := by decide +kernel
theorem dX4_graphOf_16 : decode cX4_graphOf 16 = .ok (.istore 6, 2) := by decide +kernel
theorem dX4_graphOf_18 : decode cX4_graphOf 18 = .ok (.iload 6, 2) := by decide +kernel
theorem dX4_graphOf_20 : decode cX4_graphOf 20 = .ok (.ifCond .lt 76, 3) := by decide +kernel
theorem dX4_graphOf_23 : decode cX4_graphOf 23 = .ok (.aload_n 0, 1) := by decide +kernel
theorem dX4_graphOf_24 : decode cX4_graphOf 24 = .ok (.getfield 15, 3) := by decide +kernel
theorem dX4_graphOf_27 : decode cX4_graphOf 27 = .ok (.iload 5, 2) := by decide +kernel
theorem dX4_graphOf_29 : decode cX4_graphOf 29 = .ok (.invokevirtual 56, 3) := by decide +kernel
theorem dX4_graphOf_32 : decode cX4_graphOf 32 = .ok (.istore 7, 2) := by decide +kernel
theorem dX4_graphOf_34 : decode cX4_graphOf 34 = .ok (.iload 6, 2) := by decide +kernel
theorem dX4_graphOf_36 : decode cX4_graphOf 36 = .ok (.aload_n 0, 1) := by decide +kernel
theorem dX4_graphOf_37 : decode cX4_graphOf 37 = .ok (.getfield 23, 3) := by decide +kernel
theorem dX4_graphOf_40 : decode cX4_graphOf 40 = .ok (.if_icmp .ge 39, 3) := by decide +kernel
theorem dX4_graphOf_43 : decode cX4_graphOf 43 = .ok (.aload_n 0, 1) := by decide +kernel
theorem dX4_graphOf_44 : decode cX4_graphOf 44 = .ok (.getfield 15, 3) := by decide +kernel
theorem dX4_graphOf_47 : decode cX4_graphOf 47 = .ok (.iload 7, 2) := by decide +kernel
theorem dX4_graphOf_49 : decode cX4_graphOf 49 = .ok (.invokevirtual 62, 3) := by decide +kernel
theorem dX4_graphOf_52 : decode cX4_graphOf 52 = .ok (.iconst 1, 1) := by decide +kernel
theorem dX4_graphOf_53 : decode cX4_graphOf 53 = .ok (.if_icmp .ne 26, 3) := by decide +kernel
theorem dX4_graphOf_56 : decode cX4_graphOf 56 = .ok (.iload 4, 2) := by decide +kernel
theorem dX4_graphOf_58 : decode cX4_graphOf 58 = .ok (.aload_n 0, 1) := by decide +kernel
theorem dX4_graphOf_59 : decode cX4_graphOf 59 = .ok (.aload_n 1, 1) := by decide +kernel
theorem dX4_graphOf_60 : decode cX4_graphOf 60 = .ok (.aload_n 0, 1) := by decide +kernel
theorem dX4_graphOf_61 : decode cX4_graphOf 61 = .ok (.getfield 15, 3) := by decide +kernel
theorem dX4_graphOf_64 : decode cX4_graphOf 64 = .ok (.iload 7, 2) := by decide +kernel
theorem dX4_graphOf_66 : decode cX4_graphOf 66 = .ok (.invokevirtual 59, 3) := by decide +kernel
theorem dX4_graphOf_69 : decode cX4_graphOf 69 = .ok (.iload_n 3, 1) := by decide +kernel
theorem dX4_graphOf_70 : decode cX4_graphOf 70 = .ok (.isub, 1) := by decide +kernel
theorem dX4_graphOf_71 : decode cX4_graphOf 71 = .ok (.iload 6, 2) := by decide +kernel
theorem dX4_graphOf_73 : decode cX4_graphOf 73 = .ok (.invokevirtual 73, 3) := by decide +kernel
theorem dX4_graphOf_76 : decode cX4_graphOf 76 = .ok (.ior, 1) := by decide +kernel
theorem dX4_graphOf_77 : decode cX4_graphOf 77 = .ok (.istore 4, 2) := by decide +kernel
theorem dX4_graphOf_79 : decode cX4_graphOf 79 = .ok (.aload_n 0, 1) := by decide +kernel
theorem dX4_graphOf_80 : decode cX4_graphOf 80 = .ok (.getfield 15, 3) := by decide +kernel
theorem dX4_graphOf_83 : decode cX4_graphOf 83 = .ok (.iload 5, 2) := by decide +kernel
theorem dX4_graphOf_85 : decode cX4_graphOf 85 = .ok (.invokevirtual 59, 3) := by decide +kernel
theorem dX4_graphOf_88 : decode cX4_graphOf 88 = .ok (.istore 5, 2) := by decide +kernel
theorem dX4_graphOf_90 : decode cX4_graphOf 90 = .ok (.iinc 6 (-1), 3) := by decide +kernel
theorem dX4_graphOf_93 : decode cX4_graphOf 93 = .ok (.goto (-75), 3) := by decide +kernel
theorem dX4_graphOf_96 : decode cX4_graphOf 96 = .ok (.iload 4, 2) := by decide +kernel
theorem dX4_graphOf_98 : decode cX4_graphOf 98 = .ok (.ireturn, 1) := by decide +kernel
theorem dX4_signsOf_0 : decode cX4_signsOf 0 = .ok (.iconst 0, 1) := by decide +kernel
theorem dX4_signsOf_1 : decode cX4_signsOf 1 = .ok (.istore 4, 2) := by decide +kernel
theorem dX4_signsOf_3 : decode cX4_signsOf 3 = .ok (.iconst 0, 1) := by decide +kernel
theorem dX4_signsOf_4 : decode cX4_signsOf 4 = .ok (.istore 5, 2) := by decide +kernel
theorem dX4_signsOf_6 : decode cX4_signsOf 6 = .ok (.iload 5, 2) := by decide +kernel
theorem dX4_signsOf_8 : decode cX4_signsOf 8 = .ok (.aload_n 0, 1) := by decide +kernel
theorem dX4_signsOf_9 : decode cX4_signsOf 9 = .ok (.getfield 23, 3) := by decide +kernel
theorem dX4_signsOf_12 : decode cX4_signsOf 12 = .ok (.if_icmp .ge 89, 3) := by decide +kernel
theorem dX4_signsOf_15 : decode cX4_signsOf 15 = .ok (.iload 5, 2) := by decide +kernel
theorem dX4_signsOf_17 : decode cX4_signsOf 17 = .ok (.aload_n 1, 1) := by decide +kernel
theorem dX4_signsOf_18 : decode cX4_signsOf 18 = .ok (.getfield 76, 3) := by decide +kernel
theorem dX4_signsOf_21 : decode cX4_signsOf 21 = .ok (.arraylength, 1) := by decide +kernel
theorem dX4_signsOf_22 : decode cX4_signsOf 22 = .ok (.if_icmp .ge 79, 3) := by decide +kernel
theorem dX4_signsOf_25 : decode cX4_signsOf 25 = .ok (.iload_n 2, 1) := by decide +kernel
theorem dX4_signsOf_26 : decode cX4_signsOf 26 = .ok (.ifCond .lt 69, 3) := by decide +kernel
theorem dX4_signsOf_29 : decode cX4_signsOf 29 = .ok (.aload_n 0, 1) := by decide +kernel
theorem dX4_signsOf_30 : decode cX4_signsOf 30 = .ok (.getfield 15, 3) := by decide +kernel
theorem dX4_signsOf_33 : decode cX4_signsOf 33 = .ok (.aload_n 1, 1) := by decide +kernel
theorem dX4_signsOf_34 : decode cX4_signsOf 34 = .ok (.getfield 76, 3) := by decide +kernel
theorem dX4_signsOf_37 : decode cX4_signsOf 37 = .ok (.iload 5, 2) := by decide +kernel
theorem dX4_signsOf_39 : decode cX4_signsOf 39 = .ok (.iaload, 1) := by decide +kernel
theorem dX4_signsOf_40 : decode cX4_signsOf 40 = .ok (.iload_n 2, 1) := by decide +kernel
theorem dX4_signsOf_41 : decode cX4_signsOf 41 = .ok (.invokestatic 79, 3) := by decide +kernel
theorem dX4_signsOf_44 : decode cX4_signsOf 44 = .ok (.ifCond .eq 51, 3) := by decide +kernel
theorem dX4_signsOf_47 : decode cX4_signsOf 47 = .ok (.aload_n 0, 1) := by decide +kernel
theorem dX4_signsOf_48 : decode cX4_signsOf 48 = .ok (.getfield 15, 3) := by decide +kernel
theorem dX4_signsOf_51 : decode cX4_signsOf 51 = .ok (.aload_n 1, 1) := by decide +kernel
theorem dX4_signsOf_52 : decode cX4_signsOf 52 = .ok (.getfield 76, 3) := by decide +kernel
theorem dX4_signsOf_55 : decode cX4_signsOf 55 = .ok (.iload 5, 2) := by decide +kernel
theorem dX4_signsOf_57 : decode cX4_signsOf 57 = .ok (.iaload, 1) := by decide +kernel
theorem dX4_signsOf_58 : decode cX4_signsOf 58 = .ok (.invokevirtual 62, 3) := by decide +kernel
theorem dX4_signsOf_61 : decode cX4_signsOf 61 = .ok (.iconst 1, 1) := by decide +kernel
theorem dX4_signsOf_62 : decode cX4_signsOf 62 = .ok (.if_icmp .ne 7, 3) := by decide +kernel
theorem dX4_signsOf_65 : decode cX4_signsOf 65 = .ok (.iconst 1, 1) := by decide +kernel
theorem dX4_signsOf_66 : decode cX4_signsOf 66 = .ok (.goto 4, 3) := by decide +kernel
theorem dX4_signsOf_69 : decode cX4_signsOf 69 = .ok (.iconst 0, 1) := by decide +kernel
theorem dX4_signsOf_70 : decode cX4_signsOf 70 = .ok (.istore 6, 2) := by decide +kernel
theorem dX4_signsOf_72 : decode cX4_signsOf 72 = .ok (.iload 4, 2) := by decide +kernel
theorem dX4_signsOf_74 : decode cX4_signsOf 74 = .ok (.iload 6, 2) := by decide +kernel
theorem dX4_signsOf_76 : decode cX4_signsOf 76 = .ok (.ifCond .eq 7, 3) := by decide +kernel
theorem dX4_signsOf_79 : decode cX4_signsOf 79 = .ok (.iconst 1, 1) := by decide +kernel
theorem dX4_signsOf_80 : decode cX4_signsOf 80 = .ok (.goto 5, 3) := by decide +kernel
theorem dX4_signsOf_83 : decode cX4_signsOf 83 = .ok (.ldc 85, 2) := by decide +kernel
theorem dX4_signsOf_85 : decode cX4_signsOf 85 = .ok (.iconst 4, 1) := by decide +kernel
theorem dX4_signsOf_86 : decode cX4_signsOf 86 = .ok (.iload 5, 2) := by decide +kernel
theorem dX4_signsOf_88 : decode cX4_signsOf 88 = .ok (.imul, 1) := by decide +kernel
theorem dX4_signsOf_89 : decode cX4_signsOf 89 = .ok (.iload_n 3, 1) := by decide +kernel
theorem dX4_signsOf_90 : decode cX4_signsOf 90 = .ok (.iadd, 1) := by decide +kernel
theorem dX4_signsOf_91 : decode cX4_signsOf 91 = .ok (.ishl, 1) := by decide +kernel
theorem dX4_signsOf_92 : decode cX4_signsOf 92 = .ok (.ior, 1) := by decide +kernel
theorem dX4_signsOf_93 : decode cX4_signsOf 93 = .ok (.istore 4, 2) := by decide +kernel
theorem dX4_signsOf_95 : decode cX4_signsOf 95 = .ok (.iinc 5 1, 3) := by decide +kernel
theorem dX4_signsOf_98 : decode cX4_signsOf 98 = .ok (.goto (-92), 3) := by decide +kernel
theorem dX4_signsOf_101 : decode cX4_signsOf 101 = .ok (.iload 4, 2) := by decide +kernel
theorem dX4_signsOf_103 : decode cX4_signsOf 103 = .ok (.ireturn, 1) := by decide +kernel
theorem dX4_add_0 : decode cX4_add 0 = .ok (.iconst 0, 1) := by decide +kernel
theorem dX4_add_1 : decode cX4_add 1 = .ok (.istore_n 2, 1) := by decide +kernel
theorem dX4_add_2 : decode cX4_add 2 = .ok (.iload_n 2, 1) := by decide +kernel
theorem dX4_add_3 : decode cX4_add 3 = .ok (.aload_n 0, 1) := by decide +kernel
theorem dX4_add_4 : decode cX4_add 4 = .ok (.getfield 26, 3) := by decide +kernel
theorem dX4_add_7 : decode cX4_add 7 = .ok (.if_icmp .ge 20, 3) := by decide +kernel
theorem dX4_add_10 : decode cX4_add 10 = .ok (.aload_n 0, 1) := by decide +kernel
theorem dX4_add_11 : decode cX4_add 11 = .ok (.getfield 9, 3) := by decide +kernel
theorem dX4_add_14 : decode cX4_add 14 = .ok (.iload_n 2, 1) := by decide +kernel
theorem dX4_add_15 : decode cX4_add 15 = .ok (.iaload, 1) := by decide +kernel
theorem dX4_add_16 : decode cX4_add 16 = .ok (.iload_n 1, 1) := by decide +kernel
theorem dX4_add_17 : decode cX4_add 17 = .ok (.if_icmp .ne 4, 3) := by decide +kernel
theorem dX4_add_20 : decode cX4_add 20 = .ok (.return_, 1) := by decide +kernel
theorem dX4_add_21 : decode cX4_add 21 = .ok (.iinc 2 1, 3) := by decide +kernel
theorem dX4_add_24 : decode cX4_add 24 = .ok (.goto (-22), 3) := by decide +kernel
theorem dX4_add_27 : decode cX4_add 27 = .ok (.aload_n 0, 1) := by decide +kernel
theorem dX4_add_28 : decode cX4_add 28 = .ok (.getfield 26, 3) := by decide +kernel
theorem dX4_add_31 : decode cX4_add 31 = .ok (.aload_n 0, 1) := by decide +kernel
theorem dX4_add_32 : decode cX4_add 32 = .ok (.getfield 9, 3) := by decide +kernel
theorem dX4_add_35 : decode cX4_add 35 = .ok (.arraylength, 1) := by decide +kernel
theorem dX4_add_36 : decode cX4_add 36 = .ok (.if_icmp .lt 9, 3) := by decide +kernel
theorem dX4_add_39 : decode cX4_add 39 = .ok (.aload_n 0, 1) := by decide +kernel
theorem dX4_add_40 : decode cX4_add 40 = .ok (.iconst 1, 1) := by decide +kernel
theorem dX4_add_41 : decode cX4_add 41 = .ok (.putfield 29, 3) := by decide +kernel
theorem dX4_add_44 : decode cX4_add 44 = .ok (.return_, 1) := by decide +kernel
theorem dX4_add_45 : decode cX4_add 45 = .ok (.aload_n 0, 1) := by decide +kernel
theorem dX4_add_46 : decode cX4_add 46 = .ok (.getfield 9, 3) := by decide +kernel
theorem dX4_add_49 : decode cX4_add 49 = .ok (.aload_n 0, 1) := by decide +kernel
theorem dX4_add_50 : decode cX4_add 50 = .ok (.getfield 26, 3) := by decide +kernel
theorem dX4_add_53 : decode cX4_add 53 = .ok (.iload_n 1, 1) := by decide +kernel
theorem dX4_add_54 : decode cX4_add 54 = .ok (.iastore, 1) := by decide +kernel
theorem dX4_add_55 : decode cX4_add 55 = .ok (.aload_n 0, 1) := by decide +kernel
theorem dX4_add_56 : decode cX4_add 56 = .ok (.dup, 1) := by decide +kernel
theorem dX4_add_57 : decode cX4_add 57 = .ok (.getfield 26, 3) := by decide +kernel
theorem dX4_add_60 : decode cX4_add 60 = .ok (.iconst 1, 1) := by decide +kernel
theorem dX4_add_61 : decode cX4_add 61 = .ok (.iadd, 1) := by decide +kernel
theorem dX4_add_62 : decode cX4_add 62 = .ok (.putfield 26, 3) := by decide +kernel
theorem dX4_add_65 : decode cX4_add 65 = .ok (.return_, 1) := by decide +kernel
theorem dX4_comeToAnEnd_0 : decode cX4_comeToAnEnd 0 = .ok (.aload_n 0, 1) := by decide +kernel
theorem dX4_comeToAnEnd_1 : decode cX4_comeToAnEnd 1 = .ok (.getfield 26, 3) := by decide +kernel
theorem dX4_comeToAnEnd_4 : decode cX4_comeToAnEnd 4 = .ok (.istore_n 1, 1) := by decide +kernel
theorem dX4_comeToAnEnd_5 : decode cX4_comeToAnEnd 5 = .ok (.iconst 0, 1) := by decide +kernel
theorem dX4_comeToAnEnd_6 : decode cX4_comeToAnEnd 6 = .ok (.istore_n 2, 1) := by decide +kernel
theorem dX4_comeToAnEnd_7 : decode cX4_comeToAnEnd 7 = .ok (.iload_n 2, 1) := by decide +kernel
theorem dX4_comeToAnEnd_8 : decode cX4_comeToAnEnd 8 = .ok (.sipush 200, 3) := by decide +kernel
theorem dX4_comeToAnEnd_11 : decode cX4_comeToAnEnd 11 = .ok (.if_icmp .ge 64, 3) := by decide +kernel
theorem dX4_comeToAnEnd_14 : decode cX4_comeToAnEnd 14 = .ok (.iload_n 2, 1) := by decide +kernel
theorem dX4_comeToAnEnd_15 : decode cX4_comeToAnEnd 15 = .ok (.aload_n 0, 1) := by decide +kernel
theorem dX4_comeToAnEnd_16 : decode cX4_comeToAnEnd 16 = .ok (.getfield 26, 3) := by decide +kernel
theorem dX4_comeToAnEnd_19 : decode cX4_comeToAnEnd 19 = .ok (.if_icmp .ge 56, 3) := by decide +kernel
theorem dX4_comeToAnEnd_22 : decode cX4_comeToAnEnd 22 = .ok (.aload_n 0, 1) := by decide +kernel
theorem dX4_comeToAnEnd_23 : decode cX4_comeToAnEnd 23 = .ok (.getfield 29, 3) := by decide +kernel
theorem dX4_comeToAnEnd_26 : decode cX4_comeToAnEnd 26 = .ok (.ifCond .ne 49, 3) := by decide +kernel
theorem dX4_comeToAnEnd_29 : decode cX4_comeToAnEnd 29 = .ok (.iconst 0, 1) := by decide +kernel
theorem dX4_comeToAnEnd_30 : decode cX4_comeToAnEnd 30 = .ok (.istore_n 3, 1) := by decide +kernel
theorem dX4_comeToAnEnd_31 : decode cX4_comeToAnEnd 31 = .ok (.iload_n 3, 1) := by decide +kernel
theorem dX4_comeToAnEnd_32 : decode cX4_comeToAnEnd 32 = .ok (.iload_n 1, 1) := by decide +kernel
theorem dX4_comeToAnEnd_33 : decode cX4_comeToAnEnd 33 = .ok (.if_icmp .ge 36, 3) := by decide +kernel
theorem dX4_comeToAnEnd_36 : decode cX4_comeToAnEnd 36 = .ok (.aload_n 0, 1) := by decide +kernel
theorem dX4_comeToAnEnd_37 : decode cX4_comeToAnEnd 37 = .ok (.getfield 29, 3) := by decide +kernel
theorem dX4_comeToAnEnd_40 : decode cX4_comeToAnEnd 40 = .ok (.ifCond .ne 29, 3) := by decide +kernel
theorem dX4_comeToAnEnd_43 : decode cX4_comeToAnEnd 43 = .ok (.aload_n 0, 1) := by decide +kernel
theorem dX4_comeToAnEnd_44 : decode cX4_comeToAnEnd 44 = .ok (.aload_n 0, 1) := by decide +kernel
theorem dX4_comeToAnEnd_45 : decode cX4_comeToAnEnd 45 = .ok (.aload_n 0, 1) := by decide +kernel
theorem dX4_comeToAnEnd_46 : decode cX4_comeToAnEnd 46 = .ok (.getfield 9, 3) := by decide +kernel
theorem dX4_comeToAnEnd_49 : decode cX4_comeToAnEnd 49 = .ok (.iload_n 2, 1) := by decide +kernel
theorem dX4_comeToAnEnd_50 : decode cX4_comeToAnEnd 50 = .ok (.iaload, 1) := by decide +kernel
theorem dX4_comeToAnEnd_51 : decode cX4_comeToAnEnd 51 = .ok (.aload_n 0, 1) := by decide +kernel
theorem dX4_comeToAnEnd_52 : decode cX4_comeToAnEnd 52 = .ok (.getfield 9, 3) := by decide +kernel
theorem dX4_comeToAnEnd_55 : decode cX4_comeToAnEnd 55 = .ok (.iload_n 3, 1) := by decide +kernel
theorem dX4_comeToAnEnd_56 : decode cX4_comeToAnEnd 56 = .ok (.iaload, 1) := by decide +kernel
theorem dX4_comeToAnEnd_57 : decode cX4_comeToAnEnd 57 = .ok (.invokevirtual 86, 3) := by decide +kernel
theorem dX4_comeToAnEnd_60 : decode cX4_comeToAnEnd 60 = .ok (.invokevirtual 69, 3) := by decide +kernel
theorem dX4_comeToAnEnd_63 : decode cX4_comeToAnEnd 63 = .ok (.iinc 3 1, 3) := by decide +kernel
theorem dX4_comeToAnEnd_66 : decode cX4_comeToAnEnd 66 = .ok (.goto (-35), 3) := by decide +kernel
theorem dX4_comeToAnEnd_69 : decode cX4_comeToAnEnd 69 = .ok (.iinc 2 1, 3) := by decide +kernel
theorem dX4_comeToAnEnd_72 : decode cX4_comeToAnEnd 72 = .ok (.goto (-65), 3) := by decide +kernel
theorem dX4_comeToAnEnd_75 : decode cX4_comeToAnEnd 75 = .ok (.iconst 0, 1) := by decide +kernel
theorem dX4_comeToAnEnd_76 : decode cX4_comeToAnEnd 76 = .ok (.istore_n 2, 1) := by decide +kernel
theorem dX4_comeToAnEnd_77 : decode cX4_comeToAnEnd 77 = .ok (.iload_n 2, 1) := by decide +kernel
theorem dX4_comeToAnEnd_78 : decode cX4_comeToAnEnd 78 = .ok (.aload_n 0, 1) := by decide +kernel
theorem dX4_comeToAnEnd_79 : decode cX4_comeToAnEnd 79 = .ok (.getfield 26, 3) := by decide +kernel
theorem dX4_comeToAnEnd_82 : decode cX4_comeToAnEnd 82 = .ok (.if_icmp .ge 56, 3) := by decide +kernel
theorem dX4_comeToAnEnd_85 : decode cX4_comeToAnEnd 85 = .ok (.aload_n 0, 1) := by decide +kernel
theorem dX4_comeToAnEnd_86 : decode cX4_comeToAnEnd 86 = .ok (.getfield 29, 3) := by decide +kernel
theorem dX4_comeToAnEnd_89 : decode cX4_comeToAnEnd 89 = .ok (.ifCond .ne 49, 3) := by decide +kernel
theorem dX4_comeToAnEnd_92 : decode cX4_comeToAnEnd 92 = .ok (.aload_n 0, 1) := by decide +kernel
theorem dX4_comeToAnEnd_93 : decode cX4_comeToAnEnd 93 = .ok (.aload_n 0, 1) := by decide +kernel
theorem dX4_comeToAnEnd_94 : decode cX4_comeToAnEnd 94 = .ok (.getfield 9, 3) := by decide +kernel
theorem dX4_comeToAnEnd_97 : decode cX4_comeToAnEnd 97 = .ok (.iload_n 2, 1) := by decide +kernel
theorem dX4_comeToAnEnd_98 : decode cX4_comeToAnEnd 98 = .ok (.iaload, 1) := by decide +kernel
theorem dX4_comeToAnEnd_99 : decode cX4_comeToAnEnd 99 = .ok (.aload_n 0, 1) := by decide +kernel
theorem dX4_comeToAnEnd_100 : decode cX4_comeToAnEnd 100 = .ok (.getfield 9, 3) := by decide +kernel
theorem dX4_comeToAnEnd_103 : decode cX4_comeToAnEnd 103 = .ok (.iload_n 2, 1) := by decide +kernel
theorem dX4_comeToAnEnd_104 : decode cX4_comeToAnEnd 104 = .ok (.iaload, 1) := by decide +kernel
theorem dX4_comeToAnEnd_105 : decode cX4_comeToAnEnd 105 = .ok (.invokevirtual 86, 3) := by decide +kernel
theorem dX4_comeToAnEnd_108 : decode cX4_comeToAnEnd 108 = .ok (.aload_n 0, 1) := by decide +kernel
theorem dX4_comeToAnEnd_109 : decode cX4_comeToAnEnd 109 = .ok (.getfield 9, 3) := by decide +kernel
theorem dX4_comeToAnEnd_112 : decode cX4_comeToAnEnd 112 = .ok (.iload_n 2, 1) := by decide +kernel
theorem dX4_comeToAnEnd_113 : decode cX4_comeToAnEnd 113 = .ok (.iaload, 1) := by decide +kernel
theorem dX4_comeToAnEnd_114 : decode cX4_comeToAnEnd 114 = .ok (.if_icmp .ne 18, 3) := by decide +kernel
theorem dX4_comeToAnEnd_117 : decode cX4_comeToAnEnd 117 = .ok (.aload_n 0, 1) := by decide +kernel
theorem dX4_comeToAnEnd_118 : decode cX4_comeToAnEnd 118 = .ok (.aload_n 0, 1) := by decide +kernel
theorem dX4_comeToAnEnd_119 : decode cX4_comeToAnEnd 119 = .ok (.getfield 9, 3) := by decide +kernel
theorem dX4_comeToAnEnd_122 : decode cX4_comeToAnEnd 122 = .ok (.iload_n 2, 1) := by decide +kernel
theorem dX4_comeToAnEnd_123 : decode cX4_comeToAnEnd 123 = .ok (.iaload, 1) := by decide +kernel
theorem dX4_comeToAnEnd_124 : decode cX4_comeToAnEnd 124 = .ok (.invokevirtual 90, 3) := by decide +kernel
theorem dX4_comeToAnEnd_127 : decode cX4_comeToAnEnd 127 = .ok (.ifCond .ne 5, 3) := by decide +kernel
theorem dX4_comeToAnEnd_130 : decode cX4_comeToAnEnd 130 = .ok (.iconst 0, 1) := by decide +kernel
theorem dX4_comeToAnEnd_131 : decode cX4_comeToAnEnd 131 = .ok (.ireturn, 1) := by decide +kernel
theorem dX4_comeToAnEnd_132 : decode cX4_comeToAnEnd 132 = .ok (.iinc 2 1, 3) := by decide +kernel
theorem dX4_comeToAnEnd_135 : decode cX4_comeToAnEnd 135 = .ok (.goto (-58), 3) := by decide +kernel
theorem dX4_comeToAnEnd_138 : decode cX4_comeToAnEnd 138 = .ok (.aload_n 0, 1) := by decide +kernel
theorem dX4_comeToAnEnd_139 : decode cX4_comeToAnEnd 139 = .ok (.getfield 29, 3) := by decide +kernel
theorem dX4_comeToAnEnd_142 : decode cX4_comeToAnEnd 142 = .ok (.ifCond .ne 7, 3) := by decide +kernel
theorem dX4_comeToAnEnd_145 : decode cX4_comeToAnEnd 145 = .ok (.iconst 1, 1) := by decide +kernel
theorem dX4_comeToAnEnd_146 : decode cX4_comeToAnEnd 146 = .ok (.goto 4, 3) := by decide +kernel
theorem dX4_comeToAnEnd_149 : decode cX4_comeToAnEnd 149 = .ok (.iconst 0, 1) := by decide +kernel
theorem dX4_comeToAnEnd_150 : decode cX4_comeToAnEnd 150 = .ok (.ireturn, 1) := by decide +kernel
theorem dX4_behind_0 : decode cX4_behind 0 = .ok (.iconst 0, 1) := by decide +kernel
theorem dX4_behind_1 : decode cX4_behind 1 = .ok (.istore_n 3, 1) := by decide +kernel
theorem dX4_behind_2 : decode cX4_behind 2 = .ok (.iconst 0, 1) := by decide +kernel
theorem dX4_behind_3 : decode cX4_behind 3 = .ok (.istore 4, 2) := by decide +kernel
theorem dX4_behind_5 : decode cX4_behind 5 = .ok (.iload 4, 2) := by decide +kernel
theorem dX4_behind_7 : decode cX4_behind 7 = .ok (.aload_n 0, 1) := by decide +kernel
theorem dX4_behind_8 : decode cX4_behind 8 = .ok (.getfield 23, 3) := by decide +kernel
theorem dX4_behind_11 : decode cX4_behind 11 = .ok (.if_icmp .ge 107, 3) := by decide +kernel
theorem dX4_behind_14 : decode cX4_behind 14 = .ok (.iconst 0, 1) := by decide +kernel
theorem dX4_behind_15 : decode cX4_behind 15 = .ok (.istore 5, 2) := by decide +kernel
theorem dX4_behind_17 : decode cX4_behind 17 = .ok (.iload 5, 2) := by decide +kernel
theorem dX4_behind_19 : decode cX4_behind 19 = .ok (.aload_n 0, 1) := by decide +kernel
theorem dX4_behind_20 : decode cX4_behind 20 = .ok (.getfield 23, 3) := by decide +kernel
theorem dX4_behind_23 : decode cX4_behind 23 = .ok (.if_icmp .ge 89, 3) := by decide +kernel
theorem dX4_behind_26 : decode cX4_behind 26 = .ok (.iconst 0, 1) := by decide +kernel
theorem dX4_behind_27 : decode cX4_behind 27 = .ok (.istore 6, 2) := by decide +kernel
theorem dX4_behind_29 : decode cX4_behind 29 = .ok (.iload 6, 2) := by decide +kernel
theorem dX4_behind_31 : decode cX4_behind 31 = .ok (.aload_n 0, 1) := by decide +kernel
theorem dX4_behind_32 : decode cX4_behind 32 = .ok (.getfield 23, 3) := by decide +kernel
theorem dX4_behind_35 : decode cX4_behind 35 = .ok (.if_icmp .ge 71, 3) := by decide +kernel
theorem dX4_behind_38 : decode cX4_behind 38 = .ok (.iload_n 1, 1) := by decide +kernel
theorem dX4_behind_39 : decode cX4_behind 39 = .ok (.iconst 4, 1) := by decide +kernel
theorem dX4_behind_40 : decode cX4_behind 40 = .ok (.iload 4, 2) := by decide +kernel
theorem dX4_behind_42 : decode cX4_behind 42 = .ok (.imul, 1) := by decide +kernel
theorem dX4_behind_43 : decode cX4_behind 43 = .ok (.iload 5, 2) := by decide +kernel
theorem dX4_behind_45 : decode cX4_behind 45 = .ok (.iadd, 1) := by decide +kernel
theorem dX4_behind_46 : decode cX4_behind 46 = .ok (.iushr, 1) := by decide +kernel
theorem dX4_behind_47 : decode cX4_behind 47 = .ok (.istore 7, 2) := by decide +kernel
theorem dX4_behind_49 : decode cX4_behind 49 = .ok (.iload_n 2, 1) := by decide +kernel
theorem dX4_behind_50 : decode cX4_behind 50 = .ok (.iconst 4, 1) := by decide +kernel
theorem dX4_behind_51 : decode cX4_behind 51 = .ok (.iload 5, 2) := by decide +kernel
theorem dX4_behind_53 : decode cX4_behind 53 = .ok (.imul, 1) := by decide +kernel
theorem dX4_behind_54 : decode cX4_behind 54 = .ok (.iload 6, 2) := by decide +kernel
theorem dX4_behind_56 : decode cX4_behind 56 = .ok (.iadd, 1) := by decide +kernel
theorem dX4_behind_57 : decode cX4_behind 57 = .ok (.iushr, 1) := by decide +kernel
theorem dX4_behind_58 : decode cX4_behind 58 = .ok (.istore 8, 2) := by decide +kernel
theorem dX4_behind_60 : decode cX4_behind 60 = .ok (.iload 7, 2) := by decide +kernel
theorem dX4_behind_62 : decode cX4_behind 62 = .ok (.iload 8, 2) := by decide +kernel
theorem dX4_behind_64 : decode cX4_behind 64 = .ok (.iand, 1) := by decide +kernel
theorem dX4_behind_65 : decode cX4_behind 65 = .ok (.iconst 1, 1) := by decide +kernel
theorem dX4_behind_66 : decode cX4_behind 66 = .ok (.iand, 1) := by decide +kernel
theorem dX4_behind_67 : decode cX4_behind 67 = .ok (.ifCond .eq 33, 3) := by decide +kernel
theorem dX4_behind_70 : decode cX4_behind 70 = .ok (.iload 7, 2) := by decide +kernel
theorem dX4_behind_72 : decode cX4_behind 72 = .ok (.iload 8, 2) := by decide +kernel
theorem dX4_behind_74 : decode cX4_behind 74 = .ok (.ior, 1) := by decide +kernel
theorem dX4_behind_75 : decode cX4_behind 75 = .ok (.bipush 16, 2) := by decide +kernel
theorem dX4_behind_77 : decode cX4_behind 77 = .ok (.iushr, 1) := by decide +kernel
theorem dX4_behind_78 : decode cX4_behind 78 = .ok (.iconst 1, 1) := by decide +kernel
theorem dX4_behind_79 : decode cX4_behind 79 = .ok (.iand, 1) := by decide +kernel
theorem dX4_behind_80 : decode cX4_behind 80 = .ok (.istore 9, 2) := by decide +kernel
theorem dX4_behind_82 : decode cX4_behind 82 = .ok (.iload_n 3, 1) := by decide +kernel
theorem dX4_behind_83 : decode cX4_behind 83 = .ok (.iconst 1, 1) := by decide +kernel
theorem dX4_behind_84 : decode cX4_behind 84 = .ok (.iload 9, 2) := by decide +kernel
theorem dX4_behind_86 : decode cX4_behind 86 = .ok (.bipush 16, 2) := by decide +kernel
theorem dX4_behind_88 : decode cX4_behind 88 = .ok (.ishl, 1) := by decide +kernel
theorem dX4_behind_89 : decode cX4_behind 89 = .ok (.ior, 1) := by decide +kernel
theorem dX4_behind_90 : decode cX4_behind 90 = .ok (.iconst 4, 1) := by decide +kernel
theorem dX4_behind_91 : decode cX4_behind 91 = .ok (.iload 4, 2) := by decide +kernel
theorem dX4_behind_93 : decode cX4_behind 93 = .ok (.imul, 1) := by decide +kernel
theorem dX4_behind_94 : decode cX4_behind 94 = .ok (.iload 6, 2) := by decide +kernel
theorem dX4_behind_96 : decode cX4_behind 96 = .ok (.iadd, 1) := by decide +kernel
theorem dX4_behind_97 : decode cX4_behind 97 = .ok (.ishl, 1) := by decide +kernel
theorem dX4_behind_98 : decode cX4_behind 98 = .ok (.ior, 1) := by decide +kernel
theorem dX4_behind_99 : decode cX4_behind 99 = .ok (.istore_n 3, 1) := by decide +kernel
theorem dX4_behind_100 : decode cX4_behind 100 = .ok (.iinc 6 1, 3) := by decide +kernel
theorem dX4_behind_103 : decode cX4_behind 103 = .ok (.goto (-74), 3) := by decide +kernel
theorem dX4_behind_106 : decode cX4_behind 106 = .ok (.iinc 5 1, 3) := by decide +kernel
theorem dX4_behind_109 : decode cX4_behind 109 = .ok (.goto (-92), 3) := by decide +kernel
theorem dX4_behind_112 : decode cX4_behind 112 = .ok (.iinc 4 1, 3) := by decide +kernel
theorem dX4_behind_115 : decode cX4_behind 115 = .ok (.goto (-110), 3) := by decide +kernel
theorem dX4_behind_118 : decode cX4_behind 118 = .ok (.iload_n 3, 1) := by decide +kernel
theorem dX4_behind_119 : decode cX4_behind 119 = .ok (.ireturn, 1) := by decide +kernel
theorem dX4_hasLess_0 : decode cX4_hasLess 0 = .ok (.iconst 0, 1) := by decide +kernel
theorem dX4_hasLess_1 : decode cX4_hasLess 1 = .ok (.istore_n 2, 1) := by decide +kernel
theorem dX4_hasLess_2 : decode cX4_hasLess 2 = .ok (.iload_n 2, 1) := by decide +kernel
theorem dX4_hasLess_3 : decode cX4_hasLess 3 = .ok (.aload_n 0, 1) := by decide +kernel
theorem dX4_hasLess_4 : decode cX4_hasLess 4 = .ok (.getfield 23, 3) := by decide +kernel
theorem dX4_hasLess_7 : decode cX4_hasLess 7 = .ok (.if_icmp .ge 24, 3) := by decide +kernel
theorem dX4_hasLess_10 : decode cX4_hasLess 10 = .ok (.iload_n 1, 1) := by decide +kernel
theorem dX4_hasLess_11 : decode cX4_hasLess 11 = .ok (.bipush 16, 2) := by decide +kernel
theorem dX4_hasLess_13 : decode cX4_hasLess 13 = .ok (.iconst 5, 1) := by decide +kernel
theorem dX4_hasLess_14 : decode cX4_hasLess 14 = .ok (.iload_n 2, 1) := by decide +kernel
theorem dX4_hasLess_15 : decode cX4_hasLess 15 = .ok (.imul, 1) := by decide +kernel
theorem dX4_hasLess_16 : decode cX4_hasLess 16 = .ok (.iadd, 1) := by decide +kernel
theorem dX4_hasLess_17 : decode cX4_hasLess 17 = .ok (.iushr, 1) := by decide +kernel
theorem dX4_hasLess_18 : decode cX4_hasLess 18 = .ok (.iconst 1, 1) := by decide +kernel
theorem dX4_hasLess_19 : decode cX4_hasLess 19 = .ok (.iand, 1) := by decide +kernel
theorem dX4_hasLess_20 : decode cX4_hasLess 20 = .ok (.ifCond .eq 5, 3) := by decide +kernel
theorem dX4_hasLess_23 : decode cX4_hasLess 23 = .ok (.iconst 1, 1) := by decide +kernel
theorem dX4_hasLess_24 : decode cX4_hasLess 24 = .ok (.ireturn, 1) := by decide +kernel
theorem dX4_hasLess_25 : decode cX4_hasLess 25 = .ok (.iinc 2 1, 3) := by decide +kernel
theorem dX4_hasLess_28 : decode cX4_hasLess 28 = .ok (.goto (-26), 3) := by decide +kernel
theorem dX4_hasLess_31 : decode cX4_hasLess 31 = .ok (.iconst 0, 1) := by decide +kernel
theorem dX4_hasLess_32 : decode cX4_hasLess 32 = .ok (.ireturn, 1) := by decide +kernel
theorem dX5_init_0 : decode cX5_init 0 = .ok (.aload_n 0, 1) := by decide +kernel
theorem dX5_init_1 : decode cX5_init 1 = .ok (.invokespecial 3, 3) := by decide +kernel
theorem dX5_init_4 : decode cX5_init 4 = .ok (.aload_n 0, 1) := by decide +kernel
theorem dX5_init_5 : decode cX5_init 5 = .ok (.sipush 4200, 3) := by decide +kernel
theorem dX5_init_8 : decode cX5_init 8 = .ok (.newarray .int, 2) := by decide +kernel
theorem dX5_init_10 : decode cX5_init 10 = .ok (.putfield 11, 3) := by decide +kernel
theorem dX5_init_13 : decode cX5_init 13 = .ok (.aload_n 0, 1) := by decide +kernel
theorem dX5_init_14 : decode cX5_init 14 = .ok (.sipush 4200, 3) := by decide +kernel
theorem dX5_init_17 : decode cX5_init 17 = .ok (.newarray .boolean, 2) := by decide +kernel
theorem dX5_init_19 : decode cX5_init 19 = .ok (.putfield 15, 3) := by decide +kernel
theorem dX5_init_22 : decode cX5_init 22 = .ok (.aload_n 0, 1) := by decide +kernel
theorem dX5_init_23 : decode cX5_init 23 = .ok (.iconst 4, 1) := by decide +kernel
theorem dX5_init_24 : decode cX5_init 24 = .ok (.newarray .int, 2) := by decide +kernel
theorem dX5_init_26 : decode cX5_init 26 = .ok (.putfield 19, 3) := by decide +kernel
theorem dX5_init_29 : decode cX5_init 29 = .ok (.aload_n 0, 1) := by decide +kernel
theorem dX5_init_30 : decode cX5_init 30 = .ok (.bipush 12, 2) := by decide +kernel
theorem dX5_init_32 : decode cX5_init 32 = .ok (.newarray .int, 2) := by decide +kernel
theorem dX5_init_34 : decode cX5_init 34 = .ok (.putfield 22, 3) := by decide +kernel
theorem dX5_init_37 : decode cX5_init 37 = .ok (.aload_n 0, 1) := by decide +kernel
theorem dX5_init_38 : decode cX5_init 38 = .ok (.aload_n 1, 1) := by decide +kernel
theorem dX5_init_39 : decode cX5_init 39 = .ok (.putfield 25, 3) := by decide +kernel
theorem dX5_init_42 : decode cX5_init 42 = .ok (.aload_n 0, 1) := by decide +kernel
theorem dX5_init_43 : decode cX5_init 43 = .ok (.aload_n 2, 1) := by decide +kernel
theorem dX5_init_44 : decode cX5_init 44 = .ok (.putfield 29, 3) := by decide +kernel
theorem dX5_init_47 : decode cX5_init 47 = .ok (.aload_n 0, 1) := by decide +kernel
theorem dX5_init_48 : decode cX5_init 48 = .ok (.aload_n 3, 1) := by decide +kernel
theorem dX5_init_49 : decode cX5_init 49 = .ok (.putfield 33, 3) := by decide +kernel
theorem dX5_init_52 : decode cX5_init 52 = .ok (.return_, 1) := by decide +kernel
theorem dX5_push_0 : decode cX5_push 0 = .ok (.aload_n 0, 1) := by decide +kernel
theorem dX5_push_1 : decode cX5_push 1 = .ok (.getfield 53, 3) := by decide +kernel
theorem dX5_push_4 : decode cX5_push 4 = .ok (.sipush 4200, 3) := by decide +kernel
theorem dX5_push_7 : decode cX5_push 7 = .ok (.if_icmp .ge 33, 3) := by decide +kernel
theorem dX5_push_10 : decode cX5_push 10 = .ok (.aload_n 0, 1) := by decide +kernel
theorem dX5_push_11 : decode cX5_push 11 = .ok (.getfield 11, 3) := by decide +kernel
theorem dX5_push_14 : decode cX5_push 14 = .ok (.aload_n 0, 1) := by decide +kernel
theorem dX5_push_15 : decode cX5_push 15 = .ok (.getfield 53, 3) := by decide +kernel
theorem dX5_push_18 : decode cX5_push 18 = .ok (.iload_n 1, 1) := by decide +kernel
theorem dX5_push_19 : decode cX5_push 19 = .ok (.iastore, 1) := by decide +kernel
theorem dX5_push_20 : decode cX5_push 20 = .ok (.aload_n 0, 1) := by decide +kernel
theorem dX5_push_21 : decode cX5_push 21 = .ok (.getfield 15, 3) := by decide +kernel
theorem dX5_push_24 : decode cX5_push 24 = .ok (.aload_n 0, 1) := by decide +kernel
theorem dX5_push_25 : decode cX5_push 25 = .ok (.getfield 53, 3) := by decide +kernel
theorem dX5_push_28 : decode cX5_push 28 = .ok (.iload_n 2, 1) := by decide +kernel
theorem dX5_push_29 : decode cX5_push 29 = .ok (.bastore, 1) := by decide +kernel
theorem dX5_push_30 : decode cX5_push 30 = .ok (.aload_n 0, 1) := by decide +kernel
theorem dX5_push_31 : decode cX5_push 31 = .ok (.dup, 1) := by decide +kernel
theorem dX5_push_32 : decode cX5_push 32 = .ok (.getfield 53, 3) := by decide +kernel
theorem dX5_push_35 : decode cX5_push 35 = .ok (.iconst 1, 1) := by decide +kernel
theorem dX5_push_36 : decode cX5_push 36 = .ok (.iadd, 1) := by decide +kernel
theorem dX5_push_37 : decode cX5_push 37 = .ok (.putfield 53, 3) := by decide +kernel
theorem dX5_push_40 : decode cX5_push 40 = .ok (.return_, 1) := by decide +kernel
theorem dX5_takeStep_0 : decode cX5_takeStep 0 = .ok (.aload_n 0, 1) := by decide +kernel
theorem dX5_takeStep_1 : decode cX5_takeStep 1 = .ok (.dup, 1) := by decide +kernel
theorem dX5_takeStep_2 : decode cX5_takeStep 2 = .ok (.getfield 56, 3) := by decide +kernel
theorem dX5_takeStep_5 : decode cX5_takeStep 5 = .ok (.iconst 1, 1) := by decide +kernel
theorem dX5_takeStep_6 : decode cX5_takeStep 6 = .ok (.iadd, 1) := by decide +kernel
theorem dX5_takeStep_7 : decode cX5_takeStep 7 = .ok (.putfield 56, 3) := by decide +kernel
theorem dX5_takeStep_10 : decode cX5_takeStep 10 = .ok (.aload_n 0, 1) := by decide +kernel
theorem dX5_takeStep_11 : decode cX5_takeStep 11 = .ok (.getfield 56, 3) := by decide +kernel
theorem dX5_takeStep_14 : decode cX5_takeStep 14 = .ok (.bipush 40, 2) := by decide +kernel
theorem dX5_takeStep_16 : decode cX5_takeStep 16 = .ok (.if_icmp .gt 7, 3) := by decide +kernel
theorem dX5_takeStep_19 : decode cX5_takeStep 19 = .ok (.iconst 1, 1) := by decide +kernel
theorem dX5_takeStep_20 : decode cX5_takeStep 20 = .ok (.goto 4, 3) := by decide +kernel
theorem dX5_takeStep_23 : decode cX5_takeStep 23 = .ok (.iconst 0, 1) := by decide +kernel
theorem dX5_takeStep_24 : decode cX5_takeStep 24 = .ok (.ireturn, 1) := by decide +kernel
theorem dX5_match_0 : decode cX5_match 0 = .ok (.aload_n 0, 1) := by decide +kernel
theorem dX5_match_1 : decode cX5_match 1 = .ok (.getfield 25, 3) := by decide +kernel
theorem dX5_match_4 : decode cX5_match 4 = .ok (.astore_n 3, 1) := by decide +kernel
theorem dX5_match_5 : decode cX5_match 5 = .ok (.aload_n 3, 1) := by decide +kernel
theorem dX5_match_6 : decode cX5_match 6 = .ok (.iload_n 1, 1) := by decide +kernel
theorem dX5_match_7 : decode cX5_match 7 = .ok (.invokevirtual 60, 3) := by decide +kernel
theorem dX5_match_10 : decode cX5_match 10 = .ok (.istore 4, 2) := by decide +kernel
theorem dX5_match_12 : decode cX5_match 12 = .ok (.iload 4, 2) := by decide +kernel
theorem dX5_match_14 : decode cX5_match 14 = .ok (.iconst 1, 1) := by decide +kernel
theorem dX5_match_15 : decode cX5_match 15 = .ok (.if_icmp .ne 41, 3) := by decide +kernel
theorem dX5_match_18 : decode cX5_match 18 = .ok (.aload_n 0, 1) := by decide +kernel
theorem dX5_match_19 : decode cX5_match 19 = .ok (.getfield 135, 3) := by decide +kernel
theorem dX5_match_22 : decode cX5_match 22 = .ok (.iconst 1, 1) := by decide +kernel
theorem dX5_match_23 : decode cX5_match 23 = .ok (.isub, 1) := by decide +kernel
theorem dX5_match_24 : decode cX5_match 24 = .ok (.aload_n 3, 1) := by decide +kernel
theorem dX5_match_25 : decode cX5_match 25 = .ok (.iload_n 1, 1) := by decide +kernel
theorem dX5_match_26 : decode cX5_match 26 = .ok (.invokevirtual 70, 3) := by decide +kernel
theorem dX5_match_29 : decode cX5_match 29 = .ok (.isub, 1) := by decide +kernel
theorem dX5_match_30 : decode cX5_match 30 = .ok (.istore 5, 2) := by decide +kernel
theorem dX5_match_32 : decode cX5_match 32 = .ok (.iload 5, 2) := by decide +kernel
theorem dX5_match_34 : decode cX5_match 34 = .ok (.ifCond .lt 10, 3) := by decide +kernel
theorem dX5_match_37 : decode cX5_match 37 = .ok (.iload 5, 2) := by decide +kernel
theorem dX5_match_39 : decode cX5_match 39 = .ok (.bipush 12, 2) := by decide +kernel
theorem dX5_match_41 : decode cX5_match 41 = .ok (.if_icmp .lt 5, 3) := by decide +kernel
theorem dX5_match_44 : decode cX5_match 44 = .ok (.iconst 0, 1) := by decide +kernel
theorem dX5_match_45 : decode cX5_match 45 = .ok (.ireturn, 1) := by decide +kernel
theorem dX5_match_46 : decode cX5_match 46 = .ok (.aload_n 0, 1) := by decide +kernel
theorem dX5_match_47 : decode cX5_match 47 = .ok (.getfield 22, 3) := by decide +kernel
theorem dX5_match_50 : decode cX5_match 50 = .ok (.iload 5, 2) := by decide +kernel
theorem dX5_match_52 : decode cX5_match 52 = .ok (.iload_n 2, 1) := by decide +kernel
theorem dX5_match_53 : decode cX5_match 53 = .ok (.iastore, 1) := by decide +kernel
theorem dX5_match_54 : decode cX5_match 54 = .ok (.iconst 1, 1) := by decide +kernel
theorem dX5_match_55 : decode cX5_match 55 = .ok (.ireturn, 1) := by decide +kernel
theorem dX5_match_56 : decode cX5_match 56 = .ok (.iload 4, 2) := by decide +kernel
theorem dX5_match_58 : decode cX5_match 58 = .ok (.aload_n 3, 1) := by decide +kernel
theorem dX5_match_59 : decode cX5_match 59 = .ok (.iload_n 2, 1) := by decide +kernel
theorem dX5_match_60 : decode cX5_match 60 = .ok (.invokevirtual 60, 3) := by decide +kernel
theorem dX5_match_63 : decode cX5_match 63 = .ok (.if_icmp .eq 5, 3) := by decide +kernel
theorem dX5_match_66 : decode cX5_match 66 = .ok (.iconst 0, 1) := by decide +kernel
theorem dX5_match_67 : decode cX5_match 67 = .ok (.ireturn, 1) := by decide +kernel
theorem dX5_match_68 : decode cX5_match 68 = .ok (.iload 4, 2) := by decide +kernel
theorem dX5_match_70 : decode cX5_match 70 = .ok (.bipush 7, 2) := by decide +kernel
theorem dX5_match_72 : decode cX5_match 72 = .ok (.if_icmp .ne 43, 3) := by decide +kernel
theorem dX5_match_75 : decode cX5_match 75 = .ok (.aload_n 0, 1) := by decide +kernel
theorem dX5_match_76 : decode cX5_match 76 = .ok (.aload_n 3, 1) := by decide +kernel
theorem dX5_match_77 : decode cX5_match 77 = .ok (.iload_n 1, 1) := by decide +kernel
theorem dX5_match_78 : decode cX5_match 78 = .ok (.invokevirtual 70, 3) := by decide +kernel
theorem dX5_match_81 : decode cX5_match 81 = .ok (.aload_n 3, 1) := by decide +kernel
theorem dX5_match_82 : decode cX5_match 82 = .ok (.iload_n 2, 1) := by decide +kernel
theorem dX5_match_83 : decode cX5_match 83 = .ok (.invokevirtual 70, 3) := by decide +kernel
theorem dX5_match_86 : decode cX5_match 86 = .ok (.invokestatic 184, 3) := by decide +kernel
theorem dX5_match_89 : decode cX5_match 89 = .ok (.ifCond .eq 24, 3) := by decide +kernel
theorem dX5_match_92 : decode cX5_match 92 = .ok (.aload_n 0, 1) := by decide +kernel
theorem dX5_match_93 : decode cX5_match 93 = .ok (.aload_n 3, 1) := by decide +kernel
theorem dX5_match_94 : decode cX5_match 94 = .ok (.iload_n 1, 1) := by decide +kernel
theorem dX5_match_95 : decode cX5_match 95 = .ok (.invokevirtual 63, 3) := by decide +kernel
theorem dX5_match_98 : decode cX5_match 98 = .ok (.aload_n 3, 1) := by decide +kernel
theorem dX5_match_99 : decode cX5_match 99 = .ok (.iload_n 2, 1) := by decide +kernel
theorem dX5_match_100 : decode cX5_match 100 = .ok (.invokevirtual 63, 3) := by decide +kernel
theorem dX5_match_103 : decode cX5_match 103 = .ok (.invokestatic 184, 3) := by decide +kernel
theorem dX5_match_106 : decode cX5_match 106 = .ok (.ifCond .eq 7, 3) := by decide +kernel
theorem dX5_match_109 : decode cX5_match 109 = .ok (.iconst 1, 1) := by decide +kernel
theorem dX5_match_110 : decode cX5_match 110 = .ok (.goto 4, 3) := by decide +kernel
theorem dX5_match_113 : decode cX5_match 113 = .ok (.iconst 0, 1) := by decide +kernel
theorem dX5_match_114 : decode cX5_match 114 = .ok (.ireturn, 1) := by decide +kernel
theorem dX5_match_115 : decode cX5_match 115 = .ok (.aload_n 3, 1) := by decide +kernel
theorem dX5_match_116 : decode cX5_match 116 = .ok (.iload_n 1, 1) := by decide +kernel
theorem dX5_match_117 : decode cX5_match 117 = .ok (.invokevirtual 70, 3) := by decide +kernel
theorem dX5_match_120 : decode cX5_match 120 = .ok (.aload_n 3, 1) := by decide +kernel
theorem dX5_match_121 : decode cX5_match 121 = .ok (.iload_n 2, 1) := by decide +kernel
theorem dX5_match_122 : decode cX5_match 122 = .ok (.invokevirtual 70, 3) := by decide +kernel
theorem dX5_match_125 : decode cX5_match 125 = .ok (.if_icmp .ne 7, 3) := by decide +kernel
theorem dX5_match_128 : decode cX5_match 128 = .ok (.iconst 1, 1) := by decide +kernel
theorem dX5_match_129 : decode cX5_match 129 = .ok (.goto 4, 3) := by decide +kernel
theorem dX5_match_132 : decode cX5_match 132 = .ok (.iconst 0, 1) := by decide +kernel
theorem dX5_match_133 : decode cX5_match 133 = .ok (.ireturn, 1) := by decide +kernel
theorem dX5_withValues_0 : decode cX5_withValues 0 = .ok (.aload_n 0, 1) := by decide +kernel
theorem dX5_withValues_1 : decode cX5_withValues 1 = .ok (.getfield 25, 3) := by decide +kernel
theorem dX5_withValues_4 : decode cX5_withValues 4 = .ok (.astore_n 3, 1) := by decide +kernel
theorem dX5_withValues_5 : decode cX5_withValues 5 = .ok (.aload_n 3, 1) := by decide +kernel
theorem dX5_withValues_6 : decode cX5_withValues 6 = .ok (.iload_n 1, 1) := by decide +kernel
theorem dX5_withValues_7 : decode cX5_withValues 7 = .ok (.invokevirtual 188, 3) := by decide +kernel
theorem dX5_withValues_10 : decode cX5_withValues 10 = .ok (.iload_n 2, 1) := by decide +kernel
theorem dX5_withValues_11 : decode cX5_withValues 11 = .ok (.if_icmp .gt 5, 3) := by decide +kernel
theorem dX5_withValues_14 : decode cX5_withValues 14 = .ok (.iload_n 1, 1) := by decide +kernel
theorem dX5_withValues_15 : decode cX5_withValues 15 = .ok (.ireturn, 1) := by decide +kernel
theorem dX5_withValues_16 : decode cX5_withValues 16 = .ok (.aload_n 3, 1) := by decide +kernel
theorem dX5_withValues_17 : decode cX5_withValues 17 = .ok (.iload_n 1, 1) := by decide +kernel
theorem dX5_withValues_18 : decode cX5_withValues 18 = .ok (.invokevirtual 60, 3) := by decide +kernel
theorem dX5_withValues_21 : decode cX5_withValues 21 = .ok (.istore 4, 2) := by decide +kernel
theorem dX5_withValues_23 : decode cX5_withValues 23 = .ok (.iload 4, 2) := by decide +kernel
theorem dX5_withValues_25 : decode cX5_withValues 25 = .ok (.iconst 1, 1) := by decide +kernel
theorem dX5_withValues_26 : decode cX5_withValues 26 = .ok (.if_icmp .ne 45, 3) := by decide +kernel
theorem dX5_withValues_29 : decode cX5_withValues 29 = .ok (.aload_n 0, 1) := by decide +kernel
theorem dX5_withValues_30 : decode cX5_withValues 30 = .ok (.getfield 135, 3) := by decide +kernel
theorem dX5_withValues_33 : decode cX5_withValues 33 = .ok (.iconst 1, 1) := by decide +kernel
theorem dX5_withValues_34 : decode cX5_withValues 34 = .ok (.isub, 1) := by decide +kernel
theorem dX5_withValues_35 : decode cX5_withValues 35 = .ok (.aload_n 3, 1) := by decide +kernel
theorem dX5_withValues_36 : decode cX5_withValues 36 = .ok (.iload_n 1, 1) := by decide +kernel
theorem dX5_withValues_37 : decode cX5_withValues 37 = .ok (.invokevirtual 70, 3) := by decide +kernel
theorem dX5_withValues_40 : decode cX5_withValues 40 = .ok (.iload_n 2, 1) := by decide +kernel
theorem dX5_withValues_41 : decode cX5_withValues 41 = .ok (.isub, 1) := by decide +kernel
theorem dX5_withValues_42 : decode cX5_withValues 42 = .ok (.isub, 1) := by decide +kernel
theorem dX5_withValues_43 : decode cX5_withValues 43 = .ok (.istore 5, 2) := by decide +kernel
theorem dX5_withValues_45 : decode cX5_withValues 45 = .ok (.iload 5, 2) := by decide +kernel
theorem dX5_withValues_47 : decode cX5_withValues 47 = .ok (.ifCond .lt 22, 3) := by decide +kernel
theorem dX5_withValues_50 : decode cX5_withValues 50 = .ok (.iload 5, 2) := by decide +kernel
theorem dX5_withValues_52 : decode cX5_withValues 52 = .ok (.aload_n 0, 1) := by decide +kernel
theorem dX5_withValues_53 : decode cX5_withValues 53 = .ok (.getfield 135, 3) := by decide +kernel
theorem dX5_withValues_56 : decode cX5_withValues 56 = .ok (.if_icmp .ge 13, 3) := by decide +kernel
theorem dX5_withValues_59 : decode cX5_withValues 59 = .ok (.aload_n 0, 1) := by decide +kernel
theorem dX5_withValues_60 : decode cX5_withValues 60 = .ok (.getfield 22, 3) := by decide +kernel
theorem dX5_withValues_63 : decode cX5_withValues 63 = .ok (.iload 5, 2) := by decide +kernel
theorem dX5_withValues_65 : decode cX5_withValues 65 = .ok (.iaload, 1) := by decide +kernel
theorem dX5_withValues_66 : decode cX5_withValues 66 = .ok (.goto 4, 3) := by decide +kernel
theorem dX5_withValues_69 : decode cX5_withValues 69 = .ok (.iconst (-1), 1) := by decide +kernel
theorem dX5_withValues_70 : decode cX5_withValues 70 = .ok (.ireturn, 1) := by decide +kernel
theorem dX5_withValues_71 : decode cX5_withValues 71 = .ok (.aload_n 0, 1) := by decide +kernel
theorem dX5_withValues_72 : decode cX5_withValues 72 = .ok (.aload_n 3, 1) := by decide +kernel
theorem dX5_withValues_73 : decode cX5_withValues 73 = .ok (.iload_n 1, 1) := by decide +kernel
theorem dX5_withValues_74 : decode cX5_withValues 74 = .ok (.invokevirtual 70, 3) := by decide +kernel
theorem dX5_withValues_77 : decode cX5_withValues 77 = .ok (.iload_n 2, 1) := by decide +kernel
theorem dX5_withValues_78 : decode cX5_withValues 78 = .ok (.invokestatic 131, 3) := by decide +kernel
theorem dX5_withValues_81 : decode cX5_withValues 81 = .ok (.istore 5, 2) := by decide +kernel
theorem dX5_withValues_83 : decode cX5_withValues 83 = .ok (.iload 5, 2) := by decide +kernel
theorem dX5_withValues_85 : decode cX5_withValues 85 = .ok (.iconst (-1), 1) := by decide +kernel
theorem dX5_withValues_86 : decode cX5_withValues 86 = .ok (.if_icmp .ne 5, 3) := by decide +kernel
theorem dX5_withValues_89 : decode cX5_withValues 89 = .ok (.iconst (-1), 1) := by decide +kernel
theorem dX5_withValues_90 : decode cX5_withValues 90 = .ok (.ireturn, 1) := by decide +kernel
theorem dX5_withValues_91 : decode cX5_withValues 91 = .ok (.aload_n 0, 1) := by decide +kernel
theorem dX5_withValues_92 : decode cX5_withValues 92 = .ok (.aload_n 3, 1) := by decide +kernel
theorem dX5_withValues_93 : decode cX5_withValues 93 = .ok (.iload_n 1, 1) := by decide +kernel
theorem dX5_withValues_94 : decode cX5_withValues 94 = .ok (.invokevirtual 63, 3) := by decide +kernel
theorem dX5_withValues_97 : decode cX5_withValues 97 = .ok (.iload 4, 2) := by decide +kernel
theorem dX5_withValues_99 : decode cX5_withValues 99 = .ok (.bipush 7, 2) := by decide +kernel
theorem dX5_withValues_101 : decode cX5_withValues 101 = .ok (.if_icmp .ne 7, 3) := by decide +kernel
theorem dX5_withValues_104 : decode cX5_withValues 104 = .ok (.iload_n 2, 1) := by decide +kernel
theorem dX5_withValues_105 : decode cX5_withValues 105 = .ok (.goto 6, 3) := by decide +kernel
theorem dX5_withValues_108 : decode cX5_withValues 108 = .ok (.iload_n 2, 1) := by decide +kernel
theorem dX5_withValues_109 : decode cX5_withValues 109 = .ok (.iconst 1, 1) := by decide +kernel
theorem dX5_withValues_110 : decode cX5_withValues 110 = .ok (.iadd, 1) := by decide +kernel
theorem dX5_withValues_111 : decode cX5_withValues 111 = .ok (.invokestatic 131, 3) := by decide +kernel
theorem dX5_withValues_114 : decode cX5_withValues 114 = .ok (.istore 6, 2) := by decide +kernel
theorem dX5_withValues_116 : decode cX5_withValues 116 = .ok (.aload_n 3, 1) := by decide +kernel
theorem dX5_withValues_117 : decode cX5_withValues 117 = .ok (.iload 4, 2) := by decide +kernel
theorem dX5_withValues_119 : decode cX5_withValues 119 = .ok (.iload 5, 2) := by decide +kernel
theorem dX5_withValues_121 : decode cX5_withValues 121 = .ok (.iload 6, 2) := by decide +kernel
theorem dX5_withValues_123 : decode cX5_withValues 123 = .ok (.invokevirtual 90, 3) := by decide +kernel
theorem dX5_withValues_126 : decode cX5_withValues 126 = .ok (.ireturn, 1) := by decide +kernel
theorem dX6_lift_0 : decode cX6_lift 0 = .ok (.aload_n 0, 1) := by decide +kernel
theorem dX6_lift_1 : decode cX6_lift 1 = .ok (.iload_n 1, 1) := by decide +kernel
theorem dX6_lift_2 : decode cX6_lift 2 = .ok (.invokevirtual 9, 3) := by decide +kernel
theorem dX6_lift_5 : decode cX6_lift 5 = .ok (.iload_n 3, 1) := by decide +kernel
theorem dX6_lift_6 : decode cX6_lift 6 = .ok (.if_icmp .le 7, 3) := by decide +kernel
theorem dX6_lift_9 : decode cX6_lift 9 = .ok (.iload_n 2, 1) := by decide +kernel
theorem dX6_lift_10 : decode cX6_lift 10 = .ok (.ifCond .ne 5, 3) := by decide +kernel
theorem dX6_lift_13 : decode cX6_lift 13 = .ok (.iload_n 1, 1) := by decide +kernel
theorem dX6_lift_14 : decode cX6_lift 14 = .ok (.ireturn, 1) := by decide +kernel
theorem dX6_lift_15 : decode cX6_lift 15 = .ok (.aload_n 0, 1) := by decide +kernel
theorem dX6_lift_16 : decode cX6_lift 16 = .ok (.iload_n 1, 1) := by decide +kernel
theorem dX6_lift_17 : decode cX6_lift 17 = .ok (.invokevirtual 15, 3) := by decide +kernel
theorem dX6_lift_20 : decode cX6_lift 20 = .ok (.istore 4, 2) := by decide +kernel
theorem dX6_lift_22 : decode cX6_lift 22 = .ok (.iload 4, 2) := by decide +kernel
theorem dX6_lift_24 : decode cX6_lift 24 = .ok (.iconst 1, 1) := by decide +kernel
theorem dX6_lift_25 : decode cX6_lift 25 = .ok (.if_icmp .ne 16, 3) := by decide +kernel
theorem dX6_lift_28 : decode cX6_lift 28 = .ok (.aload_n 0, 1) := by decide +kernel
theorem dX6_lift_29 : decode cX6_lift 29 = .ok (.iconst 1, 1) := by decide +kernel
theorem dX6_lift_30 : decode cX6_lift 30 = .ok (.aload_n 0, 1) := by decide +kernel
theorem dX6_lift_31 : decode cX6_lift 31 = .ok (.iload_n 1, 1) := by decide +kernel
theorem dX6_lift_32 : decode cX6_lift 32 = .ok (.invokevirtual 18, 3) := by decide +kernel
theorem dX6_lift_35 : decode cX6_lift 35 = .ok (.iload_n 2, 1) := by decide +kernel
theorem dX6_lift_36 : decode cX6_lift 36 = .ok (.iadd, 1) := by decide +kernel
theorem dX6_lift_37 : decode cX6_lift 37 = .ok (.invokevirtual 21, 3) := by decide +kernel
theorem dX6_lift_40 : decode cX6_lift 40 = .ok (.ireturn, 1) := by decide +kernel
theorem dX6_lift_41 : decode cX6_lift 41 = .ok (.aload_n 0, 1) := by decide +kernel
theorem dX6_lift_42 : decode cX6_lift 42 = .ok (.aload_n 0, 1) := by decide +kernel
theorem dX6_lift_43 : decode cX6_lift 43 = .ok (.iload_n 1, 1) := by decide +kernel
theorem dX6_lift_44 : decode cX6_lift 44 = .ok (.invokevirtual 18, 3) := by decide +kernel
theorem dX6_lift_47 : decode cX6_lift 47 = .ok (.iload_n 2, 1) := by decide +kernel
theorem dX6_lift_48 : decode cX6_lift 48 = .ok (.iload_n 3, 1) := by decide +kernel
theorem dX6_lift_49 : decode cX6_lift 49 = .ok (.invokestatic 25, 3) := by decide +kernel
theorem dX6_lift_52 : decode cX6_lift 52 = .ok (.istore 5, 2) := by decide +kernel
theorem dX6_lift_54 : decode cX6_lift 54 = .ok (.iload 5, 2) := by decide +kernel
theorem dX6_lift_56 : decode cX6_lift 56 = .ok (.iconst (-1), 1) := by decide +kernel
theorem dX6_lift_57 : decode cX6_lift 57 = .ok (.if_icmp .ne 5, 3) := by decide +kernel
theorem dX6_lift_60 : decode cX6_lift 60 = .ok (.iconst (-1), 1) := by decide +kernel
theorem dX6_lift_61 : decode cX6_lift 61 = .ok (.ireturn, 1) := by decide +kernel
theorem dX6_lift_62 : decode cX6_lift 62 = .ok (.aload_n 0, 1) := by decide +kernel
theorem dX6_lift_63 : decode cX6_lift 63 = .ok (.aload_n 0, 1) := by decide +kernel
theorem dX6_lift_64 : decode cX6_lift 64 = .ok (.iload_n 1, 1) := by decide +kernel
theorem dX6_lift_65 : decode cX6_lift 65 = .ok (.invokevirtual 31, 3) := by decide +kernel
theorem dX6_lift_68 : decode cX6_lift 68 = .ok (.iload_n 2, 1) := by decide +kernel
theorem dX6_lift_69 : decode cX6_lift 69 = .ok (.iload 4, 2) := by decide +kernel
theorem dX6_lift_71 : decode cX6_lift 71 = .ok (.bipush 7, 2) := by decide +kernel
theorem dX6_lift_73 : decode cX6_lift 73 = .ok (.if_icmp .ne 7, 3) := by decide +kernel
theorem dX6_lift_76 : decode cX6_lift 76 = .ok (.iload_n 3, 1) := by decide +kernel
theorem dX6_lift_77 : decode cX6_lift 77 = .ok (.goto 6, 3) := by decide +kernel
theorem dX6_lift_80 : decode cX6_lift 80 = .ok (.iload_n 3, 1) := by decide +kernel
theorem dX6_lift_81 : decode cX6_lift 81 = .ok (.iconst 1, 1) := by decide +kernel
theorem dX6_lift_82 : decode cX6_lift 82 = .ok (.iadd, 1) := by decide +kernel
theorem dX6_lift_83 : decode cX6_lift 83 = .ok (.invokestatic 25, 3) := by decide +kernel
theorem dX6_lift_86 : decode cX6_lift 86 = .ok (.istore 6, 2) := by decide +kernel
theorem dX6_lift_88 : decode cX6_lift 88 = .ok (.aload_n 0, 1) := by decide +kernel
theorem dX6_lift_89 : decode cX6_lift 89 = .ok (.iload 4, 2) := by decide +kernel
theorem dX6_lift_91 : decode cX6_lift 91 = .ok (.iload 5, 2) := by decide +kernel
theorem dX6_lift_93 : decode cX6_lift 93 = .ok (.iload 6, 2) := by decide +kernel
theorem dX6_lift_95 : decode cX6_lift 95 = .ok (.invokevirtual 34, 3) := by decide +kernel
theorem dX6_lift_98 : decode cX6_lift 98 = .ok (.ireturn, 1) := by decide +kernel
theorem dX6_put_0 : decode cX6_put 0 = .ok (.aload_n 0, 1) := by decide +kernel
theorem dX6_put_1 : decode cX6_put 1 = .ok (.iload_n 1, 1) := by decide +kernel
theorem dX6_put_2 : decode cX6_put 2 = .ok (.invokevirtual 9, 3) := by decide +kernel
theorem dX6_put_5 : decode cX6_put 5 = .ok (.iload_n 3, 1) := by decide +kernel
theorem dX6_put_6 : decode cX6_put 6 = .ok (.if_icmp .gt 5, 3) := by decide +kernel
theorem dX6_put_9 : decode cX6_put 9 = .ok (.iload_n 1, 1) := by decide +kernel
theorem dX6_put_10 : decode cX6_put 10 = .ok (.ireturn, 1) := by decide +kernel
theorem dX6_put_11 : decode cX6_put 11 = .ok (.aload_n 0, 1) := by decide +kernel
theorem dX6_put_12 : decode cX6_put 12 = .ok (.iload_n 1, 1) := by decide +kernel
theorem dX6_put_13 : decode cX6_put 13 = .ok (.invokevirtual 15, 3) := by decide +kernel
theorem dX6_put_16 : decode cX6_put 16 = .ok (.istore 4, 2) := by decide +kernel
theorem dX6_put_18 : decode cX6_put 18 = .ok (.iload 4, 2) := by decide +kernel
theorem dX6_put_20 : decode cX6_put 20 = .ok (.iconst 1, 1) := by decide +kernel
theorem dX6_put_21 : decode cX6_put 21 = .ok (.if_icmp .ne 36, 3) := by decide +kernel
theorem dX6_put_24 : decode cX6_put 24 = .ok (.aload_n 0, 1) := by decide +kernel
theorem dX6_put_25 : decode cX6_put 25 = .ok (.iload_n 1, 1) := by decide +kernel
theorem dX6_put_26 : decode cX6_put 26 = .ok (.invokevirtual 18, 3) := by decide +kernel
theorem dX6_put_29 : decode cX6_put 29 = .ok (.istore 5, 2) := by decide +kernel
theorem dX6_put_31 : decode cX6_put 31 = .ok (.iload 5, 2) := by decide +kernel
theorem dX6_put_33 : decode cX6_put 33 = .ok (.iload_n 3, 1) := by decide +kernel
theorem dX6_put_34 : decode cX6_put 34 = .ok (.if_icmp .ne 13, 3) := by decide +kernel
theorem dX6_put_37 : decode cX6_put 37 = .ok (.aload_n 0, 1) := by decide +kernel
theorem dX6_put_38 : decode cX6_put 38 = .ok (.iload_n 2, 1) := by decide +kernel
theorem dX6_put_39 : decode cX6_put 39 = .ok (.iload_n 3, 1) := by decide +kernel
theorem dX6_put_40 : decode cX6_put 40 = .ok (.iconst 0, 1) := by decide +kernel
theorem dX6_put_41 : decode cX6_put 41 = .ok (.invokestatic 25, 3) := by decide +kernel
theorem dX6_put_44 : decode cX6_put 44 = .ok (.goto 12, 3) := by decide +kernel
theorem dX6_put_47 : decode cX6_put 47 = .ok (.aload_n 0, 1) := by decide +kernel
theorem dX6_put_48 : decode cX6_put 48 = .ok (.iconst 1, 1) := by decide +kernel
theorem dX6_put_49 : decode cX6_put 49 = .ok (.iload 5, 2) := by decide +kernel
theorem dX6_put_51 : decode cX6_put 51 = .ok (.iconst 1, 1) := by decide +kernel
theorem dX6_put_52 : decode cX6_put 52 = .ok (.isub, 1) := by decide +kernel
theorem dX6_put_53 : decode cX6_put 53 = .ok (.invokevirtual 21, 3) := by decide +kernel
theorem dX6_put_56 : decode cX6_put 56 = .ok (.ireturn, 1) := by decide +kernel
theorem dX6_put_57 : decode cX6_put 57 = .ok (.aload_n 0, 1) := by decide +kernel
theorem dX6_put_58 : decode cX6_put 58 = .ok (.aload_n 0, 1) := by decide +kernel
theorem dX6_put_59 : decode cX6_put 59 = .ok (.iload_n 1, 1) := by decide +kernel
theorem dX6_put_60 : decode cX6_put 60 = .ok (.invokevirtual 18, 3) := by decide +kernel
theorem dX6_put_63 : decode cX6_put 63 = .ok (.iload_n 2, 1) := by decide +kernel
theorem dX6_put_64 : decode cX6_put 64 = .ok (.iload_n 3, 1) := by decide +kernel
theorem dX6_put_65 : decode cX6_put 65 = .ok (.invokestatic 38, 3) := by decide +kernel
theorem dX6_put_68 : decode cX6_put 68 = .ok (.istore 5, 2) := by decide +kernel
theorem dX6_put_70 : decode cX6_put 70 = .ok (.iload 5, 2) := by decide +kernel
theorem dX6_put_72 : decode cX6_put 72 = .ok (.iconst (-1), 1) := by decide +kernel
theorem dX6_put_73 : decode cX6_put 73 = .ok (.if_icmp .ne 5, 3) := by decide +kernel
theorem dX6_put_76 : decode cX6_put 76 = .ok (.iconst (-1), 1) := by decide +kernel
theorem dX6_put_77 : decode cX6_put 77 = .ok (.ireturn, 1) := by decide +kernel
theorem dX6_put_78 : decode cX6_put 78 = .ok (.aload_n 0, 1) := by decide +kernel
theorem dX6_put_79 : decode cX6_put 79 = .ok (.aload_n 0, 1) := by decide +kernel
theorem dX6_put_80 : decode cX6_put 80 = .ok (.iload_n 1, 1) := by decide +kernel
theorem dX6_put_81 : decode cX6_put 81 = .ok (.invokevirtual 31, 3) := by decide +kernel
theorem dX6_put_84 : decode cX6_put 84 = .ok (.iload_n 2, 1) := by decide +kernel
theorem dX6_put_85 : decode cX6_put 85 = .ok (.iload 4, 2) := by decide +kernel
theorem dX6_put_87 : decode cX6_put 87 = .ok (.bipush 7, 2) := by decide +kernel
theorem dX6_put_89 : decode cX6_put 89 = .ok (.if_icmp .ne 7, 3) := by decide +kernel
theorem dX6_put_92 : decode cX6_put 92 = .ok (.iload_n 3, 1) := by decide +kernel
theorem dX6_put_93 : decode cX6_put 93 = .ok (.goto 6, 3) := by decide +kernel
theorem dX6_put_96 : decode cX6_put 96 = .ok (.iload_n 3, 1) := by decide +kernel
theorem dX6_put_97 : decode cX6_put 97 = .ok (.iconst 1, 1) := by decide +kernel
theorem dX6_put_98 : decode cX6_put 98 = .ok (.iadd, 1) := by decide +kernel
theorem dX6_put_99 : decode cX6_put 99 = .ok (.invokestatic 38, 3) := by decide +kernel
theorem dX6_put_102 : decode cX6_put 102 = .ok (.istore 6, 2) := by decide +kernel
theorem dX6_put_104 : decode cX6_put 104 = .ok (.aload_n 0, 1) := by decide +kernel
theorem dX6_put_105 : decode cX6_put 105 = .ok (.iload 4, 2) := by decide +kernel
theorem dX6_put_107 : decode cX6_put 107 = .ok (.iload 5, 2) := by decide +kernel
theorem dX6_put_109 : decode cX6_put 109 = .ok (.iload 6, 2) := by decide +kernel
theorem dX6_put_111 : decode cX6_put 111 = .ok (.invokevirtual 34, 3) := by decide +kernel
theorem dX6_put_114 : decode cX6_put 114 = .ok (.ireturn, 1) := by decide +kernel
theorem dX6_same_0 : decode cX6_same 0 = .ok (.aload_n 0, 1) := by decide +kernel
theorem dX6_same_1 : decode cX6_same 1 = .ok (.iload_n 1, 1) := by decide +kernel
theorem dX6_same_2 : decode cX6_same 2 = .ok (.invokevirtual 15, 3) := by decide +kernel
theorem dX6_same_5 : decode cX6_same 5 = .ok (.istore_n 3, 1) := by decide +kernel
theorem dX6_same_6 : decode cX6_same 6 = .ok (.iload_n 3, 1) := by decide +kernel
theorem dX6_same_7 : decode cX6_same 7 = .ok (.iconst (-1), 1) := by decide +kernel
theorem dX6_same_8 : decode cX6_same 8 = .ok (.if_icmp .eq 38, 3) := by decide +kernel
theorem dX6_same_11 : decode cX6_same 11 = .ok (.iload_n 3, 1) := by decide +kernel
theorem dX6_same_12 : decode cX6_same 12 = .ok (.aload_n 0, 1) := by decide +kernel
theorem dX6_same_13 : decode cX6_same 13 = .ok (.iload_n 2, 1) := by decide +kernel
theorem dX6_same_14 : decode cX6_same 14 = .ok (.invokevirtual 15, 3) := by decide +kernel
theorem dX6_same_17 : decode cX6_same 17 = .ok (.if_icmp .ne 29, 3) := by decide +kernel
theorem dX6_same_20 : decode cX6_same 20 = .ok (.aload_n 0, 1) := by decide +kernel
theorem dX6_same_21 : decode cX6_same 21 = .ok (.iload_n 1, 1) := by decide +kernel
theorem dX6_same_22 : decode cX6_same 22 = .ok (.invokevirtual 41, 3) := by decide +kernel
theorem dX6_same_25 : decode cX6_same 25 = .ok (.aload_n 0, 1) := by decide +kernel
theorem dX6_same_26 : decode cX6_same 26 = .ok (.iload_n 2, 1) := by decide +kernel
theorem dX6_same_27 : decode cX6_same 27 = .ok (.invokevirtual 41, 3) := by decide +kernel
theorem dX6_same_30 : decode cX6_same 30 = .ok (.if_icmp .ne 16, 3) := by decide +kernel
theorem dX6_same_33 : decode cX6_same 33 = .ok (.aload_n 0, 1) := by decide +kernel
theorem dX6_same_34 : decode cX6_same 34 = .ok (.iload_n 1, 1) := by decide +kernel
theorem dX6_same_35 : decode cX6_same 35 = .ok (.invokevirtual 44, 3) := by decide +kernel
theorem dX6_same_38 : decode cX6_same 38 = .ok (.aload_n 0, 1) := by decide +kernel
theorem dX6_same_39 : decode cX6_same 39 = .ok (.iload_n 2, 1) := by decide +kernel
theorem dX6_same_40 : decode cX6_same 40 = .ok (.invokevirtual 44, 3) := by decide +kernel
theorem dX6_same_43 : decode cX6_same 43 = .ok (.if_icmp .eq 5, 3) := by decide +kernel
theorem dX6_same_46 : decode cX6_same 46 = .ok (.iconst 0, 1) := by decide +kernel
theorem dX6_same_47 : decode cX6_same 47 = .ok (.ireturn, 1) := by decide +kernel
theorem dX6_same_48 : decode cX6_same 48 = .ok (.iload_n 1, 1) := by decide +kernel
theorem dX6_same_49 : decode cX6_same 49 = .ok (.iload_n 2, 1) := by decide +kernel
theorem dX6_same_50 : decode cX6_same 50 = .ok (.if_icmp .ne 5, 3) := by decide +kernel
theorem dX6_same_53 : decode cX6_same 53 = .ok (.iconst 1, 1) := by decide +kernel
theorem dX6_same_54 : decode cX6_same 54 = .ok (.ireturn, 1) := by decide +kernel
theorem dX6_same_55 : decode cX6_same 55 = .ok (.iload_n 3, 1) := by decide +kernel
theorem dX6_same_56 : decode cX6_same 56 = .ok (.iconst 5, 1) := by decide +kernel
theorem dX6_same_57 : decode cX6_same 57 = .ok (.if_icmp .ge 22, 3) := by decide +kernel
theorem dX6_same_60 : decode cX6_same 60 = .ok (.aload_n 0, 1) := by decide +kernel
theorem dX6_same_61 : decode cX6_same 61 = .ok (.iload_n 1, 1) := by decide +kernel
theorem dX6_same_62 : decode cX6_same 62 = .ok (.invokevirtual 18, 3) := by decide +kernel
theorem dX6_same_65 : decode cX6_same 65 = .ok (.aload_n 0, 1) := by decide +kernel
theorem dX6_same_66 : decode cX6_same 66 = .ok (.iload_n 2, 1) := by decide +kernel
theorem dX6_same_67 : decode cX6_same 67 = .ok (.invokevirtual 18, 3) := by decide +kernel
theorem dX6_same_70 : decode cX6_same 70 = .ok (.if_icmp .ne 7, 3) := by decide +kernel
theorem dX6_same_73 : decode cX6_same 73 = .ok (.iconst 1, 1) := by decide +kernel
theorem dX6_same_74 : decode cX6_same 74 = .ok (.goto 4, 3) := by decide +kernel
theorem dX6_same_77 : decode cX6_same 77 = .ok (.iconst 0, 1) := by decide +kernel
theorem dX6_same_78 : decode cX6_same 78 = .ok (.ireturn, 1) := by decide +kernel
theorem dX6_same_79 : decode cX6_same 79 = .ok (.aload_n 0, 1) := by decide +kernel
theorem dX6_same_80 : decode cX6_same 80 = .ok (.aload_n 0, 1) := by decide +kernel
theorem dX6_same_81 : decode cX6_same 81 = .ok (.iload_n 1, 1) := by decide +kernel
theorem dX6_same_82 : decode cX6_same 82 = .ok (.invokevirtual 18, 3) := by decide +kernel
theorem dX6_same_85 : decode cX6_same 85 = .ok (.aload_n 0, 1) := by decide +kernel
theorem dX6_same_86 : decode cX6_same 86 = .ok (.iload_n 2, 1) := by decide +kernel
theorem dX6_same_87 : decode cX6_same 87 = .ok (.invokevirtual 18, 3) := by decide +kernel
theorem dX6_same_90 : decode cX6_same 90 = .ok (.invokestatic 47, 3) := by decide +kernel
theorem dX6_same_93 : decode cX6_same 93 = .ok (.ifCond .eq 24, 3) := by decide +kernel
theorem dX6_same_96 : decode cX6_same 96 = .ok (.aload_n 0, 1) := by decide +kernel
theorem dX6_same_97 : decode cX6_same 97 = .ok (.aload_n 0, 1) := by decide +kernel
theorem dX6_same_98 : decode cX6_same 98 = .ok (.iload_n 1, 1) := by decide +kernel
theorem dX6_same_99 : decode cX6_same 99 = .ok (.invokevirtual 31, 3) := by decide +kernel
theorem dX6_same_102 : decode cX6_same 102 = .ok (.aload_n 0, 1) := by decide +kernel
theorem dX6_same_103 : decode cX6_same 103 = .ok (.iload_n 2, 1) := by decide +kernel
theorem dX6_same_104 : decode cX6_same 104 = .ok (.invokevirtual 31, 3) := by decide +kernel
theorem dX6_same_107 : decode cX6_same 107 = .ok (.invokestatic 47, 3) := by decide +kernel
theorem dX6_same_110 : decode cX6_same 110 = .ok (.ifCond .eq 7, 3) := by decide +kernel
theorem dX6_same_113 : decode cX6_same 113 = .ok (.iconst 1, 1) := by decide +kernel
theorem dX6_same_114 : decode cX6_same 114 = .ok (.goto 4, 3) := by decide +kernel
theorem dX6_same_117 : decode cX6_same 117 = .ok (.iconst 0, 1) := by decide +kernel
theorem dX6_same_118 : decode cX6_same 118 = .ok (.ireturn, 1) := by decide +kernel
theorem dX6_holds_0 : decode cX6_holds 0 = .ok (.aload_n 0, 1) := by decide +kernel
theorem dX6_holds_1 : decode cX6_holds 1 = .ok (.iload_n 1, 1) := by decide +kernel
theorem dX6_holds_2 : decode cX6_holds 2 = .ok (.invokevirtual 15, 3) := by decide +kernel
theorem dX6_holds_5 : decode cX6_holds 5 = .ok (.istore_n 3, 1) := by decide +kernel
theorem dX6_holds_6 : decode cX6_holds 6 = .ok (.iload_n 3, 1) := by decide +kernel
theorem dX6_holds_7 : decode cX6_holds 7 = .ok (.iconst 1, 1) := by decide +kernel
theorem dX6_holds_8 : decode cX6_holds 8 = .ok (.if_icmp .ne 18, 3) := by decide +kernel
theorem dX6_holds_11 : decode cX6_holds 11 = .ok (.aload_n 0, 1) := by decide +kernel
theorem dX6_holds_12 : decode cX6_holds 12 = .ok (.iload_n 1, 1) := by decide +kernel
theorem dX6_holds_13 : decode cX6_holds 13 = .ok (.invokevirtual 18, 3) := by decide +kernel
theorem dX6_holds_16 : decode cX6_holds 16 = .ok (.iload_n 2, 1) := by decide +kernel
theorem dX6_holds_17 : decode cX6_holds 17 = .ok (.if_icmp .ne 7, 3) := by decide +kernel
theorem dX6_holds_20 : decode cX6_holds 20 = .ok (.iconst 1, 1) := by decide +kernel
theorem dX6_holds_21 : decode cX6_holds 21 = .ok (.goto 4, 3) := by decide +kernel
theorem dX6_holds_24 : decode cX6_holds 24 = .ok (.iconst 0, 1) := by decide +kernel
theorem dX6_holds_25 : decode cX6_holds 25 = .ok (.ireturn, 1) := by decide +kernel
theorem dX6_holds_26 : decode cX6_holds 26 = .ok (.iload_n 3, 1) := by decide +kernel
theorem dX6_holds_27 : decode cX6_holds 27 = .ok (.bipush 7, 2) := by decide +kernel
theorem dX6_holds_29 : decode cX6_holds 29 = .ok (.if_icmp .ne 33, 3) := by decide +kernel
theorem dX6_holds_32 : decode cX6_holds 32 = .ok (.aload_n 0, 1) := by decide +kernel
theorem dX6_holds_33 : decode cX6_holds 33 = .ok (.aload_n 0, 1) := by decide +kernel
theorem dX6_holds_34 : decode cX6_holds 34 = .ok (.iload_n 1, 1) := by decide +kernel
theorem dX6_holds_35 : decode cX6_holds 35 = .ok (.invokevirtual 18, 3) := by decide +kernel
theorem dX6_holds_38 : decode cX6_holds 38 = .ok (.iload_n 2, 1) := by decide +kernel
theorem dX6_holds_39 : decode cX6_holds 39 = .ok (.invokestatic 51, 3) := by decide +kernel
theorem dX6_holds_42 : decode cX6_holds 42 = .ok (.ifCond .ne 16, 3) := by decide +kernel
theorem dX6_holds_45 : decode cX6_holds 45 = .ok (.aload_n 0, 1) := by decide +kernel
theorem dX6_holds_46 : decode cX6_holds 46 = .ok (.aload_n 0, 1) := by decide +kernel
theorem dX6_holds_47 : decode cX6_holds 47 = .ok (.iload_n 1, 1) := by decide +kernel
theorem dX6_holds_48 : decode cX6_holds 48 = .ok (.invokevirtual 31, 3) := by decide +kernel
theorem dX6_holds_51 : decode cX6_holds 51 = .ok (.iload_n 2, 1) := by decide +kernel
theorem dX6_holds_52 : decode cX6_holds 52 = .ok (.invokestatic 51, 3) := by decide +kernel
theorem dX6_holds_55 : decode cX6_holds 55 = .ok (.ifCond .eq 7, 3) := by decide +kernel
theorem dX6_holds_58 : decode cX6_holds 58 = .ok (.iconst 1, 1) := by decide +kernel
theorem dX6_holds_59 : decode cX6_holds 59 = .ok (.goto 4, 3) := by decide +kernel
theorem dX6_holds_62 : decode cX6_holds 62 = .ok (.iconst 0, 1) := by decide +kernel
theorem dX6_holds_63 : decode cX6_holds 63 = .ok (.ireturn, 1) := by decide +kernel
theorem dX6_meet_0 : decode cX6_meet 0 = .ok (.aload_n 0, 1) := by decide +kernel
theorem dX6_meet_1 : decode cX6_meet 1 = .ok (.iload_n 1, 1) := by decide +kernel
theorem dX6_meet_2 : decode cX6_meet 2 = .ok (.invokevirtual 15, 3) := by decide +kernel
theorem dX6_meet_5 : decode cX6_meet 5 = .ok (.istore_n 3, 1) := by decide +kernel
theorem dX6_meet_6 : decode cX6_meet 6 = .ok (.aload_n 0, 1) := by decide +kernel
theorem dX6_meet_7 : decode cX6_meet 7 = .ok (.iload_n 2, 1) := by decide +kernel
theorem dX6_meet_8 : decode cX6_meet 8 = .ok (.invokevirtual 15, 3) := by decide +kernel
theorem dX6_meet_11 : decode cX6_meet 11 = .ok (.istore 4, 2) := by decide +kernel
theorem dX6_meet_13 : decode cX6_meet 13 = .ok (.iload_n 3, 1) := by decide +kernel
theorem dX6_meet_14 : decode cX6_meet 14 = .ok (.iconst 1, 1) := by decide +kernel
theorem dX6_meet_15 : decode cX6_meet 15 = .ok (.if_icmp .eq 9, 3) := by decide +kernel
theorem dX6_meet_18 : decode cX6_meet 18 = .ok (.iload 4, 2) := by decide +kernel
theorem dX6_meet_20 : decode cX6_meet 20 = .ok (.iconst 1, 1) := by decide +kernel
theorem dX6_meet_21 : decode cX6_meet 21 = .ok (.if_icmp .ne 5, 3) := by decide +kernel
theorem dX6_meet_24 : decode cX6_meet 24 = .ok (.iconst 1, 1) := by decide +kernel
theorem dX6_meet_25 : decode cX6_meet 25 = .ok (.ireturn, 1) := by decide +kernel
theorem dX6_meet_26 : decode cX6_meet 26 = .ok (.iload_n 3, 1) := by decide +kernel
theorem dX6_meet_27 : decode cX6_meet 27 = .ok (.iconst 3, 1) := by decide +kernel
theorem dX6_meet_28 : decode cX6_meet 28 = .ok (.if_icmp .ne 28, 3) := by decide +kernel
theorem dX6_meet_31 : decode cX6_meet 31 = .ok (.iload 4, 2) := by decide +kernel
theorem dX6_meet_33 : decode cX6_meet 33 = .ok (.iconst 3, 1) := by decide +kernel
theorem dX6_meet_34 : decode cX6_meet 34 = .ok (.if_icmp .ne 22, 3) := by decide +kernel
theorem dX6_meet_37 : decode cX6_meet 37 = .ok (.aload_n 0, 1) := by decide +kernel
theorem dX6_meet_38 : decode cX6_meet 38 = .ok (.iload_n 1, 1) := by decide +kernel
theorem dX6_meet_39 : decode cX6_meet 39 = .ok (.invokevirtual 18, 3) := by decide +kernel
theorem dX6_meet_42 : decode cX6_meet 42 = .ok (.aload_n 0, 1) := by decide +kernel
theorem dX6_meet_43 : decode cX6_meet 43 = .ok (.iload_n 2, 1) := by decide +kernel
theorem dX6_meet_44 : decode cX6_meet 44 = .ok (.invokevirtual 18, 3) := by decide +kernel
theorem dX6_meet_47 : decode cX6_meet 47 = .ok (.if_icmp .ne 7, 3) := by decide +kernel
theorem dX6_meet_50 : decode cX6_meet 50 = .ok (.iconst 1, 1) := by decide +kernel
theorem dX6_meet_51 : decode cX6_meet 51 = .ok (.goto 4, 3) := by decide +kernel
theorem dX6_meet_54 : decode cX6_meet 54 = .ok (.iconst 0, 1) := by decide +kernel
theorem dX6_meet_55 : decode cX6_meet 55 = .ok (.ireturn, 1) := by decide +kernel
theorem dX6_meet_56 : decode cX6_meet 56 = .ok (.iload_n 3, 1) := by decide +kernel
theorem dX6_meet_57 : decode cX6_meet 57 = .ok (.bipush 7, 2) := by decide +kernel
theorem dX6_meet_59 : decode cX6_meet 59 = .ok (.if_icmp .ne 48, 3) := by decide +kernel
theorem dX6_meet_62 : decode cX6_meet 62 = .ok (.iload 4, 2) := by decide +kernel
theorem dX6_meet_64 : decode cX6_meet 64 = .ok (.bipush 7, 2) := by decide +kernel
theorem dX6_meet_66 : decode cX6_meet 66 = .ok (.if_icmp .ne 41, 3) := by decide +kernel
theorem dX6_meet_69 : decode cX6_meet 69 = .ok (.aload_n 0, 1) := by decide +kernel
theorem dX6_meet_70 : decode cX6_meet 70 = .ok (.aload_n 0, 1) := by decide +kernel
theorem dX6_meet_71 : decode cX6_meet 71 = .ok (.iload_n 1, 1) := by decide +kernel
theorem dX6_meet_72 : decode cX6_meet 72 = .ok (.invokevirtual 18, 3) := by decide +kernel
theorem dX6_meet_75 : decode cX6_meet 75 = .ok (.aload_n 0, 1) := by decide +kernel
theorem dX6_meet_76 : decode cX6_meet 76 = .ok (.iload_n 2, 1) := by decide +kernel
theorem dX6_meet_77 : decode cX6_meet 77 = .ok (.invokevirtual 18, 3) := by decide +kernel
theorem dX6_meet_80 : decode cX6_meet 80 = .ok (.invokestatic 54, 3) := by decide +kernel
theorem dX6_meet_83 : decode cX6_meet 83 = .ok (.ifCond .eq 24, 3) := by decide +kernel
theorem dX6_meet_86 : decode cX6_meet 86 = .ok (.aload_n 0, 1) := by decide +kernel
theorem dX6_meet_87 : decode cX6_meet 87 = .ok (.aload_n 0, 1) := by decide +kernel
theorem dX6_meet_88 : decode cX6_meet 88 = .ok (.iload_n 1, 1) := by decide +kernel
theorem dX6_meet_89 : decode cX6_meet 89 = .ok (.invokevirtual 31, 3) := by decide +kernel
theorem dX6_meet_92 : decode cX6_meet 92 = .ok (.aload_n 0, 1) := by decide +kernel
theorem dX6_meet_93 : decode cX6_meet 93 = .ok (.iload_n 2, 1) := by decide +kernel
theorem dX6_meet_94 : decode cX6_meet 94 = .ok (.invokevirtual 31, 3) := by decide +kernel
theorem dX6_meet_97 : decode cX6_meet 97 = .ok (.invokestatic 54, 3) := by decide +kernel
theorem dX6_meet_100 : decode cX6_meet 100 = .ok (.ifCond .eq 7, 3) := by decide +kernel
theorem dX6_meet_103 : decode cX6_meet 103 = .ok (.iconst 1, 1) := by decide +kernel
theorem dX6_meet_104 : decode cX6_meet 104 = .ok (.goto 4, 3) := by decide +kernel
theorem dX6_meet_107 : decode cX6_meet 107 = .ok (.iconst 0, 1) := by decide +kernel
theorem dX6_meet_108 : decode cX6_meet 108 = .ok (.ireturn, 1) := by decide +kernel
theorem dX7_init_0 : decode cX7_init 0 = .ok (.aload_n 0, 1) := by decide +kernel
theorem dX7_init_1 : decode cX7_init 1 = .ok (.invokespecial 3, 3) := by decide +kernel
theorem dX7_init_4 : decode cX7_init 4 = .ok (.aload_n 0, 1) := by decide +kernel
theorem dX7_init_5 : decode cX7_init 5 = .ok (.bipush 6, 2) := by decide +kernel
theorem dX7_init_7 : decode cX7_init 7 = .ok (.newarray .boolean, 2) := by decide +kernel
theorem dX7_init_9 : decode cX7_init 9 = .ok (.putfield 9, 3) := by decide +kernel
theorem dX7_init_12 : decode cX7_init 12 = .ok (.aload_n 0, 1) := by decide +kernel
theorem dX7_init_13 : decode cX7_init 13 = .ok (.bipush 16, 2) := by decide +kernel
theorem dX7_init_15 : decode cX7_init 15 = .ok (.newarray .int, 2) := by decide +kernel
theorem dX7_init_17 : decode cX7_init 17 = .ok (.putfield 15, 3) := by decide +kernel
theorem dX7_init_20 : decode cX7_init 20 = .ok (.aload_n 0, 1) := by decide +kernel
theorem dX7_init_21 : decode cX7_init 21 = .ok (.bipush 16, 2) := by decide +kernel
theorem dX7_init_23 : decode cX7_init 23 = .ok (.newarray .int, 2) := by decide +kernel
theorem dX7_init_25 : decode cX7_init 25 = .ok (.putfield 19, 3) := by decide +kernel
theorem dX7_init_28 : decode cX7_init 28 = .ok (.aload_n 0, 1) := by decide +kernel
theorem dX7_init_29 : decode cX7_init 29 = .ok (.bipush 48, 2) := by decide +kernel
theorem dX7_init_31 : decode cX7_init 31 = .ok (.newarray .int, 2) := by decide +kernel
theorem dX7_init_33 : decode cX7_init 33 = .ok (.putfield 22, 3) := by decide +kernel
theorem dX7_init_36 : decode cX7_init 36 = .ok (.aload_n 0, 1) := by decide +kernel
theorem dX7_init_37 : decode cX7_init 37 = .ok (.bipush 16, 2) := by decide +kernel
theorem dX7_init_39 : decode cX7_init 39 = .ok (.newarray .int, 2) := by decide +kernel
theorem dX7_init_41 : decode cX7_init 41 = .ok (.putfield 25, 3) := by decide +kernel
theorem dX7_init_44 : decode cX7_init 44 = .ok (.aload_n 0, 1) := by decide +kernel
theorem dX7_init_45 : decode cX7_init 45 = .ok (.bipush 16, 2) := by decide +kernel
theorem dX7_init_47 : decode cX7_init 47 = .ok (.newarray .int, 2) := by decide +kernel
theorem dX7_init_49 : decode cX7_init 49 = .ok (.putfield 28, 3) := by decide +kernel
theorem dX7_init_52 : decode cX7_init 52 = .ok (.aload_n 0, 1) := by decide +kernel
theorem dX7_init_53 : decode cX7_init 53 = .ok (.bipush 6, 2) := by decide +kernel
theorem dX7_init_55 : decode cX7_init 55 = .ok (.newarray .int, 2) := by decide +kernel
theorem dX7_init_57 : decode cX7_init 57 = .ok (.putfield 31, 3) := by decide +kernel
theorem dX7_init_60 : decode cX7_init 60 = .ok (.aload_n 0, 1) := by decide +kernel
theorem dX7_init_61 : decode cX7_init 61 = .ok (.aload_n 1, 1) := by decide +kernel
theorem dX7_init_62 : decode cX7_init 62 = .ok (.putfield 34, 3) := by decide +kernel
theorem dX7_init_65 : decode cX7_init 65 = .ok (.return_, 1) := by decide +kernel
theorem dX7_hasData_0 : decode cX7_hasData 0 = .ok (.iload_n 1, 1) := by decide +kernel
theorem dX7_hasData_1 : decode cX7_hasData 1 = .ok (.ifCond .lt 15, 3) := by decide +kernel
theorem dX7_hasData_4 : decode cX7_hasData 4 = .ok (.iload_n 1, 1) := by decide +kernel
theorem dX7_hasData_5 : decode cX7_hasData 5 = .ok (.aload_n 0, 1) := by decide +kernel
theorem dX7_hasData_6 : decode cX7_hasData 6 = .ok (.getfield 38, 3) := by decide +kernel
theorem dX7_hasData_9 : decode cX7_hasData 9 = .ok (.if_icmp .ge 7, 3) := by decide +kernel
theorem dX7_hasData_12 : decode cX7_hasData 12 = .ok (.iconst 1, 1) := by decide +kernel
theorem dX7_hasData_13 : decode cX7_hasData 13 = .ok (.goto 4, 3) := by decide +kernel
theorem dX7_hasData_16 : decode cX7_hasData 16 = .ok (.iconst 0, 1) := by decide +kernel
theorem dX7_hasData_17 : decode cX7_hasData 17 = .ok (.ireturn, 1) := by decide +kernel
theorem dX7_hasConstructor_0 : decode cX7_hasConstructor 0 = .ok (.iload_n 1, 1) := by decide +kernel
theorem dX7_hasConstructor_1 : decode cX7_hasConstructor 1 = .ok (.ifCond .lt 15, 3) := by decide +kernel
theorem dX7_hasConstructor_4 : decode cX7_hasConstructor 4 = .ok (.iload_n 1, 1) := by decide +kernel
theorem dX7_hasConstructor_5 : decode cX7_hasConstructor 5 = .ok (.aload_n 0, 1) := by decide +kernel
theorem dX7_hasConstructor_6 : decode cX7_hasConstructor 6 = .ok (.getfield 42, 3) := by decide +kernel
theorem dX7_hasConstructor_9 : decode cX7_hasConstructor 9 = .ok (.if_icmp .ge 7, 3) := by decide +kernel
theorem dX7_hasConstructor_12 : decode cX7_hasConstructor 12 = .ok (.iconst 1, 1) := by decide +kernel
theorem dX7_hasConstructor_13 : decode cX7_hasConstructor 13 = .ok (.goto 4, 3) := by decide +kernel
theorem dX7_hasConstructor_16 : decode cX7_hasConstructor 16 = .ok (.iconst 0, 1) := by decide +kernel
theorem dX7_hasConstructor_17 : decode cX7_hasConstructor 17 = .ok (.ireturn, 1) := by decide +kernel
theorem dX7_wasSplit_0 : decode cX7_wasSplit 0 = .ok (.aload_n 0, 1) := by decide +kernel
theorem dX7_wasSplit_1 : decode cX7_wasSplit 1 = .ok (.iload_n 1, 1) := by decide +kernel
theorem dX7_wasSplit_2 : decode cX7_wasSplit 2 = .ok (.invokevirtual 45, 3) := by decide +kernel
theorem dX7_wasSplit_5 : decode cX7_wasSplit 5 = .ok (.ifCond .eq 16, 3) := by decide +kernel
theorem dX7_wasSplit_8 : decode cX7_wasSplit 8 = .ok (.aload_n 0, 1) := by decide +kernel
theorem dX7_wasSplit_9 : decode cX7_wasSplit 9 = .ok (.getfield 9, 3) := by decide +kernel
theorem dX7_wasSplit_12 : decode cX7_wasSplit 12 = .ok (.iload_n 1, 1) := by decide +kernel
theorem dX7_wasSplit_13 : decode cX7_wasSplit 13 = .ok (.baload, 1) := by decide +kernel
theorem dX7_wasSplit_14 : decode cX7_wasSplit 14 = .ok (.ifCond .eq 7, 3) := by decide +kernel
theorem dX7_wasSplit_17 : decode cX7_wasSplit 17 = .ok (.iconst 1, 1) := by decide +kernel
theorem dX7_wasSplit_18 : decode cX7_wasSplit 18 = .ok (.goto 4, 3) := by decide +kernel
theorem dX7_wasSplit_21 : decode cX7_wasSplit 21 = .ok (.iconst 0, 1) := by decide +kernel
theorem dX7_wasSplit_22 : decode cX7_wasSplit 22 = .ok (.ireturn, 1) := by decide +kernel
theorem dX7_noteSplit_0 : decode cX7_noteSplit 0 = .ok (.aload_n 0, 1) := by decide +kernel
theorem dX7_noteSplit_1 : decode cX7_noteSplit 1 = .ok (.iload_n 1, 1) := by decide +kernel
theorem dX7_noteSplit_2 : decode cX7_noteSplit 2 = .ok (.invokevirtual 45, 3) := by decide +kernel
theorem dX7_noteSplit_5 : decode cX7_noteSplit 5 = .ok (.ifCond .eq 10, 3) := by decide +kernel
theorem dX7_noteSplit_8 : decode cX7_noteSplit 8 = .ok (.aload_n 0, 1) := by decide +kernel
theorem dX7_noteSplit_9 : decode cX7_noteSplit 9 = .ok (.getfield 9, 3) := by decide +kernel
theorem dX7_noteSplit_12 : decode cX7_noteSplit 12 = .ok (.iload_n 1, 1) := by decide +kernel
theorem dX7_noteSplit_13 : decode cX7_noteSplit 13 = .ok (.iconst 1, 1) := by decide +kernel
theorem dX7_noteSplit_14 : decode cX7_noteSplit 14 = .ok (.bastore, 1) := by decide +kernel
theorem dX7_noteSplit_15 : decode cX7_noteSplit 15 = .ok (.return_, 1) := by decide +kernel
theorem dX7_enterData_0 : decode cX7_enterData 0 = .ok (.aload_n 0, 1) := by decide +kernel
theorem dX7_enterData_1 : decode cX7_enterData 1 = .ok (.dup, 1) := by decide +kernel
theorem dX7_enterData_2 : decode cX7_enterData 2 = .ok (.getfield 38, 3) := by decide +kernel
theorem dX7_enterData_5 : decode cX7_enterData 5 = .ok (.iconst 1, 1) := by decide +kernel
theorem dX7_enterData_6 : decode cX7_enterData 6 = .ok (.iadd, 1) := by decide +kernel
theorem dX7_enterData_7 : decode cX7_enterData 7 = .ok (.putfield 38, 3) := by decide +kernel
theorem dX7_enterData_10 : decode cX7_enterData 10 = .ok (.aload_n 0, 1) := by decide +kernel
theorem dX7_enterData_11 : decode cX7_enterData 11 = .ok (.getfield 38, 3) := by decide +kernel
theorem dX7_enterData_14 : decode cX7_enterData 14 = .ok (.iconst 1, 1) := by decide +kernel
theorem dX7_enterData_15 : decode cX7_enterData 15 = .ok (.isub, 1) := by decide +kernel
theorem dX7_enterData_16 : decode cX7_enterData 16 = .ok (.ireturn, 1) := by decide +kernel
theorem dX7_enterConstructor_0 : decode cX7_enterConstructor 0 = .ok (.aload_n 0, 1) := by decide +kernel
theorem dX7_enterConstructor_1 : decode cX7_enterConstructor 1 = .ok (.getfield 42, 3) := by decide +kernel
theorem dX7_enterConstructor_4 : decode cX7_enterConstructor 4 = .ok (.istore 6, 2) := by decide +kernel
theorem dX7_enterConstructor_6 : decode cX7_enterConstructor 6 = .ok (.aload_n 0, 1) := by decide +kernel
theorem dX7_enterConstructor_7 : decode cX7_enterConstructor 7 = .ok (.dup, 1) := by decide +kernel
theorem dX7_enterConstructor_8 : decode cX7_enterConstructor 8 = .ok (.getfield 42, 3) := by decide +kernel
theorem dX7_enterConstructor_11 : decode cX7_enterConstructor 11 = .ok (.iconst 1, 1) := by decide +kernel
theorem dX7_enterConstructor_12 : decode cX7_enterConstructor 12 = .ok (.iadd, 1) := by decide +kernel
theorem dX7_enterConstructor_13 : decode cX7_enterConstructor 13 = .ok (.putfield 42, 3) := by decide +kernel
theorem dX7_enterConstructor_16 : decode cX7_enterConstructor 16 = .ok (.aload_n 0, 1) := by decide +kernel
theorem dX7_enterConstructor_17 : decode cX7_enterConstructor 17 = .ok (.getfield 15, 3) := by decide +kernel
theorem dX7_enterConstructor_20 : decode cX7_enterConstructor 20 = .ok (.iload 6, 2) := by decide +kernel
theorem dX7_enterConstructor_22 : decode cX7_enterConstructor 22 = .ok (.iload_n 1, 1) := by decide +kernel
theorem dX7_enterConstructor_23 : decode cX7_enterConstructor 23 = .ok (.iastore, 1) := by decide +kernel
theorem dX7_enterConstructor_24 : decode cX7_enterConstructor 24 = .ok (.aload_n 0, 1) := by decide +kernel
theorem dX7_enterConstructor_25 : decode cX7_enterConstructor 25 = .ok (.getfield 19, 3) := by decide +kernel
theorem dX7_enterConstructor_28 : decode cX7_enterConstructor 28 = .ok (.iload 6, 2) := by decide +kernel
theorem dX7_enterConstructor_30 : decode cX7_enterConstructor 30 = .ok (.iload_n 2, 1) := by decide +kernel
theorem dX7_enterConstructor_31 : decode cX7_enterConstructor 31 = .ok (.iastore, 1) := by decide +kernel
theorem dX7_enterConstructor_32 : decode cX7_enterConstructor 32 = .ok (.aload_n 0, 1) := by decide +kernel
theorem dX7_enterConstructor_33 : decode cX7_enterConstructor 33 = .ok (.getfield 22, 3) := by decide +kernel
theorem dX7_enterConstructor_36 : decode cX7_enterConstructor 36 = .ok (.iload 6, 2) := by decide +kernel
theorem dX7_enterConstructor_38 : decode cX7_enterConstructor 38 = .ok (.iconst 3, 1) := by decide +kernel
theorem dX7_enterConstructor_39 : decode cX7_enterConstructor 39 = .ok (.imul, 1) := by decide +kernel
theorem dX7_enterConstructor_40 : decode cX7_enterConstructor 40 = .ok (.iload_n 3, 1) := by decide +kernel
theorem dX7_enterConstructor_41 : decode cX7_enterConstructor 41 = .ok (.iastore, 1) := by decide +kernel
theorem dX7_enterConstructor_42 : decode cX7_enterConstructor 42 = .ok (.aload_n 0, 1) := by decide +kernel
theorem dX7_enterConstructor_43 : decode cX7_enterConstructor 43 = .ok (.getfield 22, 3) := by decide +kernel
theorem dX7_enterConstructor_46 : decode cX7_enterConstructor 46 = .ok (.iload 6, 2) := by decide +kernel
theorem dX7_enterConstructor_48 : decode cX7_enterConstructor 48 = .ok (.iconst 3, 1) := by decide +kernel
theorem dX7_enterConstructor_49 : decode cX7_enterConstructor 49 = .ok (.imul, 1) := by decide +kernel
theorem dX7_enterConstructor_50 : decode cX7_enterConstructor 50 = .ok (.iconst 1, 1) := by decide +kernel
theorem dX7_enterConstructor_51 : decode cX7_enterConstructor 51 = .ok (.iadd, 1) := by decide +kernel
theorem dX7_enterConstructor_52 : decode cX7_enterConstructor 52 = .ok (.iload 4, 2) := by decide +kernel
theorem dX7_enterConstructor_54 : decode cX7_enterConstructor 54 = .ok (.iastore, 1) := by decide +kernel
theorem dX7_enterConstructor_55 : decode cX7_enterConstructor 55 = .ok (.aload_n 0, 1) := by decide +kernel
theorem dX7_enterConstructor_56 : decode cX7_enterConstructor 56 = .ok (.getfield 22, 3) := by decide +kernel
theorem dX7_enterConstructor_59 : decode cX7_enterConstructor 59 = .ok (.iload 6, 2) := by decide +kernel
theorem dX7_enterConstructor_61 : decode cX7_enterConstructor 61 = .ok (.iconst 3, 1) := by decide +kernel
theorem dX7_enterConstructor_62 : decode cX7_enterConstructor 62 = .ok (.imul, 1) := by decide +kernel
theorem dX7_enterConstructor_63 : decode cX7_enterConstructor 63 = .ok (.iconst 2, 1) := by decide +kernel
theorem dX7_enterConstructor_64 : decode cX7_enterConstructor 64 = .ok (.iadd, 1) := by decide +kernel
theorem dX7_enterConstructor_65 : decode cX7_enterConstructor 65 = .ok (.iload 5, 2) := by decide +kernel
theorem dX7_enterConstructor_67 : decode cX7_enterConstructor 67 = .ok (.iastore, 1) := by decide +kernel
theorem dX7_enterConstructor_68 : decode cX7_enterConstructor 68 = .ok (.aload_n 0, 1) := by decide +kernel
theorem dX7_enterConstructor_69 : decode cX7_enterConstructor 69 = .ok (.getfield 34, 3) := by decide +kernel
theorem dX7_enterConstructor_72 : decode cX7_enterConstructor 72 = .ok (.iconst 2, 1) := by decide +kernel
theorem dX7_enterConstructor_73 : decode cX7_enterConstructor 73 = .ok (.iload_n 1, 1) := by decide +kernel
theorem dX7_enterConstructor_74 : decode cX7_enterConstructor 74 = .ok (.invokevirtual 49, 3) := by decide +kernel
theorem dX7_enterConstructor_77 : decode cX7_enterConstructor 77 = .ok (.istore 7, 2) := by decide +kernel
theorem dX7_enterConstructor_79 : decode cX7_enterConstructor 79 = .ok (.iload_n 2, 1) := by decide +kernel
theorem dX7_enterConstructor_80 : decode cX7_enterConstructor 80 = .ok (.iconst 1, 1) := by decide +kernel
theorem dX7_enterConstructor_81 : decode cX7_enterConstructor 81 = .ok (.isub, 1) := by decide +kernel
theorem dX7_enterConstructor_82 : decode cX7_enterConstructor 82 = .ok (.istore 8, 2) := by decide +kernel
theorem dX7_enterConstructor_84 : decode cX7_enterConstructor 84 = .ok (.iload 8, 2) := by decide +kernel
theorem dX7_enterConstructor_86 : decode cX7_enterConstructor 86 = .ok (.ifCond .lt 41, 3) := by decide +kernel
theorem dX7_enterConstructor_89 : decode cX7_enterConstructor 89 = .ok (.aload_n 0, 1) := by decide +kernel
theorem dX7_enterConstructor_90 : decode cX7_enterConstructor 90 = .ok (.getfield 34, 3) := by decide +kernel
theorem dX7_enterConstructor_93 : decode cX7_enterConstructor 93 = .ok (.iconst 5, 1) := by decide +kernel
theorem dX7_enterConstructor_94 : decode cX7_enterConstructor 94 = .ok (.aload_n 0, 1) := by decide +kernel
theorem dX7_enterConstructor_95 : decode cX7_enterConstructor 95 = .ok (.getfield 34, 3) := by decide +kernel
theorem dX7_enterConstructor_98 : decode cX7_enterConstructor 98 = .ok (.iconst 2, 1) := by decide +kernel
theorem dX7_enterConstructor_99 : decode cX7_enterConstructor 99 = .ok (.aload_n 0, 1) := by decide +kernel
theorem dX7_enterConstructor_100 : decode cX7_enterConstructor 100 = .ok (.getfield 22, 3) := by decide +kernel
theorem dX7_enterConstructor_103 : decode cX7_enterConstructor 103 = .ok (.iload 6, 2) := by decide +kernel
theorem dX7_enterConstructor_105 : decode cX7_enterConstructor 105 = .ok (.iconst 3, 1) := by decide +kernel
theorem dX7_enterConstructor_106 : decode cX7_enterConstructor 106 = .ok (.imul, 1) := by decide +kernel
theorem dX7_enterConstructor_107 : decode cX7_enterConstructor 107 = .ok (.iload 8, 2) := by decide +kernel
theorem dX7_enterConstructor_109 : decode cX7_enterConstructor 109 = .ok (.iadd, 1) := by decide +kernel
theorem dX7_enterConstructor_110 : decode cX7_enterConstructor 110 = .ok (.iaload, 1) := by decide +kernel
theorem dX7_enterConstructor_111 : decode cX7_enterConstructor 111 = .ok (.invokevirtual 49, 3) := by decide +kernel
theorem dX7_enterConstructor_114 : decode cX7_enterConstructor 114 = .ok (.iload 7, 2) := by decide +kernel
theorem dX7_enterConstructor_116 : decode cX7_enterConstructor 116 = .ok (.invokevirtual 55, 3) := by decide +kernel
theorem dX7_enterConstructor_119 : decode cX7_enterConstructor 119 = .ok (.istore 7, 2) := by decide +kernel
theorem dX7_enterConstructor_121 : decode cX7_enterConstructor 121 = .ok (.iinc 8 (-1), 3) := by decide +kernel
theorem dX7_enterConstructor_124 : decode cX7_enterConstructor 124 = .ok (.goto (-40), 3) := by decide +kernel
theorem dX7_enterConstructor_127 : decode cX7_enterConstructor 127 = .ok (.aload_n 0, 1) := by decide +kernel
theorem dX7_enterConstructor_128 : decode cX7_enterConstructor 128 = .ok (.getfield 25, 3) := by decide +kernel
theorem dX7_enterConstructor_131 : decode cX7_enterConstructor 131 = .ok (.iload 6, 2) := by decide +kernel
theorem dX7_enterConstructor_133 : decode cX7_enterConstructor 133 = .ok (.iload 7, 2) := by decide +kernel
theorem dX7_enterConstructor_135 : decode cX7_enterConstructor 135 = .ok (.iastore, 1) := by decide +kernel
theorem dX7_enterConstructor_136 : decode cX7_enterConstructor 136 = .ok (.aload_n 0, 1) := by decide +kernel
theorem dX7_enterConstructor_137 : decode cX7_enterConstructor 137 = .ok (.getfield 28, 3) := by decide +kernel
theorem dX7_enterConstructor_140 : decode cX7_enterConstructor 140 = .ok (.iload 6, 2) := by decide +kernel
theorem dX7_enterConstructor_142 : decode cX7_enterConstructor 142 = .ok (.aload_n 0, 1) := by decide +kernel
theorem dX7_enterConstructor_143 : decode cX7_enterConstructor 143 = .ok (.getfield 31, 3) := by decide +kernel
theorem dX7_enterConstructor_146 : decode cX7_enterConstructor 146 = .ok (.iload_n 1, 1) := by decide +kernel
theorem dX7_enterConstructor_147 : decode cX7_enterConstructor 147 = .ok (.iaload, 1) := by decide +kernel
theorem dX7_enterConstructor_148 : decode cX7_enterConstructor 148 = .ok (.iastore, 1) := by decide +kernel
theorem dX7_enterConstructor_149 : decode cX7_enterConstructor 149 = .ok (.aload_n 0, 1) := by decide +kernel
theorem dX7_enterConstructor_150 : decode cX7_enterConstructor 150 = .ok (.getfield 31, 3) := by decide +kernel
theorem dX7_enterConstructor_153 : decode cX7_enterConstructor 153 = .ok (.iload_n 1, 1) := by decide +kernel
theorem dX7_enterConstructor_154 : decode cX7_enterConstructor 154 = .ok (.dup2, 1) := by decide +kernel
theorem dX7_enterConstructor_155 : decode cX7_enterConstructor 155 = .ok (.iaload, 1) := by decide +kernel
theorem dX7_enterConstructor_156 : decode cX7_enterConstructor 156 = .ok (.iconst 1, 1) := by decide +kernel
theorem dX7_enterConstructor_157 : decode cX7_enterConstructor 157 = .ok (.iadd, 1) := by decide +kernel
theorem dX7_enterConstructor_158 : decode cX7_enterConstructor 158 = .ok (.iastore, 1) := by decide +kernel
theorem dX7_enterConstructor_159 : decode cX7_enterConstructor 159 = .ok (.iload 6, 2) := by decide +kernel
theorem dX7_enterConstructor_161 : decode cX7_enterConstructor 161 = .ok (.ireturn, 1) := by decide +kernel
theorem dX7_ownerOf_0 : decode cX7_ownerOf 0 = .ok (.aload_n 0, 1) := by decide +kernel
theorem dX7_ownerOf_1 : decode cX7_ownerOf 1 = .ok (.iload_n 1, 1) := by decide +kernel
theorem dX7_ownerOf_2 : decode cX7_ownerOf 2 = .ok (.invokevirtual 59, 3) := by decide +kernel
theorem dX7_ownerOf_5 : decode cX7_ownerOf 5 = .ok (.ifCond .eq 12, 3) := by decide +kernel
theorem dX7_ownerOf_8 : decode cX7_ownerOf 8 = .ok (.aload_n 0, 1) := by decide +kernel
theorem dX7_ownerOf_9 : decode cX7_ownerOf 9 = .ok (.getfield 15, 3) := by decide +kernel
theorem dX7_ownerOf_12 : decode cX7_ownerOf 12 = .ok (.iload_n 1, 1) := by decide +kernel
theorem dX7_ownerOf_13 : decode cX7_ownerOf 13 = .ok (.iaload, 1) := by decide +kernel
theorem dX7_ownerOf_14 : decode cX7_ownerOf 14 = .ok (.goto 4, 3) := by decide +kernel
theorem dX7_ownerOf_17 : decode cX7_ownerOf 17 = .ok (.iconst (-1), 1) := by decide +kernel
theorem dX7_ownerOf_18 : decode cX7_ownerOf 18 = .ok (.ireturn, 1) := by decide +kernel
theorem dX7_partsOf_0 : decode cX7_partsOf 0 = .ok (.aload_n 0, 1) := by decide +kernel
theorem dX7_partsOf_1 : decode cX7_partsOf 1 = .ok (.iload_n 1, 1) := by decide +kernel
theorem dX7_partsOf_2 : decode cX7_partsOf 2 = .ok (.invokevirtual 59, 3) := by decide +kernel
theorem dX7_partsOf_5 : decode cX7_partsOf 5 = .ok (.ifCond .eq 12, 3) := by decide +kernel
theorem dX7_partsOf_8 : decode cX7_partsOf 8 = .ok (.aload_n 0, 1) := by decide +kernel
theorem dX7_partsOf_9 : decode cX7_partsOf 9 = .ok (.getfield 19, 3) := by decide +kernel
theorem dX7_partsOf_12 : decode cX7_partsOf 12 = .ok (.iload_n 1, 1) := by decide +kernel
theorem dX7_partsOf_13 : decode cX7_partsOf 13 = .ok (.iaload, 1) := by decide +kernel
theorem dX7_partsOf_14 : decode cX7_partsOf 14 = .ok (.goto 4, 3) := by decide +kernel
theorem dX7_partsOf_17 : decode cX7_partsOf 17 = .ok (.iconst (-1), 1) := by decide +kernel
theorem dX7_partsOf_18 : decode cX7_partsOf 18 = .ok (.ireturn, 1) := by decide +kernel
theorem dX7_partOf_0 : decode cX7_partOf 0 = .ok (.aload_n 0, 1) := by decide +kernel
theorem dX7_partOf_1 : decode cX7_partOf 1 = .ok (.iload_n 1, 1) := by decide +kernel
theorem dX7_partOf_2 : decode cX7_partOf 2 = .ok (.invokevirtual 59, 3) := by decide +kernel
theorem dX7_partOf_5 : decode cX7_partOf 5 = .ok (.ifCond .eq 25, 3) := by decide +kernel
theorem dX7_partOf_8 : decode cX7_partOf 8 = .ok (.iload_n 2, 1) := by decide +kernel
theorem dX7_partOf_9 : decode cX7_partOf 9 = .ok (.ifCond .lt 21, 3) := by decide +kernel
theorem dX7_partOf_12 : decode cX7_partOf 12 = .ok (.iload_n 2, 1) := by decide +kernel
theorem dX7_partOf_13 : decode cX7_partOf 13 = .ok (.iconst 3, 1) := by decide +kernel
theorem dX7_partOf_14 : decode cX7_partOf 14 = .ok (.if_icmp .ge 16, 3) := by decide +kernel
theorem dX7_partOf_17 : decode cX7_partOf 17 = .ok (.aload_n 0, 1) := by decide +kernel
theorem dX7_partOf_18 : decode cX7_partOf 18 = .ok (.getfield 22, 3) := by decide +kernel
theorem dX7_partOf_21 : decode cX7_partOf 21 = .ok (.iload_n 1, 1) := by decide +kernel
theorem dX7_partOf_22 : decode cX7_partOf 22 = .ok (.iconst 3, 1) := by decide +kernel
theorem dX7_partOf_23 : decode cX7_partOf 23 = .ok (.imul, 1) := by decide +kernel
theorem dX7_partOf_24 : decode cX7_partOf 24 = .ok (.iload_n 2, 1) := by decide +kernel
theorem dX7_partOf_25 : decode cX7_partOf 25 = .ok (.iadd, 1) := by decide +kernel
theorem dX7_partOf_26 : decode cX7_partOf 26 = .ok (.iaload, 1) := by decide +kernel
theorem dX7_partOf_27 : decode cX7_partOf 27 = .ok (.goto 4, 3) := by decide +kernel
theorem dX7_partOf_30 : decode cX7_partOf 30 = .ok (.iconst (-1), 1) := by decide +kernel
theorem dX7_partOf_31 : decode cX7_partOf 31 = .ok (.ireturn, 1) := by decide +kernel
theorem dX7_typeOfConstructor_0 : decode cX7_typeOfConstructor 0 = .ok (.aload_n 0, 1) := by decide +kernel
theorem dX7_typeOfConstructor_1 : decode cX7_typeOfConstructor 1 = .ok (.iload_n 1, 1) := by decide +kernel
theorem dX7_typeOfConstructor_2 : decode cX7_typeOfConstructor 2 = .ok (.invokevirtual 59, 3) := by decide +kernel
theorem dX7_typeOfConstructor_5 : decode cX7_typeOfConstructor 5 = .ok (.ifCond .eq 12, 3) := by decide +kernel
theorem dX7_typeOfConstructor_8 : decode cX7_typeOfConstructor 8 = .ok (.aload_n 0, 1) := by decide +kernel
theorem dX7_typeOfConstructor_9 : decode cX7_typeOfConstructor 9 = .ok (.getfield 25, 3) := by decide +kernel
theorem dX7_typeOfConstructor_12 : decode cX7_typeOfConstructor 12 = .ok (.iload_n 1, 1) := by decide +kernel
theorem dX7_typeOfConstructor_13 : decode cX7_typeOfConstructor 13 = .ok (.iaload, 1) := by decide +kernel
theorem dX7_typeOfConstructor_14 : decode cX7_typeOfConstructor 14 = .ok (.goto 4, 3) := by decide +kernel
theorem dX7_typeOfConstructor_17 : decode cX7_typeOfConstructor 17 = .ok (.iconst (-1), 1) := by decide +kernel
theorem dX7_typeOfConstructor_18 : decode cX7_typeOfConstructor 18 = .ok (.ireturn, 1) := by decide +kernel
theorem dX7_rankOf_0 : decode cX7_rankOf 0 = .ok (.iload_n 1, 1) := by decide +kernel
theorem dX7_rankOf_1 : decode cX7_rankOf 1 = .ok (.ifCond .lt 20, 3) := by decide +kernel
theorem dX7_rankOf_4 : decode cX7_rankOf 4 = .ok (.iload_n 1, 1) := by decide +kernel
theorem dX7_rankOf_5 : decode cX7_rankOf 5 = .ok (.aload_n 0, 1) := by decide +kernel
theorem dX7_rankOf_6 : decode cX7_rankOf 6 = .ok (.getfield 42, 3) := by decide +kernel
theorem dX7_rankOf_9 : decode cX7_rankOf 9 = .ok (.if_icmp .ge 12, 3) := by decide +kernel
theorem dX7_rankOf_12 : decode cX7_rankOf 12 = .ok (.aload_n 0, 1) := by decide +kernel
theorem dX7_rankOf_13 : decode cX7_rankOf 13 = .ok (.getfield 28, 3) := by decide +kernel
theorem dX7_rankOf_16 : decode cX7_rankOf 16 = .ok (.iload_n 1, 1) := by decide +kernel
theorem dX7_rankOf_17 : decode cX7_rankOf 17 = .ok (.iaload, 1) := by decide +kernel
theorem dX7_rankOf_18 : decode cX7_rankOf 18 = .ok (.goto 4, 3) := by decide +kernel
theorem dX7_rankOf_21 : decode cX7_rankOf 21 = .ok (.iconst (-1), 1) := by decide +kernel
theorem dX7_rankOf_22 : decode cX7_rankOf 22 = .ok (.ireturn, 1) := by decide +kernel
theorem dX7_constructorsOf_0 : decode cX7_constructorsOf 0 = .ok (.aload_n 0, 1) := by decide +kernel
theorem dX7_constructorsOf_1 : decode cX7_constructorsOf 1 = .ok (.iload_n 1, 1) := by decide +kernel
theorem dX7_constructorsOf_2 : decode cX7_constructorsOf 2 = .ok (.invokevirtual 45, 3) := by decide +kernel
theorem dX7_constructorsOf_5 : decode cX7_constructorsOf 5 = .ok (.ifCond .eq 12, 3) := by decide +kernel
theorem dX7_constructorsOf_8 : decode cX7_constructorsOf 8 = .ok (.aload_n 0, 1) := by decide +kernel
theorem dX7_constructorsOf_9 : decode cX7_constructorsOf 9 = .ok (.getfield 31, 3) := by decide +kernel
theorem dX7_constructorsOf_12 : decode cX7_constructorsOf 12 = .ok (.iload_n 1, 1) := by decide +kernel
theorem dX7_constructorsOf_13 : decode cX7_constructorsOf 13 = .ok (.iaload, 1) := by decide +kernel
theorem dX7_constructorsOf_14 : decode cX7_constructorsOf 14 = .ok (.goto 4, 3) := by decide +kernel
theorem dX7_constructorsOf_17 : decode cX7_constructorsOf 17 = .ok (.iconst 0, 1) := by decide +kernel
theorem dX7_constructorsOf_18 : decode cX7_constructorsOf 18 = .ok (.ireturn, 1) := by decide +kernel
theorem dX8_init_0 : decode cX8_init 0 = .ok (.aload_n 0, 1) := by decide +kernel
theorem dX8_init_1 : decode cX8_init 1 = .ok (.invokespecial 3, 3) := by decide +kernel
theorem dX8_init_4 : decode cX8_init 4 = .ok (.aload_n 0, 1) := by decide +kernel
theorem dX8_init_5 : decode cX8_init 5 = .ok (.iload_n 1, 1) := by decide +kernel
theorem dX8_init_6 : decode cX8_init 6 = .ok (.iconst 0, 1) := by decide +kernel
theorem dX8_init_7 : decode cX8_init 7 = .ok (.invokestatic 9, 3) := by decide +kernel
theorem dX8_init_10 : decode cX8_init 10 = .ok (.newarray .int, 2) := by decide +kernel
theorem dX8_init_12 : decode cX8_init 12 = .ok (.putfield 15, 3) := by decide +kernel
theorem dX8_init_15 : decode cX8_init 15 = .ok (.return_, 1) := by decide +kernel
theorem dX8_push_0 : decode cX8_push 0 = .ok (.aload_n 0, 1) := by decide +kernel
theorem dX8_push_1 : decode cX8_push 1 = .ok (.getfield 21, 3) := by decide +kernel
theorem dX8_push_4 : decode cX8_push 4 = .ok (.aload_n 0, 1) := by decide +kernel
theorem dX8_push_5 : decode cX8_push 5 = .ok (.getfield 15, 3) := by decide +kernel
theorem dX8_push_8 : decode cX8_push 8 = .ok (.arraylength, 1) := by decide +kernel
theorem dX8_push_9 : decode cX8_push 9 = .ok (.if_icmp .lt 5, 3) := by decide +kernel
theorem dX8_push_12 : decode cX8_push 12 = .ok (.iconst 0, 1) := by decide +kernel
theorem dX8_push_13 : decode cX8_push 13 = .ok (.ireturn, 1) := by decide +kernel
theorem dX8_push_14 : decode cX8_push 14 = .ok (.aload_n 0, 1) := by decide +kernel
theorem dX8_push_15 : decode cX8_push 15 = .ok (.getfield 15, 3) := by decide +kernel
theorem dX8_push_18 : decode cX8_push 18 = .ok (.aload_n 0, 1) := by decide +kernel
theorem dX8_push_19 : decode cX8_push 19 = .ok (.getfield 21, 3) := by decide +kernel
theorem dX8_push_22 : decode cX8_push 22 = .ok (.iload_n 1, 1) := by decide +kernel
theorem dX8_push_23 : decode cX8_push 23 = .ok (.iastore, 1) := by decide +kernel
theorem dX8_push_24 : decode cX8_push 24 = .ok (.aload_n 0, 1) := by decide +kernel
theorem dX8_push_25 : decode cX8_push 25 = .ok (.dup, 1) := by decide +kernel
theorem dX8_push_26 : decode cX8_push 26 = .ok (.getfield 21, 3) := by decide +kernel
theorem dX8_push_29 : decode cX8_push 29 = .ok (.iconst 1, 1) := by decide +kernel
theorem dX8_push_30 : decode cX8_push 30 = .ok (.iadd, 1) := by decide +kernel
theorem dX8_push_31 : decode cX8_push 31 = .ok (.putfield 21, 3) := by decide +kernel
theorem dX8_push_34 : decode cX8_push 34 = .ok (.iconst 1, 1) := by decide +kernel
theorem dX8_push_35 : decode cX8_push 35 = .ok (.ireturn, 1) := by decide +kernel
theorem dX8_pop_0 : decode cX8_pop 0 = .ok (.aload_n 0, 1) := by decide +kernel
theorem dX8_pop_1 : decode cX8_pop 1 = .ok (.getfield 21, 3) := by decide +kernel
theorem dX8_pop_4 : decode cX8_pop 4 = .ok (.ifCond .le 13, 3) := by decide +kernel
theorem dX8_pop_7 : decode cX8_pop 7 = .ok (.aload_n 0, 1) := by decide +kernel
theorem dX8_pop_8 : decode cX8_pop 8 = .ok (.dup, 1) := by decide +kernel
theorem dX8_pop_9 : decode cX8_pop 9 = .ok (.getfield 21, 3) := by decide +kernel
theorem dX8_pop_12 : decode cX8_pop 12 = .ok (.iconst 1, 1) := by decide +kernel
theorem dX8_pop_13 : decode cX8_pop 13 = .ok (.isub, 1) := by decide +kernel
theorem dX8_pop_14 : decode cX8_pop 14 = .ok (.putfield 21, 3) := by decide +kernel
theorem dX8_pop_17 : decode cX8_pop 17 = .ok (.return_, 1) := by decide +kernel
theorem dX8_typeAt_0 : decode cX8_typeAt 0 = .ok (.iload_n 1, 1) := by decide +kernel
theorem dX8_typeAt_1 : decode cX8_typeAt 1 = .ok (.ifCond .lt 20, 3) := by decide +kernel
theorem dX8_typeAt_4 : decode cX8_typeAt 4 = .ok (.iload_n 1, 1) := by decide +kernel
theorem dX8_typeAt_5 : decode cX8_typeAt 5 = .ok (.aload_n 0, 1) := by decide +kernel
theorem dX8_typeAt_6 : decode cX8_typeAt 6 = .ok (.getfield 21, 3) := by decide +kernel
theorem dX8_typeAt_9 : decode cX8_typeAt 9 = .ok (.if_icmp .ge 12, 3) := by decide +kernel
theorem dX8_typeAt_12 : decode cX8_typeAt 12 = .ok (.aload_n 0, 1) := by decide +kernel
theorem dX8_typeAt_13 : decode cX8_typeAt 13 = .ok (.getfield 15, 3) := by decide +kernel
theorem dX8_typeAt_16 : decode cX8_typeAt 16 = .ok (.iload_n 1, 1) := by decide +kernel
theorem dX8_typeAt_17 : decode cX8_typeAt 17 = .ok (.iaload, 1) := by decide +kernel
theorem dX8_typeAt_18 : decode cX8_typeAt 18 = .ok (.goto 4, 3) := by decide +kernel
theorem dX8_typeAt_21 : decode cX8_typeAt 21 = .ok (.iconst (-1), 1) := by decide +kernel
theorem dX8_typeAt_22 : decode cX8_typeAt 22 = .ok (.ireturn, 1) := by decide +kernel
theorem dX8_become_0 : decode cX8_become 0 = .ok (.aload_n 0, 1) := by decide +kernel
theorem dX8_become_1 : decode cX8_become 1 = .ok (.iconst 0, 1) := by decide +kernel
theorem dX8_become_2 : decode cX8_become 2 = .ok (.putfield 21, 3) := by decide +kernel
theorem dX8_become_5 : decode cX8_become 5 = .ok (.iconst 0, 1) := by decide +kernel
theorem dX8_become_6 : decode cX8_become 6 = .ok (.istore_n 2, 1) := by decide +kernel
theorem dX8_become_7 : decode cX8_become 7 = .ok (.iload_n 2, 1) := by decide +kernel
theorem dX8_become_8 : decode cX8_become 8 = .ok (.aload_n 1, 1) := by decide +kernel
theorem dX8_become_9 : decode cX8_become 9 = .ok (.getfield 21, 3) := by decide +kernel
theorem dX8_become_12 : decode cX8_become 12 = .ok (.if_icmp .ge 20, 3) := by decide +kernel
theorem dX8_become_15 : decode cX8_become 15 = .ok (.aload_n 0, 1) := by decide +kernel
theorem dX8_become_16 : decode cX8_become 16 = .ok (.aload_n 1, 1) := by decide +kernel
theorem dX8_become_17 : decode cX8_become 17 = .ok (.getfield 15, 3) := by decide +kernel
theorem dX8_become_20 : decode cX8_become 20 = .ok (.iload_n 2, 1) := by decide +kernel
theorem dX8_become_21 : decode cX8_become 21 = .ok (.iaload, 1) := by decide +kernel
theorem dX8_become_22 : decode cX8_become 22 = .ok (.invokevirtual 25, 3) := by decide +kernel
theorem dX8_become_25 : decode cX8_become 25 = .ok (.pop, 1) := by decide +kernel
theorem dX8_become_26 : decode cX8_become 26 = .ok (.iinc 2 1, 3) := by decide +kernel
theorem dX8_become_29 : decode cX8_become 29 = .ok (.goto (-22), 3) := by decide +kernel
theorem dX8_become_32 : decode cX8_become 32 = .ok (.return_, 1) := by decide +kernel
theorem dX9_init_0 : decode cX9_init 0 = .ok (.aload_n 0, 1) := by decide +kernel
theorem dX9_init_1 : decode cX9_init 1 = .ok (.invokespecial 3, 3) := by decide +kernel
theorem dX9_init_4 : decode cX9_init 4 = .ok (.aload_n 0, 1) := by decide +kernel
theorem dX9_init_5 : decode cX9_init 5 = .ok (.ldc 11, 2) := by decide +kernel
theorem dX9_init_7 : decode cX9_init 7 = .ok (.newarray .int, 2) := by decide +kernel
theorem dX9_init_9 : decode cX9_init 9 = .ok (.putfield 12, 3) := by decide +kernel
theorem dX9_init_12 : decode cX9_init 12 = .ok (.aload_n 0, 1) := by decide +kernel
theorem dX9_init_13 : decode cX9_init 13 = .ok (.ldc 11, 2) := by decide +kernel
theorem dX9_init_15 : decode cX9_init 15 = .ok (.newarray .int, 2) := by decide +kernel
theorem dX9_init_17 : decode cX9_init 17 = .ok (.putfield 16, 3) := by decide +kernel
theorem dX9_init_20 : decode cX9_init 20 = .ok (.aload_n 0, 1) := by decide +kernel
theorem dX9_init_21 : decode cX9_init 21 = .ok (.ldc 11, 2) := by decide +kernel
theorem dX9_init_23 : decode cX9_init 23 = .ok (.newarray .int, 2) := by decide +kernel
theorem dX9_init_25 : decode cX9_init 25 = .ok (.putfield 19, 3) := by decide +kernel
theorem dX9_init_28 : decode cX9_init 28 = .ok (.aload_n 0, 1) := by decide +kernel
theorem dX9_init_29 : decode cX9_init 29 = .ok (.ldc 11, 2) := by decide +kernel
theorem dX9_init_31 : decode cX9_init 31 = .ok (.newarray .int, 2) := by decide +kernel
theorem dX9_init_33 : decode cX9_init 33 = .ok (.putfield 22, 3) := by decide +kernel
theorem dX9_init_36 : decode cX9_init 36 = .ok (.aload_n 0, 1) := by decide +kernel
theorem dX9_init_37 : decode cX9_init 37 = .ok (.ldc 11, 2) := by decide +kernel
theorem dX9_init_39 : decode cX9_init 39 = .ok (.newarray .int, 2) := by decide +kernel
theorem dX9_init_41 : decode cX9_init 41 = .ok (.putfield 25, 3) := by decide +kernel
theorem dX9_init_44 : decode cX9_init 44 = .ok (.aload_n 0, 1) := by decide +kernel
theorem dX9_init_45 : decode cX9_init 45 = .ok (.ldc 11, 2) := by decide +kernel
theorem dX9_init_47 : decode cX9_init 47 = .ok (.newarray .int, 2) := by decide +kernel
theorem dX9_init_49 : decode cX9_init 49 = .ok (.putfield 28, 3) := by decide +kernel
theorem dX9_init_52 : decode cX9_init 52 = .ok (.aload_n 0, 1) := by decide +kernel
theorem dX9_init_53 : decode cX9_init 53 = .ok (.ldc 11, 2) := by decide +kernel
theorem dX9_init_55 : decode cX9_init 55 = .ok (.newarray .int, 2) := by decide +kernel
theorem dX9_init_57 : decode cX9_init 57 = .ok (.putfield 31, 3) := by decide +kernel
theorem dX9_init_60 : decode cX9_init 60 = .ok (.aload_n 0, 1) := by decide +kernel
theorem dX9_init_61 : decode cX9_init 61 = .ok (.ldc 11, 2) := by decide +kernel
theorem dX9_init_63 : decode cX9_init 63 = .ok (.newarray .boolean, 2) := by decide +kernel
theorem dX9_init_65 : decode cX9_init 65 = .ok (.putfield 34, 3) := by decide +kernel
theorem dX9_init_68 : decode cX9_init 68 = .ok (.aload_n 0, 1) := by decide +kernel
theorem dX9_init_69 : decode cX9_init 69 = .ok (.ldc 11, 2) := by decide +kernel
theorem dX9_init_71 : decode cX9_init 71 = .ok (.newarray .int, 2) := by decide +kernel
theorem dX9_init_73 : decode cX9_init 73 = .ok (.putfield 38, 3) := by decide +kernel
theorem dX9_init_76 : decode cX9_init 76 = .ok (.return_, 1) := by decide +kernel
theorem dX9_leaf_0 : decode cX9_leaf 0 = .ok (.iload_n 1, 1) := by decide +kernel
theorem dX9_leaf_1 : decode cX9_leaf 1 = .ok (.ifCond .lt 17, 3) := by decide +kernel
theorem dX9_leaf_4 : decode cX9_leaf 4 = .ok (.iload_n 1, 1) := by decide +kernel
theorem dX9_leaf_5 : decode cX9_leaf 5 = .ok (.iconst 4, 1) := by decide +kernel
theorem dX9_leaf_6 : decode cX9_leaf 6 = .ok (.if_icmp .gt 12, 3) := by decide +kernel
theorem dX9_leaf_9 : decode cX9_leaf 9 = .ok (.aload_n 0, 1) := by decide +kernel
theorem dX9_leaf_10 : decode cX9_leaf 10 = .ok (.getfield 41, 3) := by decide +kernel
theorem dX9_leaf_13 : decode cX9_leaf 13 = .ok (.ldc 11, 2) := by decide +kernel
theorem dX9_leaf_15 : decode cX9_leaf 15 = .ok (.if_icmp .lt 5, 3) := by decide +kernel
theorem dX9_leaf_18 : decode cX9_leaf 18 = .ok (.iconst (-1), 1) := by decide +kernel
theorem dX9_leaf_19 : decode cX9_leaf 19 = .ok (.ireturn, 1) := by decide +kernel
theorem dX9_leaf_20 : decode cX9_leaf 20 = .ok (.aload_n 0, 1) := by decide +kernel
theorem dX9_leaf_21 : decode cX9_leaf 21 = .ok (.getfield 41, 3) := by decide +kernel
theorem dX9_leaf_24 : decode cX9_leaf 24 = .ok (.istore_n 3, 1) := by decide +kernel
theorem dX9_leaf_25 : decode cX9_leaf 25 = .ok (.aload_n 0, 1) := by decide +kernel
theorem dX9_leaf_26 : decode cX9_leaf 26 = .ok (.dup, 1) := by decide +kernel
theorem dX9_leaf_27 : decode cX9_leaf 27 = .ok (.getfield 41, 3) := by decide +kernel
theorem dX9_leaf_30 : decode cX9_leaf 30 = .ok (.iconst 1, 1) := by decide +kernel
theorem dX9_leaf_31 : decode cX9_leaf 31 = .ok (.iadd, 1) := by decide +kernel
theorem dX9_leaf_32 : decode cX9_leaf 32 = .ok (.putfield 41, 3) := by decide +kernel
theorem dX9_leaf_35 : decode cX9_leaf 35 = .ok (.aload_n 0, 1) := by decide +kernel
theorem dX9_leaf_36 : decode cX9_leaf 36 = .ok (.getfield 12, 3) := by decide +kernel
theorem dX9_leaf_39 : decode cX9_leaf 39 = .ok (.iload_n 3, 1) := by decide +kernel
theorem dX9_leaf_40 : decode cX9_leaf 40 = .ok (.iload_n 1, 1) := by decide +kernel
theorem dX9_leaf_41 : decode cX9_leaf 41 = .ok (.iastore, 1) := by decide +kernel
theorem dX9_leaf_42 : decode cX9_leaf 42 = .ok (.aload_n 0, 1) := by decide +kernel
theorem dX9_leaf_43 : decode cX9_leaf 43 = .ok (.getfield 16, 3) := by decide +kernel
theorem dX9_leaf_46 : decode cX9_leaf 46 = .ok (.iload_n 3, 1) := by decide +kernel
theorem dX9_leaf_47 : decode cX9_leaf 47 = .ok (.iload_n 2, 1) := by decide +kernel
theorem dX9_leaf_48 : decode cX9_leaf 48 = .ok (.iastore, 1) := by decide +kernel
theorem dX9_leaf_49 : decode cX9_leaf 49 = .ok (.aload_n 0, 1) := by decide +kernel
theorem dX9_leaf_50 : decode cX9_leaf 50 = .ok (.getfield 19, 3) := by decide +kernel
theorem dX9_leaf_53 : decode cX9_leaf 53 = .ok (.iload_n 3, 1) := by decide +kernel
theorem dX9_leaf_54 : decode cX9_leaf 54 = .ok (.iconst (-1), 1) := by decide +kernel
theorem dX9_leaf_55 : decode cX9_leaf 55 = .ok (.iastore, 1) := by decide +kernel
theorem dX9_leaf_56 : decode cX9_leaf 56 = .ok (.aload_n 0, 1) := by decide +kernel
theorem dX9_leaf_57 : decode cX9_leaf 57 = .ok (.getfield 22, 3) := by decide +kernel
theorem dX9_leaf_60 : decode cX9_leaf 60 = .ok (.iload_n 3, 1) := by decide +kernel
theorem dX9_leaf_61 : decode cX9_leaf 61 = .ok (.iconst 1, 1) := by decide +kernel
theorem dX9_leaf_62 : decode cX9_leaf 62 = .ok (.iastore, 1) := by decide +kernel
theorem dX9_leaf_63 : decode cX9_leaf 63 = .ok (.aload_n 0, 1) := by decide +kernel
theorem dX9_leaf_64 : decode cX9_leaf 64 = .ok (.getfield 25, 3) := by decide +kernel
theorem dX9_leaf_67 : decode cX9_leaf 67 = .ok (.iload_n 3, 1) := by decide +kernel
theorem dX9_leaf_68 : decode cX9_leaf 68 = .ok (.getstatic 45, 3) := by decide +kernel
theorem dX9_leaf_71 : decode cX9_leaf 71 = .ok (.iload_n 1, 1) := by decide +kernel
theorem dX9_leaf_72 : decode cX9_leaf 72 = .ok (.iaload, 1) := by decide +kernel
theorem dX9_leaf_73 : decode cX9_leaf 73 = .ok (.iload_n 2, 1) := by decide +kernel
theorem dX9_leaf_74 : decode cX9_leaf 74 = .ok (.iadd, 1) := by decide +kernel
theorem dX9_leaf_75 : decode cX9_leaf 75 = .ok (.iastore, 1) := by decide +kernel
theorem dX9_leaf_76 : decode cX9_leaf 76 = .ok (.aload_n 0, 1) := by decide +kernel
theorem dX9_leaf_77 : decode cX9_leaf 77 = .ok (.getfield 28, 3) := by decide +kernel
theorem dX9_leaf_80 : decode cX9_leaf 80 = .ok (.iload_n 3, 1) := by decide +kernel
theorem dX9_leaf_81 : decode cX9_leaf 81 = .ok (.iload_n 1, 1) := by decide +kernel
theorem dX9_leaf_82 : decode cX9_leaf 82 = .ok (.iconst 1, 1) := by decide +kernel
theorem dX9_leaf_83 : decode cX9_leaf 83 = .ok (.if_icmp .ne 9, 3) := by decide +kernel
theorem dX9_leaf_86 : decode cX9_leaf 86 = .ok (.iload_n 2, 1) := by decide +kernel
theorem dX9_leaf_87 : decode cX9_leaf 87 = .ok (.iconst 1, 1) := by decide +kernel
theorem dX9_leaf_88 : decode cX9_leaf 88 = .ok (.iadd, 1) := by decide +kernel
theorem dX9_leaf_89 : decode cX9_leaf 89 = .ok (.goto 4, 3) := by decide +kernel
theorem dX9_leaf_92 : decode cX9_leaf 92 = .ok (.iconst 0, 1) := by decide +kernel
theorem dX9_leaf_93 : decode cX9_leaf 93 = .ok (.iastore, 1) := by decide +kernel
theorem dX9_leaf_94 : decode cX9_leaf 94 = .ok (.aload_n 0, 1) := by decide +kernel
theorem dX9_leaf_95 : decode cX9_leaf 95 = .ok (.getfield 31, 3) := by decide +kernel
theorem dX9_leaf_98 : decode cX9_leaf 98 = .ok (.iload_n 3, 1) := by decide +kernel
theorem dX9_leaf_99 : decode cX9_leaf 99 = .ok (.iload_n 1, 1) := by decide +kernel
theorem dX9_leaf_100 : decode cX9_leaf 100 = .ok (.iconst 4, 1) := by decide +kernel
theorem dX9_leaf_101 : decode cX9_leaf 101 = .ok (.if_icmp .ne 9, 3) := by decide +kernel
theorem dX9_leaf_104 : decode cX9_leaf 104 = .ok (.iconst 1, 1) := by decide +kernel
theorem dX9_leaf_105 : decode cX9_leaf 105 = .ok (.iload_n 2, 1) := by decide +kernel
theorem dX9_leaf_106 : decode cX9_leaf 106 = .ok (.ishl, 1) := by decide +kernel
theorem dX9_leaf_107 : decode cX9_leaf 107 = .ok (.goto 4, 3) := by decide +kernel
theorem dX9_leaf_110 : decode cX9_leaf 110 = .ok (.iconst 0, 1) := by decide +kernel
theorem dX9_leaf_111 : decode cX9_leaf 111 = .ok (.iastore, 1) := by decide +kernel
theorem dX9_leaf_112 : decode cX9_leaf 112 = .ok (.aload_n 0, 1) := by decide +kernel
theorem dX9_leaf_113 : decode cX9_leaf 113 = .ok (.getfield 34, 3) := by decide +kernel
theorem dX9_leaf_116 : decode cX9_leaf 116 = .ok (.iload_n 3, 1) := by decide +kernel
theorem dX9_leaf_117 : decode cX9_leaf 117 = .ok (.iconst 0, 1) := by decide +kernel
theorem dX9_leaf_118 : decode cX9_leaf 118 = .ok (.bastore, 1) := by decide +kernel
theorem dX9_leaf_119 : decode cX9_leaf 119 = .ok (.iload_n 3, 1) := by decide +kernel
theorem dX9_leaf_120 : decode cX9_leaf 120 = .ok (.ireturn, 1) := by decide +kernel
theorem dX9_pair_0 : decode cX9_pair 0 = .ok (.iload_n 1, 1) := by decide +kernel
theorem dX9_pair_1 : decode cX9_pair 1 = .ok (.iconst 5, 1) := by decide +kernel
theorem dX9_pair_2 : decode cX9_pair 2 = .ok (.if_icmp .lt 18, 3) := by decide +kernel
theorem dX9_pair_5 : decode cX9_pair 5 = .ok (.iload_n 1, 1) := by decide +kernel
theorem dX9_pair_6 : decode cX9_pair 6 = .ok (.bipush 7, 2) := by decide +kernel
theorem dX9_pair_8 : decode cX9_pair 8 = .ok (.if_icmp .gt 12, 3) := by decide +kernel
theorem dX9_pair_11 : decode cX9_pair 11 = .ok (.aload_n 0, 1) := by decide +kernel
theorem dX9_pair_12 : decode cX9_pair 12 = .ok (.getfield 41, 3) := by decide +kernel
theorem dX9_pair_15 : decode cX9_pair 15 = .ok (.ldc 11, 2) := by decide +kernel
theorem dX9_pair_17 : decode cX9_pair 17 = .ok (.if_icmp .lt 5, 3) := by decide +kernel
theorem dX9_pair_20 : decode cX9_pair 20 = .ok (.iconst (-1), 1) := by decide +kernel
theorem dX9_pair_21 : decode cX9_pair 21 = .ok (.ireturn, 1) := by decide +kernel
theorem dX9_pair_22 : decode cX9_pair 22 = .ok (.iload_n 2, 1) := by decide +kernel
theorem dX9_pair_23 : decode cX9_pair 23 = .ok (.ifCond .lt 42, 3) := by decide +kernel
theorem dX9_pair_26 : decode cX9_pair 26 = .ok (.iload_n 2, 1) := by decide +kernel
theorem dX9_pair_27 : decode cX9_pair 27 = .ok (.aload_n 0, 1) := by decide +kernel
theorem dX9_pair_28 : decode cX9_pair 28 = .ok (.getfield 41, 3) := by decide +kernel
theorem dX9_pair_31 : decode cX9_pair 31 = .ok (.if_icmp .ge 34, 3) := by decide +kernel
theorem dX9_pair_34 : decode cX9_pair 34 = .ok (.iload_n 3, 1) := by decide +kernel
theorem dX9_pair_35 : decode cX9_pair 35 = .ok (.ifCond .lt 30, 3) := by decide +kernel
theorem dX9_pair_38 : decode cX9_pair 38 = .ok (.iload_n 3, 1) := by decide +kernel
theorem dX9_pair_39 : decode cX9_pair 39 = .ok (.aload_n 0, 1) := by decide +kernel
theorem dX9_pair_40 : decode cX9_pair 40 = .ok (.getfield 41, 3) := by decide +kernel
theorem dX9_pair_43 : decode cX9_pair 43 = .ok (.if_icmp .ge 22, 3) := by decide +kernel
theorem dX9_pair_46 : decode cX9_pair 46 = .ok (.aload_n 0, 1) := by decide +kernel
theorem dX9_pair_47 : decode cX9_pair 47 = .ok (.getfield 22, 3) := by decide +kernel
theorem dX9_pair_50 : decode cX9_pair 50 = .ok (.iload_n 2, 1) := by decide +kernel
theorem dX9_pair_51 : decode cX9_pair 51 = .ok (.iaload, 1) := by decide +kernel
theorem dX9_pair_52 : decode cX9_pair 52 = .ok (.aload_n 0, 1) := by decide +kernel
theorem dX9_pair_53 : decode cX9_pair 53 = .ok (.getfield 22, 3) := by decide +kernel
theorem dX9_pair_56 : decode cX9_pair 56 = .ok (.iload_n 3, 1) := by decide +kernel
theorem dX9_pair_57 : decode cX9_pair 57 = .ok (.iaload, 1) := by decide +kernel
theorem dX9_pair_58 : decode cX9_pair 58 = .ok (.iadd, 1) := by decide +kernel
theorem dX9_pair_59 : decode cX9_pair 59 = .ok (.sipush 200, 3) := by decide +kernel
theorem dX9_pair_62 : decode cX9_pair 62 = .ok (.if_icmp .lt 5, 3) := by decide +kernel
theorem dX9_pair_65 : decode cX9_pair 65 = .ok (.iconst (-1), 1) := by decide +kernel
theorem dX9_pair_66 : decode cX9_pair 66 = .ok (.ireturn, 1) := by decide +kernel
theorem dX9_pair_67 : decode cX9_pair 67 = .ok (.aload_n 0, 1) := by decide +kernel
theorem dX9_pair_68 : decode cX9_pair 68 = .ok (.getfield 41, 3) := by decide +kernel
theorem dX9_pair_71 : decode cX9_pair 71 = .ok (.istore 4, 2) := by decide +kernel
theorem dX9_pair_73 : decode cX9_pair 73 = .ok (.aload_n 0, 1) := by decide +kernel
theorem dX9_pair_74 : decode cX9_pair 74 = .ok (.dup, 1) := by decide +kernel
theorem dX9_pair_75 : decode cX9_pair 75 = .ok (.getfield 41, 3) := by decide +kernel
theorem dX9_pair_78 : decode cX9_pair 78 = .ok (.iconst 1, 1) := by decide +kernel
theorem dX9_pair_79 : decode cX9_pair 79 = .ok (.iadd, 1) := by decide +kernel
theorem dX9_pair_80 : decode cX9_pair 80 = .ok (.putfield 41, 3) := by decide +kernel
theorem dX9_pair_83 : decode cX9_pair 83 = .ok (.iload_n 1, 1) := by decide +kernel
theorem dX9_pair_84 : decode cX9_pair 84 = .ok (.iconst 5, 1) := by decide +kernel
theorem dX9_pair_85 : decode cX9_pair 85 = .ok (.isub, 1) := by decide +kernel
theorem dX9_pair_86 : decode cX9_pair 86 = .ok (.istore 5, 2) := by decide +kernel
theorem dX9_pair_88 : decode cX9_pair 88 = .ok (.aload_n 0, 1) := by decide +kernel
theorem dX9_pair_89 : decode cX9_pair 89 = .ok (.getfield 12, 3) := by decide +kernel
theorem dX9_pair_92 : decode cX9_pair 92 = .ok (.iload 4, 2) := by decide +kernel
theorem dX9_pair_94 : decode cX9_pair 94 = .ok (.iload_n 1, 1) := by decide +kernel
theorem dX9_pair_95 : decode cX9_pair 95 = .ok (.iastore, 1) := by decide +kernel
theorem dX9_pair_96 : decode cX9_pair 96 = .ok (.aload_n 0, 1) := by decide +kernel
theorem dX9_pair_97 : decode cX9_pair 97 = .ok (.getfield 16, 3) := by decide +kernel
theorem dX9_pair_100 : decode cX9_pair 100 = .ok (.iload 4, 2) := by decide +kernel
theorem dX9_pair_102 : decode cX9_pair 102 = .ok (.iload_n 2, 1) := by decide +kernel
theorem dX9_pair_103 : decode cX9_pair 103 = .ok (.iastore, 1) := by decide +kernel
theorem dX9_pair_104 : decode cX9_pair 104 = .ok (.aload_n 0, 1) := by decide +kernel
theorem dX9_pair_105 : decode cX9_pair 105 = .ok (.getfield 19, 3) := by decide +kernel
theorem dX9_pair_108 : decode cX9_pair 108 = .ok (.iload 4, 2) := by decide +kernel
theorem dX9_pair_110 : decode cX9_pair 110 = .ok (.iload_n 3, 1) := by decide +kernel
theorem dX9_pair_111 : decode cX9_pair 111 = .ok (.iastore, 1) := by decide +kernel
theorem dX9_pair_112 : decode cX9_pair 112 = .ok (.aload_n 0, 1) := by decide +kernel
theorem dX9_pair_113 : decode cX9_pair 113 = .ok (.getfield 22, 3) := by decide +kernel
theorem dX9_pair_116 : decode cX9_pair 116 = .ok (.iload 4, 2) := by decide +kernel
theorem dX9_pair_118 : decode cX9_pair 118 = .ok (.iconst 1, 1) := by decide +kernel
theorem dX9_pair_119 : decode cX9_pair 119 = .ok (.aload_n 0, 1) := by decide +kernel
theorem dX9_pair_120 : decode cX9_pair 120 = .ok (.getfield 22, 3) := by decide +kernel
theorem dX9_pair_123 : decode cX9_pair 123 = .ok (.iload_n 2, 1) := by decide +kernel
theorem dX9_pair_124 : decode cX9_pair 124 = .ok (.iaload, 1) := by decide +kernel
theorem dX9_pair_125 : decode cX9_pair 125 = .ok (.iadd, 1) := by decide +kernel
theorem dX9_pair_126 : decode cX9_pair 126 = .ok (.aload_n 0, 1) := by decide +kernel
theorem dX9_pair_127 : decode cX9_pair 127 = .ok (.getfield 22, 3) := by decide +kernel
theorem dX9_pair_130 : decode cX9_pair 130 = .ok (.iload_n 3, 1) := by decide +kernel
theorem dX9_pair_131 : decode cX9_pair 131 = .ok (.iaload, 1) := by decide +kernel
theorem dX9_pair_132 : decode cX9_pair 132 = .ok (.iadd, 1) := by decide +kernel
theorem dX9_pair_133 : decode cX9_pair 133 = .ok (.iastore, 1) := by decide +kernel
theorem dX9_pair_134 : decode cX9_pair 134 = .ok (.aload_n 0, 1) := by decide +kernel
theorem dX9_pair_135 : decode cX9_pair 135 = .ok (.getfield 25, 3) := by decide +kernel
theorem dX9_pair_138 : decode cX9_pair 138 = .ok (.iload 4, 2) := by decide +kernel
theorem dX9_pair_140 : decode cX9_pair 140 = .ok (.getstatic 48, 3) := by decide +kernel
theorem dX9_pair_143 : decode cX9_pair 143 = .ok (.iload 5, 2) := by decide +kernel
theorem dX9_pair_145 : decode cX9_pair 145 = .ok (.iaload, 1) := by decide +kernel
theorem dX9_pair_146 : decode cX9_pair 146 = .ok (.aload_n 0, 1) := by decide +kernel
theorem dX9_pair_147 : decode cX9_pair 147 = .ok (.getfield 25, 3) := by decide +kernel
theorem dX9_pair_150 : decode cX9_pair 150 = .ok (.iload_n 2, 1) := by decide +kernel
theorem dX9_pair_151 : decode cX9_pair 151 = .ok (.iaload, 1) := by decide +kernel
theorem dX9_pair_152 : decode cX9_pair 152 = .ok (.imul, 1) := by decide +kernel
theorem dX9_pair_153 : decode cX9_pair 153 = .ok (.getstatic 51, 3) := by decide +kernel
theorem dX9_pair_156 : decode cX9_pair 156 = .ok (.iload 5, 2) := by decide +kernel
theorem dX9_pair_158 : decode cX9_pair 158 = .ok (.iaload, 1) := by decide +kernel
theorem dX9_pair_159 : decode cX9_pair 159 = .ok (.aload_n 0, 1) := by decide +kernel
theorem dX9_pair_160 : decode cX9_pair 160 = .ok (.getfield 25, 3) := by decide +kernel
theorem dX9_pair_163 : decode cX9_pair 163 = .ok (.iload_n 3, 1) := by decide +kernel
theorem dX9_pair_164 : decode cX9_pair 164 = .ok (.iaload, 1) := by decide +kernel
theorem dX9_pair_165 : decode cX9_pair 165 = .ok (.imul, 1) := by decide +kernel
theorem dX9_pair_166 : decode cX9_pair 166 = .ok (.iadd, 1) := by decide +kernel
theorem dX9_pair_167 : decode cX9_pair 167 = .ok (.getstatic 54, 3) := by decide +kernel
theorem dX9_pair_170 : decode cX9_pair 170 = .ok (.iload 5, 2) := by decide +kernel
theorem dX9_pair_172 : decode cX9_pair 172 = .ok (.iaload, 1) := by decide +kernel
theorem dX9_pair_173 : decode cX9_pair 173 = .ok (.iadd, 1) := by decide +kernel
theorem dX9_pair_174 : decode cX9_pair 174 = .ok (.ldc 57, 2) := by decide +kernel
theorem dX9_pair_176 : decode cX9_pair 176 = .ok (.irem, 1) := by decide +kernel
theorem dX9_pair_177 : decode cX9_pair 177 = .ok (.iastore, 1) := by decide +kernel
theorem dX9_pair_178 : decode cX9_pair 178 = .ok (.aload_n 0, 1) := by decide +kernel
theorem dX9_pair_179 : decode cX9_pair 179 = .ok (.getfield 28, 3) := by decide +kernel
theorem dX9_pair_182 : decode cX9_pair 182 = .ok (.iload 4, 2) := by decide +kernel
theorem dX9_pair_184 : decode cX9_pair 184 = .ok (.aload_n 0, 1) := by decide +kernel
theorem dX9_pair_185 : decode cX9_pair 185 = .ok (.getfield 28, 3) := by decide +kernel
theorem dX9_pair_188 : decode cX9_pair 188 = .ok (.iload_n 2, 1) := by decide +kernel
theorem dX9_pair_189 : decode cX9_pair 189 = .ok (.iaload, 1) := by decide +kernel
theorem dX9_pair_190 : decode cX9_pair 190 = .ok (.iload_n 1, 1) := by decide +kernel
theorem dX9_pair_191 : decode cX9_pair 191 = .ok (.bipush 7, 2) := by decide +kernel
theorem dX9_pair_193 : decode cX9_pair 193 = .ok (.if_icmp .ne 12, 3) := by decide +kernel
theorem dX9_pair_196 : decode cX9_pair 196 = .ok (.aload_n 0, 1) := by decide +kernel
theorem dX9_pair_197 : decode cX9_pair 197 = .ok (.getfield 28, 3) := by decide +kernel
theorem dX9_pair_200 : decode cX9_pair 200 = .ok (.iload_n 3, 1) := by decide +kernel
theorem dX9_pair_201 : decode cX9_pair 201 = .ok (.iaload, 1) := by decide +kernel
theorem dX9_pair_202 : decode cX9_pair 202 = .ok (.goto 11, 3) := by decide +kernel
theorem dX9_pair_205 : decode cX9_pair 205 = .ok (.aload_n 0, 1) := by decide +kernel
theorem dX9_pair_206 : decode cX9_pair 206 = .ok (.getfield 28, 3) := by decide +kernel
theorem dX9_pair_209 : decode cX9_pair 209 = .ok (.iload_n 3, 1) := by decide +kernel
theorem dX9_pair_210 : decode cX9_pair 210 = .ok (.iaload, 1) := by decide +kernel
theorem dX9_pair_211 : decode cX9_pair 211 = .ok (.iconst 1, 1) := by decide +kernel
theorem dX9_pair_212 : decode cX9_pair 212 = .ok (.isub, 1) := by decide +kernel
theorem dX9_pair_213 : decode cX9_pair 213 = .ok (.invokestatic 58, 3) := by decide +kernel
theorem dX9_pair_216 : decode cX9_pair 216 = .ok (.iastore, 1) := by decide +kernel
theorem dX9_pair_217 : decode cX9_pair 217 = .ok (.aload_n 0, 1) := by decide +kernel
theorem dX9_pair_218 : decode cX9_pair 218 = .ok (.getfield 31, 3) := by decide +kernel
theorem dX9_pair_221 : decode cX9_pair 221 = .ok (.iload 4, 2) := by decide +kernel
theorem dX9_pair_223 : decode cX9_pair 223 = .ok (.aload_n 0, 1) := by decide +kernel
theorem dX9_pair_224 : decode cX9_pair 224 = .ok (.getfield 31, 3) := by decide +kernel
theorem dX9_pair_227 : decode cX9_pair 227 = .ok (.iload_n 2, 1) := by decide +kernel
theorem dX9_pair_228 : decode cX9_pair 228 = .ok (.iaload, 1) := by decide +kernel
theorem dX9_pair_229 : decode cX9_pair 229 = .ok (.aload_n 0, 1) := by decide +kernel
theorem dX9_pair_230 : decode cX9_pair 230 = .ok (.getfield 31, 3) := by decide +kernel
theorem dX9_pair_233 : decode cX9_pair 233 = .ok (.iload_n 3, 1) := by decide +kernel
theorem dX9_pair_234 : decode cX9_pair 234 = .ok (.iaload, 1) := by decide +kernel
theorem dX9_pair_235 : decode cX9_pair 235 = .ok (.ior, 1) := by decide +kernel
theorem dX9_pair_236 : decode cX9_pair 236 = .ok (.iastore, 1) := by decide +kernel
theorem dX9_pair_237 : decode cX9_pair 237 = .ok (.aload_n 0, 1) := by decide +kernel
theorem dX9_pair_238 : decode cX9_pair 238 = .ok (.getfield 34, 3) := by decide +kernel
theorem dX9_pair_241 : decode cX9_pair 241 = .ok (.iload 4, 2) := by decide +kernel
theorem dX9_pair_243 : decode cX9_pair 243 = .ok (.aload_n 0, 1) := by decide +kernel
theorem dX9_pair_244 : decode cX9_pair 244 = .ok (.getfield 34, 3) := by decide +kernel
theorem dX9_pair_247 : decode cX9_pair 247 = .ok (.iload_n 2, 1) := by decide +kernel
theorem dX9_pair_248 : decode cX9_pair 248 = .ok (.baload, 1) := by decide +kernel
theorem dX9_pair_249 : decode cX9_pair 249 = .ok (.ifCond .ne 29, 3) := by decide +kernel
theorem dX9_pair_252 : decode cX9_pair 252 = .ok (.aload_n 0, 1) := by decide +kernel
theorem dX9_pair_253 : decode cX9_pair 253 = .ok (.getfield 34, 3) := by decide +kernel
theorem dX9_pair_256 : decode cX9_pair 256 = .ok (.iload_n 3, 1) := by decide +kernel
theorem dX9_pair_257 : decode cX9_pair 257 = .ok (.baload, 1) := by decide +kernel
theorem dX9_pair_258 : decode cX9_pair 258 = .ok (.ifCond .ne 20, 3) := by decide +kernel
theorem dX9_pair_261 : decode cX9_pair 261 = .ok (.iload_n 1, 1) := by decide +kernel
theorem dX9_pair_262 : decode cX9_pair 262 = .ok (.bipush 7, 2) := by decide +kernel
theorem dX9_pair_264 : decode cX9_pair 264 = .ok (.if_icmp .ne 18, 3) := by decide +kernel
theorem dX9_pair_267 : decode cX9_pair 267 = .ok (.aload_n 0, 1) := by decide +kernel
theorem dX9_pair_268 : decode cX9_pair 268 = .ok (.getfield 12, 3) := by decide +kernel
theorem dX9_pair_271 : decode cX9_pair 271 = .ok (.iload_n 2, 1) := by decide +kernel
theorem dX9_pair_272 : decode cX9_pair 272 = .ok (.iaload, 1) := by decide +kernel
theorem dX9_pair_273 : decode cX9_pair 273 = .ok (.bipush 6, 2) := by decide +kernel
theorem dX9_pair_275 : decode cX9_pair 275 = .ok (.if_icmp .ne 7, 3) := by decide +kernel
theorem dX9_pair_278 : decode cX9_pair 278 = .ok (.iconst 1, 1) := by decide +kernel
theorem dX9_pair_279 : decode cX9_pair 279 = .ok (.goto 4, 3) := by decide +kernel
theorem dX9_pair_282 : decode cX9_pair 282 = .ok (.iconst 0, 1) := by decide +kernel
theorem dX9_pair_283 : decode cX9_pair 283 = .ok (.bastore, 1) := by decide +kernel
theorem dX9_pair_284 : decode cX9_pair 284 = .ok (.iload 4, 2) := by decide +kernel
theorem dX9_pair_286 : decode cX9_pair 286 = .ok (.ireturn, 1) := by decide +kernel
theorem dX9_kindOf_0 : decode cX9_kindOf 0 = .ok (.iload_n 1, 1) := by decide +kernel
theorem dX9_kindOf_1 : decode cX9_kindOf 1 = .ok (.ifCond .lt 20, 3) := by decide +kernel
theorem dX9_kindOf_4 : decode cX9_kindOf 4 = .ok (.iload_n 1, 1) := by decide +kernel
theorem dX9_kindOf_5 : decode cX9_kindOf 5 = .ok (.aload_n 0, 1) := by decide +kernel
theorem dX9_kindOf_6 : decode cX9_kindOf 6 = .ok (.getfield 41, 3) := by decide +kernel
theorem dX9_kindOf_9 : decode cX9_kindOf 9 = .ok (.if_icmp .ge 12, 3) := by decide +kernel
theorem dX9_kindOf_12 : decode cX9_kindOf 12 = .ok (.aload_n 0, 1) := by decide +kernel
theorem dX9_kindOf_13 : decode cX9_kindOf 13 = .ok (.getfield 12, 3) := by decide +kernel
theorem dX9_kindOf_16 : decode cX9_kindOf 16 = .ok (.iload_n 1, 1) := by decide +kernel
theorem dX9_kindOf_17 : decode cX9_kindOf 17 = .ok (.iaload, 1) := by decide +kernel
theorem dX9_kindOf_18 : decode cX9_kindOf 18 = .ok (.goto 4, 3) := by decide +kernel
theorem dX9_kindOf_21 : decode cX9_kindOf 21 = .ok (.iconst (-1), 1) := by decide +kernel
theorem dX9_kindOf_22 : decode cX9_kindOf 22 = .ok (.ireturn, 1) := by decide +kernel
theorem dX9_firstOf_0 : decode cX9_firstOf 0 = .ok (.iload_n 1, 1) := by decide +kernel
theorem dX9_firstOf_1 : decode cX9_firstOf 1 = .ok (.ifCond .lt 20, 3) := by decide +kernel
theorem dX9_firstOf_4 : decode cX9_firstOf 4 = .ok (.iload_n 1, 1) := by decide +kernel
theorem dX9_firstOf_5 : decode cX9_firstOf 5 = .ok (.aload_n 0, 1) := by decide +kernel
theorem dX9_firstOf_6 : decode cX9_firstOf 6 = .ok (.getfield 41, 3) := by decide +kernel
theorem dX9_firstOf_9 : decode cX9_firstOf 9 = .ok (.if_icmp .ge 12, 3) := by decide +kernel
theorem dX9_firstOf_12 : decode cX9_firstOf 12 = .ok (.aload_n 0, 1) := by decide +kernel
theorem dX9_firstOf_13 : decode cX9_firstOf 13 = .ok (.getfield 16, 3) := by decide +kernel
theorem dX9_firstOf_16 : decode cX9_firstOf 16 = .ok (.iload_n 1, 1) := by decide +kernel
theorem dX9_firstOf_17 : decode cX9_firstOf 17 = .ok (.iaload, 1) := by decide +kernel
theorem dX9_firstOf_18 : decode cX9_firstOf 18 = .ok (.goto 4, 3) := by decide +kernel
theorem dX9_firstOf_21 : decode cX9_firstOf 21 = .ok (.iconst (-1), 1) := by decide +kernel
theorem dX9_firstOf_22 : decode cX9_firstOf 22 = .ok (.ireturn, 1) := by decide +kernel
theorem dX9_secondOf_0 : decode cX9_secondOf 0 = .ok (.iload_n 1, 1) := by decide +kernel
theorem dX9_secondOf_1 : decode cX9_secondOf 1 = .ok (.ifCond .lt 20, 3) := by decide +kernel
theorem dX9_secondOf_4 : decode cX9_secondOf 4 = .ok (.iload_n 1, 1) := by decide +kernel
theorem dX9_secondOf_5 : decode cX9_secondOf 5 = .ok (.aload_n 0, 1) := by decide +kernel
theorem dX9_secondOf_6 : decode cX9_secondOf 6 = .ok (.getfield 41, 3) := by decide +kernel
theorem dX9_secondOf_9 : decode cX9_secondOf 9 = .ok (.if_icmp .ge 12, 3) := by decide +kernel
theorem dX9_secondOf_12 : decode cX9_secondOf 12 = .ok (.aload_n 0, 1) := by decide +kernel
theorem dX9_secondOf_13 : decode cX9_secondOf 13 = .ok (.getfield 19, 3) := by decide +kernel
theorem dX9_secondOf_16 : decode cX9_secondOf 16 = .ok (.iload_n 1, 1) := by decide +kernel
theorem dX9_secondOf_17 : decode cX9_secondOf 17 = .ok (.iaload, 1) := by decide +kernel
theorem dX9_secondOf_18 : decode cX9_secondOf 18 = .ok (.goto 4, 3) := by decide +kernel
theorem dX9_secondOf_21 : decode cX9_secondOf 21 = .ok (.iconst (-1), 1) := by decide +kernel
theorem dX9_secondOf_22 : decode cX9_secondOf 22 = .ok (.ireturn, 1) := by decide +kernel
theorem dX9_sizeOf_0 : decode cX9_sizeOf 0 = .ok (.iload_n 1, 1) := by decide +kernel
theorem dX9_sizeOf_1 : decode cX9_sizeOf 1 = .ok (.ifCond .lt 20, 3) := by decide +kernel
theorem dX9_sizeOf_4 : decode cX9_sizeOf 4 = .ok (.iload_n 1, 1) := by decide +kernel
theorem dX9_sizeOf_5 : decode cX9_sizeOf 5 = .ok (.aload_n 0, 1) := by decide +kernel
theorem dX9_sizeOf_6 : decode cX9_sizeOf 6 = .ok (.getfield 41, 3) := by decide +kernel
theorem dX9_sizeOf_9 : decode cX9_sizeOf 9 = .ok (.if_icmp .ge 12, 3) := by decide +kernel
theorem dX9_sizeOf_12 : decode cX9_sizeOf 12 = .ok (.aload_n 0, 1) := by decide +kernel
theorem dX9_sizeOf_13 : decode cX9_sizeOf 13 = .ok (.getfield 22, 3) := by decide +kernel
theorem dX9_sizeOf_16 : decode cX9_sizeOf 16 = .ok (.iload_n 1, 1) := by decide +kernel
theorem dX9_sizeOf_17 : decode cX9_sizeOf 17 = .ok (.iaload, 1) := by decide +kernel
theorem dX9_sizeOf_18 : decode cX9_sizeOf 18 = .ok (.goto 4, 3) := by decide +kernel
theorem dX9_sizeOf_21 : decode cX9_sizeOf 21 = .ok (.iconst (-1), 1) := by decide +kernel
theorem dX9_sizeOf_22 : decode cX9_sizeOf 22 = .ok (.ireturn, 1) := by decide +kernel
theorem dX9_numberOf_0 : decode cX9_numberOf 0 = .ok (.iload_n 1, 1) := by decide +kernel
theorem dX9_numberOf_1 : decode cX9_numberOf 1 = .ok (.ifCond .lt 20, 3) := by decide +kernel
theorem dX9_numberOf_4 : decode cX9_numberOf 4 = .ok (.iload_n 1, 1) := by decide +kernel
theorem dX9_numberOf_5 : decode cX9_numberOf 5 = .ok (.aload_n 0, 1) := by decide +kernel
theorem dX9_numberOf_6 : decode cX9_numberOf 6 = .ok (.getfield 41, 3) := by decide +kernel
theorem dX9_numberOf_9 : decode cX9_numberOf 9 = .ok (.if_icmp .ge 12, 3) := by decide +kernel
theorem dX9_numberOf_12 : decode cX9_numberOf 12 = .ok (.aload_n 0, 1) := by decide +kernel
theorem dX9_numberOf_13 : decode cX9_numberOf 13 = .ok (.getfield 25, 3) := by decide +kernel
theorem dX9_numberOf_16 : decode cX9_numberOf 16 = .ok (.iload_n 1, 1) := by decide +kernel
theorem dX9_numberOf_17 : decode cX9_numberOf 17 = .ok (.iaload, 1) := by decide +kernel
theorem dX9_numberOf_18 : decode cX9_numberOf 18 = .ok (.goto 4, 3) := by decide +kernel
theorem dX9_numberOf_21 : decode cX9_numberOf 21 = .ok (.iconst (-1), 1) := by decide +kernel
theorem dX9_numberOf_22 : decode cX9_numberOf 22 = .ok (.ireturn, 1) := by decide +kernel
theorem dX9_freeOf_0 : decode cX9_freeOf 0 = .ok (.iload_n 1, 1) := by decide +kernel
theorem dX9_freeOf_1 : decode cX9_freeOf 1 = .ok (.ifCond .lt 20, 3) := by decide +kernel
theorem dX9_freeOf_4 : decode cX9_freeOf 4 = .ok (.iload_n 1, 1) := by decide +kernel
theorem dX9_freeOf_5 : decode cX9_freeOf 5 = .ok (.aload_n 0, 1) := by decide +kernel
theorem dX9_freeOf_6 : decode cX9_freeOf 6 = .ok (.getfield 41, 3) := by decide +kernel
theorem dX9_freeOf_9 : decode cX9_freeOf 9 = .ok (.if_icmp .ge 12, 3) := by decide +kernel
theorem dX9_freeOf_12 : decode cX9_freeOf 12 = .ok (.aload_n 0, 1) := by decide +kernel
theorem dX9_freeOf_13 : decode cX9_freeOf 13 = .ok (.getfield 28, 3) := by decide +kernel
theorem dX9_freeOf_16 : decode cX9_freeOf 16 = .ok (.iload_n 1, 1) := by decide +kernel
theorem dX9_freeOf_17 : decode cX9_freeOf 17 = .ok (.iaload, 1) := by decide +kernel
theorem dX9_freeOf_18 : decode cX9_freeOf 18 = .ok (.goto 4, 3) := by decide +kernel
theorem dX9_freeOf_21 : decode cX9_freeOf 21 = .ok (.iconst (-1), 1) := by decide +kernel
theorem dX9_freeOf_22 : decode cX9_freeOf 22 = .ok (.ireturn, 1) := by decide +kernel
theorem dX9_callsOf_0 : decode cX9_callsOf 0 = .ok (.iload_n 1, 1) := by decide +kernel
theorem dX9_callsOf_1 : decode cX9_callsOf 1 = .ok (.ifCond .lt 20, 3) := by decide +kernel
theorem dX9_callsOf_4 : decode cX9_callsOf 4 = .ok (.iload_n 1, 1) := by decide +kernel
theorem dX9_callsOf_5 : decode cX9_callsOf 5 = .ok (.aload_n 0, 1) := by decide +kernel
theorem dX9_callsOf_6 : decode cX9_callsOf 6 = .ok (.getfield 41, 3) := by decide +kernel
theorem dX9_callsOf_9 : decode cX9_callsOf 9 = .ok (.if_icmp .ge 12, 3) := by decide +kernel
theorem dX9_callsOf_12 : decode cX9_callsOf 12 = .ok (.aload_n 0, 1) := by decide +kernel
theorem dX9_callsOf_13 : decode cX9_callsOf 13 = .ok (.getfield 31, 3) := by decide +kernel
theorem dX9_callsOf_16 : decode cX9_callsOf 16 = .ok (.iload_n 1, 1) := by decide +kernel
theorem dX9_callsOf_17 : decode cX9_callsOf 17 = .ok (.iaload, 1) := by decide +kernel
theorem dX9_callsOf_18 : decode cX9_callsOf 18 = .ok (.goto 4, 3) := by decide +kernel
theorem dX9_callsOf_21 : decode cX9_callsOf 21 = .ok (.iconst 0, 1) := by decide +kernel
theorem dX9_callsOf_22 : decode cX9_callsOf 22 = .ok (.ireturn, 1) := by decide +kernel
theorem dX9_isLoose_0 : decode cX9_isLoose 0 = .ok (.iload_n 1, 1) := by decide +kernel
theorem dX9_isLoose_1 : decode cX9_isLoose 1 = .ok (.ifCond .lt 24, 3) := by decide +kernel
theorem dX9_isLoose_4 : decode cX9_isLoose 4 = .ok (.iload_n 1, 1) := by decide +kernel
theorem dX9_isLoose_5 : decode cX9_isLoose 5 = .ok (.aload_n 0, 1) := by decide +kernel
theorem dX9_isLoose_6 : decode cX9_isLoose 6 = .ok (.getfield 41, 3) := by decide +kernel
theorem dX9_isLoose_9 : decode cX9_isLoose 9 = .ok (.if_icmp .ge 16, 3) := by decide +kernel
theorem dX9_isLoose_12 : decode cX9_isLoose 12 = .ok (.aload_n 0, 1) := by decide +kernel
theorem dX9_isLoose_13 : decode cX9_isLoose 13 = .ok (.getfield 34, 3) := by decide +kernel
theorem dX9_isLoose_16 : decode cX9_isLoose 16 = .ok (.iload_n 1, 1) := by decide +kernel
theorem dX9_isLoose_17 : decode cX9_isLoose 17 = .ok (.baload, 1) := by decide +kernel
theorem dX9_isLoose_18 : decode cX9_isLoose 18 = .ok (.ifCond .eq 7, 3) := by decide +kernel
theorem dX9_isLoose_21 : decode cX9_isLoose 21 = .ok (.iconst 1, 1) := by decide +kernel
theorem dX9_isLoose_22 : decode cX9_isLoose 22 = .ok (.goto 4, 3) := by decide +kernel
theorem dX9_isLoose_25 : decode cX9_isLoose 25 = .ok (.iconst 0, 1) := by decide +kernel
theorem dX9_isLoose_26 : decode cX9_isLoose 26 = .ok (.ireturn, 1) := by decide +kernel
theorem dX9_headOf_0 : decode cX9_headOf 0 = .ok (.iload_n 1, 1) := by decide +kernel
theorem dX9_headOf_1 : decode cX9_headOf 1 = .ok (.istore_n 2, 1) := by decide +kernel
theorem dX9_headOf_2 : decode cX9_headOf 2 = .ok (.iconst 0, 1) := by decide +kernel
theorem dX9_headOf_3 : decode cX9_headOf 3 = .ok (.istore_n 3, 1) := by decide +kernel
theorem dX9_headOf_4 : decode cX9_headOf 4 = .ok (.iload_n 3, 1) := by decide +kernel
theorem dX9_headOf_5 : decode cX9_headOf 5 = .ok (.sipush 200, 3) := by decide +kernel
theorem dX9_headOf_8 : decode cX9_headOf 8 = .ok (.if_icmp .ge 39, 3) := by decide +kernel
theorem dX9_headOf_11 : decode cX9_headOf 11 = .ok (.iload_n 2, 1) := by decide +kernel
theorem dX9_headOf_12 : decode cX9_headOf 12 = .ok (.ifCond .lt 35, 3) := by decide +kernel
theorem dX9_headOf_15 : decode cX9_headOf 15 = .ok (.iload_n 2, 1) := by decide +kernel
theorem dX9_headOf_16 : decode cX9_headOf 16 = .ok (.aload_n 0, 1) := by decide +kernel
theorem dX9_headOf_17 : decode cX9_headOf 17 = .ok (.getfield 41, 3) := by decide +kernel
theorem dX9_headOf_20 : decode cX9_headOf 20 = .ok (.if_icmp .ge 27, 3) := by decide +kernel
theorem dX9_headOf_23 : decode cX9_headOf 23 = .ok (.aload_n 0, 1) := by decide +kernel
theorem dX9_headOf_24 : decode cX9_headOf 24 = .ok (.getfield 12, 3) := by decide +kernel
theorem dX9_headOf_27 : decode cX9_headOf 27 = .ok (.iload_n 2, 1) := by decide +kernel
theorem dX9_headOf_28 : decode cX9_headOf 28 = .ok (.iaload, 1) := by decide +kernel
theorem dX9_headOf_29 : decode cX9_headOf 29 = .ok (.bipush 7, 2) := by decide +kernel
theorem dX9_headOf_31 : decode cX9_headOf 31 = .ok (.if_icmp .ne 16, 3) := by decide +kernel
theorem dX9_headOf_34 : decode cX9_headOf 34 = .ok (.aload_n 0, 1) := by decide +kernel
theorem dX9_headOf_35 : decode cX9_headOf 35 = .ok (.getfield 16, 3) := by decide +kernel
theorem dX9_headOf_38 : decode cX9_headOf 38 = .ok (.iload_n 2, 1) := by decide +kernel
theorem dX9_headOf_39 : decode cX9_headOf 39 = .ok (.iaload, 1) := by decide +kernel
theorem dX9_headOf_40 : decode cX9_headOf 40 = .ok (.istore_n 2, 1) := by decide +kernel
theorem dX9_headOf_41 : decode cX9_headOf 41 = .ok (.iinc 3 1, 3) := by decide +kernel
theorem dX9_headOf_44 : decode cX9_headOf 44 = .ok (.goto (-40), 3) := by decide +kernel
theorem dX9_headOf_47 : decode cX9_headOf 47 = .ok (.iload_n 2, 1) := by decide +kernel
theorem dX9_headOf_48 : decode cX9_headOf 48 = .ok (.ireturn, 1) := by decide +kernel
theorem dX9_argumentsOf_0 : decode cX9_argumentsOf 0 = .ok (.iload_n 1, 1) := by decide +kernel
theorem dX9_argumentsOf_1 : decode cX9_argumentsOf 1 = .ok (.istore_n 2, 1) := by decide +kernel
theorem dX9_argumentsOf_2 : decode cX9_argumentsOf 2 = .ok (.iconst 0, 1) := by decide +kernel
theorem dX9_argumentsOf_3 : decode cX9_argumentsOf 3 = .ok (.istore_n 3, 1) := by decide +kernel
theorem dX9_argumentsOf_4 : decode cX9_argumentsOf 4 = .ok (.iload_n 3, 1) := by decide +kernel
theorem dX9_argumentsOf_5 : decode cX9_argumentsOf 5 = .ok (.sipush 200, 3) := by decide +kernel
theorem dX9_argumentsOf_8 : decode cX9_argumentsOf 8 = .ok (.if_icmp .ge 39, 3) := by decide +kernel
theorem dX9_argumentsOf_11 : decode cX9_argumentsOf 11 = .ok (.iload_n 2, 1) := by decide +kernel
theorem dX9_argumentsOf_12 : decode cX9_argumentsOf 12 = .ok (.ifCond .lt 35, 3) := by decide +kernel
theorem dX9_argumentsOf_15 : decode cX9_argumentsOf 15 = .ok (.iload_n 2, 1) := by decide +kernel
theorem dX9_argumentsOf_16 : decode cX9_argumentsOf 16 = .ok (.aload_n 0, 1) := by decide +kernel
theorem dX9_argumentsOf_17 : decode cX9_argumentsOf 17 = .ok (.getfield 41, 3) := by decide +kernel
theorem dX9_argumentsOf_20 : decode cX9_argumentsOf 20 = .ok (.if_icmp .ge 27, 3) := by decide +kernel
theorem dX9_argumentsOf_23 : decode cX9_argumentsOf 23 = .ok (.aload_n 0, 1) := by decide +kernel
theorem dX9_argumentsOf_24 : decode cX9_argumentsOf 24 = .ok (.getfield 12, 3) := by decide +kernel
theorem dX9_argumentsOf_27 : decode cX9_argumentsOf 27 = .ok (.iload_n 2, 1) := by decide +kernel
theorem dX9_argumentsOf_28 : decode cX9_argumentsOf 28 = .ok (.iaload, 1) := by decide +kernel
theorem dX9_argumentsOf_29 : decode cX9_argumentsOf 29 = .ok (.bipush 7, 2) := by decide +kernel
theorem dX9_argumentsOf_31 : decode cX9_argumentsOf 31 = .ok (.if_icmp .ne 16, 3) := by decide +kernel
theorem dX9_argumentsOf_34 : decode cX9_argumentsOf 34 = .ok (.aload_n 0, 1) := by decide +kernel
theorem dX9_argumentsOf_35 : decode cX9_argumentsOf 35 = .ok (.getfield 16, 3) := by decide +kernel
theorem dX9_argumentsOf_38 : decode cX9_argumentsOf 38 = .ok (.iload_n 2, 1) := by decide +kernel
theorem dX9_argumentsOf_39 : decode cX9_argumentsOf 39 = .ok (.iaload, 1) := by decide +kernel
theorem dX9_argumentsOf_40 : decode cX9_argumentsOf 40 = .ok (.istore_n 2, 1) := by decide +kernel
theorem dX9_argumentsOf_41 : decode cX9_argumentsOf 41 = .ok (.iinc 3 1, 3) := by decide +kernel
theorem dX9_argumentsOf_44 : decode cX9_argumentsOf 44 = .ok (.goto (-40), 3) := by decide +kernel
theorem dX9_argumentsOf_47 : decode cX9_argumentsOf 47 = .ok (.iload_n 3, 1) := by decide +kernel
theorem dX9_argumentsOf_48 : decode cX9_argumentsOf 48 = .ok (.ireturn, 1) := by decide +kernel
theorem dX9_mark_0 : decode cX9_mark 0 = .ok (.aload_n 0, 1) := by decide +kernel
theorem dX9_mark_1 : decode cX9_mark 1 = .ok (.getfield 41, 3) := by decide +kernel
theorem dX9_mark_4 : decode cX9_mark 4 = .ok (.ireturn, 1) := by decide +kernel
theorem dX9_release_0 : decode cX9_release 0 = .ok (.iload_n 1, 1) := by decide +kernel
theorem dX9_release_1 : decode cX9_release 1 = .ok (.ifCond .lt 16, 3) := by decide +kernel
theorem dX9_release_4 : decode cX9_release 4 = .ok (.iload_n 1, 1) := by decide +kernel
theorem dX9_release_5 : decode cX9_release 5 = .ok (.aload_n 0, 1) := by decide +kernel
theorem dX9_release_6 : decode cX9_release 6 = .ok (.getfield 41, 3) := by decide +kernel
theorem dX9_release_9 : decode cX9_release 9 = .ok (.if_icmp .ge 8, 3) := by decide +kernel
theorem dX9_release_12 : decode cX9_release 12 = .ok (.aload_n 0, 1) := by decide +kernel
theorem dX9_release_13 : decode cX9_release 13 = .ok (.iload_n 1, 1) := by decide +kernel
theorem dX9_release_14 : decode cX9_release 14 = .ok (.putfield 41, 3) := by decide +kernel
theorem dX9_release_17 : decode cX9_release 17 = .ok (.return_, 1) := by decide +kernel
theorem dX9_keep_0 : decode cX9_keep 0 = .ok (.iload_n 1, 1) := by decide +kernel
theorem dX9_keep_1 : decode cX9_keep 1 = .ok (.ifCond .lt 16, 3) := by decide +kernel
theorem dX9_keep_4 : decode cX9_keep 4 = .ok (.iload_n 2, 1) := by decide +kernel
theorem dX9_keep_5 : decode cX9_keep 5 = .ok (.iload_n 1, 1) := by decide +kernel
theorem dX9_keep_6 : decode cX9_keep 6 = .ok (.if_icmp .lt 11, 3) := by decide +kernel
theorem dX9_keep_9 : decode cX9_keep 9 = .ok (.iload_n 2, 1) := by decide +kernel
theorem dX9_keep_10 : decode cX9_keep 10 = .ok (.aload_n 0, 1) := by decide +kernel
theorem dX9_keep_11 : decode cX9_keep 11 = .ok (.getfield 41, 3) := by decide +kernel
theorem dX9_keep_14 : decode cX9_keep 14 = .ok (.if_icmp .lt 10, 3) := by decide +kernel
theorem dX9_keep_17 : decode cX9_keep 17 = .ok (.aload_n 0, 1) := by decide +kernel
theorem dX9_keep_18 : decode cX9_keep 18 = .ok (.iload_n 1, 1) := by decide +kernel
theorem dX9_keep_19 : decode cX9_keep 19 = .ok (.invokevirtual 64, 3) := by decide +kernel
theorem dX9_keep_22 : decode cX9_keep 22 = .ok (.iload_n 2, 1) := by decide +kernel
theorem dX9_keep_23 : decode cX9_keep 23 = .ok (.ireturn, 1) := by decide +kernel
theorem dX9_keep_24 : decode cX9_keep 24 = .ok (.iload_n 1, 1) := by decide +kernel
theorem dX9_keep_25 : decode cX9_keep 25 = .ok (.istore_n 3, 1) := by decide +kernel
theorem dX9_keep_26 : decode cX9_keep 26 = .ok (.iload_n 3, 1) := by decide +kernel
theorem dX9_keep_27 : decode cX9_keep 27 = .ok (.iload_n 2, 1) := by decide +kernel
theorem dX9_keep_28 : decode cX9_keep 28 = .ok (.if_icmp .gt 16, 3) := by decide +kernel
theorem dX9_keep_31 : decode cX9_keep 31 = .ok (.aload_n 0, 1) := by decide +kernel
theorem dX9_keep_32 : decode cX9_keep 32 = .ok (.getfield 38, 3) := by decide +kernel
theorem dX9_keep_35 : decode cX9_keep 35 = .ok (.iload_n 3, 1) := by decide +kernel
theorem dX9_keep_36 : decode cX9_keep 36 = .ok (.iconst (-1), 1) := by decide +kernel
theorem dX9_keep_37 : decode cX9_keep 37 = .ok (.iastore, 1) := by decide +kernel
theorem dX9_keep_38 : decode cX9_keep 38 = .ok (.iinc 3 1, 3) := by decide +kernel
theorem dX9_keep_41 : decode cX9_keep 41 = .ok (.goto (-15), 3) := by decide +kernel
theorem dX9_keep_44 : decode cX9_keep 44 = .ok (.aload_n 0, 1) := by decide +kernel
theorem dX9_keep_45 : decode cX9_keep 45 = .ok (.getfield 38, 3) := by decide +kernel
theorem dX9_keep_48 : decode cX9_keep 48 = .ok (.iload_n 2, 1) := by decide +kernel
theorem dX9_keep_49 : decode cX9_keep 49 = .ok (.iload_n 2, 1) := by decide +kernel
theorem dX9_keep_50 : decode cX9_keep 50 = .ok (.iastore, 1) := by decide +kernel
theorem dX9_keep_51 : decode cX9_keep 51 = .ok (.iload_n 2, 1) := by decide +kernel
theorem dX9_keep_52 : decode cX9_keep 52 = .ok (.istore_n 3, 1) := by decide +kernel
theorem dX9_keep_53 : decode cX9_keep 53 = .ok (.iload_n 3, 1) := by decide +kernel
theorem dX9_keep_54 : decode cX9_keep 54 = .ok (.iload_n 1, 1) := by decide +kernel
theorem dX9_keep_55 : decode cX9_keep 55 = .ok (.if_icmp .lt 49, 3) := by decide +kernel
theorem dX9_keep_58 : decode cX9_keep 58 = .ok (.aload_n 0, 1) := by decide +kernel
theorem dX9_keep_59 : decode cX9_keep 59 = .ok (.getfield 38, 3) := by decide +kernel
theorem dX9_keep_62 : decode cX9_keep 62 = .ok (.iload_n 3, 1) := by decide +kernel
theorem dX9_keep_63 : decode cX9_keep 63 = .ok (.iaload, 1) := by decide +kernel
theorem dX9_keep_64 : decode cX9_keep 64 = .ok (.iconst (-1), 1) := by decide +kernel
theorem dX9_keep_65 : decode cX9_keep 65 = .ok (.if_icmp .eq 33, 3) := by decide +kernel
theorem dX9_keep_68 : decode cX9_keep 68 = .ok (.aload_n 0, 1) := by decide +kernel
theorem dX9_keep_69 : decode cX9_keep 69 = .ok (.getfield 12, 3) := by decide +kernel
theorem dX9_keep_72 : decode cX9_keep 72 = .ok (.iload_n 3, 1) := by decide +kernel
theorem dX9_keep_73 : decode cX9_keep 73 = .ok (.iaload, 1) := by decide +kernel
theorem dX9_keep_74 : decode cX9_keep 74 = .ok (.iconst 5, 1) := by decide +kernel
theorem dX9_keep_75 : decode cX9_keep 75 = .ok (.if_icmp .lt 23, 3) := by decide +kernel
theorem dX9_keep_78 : decode cX9_keep 78 = .ok (.aload_n 0, 1) := by decide +kernel
theorem dX9_keep_79 : decode cX9_keep 79 = .ok (.aload_n 0, 1) := by decide +kernel
theorem dX9_keep_80 : decode cX9_keep 80 = .ok (.getfield 16, 3) := by decide +kernel
theorem dX9_keep_83 : decode cX9_keep 83 = .ok (.iload_n 3, 1) := by decide +kernel
theorem dX9_keep_84 : decode cX9_keep 84 = .ok (.iaload, 1) := by decide +kernel
theorem dX9_keep_85 : decode cX9_keep 85 = .ok (.invokevirtual 68, 3) := by decide +kernel
theorem dX9_keep_88 : decode cX9_keep 88 = .ok (.aload_n 0, 1) := by decide +kernel
theorem dX9_keep_89 : decode cX9_keep 89 = .ok (.aload_n 0, 1) := by decide +kernel
theorem dX9_keep_90 : decode cX9_keep 90 = .ok (.getfield 19, 3) := by decide +kernel
theorem dX9_keep_93 : decode cX9_keep 93 = .ok (.iload_n 3, 1) := by decide +kernel
theorem dX9_keep_94 : decode cX9_keep 94 = .ok (.iaload, 1) := by decide +kernel
theorem dX9_keep_95 : decode cX9_keep 95 = .ok (.invokevirtual 68, 3) := by decide +kernel
theorem dX9_keep_98 : decode cX9_keep 98 = .ok (.iinc 3 (-1), 3) := by decide +kernel
theorem dX9_keep_101 : decode cX9_keep 101 = .ok (.goto (-48), 3) := by decide +kernel
theorem dX9_keep_104 : decode cX9_keep 104 = .ok (.aload_n 0, 1) := by decide +kernel
theorem dX9_keep_105 : decode cX9_keep 105 = .ok (.iload_n 1, 1) := by decide +kernel
theorem dX9_keep_106 : decode cX9_keep 106 = .ok (.putfield 41, 3) := by decide +kernel
theorem dX9_keep_109 : decode cX9_keep 109 = .ok (.iload_n 1, 1) := by decide +kernel
theorem dX9_keep_110 : decode cX9_keep 110 = .ok (.istore_n 3, 1) := by decide +kernel
theorem dX9_keep_111 : decode cX9_keep 111 = .ok (.iload_n 3, 1) := by decide +kernel
theorem dX9_keep_112 : decode cX9_keep 112 = .ok (.iload_n 2, 1) := by decide +kernel
theorem dX9_keep_113 : decode cX9_keep 113 = .ok (.if_icmp .gt 25, 3) := by decide +kernel
theorem dX9_keep_116 : decode cX9_keep 116 = .ok (.aload_n 0, 1) := by decide +kernel
theorem dX9_keep_117 : decode cX9_keep 117 = .ok (.getfield 38, 3) := by decide +kernel
theorem dX9_keep_120 : decode cX9_keep 120 = .ok (.iload_n 3, 1) := by decide +kernel
theorem dX9_keep_121 : decode cX9_keep 121 = .ok (.iaload, 1) := by decide +kernel
theorem dX9_keep_122 : decode cX9_keep 122 = .ok (.iconst (-1), 1) := by decide +kernel
theorem dX9_keep_123 : decode cX9_keep 123 = .ok (.if_icmp .eq 9, 3) := by decide +kernel
theorem dX9_keep_126 : decode cX9_keep 126 = .ok (.aload_n 0, 1) := by decide +kernel
theorem dX9_keep_127 : decode cX9_keep 127 = .ok (.iload_n 3, 1) := by decide +kernel
theorem dX9_keep_128 : decode cX9_keep 128 = .ok (.iload_n 1, 1) := by decide +kernel
theorem dX9_keep_129 : decode cX9_keep 129 = .ok (.invokevirtual 71, 3) := by decide +kernel
theorem dX9_keep_132 : decode cX9_keep 132 = .ok (.iinc 3 1, 3) := by decide +kernel
theorem dX9_keep_135 : decode cX9_keep 135 = .ok (.goto (-24), 3) := by decide +kernel
theorem dX9_keep_138 : decode cX9_keep 138 = .ok (.aload_n 0, 1) := by decide +kernel
theorem dX9_keep_139 : decode cX9_keep 139 = .ok (.getfield 41, 3) := by decide +kernel
theorem dX9_keep_142 : decode cX9_keep 142 = .ok (.iconst 1, 1) := by decide +kernel
theorem dX9_keep_143 : decode cX9_keep 143 = .ok (.isub, 1) := by decide +kernel
theorem dX9_keep_144 : decode cX9_keep 144 = .ok (.ireturn, 1) := by decide +kernel
theorem dX9_keepPart_0 : decode cX9_keepPart 0 = .ok (.iload_n 1, 1) := by decide +kernel
theorem dX9_keepPart_1 : decode cX9_keepPart 1 = .ok (.ifCond .lt 16, 3) := by decide +kernel
theorem dX9_keepPart_4 : decode cX9_keepPart 4 = .ok (.iload_n 1, 1) := by decide +kernel
theorem dX9_keepPart_5 : decode cX9_keepPart 5 = .ok (.ldc 11, 2) := by decide +kernel
theorem dX9_keepPart_7 : decode cX9_keepPart 7 = .ok (.if_icmp .ge 10, 3) := by decide +kernel
theorem dX9_keepPart_10 : decode cX9_keepPart 10 = .ok (.aload_n 0, 1) := by decide +kernel
theorem dX9_keepPart_11 : decode cX9_keepPart 11 = .ok (.getfield 38, 3) := by decide +kernel
theorem dX9_keepPart_14 : decode cX9_keepPart 14 = .ok (.iload_n 1, 1) := by decide +kernel
theorem dX9_keepPart_15 : decode cX9_keepPart 15 = .ok (.iload_n 1, 1) := by decide +kernel
theorem dX9_keepPart_16 : decode cX9_keepPart 16 = .ok (.iastore, 1) := by decide +kernel
theorem dX9_keepPart_17 : decode cX9_keepPart 17 = .ok (.return_, 1) := by decide +kernel
theorem dX9_placeNow_0 : decode cX9_placeNow 0 = .ok (.iload_n 1, 1) := by decide +kernel
theorem dX9_placeNow_1 : decode cX9_placeNow 1 = .ok (.iload_n 2, 1) := by decide +kernel
theorem dX9_placeNow_2 : decode cX9_placeNow 2 = .ok (.if_icmp .lt 18, 3) := by decide +kernel
theorem dX9_placeNow_5 : decode cX9_placeNow 5 = .ok (.iload_n 1, 1) := by decide +kernel
theorem dX9_placeNow_6 : decode cX9_placeNow 6 = .ok (.ldc 11, 2) := by decide +kernel
theorem dX9_placeNow_8 : decode cX9_placeNow 8 = .ok (.if_icmp .ge 12, 3) := by decide +kernel
theorem dX9_placeNow_11 : decode cX9_placeNow 11 = .ok (.aload_n 0, 1) := by decide +kernel
theorem dX9_placeNow_12 : decode cX9_placeNow 12 = .ok (.getfield 38, 3) := by decide +kernel
theorem dX9_placeNow_15 : decode cX9_placeNow 15 = .ok (.iload_n 1, 1) := by decide +kernel
theorem dX9_placeNow_16 : decode cX9_placeNow 16 = .ok (.iaload, 1) := by decide +kernel
theorem dX9_placeNow_17 : decode cX9_placeNow 17 = .ok (.goto 4, 3) := by decide +kernel
theorem dX9_placeNow_20 : decode cX9_placeNow 20 = .ok (.iload_n 1, 1) := by decide +kernel
theorem dX9_placeNow_21 : decode cX9_placeNow 21 = .ok (.ireturn, 1) := by decide +kernel
theorem dX9_slide_0 : decode cX9_slide 0 = .ok (.aload_n 0, 1) := by decide +kernel
theorem dX9_slide_1 : decode cX9_slide 1 = .ok (.getfield 41, 3) := by decide +kernel
theorem dX9_slide_4 : decode cX9_slide 4 = .ok (.istore_n 3, 1) := by decide +kernel
theorem dX9_slide_5 : decode cX9_slide 5 = .ok (.aload_n 0, 1) := by decide +kernel
theorem dX9_slide_6 : decode cX9_slide 6 = .ok (.dup, 1) := by decide +kernel
theorem dX9_slide_7 : decode cX9_slide 7 = .ok (.getfield 41, 3) := by decide +kernel
theorem dX9_slide_10 : decode cX9_slide 10 = .ok (.iconst 1, 1) := by decide +kernel
theorem dX9_slide_11 : decode cX9_slide 11 = .ok (.iadd, 1) := by decide +kernel
theorem dX9_slide_12 : decode cX9_slide 12 = .ok (.putfield 41, 3) := by decide +kernel
theorem dX9_slide_15 : decode cX9_slide 15 = .ok (.aload_n 0, 1) := by decide +kernel
theorem dX9_slide_16 : decode cX9_slide 16 = .ok (.getfield 38, 3) := by decide +kernel
theorem dX9_slide_19 : decode cX9_slide 19 = .ok (.iload_n 1, 1) := by decide +kernel
theorem dX9_slide_20 : decode cX9_slide 20 = .ok (.iload_n 3, 1) := by decide +kernel
theorem dX9_slide_21 : decode cX9_slide 21 = .ok (.iastore, 1) := by decide +kernel
theorem dX9_slide_22 : decode cX9_slide 22 = .ok (.aload_n 0, 1) := by decide +kernel
theorem dX9_slide_23 : decode cX9_slide 23 = .ok (.getfield 12, 3) := by decide +kernel
theorem dX9_slide_26 : decode cX9_slide 26 = .ok (.iload_n 1, 1) := by decide +kernel
theorem dX9_slide_27 : decode cX9_slide 27 = .ok (.iaload, 1) := by decide +kernel
theorem dX9_slide_28 : decode cX9_slide 28 = .ok (.iconst 5, 1) := by decide +kernel
theorem dX9_slide_29 : decode cX9_slide 29 = .ok (.if_icmp .lt 7, 3) := by decide +kernel
theorem dX9_slide_32 : decode cX9_slide 32 = .ok (.iconst 1, 1) := by decide +kernel
theorem dX9_slide_33 : decode cX9_slide 33 = .ok (.goto 4, 3) := by decide +kernel
theorem dX9_slide_36 : decode cX9_slide 36 = .ok (.iconst 0, 1) := by decide +kernel
theorem dX9_slide_37 : decode cX9_slide 37 = .ok (.istore 4, 2) := by decide +kernel
theorem dX9_slide_39 : decode cX9_slide 39 = .ok (.aload_n 0, 1) := by decide +kernel
theorem dX9_slide_40 : decode cX9_slide 40 = .ok (.getfield 16, 3) := by decide +kernel
theorem dX9_slide_43 : decode cX9_slide 43 = .ok (.iload_n 3, 1) := by decide +kernel
theorem dX9_slide_44 : decode cX9_slide 44 = .ok (.iload 4, 2) := by decide +kernel
theorem dX9_slide_46 : decode cX9_slide 46 = .ok (.ifCond .eq 17, 3) := by decide +kernel
theorem dX9_slide_49 : decode cX9_slide 49 = .ok (.aload_n 0, 1) := by decide +kernel
theorem dX9_slide_50 : decode cX9_slide 50 = .ok (.aload_n 0, 1) := by decide +kernel
theorem dX9_slide_51 : decode cX9_slide 51 = .ok (.getfield 16, 3) := by decide +kernel
theorem dX9_slide_54 : decode cX9_slide 54 = .ok (.iload_n 1, 1) := by decide +kernel
theorem dX9_slide_55 : decode cX9_slide 55 = .ok (.iaload, 1) := by decide +kernel
theorem dX9_slide_56 : decode cX9_slide 56 = .ok (.iload_n 2, 1) := by decide +kernel
theorem dX9_slide_57 : decode cX9_slide 57 = .ok (.invokevirtual 75, 3) := by decide +kernel
theorem dX9_slide_60 : decode cX9_slide 60 = .ok (.goto 9, 3) := by decide +kernel
theorem dX9_slide_63 : decode cX9_slide 63 = .ok (.aload_n 0, 1) := by decide +kernel
theorem dX9_slide_64 : decode cX9_slide 64 = .ok (.getfield 16, 3) := by decide +kernel
theorem dX9_slide_67 : decode cX9_slide 67 = .ok (.iload_n 1, 1) := by decide +kernel
theorem dX9_slide_68 : decode cX9_slide 68 = .ok (.iaload, 1) := by decide +kernel
theorem dX9_slide_69 : decode cX9_slide 69 = .ok (.iastore, 1) := by decide +kernel
theorem dX9_slide_70 : decode cX9_slide 70 = .ok (.aload_n 0, 1) := by decide +kernel
theorem dX9_slide_71 : decode cX9_slide 71 = .ok (.getfield 19, 3) := by decide +kernel
theorem dX9_slide_74 : decode cX9_slide 74 = .ok (.iload_n 3, 1) := by decide +kernel
theorem dX9_slide_75 : decode cX9_slide 75 = .ok (.iload 4, 2) := by decide +kernel
theorem dX9_slide_77 : decode cX9_slide 77 = .ok (.ifCond .eq 17, 3) := by decide +kernel
theorem dX9_slide_80 : decode cX9_slide 80 = .ok (.aload_n 0, 1) := by decide +kernel
theorem dX9_slide_81 : decode cX9_slide 81 = .ok (.aload_n 0, 1) := by decide +kernel
theorem dX9_slide_82 : decode cX9_slide 82 = .ok (.getfield 19, 3) := by decide +kernel
theorem dX9_slide_85 : decode cX9_slide 85 = .ok (.iload_n 1, 1) := by decide +kernel
theorem dX9_slide_86 : decode cX9_slide 86 = .ok (.iaload, 1) := by decide +kernel
theorem dX9_slide_87 : decode cX9_slide 87 = .ok (.iload_n 2, 1) := by decide +kernel
theorem dX9_slide_88 : decode cX9_slide 88 = .ok (.invokevirtual 75, 3) := by decide +kernel
theorem dX9_slide_91 : decode cX9_slide 91 = .ok (.goto 9, 3) := by decide +kernel
theorem dX9_slide_94 : decode cX9_slide 94 = .ok (.aload_n 0, 1) := by decide +kernel
theorem dX9_slide_95 : decode cX9_slide 95 = .ok (.getfield 19, 3) := by decide +kernel
theorem dX9_slide_98 : decode cX9_slide 98 = .ok (.iload_n 1, 1) := by decide +kernel
theorem dX9_slide_99 : decode cX9_slide 99 = .ok (.iaload, 1) := by decide +kernel
theorem dX9_slide_100 : decode cX9_slide 100 = .ok (.iastore, 1) := by decide +kernel
theorem dX9_slide_101 : decode cX9_slide 101 = .ok (.aload_n 0, 1) := by decide +kernel
theorem dX9_slide_102 : decode cX9_slide 102 = .ok (.getfield 12, 3) := by decide +kernel
theorem dX9_slide_105 : decode cX9_slide 105 = .ok (.iload_n 3, 1) := by decide +kernel
theorem dX9_slide_106 : decode cX9_slide 106 = .ok (.aload_n 0, 1) := by decide +kernel
theorem dX9_slide_107 : decode cX9_slide 107 = .ok (.getfield 12, 3) := by decide +kernel
theorem dX9_slide_110 : decode cX9_slide 110 = .ok (.iload_n 1, 1) := by decide +kernel
theorem dX9_slide_111 : decode cX9_slide 111 = .ok (.iaload, 1) := by decide +kernel
theorem dX9_slide_112 : decode cX9_slide 112 = .ok (.iastore, 1) := by decide +kernel
theorem dX9_slide_113 : decode cX9_slide 113 = .ok (.aload_n 0, 1) := by decide +kernel
theorem dX9_slide_114 : decode cX9_slide 114 = .ok (.getfield 22, 3) := by decide +kernel
theorem dX9_slide_117 : decode cX9_slide 117 = .ok (.iload_n 3, 1) := by decide +kernel
theorem dX9_slide_118 : decode cX9_slide 118 = .ok (.aload_n 0, 1) := by decide +kernel
theorem dX9_slide_119 : decode cX9_slide 119 = .ok (.getfield 22, 3) := by decide +kernel
theorem dX9_slide_122 : decode cX9_slide 122 = .ok (.iload_n 1, 1) := by decide +kernel
theorem dX9_slide_123 : decode cX9_slide 123 = .ok (.iaload, 1) := by decide +kernel
theorem dX9_slide_124 : decode cX9_slide 124 = .ok (.iastore, 1) := by decide +kernel
theorem dX9_slide_125 : decode cX9_slide 125 = .ok (.aload_n 0, 1) := by decide +kernel
theorem dX9_slide_126 : decode cX9_slide 126 = .ok (.getfield 25, 3) := by decide +kernel
theorem dX9_slide_129 : decode cX9_slide 129 = .ok (.iload_n 3, 1) := by decide +kernel
theorem dX9_slide_130 : decode cX9_slide 130 = .ok (.aload_n 0, 1) := by decide +kernel
theorem dX9_slide_131 : decode cX9_slide 131 = .ok (.getfield 25, 3) := by decide +kernel
theorem dX9_slide_134 : decode cX9_slide 134 = .ok (.iload_n 1, 1) := by decide +kernel
theorem dX9_slide_135 : decode cX9_slide 135 = .ok (.iaload, 1) := by decide +kernel
theorem dX9_slide_136 : decode cX9_slide 136 = .ok (.iastore, 1) := by decide +kernel
theorem dX9_slide_137 : decode cX9_slide 137 = .ok (.aload_n 0, 1) := by decide +kernel
theorem dX9_slide_138 : decode cX9_slide 138 = .ok (.getfield 28, 3) := by decide +kernel
theorem dX9_slide_141 : decode cX9_slide 141 = .ok (.iload_n 3, 1) := by decide +kernel
theorem dX9_slide_142 : decode cX9_slide 142 = .ok (.aload_n 0, 1) := by decide +kernel
theorem dX9_slide_143 : decode cX9_slide 143 = .ok (.getfield 28, 3) := by decide +kernel
theorem dX9_slide_146 : decode cX9_slide 146 = .ok (.iload_n 1, 1) := by decide +kernel
theorem dX9_slide_147 : decode cX9_slide 147 = .ok (.iaload, 1) := by decide +kernel
theorem dX9_slide_148 : decode cX9_slide 148 = .ok (.iastore, 1) := by decide +kernel
theorem dX9_slide_149 : decode cX9_slide 149 = .ok (.aload_n 0, 1) := by decide +kernel
theorem dX9_slide_150 : decode cX9_slide 150 = .ok (.getfield 31, 3) := by decide +kernel
theorem dX9_slide_153 : decode cX9_slide 153 = .ok (.iload_n 3, 1) := by decide +kernel
theorem dX9_slide_154 : decode cX9_slide 154 = .ok (.aload_n 0, 1) := by decide +kernel
theorem dX9_slide_155 : decode cX9_slide 155 = .ok (.getfield 31, 3) := by decide +kernel
theorem dX9_slide_158 : decode cX9_slide 158 = .ok (.iload_n 1, 1) := by decide +kernel
theorem dX9_slide_159 : decode cX9_slide 159 = .ok (.iaload, 1) := by decide +kernel
theorem dX9_slide_160 : decode cX9_slide 160 = .ok (.iastore, 1) := by decide +kernel
theorem dX9_slide_161 : decode cX9_slide 161 = .ok (.aload_n 0, 1) := by decide +kernel
theorem dX9_slide_162 : decode cX9_slide 162 = .ok (.getfield 34, 3) := by decide +kernel
theorem dX9_slide_165 : decode cX9_slide 165 = .ok (.iload_n 3, 1) := by decide +kernel
theorem dX9_slide_166 : decode cX9_slide 166 = .ok (.aload_n 0, 1) := by decide +kernel
theorem dX9_slide_167 : decode cX9_slide 167 = .ok (.getfield 34, 3) := by decide +kernel
theorem dX9_slide_170 : decode cX9_slide 170 = .ok (.iload_n 1, 1) := by decide +kernel
theorem dX9_slide_171 : decode cX9_slide 171 = .ok (.baload, 1) := by decide +kernel
theorem dX9_slide_172 : decode cX9_slide 172 = .ok (.bastore, 1) := by decide +kernel
theorem dX9_slide_173 : decode cX9_slide 173 = .ok (.return_, 1) := by decide +kernel
theorem dX10_init_0 : decode cX10_init 0 = .ok (.aload_n 0, 1) := by decide +kernel
theorem dX10_init_1 : decode cX10_init 1 = .ok (.invokespecial 3, 3) := by decide +kernel
theorem dX10_init_4 : decode cX10_init 4 = .ok (.aload_n 0, 1) := by decide +kernel
theorem dX10_init_5 : decode cX10_init 5 = .ok (.new 9, 3) := by decide +kernel
theorem dX10_init_8 : decode cX10_init 8 = .ok (.dup, 1) := by decide +kernel
theorem dX10_init_9 : decode cX10_init 9 = .ok (.iconst 0, 1) := by decide +kernel
theorem dX10_init_10 : decode cX10_init 10 = .ok (.invokespecial 11, 3) := by decide +kernel
theorem dX10_init_13 : decode cX10_init 13 = .ok (.putfield 14, 3) := by decide +kernel
theorem dX10_init_16 : decode cX10_init 16 = .ok (.aload_n 0, 1) := by decide +kernel
theorem dX10_init_17 : decode cX10_init 17 = .ok (.new 9, 3) := by decide +kernel
theorem dX10_init_20 : decode cX10_init 20 = .ok (.dup, 1) := by decide +kernel
theorem dX10_init_21 : decode cX10_init 21 = .ok (.bipush 42, 2) := by decide +kernel
theorem dX10_init_23 : decode cX10_init 23 = .ok (.invokespecial 11, 3) := by decide +kernel
theorem dX10_init_26 : decode cX10_init 26 = .ok (.putfield 20, 3) := by decide +kernel
theorem dX10_init_29 : decode cX10_init 29 = .ok (.aload_n 0, 1) := by decide +kernel
theorem dX10_init_30 : decode cX10_init 30 = .ok (.aload_n 1, 1) := by decide +kernel
theorem dX10_init_31 : decode cX10_init 31 = .ok (.putfield 23, 3) := by decide +kernel
theorem dX10_init_34 : decode cX10_init 34 = .ok (.aload_n 0, 1) := by decide +kernel
theorem dX10_init_35 : decode cX10_init 35 = .ok (.aload_n 2, 1) := by decide +kernel
theorem dX10_init_36 : decode cX10_init 36 = .ok (.putfield 27, 3) := by decide +kernel
theorem dX10_init_39 : decode cX10_init 39 = .ok (.aload_n 0, 1) := by decide +kernel
theorem dX10_init_40 : decode cX10_init 40 = .ok (.aload_n 3, 1) := by decide +kernel
theorem dX10_init_41 : decode cX10_init 41 = .ok (.putfield 31, 3) := by decide +kernel
theorem dX10_init_44 : decode cX10_init 44 = .ok (.aload_n 0, 1) := by decide +kernel
theorem dX10_init_45 : decode cX10_init 45 = .ok (.aload 4, 2) := by decide +kernel
theorem dX10_init_47 : decode cX10_init 47 = .ok (.putfield 35, 3) := by decide +kernel
theorem dX10_init_50 : decode cX10_init 50 = .ok (.return_, 1) := by decide +kernel
theorem dX11_init_0 : decode cX11_init 0 = .ok (.aload_n 0, 1) := by decide +kernel
theorem dX11_init_1 : decode cX11_init 1 = .ok (.invokespecial 1, 3) := by decide +kernel
theorem dX11_init_4 : decode cX11_init 4 = .ok (.aload_n 0, 1) := by decide +kernel
theorem dX11_init_5 : decode cX11_init 5 = .ok (.new 7, 3) := by decide +kernel
theorem dX11_init_8 : decode cX11_init 8 = .ok (.dup, 1) := by decide +kernel
theorem dX11_init_9 : decode cX11_init 9 = .ok (.invokespecial 9, 3) := by decide +kernel
theorem dX11_init_12 : decode cX11_init 12 = .ok (.putfield 10, 3) := by decide +kernel
theorem dX11_init_15 : decode cX11_init 15 = .ok (.aload_n 0, 1) := by decide +kernel
theorem dX11_init_16 : decode cX11_init 16 = .ok (.new 16, 3) := by decide +kernel
theorem dX11_init_19 : decode cX11_init 19 = .ok (.dup, 1) := by decide +kernel
theorem dX11_init_20 : decode cX11_init 20 = .ok (.aload_n 0, 1) := by decide +kernel
theorem dX11_init_21 : decode cX11_init 21 = .ok (.getfield 10, 3) := by decide +kernel
theorem dX11_init_24 : decode cX11_init 24 = .ok (.invokespecial 18, 3) := by decide +kernel
theorem dX11_init_27 : decode cX11_init 27 = .ok (.putfield 21, 3) := by decide +kernel
theorem dX11_init_30 : decode cX11_init 30 = .ok (.aload_n 0, 1) := by decide +kernel
theorem dX11_init_31 : decode cX11_init 31 = .ok (.new 25, 3) := by decide +kernel
theorem dX11_init_34 : decode cX11_init 34 = .ok (.dup, 1) := by decide +kernel
theorem dX11_init_35 : decode cX11_init 35 = .ok (.aload_n 0, 1) := by decide +kernel
theorem dX11_init_36 : decode cX11_init 36 = .ok (.getfield 10, 3) := by decide +kernel
theorem dX11_init_39 : decode cX11_init 39 = .ok (.invokespecial 27, 3) := by decide +kernel
theorem dX11_init_42 : decode cX11_init 42 = .ok (.putfield 28, 3) := by decide +kernel
theorem dX11_init_45 : decode cX11_init 45 = .ok (.aload_n 0, 1) := by decide +kernel
theorem dX11_init_46 : decode cX11_init 46 = .ok (.new 32, 3) := by decide +kernel
theorem dX11_init_49 : decode cX11_init 49 = .ok (.dup, 1) := by decide +kernel
theorem dX11_init_50 : decode cX11_init 50 = .ok (.aload_n 0, 1) := by decide +kernel
theorem dX11_init_51 : decode cX11_init 51 = .ok (.getfield 10, 3) := by decide +kernel
theorem dX11_init_54 : decode cX11_init 54 = .ok (.aload_n 0, 1) := by decide +kernel
theorem dX11_init_55 : decode cX11_init 55 = .ok (.getfield 21, 3) := by decide +kernel
theorem dX11_init_58 : decode cX11_init 58 = .ok (.aload_n 0, 1) := by decide +kernel
theorem dX11_init_59 : decode cX11_init 59 = .ok (.getfield 28, 3) := by decide +kernel
theorem dX11_init_62 : decode cX11_init 62 = .ok (.invokespecial 34, 3) := by decide +kernel
theorem dX11_init_65 : decode cX11_init 65 = .ok (.putfield 37, 3) := by decide +kernel
theorem dX11_init_68 : decode cX11_init 68 = .ok (.aload_n 0, 1) := by decide +kernel
theorem dX11_init_69 : decode cX11_init 69 = .ok (.new 41, 3) := by decide +kernel
theorem dX11_init_72 : decode cX11_init 72 = .ok (.dup, 1) := by decide +kernel
theorem dX11_init_73 : decode cX11_init 73 = .ok (.aload_n 0, 1) := by decide +kernel
theorem dX11_init_74 : decode cX11_init 74 = .ok (.getfield 10, 3) := by decide +kernel
theorem dX11_init_77 : decode cX11_init 77 = .ok (.aload_n 0, 1) := by decide +kernel
theorem dX11_init_78 : decode cX11_init 78 = .ok (.getfield 21, 3) := by decide +kernel
theorem dX11_init_81 : decode cX11_init 81 = .ok (.aload_n 0, 1) := by decide +kernel
theorem dX11_init_82 : decode cX11_init 82 = .ok (.getfield 28, 3) := by decide +kernel
theorem dX11_init_85 : decode cX11_init 85 = .ok (.aload_n 0, 1) := by decide +kernel
theorem dX11_init_86 : decode cX11_init 86 = .ok (.getfield 37, 3) := by decide +kernel
theorem dX11_init_89 : decode cX11_init 89 = .ok (.invokespecial 43, 3) := by decide +kernel
theorem dX11_init_92 : decode cX11_init 92 = .ok (.putfield 46, 3) := by decide +kernel
theorem dX11_init_95 : decode cX11_init 95 = .ok (.aload_n 0, 1) := by decide +kernel
theorem dX11_init_96 : decode cX11_init 96 = .ok (.new 50, 3) := by decide +kernel
theorem dX11_init_99 : decode cX11_init 99 = .ok (.dup, 1) := by decide +kernel
theorem dX11_init_100 : decode cX11_init 100 = .ok (.aload_n 0, 1) := by decide +kernel
theorem dX11_init_101 : decode cX11_init 101 = .ok (.getfield 10, 3) := by decide +kernel
theorem dX11_init_104 : decode cX11_init 104 = .ok (.invokespecial 52, 3) := by decide +kernel
theorem dX11_init_107 : decode cX11_init 107 = .ok (.putfield 53, 3) := by decide +kernel
theorem dX11_init_110 : decode cX11_init 110 = .ok (.aload_n 0, 1) := by decide +kernel
theorem dX11_init_111 : decode cX11_init 111 = .ok (.new 57, 3) := by decide +kernel
theorem dX11_init_114 : decode cX11_init 114 = .ok (.dup, 1) := by decide +kernel
theorem dX11_init_115 : decode cX11_init 115 = .ok (.aload_n 0, 1) := by decide +kernel
theorem dX11_init_116 : decode cX11_init 116 = .ok (.getfield 10, 3) := by decide +kernel
theorem dX11_init_119 : decode cX11_init 119 = .ok (.aload_n 0, 1) := by decide +kernel
theorem dX11_init_120 : decode cX11_init 120 = .ok (.getfield 28, 3) := by decide +kernel
theorem dX11_init_123 : decode cX11_init 123 = .ok (.aload_n 0, 1) := by decide +kernel
theorem dX11_init_124 : decode cX11_init 124 = .ok (.getfield 37, 3) := by decide +kernel
theorem dX11_init_127 : decode cX11_init 127 = .ok (.invokespecial 59, 3) := by decide +kernel
theorem dX11_init_130 : decode cX11_init 130 = .ok (.putfield 62, 3) := by decide +kernel
theorem dX11_init_133 : decode cX11_init 133 = .ok (.aload_n 0, 1) := by decide +kernel
theorem dX11_init_134 : decode cX11_init 134 = .ok (.sipush 250, 3) := by decide +kernel
theorem dX11_init_137 : decode cX11_init 137 = .ok (.newarray .int, 2) := by decide +kernel
theorem dX11_init_139 : decode cX11_init 139 = .ok (.putfield 66, 3) := by decide +kernel
theorem dX11_init_142 : decode cX11_init 142 = .ok (.return_, 1) := by decide +kernel
