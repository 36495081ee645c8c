theorem dCM_sameParams_26 : decode cCM_sameParams 26 = .ok (.aload_n 0, 1) := by decide +kernel
theorem dCM_sameParams_27 : decode cCM_sameParams 27 = .ok (.getfield 38, 3) := by decide +kernel
theorem dCM_sameParams_30 : decode cCM_sameParams 30 = .ok (.iload_n 1, 1) := by decide +kernel
theorem dCM_sameParams_31 : decode cCM_sameParams 31 = .ok (.iaload, 1) := by decide +kernel
theorem dCM_sameParams_32 : decode cCM_sameParams 32 = .ok (.if_icmp .ge 44, 3) := by decide +kernel
theorem dCM_sameParams_35 : decode cCM_sameParams 35 = .ok (.iload_n 3, 1) := by decide +kernel
theorem dCM_sameParams_36 : decode cCM_sameParams 36 = .ok (.ifCond .eq 40, 3) := by decide +kernel
theorem dCM_sameParams_39 : decode cCM_sameParams 39 = .ok (.aload_n 0, 1) := by decide +kernel
theorem dCM_sameParams_40 : decode cCM_sameParams 40 = .ok (.getfield 41, 3) := by decide +kernel
theorem dCM_sameParams_43 : decode cCM_sameParams 43 = .ok (.iconst 4, 1) := by decide +kernel
theorem dCM_sameParams_44 : decode cCM_sameParams 44 = .ok (.iload_n 1, 1) := by decide +kernel
theorem dCM_sameParams_45 : decode cCM_sameParams 45 = .ok (.imul, 1) := by decide +kernel
theorem dCM_sameParams_46 : decode cCM_sameParams 46 = .ok (.iload 4, 2) := by decide +kernel
theorem dCM_sameParams_48 : decode cCM_sameParams 48 = .ok (.iadd, 1) := by decide +kernel
theorem dCM_sameParams_49 : decode cCM_sameParams 49 = .ok (.iaload, 1) := by decide +kernel
theorem dCM_sameParams_50 : decode cCM_sameParams 50 = .ok (.aload_n 0, 1) := by decide +kernel
theorem dCM_sameParams_51 : decode cCM_sameParams 51 = .ok (.getfield 41, 3) := by decide +kernel
theorem dCM_sameParams_54 : decode cCM_sameParams 54 = .ok (.iconst 4, 1) := by decide +kernel
theorem dCM_sameParams_55 : decode cCM_sameParams 55 = .ok (.iload_n 2, 1) := by decide +kernel
theorem dCM_sameParams_56 : decode cCM_sameParams 56 = .ok (.imul, 1) := by decide +kernel
theorem dCM_sameParams_57 : decode cCM_sameParams 57 = .ok (.iload 4, 2) := by decide +kernel
theorem dCM_sameParams_59 : decode cCM_sameParams 59 = .ok (.iadd, 1) := by decide +kernel
theorem dCM_sameParams_60 : decode cCM_sameParams 60 = .ok (.iaload, 1) := by decide +kernel
theorem dCM_sameParams_61 : decode cCM_sameParams 61 = .ok (.if_icmp .ne 7, 3) := by decide +kernel
theorem dCM_sameParams_64 : decode cCM_sameParams 64 = .ok (.iconst 1, 1) := by decide +kernel
theorem dCM_sameParams_65 : decode cCM_sameParams 65 = .ok (.goto 4, 3) := by decide +kernel
theorem dCM_sameParams_68 : decode cCM_sameParams 68 = .ok (.iconst 0, 1) := by decide +kernel
theorem dCM_sameParams_69 : decode cCM_sameParams 69 = .ok (.istore_n 3, 1) := by decide +kernel
theorem dCM_sameParams_70 : decode cCM_sameParams 70 = .ok (.iinc 4 1, 3) := by decide +kernel
theorem dCM_sameParams_73 : decode cCM_sameParams 73 = .ok (.goto (-49), 3) := by decide +kernel
theorem dCM_sameParams_76 : decode cCM_sameParams 76 = .ok (.iload_n 3, 1) := by decide +kernel
theorem dCM_sameParams_77 : decode cCM_sameParams 77 = .ok (.ireturn, 1) := by decide +kernel
theorem dCM_isSeen_0 : decode cCM_isSeen 0 = .ok (.aload_n 0, 1) := by decide +kernel
theorem dCM_isSeen_1 : decode cCM_isSeen 1 = .ok (.iload_n 2, 1) := by decide +kernel
theorem dCM_isSeen_2 : decode cCM_isSeen 2 = .ok (.aload_n 0, 1) := by decide +kernel
theorem dCM_isSeen_3 : decode cCM_isSeen 3 = .ok (.getfield 26, 3) := by decide +kernel
theorem dCM_isSeen_6 : decode cCM_isSeen 6 = .ok (.iload_n 1, 1) := by decide +kernel
theorem dCM_isSeen_7 : decode cCM_isSeen 7 = .ok (.iaload, 1) := by decide +kernel
theorem dCM_isSeen_8 : decode cCM_isSeen 8 = .ok (.invokevirtual 89, 3) := by decide +kernel
theorem dCM_isSeen_11 : decode cCM_isSeen 11 = .ok (.ifCond .eq 22, 3) := by decide +kernel
theorem dCM_isSeen_14 : decode cCM_isSeen 14 = .ok (.aload_n 0, 1) := by decide +kernel
theorem dCM_isSeen_15 : decode cCM_isSeen 15 = .ok (.iload_n 1, 1) := by decide +kernel
theorem dCM_isSeen_16 : decode cCM_isSeen 16 = .ok (.iconst 2, 1) := by decide +kernel
theorem dCM_isSeen_17 : decode cCM_isSeen 17 = .ok (.invokevirtual 117, 3) := by decide +kernel
theorem dCM_isSeen_20 : decode cCM_isSeen 20 = .ok (.ifCond .eq 15, 3) := by decide +kernel
theorem dCM_isSeen_23 : decode cCM_isSeen 23 = .ok (.aload_n 0, 1) := by decide +kernel
theorem dCM_isSeen_24 : decode cCM_isSeen 24 = .ok (.getfield 26, 3) := by decide +kernel
theorem dCM_isSeen_27 : decode cCM_isSeen 27 = .ok (.iload_n 1, 1) := by decide +kernel
theorem dCM_isSeen_28 : decode cCM_isSeen 28 = .ok (.iaload, 1) := by decide +kernel
theorem dCM_isSeen_29 : decode cCM_isSeen 29 = .ok (.iload_n 3, 1) := by decide +kernel
theorem dCM_isSeen_30 : decode cCM_isSeen 30 = .ok (.if_icmp .eq 5, 3) := by decide +kernel
theorem dCM_isSeen_33 : decode cCM_isSeen 33 = .ok (.iconst 0, 1) := by decide +kernel
theorem dCM_isSeen_34 : decode cCM_isSeen 34 = .ok (.ireturn, 1) := by decide +kernel
theorem dCM_isSeen_35 : decode cCM_isSeen 35 = .ok (.aload_n 0, 1) := by decide +kernel
theorem dCM_isSeen_36 : decode cCM_isSeen 36 = .ok (.iload_n 1, 1) := by decide +kernel
theorem dCM_isSeen_37 : decode cCM_isSeen 37 = .ok (.iconst 1, 1) := by decide +kernel
theorem dCM_isSeen_38 : decode cCM_isSeen 38 = .ok (.invokevirtual 117, 3) := by decide +kernel
theorem dCM_isSeen_41 : decode cCM_isSeen 41 = .ok (.ifCond .ne 12, 3) := by decide +kernel
theorem dCM_isSeen_44 : decode cCM_isSeen 44 = .ok (.aload_n 0, 1) := by decide +kernel
theorem dCM_isSeen_45 : decode cCM_isSeen 45 = .ok (.iload_n 1, 1) := by decide +kernel
theorem dCM_isSeen_46 : decode cCM_isSeen 46 = .ok (.iconst 2, 1) := by decide +kernel
theorem dCM_isSeen_47 : decode cCM_isSeen 47 = .ok (.invokevirtual 117, 3) := by decide +kernel
theorem dCM_isSeen_50 : decode cCM_isSeen 50 = .ok (.ifCond .eq 5, 3) := by decide +kernel
theorem dCM_isSeen_53 : decode cCM_isSeen 53 = .ok (.iconst 1, 1) := by decide +kernel
theorem dCM_isSeen_54 : decode cCM_isSeen 54 = .ok (.ireturn, 1) := by decide +kernel
theorem dCM_isSeen_55 : decode cCM_isSeen 55 = .ok (.iconst 0, 1) := by decide +kernel
theorem dCM_isSeen_56 : decode cCM_isSeen 56 = .ok (.istore 4, 2) := by decide +kernel
theorem dCM_isSeen_58 : decode cCM_isSeen 58 = .ok (.iload 4, 2) := by decide +kernel
theorem dCM_isSeen_60 : decode cCM_isSeen 60 = .ok (.aload_n 0, 1) := by decide +kernel
theorem dCM_isSeen_61 : decode cCM_isSeen 61 = .ok (.getfield 110, 3) := by decide +kernel
theorem dCM_isSeen_64 : decode cCM_isSeen 64 = .ok (.if_icmp .ge 120, 3) := by decide +kernel
theorem dCM_isSeen_67 : decode cCM_isSeen 67 = .ok (.aload_n 0, 1) := by decide +kernel
theorem dCM_isSeen_68 : decode cCM_isSeen 68 = .ok (.getfield 26, 3) := by decide +kernel
theorem dCM_isSeen_71 : decode cCM_isSeen 71 = .ok (.iload 4, 2) := by decide +kernel
theorem dCM_isSeen_73 : decode cCM_isSeen 73 = .ok (.iaload, 1) := by decide +kernel
theorem dCM_isSeen_74 : decode cCM_isSeen 74 = .ok (.aload_n 0, 1) := by decide +kernel
theorem dCM_isSeen_75 : decode cCM_isSeen 75 = .ok (.getfield 26, 3) := by decide +kernel
theorem dCM_isSeen_78 : decode cCM_isSeen 78 = .ok (.iload_n 1, 1) := by decide +kernel
theorem dCM_isSeen_79 : decode cCM_isSeen 79 = .ok (.iaload, 1) := by decide +kernel
theorem dCM_isSeen_80 : decode cCM_isSeen 80 = .ok (.if_icmp .eq 53, 3) := by decide +kernel
theorem dCM_isSeen_83 : decode cCM_isSeen 83 = .ok (.aload_n 0, 1) := by decide +kernel
theorem dCM_isSeen_84 : decode cCM_isSeen 84 = .ok (.getfield 29, 3) := by decide +kernel
theorem dCM_isSeen_87 : decode cCM_isSeen 87 = .ok (.iload 4, 2) := by decide +kernel
theorem dCM_isSeen_89 : decode cCM_isSeen 89 = .ok (.iaload, 1) := by decide +kernel
theorem dCM_isSeen_90 : decode cCM_isSeen 90 = .ok (.aload_n 0, 1) := by decide +kernel
theorem dCM_isSeen_91 : decode cCM_isSeen 91 = .ok (.getfield 29, 3) := by decide +kernel
theorem dCM_isSeen_94 : decode cCM_isSeen 94 = .ok (.iload_n 1, 1) := by decide +kernel
theorem dCM_isSeen_95 : decode cCM_isSeen 95 = .ok (.iaload, 1) := by decide +kernel
theorem dCM_isSeen_96 : decode cCM_isSeen 96 = .ok (.if_icmp .ne 37, 3) := by decide +kernel
theorem dCM_isSeen_99 : decode cCM_isSeen 99 = .ok (.aload_n 0, 1) := by decide +kernel
theorem dCM_isSeen_100 : decode cCM_isSeen 100 = .ok (.iload 4, 2) := by decide +kernel
theorem dCM_isSeen_102 : decode cCM_isSeen 102 = .ok (.iconst 1, 1) := by decide +kernel
theorem dCM_isSeen_103 : decode cCM_isSeen 103 = .ok (.invokevirtual 117, 3) := by decide +kernel
theorem dCM_isSeen_106 : decode cCM_isSeen 106 = .ok (.ifCond .ne 27, 3) := by decide +kernel
theorem dCM_isSeen_109 : decode cCM_isSeen 109 = .ok (.aload_n 0, 1) := by decide +kernel
theorem dCM_isSeen_110 : decode cCM_isSeen 110 = .ok (.iload 4, 2) := by decide +kernel
theorem dCM_isSeen_112 : decode cCM_isSeen 112 = .ok (.iconst 2, 1) := by decide +kernel
theorem dCM_isSeen_113 : decode cCM_isSeen 113 = .ok (.invokevirtual 117, 3) := by decide +kernel
theorem dCM_isSeen_116 : decode cCM_isSeen 116 = .ok (.ifCond .ne 17, 3) := by decide +kernel
theorem dCM_isSeen_119 : decode cCM_isSeen 119 = .ok (.aload_n 0, 1) := by decide +kernel
theorem dCM_isSeen_120 : decode cCM_isSeen 120 = .ok (.iload_n 1, 1) := by decide +kernel
theorem dCM_isSeen_121 : decode cCM_isSeen 121 = .ok (.iload 4, 2) := by decide +kernel
theorem dCM_isSeen_123 : decode cCM_isSeen 123 = .ok (.invokevirtual 120, 3) := by decide +kernel
theorem dCM_isSeen_126 : decode cCM_isSeen 126 = .ok (.ifCond .eq 7, 3) := by decide +kernel
theorem dCM_isSeen_129 : decode cCM_isSeen 129 = .ok (.iconst 1, 1) := by decide +kernel
theorem dCM_isSeen_130 : decode cCM_isSeen 130 = .ok (.goto 4, 3) := by decide +kernel
theorem dCM_isSeen_133 : decode cCM_isSeen 133 = .ok (.iconst 0, 1) := by decide +kernel
theorem dCM_isSeen_134 : decode cCM_isSeen 134 = .ok (.istore 5, 2) := by decide +kernel
theorem dCM_isSeen_136 : decode cCM_isSeen 136 = .ok (.iload 5, 2) := by decide +kernel
theorem dCM_isSeen_138 : decode cCM_isSeen 138 = .ok (.ifCond .eq 40, 3) := by decide +kernel
theorem dCM_isSeen_141 : decode cCM_isSeen 141 = .ok (.aload_n 0, 1) := by decide +kernel
theorem dCM_isSeen_142 : decode cCM_isSeen 142 = .ok (.iload_n 2, 1) := by decide +kernel
theorem dCM_isSeen_143 : decode cCM_isSeen 143 = .ok (.aload_n 0, 1) := by decide +kernel
theorem dCM_isSeen_144 : decode cCM_isSeen 144 = .ok (.getfield 26, 3) := by decide +kernel
theorem dCM_isSeen_147 : decode cCM_isSeen 147 = .ok (.iload 4, 2) := by decide +kernel
theorem dCM_isSeen_149 : decode cCM_isSeen 149 = .ok (.iaload, 1) := by decide +kernel
theorem dCM_isSeen_150 : decode cCM_isSeen 150 = .ok (.invokevirtual 89, 3) := by decide +kernel
theorem dCM_isSeen_153 : decode cCM_isSeen 153 = .ok (.ifCond .eq 25, 3) := by decide +kernel
theorem dCM_isSeen_156 : decode cCM_isSeen 156 = .ok (.aload_n 0, 1) := by decide +kernel
theorem dCM_isSeen_157 : decode cCM_isSeen 157 = .ok (.aload_n 0, 1) := by decide +kernel
theorem dCM_isSeen_158 : decode cCM_isSeen 158 = .ok (.getfield 26, 3) := by decide +kernel
theorem dCM_isSeen_161 : decode cCM_isSeen 161 = .ok (.iload 4, 2) := by decide +kernel
theorem dCM_isSeen_163 : decode cCM_isSeen 163 = .ok (.iaload, 1) := by decide +kernel
theorem dCM_isSeen_164 : decode cCM_isSeen 164 = .ok (.aload_n 0, 1) := by decide +kernel
theorem dCM_isSeen_165 : decode cCM_isSeen 165 = .ok (.getfield 26, 3) := by decide +kernel
theorem dCM_isSeen_168 : decode cCM_isSeen 168 = .ok (.iload_n 1, 1) := by decide +kernel
theorem dCM_isSeen_169 : decode cCM_isSeen 169 = .ok (.iaload, 1) := by decide +kernel
theorem dCM_isSeen_170 : decode cCM_isSeen 170 = .ok (.invokevirtual 89, 3) := by decide +kernel
theorem dCM_isSeen_173 : decode cCM_isSeen 173 = .ok (.ifCond .eq 5, 3) := by decide +kernel
theorem dCM_isSeen_176 : decode cCM_isSeen 176 = .ok (.iconst 0, 1) := by decide +kernel
theorem dCM_isSeen_177 : decode cCM_isSeen 177 = .ok (.ireturn, 1) := by decide +kernel
theorem dCM_isSeen_178 : decode cCM_isSeen 178 = .ok (.iinc 4 1, 3) := by decide +kernel
theorem dCM_isSeen_181 : decode cCM_isSeen 181 = .ok (.goto (-123), 3) := by decide +kernel
theorem dCM_isSeen_184 : decode cCM_isSeen 184 = .ok (.iconst 1, 1) := by decide +kernel
theorem dCM_isSeen_185 : decode cCM_isSeen 185 = .ok (.ireturn, 1) := by decide +kernel
theorem dCM_findFunction_0 : decode cCM_findFunction 0 = .ok (.iconst (-1), 1) := by decide +kernel
theorem dCM_findFunction_1 : decode cCM_findFunction 1 = .ok (.istore_n 2, 1) := by decide +kernel
theorem dCM_findFunction_2 : decode cCM_findFunction 2 = .ok (.iconst 0, 1) := by decide +kernel
theorem dCM_findFunction_3 : decode cCM_findFunction 3 = .ok (.istore_n 3, 1) := by decide +kernel
theorem dCM_findFunction_4 : decode cCM_findFunction 4 = .ok (.iload_n 3, 1) := by decide +kernel
theorem dCM_findFunction_5 : decode cCM_findFunction 5 = .ok (.aload_n 0, 1) := by decide +kernel
theorem dCM_findFunction_6 : decode cCM_findFunction 6 = .ok (.getfield 110, 3) := by decide +kernel
theorem dCM_findFunction_9 : decode cCM_findFunction 9 = .ok (.if_icmp .ge 68, 3) := by decide +kernel
theorem dCM_findFunction_12 : decode cCM_findFunction 12 = .ok (.aload_n 0, 1) := by decide +kernel
theorem dCM_findFunction_13 : decode cCM_findFunction 13 = .ok (.iload_n 3, 1) := by decide +kernel
theorem dCM_findFunction_14 : decode cCM_findFunction 14 = .ok (.iconst 4, 1) := by decide +kernel
theorem dCM_findFunction_15 : decode cCM_findFunction 15 = .ok (.invokevirtual 117, 3) := by decide +kernel
theorem dCM_findFunction_18 : decode cCM_findFunction 18 = .ok (.ifCond .eq 53, 3) := by decide +kernel
theorem dCM_findFunction_21 : decode cCM_findFunction 21 = .ok (.aload_n 0, 1) := by decide +kernel
theorem dCM_findFunction_22 : decode cCM_findFunction 22 = .ok (.iload_n 3, 1) := by decide +kernel
theorem dCM_findFunction_23 : decode cCM_findFunction 23 = .ok (.iload_n 1, 1) := by decide +kernel
theorem dCM_findFunction_24 : decode cCM_findFunction 24 = .ok (.iload_n 1, 1) := by decide +kernel
theorem dCM_findFunction_25 : decode cCM_findFunction 25 = .ok (.invokevirtual 127, 3) := by decide +kernel
theorem dCM_findFunction_28 : decode cCM_findFunction 28 = .ok (.ifCond .eq 43, 3) := by decide +kernel
theorem dCM_findFunction_31 : decode cCM_findFunction 31 = .ok (.iload_n 2, 1) := by decide +kernel
theorem dCM_findFunction_32 : decode cCM_findFunction 32 = .ok (.ifCond .lt 29, 3) := by decide +kernel
theorem dCM_findFunction_35 : decode cCM_findFunction 35 = .ok (.aload_n 0, 1) := by decide +kernel
theorem dCM_findFunction_36 : decode cCM_findFunction 36 = .ok (.getfield 29, 3) := by decide +kernel
theorem dCM_findFunction_39 : decode cCM_findFunction 39 = .ok (.iload_n 3, 1) := by decide +kernel
theorem dCM_findFunction_40 : decode cCM_findFunction 40 = .ok (.iaload, 1) := by decide +kernel
theorem dCM_findFunction_41 : decode cCM_findFunction 41 = .ok (.aload_n 0, 1) := by decide +kernel
theorem dCM_findFunction_42 : decode cCM_findFunction 42 = .ok (.getfield 29, 3) := by decide +kernel
theorem dCM_findFunction_45 : decode cCM_findFunction 45 = .ok (.iload_n 2, 1) := by decide +kernel
theorem dCM_findFunction_46 : decode cCM_findFunction 46 = .ok (.iaload, 1) := by decide +kernel
theorem dCM_findFunction_47 : decode cCM_findFunction 47 = .ok (.if_icmp .ne 12, 3) := by decide +kernel
theorem dCM_findFunction_50 : decode cCM_findFunction 50 = .ok (.aload_n 0, 1) := by decide +kernel
theorem dCM_findFunction_51 : decode cCM_findFunction 51 = .ok (.iload_n 3, 1) := by decide +kernel
theorem dCM_findFunction_52 : decode cCM_findFunction 52 = .ok (.iload_n 2, 1) := by decide +kernel
theorem dCM_findFunction_53 : decode cCM_findFunction 53 = .ok (.invokevirtual 120, 3) := by decide +kernel
theorem dCM_findFunction_56 : decode cCM_findFunction 56 = .ok (.ifCond .ne 5, 3) := by decide +kernel
theorem dCM_findFunction_59 : decode cCM_findFunction 59 = .ok (.iconst (-1), 1) := by decide +kernel
theorem dCM_findFunction_60 : decode cCM_findFunction 60 = .ok (.ireturn, 1) := by decide +kernel
theorem dCM_findFunction_61 : decode cCM_findFunction 61 = .ok (.iload_n 2, 1) := by decide +kernel
theorem dCM_findFunction_62 : decode cCM_findFunction 62 = .ok (.ifCond .ge 7, 3) := by decide +kernel
theorem dCM_findFunction_65 : decode cCM_findFunction 65 = .ok (.iload_n 3, 1) := by decide +kernel
theorem dCM_findFunction_66 : decode cCM_findFunction 66 = .ok (.goto 4, 3) := by decide +kernel
theorem dCM_findFunction_69 : decode cCM_findFunction 69 = .ok (.iload_n 2, 1) := by decide +kernel
theorem dCM_findFunction_70 : decode cCM_findFunction 70 = .ok (.istore_n 2, 1) := by decide +kernel
theorem dCM_findFunction_71 : decode cCM_findFunction 71 = .ok (.iinc 3 1, 3) := by decide +kernel
theorem dCM_findFunction_74 : decode cCM_findFunction 74 = .ok (.goto (-70), 3) := by decide +kernel
theorem dCM_findFunction_77 : decode cCM_findFunction 77 = .ok (.iload_n 2, 1) := by decide +kernel
theorem dCM_findFunction_78 : decode cCM_findFunction 78 = .ok (.ireturn, 1) := by decide +kernel
theorem dCM_functionOf_0 : decode cCM_functionOf 0 = .ok (.aload_n 0, 1) := by decide +kernel
theorem dCM_functionOf_1 : decode cCM_functionOf 1 = .ok (.iload_n 1, 1) := by decide +kernel
theorem dCM_functionOf_2 : decode cCM_functionOf 2 = .ok (.invokevirtual 72, 3) := by decide +kernel
theorem dCM_functionOf_5 : decode cCM_functionOf 5 = .ok (.ifCond .eq 15, 3) := by decide +kernel
theorem dCM_functionOf_8 : decode cCM_functionOf 8 = .ok (.aload_n 0, 1) := by decide +kernel
theorem dCM_functionOf_9 : decode cCM_functionOf 9 = .ok (.getfield 7, 3) := by decide +kernel
theorem dCM_functionOf_12 : decode cCM_functionOf 12 = .ok (.iload_n 1, 1) := by decide +kernel
theorem dCM_functionOf_13 : decode cCM_functionOf 13 = .ok (.bipush 16, 2) := by decide +kernel
theorem dCM_functionOf_15 : decode cCM_functionOf 15 = .ok (.isub, 1) := by decide +kernel
theorem dCM_functionOf_16 : decode cCM_functionOf 16 = .ok (.baload, 1) := by decide +kernel
theorem dCM_functionOf_17 : decode cCM_functionOf 17 = .ok (.ifCond .ne 5, 3) := by decide +kernel
theorem dCM_functionOf_20 : decode cCM_functionOf 20 = .ok (.iconst (-1), 1) := by decide +kernel
theorem dCM_functionOf_21 : decode cCM_functionOf 21 = .ok (.ireturn, 1) := by decide +kernel
theorem dCM_functionOf_22 : decode cCM_functionOf 22 = .ok (.aload_n 0, 1) := by decide +kernel
theorem dCM_functionOf_23 : decode cCM_functionOf 23 = .ok (.getfield 65, 3) := by decide +kernel
theorem dCM_functionOf_26 : decode cCM_functionOf 26 = .ok (.iload_n 1, 1) := by decide +kernel
theorem dCM_functionOf_27 : decode cCM_functionOf 27 = .ok (.bipush 16, 2) := by decide +kernel
theorem dCM_functionOf_29 : decode cCM_functionOf 29 = .ok (.isub, 1) := by decide +kernel
theorem dCM_functionOf_30 : decode cCM_functionOf 30 = .ok (.iaload, 1) := by decide +kernel
theorem dCM_functionOf_31 : decode cCM_functionOf 31 = .ok (.bipush (-2), 2) := by decide +kernel
theorem dCM_functionOf_33 : decode cCM_functionOf 33 = .ok (.if_icmp .ne 17, 3) := by decide +kernel
theorem dCM_functionOf_36 : decode cCM_functionOf 36 = .ok (.aload_n 0, 1) := by decide +kernel
theorem dCM_functionOf_37 : decode cCM_functionOf 37 = .ok (.getfield 65, 3) := by decide +kernel
theorem dCM_functionOf_40 : decode cCM_functionOf 40 = .ok (.iload_n 1, 1) := by decide +kernel
theorem dCM_functionOf_41 : decode cCM_functionOf 41 = .ok (.bipush 16, 2) := by decide +kernel
theorem dCM_functionOf_43 : decode cCM_functionOf 43 = .ok (.isub, 1) := by decide +kernel
theorem dCM_functionOf_44 : decode cCM_functionOf 44 = .ok (.aload_n 0, 1) := by decide +kernel
theorem dCM_functionOf_45 : decode cCM_functionOf 45 = .ok (.iload_n 1, 1) := by decide +kernel
theorem dCM_functionOf_46 : decode cCM_functionOf 46 = .ok (.invokevirtual 123, 3) := by decide +kernel
theorem dCM_functionOf_49 : decode cCM_functionOf 49 = .ok (.iastore, 1) := by decide +kernel
theorem dCM_functionOf_50 : decode cCM_functionOf 50 = .ok (.aload_n 0, 1) := by decide +kernel
theorem dCM_functionOf_51 : decode cCM_functionOf 51 = .ok (.getfield 65, 3) := by decide +kernel
theorem dCM_functionOf_54 : decode cCM_functionOf 54 = .ok (.iload_n 1, 1) := by decide +kernel
theorem dCM_functionOf_55 : decode cCM_functionOf 55 = .ok (.bipush 16, 2) := by decide +kernel
theorem dCM_functionOf_57 : decode cCM_functionOf 57 = .ok (.isub, 1) := by decide +kernel
theorem dCM_functionOf_58 : decode cCM_functionOf 58 = .ok (.iaload, 1) := by decide +kernel
theorem dCM_functionOf_59 : decode cCM_functionOf 59 = .ok (.ireturn, 1) := by decide +kernel
theorem dCM_function_0 : decode cCM_function 0 = .ok (.aload_n 0, 1) := by decide +kernel
theorem dCM_function_1 : decode cCM_function 1 = .ok (.iload_n 1, 1) := by decide +kernel
theorem dCM_function_2 : decode cCM_function 2 = .ok (.invokevirtual 98, 3) := by decide +kernel
theorem dCM_function_5 : decode cCM_function 5 = .ok (.ifCond .eq 11, 3) := by decide +kernel
theorem dCM_function_8 : decode cCM_function 8 = .ok (.aload_n 0, 1) := by decide +kernel
theorem dCM_function_9 : decode cCM_function 9 = .ok (.iload_n 1, 1) := by decide +kernel
theorem dCM_function_10 : decode cCM_function 10 = .ok (.invokevirtual 131, 3) := by decide +kernel
theorem dCM_function_13 : decode cCM_function 13 = .ok (.goto 5, 3) := by decide +kernel
theorem dCM_function_16 : decode cCM_function 16 = .ok (.bipush (-2), 2) := by decide +kernel
theorem dCM_function_18 : decode cCM_function 18 = .ok (.ireturn, 1) := by decide +kernel
theorem dCM_isAsked_0 : decode cCM_isAsked 0 = .ok (.aload_n 0, 1) := by decide +kernel
theorem dCM_isAsked_1 : decode cCM_isAsked 1 = .ok (.iload_n 1, 1) := by decide +kernel
theorem dCM_isAsked_2 : decode cCM_isAsked 2 = .ok (.invokevirtual 72, 3) := by decide +kernel
theorem dCM_isAsked_5 : decode cCM_isAsked 5 = .ok (.ifCond .eq 27, 3) := by decide +kernel
theorem dCM_isAsked_8 : decode cCM_isAsked 8 = .ok (.iload_n 2, 1) := by decide +kernel
theorem dCM_isAsked_9 : decode cCM_isAsked 9 = .ok (.invokestatic 104, 3) := by decide +kernel
theorem dCM_isAsked_12 : decode cCM_isAsked 12 = .ok (.ifCond .eq 20, 3) := by decide +kernel
theorem dCM_isAsked_15 : decode cCM_isAsked 15 = .ok (.iload_n 3, 1) := by decide +kernel
theorem dCM_isAsked_16 : decode cCM_isAsked 16 = .ok (.iconst (-1), 1) := by decide +kernel
theorem dCM_isAsked_17 : decode cCM_isAsked 17 = .ok (.if_icmp .eq 11, 3) := by decide +kernel
theorem dCM_isAsked_20 : decode cCM_isAsked 20 = .ok (.aload_n 0, 1) := by decide +kernel
theorem dCM_isAsked_21 : decode cCM_isAsked 21 = .ok (.iload_n 3, 1) := by decide +kernel
theorem dCM_isAsked_22 : decode cCM_isAsked 22 = .ok (.invokevirtual 72, 3) := by decide +kernel
theorem dCM_isAsked_25 : decode cCM_isAsked 25 = .ok (.ifCond .eq 7, 3) := by decide +kernel
theorem dCM_isAsked_28 : decode cCM_isAsked 28 = .ok (.iconst 1, 1) := by decide +kernel
theorem dCM_isAsked_29 : decode cCM_isAsked 29 = .ok (.goto 4, 3) := by decide +kernel
theorem dCM_isAsked_32 : decode cCM_isAsked 32 = .ok (.iconst 0, 1) := by decide +kernel
theorem dCM_isAsked_33 : decode cCM_isAsked 33 = .ok (.ireturn, 1) := by decide +kernel
theorem dCM_seen_0 : decode cCM_seen 0 = .ok (.aload_n 0, 1) := by decide +kernel
theorem dCM_seen_1 : decode cCM_seen 1 = .ok (.iload_n 1, 1) := by decide +kernel
theorem dCM_seen_2 : decode cCM_seen 2 = .ok (.iload_n 2, 1) := by decide +kernel
theorem dCM_seen_3 : decode cCM_seen 3 = .ok (.iload_n 3, 1) := by decide +kernel
theorem dCM_seen_4 : decode cCM_seen 4 = .ok (.invokevirtual 134, 3) := by decide +kernel
theorem dCM_seen_7 : decode cCM_seen 7 = .ok (.ifCond .ne 6, 3) := by decide +kernel
theorem dCM_seen_10 : decode cCM_seen 10 = .ok (.bipush (-2), 2) := by decide +kernel
theorem dCM_seen_12 : decode cCM_seen 12 = .ok (.ireturn, 1) := by decide +kernel
theorem dCM_seen_13 : decode cCM_seen 13 = .ok (.iconst 0, 1) := by decide +kernel
theorem dCM_seen_14 : decode cCM_seen 14 = .ok (.istore 4, 2) := by decide +kernel
theorem dCM_seen_16 : decode cCM_seen 16 = .ok (.iconst 0, 1) := by decide +kernel
theorem dCM_seen_17 : decode cCM_seen 17 = .ok (.istore 5, 2) := by decide +kernel
theorem dCM_seen_19 : decode cCM_seen 19 = .ok (.iload 5, 2) := by decide +kernel
theorem dCM_seen_21 : decode cCM_seen 21 = .ok (.aload_n 0, 1) := by decide +kernel
theorem dCM_seen_22 : decode cCM_seen 22 = .ok (.getfield 110, 3) := by decide +kernel
theorem dCM_seen_25 : decode cCM_seen 25 = .ok (.if_icmp .ge 41, 3) := by decide +kernel
theorem dCM_seen_28 : decode cCM_seen 28 = .ok (.iload 4, 2) := by decide +kernel
theorem dCM_seen_30 : decode cCM_seen 30 = .ok (.aload_n 0, 1) := by decide +kernel
theorem dCM_seen_31 : decode cCM_seen 31 = .ok (.getfield 29, 3) := by decide +kernel
theorem dCM_seen_34 : decode cCM_seen 34 = .ok (.iload 5, 2) := by decide +kernel
theorem dCM_seen_36 : decode cCM_seen 36 = .ok (.iaload, 1) := by decide +kernel
theorem dCM_seen_37 : decode cCM_seen 37 = .ok (.iload_n 2, 1) := by decide +kernel
theorem dCM_seen_38 : decode cCM_seen 38 = .ok (.if_icmp .ne 18, 3) := by decide +kernel
theorem dCM_seen_41 : decode cCM_seen 41 = .ok (.aload_n 0, 1) := by decide +kernel
theorem dCM_seen_42 : decode cCM_seen 42 = .ok (.iload 5, 2) := by decide +kernel
theorem dCM_seen_44 : decode cCM_seen 44 = .ok (.iload_n 1, 1) := by decide +kernel
theorem dCM_seen_45 : decode cCM_seen 45 = .ok (.iload_n 3, 1) := by decide +kernel
theorem dCM_seen_46 : decode cCM_seen 46 = .ok (.invokevirtual 127, 3) := by decide +kernel
theorem dCM_seen_49 : decode cCM_seen 49 = .ok (.ifCond .eq 7, 3) := by decide +kernel
theorem dCM_seen_52 : decode cCM_seen 52 = .ok (.iconst 1, 1) := by decide +kernel
theorem dCM_seen_53 : decode cCM_seen 53 = .ok (.goto 4, 3) := by decide +kernel
theorem dCM_seen_56 : decode cCM_seen 56 = .ok (.iconst 0, 1) := by decide +kernel
theorem dCM_seen_57 : decode cCM_seen 57 = .ok (.iadd, 1) := by decide +kernel
theorem dCM_seen_58 : decode cCM_seen 58 = .ok (.istore 4, 2) := by decide +kernel
theorem dCM_seen_60 : decode cCM_seen 60 = .ok (.iinc 5 1, 3) := by decide +kernel
theorem dCM_seen_63 : decode cCM_seen 63 = .ok (.goto (-44), 3) := by decide +kernel
theorem dCM_seen_66 : decode cCM_seen 66 = .ok (.iload 4, 2) := by decide +kernel
theorem dCM_seen_68 : decode cCM_seen 68 = .ok (.ireturn, 1) := by decide +kernel
theorem dCM_seenAt_0 : decode cCM_seenAt 0 = .ok (.aload_n 0, 1) := by decide +kernel
theorem dCM_seenAt_1 : decode cCM_seenAt 1 = .ok (.iload_n 1, 1) := by decide +kernel
theorem dCM_seenAt_2 : decode cCM_seenAt 2 = .ok (.iload_n 2, 1) := by decide +kernel
theorem dCM_seenAt_3 : decode cCM_seenAt 3 = .ok (.iload_n 3, 1) := by decide +kernel
theorem dCM_seenAt_4 : decode cCM_seenAt 4 = .ok (.invokevirtual 134, 3) := by decide +kernel
theorem dCM_seenAt_7 : decode cCM_seenAt 7 = .ok (.ifCond .ne 6, 3) := by decide +kernel
theorem dCM_seenAt_10 : decode cCM_seenAt 10 = .ok (.bipush (-2), 2) := by decide +kernel
theorem dCM_seenAt_12 : decode cCM_seenAt 12 = .ok (.ireturn, 1) := by decide +kernel
theorem dCM_seenAt_13 : decode cCM_seenAt 13 = .ok (.iconst 0, 1) := by decide +kernel
theorem dCM_seenAt_14 : decode cCM_seenAt 14 = .ok (.istore 5, 2) := by decide +kernel
theorem dCM_seenAt_16 : decode cCM_seenAt 16 = .ok (.iconst 0, 1) := by decide +kernel
theorem dCM_seenAt_17 : decode cCM_seenAt 17 = .ok (.istore 6, 2) := by decide +kernel
theorem dCM_seenAt_19 : decode cCM_seenAt 19 = .ok (.iload 6, 2) := by decide +kernel
theorem dCM_seenAt_21 : decode cCM_seenAt 21 = .ok (.aload_n 0, 1) := by decide +kernel
theorem dCM_seenAt_22 : decode cCM_seenAt 22 = .ok (.getfield 110, 3) := by decide +kernel
theorem dCM_seenAt_25 : decode cCM_seenAt 25 = .ok (.if_icmp .ge 44, 3) := by decide +kernel
theorem dCM_seenAt_28 : decode cCM_seenAt 28 = .ok (.aload_n 0, 1) := by decide +kernel
theorem dCM_seenAt_29 : decode cCM_seenAt 29 = .ok (.getfield 29, 3) := by decide +kernel
theorem dCM_seenAt_32 : decode cCM_seenAt 32 = .ok (.iload 6, 2) := by decide +kernel
theorem dCM_seenAt_34 : decode cCM_seenAt 34 = .ok (.iaload, 1) := by decide +kernel
theorem dCM_seenAt_35 : decode cCM_seenAt 35 = .ok (.iload_n 2, 1) := by decide +kernel
theorem dCM_seenAt_36 : decode cCM_seenAt 36 = .ok (.if_icmp .ne 27, 3) := by decide +kernel
theorem dCM_seenAt_39 : decode cCM_seenAt 39 = .ok (.aload_n 0, 1) := by decide +kernel
theorem dCM_seenAt_40 : decode cCM_seenAt 40 = .ok (.iload 6, 2) := by decide +kernel
theorem dCM_seenAt_42 : decode cCM_seenAt 42 = .ok (.iload_n 1, 1) := by decide +kernel
theorem dCM_seenAt_43 : decode cCM_seenAt 43 = .ok (.iload_n 3, 1) := by decide +kernel
theorem dCM_seenAt_44 : decode cCM_seenAt 44 = .ok (.invokevirtual 127, 3) := by decide +kernel
theorem dCM_seenAt_47 : decode cCM_seenAt 47 = .ok (.ifCond .eq 16, 3) := by decide +kernel
theorem dCM_seenAt_50 : decode cCM_seenAt 50 = .ok (.iload 5, 2) := by decide +kernel
theorem dCM_seenAt_52 : decode cCM_seenAt 52 = .ok (.iload 4, 2) := by decide +kernel
theorem dCM_seenAt_54 : decode cCM_seenAt 54 = .ok (.if_icmp .ne 6, 3) := by decide +kernel
theorem dCM_seenAt_57 : decode cCM_seenAt 57 = .ok (.iload 6, 2) := by decide +kernel
theorem dCM_seenAt_59 : decode cCM_seenAt 59 = .ok (.ireturn, 1) := by decide +kernel
theorem dCM_seenAt_60 : decode cCM_seenAt 60 = .ok (.iinc 5 1, 3) := by decide +kernel
theorem dCM_seenAt_63 : decode cCM_seenAt 63 = .ok (.iinc 6 1, 3) := by decide +kernel
theorem dCM_seenAt_66 : decode cCM_seenAt 66 = .ok (.goto (-47), 3) := by decide +kernel
theorem dCM_seenAt_69 : decode cCM_seenAt 69 = .ok (.iconst (-1), 1) := by decide +kernel
theorem dCM_seenAt_70 : decode cCM_seenAt 70 = .ok (.ireturn, 1) := by decide +kernel
theorem dCM_argument_0 : decode cCM_argument 0 = .ok (.aload_n 0, 1) := by decide +kernel
theorem dCM_argument_1 : decode cCM_argument 1 = .ok (.iload_n 1, 1) := by decide +kernel
theorem dCM_argument_2 : decode cCM_argument 2 = .ok (.invokevirtual 98, 3) := by decide +kernel
theorem dCM_argument_5 : decode cCM_argument 5 = .ok (.ifCond .eq 11, 3) := by decide +kernel
theorem dCM_argument_8 : decode cCM_argument 8 = .ok (.aload_n 0, 1) := by decide +kernel
theorem dCM_argument_9 : decode cCM_argument 9 = .ok (.getfield 137, 3) := by decide +kernel
theorem dCM_argument_12 : decode cCM_argument 12 = .ok (.iconst 5, 1) := by decide +kernel
theorem dCM_argument_13 : decode cCM_argument 13 = .ok (.if_icmp .ne 6, 3) := by decide +kernel
theorem dCM_argument_16 : decode cCM_argument 16 = .ok (.bipush (-2), 2) := by decide +kernel
theorem dCM_argument_18 : decode cCM_argument 18 = .ok (.ireturn, 1) := by decide +kernel
theorem dCM_argument_19 : decode cCM_argument 19 = .ok (.aload_n 0, 1) := by decide +kernel
theorem dCM_argument_20 : decode cCM_argument 20 = .ok (.getfield 44, 3) := by decide +kernel
theorem dCM_argument_23 : decode cCM_argument 23 = .ok (.aload_n 0, 1) := by decide +kernel
theorem dCM_argument_24 : decode cCM_argument 24 = .ok (.getfield 137, 3) := by decide +kernel
theorem dCM_argument_27 : decode cCM_argument 27 = .ok (.iload_n 1, 1) := by decide +kernel
theorem dCM_argument_28 : decode cCM_argument 28 = .ok (.iastore, 1) := by decide +kernel
theorem dCM_argument_29 : decode cCM_argument 29 = .ok (.aload_n 0, 1) := by decide +kernel
theorem dCM_argument_30 : decode cCM_argument 30 = .ok (.getfield 47, 3) := by decide +kernel
theorem dCM_argument_33 : decode cCM_argument 33 = .ok (.aload_n 0, 1) := by decide +kernel
theorem dCM_argument_34 : decode cCM_argument 34 = .ok (.getfield 137, 3) := by decide +kernel
theorem dCM_argument_37 : decode cCM_argument 37 = .ok (.iconst 0, 1) := by decide +kernel
theorem dCM_argument_38 : decode cCM_argument 38 = .ok (.iastore, 1) := by decide +kernel
theorem dCM_argument_39 : decode cCM_argument 39 = .ok (.aload_n 0, 1) := by decide +kernel
theorem dCM_argument_40 : decode cCM_argument 40 = .ok (.dup, 1) := by decide +kernel
theorem dCM_argument_41 : decode cCM_argument 41 = .ok (.getfield 137, 3) := by decide +kernel
theorem dCM_argument_44 : decode cCM_argument 44 = .ok (.iconst 1, 1) := by decide +kernel
theorem dCM_argument_45 : decode cCM_argument 45 = .ok (.iadd, 1) := by decide +kernel
theorem dCM_argument_46 : decode cCM_argument 46 = .ok (.putfield 137, 3) := by decide +kernel
theorem dCM_argument_49 : decode cCM_argument 49 = .ok (.aload_n 0, 1) := by decide +kernel
theorem dCM_argument_50 : decode cCM_argument 50 = .ok (.getfield 137, 3) := by decide +kernel
theorem dCM_argument_53 : decode cCM_argument 53 = .ok (.ireturn, 1) := by decide +kernel
theorem dCM_lambda_0 : decode cCM_lambda 0 = .ok (.iload_n 1, 1) := by decide +kernel
theorem dCM_lambda_1 : decode cCM_lambda 1 = .ok (.ifCond .lt 40, 3) := by decide +kernel
theorem dCM_lambda_4 : decode cCM_lambda 4 = .ok (.iload_n 1, 1) := by decide +kernel
theorem dCM_lambda_5 : decode cCM_lambda 5 = .ok (.iconst 2, 1) := by decide +kernel
theorem dCM_lambda_6 : decode cCM_lambda 6 = .ok (.if_icmp .gt 35, 3) := by decide +kernel
theorem dCM_lambda_9 : decode cCM_lambda 9 = .ok (.iload_n 2, 1) := by decide +kernel
theorem dCM_lambda_10 : decode cCM_lambda 10 = .ok (.ifCond .lt 31, 3) := by decide +kernel
theorem dCM_lambda_13 : decode cCM_lambda 13 = .ok (.iload_n 2, 1) := by decide +kernel
theorem dCM_lambda_14 : decode cCM_lambda 14 = .ok (.iconst 1, 1) := by decide +kernel
theorem dCM_lambda_15 : decode cCM_lambda 15 = .ok (.if_icmp .gt 26, 3) := by decide +kernel
theorem dCM_lambda_18 : decode cCM_lambda 18 = .ok (.iload 5, 2) := by decide +kernel
theorem dCM_lambda_20 : decode cCM_lambda 20 = .ok (.iconst (-1), 1) := by decide +kernel
theorem dCM_lambda_21 : decode cCM_lambda 21 = .ok (.if_icmp .eq 12, 3) := by decide +kernel
theorem dCM_lambda_24 : decode cCM_lambda 24 = .ok (.aload_n 0, 1) := by decide +kernel
theorem dCM_lambda_25 : decode cCM_lambda 25 = .ok (.iload 5, 2) := by decide +kernel
theorem dCM_lambda_27 : decode cCM_lambda 27 = .ok (.invokevirtual 107, 3) := by decide +kernel
theorem dCM_lambda_30 : decode cCM_lambda 30 = .ok (.ifCond .eq 11, 3) := by decide +kernel
theorem dCM_lambda_33 : decode cCM_lambda 33 = .ok (.aload_n 0, 1) := by decide +kernel
theorem dCM_lambda_34 : decode cCM_lambda 34 = .ok (.getfield 137, 3) := by decide +kernel
theorem dCM_lambda_37 : decode cCM_lambda 37 = .ok (.iconst 5, 1) := by decide +kernel
theorem dCM_lambda_38 : decode cCM_lambda 38 = .ok (.if_icmp .ne 6, 3) := by decide +kernel
theorem dCM_lambda_41 : decode cCM_lambda 41 = .ok (.bipush (-2), 2) := by decide +kernel
theorem dCM_lambda_43 : decode cCM_lambda 43 = .ok (.ireturn, 1) := by decide +kernel
theorem dCM_lambda_44 : decode cCM_lambda 44 = .ok (.iload_n 2, 1) := by decide +kernel
theorem dCM_lambda_45 : decode cCM_lambda 45 = .ok (.iconst 1, 1) := by decide +kernel
theorem dCM_lambda_46 : decode cCM_lambda 46 = .ok (.if_icmp .ne 32, 3) := by decide +kernel
theorem dCM_lambda_49 : decode cCM_lambda 49 = .ok (.iload_n 1, 1) := by decide +kernel
theorem dCM_lambda_50 : decode cCM_lambda 50 = .ok (.ifCond .le 11, 3) := by decide +kernel
theorem dCM_lambda_53 : decode cCM_lambda 53 = .ok (.aload_n 0, 1) := by decide +kernel
theorem dCM_lambda_54 : decode cCM_lambda 54 = .ok (.iload_n 3, 1) := by decide +kernel
theorem dCM_lambda_55 : decode cCM_lambda 55 = .ok (.invokevirtual 107, 3) := by decide +kernel
theorem dCM_lambda_58 : decode cCM_lambda 58 = .ok (.ifCond .eq 17, 3) := by decide +kernel
theorem dCM_lambda_61 : decode cCM_lambda 61 = .ok (.iload_n 1, 1) := by decide +kernel
theorem dCM_lambda_62 : decode cCM_lambda 62 = .ok (.iconst 1, 1) := by decide +kernel
theorem dCM_lambda_63 : decode cCM_lambda 63 = .ok (.if_icmp .le 15, 3) := by decide +kernel
theorem dCM_lambda_66 : decode cCM_lambda 66 = .ok (.aload_n 0, 1) := by decide +kernel
theorem dCM_lambda_67 : decode cCM_lambda 67 = .ok (.iload 4, 2) := by decide +kernel
theorem dCM_lambda_69 : decode cCM_lambda 69 = .ok (.invokevirtual 107, 3) := by decide +kernel
theorem dCM_lambda_72 : decode cCM_lambda 72 = .ok (.ifCond .ne 6, 3) := by decide +kernel
theorem dCM_lambda_75 : decode cCM_lambda 75 = .ok (.bipush (-2), 2) := by decide +kernel
theorem dCM_lambda_77 : decode cCM_lambda 77 = .ok (.ireturn, 1) := by decide +kernel
theorem dCM_lambda_78 : decode cCM_lambda 78 = .ok (.aload_n 0, 1) := by decide +kernel
theorem dCM_lambda_79 : decode cCM_lambda 79 = .ok (.getfield 47, 3) := by decide +kernel
theorem dCM_lambda_82 : decode cCM_lambda 82 = .ok (.aload_n 0, 1) := by decide +kernel
theorem dCM_lambda_83 : decode cCM_lambda 83 = .ok (.getfield 137, 3) := by decide +kernel
theorem dCM_lambda_86 : decode cCM_lambda 86 = .ok (.iload_n 2, 1) := by decide +kernel
theorem dCM_lambda_87 : decode cCM_lambda 87 = .ok (.iconst 1, 1) := by decide +kernel
theorem dCM_lambda_88 : decode cCM_lambda 88 = .ok (.iadd, 1) := by decide +kernel
theorem dCM_lambda_89 : decode cCM_lambda 89 = .ok (.iastore, 1) := by decide +kernel
theorem dCM_lambda_90 : decode cCM_lambda 90 = .ok (.aload_n 0, 1) := by decide +kernel
theorem dCM_lambda_91 : decode cCM_lambda 91 = .ok (.getfield 50, 3) := by decide +kernel
theorem dCM_lambda_94 : decode cCM_lambda 94 = .ok (.aload_n 0, 1) := by decide +kernel
theorem dCM_lambda_95 : decode cCM_lambda 95 = .ok (.getfield 137, 3) := by decide +kernel
theorem dCM_lambda_98 : decode cCM_lambda 98 = .ok (.iload_n 1, 1) := by decide +kernel
theorem dCM_lambda_99 : decode cCM_lambda 99 = .ok (.iastore, 1) := by decide +kernel
theorem dCM_lambda_100 : decode cCM_lambda 100 = .ok (.aload_n 0, 1) := by decide +kernel
theorem dCM_lambda_101 : decode cCM_lambda 101 = .ok (.getfield 53, 3) := by decide +kernel
theorem dCM_lambda_104 : decode cCM_lambda 104 = .ok (.iconst 2, 1) := by decide +kernel
theorem dCM_lambda_105 : decode cCM_lambda 105 = .ok (.aload_n 0, 1) := by decide +kernel
theorem dCM_lambda_106 : decode cCM_lambda 106 = .ok (.getfield 137, 3) := by decide +kernel
theorem dCM_lambda_109 : decode cCM_lambda 109 = .ok (.imul, 1) := by decide +kernel
theorem dCM_lambda_110 : decode cCM_lambda 110 = .ok (.iload_n 3, 1) := by decide +kernel
theorem dCM_lambda_111 : decode cCM_lambda 111 = .ok (.iastore, 1) := by decide +kernel
theorem dCM_lambda_112 : decode cCM_lambda 112 = .ok (.aload_n 0, 1) := by decide +kernel
theorem dCM_lambda_113 : decode cCM_lambda 113 = .ok (.getfield 53, 3) := by decide +kernel
theorem dCM_lambda_116 : decode cCM_lambda 116 = .ok (.iconst 2, 1) := by decide +kernel
theorem dCM_lambda_117 : decode cCM_lambda 117 = .ok (.aload_n 0, 1) := by decide +kernel
theorem dCM_lambda_118 : decode cCM_lambda 118 = .ok (.getfield 137, 3) := by decide +kernel
theorem dCM_lambda_121 : decode cCM_lambda 121 = .ok (.imul, 1) := by decide +kernel
theorem dCM_lambda_122 : decode cCM_lambda 122 = .ok (.iconst 1, 1) := by decide +kernel
theorem dCM_lambda_123 : decode cCM_lambda 123 = .ok (.iadd, 1) := by decide +kernel
theorem dCM_lambda_124 : decode cCM_lambda 124 = .ok (.iload 4, 2) := by decide +kernel
theorem dCM_lambda_126 : decode cCM_lambda 126 = .ok (.iastore, 1) := by decide +kernel
theorem dCM_lambda_127 : decode cCM_lambda 127 = .ok (.aload_n 0, 1) := by decide +kernel
theorem dCM_lambda_128 : decode cCM_lambda 128 = .ok (.getfield 56, 3) := by decide +kernel
theorem dCM_lambda_131 : decode cCM_lambda 131 = .ok (.aload_n 0, 1) := by decide +kernel
theorem dCM_lambda_132 : decode cCM_lambda 132 = .ok (.getfield 137, 3) := by decide +kernel
theorem dCM_lambda_135 : decode cCM_lambda 135 = .ok (.iload 5, 2) := by decide +kernel
theorem dCM_lambda_137 : decode cCM_lambda 137 = .ok (.iastore, 1) := by decide +kernel
theorem dCM_lambda_138 : decode cCM_lambda 138 = .ok (.aload_n 0, 1) := by decide +kernel
theorem dCM_lambda_139 : decode cCM_lambda 139 = .ok (.dup, 1) := by decide +kernel
theorem dCM_lambda_140 : decode cCM_lambda 140 = .ok (.getfield 137, 3) := by decide +kernel
theorem dCM_lambda_143 : decode cCM_lambda 143 = .ok (.iconst 1, 1) := by decide +kernel
theorem dCM_lambda_144 : decode cCM_lambda 144 = .ok (.iadd, 1) := by decide +kernel
theorem dCM_lambda_145 : decode cCM_lambda 145 = .ok (.putfield 137, 3) := by decide +kernel
theorem dCM_lambda_148 : decode cCM_lambda 148 = .ok (.aload_n 0, 1) := by decide +kernel
theorem dCM_lambda_149 : decode cCM_lambda 149 = .ok (.getfield 137, 3) := by decide +kernel
theorem dCM_lambda_152 : decode cCM_lambda 152 = .ok (.ireturn, 1) := by decide +kernel
theorem dCM_wipe_0 : decode cCM_wipe 0 = .ok (.aload_n 0, 1) := by decide +kernel
theorem dCM_wipe_1 : decode cCM_wipe 1 = .ok (.getfield 137, 3) := by decide +kernel
theorem dCM_wipe_4 : decode cCM_wipe 4 = .ok (.istore_n 1, 1) := by decide +kernel
theorem dCM_wipe_5 : decode cCM_wipe 5 = .ok (.aload_n 0, 1) := by decide +kernel
theorem dCM_wipe_6 : decode cCM_wipe 6 = .ok (.iconst 0, 1) := by decide +kernel
theorem dCM_wipe_7 : decode cCM_wipe 7 = .ok (.putfield 137, 3) := by decide +kernel
theorem dCM_wipe_10 : decode cCM_wipe 10 = .ok (.iload_n 1, 1) := by decide +kernel
theorem dCM_wipe_11 : decode cCM_wipe 11 = .ok (.ireturn, 1) := by decide +kernel
theorem dCM_mostSpecial_0 : decode cCM_mostSpecial 0 = .ok (.iconst (-1), 1) := by decide +kernel
theorem dCM_mostSpecial_1 : decode cCM_mostSpecial 1 = .ok (.istore_n 1, 1) := by decide +kernel
theorem dCM_mostSpecial_2 : decode cCM_mostSpecial 2 = .ok (.iconst (-1), 1) := by decide +kernel
theorem dCM_mostSpecial_3 : decode cCM_mostSpecial 3 = .ok (.istore_n 2, 1) := by decide +kernel
theorem dCM_mostSpecial_4 : decode cCM_mostSpecial 4 = .ok (.iconst 0, 1) := by decide +kernel
theorem dCM_mostSpecial_5 : decode cCM_mostSpecial 5 = .ok (.istore_n 3, 1) := by decide +kernel
theorem dCM_mostSpecial_6 : decode cCM_mostSpecial 6 = .ok (.iconst 0, 1) := by decide +kernel
theorem dCM_mostSpecial_7 : decode cCM_mostSpecial 7 = .ok (.istore 4, 2) := by decide +kernel
theorem dCM_mostSpecial_9 : decode cCM_mostSpecial 9 = .ok (.iconst 1, 1) := by decide +kernel
theorem dCM_mostSpecial_10 : decode cCM_mostSpecial 10 = .ok (.istore 5, 2) := by decide +kernel
theorem dCM_mostSpecial_12 : decode cCM_mostSpecial 12 = .ok (.iconst 0, 1) := by decide +kernel
theorem dCM_mostSpecial_13 : decode cCM_mostSpecial 13 = .ok (.istore 6, 2) := by decide +kernel
theorem dCM_mostSpecial_15 : decode cCM_mostSpecial 15 = .ok (.iload 6, 2) := by decide +kernel
theorem dCM_mostSpecial_17 : decode cCM_mostSpecial 17 = .ok (.aload_n 0, 1) := by decide +kernel
theorem dCM_mostSpecial_18 : decode cCM_mostSpecial 18 = .ok (.getfield 110, 3) := by decide +kernel
theorem dCM_mostSpecial_21 : decode cCM_mostSpecial 21 = .ok (.if_icmp .ge 154, 3) := by decide +kernel
theorem dCM_mostSpecial_24 : decode cCM_mostSpecial 24 = .ok (.aload_n 0, 1) := by decide +kernel
theorem dCM_mostSpecial_25 : decode cCM_mostSpecial 25 = .ok (.getfield 59, 3) := by decide +kernel
theorem dCM_mostSpecial_28 : decode cCM_mostSpecial 28 = .ok (.iload 6, 2) := by decide +kernel
theorem dCM_mostSpecial_30 : decode cCM_mostSpecial 30 = .ok (.baload, 1) := by decide +kernel
theorem dCM_mostSpecial_31 : decode cCM_mostSpecial 31 = .ok (.istore 7, 2) := by decide +kernel
theorem dCM_mostSpecial_33 : decode cCM_mostSpecial 33 = .ok (.iconst 0, 1) := by decide +kernel
theorem dCM_mostSpecial_34 : decode cCM_mostSpecial 34 = .ok (.istore 8, 2) := by decide +kernel
theorem dCM_mostSpecial_36 : decode cCM_mostSpecial 36 = .ok (.iload 8, 2) := by decide +kernel
theorem dCM_mostSpecial_38 : decode cCM_mostSpecial 38 = .ok (.aload_n 0, 1) := by decide +kernel
theorem dCM_mostSpecial_39 : decode cCM_mostSpecial 39 = .ok (.getfield 110, 3) := by decide +kernel
theorem dCM_mostSpecial_42 : decode cCM_mostSpecial 42 = .ok (.if_icmp .ge 47, 3) := by decide +kernel
theorem dCM_mostSpecial_45 : decode cCM_mostSpecial 45 = .ok (.iload 7, 2) := by decide +kernel
theorem dCM_mostSpecial_47 : decode cCM_mostSpecial 47 = .ok (.ifCond .eq 33, 3) := by decide +kernel
theorem dCM_mostSpecial_50 : decode cCM_mostSpecial 50 = .ok (.aload_n 0, 1) := by decide +kernel
theorem dCM_mostSpecial_51 : decode cCM_mostSpecial 51 = .ok (.getfield 59, 3) := by decide +kernel
theorem dCM_mostSpecial_54 : decode cCM_mostSpecial 54 = .ok (.iload 8, 2) := by decide +kernel
theorem dCM_mostSpecial_56 : decode cCM_mostSpecial 56 = .ok (.baload, 1) := by decide +kernel
theorem dCM_mostSpecial_57 : decode cCM_mostSpecial 57 = .ok (.ifCond .eq 19, 3) := by decide +kernel
theorem dCM_mostSpecial_60 : decode cCM_mostSpecial 60 = .ok (.aload_n 0, 1) := by decide +kernel
theorem dCM_mostSpecial_61 : decode cCM_mostSpecial 61 = .ok (.getfield 62, 3) := by decide +kernel
theorem dCM_mostSpecial_64 : decode cCM_mostSpecial 64 = .ok (.bipush 60, 2) := by decide +kernel
theorem dCM_mostSpecial_66 : decode cCM_mostSpecial 66 = .ok (.iload 6, 2) := by decide +kernel
theorem dCM_mostSpecial_68 : decode cCM_mostSpecial 68 = .ok (.imul, 1) := by decide +kernel
theorem dCM_mostSpecial_69 : decode cCM_mostSpecial 69 = .ok (.iload 8, 2) := by decide +kernel
theorem dCM_mostSpecial_71 : decode cCM_mostSpecial 71 = .ok (.iadd, 1) := by decide +kernel
theorem dCM_mostSpecial_72 : decode cCM_mostSpecial 72 = .ok (.baload, 1) := by decide +kernel
theorem dCM_mostSpecial_73 : decode cCM_mostSpecial 73 = .ok (.ifCond .eq 7, 3) := by decide +kernel
theorem dCM_mostSpecial_76 : decode cCM_mostSpecial 76 = .ok (.iconst 1, 1) := by decide +kernel
theorem dCM_mostSpecial_77 : decode cCM_mostSpecial 77 = .ok (.goto 4, 3) := by decide +kernel
theorem dCM_mostSpecial_80 : decode cCM_mostSpecial 80 = .ok (.iconst 0, 1) := by decide +kernel
theorem dCM_mostSpecial_81 : decode cCM_mostSpecial 81 = .ok (.istore 7, 2) := by decide +kernel
theorem dCM_mostSpecial_83 : decode cCM_mostSpecial 83 = .ok (.iinc 8 1, 3) := by decide +kernel
theorem dCM_mostSpecial_86 : decode cCM_mostSpecial 86 = .ok (.goto (-50), 3) := by decide +kernel
theorem dCM_mostSpecial_89 : decode cCM_mostSpecial 89 = .ok (.iload 7, 2) := by decide +kernel
theorem dCM_mostSpecial_91 : decode cCM_mostSpecial 91 = .ok (.ifCond .eq 78, 3) := by decide +kernel
theorem dCM_mostSpecial_94 : decode cCM_mostSpecial 94 = .ok (.iload 5, 2) := by decide +kernel
theorem dCM_mostSpecial_96 : decode cCM_mostSpecial 96 = .ok (.ifCond .eq 21, 3) := by decide +kernel
theorem dCM_mostSpecial_99 : decode cCM_mostSpecial 99 = .ok (.iload_n 1, 1) := by decide +kernel
theorem dCM_mostSpecial_100 : decode cCM_mostSpecial 100 = .ok (.ifCond .lt 13, 3) := by decide +kernel
theorem dCM_mostSpecial_103 : decode cCM_mostSpecial 103 = .ok (.aload_n 0, 1) := by decide +kernel
theorem dCM_mostSpecial_104 : decode cCM_mostSpecial 104 = .ok (.iload_n 1, 1) := by decide +kernel
theorem dCM_mostSpecial_105 : decode cCM_mostSpecial 105 = .ok (.iload 6, 2) := by decide +kernel
theorem dCM_mostSpecial_107 : decode cCM_mostSpecial 107 = .ok (.invokevirtual 120, 3) := by decide +kernel
theorem dCM_mostSpecial_110 : decode cCM_mostSpecial 110 = .ok (.ifCond .eq 7, 3) := by decide +kernel
theorem dCM_mostSpecial_113 : decode cCM_mostSpecial 113 = .ok (.iconst 1, 1) := by decide +kernel
theorem dCM_mostSpecial_114 : decode cCM_mostSpecial 114 = .ok (.goto 4, 3) := by decide +kernel
theorem dCM_mostSpecial_117 : decode cCM_mostSpecial 117 = .ok (.iconst 0, 1) := by decide +kernel
theorem dCM_mostSpecial_118 : decode cCM_mostSpecial 118 = .ok (.istore 5, 2) := by decide +kernel
theorem dCM_mostSpecial_120 : decode cCM_mostSpecial 120 = .ok (.iload_n 1, 1) := by decide +kernel
theorem dCM_mostSpecial_121 : decode cCM_mostSpecial 121 = .ok (.ifCond .ge 8, 3) := by decide +kernel
theorem dCM_mostSpecial_124 : decode cCM_mostSpecial 124 = .ok (.iload 6, 2) := by decide +kernel
theorem dCM_mostSpecial_126 : decode cCM_mostSpecial 126 = .ok (.goto 4, 3) := by decide +kernel
theorem dCM_mostSpecial_129 : decode cCM_mostSpecial 129 = .ok (.iload_n 1, 1) := by decide +kernel
theorem dCM_mostSpecial_130 : decode cCM_mostSpecial 130 = .ok (.istore_n 1, 1) := by decide +kernel
theorem dCM_mostSpecial_131 : decode cCM_mostSpecial 131 = .ok (.aload_n 0, 1) := by decide +kernel
theorem dCM_mostSpecial_132 : decode cCM_mostSpecial 132 = .ok (.iload 6, 2) := by decide +kernel
theorem dCM_mostSpecial_134 : decode cCM_mostSpecial 134 = .ok (.iconst 4, 1) := by decide +kernel
theorem dCM_mostSpecial_135 : decode cCM_mostSpecial 135 = .ok (.invokevirtual 117, 3) := by decide +kernel
theorem dCM_mostSpecial_138 : decode cCM_mostSpecial 138 = .ok (.ifCond .eq 7, 3) := by decide +kernel
theorem dCM_mostSpecial_141 : decode cCM_mostSpecial 141 = .ok (.iload_n 2, 1) := by decide +kernel
theorem dCM_mostSpecial_142 : decode cCM_mostSpecial 142 = .ok (.goto 5, 3) := by decide +kernel
theorem dCM_mostSpecial_145 : decode cCM_mostSpecial 145 = .ok (.iload 6, 2) := by decide +kernel
theorem dCM_mostSpecial_147 : decode cCM_mostSpecial 147 = .ok (.istore_n 2, 1) := by decide +kernel
theorem dCM_mostSpecial_148 : decode cCM_mostSpecial 148 = .ok (.iload_n 3, 1) := by decide +kernel
theorem dCM_mostSpecial_149 : decode cCM_mostSpecial 149 = .ok (.aload_n 0, 1) := by decide +kernel
theorem dCM_mostSpecial_150 : decode cCM_mostSpecial 150 = .ok (.iload 6, 2) := by decide +kernel
theorem dCM_mostSpecial_152 : decode cCM_mostSpecial 152 = .ok (.iconst 4, 1) := by decide +kernel
theorem dCM_mostSpecial_153 : decode cCM_mostSpecial 153 = .ok (.invokevirtual 117, 3) := by decide +kernel
theorem dCM_mostSpecial_156 : decode cCM_mostSpecial 156 = .ok (.ifCond .eq 7, 3) := by decide +kernel
theorem dCM_mostSpecial_159 : decode cCM_mostSpecial 159 = .ok (.iconst 0, 1) := by decide +kernel
theorem dCM_mostSpecial_160 : decode cCM_mostSpecial 160 = .ok (.goto 4, 3) := by decide +kernel
theorem dCM_mostSpecial_163 : decode cCM_mostSpecial 163 = .ok (.iconst 1, 1) := by decide +kernel
theorem dCM_mostSpecial_164 : decode cCM_mostSpecial 164 = .ok (.iadd, 1) := by decide +kernel
theorem dCM_mostSpecial_165 : decode cCM_mostSpecial 165 = .ok (.istore_n 3, 1) := by decide +kernel
theorem dCM_mostSpecial_166 : decode cCM_mostSpecial 166 = .ok (.iinc 4 1, 3) := by decide +kernel
theorem dCM_mostSpecial_169 : decode cCM_mostSpecial 169 = .ok (.iinc 6 1, 3) := by decide +kernel
theorem dCM_mostSpecial_172 : decode cCM_mostSpecial 172 = .ok (.goto (-157), 3) := by decide +kernel
theorem dCM_mostSpecial_175 : decode cCM_mostSpecial 175 = .ok (.iload 4, 2) := by decide +kernel
theorem dCM_mostSpecial_177 : decode cCM_mostSpecial 177 = .ok (.iconst 2, 1) := by decide +kernel
theorem dCM_mostSpecial_178 : decode cCM_mostSpecial 178 = .ok (.if_icmp .ge 5, 3) := by decide +kernel
theorem dCM_mostSpecial_181 : decode cCM_mostSpecial 181 = .ok (.iload_n 1, 1) := by decide +kernel
theorem dCM_mostSpecial_182 : decode cCM_mostSpecial 182 = .ok (.ireturn, 1) := by decide +kernel
theorem dCM_mostSpecial_183 : decode cCM_mostSpecial 183 = .ok (.iload 5, 2) := by decide +kernel
theorem dCM_mostSpecial_185 : decode cCM_mostSpecial 185 = .ok (.ifCond .eq 8, 3) := by decide +kernel
theorem dCM_mostSpecial_188 : decode cCM_mostSpecial 188 = .ok (.iload_n 3, 1) := by decide +kernel
theorem dCM_mostSpecial_189 : decode cCM_mostSpecial 189 = .ok (.iconst 1, 1) := by decide +kernel
theorem dCM_mostSpecial_190 : decode cCM_mostSpecial 190 = .ok (.if_icmp .le 7, 3) := by decide +kernel
theorem dCM_mostSpecial_193 : decode cCM_mostSpecial 193 = .ok (.iconst (-1), 1) := by decide +kernel
theorem dCM_mostSpecial_194 : decode cCM_mostSpecial 194 = .ok (.goto 13, 3) := by decide +kernel
theorem dCM_mostSpecial_197 : decode cCM_mostSpecial 197 = .ok (.iload_n 3, 1) := by decide +kernel
theorem dCM_mostSpecial_198 : decode cCM_mostSpecial 198 = .ok (.iconst 1, 1) := by decide +kernel
theorem dCM_mostSpecial_199 : decode cCM_mostSpecial 199 = .ok (.if_icmp .ne 7, 3) := by decide +kernel
theorem dCM_mostSpecial_202 : decode cCM_mostSpecial 202 = .ok (.iload_n 2, 1) := by decide +kernel
theorem dCM_mostSpecial_203 : decode cCM_mostSpecial 203 = .ok (.goto 4, 3) := by decide +kernel
theorem dCM_mostSpecial_206 : decode cCM_mostSpecial 206 = .ok (.iload_n 1, 1) := by decide +kernel
theorem dCM_mostSpecial_207 : decode cCM_mostSpecial 207 = .ok (.ireturn, 1) := by decide +kernel
theorem dCM_typeAt_0 : decode cCM_typeAt 0 = .ok (.aload_n 0, 1) := by decide +kernel
theorem dCM_typeAt_1 : decode cCM_typeAt 1 = .ok (.getfield 38, 3) := by decide +kernel
theorem dCM_typeAt_4 : decode cCM_typeAt 4 = .ok (.iload_n 1, 1) := by decide +kernel
theorem dCM_typeAt_5 : decode cCM_typeAt 5 = .ok (.iaload, 1) := by decide +kernel
theorem dCM_typeAt_6 : decode cCM_typeAt 6 = .ok (.iconst 1, 1) := by decide +kernel
theorem dCM_typeAt_7 : decode cCM_typeAt 7 = .ok (.isub, 1) := by decide +kernel
theorem dCM_typeAt_8 : decode cCM_typeAt 8 = .ok (.istore 4, 2) := by decide +kernel
theorem dCM_typeAt_10 : decode cCM_typeAt 10 = .ok (.iload_n 3, 1) := by decide +kernel
theorem dCM_typeAt_11 : decode cCM_typeAt 11 = .ok (.ifCond .eq 26, 3) := by decide +kernel
theorem dCM_typeAt_14 : decode cCM_typeAt 14 = .ok (.iload_n 2, 1) := by decide +kernel
theorem dCM_typeAt_15 : decode cCM_typeAt 15 = .ok (.iload 4, 2) := by decide +kernel
theorem dCM_typeAt_17 : decode cCM_typeAt 17 = .ok (.if_icmp .lt 20, 3) := by decide +kernel
theorem dCM_typeAt_20 : decode cCM_typeAt 20 = .ok (.aload_n 0, 1) := by decide +kernel
theorem dCM_typeAt_21 : decode cCM_typeAt 21 = .ok (.getfield 41, 3) := by decide +kernel
theorem dCM_typeAt_24 : decode cCM_typeAt 24 = .ok (.iconst 4, 1) := by decide +kernel
theorem dCM_typeAt_25 : decode cCM_typeAt 25 = .ok (.iload_n 1, 1) := by decide +kernel
theorem dCM_typeAt_26 : decode cCM_typeAt 26 = .ok (.imul, 1) := by decide +kernel
theorem dCM_typeAt_27 : decode cCM_typeAt 27 = .ok (.iload 4, 2) := by decide +kernel
theorem dCM_typeAt_29 : decode cCM_typeAt 29 = .ok (.iadd, 1) := by decide +kernel
theorem dCM_typeAt_30 : decode cCM_typeAt 30 = .ok (.iaload, 1) := by decide +kernel
theorem dCM_typeAt_31 : decode cCM_typeAt 31 = .ok (.bipush 64, 2) := by decide +kernel
theorem dCM_typeAt_33 : decode cCM_typeAt 33 = .ok (.isub, 1) := by decide +kernel
theorem dCM_typeAt_34 : decode cCM_typeAt 34 = .ok (.goto 13, 3) := by decide +kernel
theorem dCM_typeAt_37 : decode cCM_typeAt 37 = .ok (.aload_n 0, 1) := by decide +kernel
theorem dCM_typeAt_38 : decode cCM_typeAt 38 = .ok (.getfield 41, 3) := by decide +kernel
theorem dCM_typeAt_41 : decode cCM_typeAt 41 = .ok (.iconst 4, 1) := by decide +kernel
theorem dCM_typeAt_42 : decode cCM_typeAt 42 = .ok (.iload_n 1, 1) := by decide +kernel
theorem dCM_typeAt_43 : decode cCM_typeAt 43 = .ok (.imul, 1) := by decide +kernel
theorem dCM_typeAt_44 : decode cCM_typeAt 44 = .ok (.iload_n 2, 1) := by decide +kernel
theorem dCM_typeAt_45 : decode cCM_typeAt 45 = .ok (.iadd, 1) := by decide +kernel
theorem dCM_typeAt_46 : decode cCM_typeAt 46 = .ok (.iaload, 1) := by decide +kernel
theorem dCM_typeAt_47 : decode cCM_typeAt 47 = .ok (.ireturn, 1) := by decide +kernel
theorem dCM_isFiner_0 : decode cCM_isFiner 0 = .ok (.aload_n 0, 1) := by decide +kernel
theorem dCM_isFiner_1 : decode cCM_isFiner 1 = .ok (.iload_n 1, 1) := by decide +kernel
theorem dCM_isFiner_2 : decode cCM_isFiner 2 = .ok (.invokevirtual 131, 3) := by decide +kernel
theorem dCM_isFiner_5 : decode cCM_isFiner 5 = .ok (.istore 4, 2) := by decide +kernel
theorem dCM_isFiner_7 : decode cCM_isFiner 7 = .ok (.aload_n 0, 1) := by decide +kernel
theorem dCM_isFiner_8 : decode cCM_isFiner 8 = .ok (.iload_n 2, 1) := by decide +kernel
theorem dCM_isFiner_9 : decode cCM_isFiner 9 = .ok (.invokevirtual 131, 3) := by decide +kernel
theorem dCM_isFiner_12 : decode cCM_isFiner 12 = .ok (.istore 5, 2) := by decide +kernel
theorem dCM_isFiner_14 : decode cCM_isFiner 14 = .ok (.iload 4, 2) := by decide +kernel
theorem dCM_isFiner_16 : decode cCM_isFiner 16 = .ok (.ifCond .lt 37, 3) := by decide +kernel
theorem dCM_isFiner_19 : decode cCM_isFiner 19 = .ok (.iload 5, 2) := by decide +kernel
theorem dCM_isFiner_21 : decode cCM_isFiner 21 = .ok (.ifCond .lt 32, 3) := by decide +kernel
theorem dCM_isFiner_24 : decode cCM_isFiner 24 = .ok (.aload_n 0, 1) := by decide +kernel
theorem dCM_isFiner_25 : decode cCM_isFiner 25 = .ok (.iload 4, 2) := by decide +kernel
theorem dCM_isFiner_27 : decode cCM_isFiner 27 = .ok (.iload 5, 2) := by decide +kernel
theorem dCM_isFiner_29 : decode cCM_isFiner 29 = .ok (.invokevirtual 120, 3) := by decide +kernel
theorem dCM_isFiner_32 : decode cCM_isFiner 32 = .ok (.ifCond .eq 21, 3) := by decide +kernel
theorem dCM_isFiner_35 : decode cCM_isFiner 35 = .ok (.aload_n 0, 1) := by decide +kernel
theorem dCM_isFiner_36 : decode cCM_isFiner 36 = .ok (.iload_n 1, 1) := by decide +kernel
theorem dCM_isFiner_37 : decode cCM_isFiner 37 = .ok (.iload_n 2, 1) := by decide +kernel
theorem dCM_isFiner_38 : decode cCM_isFiner 38 = .ok (.invokevirtual 89, 3) := by decide +kernel
theorem dCM_isFiner_41 : decode cCM_isFiner 41 = .ok (.ifCond .ne 12, 3) := by decide +kernel
theorem dCM_isFiner_44 : decode cCM_isFiner 44 = .ok (.aload_n 0, 1) := by decide +kernel
theorem dCM_isFiner_45 : decode cCM_isFiner 45 = .ok (.iload_n 2, 1) := by decide +kernel
theorem dCM_isFiner_46 : decode cCM_isFiner 46 = .ok (.iload_n 1, 1) := by decide +kernel
theorem dCM_isFiner_47 : decode cCM_isFiner 47 = .ok (.invokevirtual 89, 3) := by decide +kernel
theorem dCM_isFiner_50 : decode cCM_isFiner 50 = .ok (.ifCond .eq 5, 3) := by decide +kernel
theorem dCM_isFiner_53 : decode cCM_isFiner 53 = .ok (.iconst 0, 1) := by decide +kernel
theorem dCM_isFiner_54 : decode cCM_isFiner 54 = .ok (.ireturn, 1) := by decide +kernel
theorem dCM_isFiner_55 : decode cCM_isFiner 55 = .ok (.aload_n 0, 1) := by decide +kernel
theorem dCM_isFiner_56 : decode cCM_isFiner 56 = .ok (.getfield 35, 3) := by decide +kernel
theorem dCM_isFiner_59 : decode cCM_isFiner 59 = .ok (.iload 4, 2) := by decide +kernel
theorem dCM_isFiner_61 : decode cCM_isFiner 61 = .ok (.iaload, 1) := by decide +kernel
theorem dCM_isFiner_62 : decode cCM_isFiner 62 = .ok (.istore 6, 2) := by decide +kernel
theorem dCM_isFiner_64 : decode cCM_isFiner 64 = .ok (.aload_n 0, 1) := by decide +kernel
theorem dCM_isFiner_65 : decode cCM_isFiner 65 = .ok (.getfield 35, 3) := by decide +kernel
theorem dCM_isFiner_68 : decode cCM_isFiner 68 = .ok (.iload 5, 2) := by decide +kernel
theorem dCM_isFiner_70 : decode cCM_isFiner 70 = .ok (.iaload, 1) := by decide +kernel
theorem dCM_isFiner_71 : decode cCM_isFiner 71 = .ok (.istore 7, 2) := by decide +kernel
theorem dCM_isFiner_73 : decode cCM_isFiner 73 = .ok (.iload 7, 2) := by decide +kernel
theorem dCM_isFiner_75 : decode cCM_isFiner 75 = .ok (.iconst (-1), 1) := by decide +kernel
theorem dCM_isFiner_76 : decode cCM_isFiner 76 = .ok (.if_icmp .ne 5, 3) := by decide +kernel
theorem dCM_isFiner_79 : decode cCM_isFiner 79 = .ok (.iconst 1, 1) := by decide +kernel
theorem dCM_isFiner_80 : decode cCM_isFiner 80 = .ok (.ireturn, 1) := by decide +kernel
theorem dCM_isFiner_81 : decode cCM_isFiner 81 = .ok (.iload 6, 2) := by decide +kernel
theorem dCM_isFiner_83 : decode cCM_isFiner 83 = .ok (.iconst (-1), 1) := by decide +kernel
theorem dCM_isFiner_84 : decode cCM_isFiner 84 = .ok (.if_icmp .ne 5, 3) := by decide +kernel
theorem dCM_isFiner_87 : decode cCM_isFiner 87 = .ok (.iconst 0, 1) := by decide +kernel
theorem dCM_isFiner_88 : decode cCM_isFiner 88 = .ok (.ireturn, 1) := by decide +kernel
theorem dCM_isFiner_89 : decode cCM_isFiner 89 = .ok (.aload_n 0, 1) := by decide +kernel
theorem dCM_isFiner_90 : decode cCM_isFiner 90 = .ok (.getfield 56, 3) := by decide +kernel
theorem dCM_isFiner_93 : decode cCM_isFiner 93 = .ok (.iload_n 3, 1) := by decide +kernel
theorem dCM_isFiner_94 : decode cCM_isFiner 94 = .ok (.iaload, 1) := by decide +kernel
theorem dCM_isFiner_95 : decode cCM_isFiner 95 = .ok (.invokestatic 82, 3) := by decide +kernel
theorem dCM_isFiner_98 : decode cCM_isFiner 98 = .ok (.istore 8, 2) := by decide +kernel
theorem dCM_isFiner_100 : decode cCM_isFiner 100 = .ok (.aload_n 0, 1) := by decide +kernel
theorem dCM_isFiner_101 : decode cCM_isFiner 101 = .ok (.iload 6, 2) := by decide +kernel
theorem dCM_isFiner_103 : decode cCM_isFiner 103 = .ok (.iload 7, 2) := by decide +kernel
theorem dCM_isFiner_105 : decode cCM_isFiner 105 = .ok (.invokevirtual 89, 3) := by decide +kernel
theorem dCM_isFiner_108 : decode cCM_isFiner 108 = .ok (.ifCond .ne 45, 3) := by decide +kernel
theorem dCM_isFiner_111 : decode cCM_isFiner 111 = .ok (.iload 6, 2) := by decide +kernel
theorem dCM_isFiner_113 : decode cCM_isFiner 113 = .ok (.invokestatic 82, 3) := by decide +kernel
theorem dCM_isFiner_116 : decode cCM_isFiner 116 = .ok (.ifCond .eq 16, 3) := by decide +kernel
theorem dCM_isFiner_119 : decode cCM_isFiner 119 = .ok (.iload 7, 2) := by decide +kernel
theorem dCM_isFiner_121 : decode cCM_isFiner 121 = .ok (.invokestatic 82, 3) := by decide +kernel
theorem dCM_isFiner_124 : decode cCM_isFiner 124 = .ok (.ifCond .ne 8, 3) := by decide +kernel
theorem dCM_isFiner_127 : decode cCM_isFiner 127 = .ok (.iload 8, 2) := by decide +kernel
theorem dCM_isFiner_129 : decode cCM_isFiner 129 = .ok (.ifCond .ne 24, 3) := by decide +kernel
theorem dCM_isFiner_132 : decode cCM_isFiner 132 = .ok (.iload 6, 2) := by decide +kernel
theorem dCM_isFiner_134 : decode cCM_isFiner 134 = .ok (.invokestatic 82, 3) := by decide +kernel
theorem dCM_isFiner_137 : decode cCM_isFiner 137 = .ok (.ifCond .ne 20, 3) := by decide +kernel
theorem dCM_isFiner_140 : decode cCM_isFiner 140 = .ok (.iload 7, 2) := by decide +kernel
theorem dCM_isFiner_142 : decode cCM_isFiner 142 = .ok (.invokestatic 82, 3) := by decide +kernel
theorem dCM_isFiner_145 : decode cCM_isFiner 145 = .ok (.ifCond .eq 12, 3) := by decide +kernel
theorem dCM_isFiner_148 : decode cCM_isFiner 148 = .ok (.iload 8, 2) := by decide +kernel
theorem dCM_isFiner_150 : decode cCM_isFiner 150 = .ok (.ifCond .ne 7, 3) := by decide +kernel
theorem dCM_isFiner_153 : decode cCM_isFiner 153 = .ok (.iconst 1, 1) := by decide +kernel
theorem dCM_isFiner_154 : decode cCM_isFiner 154 = .ok (.goto 4, 3) := by decide +kernel
theorem dCM_isFiner_157 : decode cCM_isFiner 157 = .ok (.iconst 0, 1) := by decide +kernel
theorem dCM_isFiner_158 : decode cCM_isFiner 158 = .ok (.ireturn, 1) := by decide +kernel
theorem dCM_isSpecial_0 : decode cCM_isSpecial 0 = .ok (.aload_n 0, 1) := by decide +kernel
theorem dCM_isSpecial_1 : decode cCM_isSpecial 1 = .ok (.getfield 153, 3) := by decide +kernel
theorem dCM_isSpecial_4 : decode cCM_isSpecial 4 = .ok (.iconst 3, 1) := by decide +kernel
theorem dCM_isSpecial_5 : decode cCM_isSpecial 5 = .ok (.if_icmp .ne 7, 3) := by decide +kernel
theorem dCM_isSpecial_8 : decode cCM_isSpecial 8 = .ok (.iconst 1, 1) := by decide +kernel
theorem dCM_isSpecial_9 : decode cCM_isSpecial 9 = .ok (.goto 4, 3) := by decide +kernel
theorem dCM_isSpecial_12 : decode cCM_isSpecial 12 = .ok (.iconst 0, 1) := by decide +kernel
theorem dCM_isSpecial_13 : decode cCM_isSpecial 13 = .ok (.istore_n 3, 1) := by decide +kernel
theorem dCM_isSpecial_14 : decode cCM_isSpecial 14 = .ok (.iconst 0, 1) := by decide +kernel
theorem dCM_isSpecial_15 : decode cCM_isSpecial 15 = .ok (.istore 4, 2) := by decide +kernel
theorem dCM_isSpecial_17 : decode cCM_isSpecial 17 = .ok (.iload 4, 2) := by decide +kernel
theorem dCM_isSpecial_19 : decode cCM_isSpecial 19 = .ok (.aload_n 0, 1) := by decide +kernel
theorem dCM_isSpecial_20 : decode cCM_isSpecial 20 = .ok (.getfield 137, 3) := by decide +kernel
theorem dCM_isSpecial_23 : decode cCM_isSpecial 23 = .ok (.if_icmp .ge 66, 3) := by decide +kernel
theorem dCM_isSpecial_26 : decode cCM_isSpecial 26 = .ok (.aload_n 0, 1) := by decide +kernel
theorem dCM_isSpecial_27 : decode cCM_isSpecial 27 = .ok (.iload_n 1, 1) := by decide +kernel
theorem dCM_isSpecial_28 : decode cCM_isSpecial 28 = .ok (.iload 4, 2) := by decide +kernel
theorem dCM_isSpecial_30 : decode cCM_isSpecial 30 = .ok (.iload_n 3, 1) := by decide +kernel
theorem dCM_isSpecial_31 : decode cCM_isSpecial 31 = .ok (.invokevirtual 143, 3) := by decide +kernel
theorem dCM_isSpecial_34 : decode cCM_isSpecial 34 = .ok (.istore 5, 2) := by decide +kernel
theorem dCM_isSpecial_36 : decode cCM_isSpecial 36 = .ok (.aload_n 0, 1) := by decide +kernel
theorem dCM_isSpecial_37 : decode cCM_isSpecial 37 = .ok (.iload_n 2, 1) := by decide +kernel
theorem dCM_isSpecial_38 : decode cCM_isSpecial 38 = .ok (.iload 4, 2) := by decide +kernel
theorem dCM_isSpecial_40 : decode cCM_isSpecial 40 = .ok (.iload_n 3, 1) := by decide +kernel
theorem dCM_isSpecial_41 : decode cCM_isSpecial 41 = .ok (.invokevirtual 143, 3) := by decide +kernel
theorem dCM_isSpecial_44 : decode cCM_isSpecial 44 = .ok (.istore 6, 2) := by decide +kernel
theorem dCM_isSpecial_46 : decode cCM_isSpecial 46 = .ok (.aload_n 0, 1) := by decide +kernel
theorem dCM_isSpecial_47 : decode cCM_isSpecial 47 = .ok (.iload 5, 2) := by decide +kernel
theorem dCM_isSpecial_49 : decode cCM_isSpecial 49 = .ok (.iload 6, 2) := by decide +kernel
theorem dCM_isSpecial_51 : decode cCM_isSpecial 51 = .ok (.invokevirtual 89, 3) := by decide +kernel
theorem dCM_isSpecial_54 : decode cCM_isSpecial 54 = .ok (.ifCond .ne 29, 3) := by decide +kernel
theorem dCM_isSpecial_57 : decode cCM_isSpecial 57 = .ok (.aload_n 0, 1) := by decide +kernel
theorem dCM_isSpecial_58 : decode cCM_isSpecial 58 = .ok (.getfield 47, 3) := by decide +kernel
theorem dCM_isSpecial_61 : decode cCM_isSpecial 61 = .ok (.iload 4, 2) := by decide +kernel
theorem dCM_isSpecial_63 : decode cCM_isSpecial 63 = .ok (.iaload, 1) := by decide +kernel
theorem dCM_isSpecial_64 : decode cCM_isSpecial 64 = .ok (.iconst 2, 1) := by decide +kernel
theorem dCM_isSpecial_65 : decode cCM_isSpecial 65 = .ok (.if_icmp .ne 16, 3) := by decide +kernel
theorem dCM_isSpecial_68 : decode cCM_isSpecial 68 = .ok (.aload_n 0, 1) := by decide +kernel
theorem dCM_isSpecial_69 : decode cCM_isSpecial 69 = .ok (.iload 5, 2) := by decide +kernel
theorem dCM_isSpecial_71 : decode cCM_isSpecial 71 = .ok (.iload 6, 2) := by decide +kernel
theorem dCM_isSpecial_73 : decode cCM_isSpecial 73 = .ok (.iload 4, 2) := by decide +kernel
theorem dCM_isSpecial_75 : decode cCM_isSpecial 75 = .ok (.invokevirtual 156, 3) := by decide +kernel
theorem dCM_isSpecial_78 : decode cCM_isSpecial 78 = .ok (.ifCond .ne 5, 3) := by decide +kernel
theorem dCM_isSpecial_81 : decode cCM_isSpecial 81 = .ok (.iconst 0, 1) := by decide +kernel
theorem dCM_isSpecial_82 : decode cCM_isSpecial 82 = .ok (.ireturn, 1) := by decide +kernel
theorem dCM_isSpecial_83 : decode cCM_isSpecial 83 = .ok (.iinc 4 1, 3) := by decide +kernel
theorem dCM_isSpecial_86 : decode cCM_isSpecial 86 = .ok (.goto (-69), 3) := by decide +kernel
theorem dCM_isSpecial_89 : decode cCM_isSpecial 89 = .ok (.iload_n 3, 1) := by decide +kernel
theorem dCM_isSpecial_90 : decode cCM_isSpecial 90 = .ok (.ifCond .eq 50, 3) := by decide +kernel
theorem dCM_isSpecial_93 : decode cCM_isSpecial 93 = .ok (.aload_n 0, 1) := by decide +kernel
theorem dCM_isSpecial_94 : decode cCM_isSpecial 94 = .ok (.aload_n 0, 1) := by decide +kernel
theorem dCM_isSpecial_95 : decode cCM_isSpecial 95 = .ok (.getfield 41, 3) := by decide +kernel
theorem dCM_isSpecial_98 : decode cCM_isSpecial 98 = .ok (.iconst 4, 1) := by decide +kernel
theorem dCM_isSpecial_99 : decode cCM_isSpecial 99 = .ok (.iload_n 1, 1) := by decide +kernel
theorem dCM_isSpecial_100 : decode cCM_isSpecial 100 = .ok (.imul, 1) := by decide +kernel
theorem dCM_isSpecial_101 : decode cCM_isSpecial 101 = .ok (.aload_n 0, 1) := by decide +kernel
theorem dCM_isSpecial_102 : decode cCM_isSpecial 102 = .ok (.getfield 38, 3) := by decide +kernel
theorem dCM_isSpecial_105 : decode cCM_isSpecial 105 = .ok (.iload_n 1, 1) := by decide +kernel
theorem dCM_isSpecial_106 : decode cCM_isSpecial 106 = .ok (.iaload, 1) := by decide +kernel
theorem dCM_isSpecial_107 : decode cCM_isSpecial 107 = .ok (.iadd, 1) := by decide +kernel
theorem dCM_isSpecial_108 : decode cCM_isSpecial 108 = .ok (.iconst 1, 1) := by decide +kernel
theorem dCM_isSpecial_109 : decode cCM_isSpecial 109 = .ok (.isub, 1) := by decide +kernel
theorem dCM_isSpecial_110 : decode cCM_isSpecial 110 = .ok (.iaload, 1) := by decide +kernel
theorem dCM_isSpecial_111 : decode cCM_isSpecial 111 = .ok (.bipush 64, 2) := by decide +kernel
theorem dCM_isSpecial_113 : decode cCM_isSpecial 113 = .ok (.isub, 1) := by decide +kernel
theorem dCM_isSpecial_114 : decode cCM_isSpecial 114 = .ok (.aload_n 0, 1) := by decide +kernel
theorem dCM_isSpecial_115 : decode cCM_isSpecial 115 = .ok (.getfield 41, 3) := by decide +kernel
theorem dCM_isSpecial_118 : decode cCM_isSpecial 118 = .ok (.iconst 4, 1) := by decide +kernel
theorem dCM_isSpecial_119 : decode cCM_isSpecial 119 = .ok (.iload_n 2, 1) := by decide +kernel
theorem dCM_isSpecial_120 : decode cCM_isSpecial 120 = .ok (.imul, 1) := by decide +kernel
theorem dCM_isSpecial_121 : decode cCM_isSpecial 121 = .ok (.aload_n 0, 1) := by decide +kernel
theorem dCM_isSpecial_122 : decode cCM_isSpecial 122 = .ok (.getfield 38, 3) := by decide +kernel
theorem dCM_isSpecial_125 : decode cCM_isSpecial 125 = .ok (.iload_n 2, 1) := by decide +kernel
theorem dCM_isSpecial_126 : decode cCM_isSpecial 126 = .ok (.iaload, 1) := by decide +kernel
theorem dCM_isSpecial_127 : decode cCM_isSpecial 127 = .ok (.iadd, 1) := by decide +kernel
theorem dCM_isSpecial_128 : decode cCM_isSpecial 128 = .ok (.iconst 1, 1) := by decide +kernel
theorem dCM_isSpecial_129 : decode cCM_isSpecial 129 = .ok (.isub, 1) := by decide +kernel
theorem dCM_isSpecial_130 : decode cCM_isSpecial 130 = .ok (.iaload, 1) := by decide +kernel
theorem dCM_isSpecial_131 : decode cCM_isSpecial 131 = .ok (.bipush 64, 2) := by decide +kernel
theorem dCM_isSpecial_133 : decode cCM_isSpecial 133 = .ok (.isub, 1) := by decide +kernel
theorem dCM_isSpecial_134 : decode cCM_isSpecial 134 = .ok (.invokevirtual 89, 3) := by decide +kernel
theorem dCM_isSpecial_137 : decode cCM_isSpecial 137 = .ok (.ifCond .eq 7, 3) := by decide +kernel
theorem dCM_isSpecial_140 : decode cCM_isSpecial 140 = .ok (.iconst 1, 1) := by decide +kernel
theorem dCM_isSpecial_141 : decode cCM_isSpecial 141 = .ok (.goto 4, 3) := by decide +kernel
theorem dCM_isSpecial_144 : decode cCM_isSpecial 144 = .ok (.iconst 0, 1) := by decide +kernel
theorem dCM_isSpecial_145 : decode cCM_isSpecial 145 = .ok (.ireturn, 1) := by decide +kernel
theorem dCM_hasShape_0 : decode cCM_hasShape 0 = .ok (.aload_n 0, 1) := by decide +kernel
theorem dCM_hasShape_1 : decode cCM_hasShape 1 = .ok (.iload_n 1, 1) := by decide +kernel
theorem dCM_hasShape_2 : decode cCM_hasShape 2 = .ok (.invokevirtual 131, 3) := by decide +kernel
theorem dCM_hasShape_5 : decode cCM_hasShape 5 = .ok (.istore_n 3, 1) := by decide +kernel
theorem dCM_hasShape_6 : decode cCM_hasShape 6 = .ok (.iload_n 3, 1) := by decide +kernel
theorem dCM_hasShape_7 : decode cCM_hasShape 7 = .ok (.ifCond .lt 55, 3) := by decide +kernel
theorem dCM_hasShape_10 : decode cCM_hasShape 10 = .ok (.aload_n 0, 1) := by decide +kernel
theorem dCM_hasShape_11 : decode cCM_hasShape 11 = .ok (.getfield 38, 3) := by decide +kernel
theorem dCM_hasShape_14 : decode cCM_hasShape 14 = .ok (.iload_n 3, 1) := by decide +kernel
theorem dCM_hasShape_15 : decode cCM_hasShape 15 = .ok (.iaload, 1) := by decide +kernel
theorem dCM_hasShape_16 : decode cCM_hasShape 16 = .ok (.aload_n 0, 1) := by decide +kernel
theorem dCM_hasShape_17 : decode cCM_hasShape 17 = .ok (.getfield 50, 3) := by decide +kernel
theorem dCM_hasShape_20 : decode cCM_hasShape 20 = .ok (.iload_n 2, 1) := by decide +kernel
theorem dCM_hasShape_21 : decode cCM_hasShape 21 = .ok (.iaload, 1) := by decide +kernel
theorem dCM_hasShape_22 : decode cCM_hasShape 22 = .ok (.if_icmp .ne 40, 3) := by decide +kernel
theorem dCM_hasShape_25 : decode cCM_hasShape 25 = .ok (.aload_n 0, 1) := by decide +kernel
theorem dCM_hasShape_26 : decode cCM_hasShape 26 = .ok (.getfield 35, 3) := by decide +kernel
theorem dCM_hasShape_29 : decode cCM_hasShape 29 = .ok (.iload_n 3, 1) := by decide +kernel
theorem dCM_hasShape_30 : decode cCM_hasShape 30 = .ok (.iaload, 1) := by decide +kernel
theorem dCM_hasShape_31 : decode cCM_hasShape 31 = .ok (.iconst (-1), 1) := by decide +kernel
theorem dCM_hasShape_32 : decode cCM_hasShape 32 = .ok (.if_icmp .ne 7, 3) := by decide +kernel
theorem dCM_hasShape_35 : decode cCM_hasShape 35 = .ok (.iconst 1, 1) := by decide +kernel
theorem dCM_hasShape_36 : decode cCM_hasShape 36 = .ok (.goto 4, 3) := by decide +kernel
theorem dCM_hasShape_39 : decode cCM_hasShape 39 = .ok (.iconst 0, 1) := by decide +kernel
theorem dCM_hasShape_40 : decode cCM_hasShape 40 = .ok (.aload_n 0, 1) := by decide +kernel
theorem dCM_hasShape_41 : decode cCM_hasShape 41 = .ok (.getfield 56, 3) := by decide +kernel
theorem dCM_hasShape_44 : decode cCM_hasShape 44 = .ok (.iload_n 2, 1) := by decide +kernel
theorem dCM_hasShape_45 : decode cCM_hasShape 45 = .ok (.iaload, 1) := by decide +kernel
theorem dCM_hasShape_46 : decode cCM_hasShape 46 = .ok (.iconst (-1), 1) := by decide +kernel
theorem dCM_hasShape_47 : decode cCM_hasShape 47 = .ok (.if_icmp .ne 7, 3) := by decide +kernel
theorem dCM_hasShape_50 : decode cCM_hasShape 50 = .ok (.iconst 1, 1) := by decide +kernel
theorem dCM_hasShape_51 : decode cCM_hasShape 51 = .ok (.goto 4, 3) := by decide +kernel
theorem dCM_hasShape_54 : decode cCM_hasShape 54 = .ok (.iconst 0, 1) := by decide +kernel
theorem dCM_hasShape_55 : decode cCM_hasShape 55 = .ok (.if_icmp .ne 7, 3) := by decide +kernel
theorem dCM_hasShape_58 : decode cCM_hasShape 58 = .ok (.iconst 1, 1) := by decide +kernel
theorem dCM_hasShape_59 : decode cCM_hasShape 59 = .ok (.goto 4, 3) := by decide +kernel
theorem dCM_hasShape_62 : decode cCM_hasShape 62 = .ok (.iconst 0, 1) := by decide +kernel
theorem dCM_hasShape_63 : decode cCM_hasShape 63 = .ok (.ireturn, 1) := by decide +kernel
theorem dCM_passes_0 : decode cCM_passes 0 = .ok (.iload_n 3, 1) := by decide +kernel
theorem dCM_passes_1 : decode cCM_passes 1 = .ok (.iconst 1, 1) := by decide +kernel
