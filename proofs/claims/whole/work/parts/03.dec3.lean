theorem dC2_spreadType_3 : decode cC2_spreadType 3 = .ok (.getfield 28, 3) := by decide +kernel
theorem dC2_spreadType_6 : decode cC2_spreadType 6 = .ok (.iload_n 1, 1) := by decide +kernel
theorem dC2_spreadType_7 : decode cC2_spreadType 7 = .ok (.iaload, 1) := by decide +kernel
theorem dC2_spreadType_8 : decode cC2_spreadType 8 = .ok (.iconst 1, 1) := by decide +kernel
theorem dC2_spreadType_9 : decode cC2_spreadType 9 = .ok (.isub, 1) := by decide +kernel
theorem dC2_spreadType_10 : decode cC2_spreadType 10 = .ok (.iconst 1, 1) := by decide +kernel
theorem dC2_spreadType_11 : decode cC2_spreadType 11 = .ok (.invokevirtual 104, 3) := by decide +kernel
theorem dC2_spreadType_14 : decode cC2_spreadType 14 = .ok (.ireturn, 1) := by decide +kernel
theorem dC3_isToldLambda_0 : decode cC3_isToldLambda 0 = .ok (.aload_n 0, 1) := by decide +kernel
theorem dC3_isToldLambda_1 : decode cC3_isToldLambda 1 = .ok (.getfield 11, 3) := by decide +kernel
theorem dC3_isToldLambda_4 : decode cC3_isToldLambda 4 = .ok (.iload_n 1, 1) := by decide +kernel
theorem dC3_isToldLambda_5 : decode cC3_isToldLambda 5 = .ok (.baload, 1) := by decide +kernel
theorem dC3_isToldLambda_6 : decode cC3_isToldLambda 6 = .ok (.ifCond .eq 16, 3) := by decide +kernel
theorem dC3_isToldLambda_9 : decode cC3_isToldLambda 9 = .ok (.aload_n 0, 1) := by decide +kernel
theorem dC3_isToldLambda_10 : decode cC3_isToldLambda 10 = .ok (.getfield 15, 3) := by decide +kernel
theorem dC3_isToldLambda_13 : decode cC3_isToldLambda 13 = .ok (.iload_n 1, 1) := by decide +kernel
theorem dC3_isToldLambda_14 : decode cC3_isToldLambda 14 = .ok (.baload, 1) := by decide +kernel
theorem dC3_isToldLambda_15 : decode cC3_isToldLambda 15 = .ok (.ifCond .eq 7, 3) := by decide +kernel
theorem dC3_isToldLambda_18 : decode cC3_isToldLambda 18 = .ok (.iconst 1, 1) := by decide +kernel
theorem dC3_isToldLambda_19 : decode cC3_isToldLambda 19 = .ok (.goto 4, 3) := by decide +kernel
theorem dC3_isToldLambda_22 : decode cC3_isToldLambda 22 = .ok (.iconst 0, 1) := by decide +kernel
theorem dC3_isToldLambda_23 : decode cC3_isToldLambda 23 = .ok (.ireturn, 1) := by decide +kernel
theorem dC3_valueOf_0 : decode cC3_valueOf 0 = .ok (.aload_n 0, 1) := by decide +kernel
theorem dC3_valueOf_1 : decode cC3_valueOf 1 = .ok (.getfield 18, 3) := by decide +kernel
theorem dC3_valueOf_4 : decode cC3_valueOf 4 = .ok (.iload_n 1, 1) := by decide +kernel
theorem dC3_valueOf_5 : decode cC3_valueOf 5 = .ok (.iaload, 1) := by decide +kernel
theorem dC3_valueOf_6 : decode cC3_valueOf 6 = .ok (.ireturn, 1) := by decide +kernel
theorem dC2_resultOf_0 : decode cC2_resultOf 0 = .ok (.aload_n 0, 1) := by decide +kernel
theorem dC2_resultOf_1 : decode cC2_resultOf 1 = .ok (.getfield 25, 3) := by decide +kernel
theorem dC2_resultOf_4 : decode cC2_resultOf 4 = .ok (.iload_n 1, 1) := by decide +kernel
theorem dC2_resultOf_5 : decode cC2_resultOf 5 = .ok (.iaload, 1) := by decide +kernel
theorem dC2_resultOf_6 : decode cC2_resultOf 6 = .ok (.ireturn, 1) := by decide +kernel
theorem dC1_isReference_0 : decode cC1_isReference 0 = .ok (.iload_n 1, 1) := by decide +kernel
theorem dC1_isReference_1 : decode cC1_isReference 1 = .ok (.iconst 3, 1) := by decide +kernel
theorem dC1_isReference_2 : decode cC1_isReference 2 = .ok (.if_icmp .le 7, 3) := by decide +kernel
theorem dC1_isReference_5 : decode cC1_isReference 5 = .ok (.iconst 1, 1) := by decide +kernel
theorem dC1_isReference_6 : decode cC1_isReference 6 = .ok (.goto 4, 3) := by decide +kernel
theorem dC1_isReference_9 : decode cC1_isReference 9 = .ok (.iconst 0, 1) := by decide +kernel
theorem dC1_isReference_10 : decode cC1_isReference 10 = .ok (.ireturn, 1) := by decide +kernel
theorem dC4_isFinerResult_0 : decode cC4_isFinerResult 0 = .ok (.aload_n 0, 1) := by decide +kernel
theorem dC4_isFinerResult_1 : decode cC4_isFinerResult 1 = .ok (.getfield 15, 3) := by decide +kernel
theorem dC4_isFinerResult_4 : decode cC4_isFinerResult 4 = .ok (.iload_n 1, 1) := by decide +kernel
theorem dC4_isFinerResult_5 : decode cC4_isFinerResult 5 = .ok (.invokevirtual 147, 3) := by decide +kernel
theorem dC4_isFinerResult_8 : decode cC4_isFinerResult 8 = .ok (.istore 4, 2) := by decide +kernel
theorem dC4_isFinerResult_10 : decode cC4_isFinerResult 10 = .ok (.aload_n 0, 1) := by decide +kernel
theorem dC4_isFinerResult_11 : decode cC4_isFinerResult 11 = .ok (.getfield 15, 3) := by decide +kernel
theorem dC4_isFinerResult_14 : decode cC4_isFinerResult 14 = .ok (.iload_n 2, 1) := by decide +kernel
theorem dC4_isFinerResult_15 : decode cC4_isFinerResult 15 = .ok (.invokevirtual 147, 3) := by decide +kernel
theorem dC4_isFinerResult_18 : decode cC4_isFinerResult 18 = .ok (.istore 5, 2) := by decide +kernel
theorem dC4_isFinerResult_20 : decode cC4_isFinerResult 20 = .ok (.aload_n 0, 1) := by decide +kernel
theorem dC4_isFinerResult_21 : decode cC4_isFinerResult 21 = .ok (.getfield 9, 3) := by decide +kernel
theorem dC4_isFinerResult_24 : decode cC4_isFinerResult 24 = .ok (.iload 4, 2) := by decide +kernel
theorem dC4_isFinerResult_26 : decode cC4_isFinerResult 26 = .ok (.invokevirtual 163, 3) := by decide +kernel
theorem dC4_isFinerResult_29 : decode cC4_isFinerResult 29 = .ok (.ifCond .eq 24, 3) := by decide +kernel
theorem dC4_isFinerResult_32 : decode cC4_isFinerResult 32 = .ok (.aload_n 0, 1) := by decide +kernel
theorem dC4_isFinerResult_33 : decode cC4_isFinerResult 33 = .ok (.getfield 9, 3) := by decide +kernel
theorem dC4_isFinerResult_36 : decode cC4_isFinerResult 36 = .ok (.iload 5, 2) := by decide +kernel
theorem dC4_isFinerResult_38 : decode cC4_isFinerResult 38 = .ok (.invokevirtual 166, 3) := by decide +kernel
theorem dC4_isFinerResult_41 : decode cC4_isFinerResult 41 = .ok (.ifCond .eq 12, 3) := by decide +kernel
theorem dC4_isFinerResult_44 : decode cC4_isFinerResult 44 = .ok (.aload_n 0, 1) := by decide +kernel
theorem dC4_isFinerResult_45 : decode cC4_isFinerResult 45 = .ok (.getfield 9, 3) := by decide +kernel
theorem dC4_isFinerResult_48 : decode cC4_isFinerResult 48 = .ok (.iload_n 3, 1) := by decide +kernel
theorem dC4_isFinerResult_49 : decode cC4_isFinerResult 49 = .ok (.invokevirtual 163, 3) := by decide +kernel
theorem dC4_isFinerResult_52 : decode cC4_isFinerResult 52 = .ok (.ireturn, 1) := by decide +kernel
theorem dC4_isFinerResult_53 : decode cC4_isFinerResult 53 = .ok (.aload_n 0, 1) := by decide +kernel
theorem dC4_isFinerResult_54 : decode cC4_isFinerResult 54 = .ok (.getfield 9, 3) := by decide +kernel
theorem dC4_isFinerResult_57 : decode cC4_isFinerResult 57 = .ok (.iload 4, 2) := by decide +kernel
theorem dC4_isFinerResult_59 : decode cC4_isFinerResult 59 = .ok (.invokevirtual 166, 3) := by decide +kernel
theorem dC4_isFinerResult_62 : decode cC4_isFinerResult 62 = .ok (.ifCond .eq 24, 3) := by decide +kernel
theorem dC4_isFinerResult_65 : decode cC4_isFinerResult 65 = .ok (.aload_n 0, 1) := by decide +kernel
theorem dC4_isFinerResult_66 : decode cC4_isFinerResult 66 = .ok (.getfield 9, 3) := by decide +kernel
theorem dC4_isFinerResult_69 : decode cC4_isFinerResult 69 = .ok (.iload 5, 2) := by decide +kernel
theorem dC4_isFinerResult_71 : decode cC4_isFinerResult 71 = .ok (.invokevirtual 163, 3) := by decide +kernel
theorem dC4_isFinerResult_74 : decode cC4_isFinerResult 74 = .ok (.ifCond .eq 12, 3) := by decide +kernel
theorem dC4_isFinerResult_77 : decode cC4_isFinerResult 77 = .ok (.aload_n 0, 1) := by decide +kernel
theorem dC4_isFinerResult_78 : decode cC4_isFinerResult 78 = .ok (.getfield 9, 3) := by decide +kernel
theorem dC4_isFinerResult_81 : decode cC4_isFinerResult 81 = .ok (.iload_n 3, 1) := by decide +kernel
theorem dC4_isFinerResult_82 : decode cC4_isFinerResult 82 = .ok (.invokevirtual 166, 3) := by decide +kernel
theorem dC4_isFinerResult_85 : decode cC4_isFinerResult 85 = .ok (.ireturn, 1) := by decide +kernel
theorem dC4_isFinerResult_86 : decode cC4_isFinerResult 86 = .ok (.aload_n 0, 1) := by decide +kernel
theorem dC4_isFinerResult_87 : decode cC4_isFinerResult 87 = .ok (.getfield 9, 3) := by decide +kernel
theorem dC4_isFinerResult_90 : decode cC4_isFinerResult 90 = .ok (.iload 4, 2) := by decide +kernel
theorem dC4_isFinerResult_92 : decode cC4_isFinerResult 92 = .ok (.iload 5, 2) := by decide +kernel
theorem dC4_isFinerResult_94 : decode cC4_isFinerResult 94 = .ok (.invokevirtual 150, 3) := by decide +kernel
theorem dC4_isFinerResult_97 : decode cC4_isFinerResult 97 = .ok (.ireturn, 1) := by decide +kernel
theorem dC4_isFinerFunction_0 : decode cC4_isFinerFunction 0 = .ok (.aload_n 0, 1) := by decide +kernel
theorem dC4_isFinerFunction_1 : decode cC4_isFinerFunction 1 = .ok (.getfield 15, 3) := by decide +kernel
theorem dC4_isFinerFunction_4 : decode cC4_isFinerFunction 4 = .ok (.iload_n 1, 1) := by decide +kernel
theorem dC4_isFinerFunction_5 : decode cC4_isFinerFunction 5 = .ok (.invokevirtual 116, 3) := by decide +kernel
theorem dC4_isFinerFunction_8 : decode cC4_isFinerFunction 8 = .ok (.istore 4, 2) := by decide +kernel
theorem dC4_isFinerFunction_10 : decode cC4_isFinerFunction 10 = .ok (.aload_n 0, 1) := by decide +kernel
theorem dC4_isFinerFunction_11 : decode cC4_isFinerFunction 11 = .ok (.getfield 15, 3) := by decide +kernel
theorem dC4_isFinerFunction_14 : decode cC4_isFinerFunction 14 = .ok (.iload_n 2, 1) := by decide +kernel
theorem dC4_isFinerFunction_15 : decode cC4_isFinerFunction 15 = .ok (.invokevirtual 116, 3) := by decide +kernel
theorem dC4_isFinerFunction_18 : decode cC4_isFinerFunction 18 = .ok (.istore 5, 2) := by decide +kernel
theorem dC4_isFinerFunction_20 : decode cC4_isFinerFunction 20 = .ok (.aload_n 0, 1) := by decide +kernel
theorem dC4_isFinerFunction_21 : decode cC4_isFinerFunction 21 = .ok (.getfield 19, 3) := by decide +kernel
theorem dC4_isFinerFunction_24 : decode cC4_isFinerFunction 24 = .ok (.iload_n 3, 1) := by decide +kernel
theorem dC4_isFinerFunction_25 : decode cC4_isFinerFunction 25 = .ok (.invokevirtual 136, 3) := by decide +kernel
theorem dC4_isFinerFunction_28 : decode cC4_isFinerFunction 28 = .ok (.ifCond .eq 15, 3) := by decide +kernel
theorem dC4_isFinerFunction_31 : decode cC4_isFinerFunction 31 = .ok (.iload 4, 2) := by decide +kernel
theorem dC4_isFinerFunction_33 : decode cC4_isFinerFunction 33 = .ok (.iconst (-1), 1) := by decide +kernel
theorem dC4_isFinerFunction_34 : decode cC4_isFinerFunction 34 = .ok (.if_icmp .eq 9, 3) := by decide +kernel
theorem dC4_isFinerFunction_37 : decode cC4_isFinerFunction 37 = .ok (.iload 5, 2) := by decide +kernel
theorem dC4_isFinerFunction_39 : decode cC4_isFinerFunction 39 = .ok (.iconst (-1), 1) := by decide +kernel
theorem dC4_isFinerFunction_40 : decode cC4_isFinerFunction 40 = .ok (.if_icmp .ne 5, 3) := by decide +kernel
theorem dC4_isFinerFunction_43 : decode cC4_isFinerFunction 43 = .ok (.iconst 0, 1) := by decide +kernel
theorem dC4_isFinerFunction_44 : decode cC4_isFinerFunction 44 = .ok (.ireturn, 1) := by decide +kernel
theorem dC4_isFinerFunction_45 : decode cC4_isFinerFunction 45 = .ok (.aload_n 0, 1) := by decide +kernel
theorem dC4_isFinerFunction_46 : decode cC4_isFinerFunction 46 = .ok (.getfield 9, 3) := by decide +kernel
theorem dC4_isFinerFunction_49 : decode cC4_isFinerFunction 49 = .ok (.iload_n 1, 1) := by decide +kernel
theorem dC4_isFinerFunction_50 : decode cC4_isFinerFunction 50 = .ok (.iload_n 2, 1) := by decide +kernel
theorem dC4_isFinerFunction_51 : decode cC4_isFinerFunction 51 = .ok (.invokevirtual 150, 3) := by decide +kernel
theorem dC4_isFinerFunction_54 : decode cC4_isFinerFunction 54 = .ok (.ifCond .ne 29, 3) := by decide +kernel
theorem dC4_isFinerFunction_57 : decode cC4_isFinerFunction 57 = .ok (.aload_n 0, 1) := by decide +kernel
theorem dC4_isFinerFunction_58 : decode cC4_isFinerFunction 58 = .ok (.getfield 9, 3) := by decide +kernel
theorem dC4_isFinerFunction_61 : decode cC4_isFinerFunction 61 = .ok (.iload_n 2, 1) := by decide +kernel
theorem dC4_isFinerFunction_62 : decode cC4_isFinerFunction 62 = .ok (.iload_n 1, 1) := by decide +kernel
theorem dC4_isFinerFunction_63 : decode cC4_isFinerFunction 63 = .ok (.invokevirtual 150, 3) := by decide +kernel
theorem dC4_isFinerFunction_66 : decode cC4_isFinerFunction 66 = .ok (.ifCond .ne 17, 3) := by decide +kernel
theorem dC4_isFinerFunction_69 : decode cC4_isFinerFunction 69 = .ok (.aload_n 0, 1) := by decide +kernel
theorem dC4_isFinerFunction_70 : decode cC4_isFinerFunction 70 = .ok (.getfield 15, 3) := by decide +kernel
theorem dC4_isFinerFunction_73 : decode cC4_isFinerFunction 73 = .ok (.iload 4, 2) := by decide +kernel
theorem dC4_isFinerFunction_75 : decode cC4_isFinerFunction 75 = .ok (.iload 5, 2) := by decide +kernel
theorem dC4_isFinerFunction_77 : decode cC4_isFinerFunction 77 = .ok (.invokevirtual 88, 3) := by decide +kernel
theorem dC4_isFinerFunction_80 : decode cC4_isFinerFunction 80 = .ok (.ifCond .ne 5, 3) := by decide +kernel
theorem dC4_isFinerFunction_83 : decode cC4_isFinerFunction 83 = .ok (.iconst 0, 1) := by decide +kernel
theorem dC4_isFinerFunction_84 : decode cC4_isFinerFunction 84 = .ok (.ireturn, 1) := by decide +kernel
theorem dC4_isFinerFunction_85 : decode cC4_isFinerFunction 85 = .ok (.aload_n 0, 1) := by decide +kernel
theorem dC4_isFinerFunction_86 : decode cC4_isFinerFunction 86 = .ok (.getfield 15, 3) := by decide +kernel
theorem dC4_isFinerFunction_89 : decode cC4_isFinerFunction 89 = .ok (.iload 5, 2) := by decide +kernel
theorem dC4_isFinerFunction_91 : decode cC4_isFinerFunction 91 = .ok (.invokevirtual 120, 3) := by decide +kernel
theorem dC4_isFinerFunction_94 : decode cC4_isFinerFunction 94 = .ok (.ifCond .eq 34, 3) := by decide +kernel
theorem dC4_isFinerFunction_97 : decode cC4_isFinerFunction 97 = .ok (.aload_n 0, 1) := by decide +kernel
theorem dC4_isFinerFunction_98 : decode cC4_isFinerFunction 98 = .ok (.getfield 15, 3) := by decide +kernel
theorem dC4_isFinerFunction_101 : decode cC4_isFinerFunction 101 = .ok (.iload 4, 2) := by decide +kernel
theorem dC4_isFinerFunction_103 : decode cC4_isFinerFunction 103 = .ok (.invokevirtual 120, 3) := by decide +kernel
theorem dC4_isFinerFunction_106 : decode cC4_isFinerFunction 106 = .ok (.ifCond .eq 26, 3) := by decide +kernel
theorem dC4_isFinerFunction_109 : decode cC4_isFinerFunction 109 = .ok (.aload_n 0, 1) := by decide +kernel
theorem dC4_isFinerFunction_110 : decode cC4_isFinerFunction 110 = .ok (.iload 4, 2) := by decide +kernel
theorem dC4_isFinerFunction_112 : decode cC4_isFinerFunction 112 = .ok (.iload 5, 2) := by decide +kernel
theorem dC4_isFinerFunction_114 : decode cC4_isFinerFunction 114 = .ok (.aload_n 0, 1) := by decide +kernel
theorem dC4_isFinerFunction_115 : decode cC4_isFinerFunction 115 = .ok (.getfield 19, 3) := by decide +kernel
theorem dC4_isFinerFunction_118 : decode cC4_isFinerFunction 118 = .ok (.iload_n 3, 1) := by decide +kernel
theorem dC4_isFinerFunction_119 : decode cC4_isFinerFunction 119 = .ok (.invokevirtual 128, 3) := by decide +kernel
theorem dC4_isFinerFunction_122 : decode cC4_isFinerFunction 122 = .ok (.invokevirtual 160, 3) := by decide +kernel
theorem dC4_isFinerFunction_125 : decode cC4_isFinerFunction 125 = .ok (.ifCond .eq 7, 3) := by decide +kernel
theorem dC4_isFinerFunction_128 : decode cC4_isFinerFunction 128 = .ok (.iconst 1, 1) := by decide +kernel
theorem dC4_isFinerFunction_129 : decode cC4_isFinerFunction 129 = .ok (.goto 4, 3) := by decide +kernel
theorem dC4_isFinerFunction_132 : decode cC4_isFinerFunction 132 = .ok (.iconst 0, 1) := by decide +kernel
theorem dC4_isFinerFunction_133 : decode cC4_isFinerFunction 133 = .ok (.ireturn, 1) := by decide +kernel
theorem dC4_isAsSpecialAs_0 : decode cC4_isAsSpecialAs 0 = .ok (.aload_n 0, 1) := by decide +kernel
theorem dC4_isAsSpecialAs_1 : decode cC4_isAsSpecialAs 1 = .ok (.getfield 36, 3) := by decide +kernel
theorem dC4_isAsSpecialAs_4 : decode cC4_isAsSpecialAs 4 = .ok (.iconst 3, 1) := by decide +kernel
theorem dC4_isAsSpecialAs_5 : decode cC4_isAsSpecialAs 5 = .ok (.if_icmp .ne 7, 3) := by decide +kernel
theorem dC4_isAsSpecialAs_8 : decode cC4_isAsSpecialAs 8 = .ok (.iconst 1, 1) := by decide +kernel
theorem dC4_isAsSpecialAs_9 : decode cC4_isAsSpecialAs 9 = .ok (.goto 4, 3) := by decide +kernel
theorem dC4_isAsSpecialAs_12 : decode cC4_isAsSpecialAs 12 = .ok (.iconst 0, 1) := by decide +kernel
theorem dC4_isAsSpecialAs_13 : decode cC4_isAsSpecialAs 13 = .ok (.istore_n 3, 1) := by decide +kernel
theorem dC4_isAsSpecialAs_14 : decode cC4_isAsSpecialAs 14 = .ok (.iconst 0, 1) := by decide +kernel
theorem dC4_isAsSpecialAs_15 : decode cC4_isAsSpecialAs 15 = .ok (.istore 4, 2) := by decide +kernel
theorem dC4_isAsSpecialAs_17 : decode cC4_isAsSpecialAs 17 = .ok (.iload 4, 2) := by decide +kernel
theorem dC4_isAsSpecialAs_19 : decode cC4_isAsSpecialAs 19 = .ok (.aload_n 0, 1) := by decide +kernel
theorem dC4_isAsSpecialAs_20 : decode cC4_isAsSpecialAs 20 = .ok (.getfield 19, 3) := by decide +kernel
theorem dC4_isAsSpecialAs_23 : decode cC4_isAsSpecialAs 23 = .ok (.invokevirtual 101, 3) := by decide +kernel
theorem dC4_isAsSpecialAs_26 : decode cC4_isAsSpecialAs 26 = .ok (.if_icmp .ge 64, 3) := by decide +kernel
theorem dC4_isAsSpecialAs_29 : decode cC4_isAsSpecialAs 29 = .ok (.aload_n 0, 1) := by decide +kernel
theorem dC4_isAsSpecialAs_30 : decode cC4_isAsSpecialAs 30 = .ok (.getfield 15, 3) := by decide +kernel
theorem dC4_isAsSpecialAs_33 : decode cC4_isAsSpecialAs 33 = .ok (.iload_n 1, 1) := by decide +kernel
theorem dC4_isAsSpecialAs_34 : decode cC4_isAsSpecialAs 34 = .ok (.iload 4, 2) := by decide +kernel
theorem dC4_isAsSpecialAs_36 : decode cC4_isAsSpecialAs 36 = .ok (.iload_n 3, 1) := by decide +kernel
theorem dC4_isAsSpecialAs_37 : decode cC4_isAsSpecialAs 37 = .ok (.invokevirtual 109, 3) := by decide +kernel
theorem dC4_isAsSpecialAs_40 : decode cC4_isAsSpecialAs 40 = .ok (.istore 5, 2) := by decide +kernel
theorem dC4_isAsSpecialAs_42 : decode cC4_isAsSpecialAs 42 = .ok (.aload_n 0, 1) := by decide +kernel
theorem dC4_isAsSpecialAs_43 : decode cC4_isAsSpecialAs 43 = .ok (.getfield 15, 3) := by decide +kernel
theorem dC4_isAsSpecialAs_46 : decode cC4_isAsSpecialAs 46 = .ok (.iload_n 2, 1) := by decide +kernel
theorem dC4_isAsSpecialAs_47 : decode cC4_isAsSpecialAs 47 = .ok (.iload 4, 2) := by decide +kernel
theorem dC4_isAsSpecialAs_49 : decode cC4_isAsSpecialAs 49 = .ok (.iload_n 3, 1) := by decide +kernel
theorem dC4_isAsSpecialAs_50 : decode cC4_isAsSpecialAs 50 = .ok (.invokevirtual 109, 3) := by decide +kernel
theorem dC4_isAsSpecialAs_53 : decode cC4_isAsSpecialAs 53 = .ok (.istore 6, 2) := by decide +kernel
theorem dC4_isAsSpecialAs_55 : decode cC4_isAsSpecialAs 55 = .ok (.aload_n 0, 1) := by decide +kernel
theorem dC4_isAsSpecialAs_56 : decode cC4_isAsSpecialAs 56 = .ok (.getfield 9, 3) := by decide +kernel
theorem dC4_isAsSpecialAs_59 : decode cC4_isAsSpecialAs 59 = .ok (.iload 5, 2) := by decide +kernel
theorem dC4_isAsSpecialAs_61 : decode cC4_isAsSpecialAs 61 = .ok (.iload 6, 2) := by decide +kernel
theorem dC4_isAsSpecialAs_63 : decode cC4_isAsSpecialAs 63 = .ok (.invokevirtual 150, 3) := by decide +kernel
theorem dC4_isAsSpecialAs_66 : decode cC4_isAsSpecialAs 66 = .ok (.ifCond .ne 18, 3) := by decide +kernel
theorem dC4_isAsSpecialAs_69 : decode cC4_isAsSpecialAs 69 = .ok (.aload_n 0, 1) := by decide +kernel
theorem dC4_isAsSpecialAs_70 : decode cC4_isAsSpecialAs 70 = .ok (.iload 5, 2) := by decide +kernel
theorem dC4_isAsSpecialAs_72 : decode cC4_isAsSpecialAs 72 = .ok (.iload 6, 2) := by decide +kernel
theorem dC4_isAsSpecialAs_74 : decode cC4_isAsSpecialAs 74 = .ok (.iload 4, 2) := by decide +kernel
theorem dC4_isAsSpecialAs_76 : decode cC4_isAsSpecialAs 76 = .ok (.invokevirtual 153, 3) := by decide +kernel
theorem dC4_isAsSpecialAs_79 : decode cC4_isAsSpecialAs 79 = .ok (.ifCond .ne 5, 3) := by decide +kernel
theorem dC4_isAsSpecialAs_82 : decode cC4_isAsSpecialAs 82 = .ok (.iconst 0, 1) := by decide +kernel
theorem dC4_isAsSpecialAs_83 : decode cC4_isAsSpecialAs 83 = .ok (.ireturn, 1) := by decide +kernel
theorem dC4_isAsSpecialAs_84 : decode cC4_isAsSpecialAs 84 = .ok (.iinc 4 1, 3) := by decide +kernel
theorem dC4_isAsSpecialAs_87 : decode cC4_isAsSpecialAs 87 = .ok (.goto (-70), 3) := by decide +kernel
theorem dC4_isAsSpecialAs_90 : decode cC4_isAsSpecialAs 90 = .ok (.iload_n 3, 1) := by decide +kernel
theorem dC4_isAsSpecialAs_91 : decode cC4_isAsSpecialAs 91 = .ok (.ifCond .eq 29, 3) := by decide +kernel
theorem dC4_isAsSpecialAs_94 : decode cC4_isAsSpecialAs 94 = .ok (.aload_n 0, 1) := by decide +kernel
theorem dC4_isAsSpecialAs_95 : decode cC4_isAsSpecialAs 95 = .ok (.getfield 9, 3) := by decide +kernel
theorem dC4_isAsSpecialAs_98 : decode cC4_isAsSpecialAs 98 = .ok (.aload_n 0, 1) := by decide +kernel
theorem dC4_isAsSpecialAs_99 : decode cC4_isAsSpecialAs 99 = .ok (.getfield 15, 3) := by decide +kernel
theorem dC4_isAsSpecialAs_102 : decode cC4_isAsSpecialAs 102 = .ok (.iload_n 1, 1) := by decide +kernel
theorem dC4_isAsSpecialAs_103 : decode cC4_isAsSpecialAs 103 = .ok (.invokevirtual 157, 3) := by decide +kernel
theorem dC4_isAsSpecialAs_106 : decode cC4_isAsSpecialAs 106 = .ok (.aload_n 0, 1) := by decide +kernel
theorem dC4_isAsSpecialAs_107 : decode cC4_isAsSpecialAs 107 = .ok (.getfield 15, 3) := by decide +kernel
theorem dC4_isAsSpecialAs_110 : decode cC4_isAsSpecialAs 110 = .ok (.iload_n 2, 1) := by decide +kernel
theorem dC4_isAsSpecialAs_111 : decode cC4_isAsSpecialAs 111 = .ok (.invokevirtual 157, 3) := by decide +kernel
theorem dC4_isAsSpecialAs_114 : decode cC4_isAsSpecialAs 114 = .ok (.invokevirtual 150, 3) := by decide +kernel
theorem dC4_isAsSpecialAs_117 : decode cC4_isAsSpecialAs 117 = .ok (.ifCond .eq 7, 3) := by decide +kernel
theorem dC4_isAsSpecialAs_120 : decode cC4_isAsSpecialAs 120 = .ok (.iconst 1, 1) := by decide +kernel
theorem dC4_isAsSpecialAs_121 : decode cC4_isAsSpecialAs 121 = .ok (.goto 4, 3) := by decide +kernel
theorem dC4_isAsSpecialAs_124 : decode cC4_isAsSpecialAs 124 = .ok (.iconst 0, 1) := by decide +kernel
theorem dC4_isAsSpecialAs_125 : decode cC4_isAsSpecialAs 125 = .ok (.ireturn, 1) := by decide +kernel
theorem dC4_compareAll_0 : decode cC4_compareAll 0 = .ok (.iconst 0, 1) := by decide +kernel
theorem dC4_compareAll_1 : decode cC4_compareAll 1 = .ok (.istore_n 1, 1) := by decide +kernel
theorem dC4_compareAll_2 : decode cC4_compareAll 2 = .ok (.iload_n 1, 1) := by decide +kernel
theorem dC4_compareAll_3 : decode cC4_compareAll 3 = .ok (.aload_n 0, 1) := by decide +kernel
theorem dC4_compareAll_4 : decode cC4_compareAll 4 = .ok (.getfield 40, 3) := by decide +kernel
theorem dC4_compareAll_7 : decode cC4_compareAll 7 = .ok (.if_icmp .ge 70, 3) := by decide +kernel
theorem dC4_compareAll_10 : decode cC4_compareAll 10 = .ok (.aload_n 0, 1) := by decide +kernel
theorem dC4_compareAll_11 : decode cC4_compareAll 11 = .ok (.getfield 29, 3) := by decide +kernel
theorem dC4_compareAll_14 : decode cC4_compareAll 14 = .ok (.iload_n 1, 1) := by decide +kernel
theorem dC4_compareAll_15 : decode cC4_compareAll 15 = .ok (.iaload, 1) := by decide +kernel
theorem dC4_compareAll_16 : decode cC4_compareAll 16 = .ok (.istore_n 2, 1) := by decide +kernel
theorem dC4_compareAll_17 : decode cC4_compareAll 17 = .ok (.aload_n 0, 1) := by decide +kernel
theorem dC4_compareAll_18 : decode cC4_compareAll 18 = .ok (.getfield 32, 3) := by decide +kernel
theorem dC4_compareAll_21 : decode cC4_compareAll 21 = .ok (.iload_n 2, 1) := by decide +kernel
theorem dC4_compareAll_22 : decode cC4_compareAll 22 = .ok (.lconst 0, 1) := by decide +kernel
theorem dC4_compareAll_23 : decode cC4_compareAll 23 = .ok (.lastore, 1) := by decide +kernel
theorem dC4_compareAll_24 : decode cC4_compareAll 24 = .ok (.iconst 0, 1) := by decide +kernel
theorem dC4_compareAll_25 : decode cC4_compareAll 25 = .ok (.istore_n 3, 1) := by decide +kernel
theorem dC4_compareAll_26 : decode cC4_compareAll 26 = .ok (.iload_n 3, 1) := by decide +kernel
theorem dC4_compareAll_27 : decode cC4_compareAll 27 = .ok (.aload_n 0, 1) := by decide +kernel
theorem dC4_compareAll_28 : decode cC4_compareAll 28 = .ok (.getfield 40, 3) := by decide +kernel
theorem dC4_compareAll_31 : decode cC4_compareAll 31 = .ok (.if_icmp .ge 40, 3) := by decide +kernel
theorem dC4_compareAll_34 : decode cC4_compareAll 34 = .ok (.aload_n 0, 1) := by decide +kernel
theorem dC4_compareAll_35 : decode cC4_compareAll 35 = .ok (.iload_n 2, 1) := by decide +kernel
theorem dC4_compareAll_36 : decode cC4_compareAll 36 = .ok (.aload_n 0, 1) := by decide +kernel
theorem dC4_compareAll_37 : decode cC4_compareAll 37 = .ok (.getfield 29, 3) := by decide +kernel
theorem dC4_compareAll_40 : decode cC4_compareAll 40 = .ok (.iload_n 3, 1) := by decide +kernel
theorem dC4_compareAll_41 : decode cC4_compareAll 41 = .ok (.iaload, 1) := by decide +kernel
theorem dC4_compareAll_42 : decode cC4_compareAll 42 = .ok (.invokevirtual 85, 3) := by decide +kernel
theorem dC4_compareAll_45 : decode cC4_compareAll 45 = .ok (.ifCond .eq 20, 3) := by decide +kernel
theorem dC4_compareAll_48 : decode cC4_compareAll 48 = .ok (.aload_n 0, 1) := by decide +kernel
theorem dC4_compareAll_49 : decode cC4_compareAll 49 = .ok (.getfield 32, 3) := by decide +kernel
theorem dC4_compareAll_52 : decode cC4_compareAll 52 = .ok (.iload_n 2, 1) := by decide +kernel
theorem dC4_compareAll_53 : decode cC4_compareAll 53 = .ok (.dup2, 1) := by decide +kernel
theorem dC4_compareAll_54 : decode cC4_compareAll 54 = .ok (.laload, 1) := by decide +kernel
theorem dC4_compareAll_55 : decode cC4_compareAll 55 = .ok (.lconst 1, 1) := by decide +kernel
theorem dC4_compareAll_56 : decode cC4_compareAll 56 = .ok (.aload_n 0, 1) := by decide +kernel
theorem dC4_compareAll_57 : decode cC4_compareAll 57 = .ok (.getfield 29, 3) := by decide +kernel
theorem dC4_compareAll_60 : decode cC4_compareAll 60 = .ok (.iload_n 3, 1) := by decide +kernel
theorem dC4_compareAll_61 : decode cC4_compareAll 61 = .ok (.iaload, 1) := by decide +kernel
theorem dC4_compareAll_62 : decode cC4_compareAll 62 = .ok (.lshl, 1) := by decide +kernel
theorem dC4_compareAll_63 : decode cC4_compareAll 63 = .ok (.lor, 1) := by decide +kernel
theorem dC4_compareAll_64 : decode cC4_compareAll 64 = .ok (.lastore, 1) := by decide +kernel
theorem dC4_compareAll_65 : decode cC4_compareAll 65 = .ok (.iinc 3 1, 3) := by decide +kernel
theorem dC4_compareAll_68 : decode cC4_compareAll 68 = .ok (.goto (-42), 3) := by decide +kernel
theorem dC4_compareAll_71 : decode cC4_compareAll 71 = .ok (.iinc 1 1, 3) := by decide +kernel
theorem dC4_compareAll_74 : decode cC4_compareAll 74 = .ok (.goto (-72), 3) := by decide +kernel
theorem dC4_compareAll_77 : decode cC4_compareAll 77 = .ok (.return_, 1) := by decide +kernel
theorem dC4_pick_0 : decode cC4_pick 0 = .ok (.iconst (-1), 1) := by decide +kernel
theorem dC4_pick_1 : decode cC4_pick 1 = .ok (.istore_n 1, 1) := by decide +kernel
theorem dC4_pick_2 : decode cC4_pick 2 = .ok (.iconst (-1), 1) := by decide +kernel
theorem dC4_pick_3 : decode cC4_pick 3 = .ok (.istore_n 2, 1) := by decide +kernel
theorem dC4_pick_4 : decode cC4_pick 4 = .ok (.iconst 0, 1) := by decide +kernel
theorem dC4_pick_5 : decode cC4_pick 5 = .ok (.istore_n 3, 1) := by decide +kernel
theorem dC4_pick_6 : decode cC4_pick 6 = .ok (.iconst 0, 1) := by decide +kernel
theorem dC4_pick_7 : decode cC4_pick 7 = .ok (.istore 4, 2) := by decide +kernel
theorem dC4_pick_9 : decode cC4_pick 9 = .ok (.iload 4, 2) := by decide +kernel
theorem dC4_pick_11 : decode cC4_pick 11 = .ok (.aload_n 0, 1) := by decide +kernel
theorem dC4_pick_12 : decode cC4_pick 12 = .ok (.getfield 40, 3) := by decide +kernel
theorem dC4_pick_15 : decode cC4_pick 15 = .ok (.if_icmp .ge 81, 3) := by decide +kernel
theorem dC4_pick_18 : decode cC4_pick 18 = .ok (.aload_n 0, 1) := by decide +kernel
theorem dC4_pick_19 : decode cC4_pick 19 = .ok (.getfield 29, 3) := by decide +kernel
theorem dC4_pick_22 : decode cC4_pick 22 = .ok (.iload 4, 2) := by decide +kernel
theorem dC4_pick_24 : decode cC4_pick 24 = .ok (.iaload, 1) := by decide +kernel
theorem dC4_pick_25 : decode cC4_pick 25 = .ok (.istore 5, 2) := by decide +kernel
theorem dC4_pick_27 : decode cC4_pick 27 = .ok (.aload_n 0, 1) := by decide +kernel
theorem dC4_pick_28 : decode cC4_pick 28 = .ok (.getfield 32, 3) := by decide +kernel
theorem dC4_pick_31 : decode cC4_pick 31 = .ok (.iload 5, 2) := by decide +kernel
theorem dC4_pick_33 : decode cC4_pick 33 = .ok (.laload, 1) := by decide +kernel
theorem dC4_pick_34 : decode cC4_pick 34 = .ok (.aload_n 0, 1) := by decide +kernel
theorem dC4_pick_35 : decode cC4_pick 35 = .ok (.getfield 47, 3) := by decide +kernel
theorem dC4_pick_38 : decode cC4_pick 38 = .ok (.lcmp, 1) := by decide +kernel
theorem dC4_pick_39 : decode cC4_pick 39 = .ok (.ifCond .eq 6, 3) := by decide +kernel
theorem dC4_pick_42 : decode cC4_pick 42 = .ok (.goto 48, 3) := by decide +kernel
theorem dC4_pick_45 : decode cC4_pick 45 = .ok (.iload_n 1, 1) := by decide +kernel
theorem dC4_pick_46 : decode cC4_pick 46 = .ok (.iconst (-1), 1) := by decide +kernel
theorem dC4_pick_47 : decode cC4_pick 47 = .ok (.if_icmp .ne 9, 3) := by decide +kernel
theorem dC4_pick_50 : decode cC4_pick 50 = .ok (.iload 5, 2) := by decide +kernel
theorem dC4_pick_52 : decode cC4_pick 52 = .ok (.istore_n 1, 1) := by decide +kernel
theorem dC4_pick_53 : decode cC4_pick 53 = .ok (.goto 19, 3) := by decide +kernel
theorem dC4_pick_56 : decode cC4_pick 56 = .ok (.aload_n 0, 1) := by decide +kernel
theorem dC4_pick_57 : decode cC4_pick 57 = .ok (.getfield 15, 3) := by decide +kernel
theorem dC4_pick_60 : decode cC4_pick 60 = .ok (.iload_n 1, 1) := by decide +kernel
theorem dC4_pick_61 : decode cC4_pick 61 = .ok (.iload 5, 2) := by decide +kernel
theorem dC4_pick_63 : decode cC4_pick 63 = .ok (.invokevirtual 88, 3) := by decide +kernel
theorem dC4_pick_66 : decode cC4_pick 66 = .ok (.ifCond .ne 6, 3) := by decide +kernel
theorem dC4_pick_69 : decode cC4_pick 69 = .ok (.bipush (-6), 2) := by decide +kernel
theorem dC4_pick_71 : decode cC4_pick 71 = .ok (.ireturn, 1) := by decide +kernel
theorem dC4_pick_72 : decode cC4_pick 72 = .ok (.aload_n 0, 1) := by decide +kernel
theorem dC4_pick_73 : decode cC4_pick 73 = .ok (.getfield 15, 3) := by decide +kernel
theorem dC4_pick_76 : decode cC4_pick 76 = .ok (.iload 5, 2) := by decide +kernel
theorem dC4_pick_78 : decode cC4_pick 78 = .ok (.invokevirtual 91, 3) := by decide +kernel
theorem dC4_pick_81 : decode cC4_pick 81 = .ok (.ifCond .ne 9, 3) := by decide +kernel
theorem dC4_pick_84 : decode cC4_pick 84 = .ok (.iload 5, 2) := by decide +kernel
theorem dC4_pick_86 : decode cC4_pick 86 = .ok (.istore_n 2, 1) := by decide +kernel
theorem dC4_pick_87 : decode cC4_pick 87 = .ok (.iinc 3 1, 3) := by decide +kernel
theorem dC4_pick_90 : decode cC4_pick 90 = .ok (.iinc 4 1, 3) := by decide +kernel
theorem dC4_pick_93 : decode cC4_pick 93 = .ok (.goto (-84), 3) := by decide +kernel
theorem dC4_pick_96 : decode cC4_pick 96 = .ok (.iload_n 1, 1) := by decide +kernel
theorem dC4_pick_97 : decode cC4_pick 97 = .ok (.iconst (-1), 1) := by decide +kernel
theorem dC4_pick_98 : decode cC4_pick 98 = .ok (.if_icmp .eq 8, 3) := by decide +kernel
theorem dC4_pick_101 : decode cC4_pick 101 = .ok (.iload_n 3, 1) := by decide +kernel
theorem dC4_pick_102 : decode cC4_pick 102 = .ok (.iconst 1, 1) := by decide +kernel
theorem dC4_pick_103 : decode cC4_pick 103 = .ok (.if_icmp .le 6, 3) := by decide +kernel
theorem dC4_pick_106 : decode cC4_pick 106 = .ok (.bipush (-6), 2) := by decide +kernel
theorem dC4_pick_108 : decode cC4_pick 108 = .ok (.ireturn, 1) := by decide +kernel
theorem dC4_pick_109 : decode cC4_pick 109 = .ok (.iload_n 3, 1) := by decide +kernel
theorem dC4_pick_110 : decode cC4_pick 110 = .ok (.iconst 1, 1) := by decide +kernel
theorem dC4_pick_111 : decode cC4_pick 111 = .ok (.if_icmp .ne 7, 3) := by decide +kernel
theorem dC4_pick_114 : decode cC4_pick 114 = .ok (.iload_n 2, 1) := by decide +kernel
theorem dC4_pick_115 : decode cC4_pick 115 = .ok (.goto 4, 3) := by decide +kernel
theorem dC4_pick_118 : decode cC4_pick 118 = .ok (.iload_n 1, 1) := by decide +kernel
theorem dC4_pick_119 : decode cC4_pick 119 = .ok (.ireturn, 1) := by decide +kernel
theorem dC3_parameterAt_0 : decode cC3_parameterAt 0 = .ok (.iload_n 2, 1) := by decide +kernel
theorem dC3_parameterAt_1 : decode cC3_parameterAt 1 = .ok (.ifCond .lt 26, 3) := by decide +kernel
theorem dC3_parameterAt_4 : decode cC3_parameterAt 4 = .ok (.iload_n 2, 1) := by decide +kernel
theorem dC3_parameterAt_5 : decode cC3_parameterAt 5 = .ok (.aload_n 0, 1) := by decide +kernel
theorem dC3_parameterAt_6 : decode cC3_parameterAt 6 = .ok (.getfield 22, 3) := by decide +kernel
theorem dC3_parameterAt_9 : decode cC3_parameterAt 9 = .ok (.iload_n 1, 1) := by decide +kernel
theorem dC3_parameterAt_10 : decode cC3_parameterAt 10 = .ok (.iaload, 1) := by decide +kernel
theorem dC3_parameterAt_11 : decode cC3_parameterAt 11 = .ok (.if_icmp .ge 16, 3) := by decide +kernel
theorem dC3_parameterAt_14 : decode cC3_parameterAt 14 = .ok (.aload_n 0, 1) := by decide +kernel
theorem dC3_parameterAt_15 : decode cC3_parameterAt 15 = .ok (.getfield 25, 3) := by decide +kernel
theorem dC3_parameterAt_18 : decode cC3_parameterAt 18 = .ok (.iload_n 1, 1) := by decide +kernel
theorem dC3_parameterAt_19 : decode cC3_parameterAt 19 = .ok (.iconst 2, 1) := by decide +kernel
theorem dC3_parameterAt_20 : decode cC3_parameterAt 20 = .ok (.imul, 1) := by decide +kernel
theorem dC3_parameterAt_21 : decode cC3_parameterAt 21 = .ok (.iload_n 2, 1) := by decide +kernel
theorem dC3_parameterAt_22 : decode cC3_parameterAt 22 = .ok (.iadd, 1) := by decide +kernel
theorem dC3_parameterAt_23 : decode cC3_parameterAt 23 = .ok (.iaload, 1) := by decide +kernel
theorem dC3_parameterAt_24 : decode cC3_parameterAt 24 = .ok (.goto 4, 3) := by decide +kernel
theorem dC3_parameterAt_27 : decode cC3_parameterAt 27 = .ok (.iconst (-1), 1) := by decide +kernel
theorem dC3_parameterAt_28 : decode cC3_parameterAt 28 = .ok (.ireturn, 1) := by decide +kernel
theorem dC4_takesTold_0 : decode cC4_takesTold 0 = .ok (.iconst 0, 1) := by decide +kernel
theorem dC4_takesTold_1 : decode cC4_takesTold 1 = .ok (.istore 4, 2) := by decide +kernel
theorem dC4_takesTold_3 : decode cC4_takesTold 3 = .ok (.iload 4, 2) := by decide +kernel
theorem dC4_takesTold_5 : decode cC4_takesTold 5 = .ok (.aload_n 0, 1) := by decide +kernel
theorem dC4_takesTold_6 : decode cC4_takesTold 6 = .ok (.getfield 19, 3) := by decide +kernel
theorem dC4_takesTold_9 : decode cC4_takesTold 9 = .ok (.iload_n 2, 1) := by decide +kernel
theorem dC4_takesTold_10 : decode cC4_takesTold 10 = .ok (.invokevirtual 119, 3) := by decide +kernel
theorem dC4_takesTold_13 : decode cC4_takesTold 13 = .ok (.if_icmp .ge 34, 3) := by decide +kernel
theorem dC4_takesTold_16 : decode cC4_takesTold 16 = .ok (.aload_n 0, 1) := by decide +kernel
theorem dC4_takesTold_17 : decode cC4_takesTold 17 = .ok (.getfield 15, 3) := by decide +kernel
theorem dC4_takesTold_20 : decode cC4_takesTold 20 = .ok (.iload_n 1, 1) := by decide +kernel
theorem dC4_takesTold_21 : decode cC4_takesTold 21 = .ok (.iload 4, 2) := by decide +kernel
theorem dC4_takesTold_23 : decode cC4_takesTold 23 = .ok (.invokevirtual 142, 3) := by decide +kernel
theorem dC4_takesTold_26 : decode cC4_takesTold 26 = .ok (.aload_n 0, 1) := by decide +kernel
theorem dC4_takesTold_27 : decode cC4_takesTold 27 = .ok (.getfield 19, 3) := by decide +kernel
theorem dC4_takesTold_30 : decode cC4_takesTold 30 = .ok (.iload_n 2, 1) := by decide +kernel
theorem dC4_takesTold_31 : decode cC4_takesTold 31 = .ok (.iload 4, 2) := by decide +kernel
theorem dC4_takesTold_33 : decode cC4_takesTold 33 = .ok (.invokevirtual 146, 3) := by decide +kernel
theorem dC4_takesTold_36 : decode cC4_takesTold 36 = .ok (.if_icmp .eq 5, 3) := by decide +kernel
theorem dC4_takesTold_39 : decode cC4_takesTold 39 = .ok (.iconst 0, 1) := by decide +kernel
theorem dC4_takesTold_40 : decode cC4_takesTold 40 = .ok (.ireturn, 1) := by decide +kernel
theorem dC4_takesTold_41 : decode cC4_takesTold 41 = .ok (.iinc 4 1, 3) := by decide +kernel
theorem dC4_takesTold_44 : decode cC4_takesTold 44 = .ok (.goto (-41), 3) := by decide +kernel
theorem dC4_takesTold_47 : decode cC4_takesTold 47 = .ok (.aload_n 0, 1) := by decide +kernel
theorem dC4_takesTold_48 : decode cC4_takesTold 48 = .ok (.getfield 19, 3) := by decide +kernel
theorem dC4_takesTold_51 : decode cC4_takesTold 51 = .ok (.iload_n 2, 1) := by decide +kernel
theorem dC4_takesTold_52 : decode cC4_takesTold 52 = .ok (.invokevirtual 123, 3) := by decide +kernel
theorem dC4_takesTold_55 : decode cC4_takesTold 55 = .ok (.ifCond .eq 30, 3) := by decide +kernel
theorem dC4_takesTold_58 : decode cC4_takesTold 58 = .ok (.aload_n 0, 1) := by decide +kernel
theorem dC4_takesTold_59 : decode cC4_takesTold 59 = .ok (.getfield 9, 3) := by decide +kernel
theorem dC4_takesTold_62 : decode cC4_takesTold 62 = .ok (.aload_n 0, 1) := by decide +kernel
theorem dC4_takesTold_63 : decode cC4_takesTold 63 = .ok (.getfield 19, 3) := by decide +kernel
theorem dC4_takesTold_66 : decode cC4_takesTold 66 = .ok (.iload_n 2, 1) := by decide +kernel
theorem dC4_takesTold_67 : decode cC4_takesTold 67 = .ok (.invokevirtual 128, 3) := by decide +kernel
theorem dC4_takesTold_70 : decode cC4_takesTold 70 = .ok (.aload_n 0, 1) := by decide +kernel
theorem dC4_takesTold_71 : decode cC4_takesTold 71 = .ok (.getfield 15, 3) := by decide +kernel
theorem dC4_takesTold_74 : decode cC4_takesTold 74 = .ok (.iload_n 1, 1) := by decide +kernel
theorem dC4_takesTold_75 : decode cC4_takesTold 75 = .ok (.invokevirtual 147, 3) := by decide +kernel
theorem dC4_takesTold_78 : decode cC4_takesTold 78 = .ok (.iload_n 3, 1) := by decide +kernel
theorem dC4_takesTold_79 : decode cC4_takesTold 79 = .ok (.invokevirtual 131, 3) := by decide +kernel
theorem dC4_takesTold_82 : decode cC4_takesTold 82 = .ok (.ifCond .eq 7, 3) := by decide +kernel
theorem dC4_takesTold_85 : decode cC4_takesTold 85 = .ok (.iconst 1, 1) := by decide +kernel
theorem dC4_takesTold_86 : decode cC4_takesTold 86 = .ok (.goto 4, 3) := by decide +kernel
theorem dC4_takesTold_89 : decode cC4_takesTold 89 = .ok (.iconst 0, 1) := by decide +kernel
theorem dC4_takesTold_90 : decode cC4_takesTold 90 = .ok (.ireturn, 1) := by decide +kernel
theorem dC4_takes_0 : decode cC4_takes 0 = .ok (.aload_n 0, 1) := by decide +kernel
theorem dC4_takes_1 : decode cC4_takes 1 = .ok (.getfield 19, 3) := by decide +kernel
theorem dC4_takes_4 : decode cC4_takes 4 = .ok (.iload_n 2, 1) := by decide +kernel
theorem dC4_takes_5 : decode cC4_takes 5 = .ok (.invokevirtual 106, 3) := by decide +kernel
theorem dC4_takes_8 : decode cC4_takes 8 = .ok (.ifCond .ne 21, 3) := by decide +kernel
theorem dC4_takes_11 : decode cC4_takes 11 = .ok (.aload_n 0, 1) := by decide +kernel
theorem dC4_takes_12 : decode cC4_takes 12 = .ok (.getfield 9, 3) := by decide +kernel
theorem dC4_takes_15 : decode cC4_takes 15 = .ok (.aload_n 0, 1) := by decide +kernel
theorem dC4_takes_16 : decode cC4_takes 16 = .ok (.getfield 19, 3) := by decide +kernel
theorem dC4_takes_19 : decode cC4_takes 19 = .ok (.iload_n 2, 1) := by decide +kernel
theorem dC4_takes_20 : decode cC4_takes 20 = .ok (.invokevirtual 128, 3) := by decide +kernel
theorem dC4_takes_23 : decode cC4_takes 23 = .ok (.iload_n 1, 1) := by decide +kernel
theorem dC4_takes_24 : decode cC4_takes 24 = .ok (.iload_n 3, 1) := by decide +kernel
theorem dC4_takes_25 : decode cC4_takes 25 = .ok (.invokevirtual 131, 3) := by decide +kernel
theorem dC4_takes_28 : decode cC4_takes 28 = .ok (.ireturn, 1) := by decide +kernel
theorem dC4_takes_29 : decode cC4_takes 29 = .ok (.aload_n 0, 1) := by decide +kernel
theorem dC4_takes_30 : decode cC4_takes 30 = .ok (.iload_n 1, 1) := by decide +kernel
theorem dC4_takes_31 : decode cC4_takes 31 = .ok (.iload_n 2, 1) := by decide +kernel
theorem dC4_takes_32 : decode cC4_takes 32 = .ok (.invokevirtual 113, 3) := by decide +kernel
theorem dC4_takes_35 : decode cC4_takes 35 = .ok (.ifCond .ne 5, 3) := by decide +kernel
theorem dC4_takes_38 : decode cC4_takes 38 = .ok (.iconst 0, 1) := by decide +kernel
theorem dC4_takes_39 : decode cC4_takes 39 = .ok (.ireturn, 1) := by decide +kernel
theorem dC4_takes_40 : decode cC4_takes 40 = .ok (.aload_n 0, 1) := by decide +kernel
theorem dC4_takes_41 : decode cC4_takes 41 = .ok (.getfield 19, 3) := by decide +kernel
theorem dC4_takes_44 : decode cC4_takes 44 = .ok (.iload_n 2, 1) := by decide +kernel
theorem dC4_takes_45 : decode cC4_takes 45 = .ok (.invokevirtual 136, 3) := by decide +kernel
theorem dC4_takes_48 : decode cC4_takes 48 = .ok (.ifCond .eq 20, 3) := by decide +kernel
theorem dC4_takes_51 : decode cC4_takes 51 = .ok (.aload_n 0, 1) := by decide +kernel
theorem dC4_takes_52 : decode cC4_takes 52 = .ok (.aload_n 0, 1) := by decide +kernel
theorem dC4_takes_53 : decode cC4_takes 53 = .ok (.getfield 15, 3) := by decide +kernel
theorem dC4_takes_56 : decode cC4_takes 56 = .ok (.iload_n 1, 1) := by decide +kernel
theorem dC4_takes_57 : decode cC4_takes 57 = .ok (.invokevirtual 116, 3) := by decide +kernel
theorem dC4_takes_60 : decode cC4_takes 60 = .ok (.iload_n 2, 1) := by decide +kernel
theorem dC4_takes_61 : decode cC4_takes 61 = .ok (.iload_n 3, 1) := by decide +kernel
theorem dC4_takes_62 : decode cC4_takes 62 = .ok (.invokevirtual 139, 3) := by decide +kernel
theorem dC4_takes_65 : decode cC4_takes 65 = .ok (.ifCond .eq 7, 3) := by decide +kernel
theorem dC4_takes_68 : decode cC4_takes 68 = .ok (.iconst 1, 1) := by decide +kernel
theorem dC4_takes_69 : decode cC4_takes 69 = .ok (.goto 4, 3) := by decide +kernel
theorem dC4_takes_72 : decode cC4_takes 72 = .ok (.iconst 0, 1) := by decide +kernel
theorem dC4_takes_73 : decode cC4_takes 73 = .ok (.ireturn, 1) := by decide +kernel
theorem dC4_applies_0 : decode cC4_applies 0 = .ok (.iload_n 2, 1) := by decide +kernel
theorem dC4_applies_1 : decode cC4_applies 1 = .ok (.iconst 3, 1) := by decide +kernel
theorem dC4_applies_2 : decode cC4_applies 2 = .ok (.if_icmp .ne 7, 3) := by decide +kernel
theorem dC4_applies_5 : decode cC4_applies 5 = .ok (.iconst 1, 1) := by decide +kernel
theorem dC4_applies_6 : decode cC4_applies 6 = .ok (.goto 4, 3) := by decide +kernel
theorem dC4_applies_9 : decode cC4_applies 9 = .ok (.iconst 0, 1) := by decide +kernel
theorem dC4_applies_10 : decode cC4_applies 10 = .ok (.istore_n 3, 1) := by decide +kernel
theorem dC4_applies_11 : decode cC4_applies 11 = .ok (.iload_n 3, 1) := by decide +kernel
theorem dC4_applies_12 : decode cC4_applies 12 = .ok (.ifCond .eq 17, 3) := by decide +kernel
theorem dC4_applies_15 : decode cC4_applies 15 = .ok (.aload_n 0, 1) := by decide +kernel
theorem dC4_applies_16 : decode cC4_applies 16 = .ok (.getfield 15, 3) := by decide +kernel
theorem dC4_applies_19 : decode cC4_applies 19 = .ok (.iload_n 1, 1) := by decide +kernel
theorem dC4_applies_20 : decode cC4_applies 20 = .ok (.invokevirtual 94, 3) := by decide +kernel
theorem dC4_applies_23 : decode cC4_applies 23 = .ok (.ifCond .ne 26, 3) := by decide +kernel
theorem dC4_applies_26 : decode cC4_applies 26 = .ok (.goto 21, 3) := by decide +kernel
theorem dC4_applies_29 : decode cC4_applies 29 = .ok (.aload_n 0, 1) := by decide +kernel
theorem dC4_applies_30 : decode cC4_applies 30 = .ok (.getfield 15, 3) := by decide +kernel
theorem dC4_applies_33 : decode cC4_applies 33 = .ok (.iload_n 1, 1) := by decide +kernel
theorem dC4_applies_34 : decode cC4_applies 34 = .ok (.invokevirtual 97, 3) := by decide +kernel
theorem dC4_applies_37 : decode cC4_applies 37 = .ok (.aload_n 0, 1) := by decide +kernel
theorem dC4_applies_38 : decode cC4_applies 38 = .ok (.getfield 19, 3) := by decide +kernel
theorem dC4_applies_41 : decode cC4_applies 41 = .ok (.invokevirtual 101, 3) := by decide +kernel
theorem dC4_applies_44 : decode cC4_applies 44 = .ok (.if_icmp .eq 5, 3) := by decide +kernel
theorem dC4_applies_47 : decode cC4_applies 47 = .ok (.iconst 0, 1) := by decide +kernel
theorem dC4_applies_48 : decode cC4_applies 48 = .ok (.ireturn, 1) := by decide +kernel
theorem dC4_applies_49 : decode cC4_applies 49 = .ok (.iconst 0, 1) := by decide +kernel
theorem dC4_applies_50 : decode cC4_applies 50 = .ok (.istore 4, 2) := by decide +kernel
theorem dC4_applies_52 : decode cC4_applies 52 = .ok (.iload 4, 2) := by decide +kernel
theorem dC4_applies_54 : decode cC4_applies 54 = .ok (.aload_n 0, 1) := by decide +kernel
theorem dC4_applies_55 : decode cC4_applies 55 = .ok (.getfield 19, 3) := by decide +kernel
theorem dC4_applies_58 : decode cC4_applies 58 = .ok (.invokevirtual 101, 3) := by decide +kernel
theorem dC4_applies_61 : decode cC4_applies 61 = .ok (.if_icmp .ge 41, 3) := by decide +kernel
theorem dC4_applies_64 : decode cC4_applies 64 = .ok (.aload_n 0, 1) := by decide +kernel
theorem dC4_applies_65 : decode cC4_applies 65 = .ok (.aload_n 0, 1) := by decide +kernel
theorem dC4_applies_66 : decode cC4_applies 66 = .ok (.getfield 15, 3) := by decide +kernel
theorem dC4_applies_69 : decode cC4_applies 69 = .ok (.iload_n 1, 1) := by decide +kernel
theorem dC4_applies_70 : decode cC4_applies 70 = .ok (.iload 4, 2) := by decide +kernel
theorem dC4_applies_72 : decode cC4_applies 72 = .ok (.iload_n 3, 1) := by decide +kernel
theorem dC4_applies_73 : decode cC4_applies 73 = .ok (.invokevirtual 109, 3) := by decide +kernel
theorem dC4_applies_76 : decode cC4_applies 76 = .ok (.iload 4, 2) := by decide +kernel
theorem dC4_applies_78 : decode cC4_applies 78 = .ok (.iload_n 2, 1) := by decide +kernel
theorem dC4_applies_79 : decode cC4_applies 79 = .ok (.iconst 1, 1) := by decide +kernel
theorem dC4_applies_80 : decode cC4_applies 80 = .ok (.if_icmp .le 7, 3) := by decide +kernel
theorem dC4_applies_83 : decode cC4_applies 83 = .ok (.iconst 1, 1) := by decide +kernel
theorem dC4_applies_84 : decode cC4_applies 84 = .ok (.goto 4, 3) := by decide +kernel
theorem dC4_applies_87 : decode cC4_applies 87 = .ok (.iconst 0, 1) := by decide +kernel
theorem dC4_applies_88 : decode cC4_applies 88 = .ok (.invokevirtual 124, 3) := by decide +kernel
theorem dC4_applies_91 : decode cC4_applies 91 = .ok (.ifCond .ne 5, 3) := by decide +kernel
theorem dC4_applies_94 : decode cC4_applies 94 = .ok (.iconst 0, 1) := by decide +kernel
theorem dC4_applies_95 : decode cC4_applies 95 = .ok (.ireturn, 1) := by decide +kernel
theorem dC4_applies_96 : decode cC4_applies 96 = .ok (.iinc 4 1, 3) := by decide +kernel
theorem dC4_applies_99 : decode cC4_applies 99 = .ok (.goto (-47), 3) := by decide +kernel
theorem dC4_applies_102 : decode cC4_applies 102 = .ok (.iconst 1, 1) := by decide +kernel
theorem dC4_applies_103 : decode cC4_applies 103 = .ok (.ireturn, 1) := by decide +kernel
theorem dC4_findApplying_0 : decode cC4_findApplying 0 = .ok (.iconst 0, 1) := by decide +kernel
theorem dC4_findApplying_1 : decode cC4_findApplying 1 = .ok (.istore_n 2, 1) := by decide +kernel
theorem dC4_findApplying_2 : decode cC4_findApplying 2 = .ok (.iload_n 2, 1) := by decide +kernel
theorem dC4_findApplying_3 : decode cC4_findApplying 3 = .ok (.aload_n 0, 1) := by decide +kernel
theorem dC4_findApplying_4 : decode cC4_findApplying 4 = .ok (.getfield 61, 3) := by decide +kernel
theorem dC4_findApplying_7 : decode cC4_findApplying 7 = .ok (.if_icmp .ge 62, 3) := by decide +kernel
theorem dC4_findApplying_10 : decode cC4_findApplying 10 = .ok (.aload_n 0, 1) := by decide +kernel
theorem dC4_findApplying_11 : decode cC4_findApplying 11 = .ok (.getfield 25, 3) := by decide +kernel
theorem dC4_findApplying_14 : decode cC4_findApplying 14 = .ok (.iload_n 2, 1) := by decide +kernel
theorem dC4_findApplying_15 : decode cC4_findApplying 15 = .ok (.iaload, 1) := by decide +kernel
theorem dC4_findApplying_16 : decode cC4_findApplying 16 = .ok (.istore_n 3, 1) := by decide +kernel
theorem dC4_findApplying_17 : decode cC4_findApplying 17 = .ok (.aload_n 0, 1) := by decide +kernel
theorem dC4_findApplying_18 : decode cC4_findApplying 18 = .ok (.iload_n 3, 1) := by decide +kernel
theorem dC4_findApplying_19 : decode cC4_findApplying 19 = .ok (.iload_n 1, 1) := by decide +kernel
theorem dC4_findApplying_20 : decode cC4_findApplying 20 = .ok (.invokevirtual 81, 3) := by decide +kernel
theorem dC4_findApplying_23 : decode cC4_findApplying 23 = .ok (.ifCond .eq 40, 3) := by decide +kernel
theorem dC4_findApplying_26 : decode cC4_findApplying 26 = .ok (.aload_n 0, 1) := by decide +kernel
theorem dC4_findApplying_27 : decode cC4_findApplying 27 = .ok (.iload_n 1, 1) := by decide +kernel
theorem dC4_findApplying_28 : decode cC4_findApplying 28 = .ok (.putfield 36, 3) := by decide +kernel
theorem dC4_findApplying_31 : decode cC4_findApplying 31 = .ok (.aload_n 0, 1) := by decide +kernel
theorem dC4_findApplying_32 : decode cC4_findApplying 32 = .ok (.getfield 29, 3) := by decide +kernel
theorem dC4_findApplying_35 : decode cC4_findApplying 35 = .ok (.aload_n 0, 1) := by decide +kernel
theorem dC4_findApplying_36 : decode cC4_findApplying 36 = .ok (.getfield 40, 3) := by decide +kernel
theorem dC4_findApplying_39 : decode cC4_findApplying 39 = .ok (.iload_n 3, 1) := by decide +kernel
theorem dC4_findApplying_40 : decode cC4_findApplying 40 = .ok (.iastore, 1) := by decide +kernel
theorem dC4_findApplying_41 : decode cC4_findApplying 41 = .ok (.aload_n 0, 1) := by decide +kernel
theorem dC4_findApplying_42 : decode cC4_findApplying 42 = .ok (.dup, 1) := by decide +kernel
theorem dC4_findApplying_43 : decode cC4_findApplying 43 = .ok (.getfield 47, 3) := by decide +kernel
theorem dC4_findApplying_46 : decode cC4_findApplying 46 = .ok (.lconst 1, 1) := by decide +kernel
theorem dC4_findApplying_47 : decode cC4_findApplying 47 = .ok (.iload_n 3, 1) := by decide +kernel
theorem dC4_findApplying_48 : decode cC4_findApplying 48 = .ok (.lshl, 1) := by decide +kernel
theorem dC4_findApplying_49 : decode cC4_findApplying 49 = .ok (.lor, 1) := by decide +kernel
theorem dC4_findApplying_50 : decode cC4_findApplying 50 = .ok (.putfield 47, 3) := by decide +kernel
theorem dC4_findApplying_53 : decode cC4_findApplying 53 = .ok (.aload_n 0, 1) := by decide +kernel
theorem dC4_findApplying_54 : decode cC4_findApplying 54 = .ok (.dup, 1) := by decide +kernel
theorem dC4_findApplying_55 : decode cC4_findApplying 55 = .ok (.getfield 40, 3) := by decide +kernel
theorem dC4_findApplying_58 : decode cC4_findApplying 58 = .ok (.iconst 1, 1) := by decide +kernel
theorem dC4_findApplying_59 : decode cC4_findApplying 59 = .ok (.iadd, 1) := by decide +kernel
theorem dC4_findApplying_60 : decode cC4_findApplying 60 = .ok (.putfield 40, 3) := by decide +kernel
theorem dC4_findApplying_63 : decode cC4_findApplying 63 = .ok (.iinc 2 1, 3) := by decide +kernel
theorem dC4_findApplying_66 : decode cC4_findApplying 66 = .ok (.goto (-64), 3) := by decide +kernel
theorem dC4_findApplying_69 : decode cC4_findApplying 69 = .ok (.return_, 1) := by decide +kernel
theorem dC4_decide_0 : decode cC4_decide 0 = .ok (.aload_n 0, 1) := by decide +kernel
theorem dC4_decide_1 : decode cC4_decide 1 = .ok (.invokevirtual 51, 3) := by decide +kernel
theorem dC4_decide_4 : decode cC4_decide 4 = .ok (.aload_n 0, 1) := by decide +kernel
theorem dC4_decide_5 : decode cC4_decide 5 = .ok (.getfield 15, 3) := by decide +kernel
theorem dC4_decide_8 : decode cC4_decide 8 = .ok (.invokevirtual 54, 3) := by decide +kernel
theorem dC4_decide_11 : decode cC4_decide 11 = .ok (.aload_n 0, 1) := by decide +kernel
theorem dC4_decide_12 : decode cC4_decide 12 = .ok (.aload_n 0, 1) := by decide +kernel
theorem dC4_decide_13 : decode cC4_decide 13 = .ok (.getfield 15, 3) := by decide +kernel
theorem dC4_decide_16 : decode cC4_decide 16 = .ok (.iload_n 1, 1) := by decide +kernel
theorem dC4_decide_17 : decode cC4_decide 17 = .ok (.iload_n 2, 1) := by decide +kernel
theorem dC4_decide_18 : decode cC4_decide 18 = .ok (.iload_n 3, 1) := by decide +kernel
theorem dC4_decide_19 : decode cC4_decide 19 = .ok (.aload_n 0, 1) := by decide +kernel
theorem dC4_decide_20 : decode cC4_decide 20 = .ok (.getfield 25, 3) := by decide +kernel
theorem dC4_decide_23 : decode cC4_decide 23 = .ok (.invokevirtual 57, 3) := by decide +kernel
theorem dC4_decide_26 : decode cC4_decide 26 = .ok (.putfield 61, 3) := by decide +kernel
theorem dC4_decide_29 : decode cC4_decide 29 = .ok (.aload_n 0, 1) := by decide +kernel
theorem dC4_decide_30 : decode cC4_decide 30 = .ok (.getfield 61, 3) := by decide +kernel
theorem dC4_decide_33 : decode cC4_decide 33 = .ok (.ifCond .ne 6, 3) := by decide +kernel
theorem dC4_decide_36 : decode cC4_decide 36 = .ok (.bipush (-3), 2) := by decide +kernel
theorem dC4_decide_38 : decode cC4_decide 38 = .ok (.ireturn, 1) := by decide +kernel
theorem dC4_decide_39 : decode cC4_decide 39 = .ok (.aload_n 0, 1) := by decide +kernel
theorem dC4_decide_40 : decode cC4_decide 40 = .ok (.invokevirtual 64, 3) := by decide +kernel
theorem dC4_decide_43 : decode cC4_decide 43 = .ok (.aload_n 0, 1) := by decide +kernel
theorem dC4_decide_44 : decode cC4_decide 44 = .ok (.getfield 61, 3) := by decide +kernel
theorem dC4_decide_47 : decode cC4_decide 47 = .ok (.ifCond .ne 6, 3) := by decide +kernel
theorem dC4_decide_50 : decode cC4_decide 50 = .ok (.bipush (-4), 2) := by decide +kernel
theorem dC4_decide_52 : decode cC4_decide 52 = .ok (.ireturn, 1) := by decide +kernel
theorem dC4_decide_53 : decode cC4_decide 53 = .ok (.iconst 1, 1) := by decide +kernel
theorem dC4_decide_54 : decode cC4_decide 54 = .ok (.istore 4, 2) := by decide +kernel
theorem dC4_decide_56 : decode cC4_decide 56 = .ok (.iload 4, 2) := by decide +kernel
theorem dC4_decide_58 : decode cC4_decide 58 = .ok (.iconst 3, 1) := by decide +kernel
theorem dC4_decide_59 : decode cC4_decide 59 = .ok (.if_icmp .gt 22, 3) := by decide +kernel
theorem dC4_decide_62 : decode cC4_decide 62 = .ok (.aload_n 0, 1) := by decide +kernel
theorem dC4_decide_63 : decode cC4_decide 63 = .ok (.getfield 40, 3) := by decide +kernel
theorem dC4_decide_66 : decode cC4_decide 66 = .ok (.ifCond .ne 15, 3) := by decide +kernel
theorem dC4_decide_69 : decode cC4_decide 69 = .ok (.aload_n 0, 1) := by decide +kernel
theorem dC4_decide_70 : decode cC4_decide 70 = .ok (.iload 4, 2) := by decide +kernel
theorem dC4_decide_72 : decode cC4_decide 72 = .ok (.invokevirtual 67, 3) := by decide +kernel
theorem dC4_decide_75 : decode cC4_decide 75 = .ok (.iinc 4 1, 3) := by decide +kernel
theorem dC4_decide_78 : decode cC4_decide 78 = .ok (.goto (-22), 3) := by decide +kernel
theorem dC4_decide_81 : decode cC4_decide 81 = .ok (.aload_n 0, 1) := by decide +kernel
theorem dC4_decide_82 : decode cC4_decide 82 = .ok (.getfield 40, 3) := by decide +kernel
theorem dC4_decide_85 : decode cC4_decide 85 = .ok (.ifCond .ne 6, 3) := by decide +kernel
theorem dC4_decide_88 : decode cC4_decide 88 = .ok (.bipush (-5), 2) := by decide +kernel
theorem dC4_decide_90 : decode cC4_decide 90 = .ok (.ireturn, 1) := by decide +kernel
theorem dC4_decide_91 : decode cC4_decide 91 = .ok (.aload_n 0, 1) := by decide +kernel
theorem dC4_decide_92 : decode cC4_decide 92 = .ok (.invokevirtual 71, 3) := by decide +kernel
theorem dC4_decide_95 : decode cC4_decide 95 = .ok (.aload_n 0, 1) := by decide +kernel
theorem dC4_decide_96 : decode cC4_decide 96 = .ok (.invokevirtual 74, 3) := by decide +kernel
theorem dC4_decide_99 : decode cC4_decide 99 = .ok (.ireturn, 1) := by decide +kernel
theorem dC0_choose_0 : decode cC0_choose 0 = .ok (.aload_n 0, 1) := by decide +kernel
theorem dC0_choose_1 : decode cC0_choose 1 = .ok (.iload_n 1, 1) := by decide +kernel
theorem dC0_choose_2 : decode cC0_choose 2 = .ok (.iload_n 2, 1) := by decide +kernel
theorem dC0_choose_3 : decode cC0_choose 3 = .ok (.iload_n 3, 1) := by decide +kernel
theorem dC0_choose_4 : decode cC0_choose 4 = .ok (.invokevirtual 89, 3) := by decide +kernel
theorem dC0_choose_7 : decode cC0_choose 7 = .ok (.ifCond .eq 14, 3) := by decide +kernel
theorem dC0_choose_10 : decode cC0_choose 10 = .ok (.iload 4, 2) := by decide +kernel
theorem dC0_choose_12 : decode cC0_choose 12 = .ok (.ifCond .lt 9, 3) := by decide +kernel
theorem dC0_choose_15 : decode cC0_choose 15 = .ok (.iload 4, 2) := by decide +kernel
theorem dC0_choose_17 : decode cC0_choose 17 = .ok (.iconst 1, 1) := by decide +kernel
theorem dC0_choose_18 : decode cC0_choose 18 = .ok (.if_icmp .le 6, 3) := by decide +kernel
theorem dC0_choose_21 : decode cC0_choose 21 = .ok (.bipush (-2), 2) := by decide +kernel
theorem dC0_choose_23 : decode cC0_choose 23 = .ok (.ireturn, 1) := by decide +kernel
theorem dC0_choose_24 : decode cC0_choose 24 = .ok (.aload_n 0, 1) := by decide +kernel
theorem dC0_choose_25 : decode cC0_choose 25 = .ok (.getfield 37, 3) := by decide +kernel
theorem dC0_choose_28 : decode cC0_choose 28 = .ok (.iload_n 1, 1) := by decide +kernel
theorem dC0_choose_29 : decode cC0_choose 29 = .ok (.iload_n 2, 1) := by decide +kernel
theorem dC0_choose_30 : decode cC0_choose 30 = .ok (.iload_n 3, 1) := by decide +kernel
theorem dC0_choose_31 : decode cC0_choose 31 = .ok (.invokevirtual 113, 3) := by decide +kernel
theorem dC0_choose_34 : decode cC0_choose 34 = .ok (.istore 5, 2) := by decide +kernel
theorem dC0_choose_36 : decode cC0_choose 36 = .ok (.iload 5, 2) := by decide +kernel
theorem dC0_choose_38 : decode cC0_choose 38 = .ok (.ifCond .lt 26, 3) := by decide +kernel
theorem dC0_choose_41 : decode cC0_choose 41 = .ok (.iload 4, 2) := by decide +kernel
theorem dC0_choose_43 : decode cC0_choose 43 = .ok (.iconst 1, 1) := by decide +kernel
theorem dC0_choose_44 : decode cC0_choose 44 = .ok (.if_icmp .ne 20, 3) := by decide +kernel
theorem dC0_choose_47 : decode cC0_choose 47 = .ok (.aload_n 0, 1) := by decide +kernel
theorem dC0_choose_48 : decode cC0_choose 48 = .ok (.getfield 21, 3) := by decide +kernel
theorem dC0_choose_51 : decode cC0_choose 51 = .ok (.iload 5, 2) := by decide +kernel
theorem dC0_choose_53 : decode cC0_choose 53 = .ok (.invokevirtual 117, 3) := by decide +kernel
theorem dC0_choose_56 : decode cC0_choose 56 = .ok (.ifCond .ne 8, 3) := by decide +kernel
theorem dC0_choose_59 : decode cC0_choose 59 = .ok (.bipush (-7), 2) := by decide +kernel
theorem dC0_choose_61 : decode cC0_choose 61 = .ok (.goto 5, 3) := by decide +kernel
theorem dC0_choose_64 : decode cC0_choose 64 = .ok (.iload 5, 2) := by decide +kernel
theorem dC0_choose_66 : decode cC0_choose 66 = .ok (.ireturn, 1) := by decide +kernel
theorem dC4_phaseReached_0 : decode cC4_phaseReached 0 = .ok (.aload_n 0, 1) := by decide +kernel
theorem dC4_phaseReached_1 : decode cC4_phaseReached 1 = .ok (.getfield 36, 3) := by decide +kernel
theorem dC4_phaseReached_4 : decode cC4_phaseReached 4 = .ok (.ireturn, 1) := by decide +kernel
theorem dC0_phase_0 : decode cC0_phase 0 = .ok (.aload_n 0, 1) := by decide +kernel
theorem dC0_phase_1 : decode cC0_phase 1 = .ok (.getfield 37, 3) := by decide +kernel
theorem dC0_phase_4 : decode cC0_phase 4 = .ok (.invokevirtual 120, 3) := by decide +kernel
theorem dC0_phase_7 : decode cC0_phase 7 = .ok (.ireturn, 1) := by decide +kernel
theorem dC4_applyingAt_0 : decode cC4_applyingAt 0 = .ok (.iload_n 1, 1) := by decide +kernel
theorem dC4_applyingAt_1 : decode cC4_applyingAt 1 = .ok (.ifCond .lt 20, 3) := by decide +kernel
theorem dC4_applyingAt_4 : decode cC4_applyingAt 4 = .ok (.iload_n 1, 1) := by decide +kernel
theorem dC4_applyingAt_5 : decode cC4_applyingAt 5 = .ok (.aload_n 0, 1) := by decide +kernel
theorem dC4_applyingAt_6 : decode cC4_applyingAt 6 = .ok (.getfield 40, 3) := by decide +kernel
theorem dC4_applyingAt_9 : decode cC4_applyingAt 9 = .ok (.if_icmp .ge 12, 3) := by decide +kernel
theorem dC4_applyingAt_12 : decode cC4_applyingAt 12 = .ok (.aload_n 0, 1) := by decide +kernel
theorem dC4_applyingAt_13 : decode cC4_applyingAt 13 = .ok (.getfield 29, 3) := by decide +kernel
theorem dC4_applyingAt_16 : decode cC4_applyingAt 16 = .ok (.iload_n 1, 1) := by decide +kernel
theorem dC4_applyingAt_17 : decode cC4_applyingAt 17 = .ok (.iaload, 1) := by decide +kernel
theorem dC4_applyingAt_18 : decode cC4_applyingAt 18 = .ok (.goto 4, 3) := by decide +kernel
theorem dC4_applyingAt_21 : decode cC4_applyingAt 21 = .ok (.iconst (-1), 1) := by decide +kernel
theorem dC4_applyingAt_22 : decode cC4_applyingAt 22 = .ok (.ireturn, 1) := by decide +kernel
theorem dC0_applied_0 : decode cC0_applied 0 = .ok (.aload_n 0, 1) := by decide +kernel
theorem dC0_applied_1 : decode cC0_applied 1 = .ok (.getfield 37, 3) := by decide +kernel
theorem dC0_applied_4 : decode cC0_applied 4 = .ok (.iload_n 1, 1) := by decide +kernel
theorem dC0_applied_5 : decode cC0_applied 5 = .ok (.invokevirtual 123, 3) := by decide +kernel
theorem dC0_applied_8 : decode cC0_applied 8 = .ok (.ireturn, 1) := by decide +kernel
theorem dC4_didApply_0 : decode cC4_didApply 0 = .ok (.iload_n 1, 1) := by decide +kernel
theorem dC4_didApply_1 : decode cC4_didApply 1 = .ok (.ifCond .lt 26, 3) := by decide +kernel
theorem dC4_didApply_4 : decode cC4_didApply 4 = .ok (.iload_n 1, 1) := by decide +kernel
theorem dC4_didApply_5 : decode cC4_didApply 5 = .ok (.bipush 60, 2) := by decide +kernel
theorem dC4_didApply_7 : decode cC4_didApply 7 = .ok (.if_icmp .ge 20, 3) := by decide +kernel
theorem dC4_didApply_10 : decode cC4_didApply 10 = .ok (.aload_n 0, 1) := by decide +kernel
theorem dC4_didApply_11 : decode cC4_didApply 11 = .ok (.getfield 47, 3) := by decide +kernel
theorem dC4_didApply_14 : decode cC4_didApply 14 = .ok (.iload_n 1, 1) := by decide +kernel
theorem dC4_didApply_15 : decode cC4_didApply 15 = .ok (.lushr, 1) := by decide +kernel
theorem dC4_didApply_16 : decode cC4_didApply 16 = .ok (.lconst 1, 1) := by decide +kernel
theorem dC4_didApply_17 : decode cC4_didApply 17 = .ok (.land, 1) := by decide +kernel
theorem dC4_didApply_18 : decode cC4_didApply 18 = .ok (.lconst 0, 1) := by decide +kernel
theorem dC4_didApply_19 : decode cC4_didApply 19 = .ok (.lcmp, 1) := by decide +kernel
theorem dC4_didApply_20 : decode cC4_didApply 20 = .ok (.ifCond .eq 7, 3) := by decide +kernel
theorem dC4_didApply_23 : decode cC4_didApply 23 = .ok (.iconst 1, 1) := by decide +kernel
theorem dC4_didApply_24 : decode cC4_didApply 24 = .ok (.goto 4, 3) := by decide +kernel
theorem dC4_didApply_27 : decode cC4_didApply 27 = .ok (.iconst 0, 1) := by decide +kernel
theorem dC4_didApply_28 : decode cC4_didApply 28 = .ok (.ireturn, 1) := by decide +kernel
theorem dC4_compared_0 : decode cC4_compared 0 = .ok (.aload_n 0, 1) := by decide +kernel
theorem dC4_compared_1 : decode cC4_compared 1 = .ok (.iload_n 1, 1) := by decide +kernel
theorem dC4_compared_2 : decode cC4_compared 2 = .ok (.invokevirtual 43, 3) := by decide +kernel
theorem dC4_compared_5 : decode cC4_compared 5 = .ok (.ifCond .eq 11, 3) := by decide +kernel
theorem dC4_compared_8 : decode cC4_compared 8 = .ok (.aload_n 0, 1) := by decide +kernel
theorem dC4_compared_9 : decode cC4_compared 9 = .ok (.iload_n 2, 1) := by decide +kernel
theorem dC4_compared_10 : decode cC4_compared 10 = .ok (.invokevirtual 43, 3) := by decide +kernel
theorem dC4_compared_13 : decode cC4_compared 13 = .ok (.ifCond .ne 5, 3) := by decide +kernel
theorem dC4_compared_16 : decode cC4_compared 16 = .ok (.iconst (-1), 1) := by decide +kernel
theorem dC4_compared_17 : decode cC4_compared 17 = .ok (.ireturn, 1) := by decide +kernel
theorem dC4_compared_18 : decode cC4_compared 18 = .ok (.aload_n 0, 1) := by decide +kernel
theorem dC4_compared_19 : decode cC4_compared 19 = .ok (.getfield 32, 3) := by decide +kernel
theorem dC4_compared_22 : decode cC4_compared 22 = .ok (.iload_n 1, 1) := by decide +kernel
theorem dC4_compared_23 : decode cC4_compared 23 = .ok (.laload, 1) := by decide +kernel
theorem dC4_compared_24 : decode cC4_compared 24 = .ok (.iload_n 2, 1) := by decide +kernel
theorem dC4_compared_25 : decode cC4_compared 25 = .ok (.lushr, 1) := by decide +kernel
theorem dC4_compared_26 : decode cC4_compared 26 = .ok (.lconst 1, 1) := by decide +kernel
theorem dC4_compared_27 : decode cC4_compared 27 = .ok (.land, 1) := by decide +kernel
theorem dC4_compared_28 : decode cC4_compared 28 = .ok (.lconst 0, 1) := by decide +kernel
theorem dC4_compared_29 : decode cC4_compared 29 = .ok (.lcmp, 1) := by decide +kernel
theorem dC4_compared_30 : decode cC4_compared 30 = .ok (.ifCond .eq 7, 3) := by decide +kernel
theorem dC4_compared_33 : decode cC4_compared 33 = .ok (.iconst 1, 1) := by decide +kernel
theorem dC4_compared_34 : decode cC4_compared 34 = .ok (.goto 4, 3) := by decide +kernel
theorem dC4_compared_37 : decode cC4_compared 37 = .ok (.iconst 0, 1) := by decide +kernel
theorem dC4_compared_38 : decode cC4_compared 38 = .ok (.ireturn, 1) := by decide +kernel
theorem dC0_special_0 : decode cC0_special 0 = .ok (.aload_n 0, 1) := by decide +kernel
theorem dC0_special_1 : decode cC0_special 1 = .ok (.getfield 37, 3) := by decide +kernel
theorem dC0_special_4 : decode cC0_special 4 = .ok (.iload_n 1, 1) := by decide +kernel
theorem dC0_special_5 : decode cC0_special 5 = .ok (.iload_n 2, 1) := by decide +kernel
theorem dC0_special_6 : decode cC0_special 6 = .ok (.invokevirtual 126, 3) := by decide +kernel
theorem dC0_special_9 : decode cC0_special 9 = .ok (.ireturn, 1) := by decide +kernel
theorem dC2_size_0 : decode cC2_size 0 = .ok (.aload_n 0, 1) := by decide +kernel
theorem dC2_size_1 : decode cC2_size 1 = .ok (.getfield 45, 3) := by decide +kernel
theorem dC2_size_4 : decode cC2_size 4 = .ok (.ireturn, 1) := by decide +kernel
theorem dC0_count_0 : decode cC0_count 0 = .ok (.iload_n 1, 1) := by decide +kernel
theorem dC0_count_1 : decode cC0_count 1 = .ok (.tableswitch 51 0 2 #[27, 35, 43], 27) := by decide +kernel
theorem dC0_count_28 : decode cC0_count 28 = .ok (.aload_n 0, 1) := by decide +kernel
theorem dC0_count_29 : decode cC0_count 29 = .ok (.getfield 10, 3) := by decide +kernel
theorem dC0_count_32 : decode cC0_count 32 = .ok (.invokevirtual 129, 3) := by decide +kernel
theorem dC0_count_35 : decode cC0_count 35 = .ok (.ireturn, 1) := by decide +kernel
theorem dC0_count_36 : decode cC0_count 36 = .ok (.aload_n 0, 1) := by decide +kernel
theorem dC0_count_37 : decode cC0_count 37 = .ok (.getfield 21, 3) := by decide +kernel
theorem dC0_count_40 : decode cC0_count 40 = .ok (.invokevirtual 132, 3) := by decide +kernel
theorem dC0_count_43 : decode cC0_count 43 = .ok (.ireturn, 1) := by decide +kernel
theorem dC0_count_44 : decode cC0_count 44 = .ok (.aload_n 0, 1) := by decide +kernel
theorem dC0_count_45 : decode cC0_count 45 = .ok (.getfield 28, 3) := by decide +kernel
theorem dC0_count_48 : decode cC0_count 48 = .ok (.invokevirtual 133, 3) := by decide +kernel
theorem dC0_count_51 : decode cC0_count 51 = .ok (.ireturn, 1) := by decide +kernel
theorem dC0_count_52 : decode cC0_count 52 = .ok (.bipush (-2), 2) := by decide +kernel
theorem dC0_count_54 : decode cC0_count 54 = .ok (.ireturn, 1) := by decide +kernel
theorem dCM_forgetFunctions_0 : decode cCM_forgetFunctions 0 = .ok (.iconst 0, 1) := by decide +kernel
theorem dCM_forgetFunctions_1 : decode cCM_forgetFunctions 1 = .ok (.istore_n 1, 1) := by decide +kernel
theorem dCM_forgetFunctions_2 : decode cCM_forgetFunctions 2 = .ok (.iload_n 1, 1) := by decide +kernel
theorem dCM_forgetFunctions_3 : decode cCM_forgetFunctions 3 = .ok (.bipush 24, 2) := by decide +kernel
theorem dCM_forgetFunctions_5 : decode cCM_forgetFunctions 5 = .ok (.if_icmp .ge 17, 3) := by decide +kernel
theorem dCM_forgetFunctions_8 : decode cCM_forgetFunctions 8 = .ok (.aload_n 0, 1) := by decide +kernel
theorem dCM_forgetFunctions_9 : decode cCM_forgetFunctions 9 = .ok (.getfield 65, 3) := by decide +kernel
theorem dCM_forgetFunctions_12 : decode cCM_forgetFunctions 12 = .ok (.iload_n 1, 1) := by decide +kernel
theorem dCM_forgetFunctions_13 : decode cCM_forgetFunctions 13 = .ok (.bipush (-2), 2) := by decide +kernel
theorem dCM_forgetFunctions_15 : decode cCM_forgetFunctions 15 = .ok (.iastore, 1) := by decide +kernel
theorem dCM_forgetFunctions_16 : decode cCM_forgetFunctions 16 = .ok (.iinc 1 1, 3) := by decide +kernel
theorem dCM_forgetFunctions_19 : decode cCM_forgetFunctions 19 = .ok (.goto (-17), 3) := by decide +kernel
theorem dCM_forgetFunctions_22 : decode cCM_forgetFunctions 22 = .ok (.return_, 1) := by decide +kernel
theorem dCM_closeTypes_0 : decode cCM_closeTypes 0 = .ok (.aload_n 0, 1) := by decide +kernel
theorem dCM_closeTypes_1 : decode cCM_closeTypes 1 = .ok (.invokevirtual 79, 3) := by decide +kernel
theorem dCM_closeTypes_4 : decode cCM_closeTypes 4 = .ok (.iconst 0, 1) := by decide +kernel
theorem dCM_closeTypes_5 : decode cCM_closeTypes 5 = .ok (.istore_n 1, 1) := by decide +kernel
theorem dCM_closeTypes_6 : decode cCM_closeTypes 6 = .ok (.iload_n 1, 1) := by decide +kernel
theorem dCM_closeTypes_7 : decode cCM_closeTypes 7 = .ok (.aload_n 0, 1) := by decide +kernel
theorem dCM_closeTypes_8 : decode cCM_closeTypes 8 = .ok (.getfield 68, 3) := by decide +kernel
theorem dCM_closeTypes_11 : decode cCM_closeTypes 11 = .ok (.if_icmp .ge 109, 3) := by decide +kernel
theorem dCM_closeTypes_14 : decode cCM_closeTypes 14 = .ok (.iconst 0, 1) := by decide +kernel
theorem dCM_closeTypes_15 : decode cCM_closeTypes 15 = .ok (.istore_n 2, 1) := by decide +kernel
theorem dCM_closeTypes_16 : decode cCM_closeTypes 16 = .ok (.iload_n 2, 1) := by decide +kernel
theorem dCM_closeTypes_17 : decode cCM_closeTypes 17 = .ok (.aload_n 0, 1) := by decide +kernel
theorem dCM_closeTypes_18 : decode cCM_closeTypes 18 = .ok (.getfield 68, 3) := by decide +kernel
theorem dCM_closeTypes_21 : decode cCM_closeTypes 21 = .ok (.if_icmp .ge 93, 3) := by decide +kernel
theorem dCM_closeTypes_24 : decode cCM_closeTypes 24 = .ok (.iload_n 1, 1) := by decide +kernel
theorem dCM_closeTypes_25 : decode cCM_closeTypes 25 = .ok (.iload_n 2, 1) := by decide +kernel
theorem dCM_closeTypes_26 : decode cCM_closeTypes 26 = .ok (.if_icmp .eq 16, 3) := by decide +kernel
theorem dCM_closeTypes_29 : decode cCM_closeTypes 29 = .ok (.aload_n 0, 1) := by decide +kernel
theorem dCM_closeTypes_30 : decode cCM_closeTypes 30 = .ok (.getfield 13, 3) := by decide +kernel
theorem dCM_closeTypes_33 : decode cCM_closeTypes 33 = .ok (.iload_n 1, 1) := by decide +kernel
theorem dCM_closeTypes_34 : decode cCM_closeTypes 34 = .ok (.iaload, 1) := by decide +kernel
theorem dCM_closeTypes_35 : decode cCM_closeTypes 35 = .ok (.bipush 16, 2) := by decide +kernel
theorem dCM_closeTypes_37 : decode cCM_closeTypes 37 = .ok (.iload_n 2, 1) := by decide +kernel
theorem dCM_closeTypes_38 : decode cCM_closeTypes 38 = .ok (.iadd, 1) := by decide +kernel
theorem dCM_closeTypes_39 : decode cCM_closeTypes 39 = .ok (.if_icmp .ne 7, 3) := by decide +kernel
theorem dCM_closeTypes_42 : decode cCM_closeTypes 42 = .ok (.iconst 1, 1) := by decide +kernel
theorem dCM_closeTypes_43 : decode cCM_closeTypes 43 = .ok (.goto 4, 3) := by decide +kernel
theorem dCM_closeTypes_46 : decode cCM_closeTypes 46 = .ok (.iconst 0, 1) := by decide +kernel
theorem dCM_closeTypes_47 : decode cCM_closeTypes 47 = .ok (.istore_n 3, 1) := by decide +kernel
theorem dCM_closeTypes_48 : decode cCM_closeTypes 48 = .ok (.iconst 0, 1) := by decide +kernel
theorem dCM_closeTypes_49 : decode cCM_closeTypes 49 = .ok (.istore 4, 2) := by decide +kernel
theorem dCM_closeTypes_51 : decode cCM_closeTypes 51 = .ok (.iload 4, 2) := by decide +kernel
theorem dCM_closeTypes_53 : decode cCM_closeTypes 53 = .ok (.aload_n 0, 1) := by decide +kernel
theorem dCM_closeTypes_54 : decode cCM_closeTypes 54 = .ok (.getfield 17, 3) := by decide +kernel
theorem dCM_closeTypes_57 : decode cCM_closeTypes 57 = .ok (.iload_n 1, 1) := by decide +kernel
theorem dCM_closeTypes_58 : decode cCM_closeTypes 58 = .ok (.iaload, 1) := by decide +kernel
theorem dCM_closeTypes_59 : decode cCM_closeTypes 59 = .ok (.if_icmp .ge 37, 3) := by decide +kernel
theorem dCM_closeTypes_62 : decode cCM_closeTypes 62 = .ok (.iload_n 3, 1) := by decide +kernel
theorem dCM_closeTypes_63 : decode cCM_closeTypes 63 = .ok (.ifCond .ne 21, 3) := by decide +kernel
theorem dCM_closeTypes_66 : decode cCM_closeTypes 66 = .ok (.aload_n 0, 1) := by decide +kernel
theorem dCM_closeTypes_67 : decode cCM_closeTypes 67 = .ok (.getfield 20, 3) := by decide +kernel
theorem dCM_closeTypes_70 : decode cCM_closeTypes 70 = .ok (.iconst 4, 1) := by decide +kernel
theorem dCM_closeTypes_71 : decode cCM_closeTypes 71 = .ok (.iload_n 1, 1) := by decide +kernel
theorem dCM_closeTypes_72 : decode cCM_closeTypes 72 = .ok (.imul, 1) := by decide +kernel
theorem dCM_closeTypes_73 : decode cCM_closeTypes 73 = .ok (.iload 4, 2) := by decide +kernel
theorem dCM_closeTypes_75 : decode cCM_closeTypes 75 = .ok (.iadd, 1) := by decide +kernel
theorem dCM_closeTypes_76 : decode cCM_closeTypes 76 = .ok (.iaload, 1) := by decide +kernel
theorem dCM_closeTypes_77 : decode cCM_closeTypes 77 = .ok (.bipush 16, 2) := by decide +kernel
theorem dCM_closeTypes_79 : decode cCM_closeTypes 79 = .ok (.iload_n 2, 1) := by decide +kernel
theorem dCM_closeTypes_80 : decode cCM_closeTypes 80 = .ok (.iadd, 1) := by decide +kernel
theorem dCM_closeTypes_81 : decode cCM_closeTypes 81 = .ok (.if_icmp .ne 7, 3) := by decide +kernel
theorem dCM_closeTypes_84 : decode cCM_closeTypes 84 = .ok (.iconst 1, 1) := by decide +kernel
theorem dCM_closeTypes_85 : decode cCM_closeTypes 85 = .ok (.goto 4, 3) := by decide +kernel
theorem dCM_closeTypes_88 : decode cCM_closeTypes 88 = .ok (.iconst 0, 1) := by decide +kernel
theorem dCM_closeTypes_89 : decode cCM_closeTypes 89 = .ok (.istore_n 3, 1) := by decide +kernel
theorem dCM_closeTypes_90 : decode cCM_closeTypes 90 = .ok (.iinc 4 1, 3) := by decide +kernel
theorem dCM_closeTypes_93 : decode cCM_closeTypes 93 = .ok (.goto (-42), 3) := by decide +kernel
theorem dCM_closeTypes_96 : decode cCM_closeTypes 96 = .ok (.aload_n 0, 1) := by decide +kernel
theorem dCM_closeTypes_97 : decode cCM_closeTypes 97 = .ok (.getfield 23, 3) := by decide +kernel
theorem dCM_closeTypes_100 : decode cCM_closeTypes 100 = .ok (.bipush 24, 2) := by decide +kernel
theorem dCM_closeTypes_102 : decode cCM_closeTypes 102 = .ok (.iload_n 1, 1) := by decide +kernel
theorem dCM_closeTypes_103 : decode cCM_closeTypes 103 = .ok (.imul, 1) := by decide +kernel
theorem dCM_closeTypes_104 : decode cCM_closeTypes 104 = .ok (.iload_n 2, 1) := by decide +kernel
theorem dCM_closeTypes_105 : decode cCM_closeTypes 105 = .ok (.iadd, 1) := by decide +kernel
theorem dCM_closeTypes_106 : decode cCM_closeTypes 106 = .ok (.iload_n 3, 1) := by decide +kernel
theorem dCM_closeTypes_107 : decode cCM_closeTypes 107 = .ok (.bastore, 1) := by decide +kernel
theorem dCM_closeTypes_108 : decode cCM_closeTypes 108 = .ok (.iinc 2 1, 3) := by decide +kernel
theorem dCM_closeTypes_111 : decode cCM_closeTypes 111 = .ok (.goto (-95), 3) := by decide +kernel
theorem dCM_closeTypes_114 : decode cCM_closeTypes 114 = .ok (.iinc 1 1, 3) := by decide +kernel
theorem dCM_closeTypes_117 : decode cCM_closeTypes 117 = .ok (.goto (-111), 3) := by decide +kernel
theorem dCM_closeTypes_120 : decode cCM_closeTypes 120 = .ok (.iconst 0, 1) := by decide +kernel
theorem dCM_closeTypes_121 : decode cCM_closeTypes 121 = .ok (.istore_n 1, 1) := by decide +kernel
theorem dCM_closeTypes_122 : decode cCM_closeTypes 122 = .ok (.iload_n 1, 1) := by decide +kernel
theorem dCM_closeTypes_123 : decode cCM_closeTypes 123 = .ok (.aload_n 0, 1) := by decide +kernel
theorem dCM_closeTypes_124 : decode cCM_closeTypes 124 = .ok (.getfield 68, 3) := by decide +kernel
theorem dCM_closeTypes_127 : decode cCM_closeTypes 127 = .ok (.if_icmp .ge 99, 3) := by decide +kernel
theorem dCM_closeTypes_130 : decode cCM_closeTypes 130 = .ok (.iconst 0, 1) := by decide +kernel
theorem dCM_closeTypes_131 : decode cCM_closeTypes 131 = .ok (.istore_n 2, 1) := by decide +kernel
theorem dCM_closeTypes_132 : decode cCM_closeTypes 132 = .ok (.iload_n 2, 1) := by decide +kernel
theorem dCM_closeTypes_133 : decode cCM_closeTypes 133 = .ok (.aload_n 0, 1) := by decide +kernel
theorem dCM_closeTypes_134 : decode cCM_closeTypes 134 = .ok (.getfield 68, 3) := by decide +kernel
theorem dCM_closeTypes_137 : decode cCM_closeTypes 137 = .ok (.if_icmp .ge 83, 3) := by decide +kernel
theorem dCM_closeTypes_140 : decode cCM_closeTypes 140 = .ok (.iconst 0, 1) := by decide +kernel
