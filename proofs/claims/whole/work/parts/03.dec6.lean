theorem dCM_passes_2 : decode cCM_passes 2 = .ok (.if_icmp .ne 12, 3) := by decide +kernel
theorem dCM_passes_5 : decode cCM_passes 5 = .ok (.aload_n 0, 1) := by decide +kernel
theorem dCM_passes_6 : decode cCM_passes 6 = .ok (.iload_n 1, 1) := by decide +kernel
theorem dCM_passes_7 : decode cCM_passes 7 = .ok (.iload_n 2, 1) := by decide +kernel
theorem dCM_passes_8 : decode cCM_passes 8 = .ok (.invokevirtual 89, 3) := by decide +kernel
theorem dCM_passes_11 : decode cCM_passes 11 = .ok (.goto 9, 3) := by decide +kernel
theorem dCM_passes_14 : decode cCM_passes 14 = .ok (.aload_n 0, 1) := by decide +kernel
theorem dCM_passes_15 : decode cCM_passes 15 = .ok (.iload_n 1, 1) := by decide +kernel
theorem dCM_passes_16 : decode cCM_passes 16 = .ok (.iload_n 2, 1) := by decide +kernel
theorem dCM_passes_17 : decode cCM_passes 17 = .ok (.invokevirtual 101, 3) := by decide +kernel
theorem dCM_passes_20 : decode cCM_passes 20 = .ok (.ireturn, 1) := by decide +kernel
theorem dCM_takes_0 : decode cCM_takes 0 = .ok (.aload_n 0, 1) := by decide +kernel
theorem dCM_takes_1 : decode cCM_takes 1 = .ok (.getfield 47, 3) := by decide +kernel
theorem dCM_takes_4 : decode cCM_takes 4 = .ok (.iload_n 2, 1) := by decide +kernel
theorem dCM_takes_5 : decode cCM_takes 5 = .ok (.iaload, 1) := by decide +kernel
theorem dCM_takes_6 : decode cCM_takes 6 = .ok (.ifCond .ne 16, 3) := by decide +kernel
theorem dCM_takes_9 : decode cCM_takes 9 = .ok (.aload_n 0, 1) := by decide +kernel
theorem dCM_takes_10 : decode cCM_takes 10 = .ok (.aload_n 0, 1) := by decide +kernel
theorem dCM_takes_11 : decode cCM_takes 11 = .ok (.getfield 44, 3) := by decide +kernel
theorem dCM_takes_14 : decode cCM_takes 14 = .ok (.iload_n 2, 1) := by decide +kernel
theorem dCM_takes_15 : decode cCM_takes 15 = .ok (.iaload, 1) := by decide +kernel
theorem dCM_takes_16 : decode cCM_takes 16 = .ok (.iload_n 1, 1) := by decide +kernel
theorem dCM_takes_17 : decode cCM_takes 17 = .ok (.iload_n 3, 1) := by decide +kernel
theorem dCM_takes_18 : decode cCM_takes 18 = .ok (.invokevirtual 150, 3) := by decide +kernel
theorem dCM_takes_21 : decode cCM_takes 21 = .ok (.ireturn, 1) := by decide +kernel
theorem dCM_takes_22 : decode cCM_takes 22 = .ok (.aload_n 0, 1) := by decide +kernel
theorem dCM_takes_23 : decode cCM_takes 23 = .ok (.iload_n 1, 1) := by decide +kernel
theorem dCM_takes_24 : decode cCM_takes 24 = .ok (.iload_n 2, 1) := by decide +kernel
theorem dCM_takes_25 : decode cCM_takes 25 = .ok (.invokevirtual 140, 3) := by decide +kernel
theorem dCM_takes_28 : decode cCM_takes 28 = .ok (.ifCond .ne 5, 3) := by decide +kernel
theorem dCM_takes_31 : decode cCM_takes 31 = .ok (.iconst 0, 1) := by decide +kernel
theorem dCM_takes_32 : decode cCM_takes 32 = .ok (.ireturn, 1) := by decide +kernel
theorem dCM_takes_33 : decode cCM_takes 33 = .ok (.aload_n 0, 1) := by decide +kernel
theorem dCM_takes_34 : decode cCM_takes 34 = .ok (.iload_n 1, 1) := by decide +kernel
theorem dCM_takes_35 : decode cCM_takes 35 = .ok (.invokevirtual 131, 3) := by decide +kernel
theorem dCM_takes_38 : decode cCM_takes 38 = .ok (.istore 4, 2) := by decide +kernel
theorem dCM_takes_40 : decode cCM_takes 40 = .ok (.iconst 1, 1) := by decide +kernel
theorem dCM_takes_41 : decode cCM_takes 41 = .ok (.istore 5, 2) := by decide +kernel
theorem dCM_takes_43 : decode cCM_takes 43 = .ok (.iconst 0, 1) := by decide +kernel
theorem dCM_takes_44 : decode cCM_takes 44 = .ok (.istore 6, 2) := by decide +kernel
theorem dCM_takes_46 : decode cCM_takes 46 = .ok (.iload 6, 2) := by decide +kernel
theorem dCM_takes_48 : decode cCM_takes 48 = .ok (.aload_n 0, 1) := by decide +kernel
theorem dCM_takes_49 : decode cCM_takes 49 = .ok (.getfield 50, 3) := by decide +kernel
theorem dCM_takes_52 : decode cCM_takes 52 = .ok (.iload_n 2, 1) := by decide +kernel
theorem dCM_takes_53 : decode cCM_takes 53 = .ok (.iaload, 1) := by decide +kernel
theorem dCM_takes_54 : decode cCM_takes 54 = .ok (.if_icmp .ge 57, 3) := by decide +kernel
theorem dCM_takes_57 : decode cCM_takes 57 = .ok (.aload_n 0, 1) := by decide +kernel
theorem dCM_takes_58 : decode cCM_takes 58 = .ok (.getfield 47, 3) := by decide +kernel
theorem dCM_takes_61 : decode cCM_takes 61 = .ok (.iload_n 2, 1) := by decide +kernel
theorem dCM_takes_62 : decode cCM_takes 62 = .ok (.iaload, 1) := by decide +kernel
theorem dCM_takes_63 : decode cCM_takes 63 = .ok (.iconst 2, 1) := by decide +kernel
theorem dCM_takes_64 : decode cCM_takes 64 = .ok (.if_icmp .ne 47, 3) := by decide +kernel
theorem dCM_takes_67 : decode cCM_takes 67 = .ok (.iload 5, 2) := by decide +kernel
theorem dCM_takes_69 : decode cCM_takes 69 = .ok (.ifCond .eq 33, 3) := by decide +kernel
theorem dCM_takes_72 : decode cCM_takes 72 = .ok (.aload_n 0, 1) := by decide +kernel
theorem dCM_takes_73 : decode cCM_takes 73 = .ok (.getfield 41, 3) := by decide +kernel
theorem dCM_takes_76 : decode cCM_takes 76 = .ok (.iconst 4, 1) := by decide +kernel
theorem dCM_takes_77 : decode cCM_takes 77 = .ok (.iload 4, 2) := by decide +kernel
theorem dCM_takes_79 : decode cCM_takes 79 = .ok (.imul, 1) := by decide +kernel
theorem dCM_takes_80 : decode cCM_takes 80 = .ok (.iload 6, 2) := by decide +kernel
theorem dCM_takes_82 : decode cCM_takes 82 = .ok (.iadd, 1) := by decide +kernel
theorem dCM_takes_83 : decode cCM_takes 83 = .ok (.iaload, 1) := by decide +kernel
theorem dCM_takes_84 : decode cCM_takes 84 = .ok (.aload_n 0, 1) := by decide +kernel
theorem dCM_takes_85 : decode cCM_takes 85 = .ok (.getfield 53, 3) := by decide +kernel
theorem dCM_takes_88 : decode cCM_takes 88 = .ok (.iconst 2, 1) := by decide +kernel
theorem dCM_takes_89 : decode cCM_takes 89 = .ok (.iload_n 2, 1) := by decide +kernel
theorem dCM_takes_90 : decode cCM_takes 90 = .ok (.imul, 1) := by decide +kernel
theorem dCM_takes_91 : decode cCM_takes 91 = .ok (.iload 6, 2) := by decide +kernel
theorem dCM_takes_93 : decode cCM_takes 93 = .ok (.iadd, 1) := by decide +kernel
theorem dCM_takes_94 : decode cCM_takes 94 = .ok (.iaload, 1) := by decide +kernel
theorem dCM_takes_95 : decode cCM_takes 95 = .ok (.if_icmp .ne 7, 3) := by decide +kernel
theorem dCM_takes_98 : decode cCM_takes 98 = .ok (.iconst 1, 1) := by decide +kernel
theorem dCM_takes_99 : decode cCM_takes 99 = .ok (.goto 4, 3) := by decide +kernel
theorem dCM_takes_102 : decode cCM_takes 102 = .ok (.iconst 0, 1) := by decide +kernel
theorem dCM_takes_103 : decode cCM_takes 103 = .ok (.istore 5, 2) := by decide +kernel
theorem dCM_takes_105 : decode cCM_takes 105 = .ok (.iinc 6 1, 3) := by decide +kernel
theorem dCM_takes_108 : decode cCM_takes 108 = .ok (.goto (-62), 3) := by decide +kernel
theorem dCM_takes_111 : decode cCM_takes 111 = .ok (.iload 5, 2) := by decide +kernel
theorem dCM_takes_113 : decode cCM_takes 113 = .ok (.ifCond .eq 48, 3) := by decide +kernel
theorem dCM_takes_116 : decode cCM_takes 116 = .ok (.aload_n 0, 1) := by decide +kernel
theorem dCM_takes_117 : decode cCM_takes 117 = .ok (.getfield 47, 3) := by decide +kernel
theorem dCM_takes_120 : decode cCM_takes 120 = .ok (.iload_n 2, 1) := by decide +kernel
theorem dCM_takes_121 : decode cCM_takes 121 = .ok (.iaload, 1) := by decide +kernel
theorem dCM_takes_122 : decode cCM_takes 122 = .ok (.iconst 1, 1) := by decide +kernel
theorem dCM_takes_123 : decode cCM_takes 123 = .ok (.if_icmp .eq 34, 3) := by decide +kernel
theorem dCM_takes_126 : decode cCM_takes 126 = .ok (.aload_n 0, 1) := by decide +kernel
theorem dCM_takes_127 : decode cCM_takes 127 = .ok (.getfield 56, 3) := by decide +kernel
theorem dCM_takes_130 : decode cCM_takes 130 = .ok (.iload_n 2, 1) := by decide +kernel
theorem dCM_takes_131 : decode cCM_takes 131 = .ok (.iaload, 1) := by decide +kernel
theorem dCM_takes_132 : decode cCM_takes 132 = .ok (.iconst (-1), 1) := by decide +kernel
theorem dCM_takes_133 : decode cCM_takes 133 = .ok (.if_icmp .eq 24, 3) := by decide +kernel
theorem dCM_takes_136 : decode cCM_takes 136 = .ok (.aload_n 0, 1) := by decide +kernel
theorem dCM_takes_137 : decode cCM_takes 137 = .ok (.aload_n 0, 1) := by decide +kernel
theorem dCM_takes_138 : decode cCM_takes 138 = .ok (.getfield 56, 3) := by decide +kernel
theorem dCM_takes_141 : decode cCM_takes 141 = .ok (.iload_n 2, 1) := by decide +kernel
theorem dCM_takes_142 : decode cCM_takes 142 = .ok (.iaload, 1) := by decide +kernel
theorem dCM_takes_143 : decode cCM_takes 143 = .ok (.aload_n 0, 1) := by decide +kernel
theorem dCM_takes_144 : decode cCM_takes 144 = .ok (.getfield 35, 3) := by decide +kernel
theorem dCM_takes_147 : decode cCM_takes 147 = .ok (.iload 4, 2) := by decide +kernel
theorem dCM_takes_149 : decode cCM_takes 149 = .ok (.iaload, 1) := by decide +kernel
theorem dCM_takes_150 : decode cCM_takes 150 = .ok (.iload_n 3, 1) := by decide +kernel
theorem dCM_takes_151 : decode cCM_takes 151 = .ok (.invokevirtual 150, 3) := by decide +kernel
theorem dCM_takes_154 : decode cCM_takes 154 = .ok (.ifCond .eq 7, 3) := by decide +kernel
theorem dCM_takes_157 : decode cCM_takes 157 = .ok (.iconst 1, 1) := by decide +kernel
theorem dCM_takes_158 : decode cCM_takes 158 = .ok (.goto 4, 3) := by decide +kernel
theorem dCM_takes_161 : decode cCM_takes 161 = .ok (.iconst 0, 1) := by decide +kernel
theorem dCM_takes_162 : decode cCM_takes 162 = .ok (.ireturn, 1) := by decide +kernel
theorem dCM_doesApply_0 : decode cCM_doesApply 0 = .ok (.iload_n 2, 1) := by decide +kernel
theorem dCM_doesApply_1 : decode cCM_doesApply 1 = .ok (.iconst 3, 1) := by decide +kernel
theorem dCM_doesApply_2 : decode cCM_doesApply 2 = .ok (.if_icmp .ne 7, 3) := by decide +kernel
theorem dCM_doesApply_5 : decode cCM_doesApply 5 = .ok (.iconst 1, 1) := by decide +kernel
theorem dCM_doesApply_6 : decode cCM_doesApply 6 = .ok (.goto 4, 3) := by decide +kernel
theorem dCM_doesApply_9 : decode cCM_doesApply 9 = .ok (.iconst 0, 1) := by decide +kernel
theorem dCM_doesApply_10 : decode cCM_doesApply 10 = .ok (.istore_n 3, 1) := by decide +kernel
theorem dCM_doesApply_11 : decode cCM_doesApply 11 = .ok (.iload_n 3, 1) := by decide +kernel
theorem dCM_doesApply_12 : decode cCM_doesApply 12 = .ok (.ifCond .eq 16, 3) := by decide +kernel
theorem dCM_doesApply_15 : decode cCM_doesApply 15 = .ok (.aload_n 0, 1) := by decide +kernel
theorem dCM_doesApply_16 : decode cCM_doesApply 16 = .ok (.iload_n 1, 1) := by decide +kernel
theorem dCM_doesApply_17 : decode cCM_doesApply 17 = .ok (.bipush 8, 2) := by decide +kernel
theorem dCM_doesApply_19 : decode cCM_doesApply 19 = .ok (.invokevirtual 117, 3) := by decide +kernel
theorem dCM_doesApply_22 : decode cCM_doesApply 22 = .ok (.ifCond .ne 21, 3) := by decide +kernel
theorem dCM_doesApply_25 : decode cCM_doesApply 25 = .ok (.goto 16, 3) := by decide +kernel
theorem dCM_doesApply_28 : decode cCM_doesApply 28 = .ok (.aload_n 0, 1) := by decide +kernel
theorem dCM_doesApply_29 : decode cCM_doesApply 29 = .ok (.getfield 38, 3) := by decide +kernel
theorem dCM_doesApply_32 : decode cCM_doesApply 32 = .ok (.iload_n 1, 1) := by decide +kernel
theorem dCM_doesApply_33 : decode cCM_doesApply 33 = .ok (.iaload, 1) := by decide +kernel
theorem dCM_doesApply_34 : decode cCM_doesApply 34 = .ok (.aload_n 0, 1) := by decide +kernel
theorem dCM_doesApply_35 : decode cCM_doesApply 35 = .ok (.getfield 137, 3) := by decide +kernel
theorem dCM_doesApply_38 : decode cCM_doesApply 38 = .ok (.if_icmp .eq 5, 3) := by decide +kernel
theorem dCM_doesApply_41 : decode cCM_doesApply 41 = .ok (.iconst 0, 1) := by decide +kernel
theorem dCM_doesApply_42 : decode cCM_doesApply 42 = .ok (.ireturn, 1) := by decide +kernel
theorem dCM_doesApply_43 : decode cCM_doesApply 43 = .ok (.iconst 0, 1) := by decide +kernel
theorem dCM_doesApply_44 : decode cCM_doesApply 44 = .ok (.istore 4, 2) := by decide +kernel
theorem dCM_doesApply_46 : decode cCM_doesApply 46 = .ok (.iload 4, 2) := by decide +kernel
theorem dCM_doesApply_48 : decode cCM_doesApply 48 = .ok (.aload_n 0, 1) := by decide +kernel
theorem dCM_doesApply_49 : decode cCM_doesApply 49 = .ok (.getfield 137, 3) := by decide +kernel
theorem dCM_doesApply_52 : decode cCM_doesApply 52 = .ok (.if_icmp .ge 29, 3) := by decide +kernel
theorem dCM_doesApply_55 : decode cCM_doesApply 55 = .ok (.aload_n 0, 1) := by decide +kernel
theorem dCM_doesApply_56 : decode cCM_doesApply 56 = .ok (.aload_n 0, 1) := by decide +kernel
theorem dCM_doesApply_57 : decode cCM_doesApply 57 = .ok (.iload_n 1, 1) := by decide +kernel
theorem dCM_doesApply_58 : decode cCM_doesApply 58 = .ok (.iload 4, 2) := by decide +kernel
theorem dCM_doesApply_60 : decode cCM_doesApply 60 = .ok (.iload_n 3, 1) := by decide +kernel
theorem dCM_doesApply_61 : decode cCM_doesApply 61 = .ok (.invokevirtual 143, 3) := by decide +kernel
theorem dCM_doesApply_64 : decode cCM_doesApply 64 = .ok (.iload 4, 2) := by decide +kernel
theorem dCM_doesApply_66 : decode cCM_doesApply 66 = .ok (.iload_n 2, 1) := by decide +kernel
theorem dCM_doesApply_67 : decode cCM_doesApply 67 = .ok (.invokevirtual 147, 3) := by decide +kernel
theorem dCM_doesApply_70 : decode cCM_doesApply 70 = .ok (.ifCond .ne 5, 3) := by decide +kernel
theorem dCM_doesApply_73 : decode cCM_doesApply 73 = .ok (.iconst 0, 1) := by decide +kernel
theorem dCM_doesApply_74 : decode cCM_doesApply 74 = .ok (.ireturn, 1) := by decide +kernel
theorem dCM_doesApply_75 : decode cCM_doesApply 75 = .ok (.iinc 4 1, 3) := by decide +kernel
theorem dCM_doesApply_78 : decode cCM_doesApply 78 = .ok (.goto (-32), 3) := by decide +kernel
theorem dCM_doesApply_81 : decode cCM_doesApply 81 = .ok (.iconst 1, 1) := by decide +kernel
theorem dCM_doesApply_82 : decode cCM_doesApply 82 = .ok (.ireturn, 1) := by decide +kernel
theorem dCM_isMeant_0 : decode cCM_isMeant 0 = .ok (.aload_n 0, 1) := by decide +kernel
theorem dCM_isMeant_1 : decode cCM_isMeant 1 = .ok (.iload_n 1, 1) := by decide +kernel
theorem dCM_isMeant_2 : decode cCM_isMeant 2 = .ok (.bipush 8, 2) := by decide +kernel
theorem dCM_isMeant_4 : decode cCM_isMeant 4 = .ok (.invokevirtual 117, 3) := by decide +kernel
theorem dCM_isMeant_7 : decode cCM_isMeant 7 = .ok (.istore_n 2, 1) := by decide +kernel
theorem dCM_isMeant_8 : decode cCM_isMeant 8 = .ok (.aload_n 0, 1) := by decide +kernel
theorem dCM_isMeant_9 : decode cCM_isMeant 9 = .ok (.getfield 38, 3) := by decide +kernel
theorem dCM_isMeant_12 : decode cCM_isMeant 12 = .ok (.iload_n 1, 1) := by decide +kernel
theorem dCM_isMeant_13 : decode cCM_isMeant 13 = .ok (.iaload, 1) := by decide +kernel
theorem dCM_isMeant_14 : decode cCM_isMeant 14 = .ok (.aload_n 0, 1) := by decide +kernel
theorem dCM_isMeant_15 : decode cCM_isMeant 15 = .ok (.getfield 137, 3) := by decide +kernel
theorem dCM_isMeant_18 : decode cCM_isMeant 18 = .ok (.if_icmp .eq 24, 3) := by decide +kernel
theorem dCM_isMeant_21 : decode cCM_isMeant 21 = .ok (.iload_n 2, 1) := by decide +kernel
theorem dCM_isMeant_22 : decode cCM_isMeant 22 = .ok (.ifCond .eq 18, 3) := by decide +kernel
theorem dCM_isMeant_25 : decode cCM_isMeant 25 = .ok (.aload_n 0, 1) := by decide +kernel
theorem dCM_isMeant_26 : decode cCM_isMeant 26 = .ok (.getfield 38, 3) := by decide +kernel
theorem dCM_isMeant_29 : decode cCM_isMeant 29 = .ok (.iload_n 1, 1) := by decide +kernel
theorem dCM_isMeant_30 : decode cCM_isMeant 30 = .ok (.iaload, 1) := by decide +kernel
theorem dCM_isMeant_31 : decode cCM_isMeant 31 = .ok (.aload_n 0, 1) := by decide +kernel
theorem dCM_isMeant_32 : decode cCM_isMeant 32 = .ok (.getfield 137, 3) := by decide +kernel
theorem dCM_isMeant_35 : decode cCM_isMeant 35 = .ok (.iconst 1, 1) := by decide +kernel
theorem dCM_isMeant_36 : decode cCM_isMeant 36 = .ok (.iadd, 1) := by decide +kernel
theorem dCM_isMeant_37 : decode cCM_isMeant 37 = .ok (.if_icmp .le 5, 3) := by decide +kernel
theorem dCM_isMeant_40 : decode cCM_isMeant 40 = .ok (.iconst 0, 1) := by decide +kernel
theorem dCM_isMeant_41 : decode cCM_isMeant 41 = .ok (.ireturn, 1) := by decide +kernel
theorem dCM_isMeant_42 : decode cCM_isMeant 42 = .ok (.iconst 0, 1) := by decide +kernel
theorem dCM_isMeant_43 : decode cCM_isMeant 43 = .ok (.istore_n 3, 1) := by decide +kernel
theorem dCM_isMeant_44 : decode cCM_isMeant 44 = .ok (.iload_n 3, 1) := by decide +kernel
theorem dCM_isMeant_45 : decode cCM_isMeant 45 = .ok (.aload_n 0, 1) := by decide +kernel
theorem dCM_isMeant_46 : decode cCM_isMeant 46 = .ok (.getfield 137, 3) := by decide +kernel
theorem dCM_isMeant_49 : decode cCM_isMeant 49 = .ok (.if_icmp .ge 91, 3) := by decide +kernel
theorem dCM_isMeant_52 : decode cCM_isMeant 52 = .ok (.aload_n 0, 1) := by decide +kernel
theorem dCM_isMeant_53 : decode cCM_isMeant 53 = .ok (.getfield 47, 3) := by decide +kernel
theorem dCM_isMeant_56 : decode cCM_isMeant 56 = .ok (.iload_n 3, 1) := by decide +kernel
theorem dCM_isMeant_57 : decode cCM_isMeant 57 = .ok (.iaload, 1) := by decide +kernel
theorem dCM_isMeant_58 : decode cCM_isMeant 58 = .ok (.ifCond .le 76, 3) := by decide +kernel
theorem dCM_isMeant_61 : decode cCM_isMeant 61 = .ok (.iload_n 3, 1) := by decide +kernel
theorem dCM_isMeant_62 : decode cCM_isMeant 62 = .ok (.aload_n 0, 1) := by decide +kernel
theorem dCM_isMeant_63 : decode cCM_isMeant 63 = .ok (.getfield 38, 3) := by decide +kernel
theorem dCM_isMeant_66 : decode cCM_isMeant 66 = .ok (.iload_n 1, 1) := by decide +kernel
theorem dCM_isMeant_67 : decode cCM_isMeant 67 = .ok (.iaload, 1) := by decide +kernel
theorem dCM_isMeant_68 : decode cCM_isMeant 68 = .ok (.if_icmp .ge 21, 3) := by decide +kernel
theorem dCM_isMeant_71 : decode cCM_isMeant 71 = .ok (.aload_n 0, 1) := by decide +kernel
theorem dCM_isMeant_72 : decode cCM_isMeant 72 = .ok (.aload_n 0, 1) := by decide +kernel
theorem dCM_isMeant_73 : decode cCM_isMeant 73 = .ok (.getfield 41, 3) := by decide +kernel
theorem dCM_isMeant_76 : decode cCM_isMeant 76 = .ok (.iconst 4, 1) := by decide +kernel
theorem dCM_isMeant_77 : decode cCM_isMeant 77 = .ok (.iload_n 1, 1) := by decide +kernel
theorem dCM_isMeant_78 : decode cCM_isMeant 78 = .ok (.imul, 1) := by decide +kernel
theorem dCM_isMeant_79 : decode cCM_isMeant 79 = .ok (.iload_n 3, 1) := by decide +kernel
theorem dCM_isMeant_80 : decode cCM_isMeant 80 = .ok (.iadd, 1) := by decide +kernel
theorem dCM_isMeant_81 : decode cCM_isMeant 81 = .ok (.iaload, 1) := by decide +kernel
theorem dCM_isMeant_82 : decode cCM_isMeant 82 = .ok (.iload_n 3, 1) := by decide +kernel
theorem dCM_isMeant_83 : decode cCM_isMeant 83 = .ok (.invokevirtual 140, 3) := by decide +kernel
theorem dCM_isMeant_86 : decode cCM_isMeant 86 = .ok (.ifCond .ne 34, 3) := by decide +kernel
theorem dCM_isMeant_89 : decode cCM_isMeant 89 = .ok (.iload_n 2, 1) := by decide +kernel
theorem dCM_isMeant_90 : decode cCM_isMeant 90 = .ok (.ifCond .eq 34, 3) := by decide +kernel
theorem dCM_isMeant_93 : decode cCM_isMeant 93 = .ok (.iload_n 3, 1) := by decide +kernel
theorem dCM_isMeant_94 : decode cCM_isMeant 94 = .ok (.aload_n 0, 1) := by decide +kernel
theorem dCM_isMeant_95 : decode cCM_isMeant 95 = .ok (.getfield 38, 3) := by decide +kernel
theorem dCM_isMeant_98 : decode cCM_isMeant 98 = .ok (.iload_n 1, 1) := by decide +kernel
theorem dCM_isMeant_99 : decode cCM_isMeant 99 = .ok (.iaload, 1) := by decide +kernel
theorem dCM_isMeant_100 : decode cCM_isMeant 100 = .ok (.iconst 1, 1) := by decide +kernel
theorem dCM_isMeant_101 : decode cCM_isMeant 101 = .ok (.isub, 1) := by decide +kernel
theorem dCM_isMeant_102 : decode cCM_isMeant 102 = .ok (.if_icmp .lt 22, 3) := by decide +kernel
theorem dCM_isMeant_105 : decode cCM_isMeant 105 = .ok (.aload_n 0, 1) := by decide +kernel
theorem dCM_isMeant_106 : decode cCM_isMeant 106 = .ok (.aload_n 0, 1) := by decide +kernel
theorem dCM_isMeant_107 : decode cCM_isMeant 107 = .ok (.iload_n 1, 1) := by decide +kernel
theorem dCM_isMeant_108 : decode cCM_isMeant 108 = .ok (.iload_n 3, 1) := by decide +kernel
theorem dCM_isMeant_109 : decode cCM_isMeant 109 = .ok (.iconst 1, 1) := by decide +kernel
theorem dCM_isMeant_110 : decode cCM_isMeant 110 = .ok (.invokevirtual 143, 3) := by decide +kernel
theorem dCM_isMeant_113 : decode cCM_isMeant 113 = .ok (.iload_n 3, 1) := by decide +kernel
theorem dCM_isMeant_114 : decode cCM_isMeant 114 = .ok (.invokevirtual 140, 3) := by decide +kernel
theorem dCM_isMeant_117 : decode cCM_isMeant 117 = .ok (.ifCond .eq 7, 3) := by decide +kernel
theorem dCM_isMeant_120 : decode cCM_isMeant 120 = .ok (.iconst 1, 1) := by decide +kernel
theorem dCM_isMeant_121 : decode cCM_isMeant 121 = .ok (.goto 4, 3) := by decide +kernel
theorem dCM_isMeant_124 : decode cCM_isMeant 124 = .ok (.iconst 0, 1) := by decide +kernel
theorem dCM_isMeant_125 : decode cCM_isMeant 125 = .ok (.istore 4, 2) := by decide +kernel
theorem dCM_isMeant_127 : decode cCM_isMeant 127 = .ok (.iload 4, 2) := by decide +kernel
theorem dCM_isMeant_129 : decode cCM_isMeant 129 = .ok (.ifCond .ne 5, 3) := by decide +kernel
theorem dCM_isMeant_132 : decode cCM_isMeant 132 = .ok (.iconst 0, 1) := by decide +kernel
theorem dCM_isMeant_133 : decode cCM_isMeant 133 = .ok (.ireturn, 1) := by decide +kernel
theorem dCM_isMeant_134 : decode cCM_isMeant 134 = .ok (.iinc 3 1, 3) := by decide +kernel
theorem dCM_isMeant_137 : decode cCM_isMeant 137 = .ok (.goto (-93), 3) := by decide +kernel
theorem dCM_isMeant_140 : decode cCM_isMeant 140 = .ok (.iconst 1, 1) := by decide +kernel
theorem dCM_isMeant_141 : decode cCM_isMeant 141 = .ok (.ireturn, 1) := by decide +kernel
theorem dCM_choose_0 : decode cCM_choose 0 = .ok (.aload_n 0, 1) := by decide +kernel
theorem dCM_choose_1 : decode cCM_choose 1 = .ok (.iload_n 1, 1) := by decide +kernel
theorem dCM_choose_2 : decode cCM_choose 2 = .ok (.iload_n 2, 1) := by decide +kernel
theorem dCM_choose_3 : decode cCM_choose 3 = .ok (.iload_n 3, 1) := by decide +kernel
theorem dCM_choose_4 : decode cCM_choose 4 = .ok (.invokevirtual 134, 3) := by decide +kernel
theorem dCM_choose_7 : decode cCM_choose 7 = .ok (.ifCond .eq 14, 3) := by decide +kernel
theorem dCM_choose_10 : decode cCM_choose 10 = .ok (.iload 4, 2) := by decide +kernel
theorem dCM_choose_12 : decode cCM_choose 12 = .ok (.ifCond .lt 9, 3) := by decide +kernel
theorem dCM_choose_15 : decode cCM_choose 15 = .ok (.iload 4, 2) := by decide +kernel
theorem dCM_choose_17 : decode cCM_choose 17 = .ok (.iconst 1, 1) := by decide +kernel
theorem dCM_choose_18 : decode cCM_choose 18 = .ok (.if_icmp .le 6, 3) := by decide +kernel
theorem dCM_choose_21 : decode cCM_choose 21 = .ok (.bipush (-2), 2) := by decide +kernel
theorem dCM_choose_23 : decode cCM_choose 23 = .ok (.ireturn, 1) := by decide +kernel
theorem dCM_choose_24 : decode cCM_choose 24 = .ok (.aload_n 0, 1) := by decide +kernel
theorem dCM_choose_25 : decode cCM_choose 25 = .ok (.iconst 0, 1) := by decide +kernel
theorem dCM_choose_26 : decode cCM_choose 26 = .ok (.putfield 153, 3) := by decide +kernel
theorem dCM_choose_29 : decode cCM_choose 29 = .ok (.iconst 0, 1) := by decide +kernel
theorem dCM_choose_30 : decode cCM_choose 30 = .ok (.istore 5, 2) := by decide +kernel
theorem dCM_choose_32 : decode cCM_choose 32 = .ok (.iconst 0, 1) := by decide +kernel
theorem dCM_choose_33 : decode cCM_choose 33 = .ok (.istore 6, 2) := by decide +kernel
theorem dCM_choose_35 : decode cCM_choose 35 = .ok (.iconst 0, 1) := by decide +kernel
theorem dCM_choose_36 : decode cCM_choose 36 = .ok (.istore 7, 2) := by decide +kernel
theorem dCM_choose_38 : decode cCM_choose 38 = .ok (.iload 7, 2) := by decide +kernel
theorem dCM_choose_40 : decode cCM_choose 40 = .ok (.aload_n 0, 1) := by decide +kernel
theorem dCM_choose_41 : decode cCM_choose 41 = .ok (.getfield 110, 3) := by decide +kernel
theorem dCM_choose_44 : decode cCM_choose 44 = .ok (.if_icmp .ge 118, 3) := by decide +kernel
theorem dCM_choose_47 : decode cCM_choose 47 = .ok (.aload_n 0, 1) := by decide +kernel
theorem dCM_choose_48 : decode cCM_choose 48 = .ok (.getfield 59, 3) := by decide +kernel
theorem dCM_choose_51 : decode cCM_choose 51 = .ok (.iload 7, 2) := by decide +kernel
theorem dCM_choose_53 : decode cCM_choose 53 = .ok (.aload_n 0, 1) := by decide +kernel
theorem dCM_choose_54 : decode cCM_choose 54 = .ok (.getfield 29, 3) := by decide +kernel
theorem dCM_choose_57 : decode cCM_choose 57 = .ok (.iload 7, 2) := by decide +kernel
theorem dCM_choose_59 : decode cCM_choose 59 = .ok (.iaload, 1) := by decide +kernel
theorem dCM_choose_60 : decode cCM_choose 60 = .ok (.iload_n 2, 1) := by decide +kernel
theorem dCM_choose_61 : decode cCM_choose 61 = .ok (.if_icmp .ne 18, 3) := by decide +kernel
theorem dCM_choose_64 : decode cCM_choose 64 = .ok (.aload_n 0, 1) := by decide +kernel
theorem dCM_choose_65 : decode cCM_choose 65 = .ok (.iload 7, 2) := by decide +kernel
theorem dCM_choose_67 : decode cCM_choose 67 = .ok (.iload_n 1, 1) := by decide +kernel
theorem dCM_choose_68 : decode cCM_choose 68 = .ok (.iload_n 3, 1) := by decide +kernel
theorem dCM_choose_69 : decode cCM_choose 69 = .ok (.invokevirtual 127, 3) := by decide +kernel
theorem dCM_choose_72 : decode cCM_choose 72 = .ok (.ifCond .eq 7, 3) := by decide +kernel
theorem dCM_choose_75 : decode cCM_choose 75 = .ok (.iconst 1, 1) := by decide +kernel
theorem dCM_choose_76 : decode cCM_choose 76 = .ok (.goto 4, 3) := by decide +kernel
theorem dCM_choose_79 : decode cCM_choose 79 = .ok (.iconst 0, 1) := by decide +kernel
theorem dCM_choose_80 : decode cCM_choose 80 = .ok (.bastore, 1) := by decide +kernel
theorem dCM_choose_81 : decode cCM_choose 81 = .ok (.iload 5, 2) := by decide +kernel
theorem dCM_choose_83 : decode cCM_choose 83 = .ok (.ifCond .ne 13, 3) := by decide +kernel
theorem dCM_choose_86 : decode cCM_choose 86 = .ok (.aload_n 0, 1) := by decide +kernel
theorem dCM_choose_87 : decode cCM_choose 87 = .ok (.getfield 59, 3) := by decide +kernel
theorem dCM_choose_90 : decode cCM_choose 90 = .ok (.iload 7, 2) := by decide +kernel
theorem dCM_choose_92 : decode cCM_choose 92 = .ok (.baload, 1) := by decide +kernel
theorem dCM_choose_93 : decode cCM_choose 93 = .ok (.ifCond .eq 7, 3) := by decide +kernel
theorem dCM_choose_96 : decode cCM_choose 96 = .ok (.iconst 1, 1) := by decide +kernel
theorem dCM_choose_97 : decode cCM_choose 97 = .ok (.goto 4, 3) := by decide +kernel
theorem dCM_choose_100 : decode cCM_choose 100 = .ok (.iconst 0, 1) := by decide +kernel
theorem dCM_choose_101 : decode cCM_choose 101 = .ok (.istore 5, 2) := by decide +kernel
theorem dCM_choose_103 : decode cCM_choose 103 = .ok (.aload_n 0, 1) := by decide +kernel
theorem dCM_choose_104 : decode cCM_choose 104 = .ok (.getfield 59, 3) := by decide +kernel
theorem dCM_choose_107 : decode cCM_choose 107 = .ok (.iload 7, 2) := by decide +kernel
theorem dCM_choose_109 : decode cCM_choose 109 = .ok (.aload_n 0, 1) := by decide +kernel
theorem dCM_choose_110 : decode cCM_choose 110 = .ok (.getfield 59, 3) := by decide +kernel
theorem dCM_choose_113 : decode cCM_choose 113 = .ok (.iload 7, 2) := by decide +kernel
theorem dCM_choose_115 : decode cCM_choose 115 = .ok (.baload, 1) := by decide +kernel
theorem dCM_choose_116 : decode cCM_choose 116 = .ok (.ifCond .eq 16, 3) := by decide +kernel
theorem dCM_choose_119 : decode cCM_choose 119 = .ok (.aload_n 0, 1) := by decide +kernel
theorem dCM_choose_120 : decode cCM_choose 120 = .ok (.iload 7, 2) := by decide +kernel
theorem dCM_choose_122 : decode cCM_choose 122 = .ok (.invokevirtual 159, 3) := by decide +kernel
theorem dCM_choose_125 : decode cCM_choose 125 = .ok (.ifCond .eq 7, 3) := by decide +kernel
theorem dCM_choose_128 : decode cCM_choose 128 = .ok (.iconst 1, 1) := by decide +kernel
theorem dCM_choose_129 : decode cCM_choose 129 = .ok (.goto 4, 3) := by decide +kernel
theorem dCM_choose_132 : decode cCM_choose 132 = .ok (.iconst 0, 1) := by decide +kernel
theorem dCM_choose_133 : decode cCM_choose 133 = .ok (.bastore, 1) := by decide +kernel
theorem dCM_choose_134 : decode cCM_choose 134 = .ok (.iload 6, 2) := by decide +kernel
theorem dCM_choose_136 : decode cCM_choose 136 = .ok (.ifCond .ne 13, 3) := by decide +kernel
theorem dCM_choose_139 : decode cCM_choose 139 = .ok (.aload_n 0, 1) := by decide +kernel
theorem dCM_choose_140 : decode cCM_choose 140 = .ok (.getfield 59, 3) := by decide +kernel
theorem dCM_choose_143 : decode cCM_choose 143 = .ok (.iload 7, 2) := by decide +kernel
theorem dCM_choose_145 : decode cCM_choose 145 = .ok (.baload, 1) := by decide +kernel
theorem dCM_choose_146 : decode cCM_choose 146 = .ok (.ifCond .eq 7, 3) := by decide +kernel
theorem dCM_choose_149 : decode cCM_choose 149 = .ok (.iconst 1, 1) := by decide +kernel
theorem dCM_choose_150 : decode cCM_choose 150 = .ok (.goto 4, 3) := by decide +kernel
theorem dCM_choose_153 : decode cCM_choose 153 = .ok (.iconst 0, 1) := by decide +kernel
theorem dCM_choose_154 : decode cCM_choose 154 = .ok (.istore 6, 2) := by decide +kernel
theorem dCM_choose_156 : decode cCM_choose 156 = .ok (.iinc 7 1, 3) := by decide +kernel
theorem dCM_choose_159 : decode cCM_choose 159 = .ok (.goto (-121), 3) := by decide +kernel
theorem dCM_choose_162 : decode cCM_choose 162 = .ok (.aload_n 0, 1) := by decide +kernel
theorem dCM_choose_163 : decode cCM_choose 163 = .ok (.getfield 110, 3) := by decide +kernel
theorem dCM_choose_166 : decode cCM_choose 166 = .ok (.istore 7, 2) := by decide +kernel
theorem dCM_choose_168 : decode cCM_choose 168 = .ok (.iload 7, 2) := by decide +kernel
theorem dCM_choose_170 : decode cCM_choose 170 = .ok (.bipush 60, 2) := by decide +kernel
theorem dCM_choose_172 : decode cCM_choose 172 = .ok (.if_icmp .ge 17, 3) := by decide +kernel
theorem dCM_choose_175 : decode cCM_choose 175 = .ok (.aload_n 0, 1) := by decide +kernel
theorem dCM_choose_176 : decode cCM_choose 176 = .ok (.getfield 59, 3) := by decide +kernel
theorem dCM_choose_179 : decode cCM_choose 179 = .ok (.iload 7, 2) := by decide +kernel
theorem dCM_choose_181 : decode cCM_choose 181 = .ok (.iconst 0, 1) := by decide +kernel
theorem dCM_choose_182 : decode cCM_choose 182 = .ok (.bastore, 1) := by decide +kernel
theorem dCM_choose_183 : decode cCM_choose 183 = .ok (.iinc 7 1, 3) := by decide +kernel
theorem dCM_choose_186 : decode cCM_choose 186 = .ok (.goto (-18), 3) := by decide +kernel
theorem dCM_choose_189 : decode cCM_choose 189 = .ok (.iconst (-1), 1) := by decide +kernel
theorem dCM_choose_190 : decode cCM_choose 190 = .ok (.istore 7, 2) := by decide +kernel
theorem dCM_choose_192 : decode cCM_choose 192 = .ok (.iconst 1, 1) := by decide +kernel
theorem dCM_choose_193 : decode cCM_choose 193 = .ok (.istore 8, 2) := by decide +kernel
theorem dCM_choose_195 : decode cCM_choose 195 = .ok (.iload 8, 2) := by decide +kernel
theorem dCM_choose_197 : decode cCM_choose 197 = .ok (.iconst 4, 1) := by decide +kernel
theorem dCM_choose_198 : decode cCM_choose 198 = .ok (.if_icmp .ge 87, 3) := by decide +kernel
theorem dCM_choose_201 : decode cCM_choose 201 = .ok (.iload 6, 2) := by decide +kernel
theorem dCM_choose_203 : decode cCM_choose 203 = .ok (.ifCond .eq 82, 3) := by decide +kernel
theorem dCM_choose_206 : decode cCM_choose 206 = .ok (.iload 7, 2) := by decide +kernel
theorem dCM_choose_208 : decode cCM_choose 208 = .ok (.ifCond .ge 77, 3) := by decide +kernel
theorem dCM_choose_211 : decode cCM_choose 211 = .ok (.iconst 0, 1) := by decide +kernel
theorem dCM_choose_212 : decode cCM_choose 212 = .ok (.istore 9, 2) := by decide +kernel
theorem dCM_choose_214 : decode cCM_choose 214 = .ok (.iload 9, 2) := by decide +kernel
theorem dCM_choose_216 : decode cCM_choose 216 = .ok (.aload_n 0, 1) := by decide +kernel
theorem dCM_choose_217 : decode cCM_choose 217 = .ok (.getfield 110, 3) := by decide +kernel
theorem dCM_choose_220 : decode cCM_choose 220 = .ok (.if_icmp .ge 44, 3) := by decide +kernel
theorem dCM_choose_223 : decode cCM_choose 223 = .ok (.iload 7, 2) := by decide +kernel
theorem dCM_choose_225 : decode cCM_choose 225 = .ok (.ifCond .ge 29, 3) := by decide +kernel
theorem dCM_choose_228 : decode cCM_choose 228 = .ok (.aload_n 0, 1) := by decide +kernel
theorem dCM_choose_229 : decode cCM_choose 229 = .ok (.getfield 59, 3) := by decide +kernel
theorem dCM_choose_232 : decode cCM_choose 232 = .ok (.iload 9, 2) := by decide +kernel
theorem dCM_choose_234 : decode cCM_choose 234 = .ok (.baload, 1) := by decide +kernel
theorem dCM_choose_235 : decode cCM_choose 235 = .ok (.ifCond .eq 19, 3) := by decide +kernel
theorem dCM_choose_238 : decode cCM_choose 238 = .ok (.aload_n 0, 1) := by decide +kernel
theorem dCM_choose_239 : decode cCM_choose 239 = .ok (.iload 9, 2) := by decide +kernel
theorem dCM_choose_241 : decode cCM_choose 241 = .ok (.iload 8, 2) := by decide +kernel
theorem dCM_choose_243 : decode cCM_choose 243 = .ok (.invokevirtual 162, 3) := by decide +kernel
theorem dCM_choose_246 : decode cCM_choose 246 = .ok (.ifCond .eq 8, 3) := by decide +kernel
theorem dCM_choose_249 : decode cCM_choose 249 = .ok (.iload 9, 2) := by decide +kernel
theorem dCM_choose_251 : decode cCM_choose 251 = .ok (.goto 5, 3) := by decide +kernel
theorem dCM_choose_254 : decode cCM_choose 254 = .ok (.iload 7, 2) := by decide +kernel
theorem dCM_choose_256 : decode cCM_choose 256 = .ok (.istore 7, 2) := by decide +kernel
theorem dCM_choose_258 : decode cCM_choose 258 = .ok (.iinc 9 1, 3) := by decide +kernel
theorem dCM_choose_261 : decode cCM_choose 261 = .ok (.goto (-47), 3) := by decide +kernel
theorem dCM_choose_264 : decode cCM_choose 264 = .ok (.aload_n 0, 1) := by decide +kernel
theorem dCM_choose_265 : decode cCM_choose 265 = .ok (.iload 7, 2) := by decide +kernel
theorem dCM_choose_267 : decode cCM_choose 267 = .ok (.ifCond .ge 7, 3) := by decide +kernel
theorem dCM_choose_270 : decode cCM_choose 270 = .ok (.iconst 0, 1) := by decide +kernel
theorem dCM_choose_271 : decode cCM_choose 271 = .ok (.goto 5, 3) := by decide +kernel
theorem dCM_choose_274 : decode cCM_choose 274 = .ok (.iload 8, 2) := by decide +kernel
theorem dCM_choose_276 : decode cCM_choose 276 = .ok (.putfield 153, 3) := by decide +kernel
theorem dCM_choose_279 : decode cCM_choose 279 = .ok (.iinc 8 1, 3) := by decide +kernel
theorem dCM_choose_282 : decode cCM_choose 282 = .ok (.goto (-87), 3) := by decide +kernel
theorem dCM_choose_285 : decode cCM_choose 285 = .ok (.iconst 0, 1) := by decide +kernel
theorem dCM_choose_286 : decode cCM_choose 286 = .ok (.istore 8, 2) := by decide +kernel
theorem dCM_choose_288 : decode cCM_choose 288 = .ok (.iload 8, 2) := by decide +kernel
theorem dCM_choose_290 : decode cCM_choose 290 = .ok (.aload_n 0, 1) := by decide +kernel
theorem dCM_choose_291 : decode cCM_choose 291 = .ok (.getfield 110, 3) := by decide +kernel
theorem dCM_choose_294 : decode cCM_choose 294 = .ok (.if_icmp .ge 51, 3) := by decide +kernel
theorem dCM_choose_297 : decode cCM_choose 297 = .ok (.aload_n 0, 1) := by decide +kernel
theorem dCM_choose_298 : decode cCM_choose 298 = .ok (.getfield 59, 3) := by decide +kernel
theorem dCM_choose_301 : decode cCM_choose 301 = .ok (.iload 8, 2) := by decide +kernel
theorem dCM_choose_303 : decode cCM_choose 303 = .ok (.aload_n 0, 1) := by decide +kernel
theorem dCM_choose_304 : decode cCM_choose 304 = .ok (.getfield 59, 3) := by decide +kernel
theorem dCM_choose_307 : decode cCM_choose 307 = .ok (.iload 8, 2) := by decide +kernel
theorem dCM_choose_309 : decode cCM_choose 309 = .ok (.baload, 1) := by decide +kernel
theorem dCM_choose_310 : decode cCM_choose 310 = .ok (.ifCond .eq 27, 3) := by decide +kernel
theorem dCM_choose_313 : decode cCM_choose 313 = .ok (.aload_n 0, 1) := by decide +kernel
theorem dCM_choose_314 : decode cCM_choose 314 = .ok (.getfield 153, 3) := by decide +kernel
theorem dCM_choose_317 : decode cCM_choose 317 = .ok (.ifCond .le 20, 3) := by decide +kernel
theorem dCM_choose_320 : decode cCM_choose 320 = .ok (.aload_n 0, 1) := by decide +kernel
theorem dCM_choose_321 : decode cCM_choose 321 = .ok (.iload 8, 2) := by decide +kernel
theorem dCM_choose_323 : decode cCM_choose 323 = .ok (.aload_n 0, 1) := by decide +kernel
theorem dCM_choose_324 : decode cCM_choose 324 = .ok (.getfield 153, 3) := by decide +kernel
theorem dCM_choose_327 : decode cCM_choose 327 = .ok (.invokevirtual 162, 3) := by decide +kernel
theorem dCM_choose_330 : decode cCM_choose 330 = .ok (.ifCond .eq 7, 3) := by decide +kernel
theorem dCM_choose_333 : decode cCM_choose 333 = .ok (.iconst 1, 1) := by decide +kernel
theorem dCM_choose_334 : decode cCM_choose 334 = .ok (.goto 4, 3) := by decide +kernel
theorem dCM_choose_337 : decode cCM_choose 337 = .ok (.iconst 0, 1) := by decide +kernel
theorem dCM_choose_338 : decode cCM_choose 338 = .ok (.bastore, 1) := by decide +kernel
theorem dCM_choose_339 : decode cCM_choose 339 = .ok (.iinc 8 1, 3) := by decide +kernel
theorem dCM_choose_342 : decode cCM_choose 342 = .ok (.goto (-54), 3) := by decide +kernel
theorem dCM_choose_345 : decode cCM_choose 345 = .ok (.iconst 0, 1) := by decide +kernel
theorem dCM_choose_346 : decode cCM_choose 346 = .ok (.istore 8, 2) := by decide +kernel
theorem dCM_choose_348 : decode cCM_choose 348 = .ok (.iload 8, 2) := by decide +kernel
theorem dCM_choose_350 : decode cCM_choose 350 = .ok (.aload_n 0, 1) := by decide +kernel
theorem dCM_choose_351 : decode cCM_choose 351 = .ok (.getfield 110, 3) := by decide +kernel
theorem dCM_choose_354 : decode cCM_choose 354 = .ok (.if_icmp .ge 76, 3) := by decide +kernel
theorem dCM_choose_357 : decode cCM_choose 357 = .ok (.iconst 0, 1) := by decide +kernel
theorem dCM_choose_358 : decode cCM_choose 358 = .ok (.istore 9, 2) := by decide +kernel
theorem dCM_choose_360 : decode cCM_choose 360 = .ok (.iload 9, 2) := by decide +kernel
theorem dCM_choose_362 : decode cCM_choose 362 = .ok (.aload_n 0, 1) := by decide +kernel
theorem dCM_choose_363 : decode cCM_choose 363 = .ok (.getfield 110, 3) := by decide +kernel
theorem dCM_choose_366 : decode cCM_choose 366 = .ok (.if_icmp .ge 58, 3) := by decide +kernel
theorem dCM_choose_369 : decode cCM_choose 369 = .ok (.aload_n 0, 1) := by decide +kernel
theorem dCM_choose_370 : decode cCM_choose 370 = .ok (.getfield 62, 3) := by decide +kernel
theorem dCM_choose_373 : decode cCM_choose 373 = .ok (.bipush 60, 2) := by decide +kernel
theorem dCM_choose_375 : decode cCM_choose 375 = .ok (.iload 8, 2) := by decide +kernel
theorem dCM_choose_377 : decode cCM_choose 377 = .ok (.imul, 1) := by decide +kernel
theorem dCM_choose_378 : decode cCM_choose 378 = .ok (.iload 9, 2) := by decide +kernel
theorem dCM_choose_380 : decode cCM_choose 380 = .ok (.iadd, 1) := by decide +kernel
theorem dCM_choose_381 : decode cCM_choose 381 = .ok (.aload_n 0, 1) := by decide +kernel
theorem dCM_choose_382 : decode cCM_choose 382 = .ok (.getfield 59, 3) := by decide +kernel
theorem dCM_choose_385 : decode cCM_choose 385 = .ok (.iload 8, 2) := by decide +kernel
theorem dCM_choose_387 : decode cCM_choose 387 = .ok (.baload, 1) := by decide +kernel
theorem dCM_choose_388 : decode cCM_choose 388 = .ok (.ifCond .eq 28, 3) := by decide +kernel
theorem dCM_choose_391 : decode cCM_choose 391 = .ok (.aload_n 0, 1) := by decide +kernel
theorem dCM_choose_392 : decode cCM_choose 392 = .ok (.getfield 59, 3) := by decide +kernel
theorem dCM_choose_395 : decode cCM_choose 395 = .ok (.iload 9, 2) := by decide +kernel
theorem dCM_choose_397 : decode cCM_choose 397 = .ok (.baload, 1) := by decide +kernel
theorem dCM_choose_398 : decode cCM_choose 398 = .ok (.ifCond .eq 18, 3) := by decide +kernel
theorem dCM_choose_401 : decode cCM_choose 401 = .ok (.aload_n 0, 1) := by decide +kernel
theorem dCM_choose_402 : decode cCM_choose 402 = .ok (.iload 8, 2) := by decide +kernel
theorem dCM_choose_404 : decode cCM_choose 404 = .ok (.iload 9, 2) := by decide +kernel
theorem dCM_choose_406 : decode cCM_choose 406 = .ok (.invokevirtual 165, 3) := by decide +kernel
theorem dCM_choose_409 : decode cCM_choose 409 = .ok (.ifCond .eq 7, 3) := by decide +kernel
theorem dCM_choose_412 : decode cCM_choose 412 = .ok (.iconst 1, 1) := by decide +kernel
theorem dCM_choose_413 : decode cCM_choose 413 = .ok (.goto 4, 3) := by decide +kernel
theorem dCM_choose_416 : decode cCM_choose 416 = .ok (.iconst 0, 1) := by decide +kernel
theorem dCM_choose_417 : decode cCM_choose 417 = .ok (.bastore, 1) := by decide +kernel
theorem dCM_choose_418 : decode cCM_choose 418 = .ok (.iinc 9 1, 3) := by decide +kernel
theorem dCM_choose_421 : decode cCM_choose 421 = .ok (.goto (-61), 3) := by decide +kernel
theorem dCM_choose_424 : decode cCM_choose 424 = .ok (.iinc 8 1, 3) := by decide +kernel
theorem dCM_choose_427 : decode cCM_choose 427 = .ok (.goto (-79), 3) := by decide +kernel
theorem dCM_choose_430 : decode cCM_choose 430 = .ok (.aload_n 0, 1) := by decide +kernel
theorem dCM_choose_431 : decode cCM_choose 431 = .ok (.getfield 153, 3) := by decide +kernel
theorem dCM_choose_434 : decode cCM_choose 434 = .ok (.ifCond .ne 26, 3) := by decide +kernel
theorem dCM_choose_437 : decode cCM_choose 437 = .ok (.iload 5, 2) := by decide +kernel
theorem dCM_choose_439 : decode cCM_choose 439 = .ok (.ifCond .ne 8, 3) := by decide +kernel
theorem dCM_choose_442 : decode cCM_choose 442 = .ok (.bipush (-3), 2) := by decide +kernel
theorem dCM_choose_444 : decode cCM_choose 444 = .ok (.goto 15, 3) := by decide +kernel
theorem dCM_choose_447 : decode cCM_choose 447 = .ok (.iload 6, 2) := by decide +kernel
theorem dCM_choose_449 : decode cCM_choose 449 = .ok (.ifCond .ne 8, 3) := by decide +kernel
theorem dCM_choose_452 : decode cCM_choose 452 = .ok (.bipush (-4), 2) := by decide +kernel
theorem dCM_choose_454 : decode cCM_choose 454 = .ok (.goto 5, 3) := by decide +kernel
theorem dCM_choose_457 : decode cCM_choose 457 = .ok (.bipush (-5), 2) := by decide +kernel
theorem dCM_choose_459 : decode cCM_choose 459 = .ok (.ireturn, 1) := by decide +kernel
theorem dCM_choose_460 : decode cCM_choose 460 = .ok (.aload_n 0, 1) := by decide +kernel
theorem dCM_choose_461 : decode cCM_choose 461 = .ok (.invokevirtual 168, 3) := by decide +kernel
theorem dCM_choose_464 : decode cCM_choose 464 = .ok (.istore 8, 2) := by decide +kernel
theorem dCM_choose_466 : decode cCM_choose 466 = .ok (.iload 8, 2) := by decide +kernel
theorem dCM_choose_468 : decode cCM_choose 468 = .ok (.ifCond .ge 8, 3) := by decide +kernel
theorem dCM_choose_471 : decode cCM_choose 471 = .ok (.bipush (-6), 2) := by decide +kernel
theorem dCM_choose_473 : decode cCM_choose 473 = .ok (.goto 26, 3) := by decide +kernel
theorem dCM_choose_476 : decode cCM_choose 476 = .ok (.iload 4, 2) := by decide +kernel
theorem dCM_choose_478 : decode cCM_choose 478 = .ok (.iconst 1, 1) := by decide +kernel
theorem dCM_choose_479 : decode cCM_choose 479 = .ok (.if_icmp .ne 18, 3) := by decide +kernel
theorem dCM_choose_482 : decode cCM_choose 482 = .ok (.aload_n 0, 1) := by decide +kernel
theorem dCM_choose_483 : decode cCM_choose 483 = .ok (.iload 8, 2) := by decide +kernel
theorem dCM_choose_485 : decode cCM_choose 485 = .ok (.iconst 1, 1) := by decide +kernel
theorem dCM_choose_486 : decode cCM_choose 486 = .ok (.invokevirtual 117, 3) := by decide +kernel
theorem dCM_choose_489 : decode cCM_choose 489 = .ok (.ifCond .ne 8, 3) := by decide +kernel
theorem dCM_choose_492 : decode cCM_choose 492 = .ok (.bipush (-7), 2) := by decide +kernel
theorem dCM_choose_494 : decode cCM_choose 494 = .ok (.goto 5, 3) := by decide +kernel
theorem dCM_choose_497 : decode cCM_choose 497 = .ok (.iload 8, 2) := by decide +kernel
theorem dCM_choose_499 : decode cCM_choose 499 = .ok (.ireturn, 1) := by decide +kernel
theorem dCM_phase_0 : decode cCM_phase 0 = .ok (.aload_n 0, 1) := by decide +kernel
theorem dCM_phase_1 : decode cCM_phase 1 = .ok (.getfield 153, 3) := by decide +kernel
theorem dCM_phase_4 : decode cCM_phase 4 = .ok (.ireturn, 1) := by decide +kernel
theorem dCM_applied_0 : decode cCM_applied 0 = .ok (.iconst 0, 1) := by decide +kernel
theorem dCM_applied_1 : decode cCM_applied 1 = .ok (.istore_n 2, 1) := by decide +kernel
theorem dCM_applied_2 : decode cCM_applied 2 = .ok (.iconst 0, 1) := by decide +kernel
theorem dCM_applied_3 : decode cCM_applied 3 = .ok (.istore_n 3, 1) := by decide +kernel
theorem dCM_applied_4 : decode cCM_applied 4 = .ok (.iload_n 3, 1) := by decide +kernel
theorem dCM_applied_5 : decode cCM_applied 5 = .ok (.bipush 60, 2) := by decide +kernel
theorem dCM_applied_7 : decode cCM_applied 7 = .ok (.if_icmp .ge 28, 3) := by decide +kernel
theorem dCM_applied_10 : decode cCM_applied 10 = .ok (.aload_n 0, 1) := by decide +kernel
theorem dCM_applied_11 : decode cCM_applied 11 = .ok (.getfield 59, 3) := by decide +kernel
theorem dCM_applied_14 : decode cCM_applied 14 = .ok (.iload_n 3, 1) := by decide +kernel
theorem dCM_applied_15 : decode cCM_applied 15 = .ok (.baload, 1) := by decide +kernel
theorem dCM_applied_16 : decode cCM_applied 16 = .ok (.ifCond .eq 13, 3) := by decide +kernel
theorem dCM_applied_19 : decode cCM_applied 19 = .ok (.iload_n 2, 1) := by decide +kernel
theorem dCM_applied_20 : decode cCM_applied 20 = .ok (.iload_n 1, 1) := by decide +kernel
theorem dCM_applied_21 : decode cCM_applied 21 = .ok (.if_icmp .ne 5, 3) := by decide +kernel
theorem dCM_applied_24 : decode cCM_applied 24 = .ok (.iload_n 3, 1) := by decide +kernel
theorem dCM_applied_25 : decode cCM_applied 25 = .ok (.ireturn, 1) := by decide +kernel
theorem dCM_applied_26 : decode cCM_applied 26 = .ok (.iinc 2 1, 3) := by decide +kernel
theorem dCM_applied_29 : decode cCM_applied 29 = .ok (.iinc 3 1, 3) := by decide +kernel
theorem dCM_applied_32 : decode cCM_applied 32 = .ok (.goto (-28), 3) := by decide +kernel
theorem dCM_applied_35 : decode cCM_applied 35 = .ok (.iconst (-1), 1) := by decide +kernel
theorem dCM_applied_36 : decode cCM_applied 36 = .ok (.ireturn, 1) := by decide +kernel
theorem dCM_special_0 : decode cCM_special 0 = .ok (.iload_n 1, 1) := by decide +kernel
theorem dCM_special_1 : decode cCM_special 1 = .ok (.ifCond .lt 41, 3) := by decide +kernel
theorem dCM_special_4 : decode cCM_special 4 = .ok (.iload_n 1, 1) := by decide +kernel
theorem dCM_special_5 : decode cCM_special 5 = .ok (.bipush 60, 2) := by decide +kernel
theorem dCM_special_7 : decode cCM_special 7 = .ok (.if_icmp .ge 35, 3) := by decide +kernel
theorem dCM_special_10 : decode cCM_special 10 = .ok (.iload_n 2, 1) := by decide +kernel
theorem dCM_special_11 : decode cCM_special 11 = .ok (.ifCond .lt 31, 3) := by decide +kernel
theorem dCM_special_14 : decode cCM_special 14 = .ok (.iload_n 2, 1) := by decide +kernel
theorem dCM_special_15 : decode cCM_special 15 = .ok (.bipush 60, 2) := by decide +kernel
theorem dCM_special_17 : decode cCM_special 17 = .ok (.if_icmp .ge 25, 3) := by decide +kernel
theorem dCM_special_20 : decode cCM_special 20 = .ok (.aload_n 0, 1) := by decide +kernel
theorem dCM_special_21 : decode cCM_special 21 = .ok (.getfield 59, 3) := by decide +kernel
theorem dCM_special_24 : decode cCM_special 24 = .ok (.iload_n 1, 1) := by decide +kernel
theorem dCM_special_25 : decode cCM_special 25 = .ok (.baload, 1) := by decide +kernel
theorem dCM_special_26 : decode cCM_special 26 = .ok (.ifCond .eq 16, 3) := by decide +kernel
theorem dCM_special_29 : decode cCM_special 29 = .ok (.aload_n 0, 1) := by decide +kernel
theorem dCM_special_30 : decode cCM_special 30 = .ok (.getfield 59, 3) := by decide +kernel
theorem dCM_special_33 : decode cCM_special 33 = .ok (.iload_n 2, 1) := by decide +kernel
theorem dCM_special_34 : decode cCM_special 34 = .ok (.baload, 1) := by decide +kernel
theorem dCM_special_35 : decode cCM_special 35 = .ok (.ifCond .eq 7, 3) := by decide +kernel
theorem dCM_special_38 : decode cCM_special 38 = .ok (.iconst 1, 1) := by decide +kernel
theorem dCM_special_39 : decode cCM_special 39 = .ok (.goto 4, 3) := by decide +kernel
theorem dCM_special_42 : decode cCM_special 42 = .ok (.iconst 0, 1) := by decide +kernel
theorem dCM_special_43 : decode cCM_special 43 = .ok (.istore_n 3, 1) := by decide +kernel
theorem dCM_special_44 : decode cCM_special 44 = .ok (.iload_n 3, 1) := by decide +kernel
theorem dCM_special_45 : decode cCM_special 45 = .ok (.ifCond .ne 7, 3) := by decide +kernel
theorem dCM_special_48 : decode cCM_special 48 = .ok (.iconst (-1), 1) := by decide +kernel
theorem dCM_special_49 : decode cCM_special 49 = .ok (.goto 22, 3) := by decide +kernel
theorem dCM_special_52 : decode cCM_special 52 = .ok (.aload_n 0, 1) := by decide +kernel
theorem dCM_special_53 : decode cCM_special 53 = .ok (.getfield 62, 3) := by decide +kernel
theorem dCM_special_56 : decode cCM_special 56 = .ok (.bipush 60, 2) := by decide +kernel
theorem dCM_special_58 : decode cCM_special 58 = .ok (.iload_n 1, 1) := by decide +kernel
theorem dCM_special_59 : decode cCM_special 59 = .ok (.imul, 1) := by decide +kernel
theorem dCM_special_60 : decode cCM_special 60 = .ok (.iload_n 2, 1) := by decide +kernel
theorem dCM_special_61 : decode cCM_special 61 = .ok (.iadd, 1) := by decide +kernel
theorem dCM_special_62 : decode cCM_special 62 = .ok (.baload, 1) := by decide +kernel
theorem dCM_special_63 : decode cCM_special 63 = .ok (.ifCond .eq 7, 3) := by decide +kernel
theorem dCM_special_66 : decode cCM_special 66 = .ok (.iconst 1, 1) := by decide +kernel
theorem dCM_special_67 : decode cCM_special 67 = .ok (.goto 4, 3) := by decide +kernel
theorem dCM_special_70 : decode cCM_special 70 = .ok (.iconst 0, 1) := by decide +kernel
theorem dCM_special_71 : decode cCM_special 71 = .ok (.ireturn, 1) := by decide +kernel
theorem dCM_count_0 : decode cCM_count 0 = .ok (.iload_n 1, 1) := by decide +kernel
theorem dCM_count_1 : decode cCM_count 1 = .ok (.ifCond .ne 10, 3) := by decide +kernel
theorem dCM_count_4 : decode cCM_count 4 = .ok (.aload_n 0, 1) := by decide +kernel
theorem dCM_count_5 : decode cCM_count 5 = .ok (.getfield 68, 3) := by decide +kernel
theorem dCM_count_8 : decode cCM_count 8 = .ok (.goto 29, 3) := by decide +kernel
theorem dCM_count_11 : decode cCM_count 11 = .ok (.iload_n 1, 1) := by decide +kernel
theorem dCM_count_12 : decode cCM_count 12 = .ok (.iconst 1, 1) := by decide +kernel
theorem dCM_count_13 : decode cCM_count 13 = .ok (.if_icmp .ne 10, 3) := by decide +kernel
theorem dCM_count_16 : decode cCM_count 16 = .ok (.aload_n 0, 1) := by decide +kernel
theorem dCM_count_17 : decode cCM_count 17 = .ok (.getfield 110, 3) := by decide +kernel
theorem dCM_count_20 : decode cCM_count 20 = .ok (.goto 17, 3) := by decide +kernel
theorem dCM_count_23 : decode cCM_count 23 = .ok (.iload_n 1, 1) := by decide +kernel
theorem dCM_count_24 : decode cCM_count 24 = .ok (.iconst 2, 1) := by decide +kernel
theorem dCM_count_25 : decode cCM_count 25 = .ok (.if_icmp .ne 10, 3) := by decide +kernel
theorem dCM_count_28 : decode cCM_count 28 = .ok (.aload_n 0, 1) := by decide +kernel
theorem dCM_count_29 : decode cCM_count 29 = .ok (.getfield 137, 3) := by decide +kernel
theorem dCM_count_32 : decode cCM_count 32 = .ok (.goto 5, 3) := by decide +kernel
theorem dCM_count_35 : decode cCM_count 35 = .ok (.bipush (-2), 2) := by decide +kernel
theorem dCM_count_37 : decode cCM_count 37 = .ok (.ireturn, 1) := by decide +kernel
