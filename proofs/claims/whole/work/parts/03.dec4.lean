theorem dCM_closeTypes_141 : decode cCM_closeTypes 141 = .ok (.istore_n 3, 1) := by decide +kernel
theorem dCM_closeTypes_142 : decode cCM_closeTypes 142 = .ok (.iload_n 3, 1) := by decide +kernel
theorem dCM_closeTypes_143 : decode cCM_closeTypes 143 = .ok (.aload_n 0, 1) := by decide +kernel
theorem dCM_closeTypes_144 : decode cCM_closeTypes 144 = .ok (.getfield 68, 3) := by decide +kernel
theorem dCM_closeTypes_147 : decode cCM_closeTypes 147 = .ok (.if_icmp .ge 67, 3) := by decide +kernel
theorem dCM_closeTypes_150 : decode cCM_closeTypes 150 = .ok (.aload_n 0, 1) := by decide +kernel
theorem dCM_closeTypes_151 : decode cCM_closeTypes 151 = .ok (.getfield 23, 3) := by decide +kernel
theorem dCM_closeTypes_154 : decode cCM_closeTypes 154 = .ok (.bipush 24, 2) := by decide +kernel
theorem dCM_closeTypes_156 : decode cCM_closeTypes 156 = .ok (.iload_n 2, 1) := by decide +kernel
theorem dCM_closeTypes_157 : decode cCM_closeTypes 157 = .ok (.imul, 1) := by decide +kernel
theorem dCM_closeTypes_158 : decode cCM_closeTypes 158 = .ok (.iload_n 3, 1) := by decide +kernel
theorem dCM_closeTypes_159 : decode cCM_closeTypes 159 = .ok (.iadd, 1) := by decide +kernel
theorem dCM_closeTypes_160 : decode cCM_closeTypes 160 = .ok (.aload_n 0, 1) := by decide +kernel
theorem dCM_closeTypes_161 : decode cCM_closeTypes 161 = .ok (.getfield 23, 3) := by decide +kernel
theorem dCM_closeTypes_164 : decode cCM_closeTypes 164 = .ok (.bipush 24, 2) := by decide +kernel
theorem dCM_closeTypes_166 : decode cCM_closeTypes 166 = .ok (.iload_n 2, 1) := by decide +kernel
theorem dCM_closeTypes_167 : decode cCM_closeTypes 167 = .ok (.imul, 1) := by decide +kernel
theorem dCM_closeTypes_168 : decode cCM_closeTypes 168 = .ok (.iload_n 3, 1) := by decide +kernel
theorem dCM_closeTypes_169 : decode cCM_closeTypes 169 = .ok (.iadd, 1) := by decide +kernel
theorem dCM_closeTypes_170 : decode cCM_closeTypes 170 = .ok (.baload, 1) := by decide +kernel
theorem dCM_closeTypes_171 : decode cCM_closeTypes 171 = .ok (.ifCond .ne 31, 3) := by decide +kernel
theorem dCM_closeTypes_174 : decode cCM_closeTypes 174 = .ok (.aload_n 0, 1) := by decide +kernel
theorem dCM_closeTypes_175 : decode cCM_closeTypes 175 = .ok (.getfield 23, 3) := by decide +kernel
theorem dCM_closeTypes_178 : decode cCM_closeTypes 178 = .ok (.bipush 24, 2) := by decide +kernel
theorem dCM_closeTypes_180 : decode cCM_closeTypes 180 = .ok (.iload_n 2, 1) := by decide +kernel
theorem dCM_closeTypes_181 : decode cCM_closeTypes 181 = .ok (.imul, 1) := by decide +kernel
theorem dCM_closeTypes_182 : decode cCM_closeTypes 182 = .ok (.iload_n 1, 1) := by decide +kernel
theorem dCM_closeTypes_183 : decode cCM_closeTypes 183 = .ok (.iadd, 1) := by decide +kernel
theorem dCM_closeTypes_184 : decode cCM_closeTypes 184 = .ok (.baload, 1) := by decide +kernel
theorem dCM_closeTypes_185 : decode cCM_closeTypes 185 = .ok (.ifCond .eq 21, 3) := by decide +kernel
theorem dCM_closeTypes_188 : decode cCM_closeTypes 188 = .ok (.aload_n 0, 1) := by decide +kernel
theorem dCM_closeTypes_189 : decode cCM_closeTypes 189 = .ok (.getfield 23, 3) := by decide +kernel
theorem dCM_closeTypes_192 : decode cCM_closeTypes 192 = .ok (.bipush 24, 2) := by decide +kernel
theorem dCM_closeTypes_194 : decode cCM_closeTypes 194 = .ok (.iload_n 1, 1) := by decide +kernel
theorem dCM_closeTypes_195 : decode cCM_closeTypes 195 = .ok (.imul, 1) := by decide +kernel
theorem dCM_closeTypes_196 : decode cCM_closeTypes 196 = .ok (.iload_n 3, 1) := by decide +kernel
theorem dCM_closeTypes_197 : decode cCM_closeTypes 197 = .ok (.iadd, 1) := by decide +kernel
theorem dCM_closeTypes_198 : decode cCM_closeTypes 198 = .ok (.baload, 1) := by decide +kernel
theorem dCM_closeTypes_199 : decode cCM_closeTypes 199 = .ok (.ifCond .eq 7, 3) := by decide +kernel
theorem dCM_closeTypes_202 : decode cCM_closeTypes 202 = .ok (.iconst 1, 1) := by decide +kernel
theorem dCM_closeTypes_203 : decode cCM_closeTypes 203 = .ok (.goto 4, 3) := by decide +kernel
theorem dCM_closeTypes_206 : decode cCM_closeTypes 206 = .ok (.iconst 0, 1) := by decide +kernel
theorem dCM_closeTypes_207 : decode cCM_closeTypes 207 = .ok (.bastore, 1) := by decide +kernel
theorem dCM_closeTypes_208 : decode cCM_closeTypes 208 = .ok (.iinc 3 1, 3) := by decide +kernel
theorem dCM_closeTypes_211 : decode cCM_closeTypes 211 = .ok (.goto (-69), 3) := by decide +kernel
theorem dCM_closeTypes_214 : decode cCM_closeTypes 214 = .ok (.iinc 2 1, 3) := by decide +kernel
theorem dCM_closeTypes_217 : decode cCM_closeTypes 217 = .ok (.goto (-85), 3) := by decide +kernel
theorem dCM_closeTypes_220 : decode cCM_closeTypes 220 = .ok (.iinc 1 1, 3) := by decide +kernel
theorem dCM_closeTypes_223 : decode cCM_closeTypes 223 = .ok (.goto (-101), 3) := by decide +kernel
theorem dCM_closeTypes_226 : decode cCM_closeTypes 226 = .ok (.return_, 1) := by decide +kernel
theorem dCM_isTold_0 : decode cCM_isTold 0 = .ok (.iload_n 1, 1) := by decide +kernel
theorem dCM_isTold_1 : decode cCM_isTold 1 = .ok (.bipush 16, 2) := by decide +kernel
theorem dCM_isTold_3 : decode cCM_isTold 3 = .ok (.if_icmp .lt 18, 3) := by decide +kernel
theorem dCM_isTold_6 : decode cCM_isTold 6 = .ok (.iload_n 1, 1) := by decide +kernel
theorem dCM_isTold_7 : decode cCM_isTold 7 = .ok (.bipush 16, 2) := by decide +kernel
theorem dCM_isTold_9 : decode cCM_isTold 9 = .ok (.aload_n 0, 1) := by decide +kernel
theorem dCM_isTold_10 : decode cCM_isTold 10 = .ok (.getfield 68, 3) := by decide +kernel
theorem dCM_isTold_13 : decode cCM_isTold 13 = .ok (.iadd, 1) := by decide +kernel
theorem dCM_isTold_14 : decode cCM_isTold 14 = .ok (.if_icmp .ge 7, 3) := by decide +kernel
theorem dCM_isTold_17 : decode cCM_isTold 17 = .ok (.iconst 1, 1) := by decide +kernel
theorem dCM_isTold_18 : decode cCM_isTold 18 = .ok (.goto 4, 3) := by decide +kernel
theorem dCM_isTold_21 : decode cCM_isTold 21 = .ok (.iconst 0, 1) := by decide +kernel
theorem dCM_isTold_22 : decode cCM_isTold 22 = .ok (.ireturn, 1) := by decide +kernel
theorem dCM_cls_0 : decode cCM_cls 0 = .ok (.iload_n 1, 1) := by decide +kernel
theorem dCM_cls_1 : decode cCM_cls 1 = .ok (.bipush 8, 2) := by decide +kernel
theorem dCM_cls_3 : decode cCM_cls 3 = .ok (.if_icmp .eq 23, 3) := by decide +kernel
theorem dCM_cls_6 : decode cCM_cls 6 = .ok (.aload_n 0, 1) := by decide +kernel
theorem dCM_cls_7 : decode cCM_cls 7 = .ok (.iload_n 1, 1) := by decide +kernel
theorem dCM_cls_8 : decode cCM_cls 8 = .ok (.invokevirtual 72, 3) := by decide +kernel
theorem dCM_cls_11 : decode cCM_cls 11 = .ok (.ifCond .eq 24, 3) := by decide +kernel
theorem dCM_cls_14 : decode cCM_cls 14 = .ok (.aload_n 0, 1) := by decide +kernel
theorem dCM_cls_15 : decode cCM_cls 15 = .ok (.getfield 7, 3) := by decide +kernel
theorem dCM_cls_18 : decode cCM_cls 18 = .ok (.iload_n 1, 1) := by decide +kernel
theorem dCM_cls_19 : decode cCM_cls 19 = .ok (.bipush 16, 2) := by decide +kernel
theorem dCM_cls_21 : decode cCM_cls 21 = .ok (.isub, 1) := by decide +kernel
theorem dCM_cls_22 : decode cCM_cls 22 = .ok (.baload, 1) := by decide +kernel
theorem dCM_cls_23 : decode cCM_cls 23 = .ok (.ifCond .ne 12, 3) := by decide +kernel
theorem dCM_cls_26 : decode cCM_cls 26 = .ok (.aload_n 0, 1) := by decide +kernel
theorem dCM_cls_27 : decode cCM_cls 27 = .ok (.getfield 68, 3) := by decide +kernel
theorem dCM_cls_30 : decode cCM_cls 30 = .ok (.bipush 24, 2) := by decide +kernel
theorem dCM_cls_32 : decode cCM_cls 32 = .ok (.if_icmp .ne 6, 3) := by decide +kernel
theorem dCM_cls_35 : decode cCM_cls 35 = .ok (.bipush (-2), 2) := by decide +kernel
theorem dCM_cls_37 : decode cCM_cls 37 = .ok (.ireturn, 1) := by decide +kernel
theorem dCM_cls_38 : decode cCM_cls 38 = .ok (.aload_n 0, 1) := by decide +kernel
theorem dCM_cls_39 : decode cCM_cls 39 = .ok (.getfield 13, 3) := by decide +kernel
theorem dCM_cls_42 : decode cCM_cls 42 = .ok (.aload_n 0, 1) := by decide +kernel
theorem dCM_cls_43 : decode cCM_cls 43 = .ok (.getfield 68, 3) := by decide +kernel
theorem dCM_cls_46 : decode cCM_cls 46 = .ok (.iload_n 1, 1) := by decide +kernel
theorem dCM_cls_47 : decode cCM_cls 47 = .ok (.iastore, 1) := by decide +kernel
theorem dCM_cls_48 : decode cCM_cls 48 = .ok (.aload_n 0, 1) := by decide +kernel
theorem dCM_cls_49 : decode cCM_cls 49 = .ok (.getfield 7, 3) := by decide +kernel
theorem dCM_cls_52 : decode cCM_cls 52 = .ok (.aload_n 0, 1) := by decide +kernel
theorem dCM_cls_53 : decode cCM_cls 53 = .ok (.getfield 68, 3) := by decide +kernel
theorem dCM_cls_56 : decode cCM_cls 56 = .ok (.iconst 0, 1) := by decide +kernel
theorem dCM_cls_57 : decode cCM_cls 57 = .ok (.bastore, 1) := by decide +kernel
theorem dCM_cls_58 : decode cCM_cls 58 = .ok (.aload_n 0, 1) := by decide +kernel
theorem dCM_cls_59 : decode cCM_cls 59 = .ok (.getfield 17, 3) := by decide +kernel
theorem dCM_cls_62 : decode cCM_cls 62 = .ok (.aload_n 0, 1) := by decide +kernel
theorem dCM_cls_63 : decode cCM_cls 63 = .ok (.getfield 68, 3) := by decide +kernel
theorem dCM_cls_66 : decode cCM_cls 66 = .ok (.iconst 0, 1) := by decide +kernel
theorem dCM_cls_67 : decode cCM_cls 67 = .ok (.iastore, 1) := by decide +kernel
theorem dCM_cls_68 : decode cCM_cls 68 = .ok (.aload_n 0, 1) := by decide +kernel
theorem dCM_cls_69 : decode cCM_cls 69 = .ok (.dup, 1) := by decide +kernel
theorem dCM_cls_70 : decode cCM_cls 70 = .ok (.getfield 68, 3) := by decide +kernel
theorem dCM_cls_73 : decode cCM_cls 73 = .ok (.iconst 1, 1) := by decide +kernel
theorem dCM_cls_74 : decode cCM_cls 74 = .ok (.iadd, 1) := by decide +kernel
theorem dCM_cls_75 : decode cCM_cls 75 = .ok (.putfield 68, 3) := by decide +kernel
theorem dCM_cls_78 : decode cCM_cls 78 = .ok (.aload_n 0, 1) := by decide +kernel
theorem dCM_cls_79 : decode cCM_cls 79 = .ok (.invokevirtual 95, 3) := by decide +kernel
theorem dCM_cls_82 : decode cCM_cls 82 = .ok (.bipush 16, 2) := by decide +kernel
theorem dCM_cls_84 : decode cCM_cls 84 = .ok (.aload_n 0, 1) := by decide +kernel
theorem dCM_cls_85 : decode cCM_cls 85 = .ok (.getfield 68, 3) := by decide +kernel
theorem dCM_cls_88 : decode cCM_cls 88 = .ok (.iadd, 1) := by decide +kernel
theorem dCM_cls_89 : decode cCM_cls 89 = .ok (.iconst 1, 1) := by decide +kernel
theorem dCM_cls_90 : decode cCM_cls 90 = .ok (.isub, 1) := by decide +kernel
theorem dCM_cls_91 : decode cCM_cls 91 = .ok (.ireturn, 1) := by decide +kernel
theorem dCM_face_0 : decode cCM_face 0 = .ok (.aload_n 0, 1) := by decide +kernel
theorem dCM_face_1 : decode cCM_face 1 = .ok (.getfield 68, 3) := by decide +kernel
theorem dCM_face_4 : decode cCM_face 4 = .ok (.bipush 24, 2) := by decide +kernel
theorem dCM_face_6 : decode cCM_face 6 = .ok (.if_icmp .ne 6, 3) := by decide +kernel
theorem dCM_face_9 : decode cCM_face 9 = .ok (.bipush (-2), 2) := by decide +kernel
theorem dCM_face_11 : decode cCM_face 11 = .ok (.ireturn, 1) := by decide +kernel
theorem dCM_face_12 : decode cCM_face 12 = .ok (.aload_n 0, 1) := by decide +kernel
theorem dCM_face_13 : decode cCM_face 13 = .ok (.getfield 13, 3) := by decide +kernel
theorem dCM_face_16 : decode cCM_face 16 = .ok (.aload_n 0, 1) := by decide +kernel
theorem dCM_face_17 : decode cCM_face 17 = .ok (.getfield 68, 3) := by decide +kernel
theorem dCM_face_20 : decode cCM_face 20 = .ok (.iconst (-1), 1) := by decide +kernel
theorem dCM_face_21 : decode cCM_face 21 = .ok (.iastore, 1) := by decide +kernel
theorem dCM_face_22 : decode cCM_face 22 = .ok (.aload_n 0, 1) := by decide +kernel
theorem dCM_face_23 : decode cCM_face 23 = .ok (.getfield 7, 3) := by decide +kernel
theorem dCM_face_26 : decode cCM_face 26 = .ok (.aload_n 0, 1) := by decide +kernel
theorem dCM_face_27 : decode cCM_face 27 = .ok (.getfield 68, 3) := by decide +kernel
theorem dCM_face_30 : decode cCM_face 30 = .ok (.iconst 1, 1) := by decide +kernel
theorem dCM_face_31 : decode cCM_face 31 = .ok (.bastore, 1) := by decide +kernel
theorem dCM_face_32 : decode cCM_face 32 = .ok (.aload_n 0, 1) := by decide +kernel
theorem dCM_face_33 : decode cCM_face 33 = .ok (.getfield 17, 3) := by decide +kernel
theorem dCM_face_36 : decode cCM_face 36 = .ok (.aload_n 0, 1) := by decide +kernel
theorem dCM_face_37 : decode cCM_face 37 = .ok (.getfield 68, 3) := by decide +kernel
theorem dCM_face_40 : decode cCM_face 40 = .ok (.iconst 0, 1) := by decide +kernel
theorem dCM_face_41 : decode cCM_face 41 = .ok (.iastore, 1) := by decide +kernel
theorem dCM_face_42 : decode cCM_face 42 = .ok (.aload_n 0, 1) := by decide +kernel
theorem dCM_face_43 : decode cCM_face 43 = .ok (.dup, 1) := by decide +kernel
theorem dCM_face_44 : decode cCM_face 44 = .ok (.getfield 68, 3) := by decide +kernel
theorem dCM_face_47 : decode cCM_face 47 = .ok (.iconst 1, 1) := by decide +kernel
theorem dCM_face_48 : decode cCM_face 48 = .ok (.iadd, 1) := by decide +kernel
theorem dCM_face_49 : decode cCM_face 49 = .ok (.putfield 68, 3) := by decide +kernel
theorem dCM_face_52 : decode cCM_face 52 = .ok (.aload_n 0, 1) := by decide +kernel
theorem dCM_face_53 : decode cCM_face 53 = .ok (.invokevirtual 95, 3) := by decide +kernel
theorem dCM_face_56 : decode cCM_face 56 = .ok (.bipush 16, 2) := by decide +kernel
theorem dCM_face_58 : decode cCM_face 58 = .ok (.aload_n 0, 1) := by decide +kernel
theorem dCM_face_59 : decode cCM_face 59 = .ok (.getfield 68, 3) := by decide +kernel
theorem dCM_face_62 : decode cCM_face 62 = .ok (.iadd, 1) := by decide +kernel
theorem dCM_face_63 : decode cCM_face 63 = .ok (.iconst 1, 1) := by decide +kernel
theorem dCM_face_64 : decode cCM_face 64 = .ok (.isub, 1) := by decide +kernel
theorem dCM_face_65 : decode cCM_face 65 = .ok (.ireturn, 1) := by decide +kernel
theorem dCM_below_0 : decode cCM_below 0 = .ok (.aload_n 0, 1) := by decide +kernel
theorem dCM_below_1 : decode cCM_below 1 = .ok (.iload_n 1, 1) := by decide +kernel
theorem dCM_below_2 : decode cCM_below 2 = .ok (.invokevirtual 72, 3) := by decide +kernel
theorem dCM_below_5 : decode cCM_below 5 = .ok (.ifCond .eq 43, 3) := by decide +kernel
theorem dCM_below_8 : decode cCM_below 8 = .ok (.aload_n 0, 1) := by decide +kernel
theorem dCM_below_9 : decode cCM_below 9 = .ok (.iload_n 2, 1) := by decide +kernel
theorem dCM_below_10 : decode cCM_below 10 = .ok (.invokevirtual 72, 3) := by decide +kernel
theorem dCM_below_13 : decode cCM_below 13 = .ok (.ifCond .eq 35, 3) := by decide +kernel
theorem dCM_below_16 : decode cCM_below 16 = .ok (.aload_n 0, 1) := by decide +kernel
theorem dCM_below_17 : decode cCM_below 17 = .ok (.getfield 7, 3) := by decide +kernel
theorem dCM_below_20 : decode cCM_below 20 = .ok (.iload_n 2, 1) := by decide +kernel
theorem dCM_below_21 : decode cCM_below 21 = .ok (.bipush 16, 2) := by decide +kernel
theorem dCM_below_23 : decode cCM_below 23 = .ok (.isub, 1) := by decide +kernel
theorem dCM_below_24 : decode cCM_below 24 = .ok (.baload, 1) := by decide +kernel
theorem dCM_below_25 : decode cCM_below 25 = .ok (.ifCond .eq 23, 3) := by decide +kernel
theorem dCM_below_28 : decode cCM_below 28 = .ok (.aload_n 0, 1) := by decide +kernel
theorem dCM_below_29 : decode cCM_below 29 = .ok (.getfield 23, 3) := by decide +kernel
theorem dCM_below_32 : decode cCM_below 32 = .ok (.bipush 24, 2) := by decide +kernel
theorem dCM_below_34 : decode cCM_below 34 = .ok (.iload_n 2, 1) := by decide +kernel
theorem dCM_below_35 : decode cCM_below 35 = .ok (.bipush 16, 2) := by decide +kernel
theorem dCM_below_37 : decode cCM_below 37 = .ok (.isub, 1) := by decide +kernel
theorem dCM_below_38 : decode cCM_below 38 = .ok (.imul, 1) := by decide +kernel
theorem dCM_below_39 : decode cCM_below 39 = .ok (.iload_n 1, 1) := by decide +kernel
theorem dCM_below_40 : decode cCM_below 40 = .ok (.iadd, 1) := by decide +kernel
theorem dCM_below_41 : decode cCM_below 41 = .ok (.bipush 16, 2) := by decide +kernel
theorem dCM_below_43 : decode cCM_below 43 = .ok (.isub, 1) := by decide +kernel
theorem dCM_below_44 : decode cCM_below 44 = .ok (.baload, 1) := by decide +kernel
theorem dCM_below_45 : decode cCM_below 45 = .ok (.ifCond .eq 6, 3) := by decide +kernel
theorem dCM_below_48 : decode cCM_below 48 = .ok (.bipush (-2), 2) := by decide +kernel
theorem dCM_below_50 : decode cCM_below 50 = .ok (.ireturn, 1) := by decide +kernel
theorem dCM_below_51 : decode cCM_below 51 = .ok (.iload_n 1, 1) := by decide +kernel
theorem dCM_below_52 : decode cCM_below 52 = .ok (.bipush 16, 2) := by decide +kernel
theorem dCM_below_54 : decode cCM_below 54 = .ok (.isub, 1) := by decide +kernel
theorem dCM_below_55 : decode cCM_below 55 = .ok (.istore_n 3, 1) := by decide +kernel
theorem dCM_below_56 : decode cCM_below 56 = .ok (.iconst 0, 1) := by decide +kernel
theorem dCM_below_57 : decode cCM_below 57 = .ok (.istore 4, 2) := by decide +kernel
theorem dCM_below_59 : decode cCM_below 59 = .ok (.iconst 0, 1) := by decide +kernel
theorem dCM_below_60 : decode cCM_below 60 = .ok (.istore 5, 2) := by decide +kernel
theorem dCM_below_62 : decode cCM_below 62 = .ok (.iload 5, 2) := by decide +kernel
theorem dCM_below_64 : decode cCM_below 64 = .ok (.aload_n 0, 1) := by decide +kernel
theorem dCM_below_65 : decode cCM_below 65 = .ok (.getfield 17, 3) := by decide +kernel
theorem dCM_below_68 : decode cCM_below 68 = .ok (.iload_n 3, 1) := by decide +kernel
theorem dCM_below_69 : decode cCM_below 69 = .ok (.iaload, 1) := by decide +kernel
theorem dCM_below_70 : decode cCM_below 70 = .ok (.if_icmp .ge 36, 3) := by decide +kernel
theorem dCM_below_73 : decode cCM_below 73 = .ok (.iload 4, 2) := by decide +kernel
theorem dCM_below_75 : decode cCM_below 75 = .ok (.ifCond .ne 18, 3) := by decide +kernel
theorem dCM_below_78 : decode cCM_below 78 = .ok (.aload_n 0, 1) := by decide +kernel
theorem dCM_below_79 : decode cCM_below 79 = .ok (.getfield 20, 3) := by decide +kernel
theorem dCM_below_82 : decode cCM_below 82 = .ok (.iconst 4, 1) := by decide +kernel
theorem dCM_below_83 : decode cCM_below 83 = .ok (.iload_n 3, 1) := by decide +kernel
theorem dCM_below_84 : decode cCM_below 84 = .ok (.imul, 1) := by decide +kernel
theorem dCM_below_85 : decode cCM_below 85 = .ok (.iload 5, 2) := by decide +kernel
theorem dCM_below_87 : decode cCM_below 87 = .ok (.iadd, 1) := by decide +kernel
theorem dCM_below_88 : decode cCM_below 88 = .ok (.iaload, 1) := by decide +kernel
theorem dCM_below_89 : decode cCM_below 89 = .ok (.iload_n 2, 1) := by decide +kernel
theorem dCM_below_90 : decode cCM_below 90 = .ok (.if_icmp .ne 7, 3) := by decide +kernel
theorem dCM_below_93 : decode cCM_below 93 = .ok (.iconst 1, 1) := by decide +kernel
theorem dCM_below_94 : decode cCM_below 94 = .ok (.goto 4, 3) := by decide +kernel
theorem dCM_below_97 : decode cCM_below 97 = .ok (.iconst 0, 1) := by decide +kernel
theorem dCM_below_98 : decode cCM_below 98 = .ok (.istore 4, 2) := by decide +kernel
theorem dCM_below_100 : decode cCM_below 100 = .ok (.iinc 5 1, 3) := by decide +kernel
theorem dCM_below_103 : decode cCM_below 103 = .ok (.goto (-41), 3) := by decide +kernel
theorem dCM_below_106 : decode cCM_below 106 = .ok (.iload 4, 2) := by decide +kernel
theorem dCM_below_108 : decode cCM_below 108 = .ok (.ifCond .ne 13, 3) := by decide +kernel
theorem dCM_below_111 : decode cCM_below 111 = .ok (.aload_n 0, 1) := by decide +kernel
theorem dCM_below_112 : decode cCM_below 112 = .ok (.getfield 17, 3) := by decide +kernel
theorem dCM_below_115 : decode cCM_below 115 = .ok (.iload_n 3, 1) := by decide +kernel
theorem dCM_below_116 : decode cCM_below 116 = .ok (.iaload, 1) := by decide +kernel
theorem dCM_below_117 : decode cCM_below 117 = .ok (.iconst 4, 1) := by decide +kernel
theorem dCM_below_118 : decode cCM_below 118 = .ok (.if_icmp .ne 6, 3) := by decide +kernel
theorem dCM_below_121 : decode cCM_below 121 = .ok (.bipush (-2), 2) := by decide +kernel
theorem dCM_below_123 : decode cCM_below 123 = .ok (.ireturn, 1) := by decide +kernel
theorem dCM_below_124 : decode cCM_below 124 = .ok (.aload_n 0, 1) := by decide +kernel
theorem dCM_below_125 : decode cCM_below 125 = .ok (.getfield 20, 3) := by decide +kernel
theorem dCM_below_128 : decode cCM_below 128 = .ok (.iconst 4, 1) := by decide +kernel
theorem dCM_below_129 : decode cCM_below 129 = .ok (.iload_n 3, 1) := by decide +kernel
theorem dCM_below_130 : decode cCM_below 130 = .ok (.imul, 1) := by decide +kernel
theorem dCM_below_131 : decode cCM_below 131 = .ok (.aload_n 0, 1) := by decide +kernel
theorem dCM_below_132 : decode cCM_below 132 = .ok (.getfield 17, 3) := by decide +kernel
theorem dCM_below_135 : decode cCM_below 135 = .ok (.iload_n 3, 1) := by decide +kernel
theorem dCM_below_136 : decode cCM_below 136 = .ok (.iaload, 1) := by decide +kernel
theorem dCM_below_137 : decode cCM_below 137 = .ok (.iadd, 1) := by decide +kernel
theorem dCM_below_138 : decode cCM_below 138 = .ok (.iload_n 2, 1) := by decide +kernel
theorem dCM_below_139 : decode cCM_below 139 = .ok (.iastore, 1) := by decide +kernel
theorem dCM_below_140 : decode cCM_below 140 = .ok (.aload_n 0, 1) := by decide +kernel
theorem dCM_below_141 : decode cCM_below 141 = .ok (.getfield 17, 3) := by decide +kernel
theorem dCM_below_144 : decode cCM_below 144 = .ok (.iload_n 3, 1) := by decide +kernel
theorem dCM_below_145 : decode cCM_below 145 = .ok (.dup2, 1) := by decide +kernel
theorem dCM_below_146 : decode cCM_below 146 = .ok (.iaload, 1) := by decide +kernel
theorem dCM_below_147 : decode cCM_below 147 = .ok (.iconst 1, 1) := by decide +kernel
theorem dCM_below_148 : decode cCM_below 148 = .ok (.iadd, 1) := by decide +kernel
theorem dCM_below_149 : decode cCM_below 149 = .ok (.iastore, 1) := by decide +kernel
theorem dCM_below_150 : decode cCM_below 150 = .ok (.aload_n 0, 1) := by decide +kernel
theorem dCM_below_151 : decode cCM_below 151 = .ok (.invokevirtual 95, 3) := by decide +kernel
theorem dCM_below_154 : decode cCM_below 154 = .ok (.aload_n 0, 1) := by decide +kernel
theorem dCM_below_155 : decode cCM_below 155 = .ok (.getfield 17, 3) := by decide +kernel
theorem dCM_below_158 : decode cCM_below 158 = .ok (.iload_n 3, 1) := by decide +kernel
theorem dCM_below_159 : decode cCM_below 159 = .ok (.iaload, 1) := by decide +kernel
theorem dCM_below_160 : decode cCM_below 160 = .ok (.ireturn, 1) := by decide +kernel
theorem dCM_isPlain_0 : decode cCM_isPlain 0 = .ok (.iload_n 1, 1) := by decide +kernel
theorem dCM_isPlain_1 : decode cCM_isPlain 1 = .ok (.ifCond .lt 9, 3) := by decide +kernel
theorem dCM_isPlain_4 : decode cCM_isPlain 4 = .ok (.iload_n 1, 1) := by decide +kernel
theorem dCM_isPlain_5 : decode cCM_isPlain 5 = .ok (.bipush 10, 2) := by decide +kernel
theorem dCM_isPlain_7 : decode cCM_isPlain 7 = .ok (.if_icmp .lt 11, 3) := by decide +kernel
theorem dCM_isPlain_10 : decode cCM_isPlain 10 = .ok (.aload_n 0, 1) := by decide +kernel
theorem dCM_isPlain_11 : decode cCM_isPlain 11 = .ok (.iload_n 1, 1) := by decide +kernel
theorem dCM_isPlain_12 : decode cCM_isPlain 12 = .ok (.invokevirtual 72, 3) := by decide +kernel
theorem dCM_isPlain_15 : decode cCM_isPlain 15 = .ok (.ifCond .eq 7, 3) := by decide +kernel
theorem dCM_isPlain_18 : decode cCM_isPlain 18 = .ok (.iconst 1, 1) := by decide +kernel
theorem dCM_isPlain_19 : decode cCM_isPlain 19 = .ok (.goto 4, 3) := by decide +kernel
theorem dCM_isPlain_22 : decode cCM_isPlain 22 = .ok (.iconst 0, 1) := by decide +kernel
theorem dCM_isPlain_23 : decode cCM_isPlain 23 = .ok (.ireturn, 1) := by decide +kernel
theorem dCM_isType_0 : decode cCM_isType 0 = .ok (.aload_n 0, 1) := by decide +kernel
theorem dCM_isType_1 : decode cCM_isType 1 = .ok (.iload_n 1, 1) := by decide +kernel
theorem dCM_isType_2 : decode cCM_isType 2 = .ok (.invokevirtual 76, 3) := by decide +kernel
theorem dCM_isType_5 : decode cCM_isType 5 = .ok (.ifCond .ne 26, 3) := by decide +kernel
theorem dCM_isType_8 : decode cCM_isType 8 = .ok (.iload_n 1, 1) := by decide +kernel
theorem dCM_isType_9 : decode cCM_isType 9 = .ok (.bipush 10, 2) := by decide +kernel
theorem dCM_isType_11 : decode cCM_isType 11 = .ok (.if_icmp .eq 20, 3) := by decide +kernel
theorem dCM_isType_14 : decode cCM_isType 14 = .ok (.iload_n 1, 1) := by decide +kernel
theorem dCM_isType_15 : decode cCM_isType 15 = .ok (.bipush 64, 2) := by decide +kernel
theorem dCM_isType_17 : decode cCM_isType 17 = .ok (.if_icmp .lt 18, 3) := by decide +kernel
theorem dCM_isType_20 : decode cCM_isType 20 = .ok (.aload_n 0, 1) := by decide +kernel
theorem dCM_isType_21 : decode cCM_isType 21 = .ok (.iload_n 1, 1) := by decide +kernel
theorem dCM_isType_22 : decode cCM_isType 22 = .ok (.bipush 64, 2) := by decide +kernel
theorem dCM_isType_24 : decode cCM_isType 24 = .ok (.isub, 1) := by decide +kernel
theorem dCM_isType_25 : decode cCM_isType 25 = .ok (.invokevirtual 76, 3) := by decide +kernel
theorem dCM_isType_28 : decode cCM_isType 28 = .ok (.ifCond .eq 7, 3) := by decide +kernel
theorem dCM_isType_31 : decode cCM_isType 31 = .ok (.iconst 1, 1) := by decide +kernel
theorem dCM_isType_32 : decode cCM_isType 32 = .ok (.goto 4, 3) := by decide +kernel
theorem dCM_isType_35 : decode cCM_isType 35 = .ok (.iconst 0, 1) := by decide +kernel
theorem dCM_isType_36 : decode cCM_isType 36 = .ok (.ireturn, 1) := by decide +kernel
theorem dCM_isPrimitive_0 : decode cCM_isPrimitive 0 = .ok (.iload_n 0, 1) := by decide +kernel
theorem dCM_isPrimitive_1 : decode cCM_isPrimitive 1 = .ok (.ifCond .lt 12, 3) := by decide +kernel
theorem dCM_isPrimitive_4 : decode cCM_isPrimitive 4 = .ok (.iload_n 0, 1) := by decide +kernel
theorem dCM_isPrimitive_5 : decode cCM_isPrimitive 5 = .ok (.iconst 4, 1) := by decide +kernel
theorem dCM_isPrimitive_6 : decode cCM_isPrimitive 6 = .ok (.if_icmp .ge 7, 3) := by decide +kernel
theorem dCM_isPrimitive_9 : decode cCM_isPrimitive 9 = .ok (.iconst 1, 1) := by decide +kernel
theorem dCM_isPrimitive_10 : decode cCM_isPrimitive 10 = .ok (.goto 4, 3) := by decide +kernel
theorem dCM_isPrimitive_13 : decode cCM_isPrimitive 13 = .ok (.iconst 0, 1) := by decide +kernel
theorem dCM_isPrimitive_14 : decode cCM_isPrimitive 14 = .ok (.ireturn, 1) := by decide +kernel
theorem dCM_plainIs_0 : decode cCM_plainIs 0 = .ok (.iload_n 1, 1) := by decide +kernel
theorem dCM_plainIs_1 : decode cCM_plainIs 1 = .ok (.iload_n 2, 1) := by decide +kernel
theorem dCM_plainIs_2 : decode cCM_plainIs 2 = .ok (.if_icmp .ne 5, 3) := by decide +kernel
theorem dCM_plainIs_5 : decode cCM_plainIs 5 = .ok (.iconst 1, 1) := by decide +kernel
theorem dCM_plainIs_6 : decode cCM_plainIs 6 = .ok (.ireturn, 1) := by decide +kernel
theorem dCM_plainIs_7 : decode cCM_plainIs 7 = .ok (.iload_n 1, 1) := by decide +kernel
theorem dCM_plainIs_8 : decode cCM_plainIs 8 = .ok (.invokestatic 82, 3) := by decide +kernel
theorem dCM_plainIs_11 : decode cCM_plainIs 11 = .ok (.ifCond .eq 34, 3) := by decide +kernel
theorem dCM_plainIs_14 : decode cCM_plainIs 14 = .ok (.iload_n 1, 1) := by decide +kernel
theorem dCM_plainIs_15 : decode cCM_plainIs 15 = .ok (.iconst 1, 1) := by decide +kernel
theorem dCM_plainIs_16 : decode cCM_plainIs 16 = .ok (.if_icmp .ne 13, 3) := by decide +kernel
theorem dCM_plainIs_19 : decode cCM_plainIs 19 = .ok (.iload_n 2, 1) := by decide +kernel
theorem dCM_plainIs_20 : decode cCM_plainIs 20 = .ok (.iconst 2, 1) := by decide +kernel
theorem dCM_plainIs_21 : decode cCM_plainIs 21 = .ok (.if_icmp .eq 18, 3) := by decide +kernel
theorem dCM_plainIs_24 : decode cCM_plainIs 24 = .ok (.iload_n 2, 1) := by decide +kernel
theorem dCM_plainIs_25 : decode cCM_plainIs 25 = .ok (.iconst 3, 1) := by decide +kernel
theorem dCM_plainIs_26 : decode cCM_plainIs 26 = .ok (.if_icmp .eq 13, 3) := by decide +kernel
theorem dCM_plainIs_29 : decode cCM_plainIs 29 = .ok (.iload_n 1, 1) := by decide +kernel
theorem dCM_plainIs_30 : decode cCM_plainIs 30 = .ok (.iconst 2, 1) := by decide +kernel
theorem dCM_plainIs_31 : decode cCM_plainIs 31 = .ok (.if_icmp .ne 12, 3) := by decide +kernel
theorem dCM_plainIs_34 : decode cCM_plainIs 34 = .ok (.iload_n 2, 1) := by decide +kernel
theorem dCM_plainIs_35 : decode cCM_plainIs 35 = .ok (.iconst 3, 1) := by decide +kernel
theorem dCM_plainIs_36 : decode cCM_plainIs 36 = .ok (.if_icmp .ne 7, 3) := by decide +kernel
theorem dCM_plainIs_39 : decode cCM_plainIs 39 = .ok (.iconst 1, 1) := by decide +kernel
theorem dCM_plainIs_40 : decode cCM_plainIs 40 = .ok (.goto 4, 3) := by decide +kernel
theorem dCM_plainIs_43 : decode cCM_plainIs 43 = .ok (.iconst 0, 1) := by decide +kernel
theorem dCM_plainIs_44 : decode cCM_plainIs 44 = .ok (.ireturn, 1) := by decide +kernel
theorem dCM_plainIs_45 : decode cCM_plainIs 45 = .ok (.iload_n 2, 1) := by decide +kernel
theorem dCM_plainIs_46 : decode cCM_plainIs 46 = .ok (.invokestatic 82, 3) := by decide +kernel
theorem dCM_plainIs_49 : decode cCM_plainIs 49 = .ok (.ifCond .eq 5, 3) := by decide +kernel
theorem dCM_plainIs_52 : decode cCM_plainIs 52 = .ok (.iconst 0, 1) := by decide +kernel
theorem dCM_plainIs_53 : decode cCM_plainIs 53 = .ok (.ireturn, 1) := by decide +kernel
theorem dCM_plainIs_54 : decode cCM_plainIs 54 = .ok (.iload_n 2, 1) := by decide +kernel
theorem dCM_plainIs_55 : decode cCM_plainIs 55 = .ok (.bipush 8, 2) := by decide +kernel
theorem dCM_plainIs_57 : decode cCM_plainIs 57 = .ok (.if_icmp .eq 9, 3) := by decide +kernel
theorem dCM_plainIs_60 : decode cCM_plainIs 60 = .ok (.iload_n 1, 1) := by decide +kernel
theorem dCM_plainIs_61 : decode cCM_plainIs 61 = .ok (.bipush 10, 2) := by decide +kernel
theorem dCM_plainIs_63 : decode cCM_plainIs 63 = .ok (.if_icmp .ne 5, 3) := by decide +kernel
theorem dCM_plainIs_66 : decode cCM_plainIs 66 = .ok (.iconst 1, 1) := by decide +kernel
theorem dCM_plainIs_67 : decode cCM_plainIs 67 = .ok (.ireturn, 1) := by decide +kernel
theorem dCM_plainIs_68 : decode cCM_plainIs 68 = .ok (.iload_n 2, 1) := by decide +kernel
theorem dCM_plainIs_69 : decode cCM_plainIs 69 = .ok (.bipush 9, 2) := by decide +kernel
theorem dCM_plainIs_71 : decode cCM_plainIs 71 = .ok (.if_icmp .ne 26, 3) := by decide +kernel
theorem dCM_plainIs_74 : decode cCM_plainIs 74 = .ok (.iload_n 1, 1) := by decide +kernel
theorem dCM_plainIs_75 : decode cCM_plainIs 75 = .ok (.iconst 5, 1) := by decide +kernel
theorem dCM_plainIs_76 : decode cCM_plainIs 76 = .ok (.if_icmp .eq 15, 3) := by decide +kernel
theorem dCM_plainIs_79 : decode cCM_plainIs 79 = .ok (.iload_n 1, 1) := by decide +kernel
theorem dCM_plainIs_80 : decode cCM_plainIs 80 = .ok (.bipush 6, 2) := by decide +kernel
theorem dCM_plainIs_82 : decode cCM_plainIs 82 = .ok (.if_icmp .eq 9, 3) := by decide +kernel
theorem dCM_plainIs_85 : decode cCM_plainIs 85 = .ok (.iload_n 1, 1) := by decide +kernel
theorem dCM_plainIs_86 : decode cCM_plainIs 86 = .ok (.bipush 7, 2) := by decide +kernel
theorem dCM_plainIs_88 : decode cCM_plainIs 88 = .ok (.if_icmp .ne 7, 3) := by decide +kernel
theorem dCM_plainIs_91 : decode cCM_plainIs 91 = .ok (.iconst 1, 1) := by decide +kernel
theorem dCM_plainIs_92 : decode cCM_plainIs 92 = .ok (.goto 4, 3) := by decide +kernel
theorem dCM_plainIs_95 : decode cCM_plainIs 95 = .ok (.iconst 0, 1) := by decide +kernel
theorem dCM_plainIs_96 : decode cCM_plainIs 96 = .ok (.ireturn, 1) := by decide +kernel
theorem dCM_plainIs_97 : decode cCM_plainIs 97 = .ok (.aload_n 0, 1) := by decide +kernel
theorem dCM_plainIs_98 : decode cCM_plainIs 98 = .ok (.iload_n 1, 1) := by decide +kernel
theorem dCM_plainIs_99 : decode cCM_plainIs 99 = .ok (.invokevirtual 72, 3) := by decide +kernel
theorem dCM_plainIs_102 : decode cCM_plainIs 102 = .ok (.ifCond .eq 35, 3) := by decide +kernel
theorem dCM_plainIs_105 : decode cCM_plainIs 105 = .ok (.aload_n 0, 1) := by decide +kernel
theorem dCM_plainIs_106 : decode cCM_plainIs 106 = .ok (.iload_n 2, 1) := by decide +kernel
theorem dCM_plainIs_107 : decode cCM_plainIs 107 = .ok (.invokevirtual 72, 3) := by decide +kernel
theorem dCM_plainIs_110 : decode cCM_plainIs 110 = .ok (.ifCond .eq 27, 3) := by decide +kernel
theorem dCM_plainIs_113 : decode cCM_plainIs 113 = .ok (.aload_n 0, 1) := by decide +kernel
theorem dCM_plainIs_114 : decode cCM_plainIs 114 = .ok (.getfield 23, 3) := by decide +kernel
theorem dCM_plainIs_117 : decode cCM_plainIs 117 = .ok (.bipush 24, 2) := by decide +kernel
theorem dCM_plainIs_119 : decode cCM_plainIs 119 = .ok (.iload_n 1, 1) := by decide +kernel
theorem dCM_plainIs_120 : decode cCM_plainIs 120 = .ok (.bipush 16, 2) := by decide +kernel
theorem dCM_plainIs_122 : decode cCM_plainIs 122 = .ok (.isub, 1) := by decide +kernel
theorem dCM_plainIs_123 : decode cCM_plainIs 123 = .ok (.imul, 1) := by decide +kernel
theorem dCM_plainIs_124 : decode cCM_plainIs 124 = .ok (.iload_n 2, 1) := by decide +kernel
theorem dCM_plainIs_125 : decode cCM_plainIs 125 = .ok (.iadd, 1) := by decide +kernel
theorem dCM_plainIs_126 : decode cCM_plainIs 126 = .ok (.bipush 16, 2) := by decide +kernel
theorem dCM_plainIs_128 : decode cCM_plainIs 128 = .ok (.isub, 1) := by decide +kernel
theorem dCM_plainIs_129 : decode cCM_plainIs 129 = .ok (.baload, 1) := by decide +kernel
theorem dCM_plainIs_130 : decode cCM_plainIs 130 = .ok (.ifCond .eq 7, 3) := by decide +kernel
theorem dCM_plainIs_133 : decode cCM_plainIs 133 = .ok (.iconst 1, 1) := by decide +kernel
theorem dCM_plainIs_134 : decode cCM_plainIs 134 = .ok (.goto 4, 3) := by decide +kernel
theorem dCM_plainIs_137 : decode cCM_plainIs 137 = .ok (.iconst 0, 1) := by decide +kernel
theorem dCM_plainIs_138 : decode cCM_plainIs 138 = .ok (.ireturn, 1) := by decide +kernel
theorem dCM_isIt_0 : decode cCM_isIt 0 = .ok (.iload_n 1, 1) := by decide +kernel
theorem dCM_isIt_1 : decode cCM_isIt 1 = .ok (.iload_n 2, 1) := by decide +kernel
theorem dCM_isIt_2 : decode cCM_isIt 2 = .ok (.if_icmp .ne 5, 3) := by decide +kernel
theorem dCM_isIt_5 : decode cCM_isIt 5 = .ok (.iconst 1, 1) := by decide +kernel
theorem dCM_isIt_6 : decode cCM_isIt 6 = .ok (.ireturn, 1) := by decide +kernel
theorem dCM_isIt_7 : decode cCM_isIt 7 = .ok (.iload_n 1, 1) := by decide +kernel
theorem dCM_isIt_8 : decode cCM_isIt 8 = .ok (.bipush 64, 2) := by decide +kernel
theorem dCM_isIt_10 : decode cCM_isIt 10 = .ok (.if_icmp .lt 40, 3) := by decide +kernel
theorem dCM_isIt_13 : decode cCM_isIt 13 = .ok (.iload_n 2, 1) := by decide +kernel
theorem dCM_isIt_14 : decode cCM_isIt 14 = .ok (.bipush 64, 2) := by decide +kernel
theorem dCM_isIt_16 : decode cCM_isIt 16 = .ok (.if_icmp .lt 34, 3) := by decide +kernel
theorem dCM_isIt_19 : decode cCM_isIt 19 = .ok (.iload_n 1, 1) := by decide +kernel
theorem dCM_isIt_20 : decode cCM_isIt 20 = .ok (.bipush 64, 2) := by decide +kernel
theorem dCM_isIt_22 : decode cCM_isIt 22 = .ok (.isub, 1) := by decide +kernel
theorem dCM_isIt_23 : decode cCM_isIt 23 = .ok (.invokestatic 82, 3) := by decide +kernel
theorem dCM_isIt_26 : decode cCM_isIt 26 = .ok (.ifCond .ne 22, 3) := by decide +kernel
theorem dCM_isIt_29 : decode cCM_isIt 29 = .ok (.aload_n 0, 1) := by decide +kernel
theorem dCM_isIt_30 : decode cCM_isIt 30 = .ok (.iload_n 1, 1) := by decide +kernel
theorem dCM_isIt_31 : decode cCM_isIt 31 = .ok (.bipush 64, 2) := by decide +kernel
theorem dCM_isIt_33 : decode cCM_isIt 33 = .ok (.isub, 1) := by decide +kernel
theorem dCM_isIt_34 : decode cCM_isIt 34 = .ok (.iload_n 2, 1) := by decide +kernel
theorem dCM_isIt_35 : decode cCM_isIt 35 = .ok (.bipush 64, 2) := by decide +kernel
theorem dCM_isIt_37 : decode cCM_isIt 37 = .ok (.isub, 1) := by decide +kernel
theorem dCM_isIt_38 : decode cCM_isIt 38 = .ok (.invokevirtual 85, 3) := by decide +kernel
theorem dCM_isIt_41 : decode cCM_isIt 41 = .ok (.ifCond .eq 7, 3) := by decide +kernel
theorem dCM_isIt_44 : decode cCM_isIt 44 = .ok (.iconst 1, 1) := by decide +kernel
theorem dCM_isIt_45 : decode cCM_isIt 45 = .ok (.goto 4, 3) := by decide +kernel
theorem dCM_isIt_48 : decode cCM_isIt 48 = .ok (.iconst 0, 1) := by decide +kernel
theorem dCM_isIt_49 : decode cCM_isIt 49 = .ok (.ireturn, 1) := by decide +kernel
theorem dCM_isIt_50 : decode cCM_isIt 50 = .ok (.iload_n 1, 1) := by decide +kernel
theorem dCM_isIt_51 : decode cCM_isIt 51 = .ok (.bipush 64, 2) := by decide +kernel
theorem dCM_isIt_53 : decode cCM_isIt 53 = .ok (.if_icmp .lt 15, 3) := by decide +kernel
theorem dCM_isIt_56 : decode cCM_isIt 56 = .ok (.iload_n 2, 1) := by decide +kernel
theorem dCM_isIt_57 : decode cCM_isIt 57 = .ok (.bipush 8, 2) := by decide +kernel
theorem dCM_isIt_59 : decode cCM_isIt 59 = .ok (.if_icmp .ne 7, 3) := by decide +kernel
theorem dCM_isIt_62 : decode cCM_isIt 62 = .ok (.iconst 1, 1) := by decide +kernel
theorem dCM_isIt_63 : decode cCM_isIt 63 = .ok (.goto 4, 3) := by decide +kernel
theorem dCM_isIt_66 : decode cCM_isIt 66 = .ok (.iconst 0, 1) := by decide +kernel
theorem dCM_isIt_67 : decode cCM_isIt 67 = .ok (.ireturn, 1) := by decide +kernel
theorem dCM_isIt_68 : decode cCM_isIt 68 = .ok (.iload_n 2, 1) := by decide +kernel
theorem dCM_isIt_69 : decode cCM_isIt 69 = .ok (.bipush 64, 2) := by decide +kernel
theorem dCM_isIt_71 : decode cCM_isIt 71 = .ok (.if_icmp .lt 17, 3) := by decide +kernel
theorem dCM_isIt_74 : decode cCM_isIt 74 = .ok (.iload_n 1, 1) := by decide +kernel
theorem dCM_isIt_75 : decode cCM_isIt 75 = .ok (.bipush 10, 2) := by decide +kernel
theorem dCM_isIt_77 : decode cCM_isIt 77 = .ok (.if_icmp .ne 7, 3) := by decide +kernel
theorem dCM_isIt_80 : decode cCM_isIt 80 = .ok (.iconst 1, 1) := by decide +kernel
theorem dCM_isIt_81 : decode cCM_isIt 81 = .ok (.goto 13, 3) := by decide +kernel
theorem dCM_isIt_84 : decode cCM_isIt 84 = .ok (.iconst 0, 1) := by decide +kernel
theorem dCM_isIt_85 : decode cCM_isIt 85 = .ok (.goto 9, 3) := by decide +kernel
theorem dCM_isIt_88 : decode cCM_isIt 88 = .ok (.aload_n 0, 1) := by decide +kernel
theorem dCM_isIt_89 : decode cCM_isIt 89 = .ok (.iload_n 1, 1) := by decide +kernel
theorem dCM_isIt_90 : decode cCM_isIt 90 = .ok (.iload_n 2, 1) := by decide +kernel
theorem dCM_isIt_91 : decode cCM_isIt 91 = .ok (.invokevirtual 85, 3) := by decide +kernel
theorem dCM_isIt_94 : decode cCM_isIt 94 = .ok (.ireturn, 1) := by decide +kernel
theorem dCM_is_0 : decode cCM_is 0 = .ok (.aload_n 0, 1) := by decide +kernel
theorem dCM_is_1 : decode cCM_is 1 = .ok (.iload_n 1, 1) := by decide +kernel
theorem dCM_is_2 : decode cCM_is 2 = .ok (.invokevirtual 98, 3) := by decide +kernel
theorem dCM_is_5 : decode cCM_is 5 = .ok (.ifCond .eq 11, 3) := by decide +kernel
theorem dCM_is_8 : decode cCM_is 8 = .ok (.aload_n 0, 1) := by decide +kernel
theorem dCM_is_9 : decode cCM_is 9 = .ok (.iload_n 2, 1) := by decide +kernel
theorem dCM_is_10 : decode cCM_is 10 = .ok (.invokevirtual 98, 3) := by decide +kernel
theorem dCM_is_13 : decode cCM_is 13 = .ok (.ifCond .ne 8, 3) := by decide +kernel
theorem dCM_is_16 : decode cCM_is 16 = .ok (.bipush (-2), 2) := by decide +kernel
theorem dCM_is_18 : decode cCM_is 18 = .ok (.goto 17, 3) := by decide +kernel
theorem dCM_is_21 : decode cCM_is 21 = .ok (.aload_n 0, 1) := by decide +kernel
theorem dCM_is_22 : decode cCM_is 22 = .ok (.iload_n 1, 1) := by decide +kernel
theorem dCM_is_23 : decode cCM_is 23 = .ok (.iload_n 2, 1) := by decide +kernel
theorem dCM_is_24 : decode cCM_is 24 = .ok (.invokevirtual 89, 3) := by decide +kernel
theorem dCM_is_27 : decode cCM_is 27 = .ok (.ifCond .eq 7, 3) := by decide +kernel
theorem dCM_is_30 : decode cCM_is 30 = .ok (.iconst 1, 1) := by decide +kernel
theorem dCM_is_31 : decode cCM_is 31 = .ok (.goto 4, 3) := by decide +kernel
theorem dCM_is_34 : decode cCM_is 34 = .ok (.iconst 0, 1) := by decide +kernel
theorem dCM_is_35 : decode cCM_is 35 = .ok (.ireturn, 1) := by decide +kernel
theorem dCM_isBox_0 : decode cCM_isBox 0 = .ok (.iload_n 0, 1) := by decide +kernel
theorem dCM_isBox_1 : decode cCM_isBox 1 = .ok (.iconst 4, 1) := by decide +kernel
theorem dCM_isBox_2 : decode cCM_isBox 2 = .ok (.if_icmp .lt 13, 3) := by decide +kernel
theorem dCM_isBox_5 : decode cCM_isBox 5 = .ok (.iload_n 0, 1) := by decide +kernel
theorem dCM_isBox_6 : decode cCM_isBox 6 = .ok (.bipush 8, 2) := by decide +kernel
theorem dCM_isBox_8 : decode cCM_isBox 8 = .ok (.if_icmp .ge 7, 3) := by decide +kernel
theorem dCM_isBox_11 : decode cCM_isBox 11 = .ok (.iconst 1, 1) := by decide +kernel
theorem dCM_isBox_12 : decode cCM_isBox 12 = .ok (.goto 4, 3) := by decide +kernel
theorem dCM_isBox_15 : decode cCM_isBox 15 = .ok (.iconst 0, 1) := by decide +kernel
theorem dCM_isBox_16 : decode cCM_isBox 16 = .ok (.ireturn, 1) := by decide +kernel
theorem dCM_fitsIt_0 : decode cCM_fitsIt 0 = .ok (.aload_n 0, 1) := by decide +kernel
theorem dCM_fitsIt_1 : decode cCM_fitsIt 1 = .ok (.iload_n 1, 1) := by decide +kernel
theorem dCM_fitsIt_2 : decode cCM_fitsIt 2 = .ok (.iload_n 2, 1) := by decide +kernel
theorem dCM_fitsIt_3 : decode cCM_fitsIt 3 = .ok (.invokevirtual 89, 3) := by decide +kernel
theorem dCM_fitsIt_6 : decode cCM_fitsIt 6 = .ok (.ifCond .ne 39, 3) := by decide +kernel
theorem dCM_fitsIt_9 : decode cCM_fitsIt 9 = .ok (.iload_n 1, 1) := by decide +kernel
theorem dCM_fitsIt_10 : decode cCM_fitsIt 10 = .ok (.invokestatic 82, 3) := by decide +kernel
theorem dCM_fitsIt_13 : decode cCM_fitsIt 13 = .ok (.ifCond .eq 14, 3) := by decide +kernel
theorem dCM_fitsIt_16 : decode cCM_fitsIt 16 = .ok (.aload_n 0, 1) := by decide +kernel
theorem dCM_fitsIt_17 : decode cCM_fitsIt 17 = .ok (.iload_n 1, 1) := by decide +kernel
theorem dCM_fitsIt_18 : decode cCM_fitsIt 18 = .ok (.iconst 4, 1) := by decide +kernel
theorem dCM_fitsIt_19 : decode cCM_fitsIt 19 = .ok (.iadd, 1) := by decide +kernel
theorem dCM_fitsIt_20 : decode cCM_fitsIt 20 = .ok (.iload_n 2, 1) := by decide +kernel
theorem dCM_fitsIt_21 : decode cCM_fitsIt 21 = .ok (.invokevirtual 89, 3) := by decide +kernel
theorem dCM_fitsIt_24 : decode cCM_fitsIt 24 = .ok (.ifCond .ne 21, 3) := by decide +kernel
theorem dCM_fitsIt_27 : decode cCM_fitsIt 27 = .ok (.iload_n 1, 1) := by decide +kernel
theorem dCM_fitsIt_28 : decode cCM_fitsIt 28 = .ok (.invokestatic 92, 3) := by decide +kernel
theorem dCM_fitsIt_31 : decode cCM_fitsIt 31 = .ok (.ifCond .eq 18, 3) := by decide +kernel
theorem dCM_fitsIt_34 : decode cCM_fitsIt 34 = .ok (.aload_n 0, 1) := by decide +kernel
theorem dCM_fitsIt_35 : decode cCM_fitsIt 35 = .ok (.iload_n 1, 1) := by decide +kernel
theorem dCM_fitsIt_36 : decode cCM_fitsIt 36 = .ok (.iconst 4, 1) := by decide +kernel
theorem dCM_fitsIt_37 : decode cCM_fitsIt 37 = .ok (.isub, 1) := by decide +kernel
theorem dCM_fitsIt_38 : decode cCM_fitsIt 38 = .ok (.iload_n 2, 1) := by decide +kernel
theorem dCM_fitsIt_39 : decode cCM_fitsIt 39 = .ok (.invokevirtual 89, 3) := by decide +kernel
theorem dCM_fitsIt_42 : decode cCM_fitsIt 42 = .ok (.ifCond .eq 7, 3) := by decide +kernel
theorem dCM_fitsIt_45 : decode cCM_fitsIt 45 = .ok (.iconst 1, 1) := by decide +kernel
theorem dCM_fitsIt_46 : decode cCM_fitsIt 46 = .ok (.goto 4, 3) := by decide +kernel
theorem dCM_fitsIt_49 : decode cCM_fitsIt 49 = .ok (.iconst 0, 1) := by decide +kernel
theorem dCM_fitsIt_50 : decode cCM_fitsIt 50 = .ok (.ireturn, 1) := by decide +kernel
theorem dCM_fits_0 : decode cCM_fits 0 = .ok (.aload_n 0, 1) := by decide +kernel
theorem dCM_fits_1 : decode cCM_fits 1 = .ok (.iload_n 1, 1) := by decide +kernel
theorem dCM_fits_2 : decode cCM_fits 2 = .ok (.invokevirtual 98, 3) := by decide +kernel
theorem dCM_fits_5 : decode cCM_fits 5 = .ok (.ifCond .eq 11, 3) := by decide +kernel
theorem dCM_fits_8 : decode cCM_fits 8 = .ok (.aload_n 0, 1) := by decide +kernel
theorem dCM_fits_9 : decode cCM_fits 9 = .ok (.iload_n 2, 1) := by decide +kernel
theorem dCM_fits_10 : decode cCM_fits 10 = .ok (.invokevirtual 98, 3) := by decide +kernel
theorem dCM_fits_13 : decode cCM_fits 13 = .ok (.ifCond .ne 8, 3) := by decide +kernel
theorem dCM_fits_16 : decode cCM_fits 16 = .ok (.bipush (-2), 2) := by decide +kernel
theorem dCM_fits_18 : decode cCM_fits 18 = .ok (.goto 17, 3) := by decide +kernel
theorem dCM_fits_21 : decode cCM_fits 21 = .ok (.aload_n 0, 1) := by decide +kernel
theorem dCM_fits_22 : decode cCM_fits 22 = .ok (.iload_n 1, 1) := by decide +kernel
theorem dCM_fits_23 : decode cCM_fits 23 = .ok (.iload_n 2, 1) := by decide +kernel
theorem dCM_fits_24 : decode cCM_fits 24 = .ok (.invokevirtual 101, 3) := by decide +kernel
theorem dCM_fits_27 : decode cCM_fits 27 = .ok (.ifCond .eq 7, 3) := by decide +kernel
theorem dCM_fits_30 : decode cCM_fits 30 = .ok (.iconst 1, 1) := by decide +kernel
theorem dCM_fits_31 : decode cCM_fits 31 = .ok (.goto 4, 3) := by decide +kernel
theorem dCM_fits_34 : decode cCM_fits 34 = .ok (.iconst 0, 1) := by decide +kernel
theorem dCM_fits_35 : decode cCM_fits 35 = .ok (.ireturn, 1) := by decide +kernel
theorem dCM_parameter_0 : decode cCM_parameter 0 = .ok (.iload_n 0, 1) := by decide +kernel
theorem dCM_parameter_1 : decode cCM_parameter 1 = .ok (.ifCond .ne 7, 3) := by decide +kernel
theorem dCM_parameter_4 : decode cCM_parameter 4 = .ok (.iload_n 1, 1) := by decide +kernel
theorem dCM_parameter_5 : decode cCM_parameter 5 = .ok (.goto 23, 3) := by decide +kernel
theorem dCM_parameter_8 : decode cCM_parameter 8 = .ok (.iload_n 0, 1) := by decide +kernel
theorem dCM_parameter_9 : decode cCM_parameter 9 = .ok (.iconst 1, 1) := by decide +kernel
theorem dCM_parameter_10 : decode cCM_parameter 10 = .ok (.if_icmp .ne 7, 3) := by decide +kernel
theorem dCM_parameter_13 : decode cCM_parameter 13 = .ok (.iload_n 2, 1) := by decide +kernel
theorem dCM_parameter_14 : decode cCM_parameter 14 = .ok (.goto 14, 3) := by decide +kernel
theorem dCM_parameter_17 : decode cCM_parameter 17 = .ok (.iload_n 0, 1) := by decide +kernel
theorem dCM_parameter_18 : decode cCM_parameter 18 = .ok (.iconst 2, 1) := by decide +kernel
theorem dCM_parameter_19 : decode cCM_parameter 19 = .ok (.if_icmp .ne 7, 3) := by decide +kernel
theorem dCM_parameter_22 : decode cCM_parameter 22 = .ok (.iload_n 3, 1) := by decide +kernel
theorem dCM_parameter_23 : decode cCM_parameter 23 = .ok (.goto 5, 3) := by decide +kernel
theorem dCM_parameter_26 : decode cCM_parameter 26 = .ok (.iload 4, 2) := by decide +kernel
theorem dCM_parameter_28 : decode cCM_parameter 28 = .ok (.ireturn, 1) := by decide +kernel
theorem dCM_isValue_0 : decode cCM_isValue 0 = .ok (.aload_n 0, 1) := by decide +kernel
theorem dCM_isValue_1 : decode cCM_isValue 1 = .ok (.iload_n 1, 1) := by decide +kernel
theorem dCM_isValue_2 : decode cCM_isValue 2 = .ok (.invokevirtual 98, 3) := by decide +kernel
theorem dCM_isValue_5 : decode cCM_isValue 5 = .ok (.ifCond .eq 13, 3) := by decide +kernel
theorem dCM_isValue_8 : decode cCM_isValue 8 = .ok (.iload_n 1, 1) := by decide +kernel
theorem dCM_isValue_9 : decode cCM_isValue 9 = .ok (.bipush 10, 2) := by decide +kernel
theorem dCM_isValue_11 : decode cCM_isValue 11 = .ok (.if_icmp .eq 7, 3) := by decide +kernel
theorem dCM_isValue_14 : decode cCM_isValue 14 = .ok (.iconst 1, 1) := by decide +kernel
theorem dCM_isValue_15 : decode cCM_isValue 15 = .ok (.goto 4, 3) := by decide +kernel
theorem dCM_isValue_18 : decode cCM_isValue 18 = .ok (.iconst 0, 1) := by decide +kernel
theorem dCM_isValue_19 : decode cCM_isValue 19 = .ok (.ireturn, 1) := by decide +kernel
theorem dCM_isName_0 : decode cCM_isName 0 = .ok (.iload_n 0, 1) := by decide +kernel
theorem dCM_isName_1 : decode cCM_isName 1 = .ok (.ifCond .lt 13, 3) := by decide +kernel
theorem dCM_isName_4 : decode cCM_isName 4 = .ok (.iload_n 0, 1) := by decide +kernel
theorem dCM_isName_5 : decode cCM_isName 5 = .ok (.bipush 16, 2) := by decide +kernel
theorem dCM_isName_7 : decode cCM_isName 7 = .ok (.if_icmp .ge 7, 3) := by decide +kernel
theorem dCM_isName_10 : decode cCM_isName 10 = .ok (.iconst 1, 1) := by decide +kernel
theorem dCM_isName_11 : decode cCM_isName 11 = .ok (.goto 4, 3) := by decide +kernel
theorem dCM_isName_14 : decode cCM_isName 14 = .ok (.iconst 0, 1) := by decide +kernel
theorem dCM_isName_15 : decode cCM_isName 15 = .ok (.ireturn, 1) := by decide +kernel
theorem dCM_member_0 : decode cCM_member 0 = .ok (.aload_n 0, 1) := by decide +kernel
theorem dCM_member_1 : decode cCM_member 1 = .ok (.iload_n 1, 1) := by decide +kernel
theorem dCM_member_2 : decode cCM_member 2 = .ok (.invokevirtual 72, 3) := by decide +kernel
theorem dCM_member_5 : decode cCM_member 5 = .ok (.ifCond .eq 59, 3) := by decide +kernel
theorem dCM_member_8 : decode cCM_member 8 = .ok (.iload_n 2, 1) := by decide +kernel
theorem dCM_member_9 : decode cCM_member 9 = .ok (.invokestatic 104, 3) := by decide +kernel
theorem dCM_member_12 : decode cCM_member 12 = .ok (.ifCond .eq 52, 3) := by decide +kernel
theorem dCM_member_15 : decode cCM_member 15 = .ok (.iload_n 3, 1) := by decide +kernel
theorem dCM_member_16 : decode cCM_member 16 = .ok (.ifCond .lt 48, 3) := by decide +kernel
theorem dCM_member_19 : decode cCM_member 19 = .ok (.iload_n 3, 1) := by decide +kernel
theorem dCM_member_20 : decode cCM_member 20 = .ok (.bipush 15, 2) := by decide +kernel
theorem dCM_member_22 : decode cCM_member 22 = .ok (.if_icmp .gt 42, 3) := by decide +kernel
theorem dCM_member_25 : decode cCM_member 25 = .ok (.iload 4, 2) := by decide +kernel
theorem dCM_member_27 : decode cCM_member 27 = .ok (.iconst (-1), 1) := by decide +kernel
theorem dCM_member_28 : decode cCM_member 28 = .ok (.if_icmp .eq 12, 3) := by decide +kernel
theorem dCM_member_31 : decode cCM_member 31 = .ok (.aload_n 0, 1) := by decide +kernel
theorem dCM_member_32 : decode cCM_member 32 = .ok (.iload 4, 2) := by decide +kernel
theorem dCM_member_34 : decode cCM_member 34 = .ok (.invokevirtual 107, 3) := by decide +kernel
theorem dCM_member_37 : decode cCM_member 37 = .ok (.ifCond .eq 27, 3) := by decide +kernel
theorem dCM_member_40 : decode cCM_member 40 = .ok (.iload 5, 2) := by decide +kernel
theorem dCM_member_42 : decode cCM_member 42 = .ok (.ifCond .lt 22, 3) := by decide +kernel
theorem dCM_member_45 : decode cCM_member 45 = .ok (.iload 5, 2) := by decide +kernel
theorem dCM_member_47 : decode cCM_member 47 = .ok (.iconst 4, 1) := by decide +kernel
theorem dCM_member_48 : decode cCM_member 48 = .ok (.if_icmp .gt 16, 3) := by decide +kernel
theorem dCM_member_51 : decode cCM_member 51 = .ok (.aload_n 0, 1) := by decide +kernel
theorem dCM_member_52 : decode cCM_member 52 = .ok (.getfield 110, 3) := by decide +kernel
theorem dCM_member_55 : decode cCM_member 55 = .ok (.bipush 60, 2) := by decide +kernel
theorem dCM_member_57 : decode cCM_member 57 = .ok (.if_icmp .ge 7, 3) := by decide +kernel
theorem dCM_member_60 : decode cCM_member 60 = .ok (.iconst 1, 1) := by decide +kernel
theorem dCM_member_61 : decode cCM_member 61 = .ok (.goto 4, 3) := by decide +kernel
theorem dCM_member_64 : decode cCM_member 64 = .ok (.iconst 0, 1) := by decide +kernel
theorem dCM_member_65 : decode cCM_member 65 = .ok (.istore 10, 2) := by decide +kernel
theorem dCM_member_67 : decode cCM_member 67 = .ok (.iconst 0, 1) := by decide +kernel
theorem dCM_member_68 : decode cCM_member 68 = .ok (.istore 11, 2) := by decide +kernel
theorem dCM_member_70 : decode cCM_member 70 = .ok (.iload 11, 2) := by decide +kernel
theorem dCM_member_72 : decode cCM_member 72 = .ok (.iconst 4, 1) := by decide +kernel
theorem dCM_member_73 : decode cCM_member 73 = .ok (.if_icmp .ge 40, 3) := by decide +kernel
theorem dCM_member_76 : decode cCM_member 76 = .ok (.iload 10, 2) := by decide +kernel
theorem dCM_member_78 : decode cCM_member 78 = .ok (.ifCond .eq 35, 3) := by decide +kernel
theorem dCM_member_81 : decode cCM_member 81 = .ok (.iload 11, 2) := by decide +kernel
theorem dCM_member_83 : decode cCM_member 83 = .ok (.iload 5, 2) := by decide +kernel
theorem dCM_member_85 : decode cCM_member 85 = .ok (.if_icmp .ge 28, 3) := by decide +kernel
theorem dCM_member_88 : decode cCM_member 88 = .ok (.aload_n 0, 1) := by decide +kernel
theorem dCM_member_89 : decode cCM_member 89 = .ok (.iload 11, 2) := by decide +kernel
theorem dCM_member_91 : decode cCM_member 91 = .ok (.iload 6, 2) := by decide +kernel
theorem dCM_member_93 : decode cCM_member 93 = .ok (.iload 7, 2) := by decide +kernel
theorem dCM_member_95 : decode cCM_member 95 = .ok (.iload 8, 2) := by decide +kernel
theorem dCM_member_97 : decode cCM_member 97 = .ok (.iload 9, 2) := by decide +kernel
theorem dCM_member_99 : decode cCM_member 99 = .ok (.invokestatic 113, 3) := by decide +kernel
theorem dCM_member_102 : decode cCM_member 102 = .ok (.invokevirtual 107, 3) := by decide +kernel
theorem dCM_member_105 : decode cCM_member 105 = .ok (.istore 10, 2) := by decide +kernel
theorem dCM_member_107 : decode cCM_member 107 = .ok (.iinc 11 1, 3) := by decide +kernel
theorem dCM_member_110 : decode cCM_member 110 = .ok (.goto (-40), 3) := by decide +kernel
theorem dCM_member_113 : decode cCM_member 113 = .ok (.iload 10, 2) := by decide +kernel
theorem dCM_member_115 : decode cCM_member 115 = .ok (.ifCond .ne 6, 3) := by decide +kernel
theorem dCM_member_118 : decode cCM_member 118 = .ok (.bipush (-2), 2) := by decide +kernel
theorem dCM_member_120 : decode cCM_member 120 = .ok (.ireturn, 1) := by decide +kernel
theorem dCM_member_121 : decode cCM_member 121 = .ok (.iload_n 3, 1) := by decide +kernel
theorem dCM_member_122 : decode cCM_member 122 = .ok (.iconst 4, 1) := by decide +kernel
theorem dCM_member_123 : decode cCM_member 123 = .ok (.iand, 1) := by decide +kernel
theorem dCM_member_124 : decode cCM_member 124 = .ok (.ifCond .eq 7, 3) := by decide +kernel
theorem dCM_member_127 : decode cCM_member 127 = .ok (.iconst 1, 1) := by decide +kernel
theorem dCM_member_128 : decode cCM_member 128 = .ok (.goto 4, 3) := by decide +kernel
theorem dCM_member_131 : decode cCM_member 131 = .ok (.iconst 0, 1) := by decide +kernel
theorem dCM_member_132 : decode cCM_member 132 = .ok (.istore 11, 2) := by decide +kernel
theorem dCM_member_134 : decode cCM_member 134 = .ok (.iload 11, 2) := by decide +kernel
theorem dCM_member_136 : decode cCM_member 136 = .ok (.ifCond .eq 30, 3) := by decide +kernel
theorem dCM_member_139 : decode cCM_member 139 = .ok (.iload_n 3, 1) := by decide +kernel
theorem dCM_member_140 : decode cCM_member 140 = .ok (.iconst 1, 1) := by decide +kernel
theorem dCM_member_141 : decode cCM_member 141 = .ok (.iand, 1) := by decide +kernel
theorem dCM_member_142 : decode cCM_member 142 = .ok (.ifCond .ne 21, 3) := by decide +kernel
theorem dCM_member_145 : decode cCM_member 145 = .ok (.aload_n 0, 1) := by decide +kernel
theorem dCM_member_146 : decode cCM_member 146 = .ok (.getfield 7, 3) := by decide +kernel
theorem dCM_member_149 : decode cCM_member 149 = .ok (.iload_n 1, 1) := by decide +kernel
theorem dCM_member_150 : decode cCM_member 150 = .ok (.bipush 16, 2) := by decide +kernel
theorem dCM_member_152 : decode cCM_member 152 = .ok (.isub, 1) := by decide +kernel
theorem dCM_member_153 : decode cCM_member 153 = .ok (.baload, 1) := by decide +kernel
theorem dCM_member_154 : decode cCM_member 154 = .ok (.ifCond .eq 12, 3) := by decide +kernel
theorem dCM_member_157 : decode cCM_member 157 = .ok (.iload_n 3, 1) := by decide +kernel
theorem dCM_member_158 : decode cCM_member 158 = .ok (.iconst 2, 1) := by decide +kernel
theorem dCM_member_159 : decode cCM_member 159 = .ok (.iand, 1) := by decide +kernel
theorem dCM_member_160 : decode cCM_member 160 = .ok (.ifCond .eq 6, 3) := by decide +kernel
theorem dCM_member_163 : decode cCM_member 163 = .ok (.bipush (-2), 2) := by decide +kernel
theorem dCM_member_165 : decode cCM_member 165 = .ok (.ireturn, 1) := by decide +kernel
theorem dCM_member_166 : decode cCM_member 166 = .ok (.iload_n 3, 1) := by decide +kernel
theorem dCM_member_167 : decode cCM_member 167 = .ok (.bipush 8, 2) := by decide +kernel
theorem dCM_member_169 : decode cCM_member 169 = .ok (.iand, 1) := by decide +kernel
theorem dCM_member_170 : decode cCM_member 170 = .ok (.ifCond .eq 31, 3) := by decide +kernel
theorem dCM_member_173 : decode cCM_member 173 = .ok (.iload 5, 2) := by decide +kernel
theorem dCM_member_175 : decode cCM_member 175 = .ok (.ifCond .eq 23, 3) := by decide +kernel
theorem dCM_member_178 : decode cCM_member 178 = .ok (.iload 5, 2) := by decide +kernel
theorem dCM_member_180 : decode cCM_member 180 = .ok (.iconst 1, 1) := by decide +kernel
theorem dCM_member_181 : decode cCM_member 181 = .ok (.isub, 1) := by decide +kernel
theorem dCM_member_182 : decode cCM_member 182 = .ok (.iload 6, 2) := by decide +kernel
theorem dCM_member_184 : decode cCM_member 184 = .ok (.iload 7, 2) := by decide +kernel
theorem dCM_member_186 : decode cCM_member 186 = .ok (.iload 8, 2) := by decide +kernel
theorem dCM_member_188 : decode cCM_member 188 = .ok (.iload 9, 2) := by decide +kernel
theorem dCM_member_190 : decode cCM_member 190 = .ok (.invokestatic 113, 3) := by decide +kernel
theorem dCM_member_193 : decode cCM_member 193 = .ok (.bipush 64, 2) := by decide +kernel
theorem dCM_member_195 : decode cCM_member 195 = .ok (.if_icmp .ge 6, 3) := by decide +kernel
theorem dCM_member_198 : decode cCM_member 198 = .ok (.bipush (-2), 2) := by decide +kernel
theorem dCM_member_200 : decode cCM_member 200 = .ok (.ireturn, 1) := by decide +kernel
theorem dCM_member_201 : decode cCM_member 201 = .ok (.iconst 0, 1) := by decide +kernel
theorem dCM_member_202 : decode cCM_member 202 = .ok (.istore 12, 2) := by decide +kernel
theorem dCM_member_204 : decode cCM_member 204 = .ok (.iload 12, 2) := by decide +kernel
theorem dCM_member_206 : decode cCM_member 206 = .ok (.aload_n 0, 1) := by decide +kernel
theorem dCM_member_207 : decode cCM_member 207 = .ok (.getfield 110, 3) := by decide +kernel
theorem dCM_member_210 : decode cCM_member 210 = .ok (.if_icmp .ge 114, 3) := by decide +kernel
theorem dCM_member_213 : decode cCM_member 213 = .ok (.aload_n 0, 1) := by decide +kernel
theorem dCM_member_214 : decode cCM_member 214 = .ok (.getfield 26, 3) := by decide +kernel
theorem dCM_member_217 : decode cCM_member 217 = .ok (.iload 12, 2) := by decide +kernel
theorem dCM_member_219 : decode cCM_member 219 = .ok (.iaload, 1) := by decide +kernel
theorem dCM_member_220 : decode cCM_member 220 = .ok (.iload_n 1, 1) := by decide +kernel
theorem dCM_member_221 : decode cCM_member 221 = .ok (.if_icmp .ne 30, 3) := by decide +kernel
theorem dCM_member_224 : decode cCM_member 224 = .ok (.aload_n 0, 1) := by decide +kernel
theorem dCM_member_225 : decode cCM_member 225 = .ok (.getfield 29, 3) := by decide +kernel
theorem dCM_member_228 : decode cCM_member 228 = .ok (.iload 12, 2) := by decide +kernel
theorem dCM_member_230 : decode cCM_member 230 = .ok (.iaload, 1) := by decide +kernel
theorem dCM_member_231 : decode cCM_member 231 = .ok (.iload_n 2, 1) := by decide +kernel
theorem dCM_member_232 : decode cCM_member 232 = .ok (.if_icmp .ne 19, 3) := by decide +kernel
theorem dCM_member_235 : decode cCM_member 235 = .ok (.aload_n 0, 1) := by decide +kernel
theorem dCM_member_236 : decode cCM_member 236 = .ok (.getfield 38, 3) := by decide +kernel
theorem dCM_member_239 : decode cCM_member 239 = .ok (.iload 12, 2) := by decide +kernel
theorem dCM_member_241 : decode cCM_member 241 = .ok (.iaload, 1) := by decide +kernel
theorem dCM_member_242 : decode cCM_member 242 = .ok (.iload 5, 2) := by decide +kernel
theorem dCM_member_244 : decode cCM_member 244 = .ok (.if_icmp .ne 7, 3) := by decide +kernel
theorem dCM_member_247 : decode cCM_member 247 = .ok (.iconst 1, 1) := by decide +kernel
theorem dCM_member_248 : decode cCM_member 248 = .ok (.goto 4, 3) := by decide +kernel
theorem dCM_member_251 : decode cCM_member 251 = .ok (.iconst 0, 1) := by decide +kernel
theorem dCM_member_252 : decode cCM_member 252 = .ok (.istore 13, 2) := by decide +kernel
theorem dCM_member_254 : decode cCM_member 254 = .ok (.iconst 0, 1) := by decide +kernel
theorem dCM_member_255 : decode cCM_member 255 = .ok (.istore 14, 2) := by decide +kernel
theorem dCM_member_257 : decode cCM_member 257 = .ok (.iload 14, 2) := by decide +kernel
theorem dCM_member_259 : decode cCM_member 259 = .ok (.iload 5, 2) := by decide +kernel
theorem dCM_member_261 : decode cCM_member 261 = .ok (.if_icmp .ge 49, 3) := by decide +kernel
theorem dCM_member_264 : decode cCM_member 264 = .ok (.iload 13, 2) := by decide +kernel
theorem dCM_member_266 : decode cCM_member 266 = .ok (.ifCond .eq 44, 3) := by decide +kernel
theorem dCM_member_269 : decode cCM_member 269 = .ok (.aload_n 0, 1) := by decide +kernel
theorem dCM_member_270 : decode cCM_member 270 = .ok (.getfield 41, 3) := by decide +kernel
theorem dCM_member_273 : decode cCM_member 273 = .ok (.iconst 4, 1) := by decide +kernel
theorem dCM_member_274 : decode cCM_member 274 = .ok (.iload 12, 2) := by decide +kernel
theorem dCM_member_276 : decode cCM_member 276 = .ok (.imul, 1) := by decide +kernel
theorem dCM_member_277 : decode cCM_member 277 = .ok (.iload 14, 2) := by decide +kernel
theorem dCM_member_279 : decode cCM_member 279 = .ok (.iadd, 1) := by decide +kernel
theorem dCM_member_280 : decode cCM_member 280 = .ok (.iaload, 1) := by decide +kernel
theorem dCM_member_281 : decode cCM_member 281 = .ok (.iload 14, 2) := by decide +kernel
theorem dCM_member_283 : decode cCM_member 283 = .ok (.iload 6, 2) := by decide +kernel
theorem dCM_member_285 : decode cCM_member 285 = .ok (.iload 7, 2) := by decide +kernel
theorem dCM_member_287 : decode cCM_member 287 = .ok (.iload 8, 2) := by decide +kernel
theorem dCM_member_289 : decode cCM_member 289 = .ok (.iload 9, 2) := by decide +kernel
theorem dCM_member_291 : decode cCM_member 291 = .ok (.invokestatic 113, 3) := by decide +kernel
theorem dCM_member_294 : decode cCM_member 294 = .ok (.if_icmp .ne 7, 3) := by decide +kernel
theorem dCM_member_297 : decode cCM_member 297 = .ok (.iconst 1, 1) := by decide +kernel
theorem dCM_member_298 : decode cCM_member 298 = .ok (.goto 4, 3) := by decide +kernel
theorem dCM_member_301 : decode cCM_member 301 = .ok (.iconst 0, 1) := by decide +kernel
theorem dCM_member_302 : decode cCM_member 302 = .ok (.istore 13, 2) := by decide +kernel
theorem dCM_member_304 : decode cCM_member 304 = .ok (.iinc 14 1, 3) := by decide +kernel
theorem dCM_member_307 : decode cCM_member 307 = .ok (.goto (-50), 3) := by decide +kernel
theorem dCM_member_310 : decode cCM_member 310 = .ok (.iload 13, 2) := by decide +kernel
theorem dCM_member_312 : decode cCM_member 312 = .ok (.ifCond .eq 6, 3) := by decide +kernel
theorem dCM_member_315 : decode cCM_member 315 = .ok (.bipush (-2), 2) := by decide +kernel
theorem dCM_member_317 : decode cCM_member 317 = .ok (.ireturn, 1) := by decide +kernel
theorem dCM_member_318 : decode cCM_member 318 = .ok (.iinc 12 1, 3) := by decide +kernel
theorem dCM_member_321 : decode cCM_member 321 = .ok (.goto (-117), 3) := by decide +kernel
theorem dCM_member_324 : decode cCM_member 324 = .ok (.aload_n 0, 1) := by decide +kernel
theorem dCM_member_325 : decode cCM_member 325 = .ok (.getfield 26, 3) := by decide +kernel
theorem dCM_member_328 : decode cCM_member 328 = .ok (.aload_n 0, 1) := by decide +kernel
theorem dCM_member_329 : decode cCM_member 329 = .ok (.getfield 110, 3) := by decide +kernel
theorem dCM_member_332 : decode cCM_member 332 = .ok (.iload_n 1, 1) := by decide +kernel
theorem dCM_member_333 : decode cCM_member 333 = .ok (.iastore, 1) := by decide +kernel
theorem dCM_member_334 : decode cCM_member 334 = .ok (.aload_n 0, 1) := by decide +kernel
theorem dCM_member_335 : decode cCM_member 335 = .ok (.getfield 29, 3) := by decide +kernel
theorem dCM_member_338 : decode cCM_member 338 = .ok (.aload_n 0, 1) := by decide +kernel
theorem dCM_member_339 : decode cCM_member 339 = .ok (.getfield 110, 3) := by decide +kernel
theorem dCM_member_342 : decode cCM_member 342 = .ok (.iload_n 2, 1) := by decide +kernel
theorem dCM_member_343 : decode cCM_member 343 = .ok (.iastore, 1) := by decide +kernel
theorem dCM_member_344 : decode cCM_member 344 = .ok (.aload_n 0, 1) := by decide +kernel
theorem dCM_member_345 : decode cCM_member 345 = .ok (.getfield 32, 3) := by decide +kernel
theorem dCM_member_348 : decode cCM_member 348 = .ok (.aload_n 0, 1) := by decide +kernel
theorem dCM_member_349 : decode cCM_member 349 = .ok (.getfield 110, 3) := by decide +kernel
theorem dCM_member_352 : decode cCM_member 352 = .ok (.iload_n 3, 1) := by decide +kernel
theorem dCM_member_353 : decode cCM_member 353 = .ok (.iastore, 1) := by decide +kernel
theorem dCM_member_354 : decode cCM_member 354 = .ok (.aload_n 0, 1) := by decide +kernel
theorem dCM_member_355 : decode cCM_member 355 = .ok (.getfield 35, 3) := by decide +kernel
theorem dCM_member_358 : decode cCM_member 358 = .ok (.aload_n 0, 1) := by decide +kernel
theorem dCM_member_359 : decode cCM_member 359 = .ok (.getfield 110, 3) := by decide +kernel
theorem dCM_member_362 : decode cCM_member 362 = .ok (.iload 4, 2) := by decide +kernel
theorem dCM_member_364 : decode cCM_member 364 = .ok (.iastore, 1) := by decide +kernel
theorem dCM_member_365 : decode cCM_member 365 = .ok (.aload_n 0, 1) := by decide +kernel
theorem dCM_member_366 : decode cCM_member 366 = .ok (.getfield 38, 3) := by decide +kernel
theorem dCM_member_369 : decode cCM_member 369 = .ok (.aload_n 0, 1) := by decide +kernel
theorem dCM_member_370 : decode cCM_member 370 = .ok (.getfield 110, 3) := by decide +kernel
theorem dCM_member_373 : decode cCM_member 373 = .ok (.iload 5, 2) := by decide +kernel
theorem dCM_member_375 : decode cCM_member 375 = .ok (.iastore, 1) := by decide +kernel
theorem dCM_member_376 : decode cCM_member 376 = .ok (.iconst 0, 1) := by decide +kernel
theorem dCM_member_377 : decode cCM_member 377 = .ok (.istore 12, 2) := by decide +kernel
theorem dCM_member_379 : decode cCM_member 379 = .ok (.iload 12, 2) := by decide +kernel
theorem dCM_member_381 : decode cCM_member 381 = .ok (.iload 5, 2) := by decide +kernel
theorem dCM_member_383 : decode cCM_member 383 = .ok (.if_icmp .ge 36, 3) := by decide +kernel
theorem dCM_member_386 : decode cCM_member 386 = .ok (.aload_n 0, 1) := by decide +kernel
theorem dCM_member_387 : decode cCM_member 387 = .ok (.getfield 41, 3) := by decide +kernel
theorem dCM_member_390 : decode cCM_member 390 = .ok (.iconst 4, 1) := by decide +kernel
theorem dCM_member_391 : decode cCM_member 391 = .ok (.aload_n 0, 1) := by decide +kernel
theorem dCM_member_392 : decode cCM_member 392 = .ok (.getfield 110, 3) := by decide +kernel
theorem dCM_member_395 : decode cCM_member 395 = .ok (.imul, 1) := by decide +kernel
theorem dCM_member_396 : decode cCM_member 396 = .ok (.iload 12, 2) := by decide +kernel
theorem dCM_member_398 : decode cCM_member 398 = .ok (.iadd, 1) := by decide +kernel
theorem dCM_member_399 : decode cCM_member 399 = .ok (.iload 12, 2) := by decide +kernel
theorem dCM_member_401 : decode cCM_member 401 = .ok (.iload 6, 2) := by decide +kernel
theorem dCM_member_403 : decode cCM_member 403 = .ok (.iload 7, 2) := by decide +kernel
theorem dCM_member_405 : decode cCM_member 405 = .ok (.iload 8, 2) := by decide +kernel
theorem dCM_member_407 : decode cCM_member 407 = .ok (.iload 9, 2) := by decide +kernel
theorem dCM_member_409 : decode cCM_member 409 = .ok (.invokestatic 113, 3) := by decide +kernel
theorem dCM_member_412 : decode cCM_member 412 = .ok (.iastore, 1) := by decide +kernel
theorem dCM_member_413 : decode cCM_member 413 = .ok (.iinc 12 1, 3) := by decide +kernel
theorem dCM_member_416 : decode cCM_member 416 = .ok (.goto (-37), 3) := by decide +kernel
theorem dCM_member_419 : decode cCM_member 419 = .ok (.aload_n 0, 1) := by decide +kernel
theorem dCM_member_420 : decode cCM_member 420 = .ok (.dup, 1) := by decide +kernel
theorem dCM_member_421 : decode cCM_member 421 = .ok (.getfield 110, 3) := by decide +kernel
theorem dCM_member_424 : decode cCM_member 424 = .ok (.iconst 1, 1) := by decide +kernel
theorem dCM_member_425 : decode cCM_member 425 = .ok (.iadd, 1) := by decide +kernel
theorem dCM_member_426 : decode cCM_member 426 = .ok (.putfield 110, 3) := by decide +kernel
theorem dCM_member_429 : decode cCM_member 429 = .ok (.aload_n 0, 1) := by decide +kernel
theorem dCM_member_430 : decode cCM_member 430 = .ok (.invokevirtual 79, 3) := by decide +kernel
theorem dCM_member_433 : decode cCM_member 433 = .ok (.aload_n 0, 1) := by decide +kernel
theorem dCM_member_434 : decode cCM_member 434 = .ok (.getfield 110, 3) := by decide +kernel
theorem dCM_member_437 : decode cCM_member 437 = .ok (.iconst 1, 1) := by decide +kernel
theorem dCM_member_438 : decode cCM_member 438 = .ok (.isub, 1) := by decide +kernel
theorem dCM_member_439 : decode cCM_member 439 = .ok (.ireturn, 1) := by decide +kernel
theorem dCM_has_0 : decode cCM_has 0 = .ok (.aload_n 0, 1) := by decide +kernel
theorem dCM_has_1 : decode cCM_has 1 = .ok (.getfield 32, 3) := by decide +kernel
theorem dCM_has_4 : decode cCM_has 4 = .ok (.iload_n 1, 1) := by decide +kernel
theorem dCM_has_5 : decode cCM_has 5 = .ok (.iaload, 1) := by decide +kernel
theorem dCM_has_6 : decode cCM_has 6 = .ok (.iload_n 2, 1) := by decide +kernel
theorem dCM_has_7 : decode cCM_has 7 = .ok (.iand, 1) := by decide +kernel
theorem dCM_has_8 : decode cCM_has 8 = .ok (.ifCond .eq 7, 3) := by decide +kernel
theorem dCM_has_11 : decode cCM_has 11 = .ok (.iconst 1, 1) := by decide +kernel
theorem dCM_has_12 : decode cCM_has 12 = .ok (.goto 4, 3) := by decide +kernel
theorem dCM_has_15 : decode cCM_has 15 = .ok (.iconst 0, 1) := by decide +kernel
theorem dCM_has_16 : decode cCM_has 16 = .ok (.ireturn, 1) := by decide +kernel
theorem dCM_sameParams_0 : decode cCM_sameParams 0 = .ok (.aload_n 0, 1) := by decide +kernel
theorem dCM_sameParams_1 : decode cCM_sameParams 1 = .ok (.getfield 38, 3) := by decide +kernel
theorem dCM_sameParams_4 : decode cCM_sameParams 4 = .ok (.iload_n 1, 1) := by decide +kernel
theorem dCM_sameParams_5 : decode cCM_sameParams 5 = .ok (.iaload, 1) := by decide +kernel
theorem dCM_sameParams_6 : decode cCM_sameParams 6 = .ok (.aload_n 0, 1) := by decide +kernel
theorem dCM_sameParams_7 : decode cCM_sameParams 7 = .ok (.getfield 38, 3) := by decide +kernel
theorem dCM_sameParams_10 : decode cCM_sameParams 10 = .ok (.iload_n 2, 1) := by decide +kernel
theorem dCM_sameParams_11 : decode cCM_sameParams 11 = .ok (.iaload, 1) := by decide +kernel
theorem dCM_sameParams_12 : decode cCM_sameParams 12 = .ok (.if_icmp .ne 7, 3) := by decide +kernel
theorem dCM_sameParams_15 : decode cCM_sameParams 15 = .ok (.iconst 1, 1) := by decide +kernel
theorem dCM_sameParams_16 : decode cCM_sameParams 16 = .ok (.goto 4, 3) := by decide +kernel
theorem dCM_sameParams_19 : decode cCM_sameParams 19 = .ok (.iconst 0, 1) := by decide +kernel
theorem dCM_sameParams_20 : decode cCM_sameParams 20 = .ok (.istore_n 3, 1) := by decide +kernel
theorem dCM_sameParams_21 : decode cCM_sameParams 21 = .ok (.iconst 0, 1) := by decide +kernel
theorem dCM_sameParams_22 : decode cCM_sameParams 22 = .ok (.istore 4, 2) := by decide +kernel
theorem dCM_sameParams_24 : decode cCM_sameParams 24 = .ok (.iload 4, 2) := by decide +kernel
