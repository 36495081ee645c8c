theorem dC1_add_0 : decode cC1_add 0 = .ok (.aload_n 0, 1) := by decide +kernel
theorem dC1_add_1 : decode cC1_add 1 = .ok (.getfield 32, 3) := by decide +kernel
theorem dC1_add_4 : decode cC1_add 4 = .ok (.bipush 24, 2) := by decide +kernel
theorem dC1_add_6 : decode cC1_add 6 = .ok (.if_icmp .ge 13, 3) := by decide +kernel
theorem dC1_add_9 : decode cC1_add 9 = .ok (.iload_n 1, 1) := by decide +kernel
theorem dC1_add_10 : decode cC1_add 10 = .ok (.ifCond .lt 9, 3) := by decide +kernel
theorem dC1_add_13 : decode cC1_add 13 = .ok (.iload_n 1, 1) := by decide +kernel
theorem dC1_add_14 : decode cC1_add 14 = .ok (.bipush 40, 2) := by decide +kernel
theorem dC1_add_16 : decode cC1_add 16 = .ok (.if_icmp .lt 6, 3) := by decide +kernel
theorem dC1_add_19 : decode cC1_add 19 = .ok (.bipush (-2), 2) := by decide +kernel
theorem dC1_add_21 : decode cC1_add 21 = .ok (.ireturn, 1) := by decide +kernel
theorem dC1_add_22 : decode cC1_add 22 = .ok (.bipush 16, 2) := by decide +kernel
theorem dC1_add_24 : decode cC1_add 24 = .ok (.aload_n 0, 1) := by decide +kernel
theorem dC1_add_25 : decode cC1_add 25 = .ok (.getfield 32, 3) := by decide +kernel
theorem dC1_add_28 : decode cC1_add 28 = .ok (.iadd, 1) := by decide +kernel
theorem dC1_add_29 : decode cC1_add 29 = .ok (.istore_n 3, 1) := by decide +kernel
theorem dC1_add_30 : decode cC1_add 30 = .ok (.aload_n 0, 1) := by decide +kernel
theorem dC1_add_31 : decode cC1_add 31 = .ok (.getfield 21, 3) := by decide +kernel
theorem dC1_add_34 : decode cC1_add 34 = .ok (.iload_n 3, 1) := by decide +kernel
theorem dC1_add_35 : decode cC1_add 35 = .ok (.aload_n 0, 1) := by decide +kernel
theorem dC1_add_36 : decode cC1_add 36 = .ok (.getfield 21, 3) := by decide +kernel
theorem dC1_add_39 : decode cC1_add 39 = .ok (.iload_n 1, 1) := by decide +kernel
theorem dC1_add_40 : decode cC1_add 40 = .ok (.laload, 1) := by decide +kernel
theorem dC1_add_41 : decode cC1_add 41 = .ok (.lconst 1, 1) := by decide +kernel
theorem dC1_add_42 : decode cC1_add 42 = .ok (.iload_n 3, 1) := by decide +kernel
theorem dC1_add_43 : decode cC1_add 43 = .ok (.lshl, 1) := by decide +kernel
theorem dC1_add_44 : decode cC1_add 44 = .ok (.lor, 1) := by decide +kernel
theorem dC1_add_45 : decode cC1_add 45 = .ok (.lastore, 1) := by decide +kernel
theorem dC1_add_46 : decode cC1_add 46 = .ok (.aload_n 0, 1) := by decide +kernel
theorem dC1_add_47 : decode cC1_add 47 = .ok (.getfield 28, 3) := by decide +kernel
theorem dC1_add_50 : decode cC1_add 50 = .ok (.aload_n 0, 1) := by decide +kernel
theorem dC1_add_51 : decode cC1_add 51 = .ok (.getfield 32, 3) := by decide +kernel
theorem dC1_add_54 : decode cC1_add 54 = .ok (.iload_n 2, 1) := by decide +kernel
theorem dC1_add_55 : decode cC1_add 55 = .ok (.bastore, 1) := by decide +kernel
theorem dC1_add_56 : decode cC1_add 56 = .ok (.aload_n 0, 1) := by decide +kernel
theorem dC1_add_57 : decode cC1_add 57 = .ok (.dup, 1) := by decide +kernel
theorem dC1_add_58 : decode cC1_add 58 = .ok (.getfield 32, 3) := by decide +kernel
theorem dC1_add_61 : decode cC1_add 61 = .ok (.iconst 1, 1) := by decide +kernel
theorem dC1_add_62 : decode cC1_add 62 = .ok (.iadd, 1) := by decide +kernel
theorem dC1_add_63 : decode cC1_add 63 = .ok (.putfield 32, 3) := by decide +kernel
theorem dC1_add_66 : decode cC1_add 66 = .ok (.iload_n 3, 1) := by decide +kernel
theorem dC1_add_67 : decode cC1_add 67 = .ok (.ireturn, 1) := by decide +kernel
theorem dC1_isTold_0 : decode cC1_isTold 0 = .ok (.iload_n 1, 1) := by decide +kernel
theorem dC1_isTold_1 : decode cC1_isTold 1 = .ok (.bipush 16, 2) := by decide +kernel
theorem dC1_isTold_3 : decode cC1_isTold 3 = .ok (.if_icmp .lt 18, 3) := by decide +kernel
theorem dC1_isTold_6 : decode cC1_isTold 6 = .ok (.iload_n 1, 1) := by decide +kernel
theorem dC1_isTold_7 : decode cC1_isTold 7 = .ok (.bipush 16, 2) := by decide +kernel
theorem dC1_isTold_9 : decode cC1_isTold 9 = .ok (.aload_n 0, 1) := by decide +kernel
theorem dC1_isTold_10 : decode cC1_isTold 10 = .ok (.getfield 32, 3) := by decide +kernel
theorem dC1_isTold_13 : decode cC1_isTold 13 = .ok (.iadd, 1) := by decide +kernel
theorem dC1_isTold_14 : decode cC1_isTold 14 = .ok (.if_icmp .ge 7, 3) := by decide +kernel
theorem dC1_isTold_17 : decode cC1_isTold 17 = .ok (.iconst 1, 1) := by decide +kernel
theorem dC1_isTold_18 : decode cC1_isTold 18 = .ok (.goto 4, 3) := by decide +kernel
theorem dC1_isTold_21 : decode cC1_isTold 21 = .ok (.iconst 0, 1) := by decide +kernel
theorem dC1_isTold_22 : decode cC1_isTold 22 = .ok (.ireturn, 1) := by decide +kernel
theorem dC1_isInterface_0 : decode cC1_isInterface 0 = .ok (.aload_n 0, 1) := by decide +kernel
theorem dC1_isInterface_1 : decode cC1_isInterface 1 = .ok (.iload_n 1, 1) := by decide +kernel
theorem dC1_isInterface_2 : decode cC1_isInterface 2 = .ok (.invokevirtual 36, 3) := by decide +kernel
theorem dC1_isInterface_5 : decode cC1_isInterface 5 = .ok (.ifCond .eq 19, 3) := by decide +kernel
theorem dC1_isInterface_8 : decode cC1_isInterface 8 = .ok (.aload_n 0, 1) := by decide +kernel
theorem dC1_isInterface_9 : decode cC1_isInterface 9 = .ok (.getfield 28, 3) := by decide +kernel
theorem dC1_isInterface_12 : decode cC1_isInterface 12 = .ok (.iload_n 1, 1) := by decide +kernel
theorem dC1_isInterface_13 : decode cC1_isInterface 13 = .ok (.bipush 16, 2) := by decide +kernel
theorem dC1_isInterface_15 : decode cC1_isInterface 15 = .ok (.isub, 1) := by decide +kernel
theorem dC1_isInterface_16 : decode cC1_isInterface 16 = .ok (.baload, 1) := by decide +kernel
theorem dC1_isInterface_17 : decode cC1_isInterface 17 = .ok (.ifCond .eq 7, 3) := by decide +kernel
theorem dC1_isInterface_20 : decode cC1_isInterface 20 = .ok (.iconst 1, 1) := by decide +kernel
theorem dC1_isInterface_21 : decode cC1_isInterface 21 = .ok (.goto 4, 3) := by decide +kernel
theorem dC1_isInterface_24 : decode cC1_isInterface 24 = .ok (.iconst 0, 1) := by decide +kernel
theorem dC1_isInterface_25 : decode cC1_isInterface 25 = .ok (.ireturn, 1) := by decide +kernel
theorem dC0_cls_0 : decode cC0_cls 0 = .ok (.iload_n 1, 1) := by decide +kernel
theorem dC0_cls_1 : decode cC0_cls 1 = .ok (.bipush 8, 2) := by decide +kernel
theorem dC0_cls_3 : decode cC0_cls 3 = .ok (.if_icmp .eq 25, 3) := by decide +kernel
theorem dC0_cls_6 : decode cC0_cls 6 = .ok (.aload_n 0, 1) := by decide +kernel
theorem dC0_cls_7 : decode cC0_cls 7 = .ok (.getfield 10, 3) := by decide +kernel
theorem dC0_cls_10 : decode cC0_cls 10 = .ok (.iload_n 1, 1) := by decide +kernel
theorem dC0_cls_11 : decode cC0_cls 11 = .ok (.invokevirtual 45, 3) := by decide +kernel
theorem dC0_cls_14 : decode cC0_cls 14 = .ok (.ifCond .eq 18, 3) := by decide +kernel
theorem dC0_cls_17 : decode cC0_cls 17 = .ok (.aload_n 0, 1) := by decide +kernel
theorem dC0_cls_18 : decode cC0_cls 18 = .ok (.getfield 10, 3) := by decide +kernel
theorem dC0_cls_21 : decode cC0_cls 21 = .ok (.iload_n 1, 1) := by decide +kernel
theorem dC0_cls_22 : decode cC0_cls 22 = .ok (.invokevirtual 49, 3) := by decide +kernel
theorem dC0_cls_25 : decode cC0_cls 25 = .ok (.ifCond .ne 7, 3) := by decide +kernel
theorem dC0_cls_28 : decode cC0_cls 28 = .ok (.iconst 1, 1) := by decide +kernel
theorem dC0_cls_29 : decode cC0_cls 29 = .ok (.goto 4, 3) := by decide +kernel
theorem dC0_cls_32 : decode cC0_cls 32 = .ok (.iconst 0, 1) := by decide +kernel
theorem dC0_cls_33 : decode cC0_cls 33 = .ok (.istore_n 2, 1) := by decide +kernel
theorem dC0_cls_34 : decode cC0_cls 34 = .ok (.iload_n 2, 1) := by decide +kernel
theorem dC0_cls_35 : decode cC0_cls 35 = .ok (.ifCond .eq 15, 3) := by decide +kernel
theorem dC0_cls_38 : decode cC0_cls 38 = .ok (.aload_n 0, 1) := by decide +kernel
theorem dC0_cls_39 : decode cC0_cls 39 = .ok (.getfield 10, 3) := by decide +kernel
theorem dC0_cls_42 : decode cC0_cls 42 = .ok (.iload_n 1, 1) := by decide +kernel
theorem dC0_cls_43 : decode cC0_cls 43 = .ok (.iconst 0, 1) := by decide +kernel
theorem dC0_cls_44 : decode cC0_cls 44 = .ok (.invokevirtual 52, 3) := by decide +kernel
theorem dC0_cls_47 : decode cC0_cls 47 = .ok (.goto 5, 3) := by decide +kernel
theorem dC0_cls_50 : decode cC0_cls 50 = .ok (.bipush (-2), 2) := by decide +kernel
theorem dC0_cls_52 : decode cC0_cls 52 = .ok (.ireturn, 1) := by decide +kernel
theorem dC0_face_0 : decode cC0_face 0 = .ok (.aload_n 0, 1) := by decide +kernel
theorem dC0_face_1 : decode cC0_face 1 = .ok (.getfield 10, 3) := by decide +kernel
theorem dC0_face_4 : decode cC0_face 4 = .ok (.bipush 8, 2) := by decide +kernel
theorem dC0_face_6 : decode cC0_face 6 = .ok (.iconst 1, 1) := by decide +kernel
theorem dC0_face_7 : decode cC0_face 7 = .ok (.invokevirtual 52, 3) := by decide +kernel
theorem dC0_face_10 : decode cC0_face 10 = .ok (.ireturn, 1) := by decide +kernel
theorem dJI_bitCount_0 : decode cJI_bitCount 0 = .ok (.iload_n 0, 1) := by decide +kernel
theorem dJI_bitCount_1 : decode cJI_bitCount 1 = .ok (.iload_n 0, 1) := by decide +kernel
theorem dJI_bitCount_2 : decode cJI_bitCount 2 = .ok (.iconst 1, 1) := by decide +kernel
theorem dJI_bitCount_3 : decode cJI_bitCount 3 = .ok (.iushr, 1) := by decide +kernel
theorem dJI_bitCount_4 : decode cJI_bitCount 4 = .ok (.ldc_w 265, 3) := by decide +kernel
theorem dJI_bitCount_7 : decode cJI_bitCount 7 = .ok (.iand, 1) := by decide +kernel
theorem dJI_bitCount_8 : decode cJI_bitCount 8 = .ok (.isub, 1) := by decide +kernel
theorem dJI_bitCount_9 : decode cJI_bitCount 9 = .ok (.istore_n 0, 1) := by decide +kernel
theorem dJI_bitCount_10 : decode cJI_bitCount 10 = .ok (.iload_n 0, 1) := by decide +kernel
theorem dJI_bitCount_11 : decode cJI_bitCount 11 = .ok (.ldc_w 266, 3) := by decide +kernel
theorem dJI_bitCount_14 : decode cJI_bitCount 14 = .ok (.iand, 1) := by decide +kernel
theorem dJI_bitCount_15 : decode cJI_bitCount 15 = .ok (.iload_n 0, 1) := by decide +kernel
theorem dJI_bitCount_16 : decode cJI_bitCount 16 = .ok (.iconst 2, 1) := by decide +kernel
theorem dJI_bitCount_17 : decode cJI_bitCount 17 = .ok (.iushr, 1) := by decide +kernel
theorem dJI_bitCount_18 : decode cJI_bitCount 18 = .ok (.ldc_w 266, 3) := by decide +kernel
theorem dJI_bitCount_21 : decode cJI_bitCount 21 = .ok (.iand, 1) := by decide +kernel
theorem dJI_bitCount_22 : decode cJI_bitCount 22 = .ok (.iadd, 1) := by decide +kernel
theorem dJI_bitCount_23 : decode cJI_bitCount 23 = .ok (.istore_n 0, 1) := by decide +kernel
theorem dJI_bitCount_24 : decode cJI_bitCount 24 = .ok (.iload_n 0, 1) := by decide +kernel
theorem dJI_bitCount_25 : decode cJI_bitCount 25 = .ok (.iload_n 0, 1) := by decide +kernel
theorem dJI_bitCount_26 : decode cJI_bitCount 26 = .ok (.iconst 4, 1) := by decide +kernel
theorem dJI_bitCount_27 : decode cJI_bitCount 27 = .ok (.iushr, 1) := by decide +kernel
theorem dJI_bitCount_28 : decode cJI_bitCount 28 = .ok (.iadd, 1) := by decide +kernel
theorem dJI_bitCount_29 : decode cJI_bitCount 29 = .ok (.ldc_w 267, 3) := by decide +kernel
theorem dJI_bitCount_32 : decode cJI_bitCount 32 = .ok (.iand, 1) := by decide +kernel
theorem dJI_bitCount_33 : decode cJI_bitCount 33 = .ok (.istore_n 0, 1) := by decide +kernel
theorem dJI_bitCount_34 : decode cJI_bitCount 34 = .ok (.iload_n 0, 1) := by decide +kernel
theorem dJI_bitCount_35 : decode cJI_bitCount 35 = .ok (.iload_n 0, 1) := by decide +kernel
theorem dJI_bitCount_36 : decode cJI_bitCount 36 = .ok (.bipush 8, 2) := by decide +kernel
theorem dJI_bitCount_38 : decode cJI_bitCount 38 = .ok (.iushr, 1) := by decide +kernel
theorem dJI_bitCount_39 : decode cJI_bitCount 39 = .ok (.iadd, 1) := by decide +kernel
theorem dJI_bitCount_40 : decode cJI_bitCount 40 = .ok (.istore_n 0, 1) := by decide +kernel
theorem dJI_bitCount_41 : decode cJI_bitCount 41 = .ok (.iload_n 0, 1) := by decide +kernel
theorem dJI_bitCount_42 : decode cJI_bitCount 42 = .ok (.iload_n 0, 1) := by decide +kernel
theorem dJI_bitCount_43 : decode cJI_bitCount 43 = .ok (.bipush 16, 2) := by decide +kernel
theorem dJI_bitCount_45 : decode cJI_bitCount 45 = .ok (.iushr, 1) := by decide +kernel
theorem dJI_bitCount_46 : decode cJI_bitCount 46 = .ok (.iadd, 1) := by decide +kernel
theorem dJI_bitCount_47 : decode cJI_bitCount 47 = .ok (.istore_n 0, 1) := by decide +kernel
theorem dJI_bitCount_48 : decode cJI_bitCount 48 = .ok (.iload_n 0, 1) := by decide +kernel
theorem dJI_bitCount_49 : decode cJI_bitCount 49 = .ok (.bipush 63, 2) := by decide +kernel
theorem dJI_bitCount_51 : decode cJI_bitCount 51 = .ok (.iand, 1) := by decide +kernel
theorem dJI_bitCount_52 : decode cJI_bitCount 52 = .ok (.ireturn, 1) := by decide +kernel
theorem dC1_isA_0 : decode cC1_isA 0 = .ok (.iload_n 1, 1) := by decide +kernel
theorem dC1_isA_1 : decode cC1_isA 1 = .ok (.iload_n 2, 1) := by decide +kernel
theorem dC1_isA_2 : decode cC1_isA 2 = .ok (.if_icmp .ne 5, 3) := by decide +kernel
theorem dC1_isA_5 : decode cC1_isA 5 = .ok (.iconst 1, 1) := by decide +kernel
theorem dC1_isA_6 : decode cC1_isA 6 = .ok (.ireturn, 1) := by decide +kernel
theorem dC1_isA_7 : decode cC1_isA 7 = .ok (.iload_n 1, 1) := by decide +kernel
theorem dC1_isA_8 : decode cC1_isA 8 = .ok (.bipush 64, 2) := by decide +kernel
theorem dC1_isA_10 : decode cC1_isA 10 = .ok (.if_icmp .lt 7, 3) := by decide +kernel
theorem dC1_isA_13 : decode cC1_isA 13 = .ok (.iconst 1, 1) := by decide +kernel
theorem dC1_isA_14 : decode cC1_isA 14 = .ok (.goto 4, 3) := by decide +kernel
theorem dC1_isA_17 : decode cC1_isA 17 = .ok (.iconst 0, 1) := by decide +kernel
theorem dC1_isA_18 : decode cC1_isA 18 = .ok (.istore_n 3, 1) := by decide +kernel
theorem dC1_isA_19 : decode cC1_isA 19 = .ok (.iload_n 3, 1) := by decide +kernel
theorem dC1_isA_20 : decode cC1_isA 20 = .ok (.iload_n 2, 1) := by decide +kernel
theorem dC1_isA_21 : decode cC1_isA 21 = .ok (.bipush 64, 2) := by decide +kernel
theorem dC1_isA_23 : decode cC1_isA 23 = .ok (.if_icmp .lt 7, 3) := by decide +kernel
theorem dC1_isA_26 : decode cC1_isA 26 = .ok (.iconst 1, 1) := by decide +kernel
theorem dC1_isA_27 : decode cC1_isA 27 = .ok (.goto 4, 3) := by decide +kernel
theorem dC1_isA_30 : decode cC1_isA 30 = .ok (.iconst 0, 1) := by decide +kernel
theorem dC1_isA_31 : decode cC1_isA 31 = .ok (.if_icmp .eq 33, 3) := by decide +kernel
theorem dC1_isA_34 : decode cC1_isA 34 = .ok (.iload_n 3, 1) := by decide +kernel
theorem dC1_isA_35 : decode cC1_isA 35 = .ok (.ifCond .eq 17, 3) := by decide +kernel
theorem dC1_isA_38 : decode cC1_isA 38 = .ok (.iload_n 2, 1) := by decide +kernel
theorem dC1_isA_39 : decode cC1_isA 39 = .ok (.bipush 8, 2) := by decide +kernel
theorem dC1_isA_41 : decode cC1_isA 41 = .ok (.if_icmp .ne 7, 3) := by decide +kernel
theorem dC1_isA_44 : decode cC1_isA 44 = .ok (.iconst 1, 1) := by decide +kernel
theorem dC1_isA_45 : decode cC1_isA 45 = .ok (.goto 18, 3) := by decide +kernel
theorem dC1_isA_48 : decode cC1_isA 48 = .ok (.iconst 0, 1) := by decide +kernel
theorem dC1_isA_49 : decode cC1_isA 49 = .ok (.goto 14, 3) := by decide +kernel
theorem dC1_isA_52 : decode cC1_isA 52 = .ok (.iload_n 1, 1) := by decide +kernel
theorem dC1_isA_53 : decode cC1_isA 53 = .ok (.bipush 10, 2) := by decide +kernel
theorem dC1_isA_55 : decode cC1_isA 55 = .ok (.if_icmp .ne 7, 3) := by decide +kernel
theorem dC1_isA_58 : decode cC1_isA 58 = .ok (.iconst 1, 1) := by decide +kernel
theorem dC1_isA_59 : decode cC1_isA 59 = .ok (.goto 4, 3) := by decide +kernel
theorem dC1_isA_62 : decode cC1_isA 62 = .ok (.iconst 0, 1) := by decide +kernel
theorem dC1_isA_63 : decode cC1_isA 63 = .ok (.ireturn, 1) := by decide +kernel
theorem dC1_isA_64 : decode cC1_isA 64 = .ok (.iload_n 3, 1) := by decide +kernel
theorem dC1_isA_65 : decode cC1_isA 65 = .ok (.ifCond .eq 10, 3) := by decide +kernel
theorem dC1_isA_68 : decode cC1_isA 68 = .ok (.iload_n 1, 1) := by decide +kernel
theorem dC1_isA_69 : decode cC1_isA 69 = .ok (.bipush 64, 2) := by decide +kernel
theorem dC1_isA_71 : decode cC1_isA 71 = .ok (.isub, 1) := by decide +kernel
theorem dC1_isA_72 : decode cC1_isA 72 = .ok (.goto 4, 3) := by decide +kernel
theorem dC1_isA_75 : decode cC1_isA 75 = .ok (.iload_n 1, 1) := by decide +kernel
theorem dC1_isA_76 : decode cC1_isA 76 = .ok (.istore 4, 2) := by decide +kernel
theorem dC1_isA_78 : decode cC1_isA 78 = .ok (.iload_n 3, 1) := by decide +kernel
theorem dC1_isA_79 : decode cC1_isA 79 = .ok (.ifCond .eq 10, 3) := by decide +kernel
theorem dC1_isA_82 : decode cC1_isA 82 = .ok (.iload_n 2, 1) := by decide +kernel
theorem dC1_isA_83 : decode cC1_isA 83 = .ok (.bipush 64, 2) := by decide +kernel
theorem dC1_isA_85 : decode cC1_isA 85 = .ok (.isub, 1) := by decide +kernel
theorem dC1_isA_86 : decode cC1_isA 86 = .ok (.goto 4, 3) := by decide +kernel
theorem dC1_isA_89 : decode cC1_isA 89 = .ok (.iload_n 2, 1) := by decide +kernel
theorem dC1_isA_90 : decode cC1_isA 90 = .ok (.istore 5, 2) := by decide +kernel
theorem dC1_isA_92 : decode cC1_isA 92 = .ok (.iload_n 3, 1) := by decide +kernel
theorem dC1_isA_93 : decode cC1_isA 93 = .ok (.ifCond .eq 11, 3) := by decide +kernel
theorem dC1_isA_96 : decode cC1_isA 96 = .ok (.iload 4, 2) := by decide +kernel
theorem dC1_isA_98 : decode cC1_isA 98 = .ok (.iconst 3, 1) := by decide +kernel
theorem dC1_isA_99 : decode cC1_isA 99 = .ok (.if_icmp .gt 5, 3) := by decide +kernel
theorem dC1_isA_102 : decode cC1_isA 102 = .ok (.iconst 0, 1) := by decide +kernel
theorem dC1_isA_103 : decode cC1_isA 103 = .ok (.ireturn, 1) := by decide +kernel
theorem dC1_isA_104 : decode cC1_isA 104 = .ok (.iload 4, 2) := by decide +kernel
theorem dC1_isA_106 : decode cC1_isA 106 = .ok (.ifCond .lt 43, 3) := by decide +kernel
theorem dC1_isA_109 : decode cC1_isA 109 = .ok (.iload 4, 2) := by decide +kernel
theorem dC1_isA_111 : decode cC1_isA 111 = .ok (.bipush 40, 2) := by decide +kernel
theorem dC1_isA_113 : decode cC1_isA 113 = .ok (.if_icmp .ge 36, 3) := by decide +kernel
theorem dC1_isA_116 : decode cC1_isA 116 = .ok (.iload 5, 2) := by decide +kernel
theorem dC1_isA_118 : decode cC1_isA 118 = .ok (.ifCond .lt 31, 3) := by decide +kernel
theorem dC1_isA_121 : decode cC1_isA 121 = .ok (.iload 5, 2) := by decide +kernel
theorem dC1_isA_123 : decode cC1_isA 123 = .ok (.bipush 40, 2) := by decide +kernel
theorem dC1_isA_125 : decode cC1_isA 125 = .ok (.if_icmp .ge 24, 3) := by decide +kernel
theorem dC1_isA_128 : decode cC1_isA 128 = .ok (.aload_n 0, 1) := by decide +kernel
theorem dC1_isA_129 : decode cC1_isA 129 = .ok (.getfield 21, 3) := by decide +kernel
theorem dC1_isA_132 : decode cC1_isA 132 = .ok (.iload 4, 2) := by decide +kernel
theorem dC1_isA_134 : decode cC1_isA 134 = .ok (.laload, 1) := by decide +kernel
theorem dC1_isA_135 : decode cC1_isA 135 = .ok (.iload 5, 2) := by decide +kernel
theorem dC1_isA_137 : decode cC1_isA 137 = .ok (.lushr, 1) := by decide +kernel
theorem dC1_isA_138 : decode cC1_isA 138 = .ok (.lconst 1, 1) := by decide +kernel
theorem dC1_isA_139 : decode cC1_isA 139 = .ok (.land, 1) := by decide +kernel
theorem dC1_isA_140 : decode cC1_isA 140 = .ok (.lconst 0, 1) := by decide +kernel
theorem dC1_isA_141 : decode cC1_isA 141 = .ok (.lcmp, 1) := by decide +kernel
theorem dC1_isA_142 : decode cC1_isA 142 = .ok (.ifCond .eq 7, 3) := by decide +kernel
theorem dC1_isA_145 : decode cC1_isA 145 = .ok (.iconst 1, 1) := by decide +kernel
theorem dC1_isA_146 : decode cC1_isA 146 = .ok (.goto 4, 3) := by decide +kernel
theorem dC1_isA_149 : decode cC1_isA 149 = .ok (.iconst 0, 1) := by decide +kernel
theorem dC1_isA_150 : decode cC1_isA 150 = .ok (.ireturn, 1) := by decide +kernel
theorem dC1_putBelow_0 : decode cC1_putBelow 0 = .ok (.aload_n 0, 1) := by decide +kernel
theorem dC1_putBelow_1 : decode cC1_putBelow 1 = .ok (.iload_n 1, 1) := by decide +kernel
theorem dC1_putBelow_2 : decode cC1_putBelow 2 = .ok (.invokevirtual 36, 3) := by decide +kernel
theorem dC1_putBelow_5 : decode cC1_putBelow 5 = .ok (.ifCond .eq 11, 3) := by decide +kernel
theorem dC1_putBelow_8 : decode cC1_putBelow 8 = .ok (.aload_n 0, 1) := by decide +kernel
theorem dC1_putBelow_9 : decode cC1_putBelow 9 = .ok (.iload_n 2, 1) := by decide +kernel
theorem dC1_putBelow_10 : decode cC1_putBelow 10 = .ok (.invokevirtual 49, 3) := by decide +kernel
theorem dC1_putBelow_13 : decode cC1_putBelow 13 = .ok (.ifCond .ne 6, 3) := by decide +kernel
theorem dC1_putBelow_16 : decode cC1_putBelow 16 = .ok (.bipush (-2), 2) := by decide +kernel
theorem dC1_putBelow_18 : decode cC1_putBelow 18 = .ok (.ireturn, 1) := by decide +kernel
theorem dC1_putBelow_19 : decode cC1_putBelow 19 = .ok (.iload_n 1, 1) := by decide +kernel
theorem dC1_putBelow_20 : decode cC1_putBelow 20 = .ok (.bipush 16, 2) := by decide +kernel
theorem dC1_putBelow_22 : decode cC1_putBelow 22 = .ok (.isub, 1) := by decide +kernel
theorem dC1_putBelow_23 : decode cC1_putBelow 23 = .ok (.istore_n 3, 1) := by decide +kernel
theorem dC1_putBelow_24 : decode cC1_putBelow 24 = .ok (.iconst 1, 1) := by decide +kernel
theorem dC1_putBelow_25 : decode cC1_putBelow 25 = .ok (.iload_n 2, 1) := by decide +kernel
theorem dC1_putBelow_26 : decode cC1_putBelow 26 = .ok (.bipush 16, 2) := by decide +kernel
theorem dC1_putBelow_28 : decode cC1_putBelow 28 = .ok (.isub, 1) := by decide +kernel
theorem dC1_putBelow_29 : decode cC1_putBelow 29 = .ok (.ishl, 1) := by decide +kernel
theorem dC1_putBelow_30 : decode cC1_putBelow 30 = .ok (.istore 4, 2) := by decide +kernel
theorem dC1_putBelow_32 : decode cC1_putBelow 32 = .ok (.aload_n 0, 1) := by decide +kernel
theorem dC1_putBelow_33 : decode cC1_putBelow 33 = .ok (.getfield 24, 3) := by decide +kernel
theorem dC1_putBelow_36 : decode cC1_putBelow 36 = .ok (.iload_n 3, 1) := by decide +kernel
theorem dC1_putBelow_37 : decode cC1_putBelow 37 = .ok (.iaload, 1) := by decide +kernel
theorem dC1_putBelow_38 : decode cC1_putBelow 38 = .ok (.invokestatic 52, 3) := by decide +kernel
theorem dC1_putBelow_41 : decode cC1_putBelow 41 = .ok (.iconst 4, 1) := by decide +kernel
theorem dC1_putBelow_42 : decode cC1_putBelow 42 = .ok (.if_icmp .lt 7, 3) := by decide +kernel
theorem dC1_putBelow_45 : decode cC1_putBelow 45 = .ok (.iconst 1, 1) := by decide +kernel
theorem dC1_putBelow_46 : decode cC1_putBelow 46 = .ok (.goto 4, 3) := by decide +kernel
theorem dC1_putBelow_49 : decode cC1_putBelow 49 = .ok (.iconst 0, 1) := by decide +kernel
theorem dC1_putBelow_50 : decode cC1_putBelow 50 = .ok (.istore 5, 2) := by decide +kernel
theorem dC1_putBelow_52 : decode cC1_putBelow 52 = .ok (.iload 5, 2) := by decide +kernel
theorem dC1_putBelow_54 : decode cC1_putBelow 54 = .ok (.ifCond .ne 24, 3) := by decide +kernel
theorem dC1_putBelow_57 : decode cC1_putBelow 57 = .ok (.aload_n 0, 1) := by decide +kernel
theorem dC1_putBelow_58 : decode cC1_putBelow 58 = .ok (.getfield 24, 3) := by decide +kernel
theorem dC1_putBelow_61 : decode cC1_putBelow 61 = .ok (.iload_n 3, 1) := by decide +kernel
theorem dC1_putBelow_62 : decode cC1_putBelow 62 = .ok (.iaload, 1) := by decide +kernel
theorem dC1_putBelow_63 : decode cC1_putBelow 63 = .ok (.iload 4, 2) := by decide +kernel
theorem dC1_putBelow_65 : decode cC1_putBelow 65 = .ok (.iand, 1) := by decide +kernel
theorem dC1_putBelow_66 : decode cC1_putBelow 66 = .ok (.ifCond .ne 12, 3) := by decide +kernel
theorem dC1_putBelow_69 : decode cC1_putBelow 69 = .ok (.aload_n 0, 1) := by decide +kernel
theorem dC1_putBelow_70 : decode cC1_putBelow 70 = .ok (.iload_n 2, 1) := by decide +kernel
theorem dC1_putBelow_71 : decode cC1_putBelow 71 = .ok (.iload_n 1, 1) := by decide +kernel
theorem dC1_putBelow_72 : decode cC1_putBelow 72 = .ok (.invokevirtual 58, 3) := by decide +kernel
theorem dC1_putBelow_75 : decode cC1_putBelow 75 = .ok (.ifCond .eq 6, 3) := by decide +kernel
theorem dC1_putBelow_78 : decode cC1_putBelow 78 = .ok (.bipush (-2), 2) := by decide +kernel
theorem dC1_putBelow_80 : decode cC1_putBelow 80 = .ok (.ireturn, 1) := by decide +kernel
theorem dC1_putBelow_81 : decode cC1_putBelow 81 = .ok (.aload_n 0, 1) := by decide +kernel
theorem dC1_putBelow_82 : decode cC1_putBelow 82 = .ok (.getfield 24, 3) := by decide +kernel
theorem dC1_putBelow_85 : decode cC1_putBelow 85 = .ok (.iload_n 3, 1) := by decide +kernel
theorem dC1_putBelow_86 : decode cC1_putBelow 86 = .ok (.dup2, 1) := by decide +kernel
theorem dC1_putBelow_87 : decode cC1_putBelow 87 = .ok (.iaload, 1) := by decide +kernel
theorem dC1_putBelow_88 : decode cC1_putBelow 88 = .ok (.iload 4, 2) := by decide +kernel
theorem dC1_putBelow_90 : decode cC1_putBelow 90 = .ok (.ior, 1) := by decide +kernel
theorem dC1_putBelow_91 : decode cC1_putBelow 91 = .ok (.iastore, 1) := by decide +kernel
theorem dC1_putBelow_92 : decode cC1_putBelow 92 = .ok (.bipush 16, 2) := by decide +kernel
theorem dC1_putBelow_94 : decode cC1_putBelow 94 = .ok (.istore 6, 2) := by decide +kernel
theorem dC1_putBelow_96 : decode cC1_putBelow 96 = .ok (.iload 6, 2) := by decide +kernel
theorem dC1_putBelow_98 : decode cC1_putBelow 98 = .ok (.bipush 16, 2) := by decide +kernel
theorem dC1_putBelow_100 : decode cC1_putBelow 100 = .ok (.aload_n 0, 1) := by decide +kernel
theorem dC1_putBelow_101 : decode cC1_putBelow 101 = .ok (.getfield 32, 3) := by decide +kernel
theorem dC1_putBelow_104 : decode cC1_putBelow 104 = .ok (.iadd, 1) := by decide +kernel
theorem dC1_putBelow_105 : decode cC1_putBelow 105 = .ok (.if_icmp .ge 35, 3) := by decide +kernel
theorem dC1_putBelow_108 : decode cC1_putBelow 108 = .ok (.aload_n 0, 1) := by decide +kernel
theorem dC1_putBelow_109 : decode cC1_putBelow 109 = .ok (.iload 6, 2) := by decide +kernel
theorem dC1_putBelow_111 : decode cC1_putBelow 111 = .ok (.iload_n 1, 1) := by decide +kernel
theorem dC1_putBelow_112 : decode cC1_putBelow 112 = .ok (.invokevirtual 58, 3) := by decide +kernel
theorem dC1_putBelow_115 : decode cC1_putBelow 115 = .ok (.ifCond .eq 19, 3) := by decide +kernel
theorem dC1_putBelow_118 : decode cC1_putBelow 118 = .ok (.aload_n 0, 1) := by decide +kernel
theorem dC1_putBelow_119 : decode cC1_putBelow 119 = .ok (.getfield 21, 3) := by decide +kernel
theorem dC1_putBelow_122 : decode cC1_putBelow 122 = .ok (.iload 6, 2) := by decide +kernel
theorem dC1_putBelow_124 : decode cC1_putBelow 124 = .ok (.dup2, 1) := by decide +kernel
theorem dC1_putBelow_125 : decode cC1_putBelow 125 = .ok (.laload, 1) := by decide +kernel
theorem dC1_putBelow_126 : decode cC1_putBelow 126 = .ok (.aload_n 0, 1) := by decide +kernel
theorem dC1_putBelow_127 : decode cC1_putBelow 127 = .ok (.getfield 21, 3) := by decide +kernel
theorem dC1_putBelow_130 : decode cC1_putBelow 130 = .ok (.iload_n 2, 1) := by decide +kernel
theorem dC1_putBelow_131 : decode cC1_putBelow 131 = .ok (.laload, 1) := by decide +kernel
theorem dC1_putBelow_132 : decode cC1_putBelow 132 = .ok (.lor, 1) := by decide +kernel
theorem dC1_putBelow_133 : decode cC1_putBelow 133 = .ok (.lastore, 1) := by decide +kernel
theorem dC1_putBelow_134 : decode cC1_putBelow 134 = .ok (.iinc 6 1, 3) := by decide +kernel
theorem dC1_putBelow_137 : decode cC1_putBelow 137 = .ok (.goto (-41), 3) := by decide +kernel
theorem dC1_putBelow_140 : decode cC1_putBelow 140 = .ok (.aload_n 0, 1) := by decide +kernel
theorem dC1_putBelow_141 : decode cC1_putBelow 141 = .ok (.getfield 24, 3) := by decide +kernel
theorem dC1_putBelow_144 : decode cC1_putBelow 144 = .ok (.iload_n 3, 1) := by decide +kernel
theorem dC1_putBelow_145 : decode cC1_putBelow 145 = .ok (.iaload, 1) := by decide +kernel
theorem dC1_putBelow_146 : decode cC1_putBelow 146 = .ok (.invokestatic 52, 3) := by decide +kernel
theorem dC1_putBelow_149 : decode cC1_putBelow 149 = .ok (.ireturn, 1) := by decide +kernel
theorem dC2_forgetFunctions_0 : decode cC2_forgetFunctions 0 = .ok (.aload_n 0, 1) := by decide +kernel
theorem dC2_forgetFunctions_1 : decode cC2_forgetFunctions 1 = .ok (.iconst 0, 1) := by decide +kernel
theorem dC2_forgetFunctions_2 : decode cC2_forgetFunctions 2 = .ok (.putfield 121, 3) := by decide +kernel
theorem dC2_forgetFunctions_5 : decode cC2_forgetFunctions 5 = .ok (.return_, 1) := by decide +kernel
theorem dC0_below_0 : decode cC0_below 0 = .ok (.aload_n 0, 1) := by decide +kernel
theorem dC0_below_1 : decode cC0_below 1 = .ok (.getfield 10, 3) := by decide +kernel
theorem dC0_below_4 : decode cC0_below 4 = .ok (.iload_n 1, 1) := by decide +kernel
theorem dC0_below_5 : decode cC0_below 5 = .ok (.iload_n 2, 1) := by decide +kernel
theorem dC0_below_6 : decode cC0_below 6 = .ok (.invokevirtual 56, 3) := by decide +kernel
theorem dC0_below_9 : decode cC0_below 9 = .ok (.istore_n 3, 1) := by decide +kernel
theorem dC0_below_10 : decode cC0_below 10 = .ok (.iload_n 3, 1) := by decide +kernel
theorem dC0_below_11 : decode cC0_below 11 = .ok (.bipush (-2), 2) := by decide +kernel
theorem dC0_below_13 : decode cC0_below 13 = .ok (.if_icmp .eq 10, 3) := by decide +kernel
theorem dC0_below_16 : decode cC0_below 16 = .ok (.aload_n 0, 1) := by decide +kernel
theorem dC0_below_17 : decode cC0_below 17 = .ok (.getfield 21, 3) := by decide +kernel
theorem dC0_below_20 : decode cC0_below 20 = .ok (.invokevirtual 60, 3) := by decide +kernel
theorem dC0_below_23 : decode cC0_below 23 = .ok (.iload_n 3, 1) := by decide +kernel
theorem dC0_below_24 : decode cC0_below 24 = .ok (.ireturn, 1) := by decide +kernel
theorem dC2_draftHead_0 : decode cC2_draftHead 0 = .ok (.aload_n 0, 1) := by decide +kernel
theorem dC2_draftHead_1 : decode cC2_draftHead 1 = .ok (.getfield 15, 3) := by decide +kernel
theorem dC2_draftHead_4 : decode cC2_draftHead 4 = .ok (.aload_n 0, 1) := by decide +kernel
theorem dC2_draftHead_5 : decode cC2_draftHead 5 = .ok (.getfield 45, 3) := by decide +kernel
theorem dC2_draftHead_8 : decode cC2_draftHead 8 = .ok (.iload_n 1, 1) := by decide +kernel
theorem dC2_draftHead_9 : decode cC2_draftHead 9 = .ok (.iastore, 1) := by decide +kernel
theorem dC2_draftHead_10 : decode cC2_draftHead 10 = .ok (.aload_n 0, 1) := by decide +kernel
theorem dC2_draftHead_11 : decode cC2_draftHead 11 = .ok (.getfield 19, 3) := by decide +kernel
theorem dC2_draftHead_14 : decode cC2_draftHead 14 = .ok (.aload_n 0, 1) := by decide +kernel
theorem dC2_draftHead_15 : decode cC2_draftHead 15 = .ok (.getfield 45, 3) := by decide +kernel
theorem dC2_draftHead_18 : decode cC2_draftHead 18 = .ok (.iload_n 2, 1) := by decide +kernel
theorem dC2_draftHead_19 : decode cC2_draftHead 19 = .ok (.iastore, 1) := by decide +kernel
theorem dC2_draftHead_20 : decode cC2_draftHead 20 = .ok (.aload_n 0, 1) := by decide +kernel
theorem dC2_draftHead_21 : decode cC2_draftHead 21 = .ok (.getfield 22, 3) := by decide +kernel
theorem dC2_draftHead_24 : decode cC2_draftHead 24 = .ok (.aload_n 0, 1) := by decide +kernel
theorem dC2_draftHead_25 : decode cC2_draftHead 25 = .ok (.getfield 45, 3) := by decide +kernel
theorem dC2_draftHead_28 : decode cC2_draftHead 28 = .ok (.iload_n 3, 1) := by decide +kernel
theorem dC2_draftHead_29 : decode cC2_draftHead 29 = .ok (.iastore, 1) := by decide +kernel
theorem dC2_draftHead_30 : decode cC2_draftHead 30 = .ok (.aload_n 0, 1) := by decide +kernel
theorem dC2_draftHead_31 : decode cC2_draftHead 31 = .ok (.getfield 25, 3) := by decide +kernel
theorem dC2_draftHead_34 : decode cC2_draftHead 34 = .ok (.aload_n 0, 1) := by decide +kernel
theorem dC2_draftHead_35 : decode cC2_draftHead 35 = .ok (.getfield 45, 3) := by decide +kernel
theorem dC2_draftHead_38 : decode cC2_draftHead 38 = .ok (.iload 4, 2) := by decide +kernel
theorem dC2_draftHead_40 : decode cC2_draftHead 40 = .ok (.iastore, 1) := by decide +kernel
theorem dC2_draftHead_41 : decode cC2_draftHead 41 = .ok (.return_, 1) := by decide +kernel
theorem dC2_draftParameters_0 : decode cC2_draftParameters 0 = .ok (.aload_n 0, 1) := by decide +kernel
theorem dC2_draftParameters_1 : decode cC2_draftParameters 1 = .ok (.getfield 45, 3) := by decide +kernel
theorem dC2_draftParameters_4 : decode cC2_draftParameters 4 = .ok (.iconst 4, 1) := by decide +kernel
theorem dC2_draftParameters_5 : decode cC2_draftParameters 5 = .ok (.imul, 1) := by decide +kernel
theorem dC2_draftParameters_6 : decode cC2_draftParameters 6 = .ok (.istore 6, 2) := by decide +kernel
theorem dC2_draftParameters_8 : decode cC2_draftParameters 8 = .ok (.aload_n 0, 1) := by decide +kernel
theorem dC2_draftParameters_9 : decode cC2_draftParameters 9 = .ok (.getfield 28, 3) := by decide +kernel
theorem dC2_draftParameters_12 : decode cC2_draftParameters 12 = .ok (.aload_n 0, 1) := by decide +kernel
theorem dC2_draftParameters_13 : decode cC2_draftParameters 13 = .ok (.getfield 45, 3) := by decide +kernel
theorem dC2_draftParameters_16 : decode cC2_draftParameters 16 = .ok (.iload_n 1, 1) := by decide +kernel
theorem dC2_draftParameters_17 : decode cC2_draftParameters 17 = .ok (.iastore, 1) := by decide +kernel
theorem dC2_draftParameters_18 : decode cC2_draftParameters 18 = .ok (.aload_n 0, 1) := by decide +kernel
theorem dC2_draftParameters_19 : decode cC2_draftParameters 19 = .ok (.getfield 31, 3) := by decide +kernel
theorem dC2_draftParameters_22 : decode cC2_draftParameters 22 = .ok (.iload 6, 2) := by decide +kernel
theorem dC2_draftParameters_24 : decode cC2_draftParameters 24 = .ok (.iload_n 2, 1) := by decide +kernel
theorem dC2_draftParameters_25 : decode cC2_draftParameters 25 = .ok (.iastore, 1) := by decide +kernel
theorem dC2_draftParameters_26 : decode cC2_draftParameters 26 = .ok (.aload_n 0, 1) := by decide +kernel
theorem dC2_draftParameters_27 : decode cC2_draftParameters 27 = .ok (.getfield 31, 3) := by decide +kernel
theorem dC2_draftParameters_30 : decode cC2_draftParameters 30 = .ok (.iload 6, 2) := by decide +kernel
theorem dC2_draftParameters_32 : decode cC2_draftParameters 32 = .ok (.iconst 1, 1) := by decide +kernel
theorem dC2_draftParameters_33 : decode cC2_draftParameters 33 = .ok (.iadd, 1) := by decide +kernel
theorem dC2_draftParameters_34 : decode cC2_draftParameters 34 = .ok (.iload_n 3, 1) := by decide +kernel
theorem dC2_draftParameters_35 : decode cC2_draftParameters 35 = .ok (.iastore, 1) := by decide +kernel
theorem dC2_draftParameters_36 : decode cC2_draftParameters 36 = .ok (.aload_n 0, 1) := by decide +kernel
theorem dC2_draftParameters_37 : decode cC2_draftParameters 37 = .ok (.getfield 31, 3) := by decide +kernel
theorem dC2_draftParameters_40 : decode cC2_draftParameters 40 = .ok (.iload 6, 2) := by decide +kernel
theorem dC2_draftParameters_42 : decode cC2_draftParameters 42 = .ok (.iconst 2, 1) := by decide +kernel
theorem dC2_draftParameters_43 : decode cC2_draftParameters 43 = .ok (.iadd, 1) := by decide +kernel
theorem dC2_draftParameters_44 : decode cC2_draftParameters 44 = .ok (.iload 4, 2) := by decide +kernel
theorem dC2_draftParameters_46 : decode cC2_draftParameters 46 = .ok (.iastore, 1) := by decide +kernel
theorem dC2_draftParameters_47 : decode cC2_draftParameters 47 = .ok (.aload_n 0, 1) := by decide +kernel
theorem dC2_draftParameters_48 : decode cC2_draftParameters 48 = .ok (.getfield 31, 3) := by decide +kernel
theorem dC2_draftParameters_51 : decode cC2_draftParameters 51 = .ok (.iload 6, 2) := by decide +kernel
theorem dC2_draftParameters_53 : decode cC2_draftParameters 53 = .ok (.iconst 3, 1) := by decide +kernel
theorem dC2_draftParameters_54 : decode cC2_draftParameters 54 = .ok (.iadd, 1) := by decide +kernel
theorem dC2_draftParameters_55 : decode cC2_draftParameters 55 = .ok (.iload 5, 2) := by decide +kernel
theorem dC2_draftParameters_57 : decode cC2_draftParameters 57 = .ok (.iastore, 1) := by decide +kernel
theorem dC2_draftParameters_58 : decode cC2_draftParameters 58 = .ok (.return_, 1) := by decide +kernel
theorem dC2_isAbstract_0 : decode cC2_isAbstract 0 = .ok (.aload_n 0, 1) := by decide +kernel
theorem dC2_isAbstract_1 : decode cC2_isAbstract 1 = .ok (.getfield 22, 3) := by decide +kernel
theorem dC2_isAbstract_4 : decode cC2_isAbstract 4 = .ok (.iload_n 1, 1) := by decide +kernel
theorem dC2_isAbstract_5 : decode cC2_isAbstract 5 = .ok (.iaload, 1) := by decide +kernel
theorem dC2_isAbstract_6 : decode cC2_isAbstract 6 = .ok (.iconst 4, 1) := by decide +kernel
theorem dC2_isAbstract_7 : decode cC2_isAbstract 7 = .ok (.iand, 1) := by decide +kernel
theorem dC2_isAbstract_8 : decode cC2_isAbstract 8 = .ok (.ifCond .eq 7, 3) := by decide +kernel
theorem dC2_isAbstract_11 : decode cC2_isAbstract 11 = .ok (.iconst 1, 1) := by decide +kernel
theorem dC2_isAbstract_12 : decode cC2_isAbstract 12 = .ok (.goto 4, 3) := by decide +kernel
theorem dC2_isAbstract_15 : decode cC2_isAbstract 15 = .ok (.iconst 0, 1) := by decide +kernel
theorem dC2_isAbstract_16 : decode cC2_isAbstract 16 = .ok (.ireturn, 1) := by decide +kernel
theorem dC2_isStatic_0 : decode cC2_isStatic 0 = .ok (.aload_n 0, 1) := by decide +kernel
theorem dC2_isStatic_1 : decode cC2_isStatic 1 = .ok (.getfield 22, 3) := by decide +kernel
theorem dC2_isStatic_4 : decode cC2_isStatic 4 = .ok (.iload_n 1, 1) := by decide +kernel
theorem dC2_isStatic_5 : decode cC2_isStatic 5 = .ok (.iaload, 1) := by decide +kernel
theorem dC2_isStatic_6 : decode cC2_isStatic 6 = .ok (.iconst 1, 1) := by decide +kernel
theorem dC2_isStatic_7 : decode cC2_isStatic 7 = .ok (.iand, 1) := by decide +kernel
theorem dC2_isStatic_8 : decode cC2_isStatic 8 = .ok (.ifCond .eq 7, 3) := by decide +kernel
theorem dC2_isStatic_11 : decode cC2_isStatic 11 = .ok (.iconst 1, 1) := by decide +kernel
theorem dC2_isStatic_12 : decode cC2_isStatic 12 = .ok (.goto 4, 3) := by decide +kernel
theorem dC2_isStatic_15 : decode cC2_isStatic 15 = .ok (.iconst 0, 1) := by decide +kernel
theorem dC2_isStatic_16 : decode cC2_isStatic 16 = .ok (.ireturn, 1) := by decide +kernel
theorem dC2_isPrivate_0 : decode cC2_isPrivate 0 = .ok (.aload_n 0, 1) := by decide +kernel
theorem dC2_isPrivate_1 : decode cC2_isPrivate 1 = .ok (.getfield 22, 3) := by decide +kernel
theorem dC2_isPrivate_4 : decode cC2_isPrivate 4 = .ok (.iload_n 1, 1) := by decide +kernel
theorem dC2_isPrivate_5 : decode cC2_isPrivate 5 = .ok (.iaload, 1) := by decide +kernel
theorem dC2_isPrivate_6 : decode cC2_isPrivate 6 = .ok (.iconst 2, 1) := by decide +kernel
theorem dC2_isPrivate_7 : decode cC2_isPrivate 7 = .ok (.iand, 1) := by decide +kernel
theorem dC2_isPrivate_8 : decode cC2_isPrivate 8 = .ok (.ifCond .eq 7, 3) := by decide +kernel
theorem dC2_isPrivate_11 : decode cC2_isPrivate 11 = .ok (.iconst 1, 1) := by decide +kernel
theorem dC2_isPrivate_12 : decode cC2_isPrivate 12 = .ok (.goto 4, 3) := by decide +kernel
theorem dC2_isPrivate_15 : decode cC2_isPrivate 15 = .ok (.iconst 0, 1) := by decide +kernel
theorem dC2_isPrivate_16 : decode cC2_isPrivate 16 = .ok (.ireturn, 1) := by decide +kernel
theorem dC2_hasGoodMarks_0 : decode cC2_hasGoodMarks 0 = .ok (.aload_n 0, 1) := by decide +kernel
theorem dC2_hasGoodMarks_1 : decode cC2_hasGoodMarks 1 = .ok (.getfield 22, 3) := by decide +kernel
theorem dC2_hasGoodMarks_4 : decode cC2_hasGoodMarks 4 = .ok (.iload_n 1, 1) := by decide +kernel
theorem dC2_hasGoodMarks_5 : decode cC2_hasGoodMarks 5 = .ok (.iaload, 1) := by decide +kernel
theorem dC2_hasGoodMarks_6 : decode cC2_hasGoodMarks 6 = .ok (.ifCond .lt 14, 3) := by decide +kernel
theorem dC2_hasGoodMarks_9 : decode cC2_hasGoodMarks 9 = .ok (.aload_n 0, 1) := by decide +kernel
theorem dC2_hasGoodMarks_10 : decode cC2_hasGoodMarks 10 = .ok (.getfield 22, 3) := by decide +kernel
theorem dC2_hasGoodMarks_13 : decode cC2_hasGoodMarks 13 = .ok (.iload_n 1, 1) := by decide +kernel
theorem dC2_hasGoodMarks_14 : decode cC2_hasGoodMarks 14 = .ok (.iaload, 1) := by decide +kernel
theorem dC2_hasGoodMarks_15 : decode cC2_hasGoodMarks 15 = .ok (.bipush 15, 2) := by decide +kernel
theorem dC2_hasGoodMarks_17 : decode cC2_hasGoodMarks 17 = .ok (.if_icmp .le 5, 3) := by decide +kernel
theorem dC2_hasGoodMarks_20 : decode cC2_hasGoodMarks 20 = .ok (.iconst 0, 1) := by decide +kernel
theorem dC2_hasGoodMarks_21 : decode cC2_hasGoodMarks 21 = .ok (.ireturn, 1) := by decide +kernel
theorem dC2_hasGoodMarks_22 : decode cC2_hasGoodMarks 22 = .ok (.aload_n 0, 1) := by decide +kernel
theorem dC2_hasGoodMarks_23 : decode cC2_hasGoodMarks 23 = .ok (.getfield 9, 3) := by decide +kernel
theorem dC2_hasGoodMarks_26 : decode cC2_hasGoodMarks 26 = .ok (.aload_n 0, 1) := by decide +kernel
theorem dC2_hasGoodMarks_27 : decode cC2_hasGoodMarks 27 = .ok (.getfield 15, 3) := by decide +kernel
theorem dC2_hasGoodMarks_30 : decode cC2_hasGoodMarks 30 = .ok (.iload_n 1, 1) := by decide +kernel
theorem dC2_hasGoodMarks_31 : decode cC2_hasGoodMarks 31 = .ok (.iaload, 1) := by decide +kernel
theorem dC2_hasGoodMarks_32 : decode cC2_hasGoodMarks 32 = .ok (.invokevirtual 71, 3) := by decide +kernel
theorem dC2_hasGoodMarks_35 : decode cC2_hasGoodMarks 35 = .ok (.ifCond .eq 15, 3) := by decide +kernel
theorem dC2_hasGoodMarks_38 : decode cC2_hasGoodMarks 38 = .ok (.aload_n 0, 1) := by decide +kernel
theorem dC2_hasGoodMarks_39 : decode cC2_hasGoodMarks 39 = .ok (.iload_n 1, 1) := by decide +kernel
theorem dC2_hasGoodMarks_40 : decode cC2_hasGoodMarks 40 = .ok (.invokevirtual 74, 3) := by decide +kernel
theorem dC2_hasGoodMarks_43 : decode cC2_hasGoodMarks 43 = .ok (.ifCond .eq 7, 3) := by decide +kernel
theorem dC2_hasGoodMarks_46 : decode cC2_hasGoodMarks 46 = .ok (.iconst 1, 1) := by decide +kernel
theorem dC2_hasGoodMarks_47 : decode cC2_hasGoodMarks 47 = .ok (.goto 4, 3) := by decide +kernel
theorem dC2_hasGoodMarks_50 : decode cC2_hasGoodMarks 50 = .ok (.iconst 0, 1) := by decide +kernel
theorem dC2_hasGoodMarks_51 : decode cC2_hasGoodMarks 51 = .ok (.istore_n 2, 1) := by decide +kernel
theorem dC2_hasGoodMarks_52 : decode cC2_hasGoodMarks 52 = .ok (.aload_n 0, 1) := by decide +kernel
theorem dC2_hasGoodMarks_53 : decode cC2_hasGoodMarks 53 = .ok (.iload_n 1, 1) := by decide +kernel
theorem dC2_hasGoodMarks_54 : decode cC2_hasGoodMarks 54 = .ok (.invokevirtual 77, 3) := by decide +kernel
theorem dC2_hasGoodMarks_57 : decode cC2_hasGoodMarks 57 = .ok (.ifCond .eq 15, 3) := by decide +kernel
theorem dC2_hasGoodMarks_60 : decode cC2_hasGoodMarks 60 = .ok (.aload_n 0, 1) := by decide +kernel
theorem dC2_hasGoodMarks_61 : decode cC2_hasGoodMarks 61 = .ok (.iload_n 1, 1) := by decide +kernel
theorem dC2_hasGoodMarks_62 : decode cC2_hasGoodMarks 62 = .ok (.invokevirtual 80, 3) := by decide +kernel
theorem dC2_hasGoodMarks_65 : decode cC2_hasGoodMarks 65 = .ok (.ifCond .ne 11, 3) := by decide +kernel
theorem dC2_hasGoodMarks_68 : decode cC2_hasGoodMarks 68 = .ok (.iload_n 2, 1) := by decide +kernel
theorem dC2_hasGoodMarks_69 : decode cC2_hasGoodMarks 69 = .ok (.ifCond .ne 7, 3) := by decide +kernel
theorem dC2_hasGoodMarks_72 : decode cC2_hasGoodMarks 72 = .ok (.iconst 1, 1) := by decide +kernel
theorem dC2_hasGoodMarks_73 : decode cC2_hasGoodMarks 73 = .ok (.goto 4, 3) := by decide +kernel
theorem dC2_hasGoodMarks_76 : decode cC2_hasGoodMarks 76 = .ok (.iconst 0, 1) := by decide +kernel
theorem dC2_hasGoodMarks_77 : decode cC2_hasGoodMarks 77 = .ok (.ireturn, 1) := by decide +kernel
theorem dC1_isElement_0 : decode cC1_isElement 0 = .ok (.iload_n 1, 1) := by decide +kernel
theorem dC1_isElement_1 : decode cC1_isElement 1 = .ok (.ifCond .lt 9, 3) := by decide +kernel
theorem dC1_isElement_4 : decode cC1_isElement 4 = .ok (.iload_n 1, 1) := by decide +kernel
theorem dC1_isElement_5 : decode cC1_isElement 5 = .ok (.bipush 9, 2) := by decide +kernel
theorem dC1_isElement_7 : decode cC1_isElement 7 = .ok (.if_icmp .le 11, 3) := by decide +kernel
theorem dC1_isElement_10 : decode cC1_isElement 10 = .ok (.aload_n 0, 1) := by decide +kernel
theorem dC1_isElement_11 : decode cC1_isElement 11 = .ok (.iload_n 1, 1) := by decide +kernel
theorem dC1_isElement_12 : decode cC1_isElement 12 = .ok (.invokevirtual 36, 3) := by decide +kernel
theorem dC1_isElement_15 : decode cC1_isElement 15 = .ok (.ifCond .eq 7, 3) := by decide +kernel
theorem dC1_isElement_18 : decode cC1_isElement 18 = .ok (.iconst 1, 1) := by decide +kernel
theorem dC1_isElement_19 : decode cC1_isElement 19 = .ok (.goto 4, 3) := by decide +kernel
theorem dC1_isElement_22 : decode cC1_isElement 22 = .ok (.iconst 0, 1) := by decide +kernel
theorem dC1_isElement_23 : decode cC1_isElement 23 = .ok (.ireturn, 1) := by decide +kernel
theorem dC1_isArray_0 : decode cC1_isArray 0 = .ok (.iload_n 1, 1) := by decide +kernel
theorem dC1_isArray_1 : decode cC1_isArray 1 = .ok (.bipush 64, 2) := by decide +kernel
theorem dC1_isArray_3 : decode cC1_isArray 3 = .ok (.if_icmp .lt 18, 3) := by decide +kernel
theorem dC1_isArray_6 : decode cC1_isArray 6 = .ok (.aload_n 0, 1) := by decide +kernel
theorem dC1_isArray_7 : decode cC1_isArray 7 = .ok (.iload_n 1, 1) := by decide +kernel
theorem dC1_isArray_8 : decode cC1_isArray 8 = .ok (.bipush 64, 2) := by decide +kernel
theorem dC1_isArray_10 : decode cC1_isArray 10 = .ok (.isub, 1) := by decide +kernel
theorem dC1_isArray_11 : decode cC1_isArray 11 = .ok (.invokevirtual 40, 3) := by decide +kernel
theorem dC1_isArray_14 : decode cC1_isArray 14 = .ok (.ifCond .eq 7, 3) := by decide +kernel
theorem dC1_isArray_17 : decode cC1_isArray 17 = .ok (.iconst 1, 1) := by decide +kernel
theorem dC1_isArray_18 : decode cC1_isArray 18 = .ok (.goto 4, 3) := by decide +kernel
theorem dC1_isArray_21 : decode cC1_isArray 21 = .ok (.iconst 0, 1) := by decide +kernel
theorem dC1_isArray_22 : decode cC1_isArray 22 = .ok (.ireturn, 1) := by decide +kernel
theorem dC1_canBeDeclared_0 : decode cC1_canBeDeclared 0 = .ok (.aload_n 0, 1) := by decide +kernel
theorem dC1_canBeDeclared_1 : decode cC1_canBeDeclared 1 = .ok (.iload_n 1, 1) := by decide +kernel
theorem dC1_canBeDeclared_2 : decode cC1_canBeDeclared 2 = .ok (.invokevirtual 40, 3) := by decide +kernel
theorem dC1_canBeDeclared_5 : decode cC1_canBeDeclared 5 = .ok (.ifCond .ne 11, 3) := by decide +kernel
theorem dC1_canBeDeclared_8 : decode cC1_canBeDeclared 8 = .ok (.aload_n 0, 1) := by decide +kernel
theorem dC1_canBeDeclared_9 : decode cC1_canBeDeclared 9 = .ok (.iload_n 1, 1) := by decide +kernel
theorem dC1_canBeDeclared_10 : decode cC1_canBeDeclared 10 = .ok (.invokevirtual 43, 3) := by decide +kernel
theorem dC1_canBeDeclared_13 : decode cC1_canBeDeclared 13 = .ok (.ifCond .eq 7, 3) := by decide +kernel
theorem dC1_canBeDeclared_16 : decode cC1_canBeDeclared 16 = .ok (.iconst 1, 1) := by decide +kernel
theorem dC1_canBeDeclared_17 : decode cC1_canBeDeclared 17 = .ok (.goto 4, 3) := by decide +kernel
theorem dC1_canBeDeclared_20 : decode cC1_canBeDeclared 20 = .ok (.iconst 0, 1) := by decide +kernel
theorem dC1_canBeDeclared_21 : decode cC1_canBeDeclared 21 = .ok (.ireturn, 1) := by decide +kernel
theorem dC1_canBeResult_0 : decode cC1_canBeResult 0 = .ok (.iload_n 1, 1) := by decide +kernel
theorem dC1_canBeResult_1 : decode cC1_canBeResult 1 = .ok (.iconst (-1), 1) := by decide +kernel
theorem dC1_canBeResult_2 : decode cC1_canBeResult 2 = .ok (.if_icmp .eq 11, 3) := by decide +kernel
theorem dC1_canBeResult_5 : decode cC1_canBeResult 5 = .ok (.aload_n 0, 1) := by decide +kernel
theorem dC1_canBeResult_6 : decode cC1_canBeResult 6 = .ok (.iload_n 1, 1) := by decide +kernel
theorem dC1_canBeResult_7 : decode cC1_canBeResult 7 = .ok (.invokevirtual 46, 3) := by decide +kernel
theorem dC1_canBeResult_10 : decode cC1_canBeResult 10 = .ok (.ifCond .eq 7, 3) := by decide +kernel
theorem dC1_canBeResult_13 : decode cC1_canBeResult 13 = .ok (.iconst 1, 1) := by decide +kernel
theorem dC1_canBeResult_14 : decode cC1_canBeResult 14 = .ok (.goto 4, 3) := by decide +kernel
theorem dC1_canBeResult_17 : decode cC1_canBeResult 17 = .ok (.iconst 0, 1) := by decide +kernel
theorem dC1_canBeResult_18 : decode cC1_canBeResult 18 = .ok (.ireturn, 1) := by decide +kernel
theorem dC2_hasGoodHead_0 : decode cC2_hasGoodHead 0 = .ok (.aload_n 0, 1) := by decide +kernel
theorem dC2_hasGoodHead_1 : decode cC2_hasGoodHead 1 = .ok (.getfield 9, 3) := by decide +kernel
theorem dC2_hasGoodHead_4 : decode cC2_hasGoodHead 4 = .ok (.aload_n 0, 1) := by decide +kernel
theorem dC2_hasGoodHead_5 : decode cC2_hasGoodHead 5 = .ok (.getfield 15, 3) := by decide +kernel
theorem dC2_hasGoodHead_8 : decode cC2_hasGoodHead 8 = .ok (.iload_n 1, 1) := by decide +kernel
theorem dC2_hasGoodHead_9 : decode cC2_hasGoodHead 9 = .ok (.iaload, 1) := by decide +kernel
theorem dC2_hasGoodHead_10 : decode cC2_hasGoodHead 10 = .ok (.invokevirtual 62, 3) := by decide +kernel
theorem dC2_hasGoodHead_13 : decode cC2_hasGoodHead 13 = .ok (.ifCond .eq 27, 3) := by decide +kernel
theorem dC2_hasGoodHead_16 : decode cC2_hasGoodHead 16 = .ok (.aload_n 0, 1) := by decide +kernel
theorem dC2_hasGoodHead_17 : decode cC2_hasGoodHead 17 = .ok (.getfield 19, 3) := by decide +kernel
theorem dC2_hasGoodHead_20 : decode cC2_hasGoodHead 20 = .ok (.iload_n 1, 1) := by decide +kernel
theorem dC2_hasGoodHead_21 : decode cC2_hasGoodHead 21 = .ok (.iaload, 1) := by decide +kernel
theorem dC2_hasGoodHead_22 : decode cC2_hasGoodHead 22 = .ok (.ifCond .lt 18, 3) := by decide +kernel
theorem dC2_hasGoodHead_25 : decode cC2_hasGoodHead 25 = .ok (.aload_n 0, 1) := by decide +kernel
theorem dC2_hasGoodHead_26 : decode cC2_hasGoodHead 26 = .ok (.getfield 19, 3) := by decide +kernel
theorem dC2_hasGoodHead_29 : decode cC2_hasGoodHead 29 = .ok (.iload_n 1, 1) := by decide +kernel
theorem dC2_hasGoodHead_30 : decode cC2_hasGoodHead 30 = .ok (.iaload, 1) := by decide +kernel
theorem dC2_hasGoodHead_31 : decode cC2_hasGoodHead 31 = .ok (.bipush 16, 2) := by decide +kernel
theorem dC2_hasGoodHead_33 : decode cC2_hasGoodHead 33 = .ok (.if_icmp .ge 7, 3) := by decide +kernel
theorem dC2_hasGoodHead_36 : decode cC2_hasGoodHead 36 = .ok (.iconst 1, 1) := by decide +kernel
theorem dC2_hasGoodHead_37 : decode cC2_hasGoodHead 37 = .ok (.goto 4, 3) := by decide +kernel
theorem dC2_hasGoodHead_40 : decode cC2_hasGoodHead 40 = .ok (.iconst 0, 1) := by decide +kernel
theorem dC2_hasGoodHead_41 : decode cC2_hasGoodHead 41 = .ok (.istore_n 2, 1) := by decide +kernel
theorem dC2_hasGoodHead_42 : decode cC2_hasGoodHead 42 = .ok (.iload_n 2, 1) := by decide +kernel
theorem dC2_hasGoodHead_43 : decode cC2_hasGoodHead 43 = .ok (.ifCond .eq 31, 3) := by decide +kernel
theorem dC2_hasGoodHead_46 : decode cC2_hasGoodHead 46 = .ok (.aload_n 0, 1) := by decide +kernel
theorem dC2_hasGoodHead_47 : decode cC2_hasGoodHead 47 = .ok (.iload_n 1, 1) := by decide +kernel
theorem dC2_hasGoodHead_48 : decode cC2_hasGoodHead 48 = .ok (.invokevirtual 65, 3) := by decide +kernel
theorem dC2_hasGoodHead_51 : decode cC2_hasGoodHead 51 = .ok (.ifCond .eq 23, 3) := by decide +kernel
theorem dC2_hasGoodHead_54 : decode cC2_hasGoodHead 54 = .ok (.aload_n 0, 1) := by decide +kernel
theorem dC2_hasGoodHead_55 : decode cC2_hasGoodHead 55 = .ok (.getfield 9, 3) := by decide +kernel
theorem dC2_hasGoodHead_58 : decode cC2_hasGoodHead 58 = .ok (.aload_n 0, 1) := by decide +kernel
theorem dC2_hasGoodHead_59 : decode cC2_hasGoodHead 59 = .ok (.getfield 25, 3) := by decide +kernel
theorem dC2_hasGoodHead_62 : decode cC2_hasGoodHead 62 = .ok (.iload_n 1, 1) := by decide +kernel
theorem dC2_hasGoodHead_63 : decode cC2_hasGoodHead 63 = .ok (.iaload, 1) := by decide +kernel
theorem dC2_hasGoodHead_64 : decode cC2_hasGoodHead 64 = .ok (.invokevirtual 68, 3) := by decide +kernel
theorem dC2_hasGoodHead_67 : decode cC2_hasGoodHead 67 = .ok (.ifCond .eq 7, 3) := by decide +kernel
theorem dC2_hasGoodHead_70 : decode cC2_hasGoodHead 70 = .ok (.iconst 1, 1) := by decide +kernel
theorem dC2_hasGoodHead_71 : decode cC2_hasGoodHead 71 = .ok (.goto 4, 3) := by decide +kernel
theorem dC2_hasGoodHead_74 : decode cC2_hasGoodHead 74 = .ok (.iconst 0, 1) := by decide +kernel
theorem dC2_hasGoodHead_75 : decode cC2_hasGoodHead 75 = .ok (.ireturn, 1) := by decide +kernel
theorem dC2_isVaried_0 : decode cC2_isVaried 0 = .ok (.aload_n 0, 1) := by decide +kernel
theorem dC2_isVaried_1 : decode cC2_isVaried 1 = .ok (.getfield 22, 3) := by decide +kernel
theorem dC2_isVaried_4 : decode cC2_isVaried 4 = .ok (.iload_n 1, 1) := by decide +kernel
theorem dC2_isVaried_5 : decode cC2_isVaried 5 = .ok (.iaload, 1) := by decide +kernel
theorem dC2_isVaried_6 : decode cC2_isVaried 6 = .ok (.bipush 8, 2) := by decide +kernel
theorem dC2_isVaried_8 : decode cC2_isVaried 8 = .ok (.iand, 1) := by decide +kernel
theorem dC2_isVaried_9 : decode cC2_isVaried 9 = .ok (.ifCond .eq 7, 3) := by decide +kernel
theorem dC2_isVaried_12 : decode cC2_isVaried 12 = .ok (.iconst 1, 1) := by decide +kernel
theorem dC2_isVaried_13 : decode cC2_isVaried 13 = .ok (.goto 4, 3) := by decide +kernel
theorem dC2_isVaried_16 : decode cC2_isVaried 16 = .ok (.iconst 0, 1) := by decide +kernel
theorem dC2_isVaried_17 : decode cC2_isVaried 17 = .ok (.ireturn, 1) := by decide +kernel
theorem dC2_parameterAt_0 : decode cC2_parameterAt 0 = .ok (.iload_n 2, 1) := by decide +kernel
theorem dC2_parameterAt_1 : decode cC2_parameterAt 1 = .ok (.ifCond .lt 26, 3) := by decide +kernel
theorem dC2_parameterAt_4 : decode cC2_parameterAt 4 = .ok (.iload_n 2, 1) := by decide +kernel
theorem dC2_parameterAt_5 : decode cC2_parameterAt 5 = .ok (.aload_n 0, 1) := by decide +kernel
theorem dC2_parameterAt_6 : decode cC2_parameterAt 6 = .ok (.getfield 28, 3) := by decide +kernel
theorem dC2_parameterAt_9 : decode cC2_parameterAt 9 = .ok (.iload_n 1, 1) := by decide +kernel
theorem dC2_parameterAt_10 : decode cC2_parameterAt 10 = .ok (.iaload, 1) := by decide +kernel
theorem dC2_parameterAt_11 : decode cC2_parameterAt 11 = .ok (.if_icmp .ge 16, 3) := by decide +kernel
theorem dC2_parameterAt_14 : decode cC2_parameterAt 14 = .ok (.aload_n 0, 1) := by decide +kernel
theorem dC2_parameterAt_15 : decode cC2_parameterAt 15 = .ok (.getfield 31, 3) := by decide +kernel
theorem dC2_parameterAt_18 : decode cC2_parameterAt 18 = .ok (.iload_n 1, 1) := by decide +kernel
theorem dC2_parameterAt_19 : decode cC2_parameterAt 19 = .ok (.iconst 4, 1) := by decide +kernel
theorem dC2_parameterAt_20 : decode cC2_parameterAt 20 = .ok (.imul, 1) := by decide +kernel
theorem dC2_parameterAt_21 : decode cC2_parameterAt 21 = .ok (.iload_n 2, 1) := by decide +kernel
theorem dC2_parameterAt_22 : decode cC2_parameterAt 22 = .ok (.iadd, 1) := by decide +kernel
theorem dC2_parameterAt_23 : decode cC2_parameterAt 23 = .ok (.iaload, 1) := by decide +kernel
theorem dC2_parameterAt_24 : decode cC2_parameterAt 24 = .ok (.goto 4, 3) := by decide +kernel
theorem dC2_parameterAt_27 : decode cC2_parameterAt 27 = .ok (.iconst (-1), 1) := by decide +kernel
theorem dC2_parameterAt_28 : decode cC2_parameterAt 28 = .ok (.ireturn, 1) := by decide +kernel
theorem dC2_hasGoodParameters_0 : decode cC2_hasGoodParameters 0 = .ok (.aload_n 0, 1) := by decide +kernel
theorem dC2_hasGoodParameters_1 : decode cC2_hasGoodParameters 1 = .ok (.getfield 28, 3) := by decide +kernel
theorem dC2_hasGoodParameters_4 : decode cC2_hasGoodParameters 4 = .ok (.iload_n 1, 1) := by decide +kernel
theorem dC2_hasGoodParameters_5 : decode cC2_hasGoodParameters 5 = .ok (.iaload, 1) := by decide +kernel
theorem dC2_hasGoodParameters_6 : decode cC2_hasGoodParameters 6 = .ok (.ifCond .lt 13, 3) := by decide +kernel
theorem dC2_hasGoodParameters_9 : decode cC2_hasGoodParameters 9 = .ok (.aload_n 0, 1) := by decide +kernel
theorem dC2_hasGoodParameters_10 : decode cC2_hasGoodParameters 10 = .ok (.getfield 28, 3) := by decide +kernel
theorem dC2_hasGoodParameters_13 : decode cC2_hasGoodParameters 13 = .ok (.iload_n 1, 1) := by decide +kernel
theorem dC2_hasGoodParameters_14 : decode cC2_hasGoodParameters 14 = .ok (.iaload, 1) := by decide +kernel
theorem dC2_hasGoodParameters_15 : decode cC2_hasGoodParameters 15 = .ok (.iconst 4, 1) := by decide +kernel
theorem dC2_hasGoodParameters_16 : decode cC2_hasGoodParameters 16 = .ok (.if_icmp .le 5, 3) := by decide +kernel
theorem dC2_hasGoodParameters_19 : decode cC2_hasGoodParameters 19 = .ok (.iconst 0, 1) := by decide +kernel
theorem dC2_hasGoodParameters_20 : decode cC2_hasGoodParameters 20 = .ok (.ireturn, 1) := by decide +kernel
theorem dC2_hasGoodParameters_21 : decode cC2_hasGoodParameters 21 = .ok (.iconst 0, 1) := by decide +kernel
theorem dC2_hasGoodParameters_22 : decode cC2_hasGoodParameters 22 = .ok (.istore_n 2, 1) := by decide +kernel
theorem dC2_hasGoodParameters_23 : decode cC2_hasGoodParameters 23 = .ok (.iload_n 2, 1) := by decide +kernel
theorem dC2_hasGoodParameters_24 : decode cC2_hasGoodParameters 24 = .ok (.aload_n 0, 1) := by decide +kernel
theorem dC2_hasGoodParameters_25 : decode cC2_hasGoodParameters 25 = .ok (.getfield 28, 3) := by decide +kernel
theorem dC2_hasGoodParameters_28 : decode cC2_hasGoodParameters 28 = .ok (.iload_n 1, 1) := by decide +kernel
theorem dC2_hasGoodParameters_29 : decode cC2_hasGoodParameters 29 = .ok (.iaload, 1) := by decide +kernel
theorem dC2_hasGoodParameters_30 : decode cC2_hasGoodParameters 30 = .ok (.if_icmp .ge 27, 3) := by decide +kernel
theorem dC2_hasGoodParameters_33 : decode cC2_hasGoodParameters 33 = .ok (.aload_n 0, 1) := by decide +kernel
theorem dC2_hasGoodParameters_34 : decode cC2_hasGoodParameters 34 = .ok (.getfield 9, 3) := by decide +kernel
theorem dC2_hasGoodParameters_37 : decode cC2_hasGoodParameters 37 = .ok (.aload_n 0, 1) := by decide +kernel
theorem dC2_hasGoodParameters_38 : decode cC2_hasGoodParameters 38 = .ok (.iload_n 1, 1) := by decide +kernel
theorem dC2_hasGoodParameters_39 : decode cC2_hasGoodParameters 39 = .ok (.iload_n 2, 1) := by decide +kernel
theorem dC2_hasGoodParameters_40 : decode cC2_hasGoodParameters 40 = .ok (.invokevirtual 83, 3) := by decide +kernel
theorem dC2_hasGoodParameters_43 : decode cC2_hasGoodParameters 43 = .ok (.invokevirtual 87, 3) := by decide +kernel
theorem dC2_hasGoodParameters_46 : decode cC2_hasGoodParameters 46 = .ok (.ifCond .ne 5, 3) := by decide +kernel
theorem dC2_hasGoodParameters_49 : decode cC2_hasGoodParameters 49 = .ok (.iconst 0, 1) := by decide +kernel
theorem dC2_hasGoodParameters_50 : decode cC2_hasGoodParameters 50 = .ok (.ireturn, 1) := by decide +kernel
theorem dC2_hasGoodParameters_51 : decode cC2_hasGoodParameters 51 = .ok (.iinc 2 1, 3) := by decide +kernel
theorem dC2_hasGoodParameters_54 : decode cC2_hasGoodParameters 54 = .ok (.goto (-31), 3) := by decide +kernel
theorem dC2_hasGoodParameters_57 : decode cC2_hasGoodParameters 57 = .ok (.aload_n 0, 1) := by decide +kernel
theorem dC2_hasGoodParameters_58 : decode cC2_hasGoodParameters 58 = .ok (.iload_n 1, 1) := by decide +kernel
theorem dC2_hasGoodParameters_59 : decode cC2_hasGoodParameters 59 = .ok (.invokevirtual 90, 3) := by decide +kernel
theorem dC2_hasGoodParameters_62 : decode cC2_hasGoodParameters 62 = .ok (.ifCond .eq 26, 3) := by decide +kernel
theorem dC2_hasGoodParameters_65 : decode cC2_hasGoodParameters 65 = .ok (.aload_n 0, 1) := by decide +kernel
theorem dC2_hasGoodParameters_66 : decode cC2_hasGoodParameters 66 = .ok (.getfield 9, 3) := by decide +kernel
theorem dC2_hasGoodParameters_69 : decode cC2_hasGoodParameters 69 = .ok (.aload_n 0, 1) := by decide +kernel
theorem dC2_hasGoodParameters_70 : decode cC2_hasGoodParameters 70 = .ok (.iload_n 1, 1) := by decide +kernel
theorem dC2_hasGoodParameters_71 : decode cC2_hasGoodParameters 71 = .ok (.aload_n 0, 1) := by decide +kernel
theorem dC2_hasGoodParameters_72 : decode cC2_hasGoodParameters 72 = .ok (.getfield 28, 3) := by decide +kernel
theorem dC2_hasGoodParameters_75 : decode cC2_hasGoodParameters 75 = .ok (.iload_n 1, 1) := by decide +kernel
theorem dC2_hasGoodParameters_76 : decode cC2_hasGoodParameters 76 = .ok (.iaload, 1) := by decide +kernel
theorem dC2_hasGoodParameters_77 : decode cC2_hasGoodParameters 77 = .ok (.iconst 1, 1) := by decide +kernel
theorem dC2_hasGoodParameters_78 : decode cC2_hasGoodParameters 78 = .ok (.isub, 1) := by decide +kernel
theorem dC2_hasGoodParameters_79 : decode cC2_hasGoodParameters 79 = .ok (.invokevirtual 83, 3) := by decide +kernel
theorem dC2_hasGoodParameters_82 : decode cC2_hasGoodParameters 82 = .ok (.invokevirtual 93, 3) := by decide +kernel
theorem dC2_hasGoodParameters_85 : decode cC2_hasGoodParameters 85 = .ok (.ifCond .eq 7, 3) := by decide +kernel
theorem dC2_hasGoodParameters_88 : decode cC2_hasGoodParameters 88 = .ok (.iconst 1, 1) := by decide +kernel
theorem dC2_hasGoodParameters_89 : decode cC2_hasGoodParameters 89 = .ok (.goto 4, 3) := by decide +kernel
theorem dC2_hasGoodParameters_92 : decode cC2_hasGoodParameters 92 = .ok (.iconst 0, 1) := by decide +kernel
theorem dC2_hasGoodParameters_93 : decode cC2_hasGoodParameters 93 = .ok (.ireturn, 1) := by decide +kernel
theorem dC2_sameParameters_0 : decode cC2_sameParameters 0 = .ok (.aload_n 0, 1) := by decide +kernel
theorem dC2_sameParameters_1 : decode cC2_sameParameters 1 = .ok (.getfield 28, 3) := by decide +kernel
theorem dC2_sameParameters_4 : decode cC2_sameParameters 4 = .ok (.iload_n 1, 1) := by decide +kernel
theorem dC2_sameParameters_5 : decode cC2_sameParameters 5 = .ok (.iaload, 1) := by decide +kernel
theorem dC2_sameParameters_6 : decode cC2_sameParameters 6 = .ok (.aload_n 0, 1) := by decide +kernel
theorem dC2_sameParameters_7 : decode cC2_sameParameters 7 = .ok (.getfield 28, 3) := by decide +kernel
theorem dC2_sameParameters_10 : decode cC2_sameParameters 10 = .ok (.iload_n 2, 1) := by decide +kernel
theorem dC2_sameParameters_11 : decode cC2_sameParameters 11 = .ok (.iaload, 1) := by decide +kernel
theorem dC2_sameParameters_12 : decode cC2_sameParameters 12 = .ok (.if_icmp .eq 5, 3) := by decide +kernel
theorem dC2_sameParameters_15 : decode cC2_sameParameters 15 = .ok (.iconst 0, 1) := by decide +kernel
theorem dC2_sameParameters_16 : decode cC2_sameParameters 16 = .ok (.ireturn, 1) := by decide +kernel
theorem dC2_sameParameters_17 : decode cC2_sameParameters 17 = .ok (.iconst 0, 1) := by decide +kernel
theorem dC2_sameParameters_18 : decode cC2_sameParameters 18 = .ok (.istore_n 3, 1) := by decide +kernel
theorem dC2_sameParameters_19 : decode cC2_sameParameters 19 = .ok (.iload_n 3, 1) := by decide +kernel
theorem dC2_sameParameters_20 : decode cC2_sameParameters 20 = .ok (.aload_n 0, 1) := by decide +kernel
theorem dC2_sameParameters_21 : decode cC2_sameParameters 21 = .ok (.getfield 28, 3) := by decide +kernel
theorem dC2_sameParameters_24 : decode cC2_sameParameters 24 = .ok (.iload_n 1, 1) := by decide +kernel
theorem dC2_sameParameters_25 : decode cC2_sameParameters 25 = .ok (.iaload, 1) := by decide +kernel
theorem dC2_sameParameters_26 : decode cC2_sameParameters 26 = .ok (.if_icmp .ge 34, 3) := by decide +kernel
theorem dC2_sameParameters_29 : decode cC2_sameParameters 29 = .ok (.aload_n 0, 1) := by decide +kernel
theorem dC2_sameParameters_30 : decode cC2_sameParameters 30 = .ok (.getfield 31, 3) := by decide +kernel
theorem dC2_sameParameters_33 : decode cC2_sameParameters 33 = .ok (.iload_n 1, 1) := by decide +kernel
theorem dC2_sameParameters_34 : decode cC2_sameParameters 34 = .ok (.iconst 4, 1) := by decide +kernel
theorem dC2_sameParameters_35 : decode cC2_sameParameters 35 = .ok (.imul, 1) := by decide +kernel
theorem dC2_sameParameters_36 : decode cC2_sameParameters 36 = .ok (.iload_n 3, 1) := by decide +kernel
theorem dC2_sameParameters_37 : decode cC2_sameParameters 37 = .ok (.iadd, 1) := by decide +kernel
theorem dC2_sameParameters_38 : decode cC2_sameParameters 38 = .ok (.iaload, 1) := by decide +kernel
theorem dC2_sameParameters_39 : decode cC2_sameParameters 39 = .ok (.aload_n 0, 1) := by decide +kernel
theorem dC2_sameParameters_40 : decode cC2_sameParameters 40 = .ok (.getfield 31, 3) := by decide +kernel
theorem dC2_sameParameters_43 : decode cC2_sameParameters 43 = .ok (.iload_n 2, 1) := by decide +kernel
theorem dC2_sameParameters_44 : decode cC2_sameParameters 44 = .ok (.iconst 4, 1) := by decide +kernel
theorem dC2_sameParameters_45 : decode cC2_sameParameters 45 = .ok (.imul, 1) := by decide +kernel
theorem dC2_sameParameters_46 : decode cC2_sameParameters 46 = .ok (.iload_n 3, 1) := by decide +kernel
theorem dC2_sameParameters_47 : decode cC2_sameParameters 47 = .ok (.iadd, 1) := by decide +kernel
theorem dC2_sameParameters_48 : decode cC2_sameParameters 48 = .ok (.iaload, 1) := by decide +kernel
theorem dC2_sameParameters_49 : decode cC2_sameParameters 49 = .ok (.if_icmp .eq 5, 3) := by decide +kernel
theorem dC2_sameParameters_52 : decode cC2_sameParameters 52 = .ok (.iconst 0, 1) := by decide +kernel
theorem dC2_sameParameters_53 : decode cC2_sameParameters 53 = .ok (.ireturn, 1) := by decide +kernel
theorem dC2_sameParameters_54 : decode cC2_sameParameters 54 = .ok (.iinc 3 1, 3) := by decide +kernel
theorem dC2_sameParameters_57 : decode cC2_sameParameters 57 = .ok (.goto (-38), 3) := by decide +kernel
theorem dC2_sameParameters_60 : decode cC2_sameParameters 60 = .ok (.iconst 1, 1) := by decide +kernel
theorem dC2_sameParameters_61 : decode cC2_sameParameters 61 = .ok (.ireturn, 1) := by decide +kernel
theorem dC2_isToldTwice_0 : decode cC2_isToldTwice 0 = .ok (.iconst 0, 1) := by decide +kernel
theorem dC2_isToldTwice_1 : decode cC2_isToldTwice 1 = .ok (.istore_n 2, 1) := by decide +kernel
theorem dC2_isToldTwice_2 : decode cC2_isToldTwice 2 = .ok (.iload_n 2, 1) := by decide +kernel
theorem dC2_isToldTwice_3 : decode cC2_isToldTwice 3 = .ok (.aload_n 0, 1) := by decide +kernel
theorem dC2_isToldTwice_4 : decode cC2_isToldTwice 4 = .ok (.getfield 45, 3) := by decide +kernel
theorem dC2_isToldTwice_7 : decode cC2_isToldTwice 7 = .ok (.if_icmp .ge 50, 3) := by decide +kernel
theorem dC2_isToldTwice_10 : decode cC2_isToldTwice 10 = .ok (.aload_n 0, 1) := by decide +kernel
theorem dC2_isToldTwice_11 : decode cC2_isToldTwice 11 = .ok (.getfield 15, 3) := by decide +kernel
theorem dC2_isToldTwice_14 : decode cC2_isToldTwice 14 = .ok (.iload_n 2, 1) := by decide +kernel
theorem dC2_isToldTwice_15 : decode cC2_isToldTwice 15 = .ok (.iaload, 1) := by decide +kernel
theorem dC2_isToldTwice_16 : decode cC2_isToldTwice 16 = .ok (.aload_n 0, 1) := by decide +kernel
theorem dC2_isToldTwice_17 : decode cC2_isToldTwice 17 = .ok (.getfield 15, 3) := by decide +kernel
theorem dC2_isToldTwice_20 : decode cC2_isToldTwice 20 = .ok (.iload_n 1, 1) := by decide +kernel
theorem dC2_isToldTwice_21 : decode cC2_isToldTwice 21 = .ok (.iaload, 1) := by decide +kernel
theorem dC2_isToldTwice_22 : decode cC2_isToldTwice 22 = .ok (.if_icmp .ne 29, 3) := by decide +kernel
theorem dC2_isToldTwice_25 : decode cC2_isToldTwice 25 = .ok (.aload_n 0, 1) := by decide +kernel
theorem dC2_isToldTwice_26 : decode cC2_isToldTwice 26 = .ok (.getfield 19, 3) := by decide +kernel
theorem dC2_isToldTwice_29 : decode cC2_isToldTwice 29 = .ok (.iload_n 2, 1) := by decide +kernel
theorem dC2_isToldTwice_30 : decode cC2_isToldTwice 30 = .ok (.iaload, 1) := by decide +kernel
theorem dC2_isToldTwice_31 : decode cC2_isToldTwice 31 = .ok (.aload_n 0, 1) := by decide +kernel
theorem dC2_isToldTwice_32 : decode cC2_isToldTwice 32 = .ok (.getfield 19, 3) := by decide +kernel
theorem dC2_isToldTwice_35 : decode cC2_isToldTwice 35 = .ok (.iload_n 1, 1) := by decide +kernel
theorem dC2_isToldTwice_36 : decode cC2_isToldTwice 36 = .ok (.iaload, 1) := by decide +kernel
theorem dC2_isToldTwice_37 : decode cC2_isToldTwice 37 = .ok (.if_icmp .ne 14, 3) := by decide +kernel
theorem dC2_isToldTwice_40 : decode cC2_isToldTwice 40 = .ok (.aload_n 0, 1) := by decide +kernel
theorem dC2_isToldTwice_41 : decode cC2_isToldTwice 41 = .ok (.iload_n 2, 1) := by decide +kernel
theorem dC2_isToldTwice_42 : decode cC2_isToldTwice 42 = .ok (.iload_n 1, 1) := by decide +kernel
theorem dC2_isToldTwice_43 : decode cC2_isToldTwice 43 = .ok (.invokevirtual 96, 3) := by decide +kernel
theorem dC2_isToldTwice_46 : decode cC2_isToldTwice 46 = .ok (.ifCond .eq 5, 3) := by decide +kernel
theorem dC2_isToldTwice_49 : decode cC2_isToldTwice 49 = .ok (.iconst 1, 1) := by decide +kernel
theorem dC2_isToldTwice_50 : decode cC2_isToldTwice 50 = .ok (.ireturn, 1) := by decide +kernel
theorem dC2_isToldTwice_51 : decode cC2_isToldTwice 51 = .ok (.iinc 2 1, 3) := by decide +kernel
theorem dC2_isToldTwice_54 : decode cC2_isToldTwice 54 = .ok (.goto (-52), 3) := by decide +kernel
theorem dC2_isToldTwice_57 : decode cC2_isToldTwice 57 = .ok (.iconst 0, 1) := by decide +kernel
theorem dC2_isToldTwice_58 : decode cC2_isToldTwice 58 = .ok (.ireturn, 1) := by decide +kernel
theorem dC2_keepDraft_0 : decode cC2_keepDraft 0 = .ok (.aload_n 0, 1) := by decide +kernel
theorem dC2_keepDraft_1 : decode cC2_keepDraft 1 = .ok (.getfield 45, 3) := by decide +kernel
theorem dC2_keepDraft_4 : decode cC2_keepDraft 4 = .ok (.bipush 60, 2) := by decide +kernel
theorem dC2_keepDraft_6 : decode cC2_keepDraft 6 = .ok (.if_icmp .ge 36, 3) := by decide +kernel
theorem dC2_keepDraft_9 : decode cC2_keepDraft 9 = .ok (.aload_n 0, 1) := by decide +kernel
theorem dC2_keepDraft_10 : decode cC2_keepDraft 10 = .ok (.aload_n 0, 1) := by decide +kernel
theorem dC2_keepDraft_11 : decode cC2_keepDraft 11 = .ok (.getfield 45, 3) := by decide +kernel
theorem dC2_keepDraft_14 : decode cC2_keepDraft 14 = .ok (.invokevirtual 49, 3) := by decide +kernel
theorem dC2_keepDraft_17 : decode cC2_keepDraft 17 = .ok (.ifCond .eq 25, 3) := by decide +kernel
theorem dC2_keepDraft_20 : decode cC2_keepDraft 20 = .ok (.aload_n 0, 1) := by decide +kernel
theorem dC2_keepDraft_21 : decode cC2_keepDraft 21 = .ok (.aload_n 0, 1) := by decide +kernel
theorem dC2_keepDraft_22 : decode cC2_keepDraft 22 = .ok (.getfield 45, 3) := by decide +kernel
theorem dC2_keepDraft_25 : decode cC2_keepDraft 25 = .ok (.invokevirtual 53, 3) := by decide +kernel
theorem dC2_keepDraft_28 : decode cC2_keepDraft 28 = .ok (.ifCond .eq 14, 3) := by decide +kernel
theorem dC2_keepDraft_31 : decode cC2_keepDraft 31 = .ok (.aload_n 0, 1) := by decide +kernel
theorem dC2_keepDraft_32 : decode cC2_keepDraft 32 = .ok (.aload_n 0, 1) := by decide +kernel
theorem dC2_keepDraft_33 : decode cC2_keepDraft 33 = .ok (.getfield 45, 3) := by decide +kernel
theorem dC2_keepDraft_36 : decode cC2_keepDraft 36 = .ok (.invokevirtual 56, 3) := by decide +kernel
theorem dC2_keepDraft_39 : decode cC2_keepDraft 39 = .ok (.ifCond .eq 6, 3) := by decide +kernel
theorem dC2_keepDraft_42 : decode cC2_keepDraft 42 = .ok (.bipush (-2), 2) := by decide +kernel
theorem dC2_keepDraft_44 : decode cC2_keepDraft 44 = .ok (.ireturn, 1) := by decide +kernel
theorem dC2_keepDraft_45 : decode cC2_keepDraft 45 = .ok (.aload_n 0, 1) := by decide +kernel
theorem dC2_keepDraft_46 : decode cC2_keepDraft 46 = .ok (.invokevirtual 59, 3) := by decide +kernel
theorem dC2_keepDraft_49 : decode cC2_keepDraft 49 = .ok (.aload_n 0, 1) := by decide +kernel
theorem dC2_keepDraft_50 : decode cC2_keepDraft 50 = .ok (.dup, 1) := by decide +kernel
theorem dC2_keepDraft_51 : decode cC2_keepDraft 51 = .ok (.getfield 45, 3) := by decide +kernel
theorem dC2_keepDraft_54 : decode cC2_keepDraft 54 = .ok (.iconst 1, 1) := by decide +kernel
theorem dC2_keepDraft_55 : decode cC2_keepDraft 55 = .ok (.iadd, 1) := by decide +kernel
theorem dC2_keepDraft_56 : decode cC2_keepDraft 56 = .ok (.putfield 45, 3) := by decide +kernel
theorem dC2_keepDraft_59 : decode cC2_keepDraft 59 = .ok (.aload_n 0, 1) := by decide +kernel
theorem dC2_keepDraft_60 : decode cC2_keepDraft 60 = .ok (.getfield 45, 3) := by decide +kernel
theorem dC2_keepDraft_63 : decode cC2_keepDraft 63 = .ok (.iconst 1, 1) := by decide +kernel
theorem dC2_keepDraft_64 : decode cC2_keepDraft 64 = .ok (.isub, 1) := by decide +kernel
theorem dC2_keepDraft_65 : decode cC2_keepDraft 65 = .ok (.ireturn, 1) := by decide +kernel
theorem dC0_member_0 : decode cC0_member 0 = .ok (.aload_n 0, 1) := by decide +kernel
theorem dC0_member_1 : decode cC0_member 1 = .ok (.getfield 21, 3) := by decide +kernel
theorem dC0_member_4 : decode cC0_member 4 = .ok (.iload_n 1, 1) := by decide +kernel
theorem dC0_member_5 : decode cC0_member 5 = .ok (.iload_n 2, 1) := by decide +kernel
theorem dC0_member_6 : decode cC0_member 6 = .ok (.iload_n 3, 1) := by decide +kernel
theorem dC0_member_7 : decode cC0_member 7 = .ok (.iload 4, 2) := by decide +kernel
theorem dC0_member_9 : decode cC0_member 9 = .ok (.invokevirtual 63, 3) := by decide +kernel
theorem dC0_member_12 : decode cC0_member 12 = .ok (.aload_n 0, 1) := by decide +kernel
theorem dC0_member_13 : decode cC0_member 13 = .ok (.getfield 21, 3) := by decide +kernel
theorem dC0_member_16 : decode cC0_member 16 = .ok (.iload 5, 2) := by decide +kernel
theorem dC0_member_18 : decode cC0_member 18 = .ok (.iload 6, 2) := by decide +kernel
theorem dC0_member_20 : decode cC0_member 20 = .ok (.iload 7, 2) := by decide +kernel
theorem dC0_member_22 : decode cC0_member 22 = .ok (.iload 8, 2) := by decide +kernel
theorem dC0_member_24 : decode cC0_member 24 = .ok (.iload 9, 2) := by decide +kernel
theorem dC0_member_26 : decode cC0_member 26 = .ok (.invokevirtual 67, 3) := by decide +kernel
theorem dC0_member_29 : decode cC0_member 29 = .ok (.aload_n 0, 1) := by decide +kernel
theorem dC0_member_30 : decode cC0_member 30 = .ok (.getfield 21, 3) := by decide +kernel
theorem dC0_member_33 : decode cC0_member 33 = .ok (.invokevirtual 71, 3) := by decide +kernel
theorem dC0_member_36 : decode cC0_member 36 = .ok (.ireturn, 1) := by decide +kernel
theorem dC1_isType_0 : decode cC1_isType 0 = .ok (.aload_n 0, 1) := by decide +kernel
theorem dC1_isType_1 : decode cC1_isType 1 = .ok (.iload_n 1, 1) := by decide +kernel
theorem dC1_isType_2 : decode cC1_isType 2 = .ok (.invokevirtual 40, 3) := by decide +kernel
theorem dC1_isType_5 : decode cC1_isType 5 = .ok (.ifCond .ne 17, 3) := by decide +kernel
theorem dC1_isType_8 : decode cC1_isType 8 = .ok (.iload_n 1, 1) := by decide +kernel
theorem dC1_isType_9 : decode cC1_isType 9 = .ok (.bipush 10, 2) := by decide +kernel
theorem dC1_isType_11 : decode cC1_isType 11 = .ok (.if_icmp .eq 11, 3) := by decide +kernel
theorem dC1_isType_14 : decode cC1_isType 14 = .ok (.aload_n 0, 1) := by decide +kernel
theorem dC1_isType_15 : decode cC1_isType 15 = .ok (.iload_n 1, 1) := by decide +kernel
theorem dC1_isType_16 : decode cC1_isType 16 = .ok (.invokevirtual 43, 3) := by decide +kernel
theorem dC1_isType_19 : decode cC1_isType 19 = .ok (.ifCond .eq 7, 3) := by decide +kernel
theorem dC1_isType_22 : decode cC1_isType 22 = .ok (.iconst 1, 1) := by decide +kernel
theorem dC1_isType_23 : decode cC1_isType 23 = .ok (.goto 4, 3) := by decide +kernel
theorem dC1_isType_26 : decode cC1_isType 26 = .ok (.iconst 0, 1) := by decide +kernel
theorem dC1_isType_27 : decode cC1_isType 27 = .ok (.ireturn, 1) := by decide +kernel
theorem dC1_isPrimitive_0 : decode cC1_isPrimitive 0 = .ok (.iload_n 1, 1) := by decide +kernel
theorem dC1_isPrimitive_1 : decode cC1_isPrimitive 1 = .ok (.ifCond .lt 12, 3) := by decide +kernel
theorem dC1_isPrimitive_4 : decode cC1_isPrimitive 4 = .ok (.iload_n 1, 1) := by decide +kernel
theorem dC1_isPrimitive_5 : decode cC1_isPrimitive 5 = .ok (.iconst 3, 1) := by decide +kernel
theorem dC1_isPrimitive_6 : decode cC1_isPrimitive 6 = .ok (.if_icmp .gt 7, 3) := by decide +kernel
theorem dC1_isPrimitive_9 : decode cC1_isPrimitive 9 = .ok (.iconst 1, 1) := by decide +kernel
theorem dC1_isPrimitive_10 : decode cC1_isPrimitive 10 = .ok (.goto 4, 3) := by decide +kernel
theorem dC1_isPrimitive_13 : decode cC1_isPrimitive 13 = .ok (.iconst 0, 1) := by decide +kernel
