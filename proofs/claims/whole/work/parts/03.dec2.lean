theorem dC1_isPrimitive_14 : decode cC1_isPrimitive 14 = .ok (.ireturn, 1) := by decide +kernel
theorem dC1_accepts_0 : decode cC1_accepts 0 = .ok (.iload_n 1, 1) := by decide +kernel
theorem dC1_accepts_1 : decode cC1_accepts 1 = .ok (.istore 4, 2) := by decide +kernel
theorem dC1_accepts_3 : decode cC1_accepts 3 = .ok (.aload_n 0, 1) := by decide +kernel
theorem dC1_accepts_4 : decode cC1_accepts 4 = .ok (.iload_n 1, 1) := by decide +kernel
theorem dC1_accepts_5 : decode cC1_accepts 5 = .ok (.invokevirtual 62, 3) := by decide +kernel
theorem dC1_accepts_8 : decode cC1_accepts 8 = .ok (.ifCond .eq 11, 3) := by decide +kernel
theorem dC1_accepts_11 : decode cC1_accepts 11 = .ok (.iload_n 1, 1) := by decide +kernel
theorem dC1_accepts_12 : decode cC1_accepts 12 = .ok (.iconst 4, 1) := by decide +kernel
theorem dC1_accepts_13 : decode cC1_accepts 13 = .ok (.iadd, 1) := by decide +kernel
theorem dC1_accepts_14 : decode cC1_accepts 14 = .ok (.istore 4, 2) := by decide +kernel
theorem dC1_accepts_16 : decode cC1_accepts 16 = .ok (.goto 19, 3) := by decide +kernel
theorem dC1_accepts_19 : decode cC1_accepts 19 = .ok (.iload_n 1, 1) := by decide +kernel
theorem dC1_accepts_20 : decode cC1_accepts 20 = .ok (.iconst 4, 1) := by decide +kernel
theorem dC1_accepts_21 : decode cC1_accepts 21 = .ok (.if_icmp .lt 14, 3) := by decide +kernel
theorem dC1_accepts_24 : decode cC1_accepts 24 = .ok (.iload_n 1, 1) := by decide +kernel
theorem dC1_accepts_25 : decode cC1_accepts 25 = .ok (.bipush 7, 2) := by decide +kernel
theorem dC1_accepts_27 : decode cC1_accepts 27 = .ok (.if_icmp .gt 8, 3) := by decide +kernel
theorem dC1_accepts_30 : decode cC1_accepts 30 = .ok (.iload_n 1, 1) := by decide +kernel
theorem dC1_accepts_31 : decode cC1_accepts 31 = .ok (.iconst 4, 1) := by decide +kernel
theorem dC1_accepts_32 : decode cC1_accepts 32 = .ok (.isub, 1) := by decide +kernel
theorem dC1_accepts_33 : decode cC1_accepts 33 = .ok (.istore 4, 2) := by decide +kernel
theorem dC1_accepts_35 : decode cC1_accepts 35 = .ok (.aload_n 0, 1) := by decide +kernel
theorem dC1_accepts_36 : decode cC1_accepts 36 = .ok (.iload_n 1, 1) := by decide +kernel
theorem dC1_accepts_37 : decode cC1_accepts 37 = .ok (.iload_n 2, 1) := by decide +kernel
theorem dC1_accepts_38 : decode cC1_accepts 38 = .ok (.invokevirtual 58, 3) := by decide +kernel
theorem dC1_accepts_41 : decode cC1_accepts 41 = .ok (.ifCond .ne 17, 3) := by decide +kernel
theorem dC1_accepts_44 : decode cC1_accepts 44 = .ok (.iload_n 3, 1) := by decide +kernel
theorem dC1_accepts_45 : decode cC1_accepts 45 = .ok (.ifCond .eq 17, 3) := by decide +kernel
theorem dC1_accepts_48 : decode cC1_accepts 48 = .ok (.aload_n 0, 1) := by decide +kernel
theorem dC1_accepts_49 : decode cC1_accepts 49 = .ok (.iload 4, 2) := by decide +kernel
theorem dC1_accepts_51 : decode cC1_accepts 51 = .ok (.iload_n 2, 1) := by decide +kernel
theorem dC1_accepts_52 : decode cC1_accepts 52 = .ok (.invokevirtual 58, 3) := by decide +kernel
theorem dC1_accepts_55 : decode cC1_accepts 55 = .ok (.ifCond .eq 7, 3) := by decide +kernel
theorem dC1_accepts_58 : decode cC1_accepts 58 = .ok (.iconst 1, 1) := by decide +kernel
theorem dC1_accepts_59 : decode cC1_accepts 59 = .ok (.goto 4, 3) := by decide +kernel
theorem dC1_accepts_62 : decode cC1_accepts 62 = .ok (.iconst 0, 1) := by decide +kernel
theorem dC1_accepts_63 : decode cC1_accepts 63 = .ok (.ireturn, 1) := by decide +kernel
theorem dC0_is_0 : decode cC0_is 0 = .ok (.aload_n 0, 1) := by decide +kernel
theorem dC0_is_1 : decode cC0_is 1 = .ok (.getfield 10, 3) := by decide +kernel
theorem dC0_is_4 : decode cC0_is 4 = .ok (.iload_n 1, 1) := by decide +kernel
theorem dC0_is_5 : decode cC0_is 5 = .ok (.invokevirtual 75, 3) := by decide +kernel
theorem dC0_is_8 : decode cC0_is 8 = .ok (.ifCond .eq 14, 3) := by decide +kernel
theorem dC0_is_11 : decode cC0_is 11 = .ok (.aload_n 0, 1) := by decide +kernel
theorem dC0_is_12 : decode cC0_is 12 = .ok (.getfield 10, 3) := by decide +kernel
theorem dC0_is_15 : decode cC0_is 15 = .ok (.iload_n 2, 1) := by decide +kernel
theorem dC0_is_16 : decode cC0_is 16 = .ok (.invokevirtual 75, 3) := by decide +kernel
theorem dC0_is_19 : decode cC0_is 19 = .ok (.ifCond .ne 6, 3) := by decide +kernel
theorem dC0_is_22 : decode cC0_is 22 = .ok (.bipush (-2), 2) := by decide +kernel
theorem dC0_is_24 : decode cC0_is 24 = .ok (.ireturn, 1) := by decide +kernel
theorem dC0_is_25 : decode cC0_is 25 = .ok (.aload_n 0, 1) := by decide +kernel
theorem dC0_is_26 : decode cC0_is 26 = .ok (.getfield 10, 3) := by decide +kernel
theorem dC0_is_29 : decode cC0_is 29 = .ok (.iload_n 1, 1) := by decide +kernel
theorem dC0_is_30 : decode cC0_is 30 = .ok (.iload_n 2, 1) := by decide +kernel
theorem dC0_is_31 : decode cC0_is 31 = .ok (.iconst 0, 1) := by decide +kernel
theorem dC0_is_32 : decode cC0_is 32 = .ok (.invokevirtual 78, 3) := by decide +kernel
theorem dC0_is_35 : decode cC0_is 35 = .ok (.ifCond .eq 7, 3) := by decide +kernel
theorem dC0_is_38 : decode cC0_is 38 = .ok (.iconst 1, 1) := by decide +kernel
theorem dC0_is_39 : decode cC0_is 39 = .ok (.goto 4, 3) := by decide +kernel
theorem dC0_is_42 : decode cC0_is 42 = .ok (.iconst 0, 1) := by decide +kernel
theorem dC0_is_43 : decode cC0_is 43 = .ok (.ireturn, 1) := by decide +kernel
theorem dC0_fits_0 : decode cC0_fits 0 = .ok (.aload_n 0, 1) := by decide +kernel
theorem dC0_fits_1 : decode cC0_fits 1 = .ok (.getfield 10, 3) := by decide +kernel
theorem dC0_fits_4 : decode cC0_fits 4 = .ok (.iload_n 1, 1) := by decide +kernel
theorem dC0_fits_5 : decode cC0_fits 5 = .ok (.invokevirtual 75, 3) := by decide +kernel
theorem dC0_fits_8 : decode cC0_fits 8 = .ok (.ifCond .eq 14, 3) := by decide +kernel
theorem dC0_fits_11 : decode cC0_fits 11 = .ok (.aload_n 0, 1) := by decide +kernel
theorem dC0_fits_12 : decode cC0_fits 12 = .ok (.getfield 10, 3) := by decide +kernel
theorem dC0_fits_15 : decode cC0_fits 15 = .ok (.iload_n 2, 1) := by decide +kernel
theorem dC0_fits_16 : decode cC0_fits 16 = .ok (.invokevirtual 75, 3) := by decide +kernel
theorem dC0_fits_19 : decode cC0_fits 19 = .ok (.ifCond .ne 6, 3) := by decide +kernel
theorem dC0_fits_22 : decode cC0_fits 22 = .ok (.bipush (-2), 2) := by decide +kernel
theorem dC0_fits_24 : decode cC0_fits 24 = .ok (.ireturn, 1) := by decide +kernel
theorem dC0_fits_25 : decode cC0_fits 25 = .ok (.aload_n 0, 1) := by decide +kernel
theorem dC0_fits_26 : decode cC0_fits 26 = .ok (.getfield 10, 3) := by decide +kernel
theorem dC0_fits_29 : decode cC0_fits 29 = .ok (.iload_n 1, 1) := by decide +kernel
theorem dC0_fits_30 : decode cC0_fits 30 = .ok (.iload_n 2, 1) := by decide +kernel
theorem dC0_fits_31 : decode cC0_fits 31 = .ok (.iconst 1, 1) := by decide +kernel
theorem dC0_fits_32 : decode cC0_fits 32 = .ok (.invokevirtual 78, 3) := by decide +kernel
theorem dC0_fits_35 : decode cC0_fits 35 = .ok (.ifCond .eq 7, 3) := by decide +kernel
theorem dC0_fits_38 : decode cC0_fits 38 = .ok (.iconst 1, 1) := by decide +kernel
theorem dC0_fits_39 : decode cC0_fits 39 = .ok (.goto 4, 3) := by decide +kernel
theorem dC0_fits_42 : decode cC0_fits 42 = .ok (.iconst 0, 1) := by decide +kernel
theorem dC0_fits_43 : decode cC0_fits 43 = .ok (.ireturn, 1) := by decide +kernel
theorem dC1_size_0 : decode cC1_size 0 = .ok (.aload_n 0, 1) := by decide +kernel
theorem dC1_size_1 : decode cC1_size 1 = .ok (.getfield 32, 3) := by decide +kernel
theorem dC1_size_4 : decode cC1_size 4 = .ok (.ireturn, 1) := by decide +kernel
theorem dC2_overrides_0 : decode cC2_overrides 0 = .ok (.aload_n 0, 1) := by decide +kernel
theorem dC2_overrides_1 : decode cC2_overrides 1 = .ok (.getfield 22, 3) := by decide +kernel
theorem dC2_overrides_4 : decode cC2_overrides 4 = .ok (.iload_n 1, 1) := by decide +kernel
theorem dC2_overrides_5 : decode cC2_overrides 5 = .ok (.iaload, 1) := by decide +kernel
theorem dC2_overrides_6 : decode cC2_overrides 6 = .ok (.aload_n 0, 1) := by decide +kernel
theorem dC2_overrides_7 : decode cC2_overrides 7 = .ok (.getfield 22, 3) := by decide +kernel
theorem dC2_overrides_10 : decode cC2_overrides 10 = .ok (.iload_n 2, 1) := by decide +kernel
theorem dC2_overrides_11 : decode cC2_overrides 11 = .ok (.iaload, 1) := by decide +kernel
theorem dC2_overrides_12 : decode cC2_overrides 12 = .ok (.ior, 1) := by decide +kernel
theorem dC2_overrides_13 : decode cC2_overrides 13 = .ok (.iconst 3, 1) := by decide +kernel
theorem dC2_overrides_14 : decode cC2_overrides 14 = .ok (.iand, 1) := by decide +kernel
theorem dC2_overrides_15 : decode cC2_overrides 15 = .ok (.ifCond .eq 7, 3) := by decide +kernel
theorem dC2_overrides_18 : decode cC2_overrides 18 = .ok (.iconst 1, 1) := by decide +kernel
theorem dC2_overrides_19 : decode cC2_overrides 19 = .ok (.goto 4, 3) := by decide +kernel
theorem dC2_overrides_22 : decode cC2_overrides 22 = .ok (.iconst 0, 1) := by decide +kernel
theorem dC2_overrides_23 : decode cC2_overrides 23 = .ok (.istore_n 3, 1) := by decide +kernel
theorem dC2_overrides_24 : decode cC2_overrides 24 = .ok (.iload_n 3, 1) := by decide +kernel
theorem dC2_overrides_25 : decode cC2_overrides 25 = .ok (.ifCond .ne 33, 3) := by decide +kernel
theorem dC2_overrides_28 : decode cC2_overrides 28 = .ok (.aload_n 0, 1) := by decide +kernel
theorem dC2_overrides_29 : decode cC2_overrides 29 = .ok (.getfield 19, 3) := by decide +kernel
theorem dC2_overrides_32 : decode cC2_overrides 32 = .ok (.iload_n 1, 1) := by decide +kernel
theorem dC2_overrides_33 : decode cC2_overrides 33 = .ok (.iaload, 1) := by decide +kernel
theorem dC2_overrides_34 : decode cC2_overrides 34 = .ok (.aload_n 0, 1) := by decide +kernel
theorem dC2_overrides_35 : decode cC2_overrides 35 = .ok (.getfield 19, 3) := by decide +kernel
theorem dC2_overrides_38 : decode cC2_overrides 38 = .ok (.iload_n 2, 1) := by decide +kernel
theorem dC2_overrides_39 : decode cC2_overrides 39 = .ok (.iaload, 1) := by decide +kernel
theorem dC2_overrides_40 : decode cC2_overrides 40 = .ok (.if_icmp .ne 18, 3) := by decide +kernel
theorem dC2_overrides_43 : decode cC2_overrides 43 = .ok (.aload_n 0, 1) := by decide +kernel
theorem dC2_overrides_44 : decode cC2_overrides 44 = .ok (.getfield 15, 3) := by decide +kernel
theorem dC2_overrides_47 : decode cC2_overrides 47 = .ok (.iload_n 1, 1) := by decide +kernel
theorem dC2_overrides_48 : decode cC2_overrides 48 = .ok (.iaload, 1) := by decide +kernel
theorem dC2_overrides_49 : decode cC2_overrides 49 = .ok (.aload_n 0, 1) := by decide +kernel
theorem dC2_overrides_50 : decode cC2_overrides 50 = .ok (.getfield 15, 3) := by decide +kernel
theorem dC2_overrides_53 : decode cC2_overrides 53 = .ok (.iload_n 2, 1) := by decide +kernel
theorem dC2_overrides_54 : decode cC2_overrides 54 = .ok (.iaload, 1) := by decide +kernel
theorem dC2_overrides_55 : decode cC2_overrides 55 = .ok (.if_icmp .ne 5, 3) := by decide +kernel
theorem dC2_overrides_58 : decode cC2_overrides 58 = .ok (.iconst 0, 1) := by decide +kernel
theorem dC2_overrides_59 : decode cC2_overrides 59 = .ok (.ireturn, 1) := by decide +kernel
theorem dC2_overrides_60 : decode cC2_overrides 60 = .ok (.aload_n 0, 1) := by decide +kernel
theorem dC2_overrides_61 : decode cC2_overrides 61 = .ok (.getfield 9, 3) := by decide +kernel
theorem dC2_overrides_64 : decode cC2_overrides 64 = .ok (.aload_n 0, 1) := by decide +kernel
theorem dC2_overrides_65 : decode cC2_overrides 65 = .ok (.getfield 15, 3) := by decide +kernel
theorem dC2_overrides_68 : decode cC2_overrides 68 = .ok (.iload_n 1, 1) := by decide +kernel
theorem dC2_overrides_69 : decode cC2_overrides 69 = .ok (.iaload, 1) := by decide +kernel
theorem dC2_overrides_70 : decode cC2_overrides 70 = .ok (.aload_n 0, 1) := by decide +kernel
theorem dC2_overrides_71 : decode cC2_overrides 71 = .ok (.getfield 15, 3) := by decide +kernel
theorem dC2_overrides_74 : decode cC2_overrides 74 = .ok (.iload_n 2, 1) := by decide +kernel
theorem dC2_overrides_75 : decode cC2_overrides 75 = .ok (.iaload, 1) := by decide +kernel
theorem dC2_overrides_76 : decode cC2_overrides 76 = .ok (.invokevirtual 112, 3) := by decide +kernel
theorem dC2_overrides_79 : decode cC2_overrides 79 = .ok (.ifCond .eq 16, 3) := by decide +kernel
theorem dC2_overrides_82 : decode cC2_overrides 82 = .ok (.aload_n 0, 1) := by decide +kernel
theorem dC2_overrides_83 : decode cC2_overrides 83 = .ok (.iload_n 1, 1) := by decide +kernel
theorem dC2_overrides_84 : decode cC2_overrides 84 = .ok (.iload_n 2, 1) := by decide +kernel
theorem dC2_overrides_85 : decode cC2_overrides 85 = .ok (.invokevirtual 96, 3) := by decide +kernel
theorem dC2_overrides_88 : decode cC2_overrides 88 = .ok (.ifCond .eq 7, 3) := by decide +kernel
theorem dC2_overrides_91 : decode cC2_overrides 91 = .ok (.iconst 1, 1) := by decide +kernel
theorem dC2_overrides_92 : decode cC2_overrides 92 = .ok (.goto 4, 3) := by decide +kernel
theorem dC2_overrides_95 : decode cC2_overrides 95 = .ok (.iconst 0, 1) := by decide +kernel
theorem dC2_overrides_96 : decode cC2_overrides 96 = .ok (.ireturn, 1) := by decide +kernel
theorem dC2_isOverridden_0 : decode cC2_isOverridden 0 = .ok (.iconst 0, 1) := by decide +kernel
theorem dC2_isOverridden_1 : decode cC2_isOverridden 1 = .ok (.istore_n 3, 1) := by decide +kernel
theorem dC2_isOverridden_2 : decode cC2_isOverridden 2 = .ok (.iload_n 3, 1) := by decide +kernel
theorem dC2_isOverridden_3 : decode cC2_isOverridden 3 = .ok (.aload_n 0, 1) := by decide +kernel
theorem dC2_isOverridden_4 : decode cC2_isOverridden 4 = .ok (.getfield 45, 3) := by decide +kernel
theorem dC2_isOverridden_7 : decode cC2_isOverridden 7 = .ok (.if_icmp .ge 37, 3) := by decide +kernel
theorem dC2_isOverridden_10 : decode cC2_isOverridden 10 = .ok (.aload_n 0, 1) := by decide +kernel
theorem dC2_isOverridden_11 : decode cC2_isOverridden 11 = .ok (.getfield 9, 3) := by decide +kernel
theorem dC2_isOverridden_14 : decode cC2_isOverridden 14 = .ok (.iload_n 2, 1) := by decide +kernel
theorem dC2_isOverridden_15 : decode cC2_isOverridden 15 = .ok (.aload_n 0, 1) := by decide +kernel
theorem dC2_isOverridden_16 : decode cC2_isOverridden 16 = .ok (.getfield 15, 3) := by decide +kernel
theorem dC2_isOverridden_19 : decode cC2_isOverridden 19 = .ok (.iload_n 3, 1) := by decide +kernel
theorem dC2_isOverridden_20 : decode cC2_isOverridden 20 = .ok (.iaload, 1) := by decide +kernel
theorem dC2_isOverridden_21 : decode cC2_isOverridden 21 = .ok (.invokevirtual 112, 3) := by decide +kernel
theorem dC2_isOverridden_24 : decode cC2_isOverridden 24 = .ok (.ifCond .eq 14, 3) := by decide +kernel
theorem dC2_isOverridden_27 : decode cC2_isOverridden 27 = .ok (.aload_n 0, 1) := by decide +kernel
theorem dC2_isOverridden_28 : decode cC2_isOverridden 28 = .ok (.iload_n 3, 1) := by decide +kernel
theorem dC2_isOverridden_29 : decode cC2_isOverridden 29 = .ok (.iload_n 1, 1) := by decide +kernel
theorem dC2_isOverridden_30 : decode cC2_isOverridden 30 = .ok (.invokevirtual 118, 3) := by decide +kernel
theorem dC2_isOverridden_33 : decode cC2_isOverridden 33 = .ok (.ifCond .eq 5, 3) := by decide +kernel
theorem dC2_isOverridden_36 : decode cC2_isOverridden 36 = .ok (.iconst 1, 1) := by decide +kernel
theorem dC2_isOverridden_37 : decode cC2_isOverridden 37 = .ok (.ireturn, 1) := by decide +kernel
theorem dC2_isOverridden_38 : decode cC2_isOverridden 38 = .ok (.iinc 3 1, 3) := by decide +kernel
theorem dC2_isOverridden_41 : decode cC2_isOverridden 41 = .ok (.goto (-39), 3) := by decide +kernel
theorem dC2_isOverridden_44 : decode cC2_isOverridden 44 = .ok (.iconst 0, 1) := by decide +kernel
theorem dC2_isOverridden_45 : decode cC2_isOverridden 45 = .ok (.ireturn, 1) := by decide +kernel
theorem dC2_isSeen_0 : decode cC2_isSeen 0 = .ok (.aload_n 0, 1) := by decide +kernel
theorem dC2_isSeen_1 : decode cC2_isSeen 1 = .ok (.getfield 9, 3) := by decide +kernel
theorem dC2_isSeen_4 : decode cC2_isSeen 4 = .ok (.iload_n 2, 1) := by decide +kernel
theorem dC2_isSeen_5 : decode cC2_isSeen 5 = .ok (.aload_n 0, 1) := by decide +kernel
theorem dC2_isSeen_6 : decode cC2_isSeen 6 = .ok (.getfield 15, 3) := by decide +kernel
theorem dC2_isSeen_9 : decode cC2_isSeen 9 = .ok (.iload_n 1, 1) := by decide +kernel
theorem dC2_isSeen_10 : decode cC2_isSeen 10 = .ok (.iaload, 1) := by decide +kernel
theorem dC2_isSeen_11 : decode cC2_isSeen 11 = .ok (.invokevirtual 112, 3) := by decide +kernel
theorem dC2_isSeen_14 : decode cC2_isSeen 14 = .ok (.ifCond .ne 5, 3) := by decide +kernel
theorem dC2_isSeen_17 : decode cC2_isSeen 17 = .ok (.iconst 0, 1) := by decide +kernel
theorem dC2_isSeen_18 : decode cC2_isSeen 18 = .ok (.ireturn, 1) := by decide +kernel
theorem dC2_isSeen_19 : decode cC2_isSeen 19 = .ok (.aload_n 0, 1) := by decide +kernel
theorem dC2_isSeen_20 : decode cC2_isSeen 20 = .ok (.iload_n 1, 1) := by decide +kernel
theorem dC2_isSeen_21 : decode cC2_isSeen 21 = .ok (.invokevirtual 74, 3) := by decide +kernel
theorem dC2_isSeen_24 : decode cC2_isSeen 24 = .ok (.ifCond .eq 21, 3) := by decide +kernel
theorem dC2_isSeen_27 : decode cC2_isSeen 27 = .ok (.aload_n 0, 1) := by decide +kernel
theorem dC2_isSeen_28 : decode cC2_isSeen 28 = .ok (.getfield 15, 3) := by decide +kernel
theorem dC2_isSeen_31 : decode cC2_isSeen 31 = .ok (.iload_n 1, 1) := by decide +kernel
theorem dC2_isSeen_32 : decode cC2_isSeen 32 = .ok (.iaload, 1) := by decide +kernel
theorem dC2_isSeen_33 : decode cC2_isSeen 33 = .ok (.iload_n 3, 1) := by decide +kernel
theorem dC2_isSeen_34 : decode cC2_isSeen 34 = .ok (.if_icmp .ne 7, 3) := by decide +kernel
theorem dC2_isSeen_37 : decode cC2_isSeen 37 = .ok (.iconst 1, 1) := by decide +kernel
theorem dC2_isSeen_38 : decode cC2_isSeen 38 = .ok (.goto 21, 3) := by decide +kernel
theorem dC2_isSeen_41 : decode cC2_isSeen 41 = .ok (.iconst 0, 1) := by decide +kernel
theorem dC2_isSeen_42 : decode cC2_isSeen 42 = .ok (.goto 17, 3) := by decide +kernel
theorem dC2_isSeen_45 : decode cC2_isSeen 45 = .ok (.aload_n 0, 1) := by decide +kernel
theorem dC2_isSeen_46 : decode cC2_isSeen 46 = .ok (.iload_n 1, 1) := by decide +kernel
theorem dC2_isSeen_47 : decode cC2_isSeen 47 = .ok (.iload_n 2, 1) := by decide +kernel
theorem dC2_isSeen_48 : decode cC2_isSeen 48 = .ok (.invokevirtual 115, 3) := by decide +kernel
theorem dC2_isSeen_51 : decode cC2_isSeen 51 = .ok (.ifCond .ne 7, 3) := by decide +kernel
theorem dC2_isSeen_54 : decode cC2_isSeen 54 = .ok (.iconst 1, 1) := by decide +kernel
theorem dC2_isSeen_55 : decode cC2_isSeen 55 = .ok (.goto 4, 3) := by decide +kernel
theorem dC2_isSeen_58 : decode cC2_isSeen 58 = .ok (.iconst 0, 1) := by decide +kernel
theorem dC2_isSeen_59 : decode cC2_isSeen 59 = .ok (.ireturn, 1) := by decide +kernel
theorem dC2_findFunction_0 : decode cC2_findFunction 0 = .ok (.iconst (-1), 1) := by decide +kernel
theorem dC2_findFunction_1 : decode cC2_findFunction 1 = .ok (.istore_n 2, 1) := by decide +kernel
theorem dC2_findFunction_2 : decode cC2_findFunction 2 = .ok (.iconst 0, 1) := by decide +kernel
theorem dC2_findFunction_3 : decode cC2_findFunction 3 = .ok (.istore_n 3, 1) := by decide +kernel
theorem dC2_findFunction_4 : decode cC2_findFunction 4 = .ok (.iload_n 3, 1) := by decide +kernel
theorem dC2_findFunction_5 : decode cC2_findFunction 5 = .ok (.aload_n 0, 1) := by decide +kernel
theorem dC2_findFunction_6 : decode cC2_findFunction 6 = .ok (.getfield 45, 3) := by decide +kernel
theorem dC2_findFunction_9 : decode cC2_findFunction 9 = .ok (.if_icmp .ge 66, 3) := by decide +kernel
theorem dC2_findFunction_12 : decode cC2_findFunction 12 = .ok (.aload_n 0, 1) := by decide +kernel
theorem dC2_findFunction_13 : decode cC2_findFunction 13 = .ok (.iload_n 3, 1) := by decide +kernel
theorem dC2_findFunction_14 : decode cC2_findFunction 14 = .ok (.invokevirtual 77, 3) := by decide +kernel
theorem dC2_findFunction_17 : decode cC2_findFunction 17 = .ok (.ifCond .eq 52, 3) := by decide +kernel
theorem dC2_findFunction_20 : decode cC2_findFunction 20 = .ok (.aload_n 0, 1) := by decide +kernel
theorem dC2_findFunction_21 : decode cC2_findFunction 21 = .ok (.iload_n 3, 1) := by decide +kernel
theorem dC2_findFunction_22 : decode cC2_findFunction 22 = .ok (.iload_n 1, 1) := by decide +kernel
theorem dC2_findFunction_23 : decode cC2_findFunction 23 = .ok (.iload_n 1, 1) := by decide +kernel
theorem dC2_findFunction_24 : decode cC2_findFunction 24 = .ok (.invokevirtual 108, 3) := by decide +kernel
theorem dC2_findFunction_27 : decode cC2_findFunction 27 = .ok (.ifCond .ne 6, 3) := by decide +kernel
theorem dC2_findFunction_30 : decode cC2_findFunction 30 = .ok (.goto 39, 3) := by decide +kernel
theorem dC2_findFunction_33 : decode cC2_findFunction 33 = .ok (.iload_n 2, 1) := by decide +kernel
theorem dC2_findFunction_34 : decode cC2_findFunction 34 = .ok (.iconst (-1), 1) := by decide +kernel
theorem dC2_findFunction_35 : decode cC2_findFunction 35 = .ok (.if_icmp .ne 8, 3) := by decide +kernel
theorem dC2_findFunction_38 : decode cC2_findFunction 38 = .ok (.iload_n 3, 1) := by decide +kernel
theorem dC2_findFunction_39 : decode cC2_findFunction 39 = .ok (.istore_n 2, 1) := by decide +kernel
theorem dC2_findFunction_40 : decode cC2_findFunction 40 = .ok (.goto 29, 3) := by decide +kernel
theorem dC2_findFunction_43 : decode cC2_findFunction 43 = .ok (.aload_n 0, 1) := by decide +kernel
theorem dC2_findFunction_44 : decode cC2_findFunction 44 = .ok (.getfield 19, 3) := by decide +kernel
theorem dC2_findFunction_47 : decode cC2_findFunction 47 = .ok (.iload_n 3, 1) := by decide +kernel
theorem dC2_findFunction_48 : decode cC2_findFunction 48 = .ok (.iaload, 1) := by decide +kernel
theorem dC2_findFunction_49 : decode cC2_findFunction 49 = .ok (.aload_n 0, 1) := by decide +kernel
theorem dC2_findFunction_50 : decode cC2_findFunction 50 = .ok (.getfield 19, 3) := by decide +kernel
theorem dC2_findFunction_53 : decode cC2_findFunction 53 = .ok (.iload_n 2, 1) := by decide +kernel
theorem dC2_findFunction_54 : decode cC2_findFunction 54 = .ok (.iaload, 1) := by decide +kernel
theorem dC2_findFunction_55 : decode cC2_findFunction 55 = .ok (.if_icmp .ne 12, 3) := by decide +kernel
theorem dC2_findFunction_58 : decode cC2_findFunction 58 = .ok (.aload_n 0, 1) := by decide +kernel
theorem dC2_findFunction_59 : decode cC2_findFunction 59 = .ok (.iload_n 3, 1) := by decide +kernel
theorem dC2_findFunction_60 : decode cC2_findFunction 60 = .ok (.iload_n 2, 1) := by decide +kernel
theorem dC2_findFunction_61 : decode cC2_findFunction 61 = .ok (.invokevirtual 96, 3) := by decide +kernel
theorem dC2_findFunction_64 : decode cC2_findFunction 64 = .ok (.ifCond .ne 5, 3) := by decide +kernel
theorem dC2_findFunction_67 : decode cC2_findFunction 67 = .ok (.iconst (-1), 1) := by decide +kernel
theorem dC2_findFunction_68 : decode cC2_findFunction 68 = .ok (.ireturn, 1) := by decide +kernel
theorem dC2_findFunction_69 : decode cC2_findFunction 69 = .ok (.iinc 3 1, 3) := by decide +kernel
theorem dC2_findFunction_72 : decode cC2_findFunction 72 = .ok (.goto (-68), 3) := by decide +kernel
theorem dC2_findFunction_75 : decode cC2_findFunction 75 = .ok (.iload_n 2, 1) := by decide +kernel
theorem dC2_findFunction_76 : decode cC2_findFunction 76 = .ok (.ireturn, 1) := by decide +kernel
theorem dC2_settleFunctions_0 : decode cC2_settleFunctions 0 = .ok (.aload_n 0, 1) := by decide +kernel
theorem dC2_settleFunctions_1 : decode cC2_settleFunctions 1 = .ok (.getfield 121, 3) := by decide +kernel
theorem dC2_settleFunctions_4 : decode cC2_settleFunctions 4 = .ok (.ifCond .eq 4, 3) := by decide +kernel
theorem dC2_settleFunctions_7 : decode cC2_settleFunctions 7 = .ok (.return_, 1) := by decide +kernel
theorem dC2_settleFunctions_8 : decode cC2_settleFunctions 8 = .ok (.iconst 0, 1) := by decide +kernel
theorem dC2_settleFunctions_9 : decode cC2_settleFunctions 9 = .ok (.istore_n 1, 1) := by decide +kernel
theorem dC2_settleFunctions_10 : decode cC2_settleFunctions 10 = .ok (.iload_n 1, 1) := by decide +kernel
theorem dC2_settleFunctions_11 : decode cC2_settleFunctions 11 = .ok (.aload_n 0, 1) := by decide +kernel
theorem dC2_settleFunctions_12 : decode cC2_settleFunctions 12 = .ok (.getfield 9, 3) := by decide +kernel
theorem dC2_settleFunctions_15 : decode cC2_settleFunctions 15 = .ok (.invokevirtual 125, 3) := by decide +kernel
theorem dC2_settleFunctions_18 : decode cC2_settleFunctions 18 = .ok (.if_icmp .ge 40, 3) := by decide +kernel
theorem dC2_settleFunctions_21 : decode cC2_settleFunctions 21 = .ok (.bipush 16, 2) := by decide +kernel
theorem dC2_settleFunctions_23 : decode cC2_settleFunctions 23 = .ok (.iload_n 1, 1) := by decide +kernel
theorem dC2_settleFunctions_24 : decode cC2_settleFunctions 24 = .ok (.iadd, 1) := by decide +kernel
theorem dC2_settleFunctions_25 : decode cC2_settleFunctions 25 = .ok (.istore_n 2, 1) := by decide +kernel
theorem dC2_settleFunctions_26 : decode cC2_settleFunctions 26 = .ok (.aload_n 0, 1) := by decide +kernel
theorem dC2_settleFunctions_27 : decode cC2_settleFunctions 27 = .ok (.getfield 36, 3) := by decide +kernel
theorem dC2_settleFunctions_30 : decode cC2_settleFunctions 30 = .ok (.iload_n 1, 1) := by decide +kernel
theorem dC2_settleFunctions_31 : decode cC2_settleFunctions 31 = .ok (.aload_n 0, 1) := by decide +kernel
theorem dC2_settleFunctions_32 : decode cC2_settleFunctions 32 = .ok (.getfield 9, 3) := by decide +kernel
theorem dC2_settleFunctions_35 : decode cC2_settleFunctions 35 = .ok (.iload_n 2, 1) := by decide +kernel
theorem dC2_settleFunctions_36 : decode cC2_settleFunctions 36 = .ok (.invokevirtual 71, 3) := by decide +kernel
theorem dC2_settleFunctions_39 : decode cC2_settleFunctions 39 = .ok (.ifCond .eq 11, 3) := by decide +kernel
theorem dC2_settleFunctions_42 : decode cC2_settleFunctions 42 = .ok (.aload_n 0, 1) := by decide +kernel
theorem dC2_settleFunctions_43 : decode cC2_settleFunctions 43 = .ok (.iload_n 2, 1) := by decide +kernel
theorem dC2_settleFunctions_44 : decode cC2_settleFunctions 44 = .ok (.invokevirtual 128, 3) := by decide +kernel
theorem dC2_settleFunctions_47 : decode cC2_settleFunctions 47 = .ok (.goto 4, 3) := by decide +kernel
theorem dC2_settleFunctions_50 : decode cC2_settleFunctions 50 = .ok (.iconst (-1), 1) := by decide +kernel
theorem dC2_settleFunctions_51 : decode cC2_settleFunctions 51 = .ok (.iastore, 1) := by decide +kernel
theorem dC2_settleFunctions_52 : decode cC2_settleFunctions 52 = .ok (.iinc 1 1, 3) := by decide +kernel
theorem dC2_settleFunctions_55 : decode cC2_settleFunctions 55 = .ok (.goto (-45), 3) := by decide +kernel
theorem dC2_settleFunctions_58 : decode cC2_settleFunctions 58 = .ok (.aload_n 0, 1) := by decide +kernel
theorem dC2_settleFunctions_59 : decode cC2_settleFunctions 59 = .ok (.iconst 1, 1) := by decide +kernel
theorem dC2_settleFunctions_60 : decode cC2_settleFunctions 60 = .ok (.putfield 121, 3) := by decide +kernel
theorem dC2_settleFunctions_63 : decode cC2_settleFunctions 63 = .ok (.return_, 1) := by decide +kernel
theorem dC2_functionOf_0 : decode cC2_functionOf 0 = .ok (.aload_n 0, 1) := by decide +kernel
theorem dC2_functionOf_1 : decode cC2_functionOf 1 = .ok (.getfield 9, 3) := by decide +kernel
theorem dC2_functionOf_4 : decode cC2_functionOf 4 = .ok (.iload_n 1, 1) := by decide +kernel
theorem dC2_functionOf_5 : decode cC2_functionOf 5 = .ok (.invokevirtual 62, 3) := by decide +kernel
theorem dC2_functionOf_8 : decode cC2_functionOf 8 = .ok (.ifCond .eq 15, 3) := by decide +kernel
theorem dC2_functionOf_11 : decode cC2_functionOf 11 = .ok (.aload_n 0, 1) := by decide +kernel
theorem dC2_functionOf_12 : decode cC2_functionOf 12 = .ok (.getfield 36, 3) := by decide +kernel
theorem dC2_functionOf_15 : decode cC2_functionOf 15 = .ok (.iload_n 1, 1) := by decide +kernel
theorem dC2_functionOf_16 : decode cC2_functionOf 16 = .ok (.bipush 16, 2) := by decide +kernel
theorem dC2_functionOf_18 : decode cC2_functionOf 18 = .ok (.isub, 1) := by decide +kernel
theorem dC2_functionOf_19 : decode cC2_functionOf 19 = .ok (.iaload, 1) := by decide +kernel
theorem dC2_functionOf_20 : decode cC2_functionOf 20 = .ok (.goto 4, 3) := by decide +kernel
theorem dC2_functionOf_23 : decode cC2_functionOf 23 = .ok (.iconst (-1), 1) := by decide +kernel
theorem dC2_functionOf_24 : decode cC2_functionOf 24 = .ok (.ireturn, 1) := by decide +kernel
theorem dC0_function_0 : decode cC0_function 0 = .ok (.aload_n 0, 1) := by decide +kernel
theorem dC0_function_1 : decode cC0_function 1 = .ok (.getfield 10, 3) := by decide +kernel
theorem dC0_function_4 : decode cC0_function 4 = .ok (.iload_n 1, 1) := by decide +kernel
theorem dC0_function_5 : decode cC0_function 5 = .ok (.invokevirtual 75, 3) := by decide +kernel
theorem dC0_function_8 : decode cC0_function 8 = .ok (.ifCond .ne 6, 3) := by decide +kernel
theorem dC0_function_11 : decode cC0_function 11 = .ok (.bipush (-2), 2) := by decide +kernel
theorem dC0_function_13 : decode cC0_function 13 = .ok (.ireturn, 1) := by decide +kernel
theorem dC0_function_14 : decode cC0_function 14 = .ok (.aload_n 0, 1) := by decide +kernel
theorem dC0_function_15 : decode cC0_function 15 = .ok (.getfield 21, 3) := by decide +kernel
theorem dC0_function_18 : decode cC0_function 18 = .ok (.invokevirtual 82, 3) := by decide +kernel
theorem dC0_function_21 : decode cC0_function 21 = .ok (.aload_n 0, 1) := by decide +kernel
theorem dC0_function_22 : decode cC0_function 22 = .ok (.getfield 21, 3) := by decide +kernel
theorem dC0_function_25 : decode cC0_function 25 = .ok (.iload_n 1, 1) := by decide +kernel
theorem dC0_function_26 : decode cC0_function 26 = .ok (.invokevirtual 85, 3) := by decide +kernel
theorem dC0_function_29 : decode cC0_function 29 = .ok (.ireturn, 1) := by decide +kernel
theorem dC0_canBeAsked_0 : decode cC0_canBeAsked 0 = .ok (.aload_n 0, 1) := by decide +kernel
theorem dC0_canBeAsked_1 : decode cC0_canBeAsked 1 = .ok (.getfield 10, 3) := by decide +kernel
theorem dC0_canBeAsked_4 : decode cC0_canBeAsked 4 = .ok (.iload_n 1, 1) := by decide +kernel
theorem dC0_canBeAsked_5 : decode cC0_canBeAsked 5 = .ok (.invokevirtual 45, 3) := by decide +kernel
theorem dC0_canBeAsked_8 : decode cC0_canBeAsked 8 = .ok (.ifCond .eq 33, 3) := by decide +kernel
theorem dC0_canBeAsked_11 : decode cC0_canBeAsked 11 = .ok (.iload_n 2, 1) := by decide +kernel
theorem dC0_canBeAsked_12 : decode cC0_canBeAsked 12 = .ok (.ifCond .lt 29, 3) := by decide +kernel
theorem dC0_canBeAsked_15 : decode cC0_canBeAsked 15 = .ok (.iload_n 2, 1) := by decide +kernel
theorem dC0_canBeAsked_16 : decode cC0_canBeAsked 16 = .ok (.bipush 16, 2) := by decide +kernel
theorem dC0_canBeAsked_18 : decode cC0_canBeAsked 18 = .ok (.if_icmp .ge 23, 3) := by decide +kernel
theorem dC0_canBeAsked_21 : decode cC0_canBeAsked 21 = .ok (.iload_n 3, 1) := by decide +kernel
theorem dC0_canBeAsked_22 : decode cC0_canBeAsked 22 = .ok (.iconst (-1), 1) := by decide +kernel
theorem dC0_canBeAsked_23 : decode cC0_canBeAsked 23 = .ok (.if_icmp .eq 14, 3) := by decide +kernel
theorem dC0_canBeAsked_26 : decode cC0_canBeAsked 26 = .ok (.aload_n 0, 1) := by decide +kernel
theorem dC0_canBeAsked_27 : decode cC0_canBeAsked 27 = .ok (.getfield 10, 3) := by decide +kernel
theorem dC0_canBeAsked_30 : decode cC0_canBeAsked 30 = .ok (.iload_n 3, 1) := by decide +kernel
theorem dC0_canBeAsked_31 : decode cC0_canBeAsked 31 = .ok (.invokevirtual 45, 3) := by decide +kernel
theorem dC0_canBeAsked_34 : decode cC0_canBeAsked 34 = .ok (.ifCond .eq 7, 3) := by decide +kernel
theorem dC0_canBeAsked_37 : decode cC0_canBeAsked 37 = .ok (.iconst 1, 1) := by decide +kernel
theorem dC0_canBeAsked_38 : decode cC0_canBeAsked 38 = .ok (.goto 4, 3) := by decide +kernel
theorem dC0_canBeAsked_41 : decode cC0_canBeAsked 41 = .ok (.iconst 0, 1) := by decide +kernel
theorem dC0_canBeAsked_42 : decode cC0_canBeAsked 42 = .ok (.ireturn, 1) := by decide +kernel
theorem dC2_listSeen_0 : decode cC2_listSeen 0 = .ok (.iconst 0, 1) := by decide +kernel
theorem dC2_listSeen_1 : decode cC2_listSeen 1 = .ok (.istore 5, 2) := by decide +kernel
theorem dC2_listSeen_3 : decode cC2_listSeen 3 = .ok (.iconst 0, 1) := by decide +kernel
theorem dC2_listSeen_4 : decode cC2_listSeen 4 = .ok (.istore 6, 2) := by decide +kernel
theorem dC2_listSeen_6 : decode cC2_listSeen 6 = .ok (.iload 6, 2) := by decide +kernel
theorem dC2_listSeen_8 : decode cC2_listSeen 8 = .ok (.aload_n 0, 1) := by decide +kernel
theorem dC2_listSeen_9 : decode cC2_listSeen 9 = .ok (.getfield 45, 3) := by decide +kernel
theorem dC2_listSeen_12 : decode cC2_listSeen 12 = .ok (.if_icmp .ge 49, 3) := by decide +kernel
theorem dC2_listSeen_15 : decode cC2_listSeen 15 = .ok (.iload 5, 2) := by decide +kernel
theorem dC2_listSeen_17 : decode cC2_listSeen 17 = .ok (.aload 4, 2) := by decide +kernel
theorem dC2_listSeen_19 : decode cC2_listSeen 19 = .ok (.arraylength, 1) := by decide +kernel
theorem dC2_listSeen_20 : decode cC2_listSeen 20 = .ok (.if_icmp .ge 41, 3) := by decide +kernel
theorem dC2_listSeen_23 : decode cC2_listSeen 23 = .ok (.aload_n 0, 1) := by decide +kernel
theorem dC2_listSeen_24 : decode cC2_listSeen 24 = .ok (.getfield 19, 3) := by decide +kernel
theorem dC2_listSeen_27 : decode cC2_listSeen 27 = .ok (.iload 6, 2) := by decide +kernel
theorem dC2_listSeen_29 : decode cC2_listSeen 29 = .ok (.iaload, 1) := by decide +kernel
theorem dC2_listSeen_30 : decode cC2_listSeen 30 = .ok (.iload_n 2, 1) := by decide +kernel
theorem dC2_listSeen_31 : decode cC2_listSeen 31 = .ok (.if_icmp .ne 24, 3) := by decide +kernel
theorem dC2_listSeen_34 : decode cC2_listSeen 34 = .ok (.aload_n 0, 1) := by decide +kernel
theorem dC2_listSeen_35 : decode cC2_listSeen 35 = .ok (.iload 6, 2) := by decide +kernel
theorem dC2_listSeen_37 : decode cC2_listSeen 37 = .ok (.iload_n 1, 1) := by decide +kernel
theorem dC2_listSeen_38 : decode cC2_listSeen 38 = .ok (.iload_n 3, 1) := by decide +kernel
theorem dC2_listSeen_39 : decode cC2_listSeen 39 = .ok (.invokevirtual 108, 3) := by decide +kernel
theorem dC2_listSeen_42 : decode cC2_listSeen 42 = .ok (.ifCond .eq 13, 3) := by decide +kernel
theorem dC2_listSeen_45 : decode cC2_listSeen 45 = .ok (.aload 4, 2) := by decide +kernel
theorem dC2_listSeen_47 : decode cC2_listSeen 47 = .ok (.iload 5, 2) := by decide +kernel
theorem dC2_listSeen_49 : decode cC2_listSeen 49 = .ok (.iload 6, 2) := by decide +kernel
theorem dC2_listSeen_51 : decode cC2_listSeen 51 = .ok (.iastore, 1) := by decide +kernel
theorem dC2_listSeen_52 : decode cC2_listSeen 52 = .ok (.iinc 5 1, 3) := by decide +kernel
theorem dC2_listSeen_55 : decode cC2_listSeen 55 = .ok (.iinc 6 1, 3) := by decide +kernel
theorem dC2_listSeen_58 : decode cC2_listSeen 58 = .ok (.goto (-52), 3) := by decide +kernel
theorem dC2_listSeen_61 : decode cC2_listSeen 61 = .ok (.iload 5, 2) := by decide +kernel
theorem dC2_listSeen_63 : decode cC2_listSeen 63 = .ok (.ireturn, 1) := by decide +kernel
theorem dC0_seen_0 : decode cC0_seen 0 = .ok (.aload_n 0, 1) := by decide +kernel
theorem dC0_seen_1 : decode cC0_seen 1 = .ok (.iload_n 1, 1) := by decide +kernel
theorem dC0_seen_2 : decode cC0_seen 2 = .ok (.iload_n 2, 1) := by decide +kernel
theorem dC0_seen_3 : decode cC0_seen 3 = .ok (.iload_n 3, 1) := by decide +kernel
theorem dC0_seen_4 : decode cC0_seen 4 = .ok (.invokevirtual 89, 3) := by decide +kernel
theorem dC0_seen_7 : decode cC0_seen 7 = .ok (.ifCond .eq 20, 3) := by decide +kernel
theorem dC0_seen_10 : decode cC0_seen 10 = .ok (.aload_n 0, 1) := by decide +kernel
theorem dC0_seen_11 : decode cC0_seen 11 = .ok (.getfield 21, 3) := by decide +kernel
theorem dC0_seen_14 : decode cC0_seen 14 = .ok (.iload_n 1, 1) := by decide +kernel
theorem dC0_seen_15 : decode cC0_seen 15 = .ok (.iload_n 2, 1) := by decide +kernel
theorem dC0_seen_16 : decode cC0_seen 16 = .ok (.iload_n 3, 1) := by decide +kernel
theorem dC0_seen_17 : decode cC0_seen 17 = .ok (.aload_n 0, 1) := by decide +kernel
theorem dC0_seen_18 : decode cC0_seen 18 = .ok (.getfield 41, 3) := by decide +kernel
theorem dC0_seen_21 : decode cC0_seen 21 = .ok (.invokevirtual 93, 3) := by decide +kernel
theorem dC0_seen_24 : decode cC0_seen 24 = .ok (.goto 5, 3) := by decide +kernel
theorem dC0_seen_27 : decode cC0_seen 27 = .ok (.bipush (-2), 2) := by decide +kernel
theorem dC0_seen_29 : decode cC0_seen 29 = .ok (.ireturn, 1) := by decide +kernel
theorem dC0_seenAt_0 : decode cC0_seenAt 0 = .ok (.aload_n 0, 1) := by decide +kernel
theorem dC0_seenAt_1 : decode cC0_seenAt 1 = .ok (.iload_n 1, 1) := by decide +kernel
theorem dC0_seenAt_2 : decode cC0_seenAt 2 = .ok (.iload_n 2, 1) := by decide +kernel
theorem dC0_seenAt_3 : decode cC0_seenAt 3 = .ok (.iload_n 3, 1) := by decide +kernel
theorem dC0_seenAt_4 : decode cC0_seenAt 4 = .ok (.invokevirtual 89, 3) := by decide +kernel
theorem dC0_seenAt_7 : decode cC0_seenAt 7 = .ok (.ifCond .ne 6, 3) := by decide +kernel
theorem dC0_seenAt_10 : decode cC0_seenAt 10 = .ok (.bipush (-2), 2) := by decide +kernel
theorem dC0_seenAt_12 : decode cC0_seenAt 12 = .ok (.ireturn, 1) := by decide +kernel
theorem dC0_seenAt_13 : decode cC0_seenAt 13 = .ok (.aload_n 0, 1) := by decide +kernel
theorem dC0_seenAt_14 : decode cC0_seenAt 14 = .ok (.getfield 21, 3) := by decide +kernel
theorem dC0_seenAt_17 : decode cC0_seenAt 17 = .ok (.iload_n 1, 1) := by decide +kernel
theorem dC0_seenAt_18 : decode cC0_seenAt 18 = .ok (.iload_n 2, 1) := by decide +kernel
theorem dC0_seenAt_19 : decode cC0_seenAt 19 = .ok (.iload_n 3, 1) := by decide +kernel
theorem dC0_seenAt_20 : decode cC0_seenAt 20 = .ok (.aload_n 0, 1) := by decide +kernel
theorem dC0_seenAt_21 : decode cC0_seenAt 21 = .ok (.getfield 41, 3) := by decide +kernel
theorem dC0_seenAt_24 : decode cC0_seenAt 24 = .ok (.invokevirtual 93, 3) := by decide +kernel
theorem dC0_seenAt_27 : decode cC0_seenAt 27 = .ok (.istore 5, 2) := by decide +kernel
theorem dC0_seenAt_29 : decode cC0_seenAt 29 = .ok (.iload 4, 2) := by decide +kernel
theorem dC0_seenAt_31 : decode cC0_seenAt 31 = .ok (.ifCond .lt 20, 3) := by decide +kernel
theorem dC0_seenAt_34 : decode cC0_seenAt 34 = .ok (.iload 4, 2) := by decide +kernel
theorem dC0_seenAt_36 : decode cC0_seenAt 36 = .ok (.iload 5, 2) := by decide +kernel
theorem dC0_seenAt_38 : decode cC0_seenAt 38 = .ok (.if_icmp .ge 13, 3) := by decide +kernel
theorem dC0_seenAt_41 : decode cC0_seenAt 41 = .ok (.aload_n 0, 1) := by decide +kernel
theorem dC0_seenAt_42 : decode cC0_seenAt 42 = .ok (.getfield 41, 3) := by decide +kernel
theorem dC0_seenAt_45 : decode cC0_seenAt 45 = .ok (.iload 4, 2) := by decide +kernel
theorem dC0_seenAt_47 : decode cC0_seenAt 47 = .ok (.iaload, 1) := by decide +kernel
theorem dC0_seenAt_48 : decode cC0_seenAt 48 = .ok (.goto 4, 3) := by decide +kernel
theorem dC0_seenAt_51 : decode cC0_seenAt 51 = .ok (.iconst (-1), 1) := by decide +kernel
theorem dC0_seenAt_52 : decode cC0_seenAt 52 = .ok (.ireturn, 1) := by decide +kernel
theorem dC3_addType_0 : decode cC3_addType 0 = .ok (.aload_n 0, 1) := by decide +kernel
theorem dC3_addType_1 : decode cC3_addType 1 = .ok (.getfield 28, 3) := by decide +kernel
theorem dC3_addType_4 : decode cC3_addType 4 = .ok (.iconst 5, 1) := by decide +kernel
theorem dC3_addType_5 : decode cC3_addType 5 = .ok (.if_icmp .lt 6, 3) := by decide +kernel
theorem dC3_addType_8 : decode cC3_addType 8 = .ok (.bipush (-2), 2) := by decide +kernel
theorem dC3_addType_10 : decode cC3_addType 10 = .ok (.ireturn, 1) := by decide +kernel
theorem dC3_addType_11 : decode cC3_addType 11 = .ok (.aload_n 0, 1) := by decide +kernel
theorem dC3_addType_12 : decode cC3_addType 12 = .ok (.getfield 11, 3) := by decide +kernel
theorem dC3_addType_15 : decode cC3_addType 15 = .ok (.aload_n 0, 1) := by decide +kernel
theorem dC3_addType_16 : decode cC3_addType 16 = .ok (.getfield 28, 3) := by decide +kernel
theorem dC3_addType_19 : decode cC3_addType 19 = .ok (.iconst 0, 1) := by decide +kernel
theorem dC3_addType_20 : decode cC3_addType 20 = .ok (.bastore, 1) := by decide +kernel
theorem dC3_addType_21 : decode cC3_addType 21 = .ok (.aload_n 0, 1) := by decide +kernel
theorem dC3_addType_22 : decode cC3_addType 22 = .ok (.getfield 15, 3) := by decide +kernel
theorem dC3_addType_25 : decode cC3_addType 25 = .ok (.aload_n 0, 1) := by decide +kernel
theorem dC3_addType_26 : decode cC3_addType 26 = .ok (.getfield 28, 3) := by decide +kernel
theorem dC3_addType_29 : decode cC3_addType 29 = .ok (.iconst 0, 1) := by decide +kernel
theorem dC3_addType_30 : decode cC3_addType 30 = .ok (.bastore, 1) := by decide +kernel
theorem dC3_addType_31 : decode cC3_addType 31 = .ok (.aload_n 0, 1) := by decide +kernel
theorem dC3_addType_32 : decode cC3_addType 32 = .ok (.getfield 18, 3) := by decide +kernel
theorem dC3_addType_35 : decode cC3_addType 35 = .ok (.aload_n 0, 1) := by decide +kernel
theorem dC3_addType_36 : decode cC3_addType 36 = .ok (.getfield 28, 3) := by decide +kernel
theorem dC3_addType_39 : decode cC3_addType 39 = .ok (.iload_n 1, 1) := by decide +kernel
theorem dC3_addType_40 : decode cC3_addType 40 = .ok (.iastore, 1) := by decide +kernel
theorem dC3_addType_41 : decode cC3_addType 41 = .ok (.aload_n 0, 1) := by decide +kernel
theorem dC3_addType_42 : decode cC3_addType 42 = .ok (.getfield 22, 3) := by decide +kernel
theorem dC3_addType_45 : decode cC3_addType 45 = .ok (.aload_n 0, 1) := by decide +kernel
theorem dC3_addType_46 : decode cC3_addType 46 = .ok (.getfield 28, 3) := by decide +kernel
theorem dC3_addType_49 : decode cC3_addType 49 = .ok (.iconst 0, 1) := by decide +kernel
theorem dC3_addType_50 : decode cC3_addType 50 = .ok (.iastore, 1) := by decide +kernel
theorem dC3_addType_51 : decode cC3_addType 51 = .ok (.aload_n 0, 1) := by decide +kernel
theorem dC3_addType_52 : decode cC3_addType 52 = .ok (.dup, 1) := by decide +kernel
theorem dC3_addType_53 : decode cC3_addType 53 = .ok (.getfield 28, 3) := by decide +kernel
theorem dC3_addType_56 : decode cC3_addType 56 = .ok (.iconst 1, 1) := by decide +kernel
theorem dC3_addType_57 : decode cC3_addType 57 = .ok (.iadd, 1) := by decide +kernel
theorem dC3_addType_58 : decode cC3_addType 58 = .ok (.putfield 28, 3) := by decide +kernel
theorem dC3_addType_61 : decode cC3_addType 61 = .ok (.aload_n 0, 1) := by decide +kernel
theorem dC3_addType_62 : decode cC3_addType 62 = .ok (.getfield 28, 3) := by decide +kernel
theorem dC3_addType_65 : decode cC3_addType 65 = .ok (.ireturn, 1) := by decide +kernel
theorem dC0_argument_0 : decode cC0_argument 0 = .ok (.aload_n 0, 1) := by decide +kernel
theorem dC0_argument_1 : decode cC0_argument 1 = .ok (.getfield 10, 3) := by decide +kernel
theorem dC0_argument_4 : decode cC0_argument 4 = .ok (.iload_n 1, 1) := by decide +kernel
theorem dC0_argument_5 : decode cC0_argument 5 = .ok (.invokevirtual 75, 3) := by decide +kernel
theorem dC0_argument_8 : decode cC0_argument 8 = .ok (.ifCond .eq 14, 3) := by decide +kernel
theorem dC0_argument_11 : decode cC0_argument 11 = .ok (.aload_n 0, 1) := by decide +kernel
theorem dC0_argument_12 : decode cC0_argument 12 = .ok (.getfield 28, 3) := by decide +kernel
theorem dC0_argument_15 : decode cC0_argument 15 = .ok (.iload_n 1, 1) := by decide +kernel
theorem dC0_argument_16 : decode cC0_argument 16 = .ok (.invokevirtual 97, 3) := by decide +kernel
theorem dC0_argument_19 : decode cC0_argument 19 = .ok (.goto 5, 3) := by decide +kernel
theorem dC0_argument_22 : decode cC0_argument 22 = .ok (.bipush (-2), 2) := by decide +kernel
theorem dC0_argument_24 : decode cC0_argument 24 = .ok (.ireturn, 1) := by decide +kernel
theorem dC3_addLambda_0 : decode cC3_addLambda 0 = .ok (.aload_n 0, 1) := by decide +kernel
theorem dC3_addLambda_1 : decode cC3_addLambda 1 = .ok (.getfield 28, 3) := by decide +kernel
theorem dC3_addLambda_4 : decode cC3_addLambda 4 = .ok (.iconst 5, 1) := by decide +kernel
theorem dC3_addLambda_5 : decode cC3_addLambda 5 = .ok (.if_icmp .lt 6, 3) := by decide +kernel
theorem dC3_addLambda_8 : decode cC3_addLambda 8 = .ok (.bipush (-2), 2) := by decide +kernel
theorem dC3_addLambda_10 : decode cC3_addLambda 10 = .ok (.ireturn, 1) := by decide +kernel
theorem dC3_addLambda_11 : decode cC3_addLambda 11 = .ok (.aload_n 0, 1) := by decide +kernel
theorem dC3_addLambda_12 : decode cC3_addLambda 12 = .ok (.getfield 11, 3) := by decide +kernel
theorem dC3_addLambda_15 : decode cC3_addLambda 15 = .ok (.aload_n 0, 1) := by decide +kernel
theorem dC3_addLambda_16 : decode cC3_addLambda 16 = .ok (.getfield 28, 3) := by decide +kernel
theorem dC3_addLambda_19 : decode cC3_addLambda 19 = .ok (.iconst 1, 1) := by decide +kernel
theorem dC3_addLambda_20 : decode cC3_addLambda 20 = .ok (.bastore, 1) := by decide +kernel
theorem dC3_addLambda_21 : decode cC3_addLambda 21 = .ok (.aload_n 0, 1) := by decide +kernel
theorem dC3_addLambda_22 : decode cC3_addLambda 22 = .ok (.getfield 15, 3) := by decide +kernel
theorem dC3_addLambda_25 : decode cC3_addLambda 25 = .ok (.aload_n 0, 1) := by decide +kernel
theorem dC3_addLambda_26 : decode cC3_addLambda 26 = .ok (.getfield 28, 3) := by decide +kernel
theorem dC3_addLambda_29 : decode cC3_addLambda 29 = .ok (.iload_n 2, 1) := by decide +kernel
theorem dC3_addLambda_30 : decode cC3_addLambda 30 = .ok (.bastore, 1) := by decide +kernel
theorem dC3_addLambda_31 : decode cC3_addLambda 31 = .ok (.aload_n 0, 1) := by decide +kernel
theorem dC3_addLambda_32 : decode cC3_addLambda 32 = .ok (.getfield 18, 3) := by decide +kernel
theorem dC3_addLambda_35 : decode cC3_addLambda 35 = .ok (.aload_n 0, 1) := by decide +kernel
theorem dC3_addLambda_36 : decode cC3_addLambda 36 = .ok (.getfield 28, 3) := by decide +kernel
theorem dC3_addLambda_39 : decode cC3_addLambda 39 = .ok (.iload 5, 2) := by decide +kernel
theorem dC3_addLambda_41 : decode cC3_addLambda 41 = .ok (.iastore, 1) := by decide +kernel
theorem dC3_addLambda_42 : decode cC3_addLambda 42 = .ok (.aload_n 0, 1) := by decide +kernel
theorem dC3_addLambda_43 : decode cC3_addLambda 43 = .ok (.getfield 22, 3) := by decide +kernel
theorem dC3_addLambda_46 : decode cC3_addLambda 46 = .ok (.aload_n 0, 1) := by decide +kernel
theorem dC3_addLambda_47 : decode cC3_addLambda 47 = .ok (.getfield 28, 3) := by decide +kernel
theorem dC3_addLambda_50 : decode cC3_addLambda 50 = .ok (.iload_n 1, 1) := by decide +kernel
theorem dC3_addLambda_51 : decode cC3_addLambda 51 = .ok (.iastore, 1) := by decide +kernel
theorem dC3_addLambda_52 : decode cC3_addLambda 52 = .ok (.aload_n 0, 1) := by decide +kernel
theorem dC3_addLambda_53 : decode cC3_addLambda 53 = .ok (.getfield 25, 3) := by decide +kernel
theorem dC3_addLambda_56 : decode cC3_addLambda 56 = .ok (.aload_n 0, 1) := by decide +kernel
theorem dC3_addLambda_57 : decode cC3_addLambda 57 = .ok (.getfield 28, 3) := by decide +kernel
theorem dC3_addLambda_60 : decode cC3_addLambda 60 = .ok (.iconst 2, 1) := by decide +kernel
theorem dC3_addLambda_61 : decode cC3_addLambda 61 = .ok (.imul, 1) := by decide +kernel
theorem dC3_addLambda_62 : decode cC3_addLambda 62 = .ok (.iload_n 3, 1) := by decide +kernel
theorem dC3_addLambda_63 : decode cC3_addLambda 63 = .ok (.iastore, 1) := by decide +kernel
theorem dC3_addLambda_64 : decode cC3_addLambda 64 = .ok (.aload_n 0, 1) := by decide +kernel
theorem dC3_addLambda_65 : decode cC3_addLambda 65 = .ok (.getfield 25, 3) := by decide +kernel
theorem dC3_addLambda_68 : decode cC3_addLambda 68 = .ok (.aload_n 0, 1) := by decide +kernel
theorem dC3_addLambda_69 : decode cC3_addLambda 69 = .ok (.getfield 28, 3) := by decide +kernel
theorem dC3_addLambda_72 : decode cC3_addLambda 72 = .ok (.iconst 2, 1) := by decide +kernel
theorem dC3_addLambda_73 : decode cC3_addLambda 73 = .ok (.imul, 1) := by decide +kernel
theorem dC3_addLambda_74 : decode cC3_addLambda 74 = .ok (.iconst 1, 1) := by decide +kernel
theorem dC3_addLambda_75 : decode cC3_addLambda 75 = .ok (.iadd, 1) := by decide +kernel
theorem dC3_addLambda_76 : decode cC3_addLambda 76 = .ok (.iload 4, 2) := by decide +kernel
theorem dC3_addLambda_78 : decode cC3_addLambda 78 = .ok (.iastore, 1) := by decide +kernel
theorem dC3_addLambda_79 : decode cC3_addLambda 79 = .ok (.aload_n 0, 1) := by decide +kernel
theorem dC3_addLambda_80 : decode cC3_addLambda 80 = .ok (.dup, 1) := by decide +kernel
theorem dC3_addLambda_81 : decode cC3_addLambda 81 = .ok (.getfield 28, 3) := by decide +kernel
theorem dC3_addLambda_84 : decode cC3_addLambda 84 = .ok (.iconst 1, 1) := by decide +kernel
theorem dC3_addLambda_85 : decode cC3_addLambda 85 = .ok (.iadd, 1) := by decide +kernel
theorem dC3_addLambda_86 : decode cC3_addLambda 86 = .ok (.putfield 28, 3) := by decide +kernel
theorem dC3_addLambda_89 : decode cC3_addLambda 89 = .ok (.aload_n 0, 1) := by decide +kernel
theorem dC3_addLambda_90 : decode cC3_addLambda 90 = .ok (.getfield 28, 3) := by decide +kernel
theorem dC3_addLambda_93 : decode cC3_addLambda 93 = .ok (.ireturn, 1) := by decide +kernel
theorem dC0_lambda_0 : decode cC0_lambda 0 = .ok (.iload_n 1, 1) := by decide +kernel
theorem dC0_lambda_1 : decode cC0_lambda 1 = .ok (.ifCond .lt 29, 3) := by decide +kernel
theorem dC0_lambda_4 : decode cC0_lambda 4 = .ok (.iload_n 1, 1) := by decide +kernel
theorem dC0_lambda_5 : decode cC0_lambda 5 = .ok (.iconst 2, 1) := by decide +kernel
theorem dC0_lambda_6 : decode cC0_lambda 6 = .ok (.if_icmp .gt 24, 3) := by decide +kernel
theorem dC0_lambda_9 : decode cC0_lambda 9 = .ok (.iload_n 2, 1) := by decide +kernel
theorem dC0_lambda_10 : decode cC0_lambda 10 = .ok (.ifCond .lt 20, 3) := by decide +kernel
theorem dC0_lambda_13 : decode cC0_lambda 13 = .ok (.iload_n 2, 1) := by decide +kernel
theorem dC0_lambda_14 : decode cC0_lambda 14 = .ok (.iconst 1, 1) := by decide +kernel
theorem dC0_lambda_15 : decode cC0_lambda 15 = .ok (.if_icmp .gt 15, 3) := by decide +kernel
theorem dC0_lambda_18 : decode cC0_lambda 18 = .ok (.aload_n 0, 1) := by decide +kernel
theorem dC0_lambda_19 : decode cC0_lambda 19 = .ok (.getfield 10, 3) := by decide +kernel
theorem dC0_lambda_22 : decode cC0_lambda 22 = .ok (.iload 5, 2) := by decide +kernel
theorem dC0_lambda_24 : decode cC0_lambda 24 = .ok (.invokevirtual 100, 3) := by decide +kernel
theorem dC0_lambda_27 : decode cC0_lambda 27 = .ok (.ifCond .ne 6, 3) := by decide +kernel
theorem dC0_lambda_30 : decode cC0_lambda 30 = .ok (.bipush (-2), 2) := by decide +kernel
theorem dC0_lambda_32 : decode cC0_lambda 32 = .ok (.ireturn, 1) := by decide +kernel
theorem dC0_lambda_33 : decode cC0_lambda 33 = .ok (.iload_n 1, 1) := by decide +kernel
theorem dC0_lambda_34 : decode cC0_lambda 34 = .ok (.ifCond .le 18, 3) := by decide +kernel
theorem dC0_lambda_37 : decode cC0_lambda 37 = .ok (.aload_n 0, 1) := by decide +kernel
theorem dC0_lambda_38 : decode cC0_lambda 38 = .ok (.getfield 10, 3) := by decide +kernel
theorem dC0_lambda_41 : decode cC0_lambda 41 = .ok (.iload_n 3, 1) := by decide +kernel
theorem dC0_lambda_42 : decode cC0_lambda 42 = .ok (.invokevirtual 103, 3) := by decide +kernel
theorem dC0_lambda_45 : decode cC0_lambda 45 = .ok (.ifCond .ne 7, 3) := by decide +kernel
theorem dC0_lambda_48 : decode cC0_lambda 48 = .ok (.iconst 1, 1) := by decide +kernel
theorem dC0_lambda_49 : decode cC0_lambda 49 = .ok (.goto 4, 3) := by decide +kernel
theorem dC0_lambda_52 : decode cC0_lambda 52 = .ok (.iconst 0, 1) := by decide +kernel
theorem dC0_lambda_53 : decode cC0_lambda 53 = .ok (.istore 6, 2) := by decide +kernel
theorem dC0_lambda_55 : decode cC0_lambda 55 = .ok (.iload_n 1, 1) := by decide +kernel
theorem dC0_lambda_56 : decode cC0_lambda 56 = .ok (.iconst 1, 1) := by decide +kernel
theorem dC0_lambda_57 : decode cC0_lambda 57 = .ok (.if_icmp .le 19, 3) := by decide +kernel
theorem dC0_lambda_60 : decode cC0_lambda 60 = .ok (.aload_n 0, 1) := by decide +kernel
theorem dC0_lambda_61 : decode cC0_lambda 61 = .ok (.getfield 10, 3) := by decide +kernel
theorem dC0_lambda_64 : decode cC0_lambda 64 = .ok (.iload 4, 2) := by decide +kernel
theorem dC0_lambda_66 : decode cC0_lambda 66 = .ok (.invokevirtual 103, 3) := by decide +kernel
theorem dC0_lambda_69 : decode cC0_lambda 69 = .ok (.ifCond .ne 7, 3) := by decide +kernel
theorem dC0_lambda_72 : decode cC0_lambda 72 = .ok (.iconst 1, 1) := by decide +kernel
theorem dC0_lambda_73 : decode cC0_lambda 73 = .ok (.goto 4, 3) := by decide +kernel
theorem dC0_lambda_76 : decode cC0_lambda 76 = .ok (.iconst 0, 1) := by decide +kernel
theorem dC0_lambda_77 : decode cC0_lambda 77 = .ok (.istore 7, 2) := by decide +kernel
theorem dC0_lambda_79 : decode cC0_lambda 79 = .ok (.iload_n 2, 1) := by decide +kernel
theorem dC0_lambda_80 : decode cC0_lambda 80 = .ok (.iconst 1, 1) := by decide +kernel
theorem dC0_lambda_81 : decode cC0_lambda 81 = .ok (.if_icmp .ne 16, 3) := by decide +kernel
theorem dC0_lambda_84 : decode cC0_lambda 84 = .ok (.iload 6, 2) := by decide +kernel
theorem dC0_lambda_86 : decode cC0_lambda 86 = .ok (.ifCond .ne 8, 3) := by decide +kernel
theorem dC0_lambda_89 : decode cC0_lambda 89 = .ok (.iload 7, 2) := by decide +kernel
theorem dC0_lambda_91 : decode cC0_lambda 91 = .ok (.ifCond .eq 6, 3) := by decide +kernel
theorem dC0_lambda_94 : decode cC0_lambda 94 = .ok (.bipush (-2), 2) := by decide +kernel
theorem dC0_lambda_96 : decode cC0_lambda 96 = .ok (.ireturn, 1) := by decide +kernel
theorem dC0_lambda_97 : decode cC0_lambda 97 = .ok (.aload_n 0, 1) := by decide +kernel
theorem dC0_lambda_98 : decode cC0_lambda 98 = .ok (.getfield 28, 3) := by decide +kernel
theorem dC0_lambda_101 : decode cC0_lambda 101 = .ok (.iload_n 1, 1) := by decide +kernel
theorem dC0_lambda_102 : decode cC0_lambda 102 = .ok (.iload_n 2, 1) := by decide +kernel
theorem dC0_lambda_103 : decode cC0_lambda 103 = .ok (.iconst 1, 1) := by decide +kernel
theorem dC0_lambda_104 : decode cC0_lambda 104 = .ok (.if_icmp .ne 7, 3) := by decide +kernel
theorem dC0_lambda_107 : decode cC0_lambda 107 = .ok (.iconst 1, 1) := by decide +kernel
theorem dC0_lambda_108 : decode cC0_lambda 108 = .ok (.goto 4, 3) := by decide +kernel
theorem dC0_lambda_111 : decode cC0_lambda 111 = .ok (.iconst 0, 1) := by decide +kernel
theorem dC0_lambda_112 : decode cC0_lambda 112 = .ok (.iload_n 3, 1) := by decide +kernel
theorem dC0_lambda_113 : decode cC0_lambda 113 = .ok (.iload 4, 2) := by decide +kernel
theorem dC0_lambda_115 : decode cC0_lambda 115 = .ok (.iload 5, 2) := by decide +kernel
theorem dC0_lambda_117 : decode cC0_lambda 117 = .ok (.invokevirtual 106, 3) := by decide +kernel
theorem dC0_lambda_120 : decode cC0_lambda 120 = .ok (.ireturn, 1) := by decide +kernel
theorem dC3_clear_0 : decode cC3_clear 0 = .ok (.aload_n 0, 1) := by decide +kernel
theorem dC3_clear_1 : decode cC3_clear 1 = .ok (.getfield 28, 3) := by decide +kernel
theorem dC3_clear_4 : decode cC3_clear 4 = .ok (.istore_n 1, 1) := by decide +kernel
theorem dC3_clear_5 : decode cC3_clear 5 = .ok (.aload_n 0, 1) := by decide +kernel
theorem dC3_clear_6 : decode cC3_clear 6 = .ok (.iconst 0, 1) := by decide +kernel
theorem dC3_clear_7 : decode cC3_clear 7 = .ok (.putfield 28, 3) := by decide +kernel
theorem dC3_clear_10 : decode cC3_clear 10 = .ok (.iload_n 1, 1) := by decide +kernel
theorem dC3_clear_11 : decode cC3_clear 11 = .ok (.ireturn, 1) := by decide +kernel
theorem dC0_wipe_0 : decode cC0_wipe 0 = .ok (.aload_n 0, 1) := by decide +kernel
theorem dC0_wipe_1 : decode cC0_wipe 1 = .ok (.getfield 28, 3) := by decide +kernel
theorem dC0_wipe_4 : decode cC0_wipe 4 = .ok (.invokevirtual 110, 3) := by decide +kernel
theorem dC0_wipe_7 : decode cC0_wipe 7 = .ok (.ireturn, 1) := by decide +kernel
theorem dC4_forget_0 : decode cC4_forget 0 = .ok (.aload_n 0, 1) := by decide +kernel
theorem dC4_forget_1 : decode cC4_forget 1 = .ok (.iconst 0, 1) := by decide +kernel
theorem dC4_forget_2 : decode cC4_forget 2 = .ok (.putfield 36, 3) := by decide +kernel
theorem dC4_forget_5 : decode cC4_forget 5 = .ok (.aload_n 0, 1) := by decide +kernel
theorem dC4_forget_6 : decode cC4_forget 6 = .ok (.iconst 0, 1) := by decide +kernel
theorem dC4_forget_7 : decode cC4_forget 7 = .ok (.putfield 40, 3) := by decide +kernel
theorem dC4_forget_10 : decode cC4_forget 10 = .ok (.aload_n 0, 1) := by decide +kernel
theorem dC4_forget_11 : decode cC4_forget 11 = .ok (.lconst 0, 1) := by decide +kernel
theorem dC4_forget_12 : decode cC4_forget 12 = .ok (.putfield 47, 3) := by decide +kernel
theorem dC4_forget_15 : decode cC4_forget 15 = .ok (.return_, 1) := by decide +kernel
theorem dC2_widthOf_0 : decode cC2_widthOf 0 = .ok (.aload_n 0, 1) := by decide +kernel
theorem dC2_widthOf_1 : decode cC2_widthOf 1 = .ok (.getfield 28, 3) := by decide +kernel
theorem dC2_widthOf_4 : decode cC2_widthOf 4 = .ok (.iload_n 1, 1) := by decide +kernel
theorem dC2_widthOf_5 : decode cC2_widthOf 5 = .ok (.iaload, 1) := by decide +kernel
theorem dC2_widthOf_6 : decode cC2_widthOf 6 = .ok (.ireturn, 1) := by decide +kernel
theorem dC3_size_0 : decode cC3_size 0 = .ok (.aload_n 0, 1) := by decide +kernel
theorem dC3_size_1 : decode cC3_size 1 = .ok (.getfield 28, 3) := by decide +kernel
theorem dC3_size_4 : decode cC3_size 4 = .ok (.ireturn, 1) := by decide +kernel
theorem dC3_isLambda_0 : decode cC3_isLambda 0 = .ok (.aload_n 0, 1) := by decide +kernel
theorem dC3_isLambda_1 : decode cC3_isLambda 1 = .ok (.getfield 11, 3) := by decide +kernel
theorem dC3_isLambda_4 : decode cC3_isLambda 4 = .ok (.iload_n 1, 1) := by decide +kernel
theorem dC3_isLambda_5 : decode cC3_isLambda 5 = .ok (.baload, 1) := by decide +kernel
theorem dC3_isLambda_6 : decode cC3_isLambda 6 = .ok (.ireturn, 1) := by decide +kernel
theorem dC1_elementOf_0 : decode cC1_elementOf 0 = .ok (.iload_n 1, 1) := by decide +kernel
theorem dC1_elementOf_1 : decode cC1_elementOf 1 = .ok (.bipush 64, 2) := by decide +kernel
theorem dC1_elementOf_3 : decode cC1_elementOf 3 = .ok (.if_icmp .lt 10, 3) := by decide +kernel
theorem dC1_elementOf_6 : decode cC1_elementOf 6 = .ok (.iload_n 1, 1) := by decide +kernel
theorem dC1_elementOf_7 : decode cC1_elementOf 7 = .ok (.bipush 64, 2) := by decide +kernel
theorem dC1_elementOf_9 : decode cC1_elementOf 9 = .ok (.isub, 1) := by decide +kernel
theorem dC1_elementOf_10 : decode cC1_elementOf 10 = .ok (.goto 4, 3) := by decide +kernel
theorem dC1_elementOf_13 : decode cC1_elementOf 13 = .ok (.iconst (-1), 1) := by decide +kernel
theorem dC1_elementOf_14 : decode cC1_elementOf 14 = .ok (.ireturn, 1) := by decide +kernel
theorem dC2_facing_0 : decode cC2_facing 0 = .ok (.aload_n 0, 1) := by decide +kernel
theorem dC2_facing_1 : decode cC2_facing 1 = .ok (.getfield 28, 3) := by decide +kernel
theorem dC2_facing_4 : decode cC2_facing 4 = .ok (.iload_n 1, 1) := by decide +kernel
theorem dC2_facing_5 : decode cC2_facing 5 = .ok (.iaload, 1) := by decide +kernel
theorem dC2_facing_6 : decode cC2_facing 6 = .ok (.iconst 1, 1) := by decide +kernel
theorem dC2_facing_7 : decode cC2_facing 7 = .ok (.isub, 1) := by decide +kernel
theorem dC2_facing_8 : decode cC2_facing 8 = .ok (.istore 4, 2) := by decide +kernel
theorem dC2_facing_10 : decode cC2_facing 10 = .ok (.iload_n 3, 1) := by decide +kernel
theorem dC2_facing_11 : decode cC2_facing 11 = .ok (.ifCond .eq 26, 3) := by decide +kernel
theorem dC2_facing_14 : decode cC2_facing 14 = .ok (.iload_n 2, 1) := by decide +kernel
theorem dC2_facing_15 : decode cC2_facing 15 = .ok (.iload 4, 2) := by decide +kernel
theorem dC2_facing_17 : decode cC2_facing 17 = .ok (.if_icmp .lt 20, 3) := by decide +kernel
theorem dC2_facing_20 : decode cC2_facing 20 = .ok (.aload_n 0, 1) := by decide +kernel
theorem dC2_facing_21 : decode cC2_facing 21 = .ok (.getfield 9, 3) := by decide +kernel
theorem dC2_facing_24 : decode cC2_facing 24 = .ok (.aload_n 0, 1) := by decide +kernel
theorem dC2_facing_25 : decode cC2_facing 25 = .ok (.iload_n 1, 1) := by decide +kernel
theorem dC2_facing_26 : decode cC2_facing 26 = .ok (.iload 4, 2) := by decide +kernel
theorem dC2_facing_28 : decode cC2_facing 28 = .ok (.invokevirtual 83, 3) := by decide +kernel
theorem dC2_facing_31 : decode cC2_facing 31 = .ok (.invokevirtual 100, 3) := by decide +kernel
theorem dC2_facing_34 : decode cC2_facing 34 = .ok (.goto 9, 3) := by decide +kernel
theorem dC2_facing_37 : decode cC2_facing 37 = .ok (.aload_n 0, 1) := by decide +kernel
theorem dC2_facing_38 : decode cC2_facing 38 = .ok (.iload_n 1, 1) := by decide +kernel
theorem dC2_facing_39 : decode cC2_facing 39 = .ok (.iload_n 2, 1) := by decide +kernel
theorem dC2_facing_40 : decode cC2_facing 40 = .ok (.invokevirtual 83, 3) := by decide +kernel
theorem dC2_facing_43 : decode cC2_facing 43 = .ok (.ireturn, 1) := by decide +kernel
theorem dC3_widthOf_0 : decode cC3_widthOf 0 = .ok (.aload_n 0, 1) := by decide +kernel
theorem dC3_widthOf_1 : decode cC3_widthOf 1 = .ok (.getfield 22, 3) := by decide +kernel
theorem dC3_widthOf_4 : decode cC3_widthOf 4 = .ok (.iload_n 1, 1) := by decide +kernel
theorem dC3_widthOf_5 : decode cC3_widthOf 5 = .ok (.iaload, 1) := by decide +kernel
theorem dC3_widthOf_6 : decode cC3_widthOf 6 = .ok (.ireturn, 1) := by decide +kernel
theorem dC2_hasResult_0 : decode cC2_hasResult 0 = .ok (.aload_n 0, 1) := by decide +kernel
theorem dC2_hasResult_1 : decode cC2_hasResult 1 = .ok (.getfield 25, 3) := by decide +kernel
theorem dC2_hasResult_4 : decode cC2_hasResult 4 = .ok (.iload_n 1, 1) := by decide +kernel
theorem dC2_hasResult_5 : decode cC2_hasResult 5 = .ok (.iaload, 1) := by decide +kernel
theorem dC2_hasResult_6 : decode cC2_hasResult 6 = .ok (.iconst (-1), 1) := by decide +kernel
theorem dC2_hasResult_7 : decode cC2_hasResult 7 = .ok (.if_icmp .eq 7, 3) := by decide +kernel
theorem dC2_hasResult_10 : decode cC2_hasResult 10 = .ok (.iconst 1, 1) := by decide +kernel
theorem dC2_hasResult_11 : decode cC2_hasResult 11 = .ok (.goto 4, 3) := by decide +kernel
theorem dC2_hasResult_14 : decode cC2_hasResult 14 = .ok (.iconst 0, 1) := by decide +kernel
theorem dC2_hasResult_15 : decode cC2_hasResult 15 = .ok (.ireturn, 1) := by decide +kernel
theorem dC3_hasResult_0 : decode cC3_hasResult 0 = .ok (.aload_n 0, 1) := by decide +kernel
theorem dC3_hasResult_1 : decode cC3_hasResult 1 = .ok (.getfield 18, 3) := by decide +kernel
theorem dC3_hasResult_4 : decode cC3_hasResult 4 = .ok (.iload_n 1, 1) := by decide +kernel
theorem dC3_hasResult_5 : decode cC3_hasResult 5 = .ok (.iaload, 1) := by decide +kernel
theorem dC3_hasResult_6 : decode cC3_hasResult 6 = .ok (.iconst (-1), 1) := by decide +kernel
theorem dC3_hasResult_7 : decode cC3_hasResult 7 = .ok (.if_icmp .eq 7, 3) := by decide +kernel
theorem dC3_hasResult_10 : decode cC3_hasResult 10 = .ok (.iconst 1, 1) := by decide +kernel
theorem dC3_hasResult_11 : decode cC3_hasResult 11 = .ok (.goto 4, 3) := by decide +kernel
theorem dC3_hasResult_14 : decode cC3_hasResult 14 = .ok (.iconst 0, 1) := by decide +kernel
theorem dC3_hasResult_15 : decode cC3_hasResult 15 = .ok (.ireturn, 1) := by decide +kernel
theorem dC4_hasShape_0 : decode cC4_hasShape 0 = .ok (.aload_n 0, 1) := by decide +kernel
theorem dC4_hasShape_1 : decode cC4_hasShape 1 = .ok (.getfield 15, 3) := by decide +kernel
theorem dC4_hasShape_4 : decode cC4_hasShape 4 = .ok (.iload_n 1, 1) := by decide +kernel
theorem dC4_hasShape_5 : decode cC4_hasShape 5 = .ok (.invokevirtual 116, 3) := by decide +kernel
theorem dC4_hasShape_8 : decode cC4_hasShape 8 = .ok (.istore_n 3, 1) := by decide +kernel
theorem dC4_hasShape_9 : decode cC4_hasShape 9 = .ok (.iload_n 3, 1) := by decide +kernel
theorem dC4_hasShape_10 : decode cC4_hasShape 10 = .ok (.iconst (-1), 1) := by decide +kernel
theorem dC4_hasShape_11 : decode cC4_hasShape 11 = .ok (.if_icmp .ne 5, 3) := by decide +kernel
theorem dC4_hasShape_14 : decode cC4_hasShape 14 = .ok (.iconst 0, 1) := by decide +kernel
theorem dC4_hasShape_15 : decode cC4_hasShape 15 = .ok (.ireturn, 1) := by decide +kernel
theorem dC4_hasShape_16 : decode cC4_hasShape 16 = .ok (.aload_n 0, 1) := by decide +kernel
theorem dC4_hasShape_17 : decode cC4_hasShape 17 = .ok (.getfield 15, 3) := by decide +kernel
theorem dC4_hasShape_20 : decode cC4_hasShape 20 = .ok (.iload_n 3, 1) := by decide +kernel
theorem dC4_hasShape_21 : decode cC4_hasShape 21 = .ok (.invokevirtual 97, 3) := by decide +kernel
theorem dC4_hasShape_24 : decode cC4_hasShape 24 = .ok (.aload_n 0, 1) := by decide +kernel
theorem dC4_hasShape_25 : decode cC4_hasShape 25 = .ok (.getfield 19, 3) := by decide +kernel
theorem dC4_hasShape_28 : decode cC4_hasShape 28 = .ok (.iload_n 2, 1) := by decide +kernel
theorem dC4_hasShape_29 : decode cC4_hasShape 29 = .ok (.invokevirtual 119, 3) := by decide +kernel
theorem dC4_hasShape_32 : decode cC4_hasShape 32 = .ok (.if_icmp .ne 26, 3) := by decide +kernel
theorem dC4_hasShape_35 : decode cC4_hasShape 35 = .ok (.aload_n 0, 1) := by decide +kernel
theorem dC4_hasShape_36 : decode cC4_hasShape 36 = .ok (.getfield 15, 3) := by decide +kernel
theorem dC4_hasShape_39 : decode cC4_hasShape 39 = .ok (.iload_n 3, 1) := by decide +kernel
theorem dC4_hasShape_40 : decode cC4_hasShape 40 = .ok (.invokevirtual 120, 3) := by decide +kernel
theorem dC4_hasShape_43 : decode cC4_hasShape 43 = .ok (.aload_n 0, 1) := by decide +kernel
theorem dC4_hasShape_44 : decode cC4_hasShape 44 = .ok (.getfield 19, 3) := by decide +kernel
theorem dC4_hasShape_47 : decode cC4_hasShape 47 = .ok (.iload_n 2, 1) := by decide +kernel
theorem dC4_hasShape_48 : decode cC4_hasShape 48 = .ok (.invokevirtual 123, 3) := by decide +kernel
theorem dC4_hasShape_51 : decode cC4_hasShape 51 = .ok (.if_icmp .ne 7, 3) := by decide +kernel
theorem dC4_hasShape_54 : decode cC4_hasShape 54 = .ok (.iconst 1, 1) := by decide +kernel
theorem dC4_hasShape_55 : decode cC4_hasShape 55 = .ok (.goto 4, 3) := by decide +kernel
theorem dC4_hasShape_58 : decode cC4_hasShape 58 = .ok (.iconst 0, 1) := by decide +kernel
theorem dC4_hasShape_59 : decode cC4_hasShape 59 = .ok (.ireturn, 1) := by decide +kernel
theorem dC4_couldBeMeant_0 : decode cC4_couldBeMeant 0 = .ok (.aload_n 0, 1) := by decide +kernel
theorem dC4_couldBeMeant_1 : decode cC4_couldBeMeant 1 = .ok (.getfield 15, 3) := by decide +kernel
theorem dC4_couldBeMeant_4 : decode cC4_couldBeMeant 4 = .ok (.iload_n 1, 1) := by decide +kernel
theorem dC4_couldBeMeant_5 : decode cC4_couldBeMeant 5 = .ok (.invokevirtual 94, 3) := by decide +kernel
theorem dC4_couldBeMeant_8 : decode cC4_couldBeMeant 8 = .ok (.istore_n 2, 1) := by decide +kernel
theorem dC4_couldBeMeant_9 : decode cC4_couldBeMeant 9 = .ok (.aload_n 0, 1) := by decide +kernel
theorem dC4_couldBeMeant_10 : decode cC4_couldBeMeant 10 = .ok (.getfield 15, 3) := by decide +kernel
theorem dC4_couldBeMeant_13 : decode cC4_couldBeMeant 13 = .ok (.iload_n 1, 1) := by decide +kernel
theorem dC4_couldBeMeant_14 : decode cC4_couldBeMeant 14 = .ok (.invokevirtual 97, 3) := by decide +kernel
theorem dC4_couldBeMeant_17 : decode cC4_couldBeMeant 17 = .ok (.istore_n 3, 1) := by decide +kernel
theorem dC4_couldBeMeant_18 : decode cC4_couldBeMeant 18 = .ok (.iload_n 3, 1) := by decide +kernel
theorem dC4_couldBeMeant_19 : decode cC4_couldBeMeant 19 = .ok (.aload_n 0, 1) := by decide +kernel
theorem dC4_couldBeMeant_20 : decode cC4_couldBeMeant 20 = .ok (.getfield 19, 3) := by decide +kernel
theorem dC4_couldBeMeant_23 : decode cC4_couldBeMeant 23 = .ok (.invokevirtual 101, 3) := by decide +kernel
theorem dC4_couldBeMeant_26 : decode cC4_couldBeMeant 26 = .ok (.if_icmp .eq 22, 3) := by decide +kernel
theorem dC4_couldBeMeant_29 : decode cC4_couldBeMeant 29 = .ok (.iload_n 2, 1) := by decide +kernel
theorem dC4_couldBeMeant_30 : decode cC4_couldBeMeant 30 = .ok (.ifCond .eq 16, 3) := by decide +kernel
theorem dC4_couldBeMeant_33 : decode cC4_couldBeMeant 33 = .ok (.iload_n 3, 1) := by decide +kernel
theorem dC4_couldBeMeant_34 : decode cC4_couldBeMeant 34 = .ok (.aload_n 0, 1) := by decide +kernel
theorem dC4_couldBeMeant_35 : decode cC4_couldBeMeant 35 = .ok (.getfield 19, 3) := by decide +kernel
theorem dC4_couldBeMeant_38 : decode cC4_couldBeMeant 38 = .ok (.invokevirtual 101, 3) := by decide +kernel
theorem dC4_couldBeMeant_41 : decode cC4_couldBeMeant 41 = .ok (.iconst 1, 1) := by decide +kernel
theorem dC4_couldBeMeant_42 : decode cC4_couldBeMeant 42 = .ok (.iadd, 1) := by decide +kernel
theorem dC4_couldBeMeant_43 : decode cC4_couldBeMeant 43 = .ok (.if_icmp .le 5, 3) := by decide +kernel
theorem dC4_couldBeMeant_46 : decode cC4_couldBeMeant 46 = .ok (.iconst 0, 1) := by decide +kernel
theorem dC4_couldBeMeant_47 : decode cC4_couldBeMeant 47 = .ok (.ireturn, 1) := by decide +kernel
theorem dC4_couldBeMeant_48 : decode cC4_couldBeMeant 48 = .ok (.iconst 0, 1) := by decide +kernel
theorem dC4_couldBeMeant_49 : decode cC4_couldBeMeant 49 = .ok (.istore 4, 2) := by decide +kernel
theorem dC4_couldBeMeant_51 : decode cC4_couldBeMeant 51 = .ok (.iload 4, 2) := by decide +kernel
theorem dC4_couldBeMeant_53 : decode cC4_couldBeMeant 53 = .ok (.aload_n 0, 1) := by decide +kernel
theorem dC4_couldBeMeant_54 : decode cC4_couldBeMeant 54 = .ok (.getfield 19, 3) := by decide +kernel
theorem dC4_couldBeMeant_57 : decode cC4_couldBeMeant 57 = .ok (.invokevirtual 101, 3) := by decide +kernel
theorem dC4_couldBeMeant_60 : decode cC4_couldBeMeant 60 = .ok (.if_icmp .ge 43, 3) := by decide +kernel
theorem dC4_couldBeMeant_63 : decode cC4_couldBeMeant 63 = .ok (.aload_n 0, 1) := by decide +kernel
theorem dC4_couldBeMeant_64 : decode cC4_couldBeMeant 64 = .ok (.getfield 19, 3) := by decide +kernel
theorem dC4_couldBeMeant_67 : decode cC4_couldBeMeant 67 = .ok (.iload 4, 2) := by decide +kernel
theorem dC4_couldBeMeant_69 : decode cC4_couldBeMeant 69 = .ok (.invokevirtual 106, 3) := by decide +kernel
theorem dC4_couldBeMeant_72 : decode cC4_couldBeMeant 72 = .ok (.ifCond .eq 25, 3) := by decide +kernel
theorem dC4_couldBeMeant_75 : decode cC4_couldBeMeant 75 = .ok (.aload_n 0, 1) := by decide +kernel
theorem dC4_couldBeMeant_76 : decode cC4_couldBeMeant 76 = .ok (.aload_n 0, 1) := by decide +kernel
theorem dC4_couldBeMeant_77 : decode cC4_couldBeMeant 77 = .ok (.getfield 15, 3) := by decide +kernel
theorem dC4_couldBeMeant_80 : decode cC4_couldBeMeant 80 = .ok (.iload_n 1, 1) := by decide +kernel
theorem dC4_couldBeMeant_81 : decode cC4_couldBeMeant 81 = .ok (.iload 4, 2) := by decide +kernel
theorem dC4_couldBeMeant_83 : decode cC4_couldBeMeant 83 = .ok (.iload_n 2, 1) := by decide +kernel
theorem dC4_couldBeMeant_84 : decode cC4_couldBeMeant 84 = .ok (.invokevirtual 109, 3) := by decide +kernel
theorem dC4_couldBeMeant_87 : decode cC4_couldBeMeant 87 = .ok (.iload 4, 2) := by decide +kernel
theorem dC4_couldBeMeant_89 : decode cC4_couldBeMeant 89 = .ok (.invokevirtual 113, 3) := by decide +kernel
theorem dC4_couldBeMeant_92 : decode cC4_couldBeMeant 92 = .ok (.ifCond .ne 5, 3) := by decide +kernel
theorem dC4_couldBeMeant_95 : decode cC4_couldBeMeant 95 = .ok (.iconst 0, 1) := by decide +kernel
theorem dC4_couldBeMeant_96 : decode cC4_couldBeMeant 96 = .ok (.ireturn, 1) := by decide +kernel
theorem dC4_couldBeMeant_97 : decode cC4_couldBeMeant 97 = .ok (.iinc 4 1, 3) := by decide +kernel
theorem dC4_couldBeMeant_100 : decode cC4_couldBeMeant 100 = .ok (.goto (-49), 3) := by decide +kernel
theorem dC4_couldBeMeant_103 : decode cC4_couldBeMeant 103 = .ok (.iconst 1, 1) := by decide +kernel
theorem dC4_couldBeMeant_104 : decode cC4_couldBeMeant 104 = .ok (.ireturn, 1) := by decide +kernel
theorem dC4_keepMeant_0 : decode cC4_keepMeant 0 = .ok (.iconst 0, 1) := by decide +kernel
theorem dC4_keepMeant_1 : decode cC4_keepMeant 1 = .ok (.istore_n 1, 1) := by decide +kernel
theorem dC4_keepMeant_2 : decode cC4_keepMeant 2 = .ok (.iconst 0, 1) := by decide +kernel
theorem dC4_keepMeant_3 : decode cC4_keepMeant 3 = .ok (.istore_n 2, 1) := by decide +kernel
theorem dC4_keepMeant_4 : decode cC4_keepMeant 4 = .ok (.iload_n 2, 1) := by decide +kernel
theorem dC4_keepMeant_5 : decode cC4_keepMeant 5 = .ok (.aload_n 0, 1) := by decide +kernel
theorem dC4_keepMeant_6 : decode cC4_keepMeant 6 = .ok (.getfield 61, 3) := by decide +kernel
theorem dC4_keepMeant_9 : decode cC4_keepMeant 9 = .ok (.if_icmp .ge 37, 3) := by decide +kernel
theorem dC4_keepMeant_12 : decode cC4_keepMeant 12 = .ok (.aload_n 0, 1) := by decide +kernel
theorem dC4_keepMeant_13 : decode cC4_keepMeant 13 = .ok (.aload_n 0, 1) := by decide +kernel
theorem dC4_keepMeant_14 : decode cC4_keepMeant 14 = .ok (.getfield 25, 3) := by decide +kernel
theorem dC4_keepMeant_17 : decode cC4_keepMeant 17 = .ok (.iload_n 2, 1) := by decide +kernel
theorem dC4_keepMeant_18 : decode cC4_keepMeant 18 = .ok (.iaload, 1) := by decide +kernel
theorem dC4_keepMeant_19 : decode cC4_keepMeant 19 = .ok (.invokevirtual 78, 3) := by decide +kernel
theorem dC4_keepMeant_22 : decode cC4_keepMeant 22 = .ok (.ifCond .eq 18, 3) := by decide +kernel
theorem dC4_keepMeant_25 : decode cC4_keepMeant 25 = .ok (.aload_n 0, 1) := by decide +kernel
theorem dC4_keepMeant_26 : decode cC4_keepMeant 26 = .ok (.getfield 25, 3) := by decide +kernel
theorem dC4_keepMeant_29 : decode cC4_keepMeant 29 = .ok (.iload_n 1, 1) := by decide +kernel
theorem dC4_keepMeant_30 : decode cC4_keepMeant 30 = .ok (.aload_n 0, 1) := by decide +kernel
theorem dC4_keepMeant_31 : decode cC4_keepMeant 31 = .ok (.getfield 25, 3) := by decide +kernel
theorem dC4_keepMeant_34 : decode cC4_keepMeant 34 = .ok (.iload_n 2, 1) := by decide +kernel
theorem dC4_keepMeant_35 : decode cC4_keepMeant 35 = .ok (.iaload, 1) := by decide +kernel
theorem dC4_keepMeant_36 : decode cC4_keepMeant 36 = .ok (.iastore, 1) := by decide +kernel
theorem dC4_keepMeant_37 : decode cC4_keepMeant 37 = .ok (.iinc 1 1, 3) := by decide +kernel
theorem dC4_keepMeant_40 : decode cC4_keepMeant 40 = .ok (.iinc 2 1, 3) := by decide +kernel
theorem dC4_keepMeant_43 : decode cC4_keepMeant 43 = .ok (.goto (-39), 3) := by decide +kernel
theorem dC4_keepMeant_46 : decode cC4_keepMeant 46 = .ok (.aload_n 0, 1) := by decide +kernel
theorem dC4_keepMeant_47 : decode cC4_keepMeant 47 = .ok (.iload_n 1, 1) := by decide +kernel
theorem dC4_keepMeant_48 : decode cC4_keepMeant 48 = .ok (.putfield 61, 3) := by decide +kernel
theorem dC4_keepMeant_51 : decode cC4_keepMeant 51 = .ok (.return_, 1) := by decide +kernel
theorem dC2_spreadType_0 : decode cC2_spreadType 0 = .ok (.aload_n 0, 1) := by decide +kernel
theorem dC2_spreadType_1 : decode cC2_spreadType 1 = .ok (.iload_n 1, 1) := by decide +kernel
theorem dC2_spreadType_2 : decode cC2_spreadType 2 = .ok (.aload_n 0, 1) := by decide +kernel
