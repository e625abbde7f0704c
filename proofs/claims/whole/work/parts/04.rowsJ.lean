theorem dJ6_compare_7cf53_0 : decode cJ6_compare_7cf53 0 = .ok (.iload_n 0, 1) := by decide +kernel
theorem dJ6_compare_7cf53_1 : decode cJ6_compare_7cf53 1 = .ok (.iload_n 1, 1) := by decide +kernel
theorem dJ6_compare_7cf53_2 : decode cJ6_compare_7cf53 2 = .ok (.if_icmp .ge 7, 3) := by decide +kernel
theorem dJ6_compare_7cf53_5 : decode cJ6_compare_7cf53 5 = .ok (.iconst (-1), 1) := by decide +kernel
theorem dJ6_compare_7cf53_6 : decode cJ6_compare_7cf53 6 = .ok (.goto 13, 3) := by decide +kernel
theorem dJ6_compare_7cf53_9 : decode cJ6_compare_7cf53 9 = .ok (.iload_n 0, 1) := by decide +kernel
theorem dJ6_compare_7cf53_10 : decode cJ6_compare_7cf53 10 = .ok (.iload_n 1, 1) := by decide +kernel
theorem dJ6_compare_7cf53_11 : decode cJ6_compare_7cf53 11 = .ok (.if_icmp .ne 7, 3) := by decide +kernel
theorem dJ6_compare_7cf53_14 : decode cJ6_compare_7cf53 14 = .ok (.iconst 0, 1) := by decide +kernel
theorem dJ6_compare_7cf53_15 : decode cJ6_compare_7cf53 15 = .ok (.goto 4, 3) := by decide +kernel
theorem dJ6_compare_7cf53_18 : decode cJ6_compare_7cf53 18 = .ok (.iconst 1, 1) := by decide +kernel
theorem dJ6_compare_7cf53_19 : decode cJ6_compare_7cf53 19 = .ok (.ireturn, 1) := by decide +kernel
theorem dJ13_compare_74951_0 : decode cJ13_compare_74951 0 = .ok (.lload_n 0, 1) := by decide +kernel
theorem dJ13_compare_74951_1 : decode cJ13_compare_74951 1 = .ok (.lload_n 2, 1) := by decide +kernel
theorem dJ13_compare_74951_2 : decode cJ13_compare_74951 2 = .ok (.lcmp, 1) := by decide +kernel
theorem dJ13_compare_74951_3 : decode cJ13_compare_74951 3 = .ok (.ifCond .ge 7, 3) := by decide +kernel
theorem dJ13_compare_74951_6 : decode cJ13_compare_74951 6 = .ok (.iconst (-1), 1) := by decide +kernel
theorem dJ13_compare_74951_7 : decode cJ13_compare_74951 7 = .ok (.goto 14, 3) := by decide +kernel
theorem dJ13_compare_74951_10 : decode cJ13_compare_74951 10 = .ok (.lload_n 0, 1) := by decide +kernel
theorem dJ13_compare_74951_11 : decode cJ13_compare_74951 11 = .ok (.lload_n 2, 1) := by decide +kernel
theorem dJ13_compare_74951_12 : decode cJ13_compare_74951 12 = .ok (.lcmp, 1) := by decide +kernel
theorem dJ13_compare_74951_13 : decode cJ13_compare_74951 13 = .ok (.ifCond .ne 7, 3) := by decide +kernel
theorem dJ13_compare_74951_16 : decode cJ13_compare_74951 16 = .ok (.iconst 0, 1) := by decide +kernel
theorem dJ13_compare_74951_17 : decode cJ13_compare_74951 17 = .ok (.goto 4, 3) := by decide +kernel
theorem dJ13_compare_74951_20 : decode cJ13_compare_74951 20 = .ok (.iconst 1, 1) := by decide +kernel
theorem dJ13_compare_74951_21 : decode cJ13_compare_74951 21 = .ok (.ireturn, 1) := by decide +kernel
theorem dJ9_max_7cf53_0 : decode cJ9_max_7cf53 0 = .ok (.iload_n 0, 1) := by decide +kernel
theorem dJ9_max_7cf53_1 : decode cJ9_max_7cf53 1 = .ok (.iload_n 1, 1) := by decide +kernel
theorem dJ9_max_7cf53_2 : decode cJ9_max_7cf53 2 = .ok (.if_icmp .lt 7, 3) := by decide +kernel
theorem dJ9_max_7cf53_5 : decode cJ9_max_7cf53 5 = .ok (.iload_n 0, 1) := by decide +kernel
theorem dJ9_max_7cf53_6 : decode cJ9_max_7cf53 6 = .ok (.goto 4, 3) := by decide +kernel
theorem dJ9_max_7cf53_9 : decode cJ9_max_7cf53 9 = .ok (.iload_n 1, 1) := by decide +kernel
theorem dJ9_max_7cf53_10 : decode cJ9_max_7cf53 10 = .ok (.ireturn, 1) := by decide +kernel
theorem dJ9_min_7cf53_0 : decode cJ9_min_7cf53 0 = .ok (.iload_n 0, 1) := by decide +kernel
theorem dJ9_min_7cf53_1 : decode cJ9_min_7cf53 1 = .ok (.iload_n 1, 1) := by decide +kernel
theorem dJ9_min_7cf53_2 : decode cJ9_min_7cf53 2 = .ok (.if_icmp .gt 7, 3) := by decide +kernel
theorem dJ9_min_7cf53_5 : decode cJ9_min_7cf53 5 = .ok (.iload_n 0, 1) := by decide +kernel
theorem dJ9_min_7cf53_6 : decode cJ9_min_7cf53 6 = .ok (.goto 4, 3) := by decide +kernel
theorem dJ9_min_7cf53_9 : decode cJ9_min_7cf53 9 = .ok (.iload_n 1, 1) := by decide +kernel
theorem dJ9_min_7cf53_10 : decode cJ9_min_7cf53 10 = .ok (.ireturn, 1) := by decide +kernel
theorem dJ0_init_905df_0 : decode cJ0_init_905df 0 = .ok (.aload_n 0, 1) := by decide +kernel
theorem dJ0_init_905df_1 : decode cJ0_init_905df 1 = .ok (.aload_n 1, 1) := by decide +kernel
theorem dJ0_init_905df_2 : decode cJ0_init_905df 2 = .ok (.iconst 0, 1) := by decide +kernel
theorem dJ0_init_905df_3 : decode cJ0_init_905df 3 = .ok (.aload_n 1, 1) := by decide +kernel
theorem dJ0_init_905df_4 : decode cJ0_init_905df 4 = .ok (.arraylength, 1) := by decide +kernel
theorem dJ0_init_905df_5 : decode cJ0_init_905df 5 = .ok (.aconst_null, 1) := by decide +kernel
theorem dJ0_init_905df_6 : decode cJ0_init_905df 6 = .ok (.invokespecial 27, 3) := by decide +kernel
theorem dJ0_init_905df_9 : decode cJ0_init_905df 9 = .ok (.return_, 1) := by decide +kernel
theorem dJ0_length_8abf5_0 : decode cJ0_length_8abf5 0 = .ok (.aload_n 0, 1) := by decide +kernel
theorem dJ0_length_8abf5_1 : decode cJ0_length_8abf5 1 = .ok (.getfield 9, 3) := by decide +kernel
theorem dJ0_length_8abf5_4 : decode cJ0_length_8abf5 4 = .ok (.arraylength, 1) := by decide +kernel
theorem dJ0_length_8abf5_5 : decode cJ0_length_8abf5 5 = .ok (.aload_n 0, 1) := by decide +kernel
theorem dJ0_length_8abf5_6 : decode cJ0_length_8abf5 6 = .ok (.invokevirtual 335, 3) := by decide +kernel
theorem dJ0_length_8abf5_9 : decode cJ0_length_8abf5 9 = .ok (.ishr, 1) := by decide +kernel
theorem dJ0_length_8abf5_10 : decode cJ0_length_8abf5 10 = .ok (.ireturn, 1) := by decide +kernel
theorem dJ0_isEmpty_aae02_0 : decode cJ0_isEmpty_aae02 0 = .ok (.aload_n 0, 1) := by decide +kernel
theorem dJ0_isEmpty_aae02_1 : decode cJ0_isEmpty_aae02 1 = .ok (.getfield 9, 3) := by decide +kernel
theorem dJ0_isEmpty_aae02_4 : decode cJ0_isEmpty_aae02 4 = .ok (.arraylength, 1) := by decide +kernel
theorem dJ0_isEmpty_aae02_5 : decode cJ0_isEmpty_aae02 5 = .ok (.ifCond .ne 7, 3) := by decide +kernel
theorem dJ0_isEmpty_aae02_8 : decode cJ0_isEmpty_aae02 8 = .ok (.iconst 1, 1) := by decide +kernel
theorem dJ0_isEmpty_aae02_9 : decode cJ0_isEmpty_aae02 9 = .ok (.goto 4, 3) := by decide +kernel
theorem dJ0_isEmpty_aae02_12 : decode cJ0_isEmpty_aae02 12 = .ok (.iconst 0, 1) := by decide +kernel
theorem dJ0_isEmpty_aae02_13 : decode cJ0_isEmpty_aae02 13 = .ok (.ireturn, 1) := by decide +kernel
theorem dJ0_charAt_5068e_0 : decode cJ0_charAt_5068e 0 = .ok (.aload_n 0, 1) := by decide +kernel
theorem dJ0_charAt_5068e_1 : decode cJ0_charAt_5068e 1 = .ok (.invokevirtual 492, 3) := by decide +kernel
theorem dJ0_charAt_5068e_4 : decode cJ0_charAt_5068e 4 = .ok (.ifCond .eq 12, 3) := by decide +kernel
theorem dJ0_charAt_5068e_7 : decode cJ0_charAt_5068e 7 = .ok (.aload_n 0, 1) := by decide +kernel
theorem dJ0_charAt_5068e_8 : decode cJ0_charAt_5068e 8 = .ok (.getfield 9, 3) := by decide +kernel
theorem dJ0_charAt_5068e_11 : decode cJ0_charAt_5068e 11 = .ok (.iload_n 1, 1) := by decide +kernel
theorem dJ0_charAt_5068e_12 : decode cJ0_charAt_5068e 12 = .ok (.invokestatic 495, 3) := by decide +kernel
theorem dJ0_charAt_5068e_15 : decode cJ0_charAt_5068e 15 = .ok (.ireturn, 1) := by decide +kernel
theorem dJ0_charAt_5068e_16 : decode cJ0_charAt_5068e 16 = .ok (.aload_n 0, 1) := by decide +kernel
theorem dJ0_charAt_5068e_17 : decode cJ0_charAt_5068e 17 = .ok (.getfield 9, 3) := by decide +kernel
theorem dJ0_charAt_5068e_20 : decode cJ0_charAt_5068e 20 = .ok (.iload_n 1, 1) := by decide +kernel
theorem dJ0_charAt_5068e_21 : decode cJ0_charAt_5068e 21 = .ok (.invokestatic 498, 3) := by decide +kernel
theorem dJ0_charAt_5068e_24 : decode cJ0_charAt_5068e 24 = .ok (.ireturn, 1) := by decide +kernel
theorem dJ0_equals_9ea2d_0 : decode cJ0_equals_9ea2d 0 = .ok (.aload_n 0, 1) := by decide +kernel
theorem dJ0_equals_9ea2d_1 : decode cJ0_equals_9ea2d 1 = .ok (.aload_n 1, 1) := by decide +kernel
theorem dJ0_equals_9ea2d_2 : decode cJ0_equals_9ea2d 2 = .ok (.if_acmp .ne 5, 3) := by decide +kernel
theorem dJ0_equals_9ea2d_5 : decode cJ0_equals_9ea2d 5 = .ok (.iconst 1, 1) := by decide +kernel
theorem dJ0_equals_9ea2d_6 : decode cJ0_equals_9ea2d 6 = .ok (.ireturn, 1) := by decide +kernel
theorem dJ0_equals_9ea2d_7 : decode cJ0_equals_9ea2d 7 = .ok (.aload_n 1, 1) := by decide +kernel
theorem dJ0_equals_9ea2d_8 : decode cJ0_equals_9ea2d 8 = .ok (.instanceof 10, 3) := by decide +kernel
theorem dJ0_equals_9ea2d_11 : decode cJ0_equals_9ea2d 11 = .ok (.ifCond .eq 43, 3) := by decide +kernel
theorem dJ0_equals_9ea2d_14 : decode cJ0_equals_9ea2d 14 = .ok (.aload_n 1, 1) := by decide +kernel
theorem dJ0_equals_9ea2d_15 : decode cJ0_equals_9ea2d 15 = .ok (.checkcast 10, 3) := by decide +kernel
theorem dJ0_equals_9ea2d_18 : decode cJ0_equals_9ea2d 18 = .ok (.astore_n 2, 1) := by decide +kernel
theorem dJ0_equals_9ea2d_19 : decode cJ0_equals_9ea2d 19 = .ok (.getstatic 38, 3) := by decide +kernel
theorem dJ0_equals_9ea2d_22 : decode cJ0_equals_9ea2d 22 = .ok (.ifCond .eq 14, 3) := by decide +kernel
theorem dJ0_equals_9ea2d_25 : decode cJ0_equals_9ea2d 25 = .ok (.aload_n 0, 1) := by decide +kernel
theorem dJ0_equals_9ea2d_26 : decode cJ0_equals_9ea2d 26 = .ok (.getfield 15, 3) := by decide +kernel
theorem dJ0_equals_9ea2d_29 : decode cJ0_equals_9ea2d 29 = .ok (.aload_n 2, 1) := by decide +kernel
theorem dJ0_equals_9ea2d_30 : decode cJ0_equals_9ea2d 30 = .ok (.getfield 15, 3) := by decide +kernel
theorem dJ0_equals_9ea2d_33 : decode cJ0_equals_9ea2d 33 = .ok (.if_icmp .ne 21, 3) := by decide +kernel
theorem dJ0_equals_9ea2d_36 : decode cJ0_equals_9ea2d 36 = .ok (.aload_n 0, 1) := by decide +kernel
theorem dJ0_equals_9ea2d_37 : decode cJ0_equals_9ea2d 37 = .ok (.getfield 9, 3) := by decide +kernel
theorem dJ0_equals_9ea2d_40 : decode cJ0_equals_9ea2d 40 = .ok (.aload_n 2, 1) := by decide +kernel
theorem dJ0_equals_9ea2d_41 : decode cJ0_equals_9ea2d 41 = .ok (.getfield 9, 3) := by decide +kernel
theorem dJ0_equals_9ea2d_44 : decode cJ0_equals_9ea2d 44 = .ok (.invokestatic 541, 3) := by decide +kernel
theorem dJ0_equals_9ea2d_47 : decode cJ0_equals_9ea2d 47 = .ok (.ifCond .eq 7, 3) := by decide +kernel
theorem dJ0_equals_9ea2d_50 : decode cJ0_equals_9ea2d 50 = .ok (.iconst 1, 1) := by decide +kernel
theorem dJ0_equals_9ea2d_51 : decode cJ0_equals_9ea2d 51 = .ok (.goto 4, 3) := by decide +kernel
theorem dJ0_equals_9ea2d_54 : decode cJ0_equals_9ea2d 54 = .ok (.iconst 0, 1) := by decide +kernel
theorem dJ0_equals_9ea2d_55 : decode cJ0_equals_9ea2d 55 = .ok (.ireturn, 1) := by decide +kernel
theorem dJ0_substring_37a41_0 : decode cJ0_substring_37a41 0 = .ok (.aload_n 0, 1) := by decide +kernel
theorem dJ0_substring_37a41_1 : decode cJ0_substring_37a41 1 = .ok (.invokevirtual 505, 3) := by decide +kernel
theorem dJ0_substring_37a41_4 : decode cJ0_substring_37a41 4 = .ok (.istore_n 3, 1) := by decide +kernel
theorem dJ0_substring_37a41_5 : decode cJ0_substring_37a41 5 = .ok (.iload_n 1, 1) := by decide +kernel
theorem dJ0_substring_37a41_6 : decode cJ0_substring_37a41 6 = .ok (.iload_n 2, 1) := by decide +kernel
theorem dJ0_substring_37a41_7 : decode cJ0_substring_37a41 7 = .ok (.iload_n 3, 1) := by decide +kernel
theorem dJ0_substring_37a41_8 : decode cJ0_substring_37a41 8 = .ok (.invokestatic 521, 3) := by decide +kernel
theorem dJ0_substring_37a41_11 : decode cJ0_substring_37a41 11 = .ok (.iload_n 1, 1) := by decide +kernel
theorem dJ0_substring_37a41_12 : decode cJ0_substring_37a41 12 = .ok (.ifCond .ne 10, 3) := by decide +kernel
theorem dJ0_substring_37a41_15 : decode cJ0_substring_37a41 15 = .ok (.iload_n 2, 1) := by decide +kernel
theorem dJ0_substring_37a41_16 : decode cJ0_substring_37a41 16 = .ok (.iload_n 3, 1) := by decide +kernel
theorem dJ0_substring_37a41_17 : decode cJ0_substring_37a41 17 = .ok (.if_icmp .ne 5, 3) := by decide +kernel
theorem dJ0_substring_37a41_20 : decode cJ0_substring_37a41 20 = .ok (.aload_n 0, 1) := by decide +kernel
theorem dJ0_substring_37a41_21 : decode cJ0_substring_37a41 21 = .ok (.areturn, 1) := by decide +kernel
theorem dJ0_substring_37a41_22 : decode cJ0_substring_37a41 22 = .ok (.iload_n 2, 1) := by decide +kernel
theorem dJ0_substring_37a41_23 : decode cJ0_substring_37a41 23 = .ok (.iload_n 1, 1) := by decide +kernel
theorem dJ0_substring_37a41_24 : decode cJ0_substring_37a41 24 = .ok (.isub, 1) := by decide +kernel
theorem dJ0_substring_37a41_25 : decode cJ0_substring_37a41 25 = .ok (.istore 4, 2) := by decide +kernel
theorem dJ0_substring_37a41_27 : decode cJ0_substring_37a41 27 = .ok (.aload_n 0, 1) := by decide +kernel
theorem dJ0_substring_37a41_28 : decode cJ0_substring_37a41 28 = .ok (.invokevirtual 492, 3) := by decide +kernel
theorem dJ0_substring_37a41_31 : decode cJ0_substring_37a41 31 = .ok (.ifCond .eq 16, 3) := by decide +kernel
theorem dJ0_substring_37a41_34 : decode cJ0_substring_37a41 34 = .ok (.aload_n 0, 1) := by decide +kernel
theorem dJ0_substring_37a41_35 : decode cJ0_substring_37a41 35 = .ok (.getfield 9, 3) := by decide +kernel
theorem dJ0_substring_37a41_38 : decode cJ0_substring_37a41 38 = .ok (.iload_n 1, 1) := by decide +kernel
theorem dJ0_substring_37a41_39 : decode cJ0_substring_37a41 39 = .ok (.iload 4, 2) := by decide +kernel
theorem dJ0_substring_37a41_41 : decode cJ0_substring_37a41 41 = .ok (.invokestatic 685, 3) := by decide +kernel
theorem dJ0_substring_37a41_44 : decode cJ0_substring_37a41 44 = .ok (.goto 13, 3) := by decide +kernel
theorem dJ0_substring_37a41_47 : decode cJ0_substring_37a41 47 = .ok (.aload_n 0, 1) := by decide +kernel
theorem dJ0_substring_37a41_48 : decode cJ0_substring_37a41 48 = .ok (.getfield 9, 3) := by decide +kernel
theorem dJ0_substring_37a41_51 : decode cJ0_substring_37a41 51 = .ok (.iload_n 1, 1) := by decide +kernel
theorem dJ0_substring_37a41_52 : decode cJ0_substring_37a41 52 = .ok (.iload 4, 2) := by decide +kernel
theorem dJ0_substring_37a41_54 : decode cJ0_substring_37a41 54 = .ok (.invokestatic 689, 3) := by decide +kernel
theorem dJ0_substring_37a41_57 : decode cJ0_substring_37a41 57 = .ok (.areturn, 1) := by decide +kernel
theorem dJ0_init_bb550_0 : decode cJ0_init_bb550 0 = .ok (.aload_n 0, 1) := by decide +kernel
theorem dJ0_init_bb550_1 : decode cJ0_init_bb550 1 = .ok (.invokespecial 1, 3) := by decide +kernel
theorem dJ0_init_bb550_4 : decode cJ0_init_bb550 4 = .ok (.iload_n 3, 1) := by decide +kernel
theorem dJ0_init_bb550_5 : decode cJ0_init_bb550 5 = .ok (.ifCond .ne 22, 3) := by decide +kernel
theorem dJ0_init_bb550_8 : decode cJ0_init_bb550 8 = .ok (.aload_n 0, 1) := by decide +kernel
theorem dJ0_init_bb550_9 : decode cJ0_init_bb550 9 = .ok (.ldc 7, 2) := by decide +kernel
theorem dJ0_init_bb550_11 : decode cJ0_init_bb550 11 = .ok (.getfield 9, 3) := by decide +kernel
theorem dJ0_init_bb550_14 : decode cJ0_init_bb550 14 = .ok (.putfield 9, 3) := by decide +kernel
theorem dJ0_init_bb550_17 : decode cJ0_init_bb550 17 = .ok (.aload_n 0, 1) := by decide +kernel
theorem dJ0_init_bb550_18 : decode cJ0_init_bb550 18 = .ok (.ldc 7, 2) := by decide +kernel
theorem dJ0_init_bb550_20 : decode cJ0_init_bb550 20 = .ok (.getfield 15, 3) := by decide +kernel
theorem dJ0_init_bb550_23 : decode cJ0_init_bb550 23 = .ok (.putfield 15, 3) := by decide +kernel
theorem dJ0_init_bb550_26 : decode cJ0_init_bb550 26 = .ok (.return_, 1) := by decide +kernel
theorem dJ0_init_bb550_27 : decode cJ0_init_bb550 27 = .ok (.getstatic 38, 3) := by decide +kernel
theorem dJ0_init_bb550_30 : decode cJ0_init_bb550 30 = .ok (.ifCond .eq 28, 3) := by decide +kernel
theorem dJ0_init_bb550_33 : decode cJ0_init_bb550 33 = .ok (.aload_n 1, 1) := by decide +kernel
theorem dJ0_init_bb550_34 : decode cJ0_init_bb550 34 = .ok (.iload_n 2, 1) := by decide +kernel
theorem dJ0_init_bb550_35 : decode cJ0_init_bb550 35 = .ok (.iload_n 3, 1) := by decide +kernel
theorem dJ0_init_bb550_36 : decode cJ0_init_bb550 36 = .ok (.invokestatic 177, 3) := by decide +kernel
theorem dJ0_init_bb550_39 : decode cJ0_init_bb550 39 = .ok (.astore 5, 2) := by decide +kernel
theorem dJ0_init_bb550_41 : decode cJ0_init_bb550 41 = .ok (.aload_n 0, 1) := by decide +kernel
theorem dJ0_init_bb550_42 : decode cJ0_init_bb550 42 = .ok (.aload 5, 2) := by decide +kernel
theorem dJ0_init_bb550_44 : decode cJ0_init_bb550 44 = .ok (.iload_n 3, 1) := by decide +kernel
theorem dJ0_init_bb550_45 : decode cJ0_init_bb550 45 = .ok (.invokestatic 47, 3) := by decide +kernel
theorem dJ0_init_bb550_48 : decode cJ0_init_bb550 48 = .ok (.putfield 15, 3) := by decide +kernel
theorem dJ0_init_bb550_51 : decode cJ0_init_bb550 51 = .ok (.aload_n 0, 1) := by decide +kernel
theorem dJ0_init_bb550_52 : decode cJ0_init_bb550 52 = .ok (.aload 5, 2) := by decide +kernel
theorem dJ0_init_bb550_54 : decode cJ0_init_bb550 54 = .ok (.putfield 9, 3) := by decide +kernel
theorem dJ0_init_bb550_57 : decode cJ0_init_bb550 57 = .ok (.return_, 1) := by decide +kernel
theorem dJ0_init_bb550_58 : decode cJ0_init_bb550 58 = .ok (.aload_n 0, 1) := by decide +kernel
theorem dJ0_init_bb550_59 : decode cJ0_init_bb550 59 = .ok (.iconst 1, 1) := by decide +kernel
theorem dJ0_init_bb550_60 : decode cJ0_init_bb550 60 = .ok (.putfield 15, 3) := by decide +kernel
theorem dJ0_init_bb550_63 : decode cJ0_init_bb550 63 = .ok (.aload_n 0, 1) := by decide +kernel
theorem dJ0_init_bb550_64 : decode cJ0_init_bb550 64 = .ok (.aload_n 1, 1) := by decide +kernel
theorem dJ0_init_bb550_65 : decode cJ0_init_bb550 65 = .ok (.iload_n 2, 1) := by decide +kernel
theorem dJ0_init_bb550_66 : decode cJ0_init_bb550 66 = .ok (.iload_n 3, 1) := by decide +kernel
theorem dJ0_init_bb550_67 : decode cJ0_init_bb550 67 = .ok (.invokestatic 180, 3) := by decide +kernel
theorem dJ0_init_bb550_70 : decode cJ0_init_bb550 70 = .ok (.putfield 9, 3) := by decide +kernel
theorem dJ0_init_bb550_73 : decode cJ0_init_bb550 73 = .ok (.return_, 1) := by decide +kernel
theorem dJ0_init_031fb_0 : decode cJ0_init_031fb 0 = .ok (.aload_n 0, 1) := by decide +kernel
theorem dJ0_init_031fb_1 : decode cJ0_init_031fb 1 = .ok (.invokespecial 1, 3) := by decide +kernel
theorem dJ0_init_031fb_4 : decode cJ0_init_031fb 4 = .ok (.aload_n 0, 1) := by decide +kernel
theorem dJ0_init_031fb_5 : decode cJ0_init_031fb 5 = .ok (.aload_n 1, 1) := by decide +kernel
theorem dJ0_init_031fb_6 : decode cJ0_init_031fb 6 = .ok (.putfield 9, 3) := by decide +kernel
theorem dJ0_init_031fb_9 : decode cJ0_init_031fb 9 = .ok (.aload_n 0, 1) := by decide +kernel
theorem dJ0_init_031fb_10 : decode cJ0_init_031fb 10 = .ok (.iload_n 2, 1) := by decide +kernel
theorem dJ0_init_031fb_11 : decode cJ0_init_031fb 11 = .ok (.putfield 15, 3) := by decide +kernel
theorem dJ0_init_031fb_14 : decode cJ0_init_031fb 14 = .ok (.return_, 1) := by decide +kernel
theorem dJ0_coder_7d493_0 : decode cJ0_coder_7d493 0 = .ok (.getstatic 38, 3) := by decide +kernel
theorem dJ0_coder_7d493_3 : decode cJ0_coder_7d493 3 = .ok (.ifCond .eq 10, 3) := by decide +kernel
theorem dJ0_coder_7d493_6 : decode cJ0_coder_7d493 6 = .ok (.aload_n 0, 1) := by decide +kernel
theorem dJ0_coder_7d493_7 : decode cJ0_coder_7d493 7 = .ok (.getfield 15, 3) := by decide +kernel
theorem dJ0_coder_7d493_10 : decode cJ0_coder_7d493 10 = .ok (.goto 4, 3) := by decide +kernel
theorem dJ0_coder_7d493_13 : decode cJ0_coder_7d493 13 = .ok (.iconst 1, 1) := by decide +kernel
theorem dJ0_coder_7d493_14 : decode cJ0_coder_7d493 14 = .ok (.ireturn, 1) := by decide +kernel
theorem dJ0_isLatin1_aae02_0 : decode cJ0_isLatin1_aae02 0 = .ok (.getstatic 38, 3) := by decide +kernel
theorem dJ0_isLatin1_aae02_3 : decode cJ0_isLatin1_aae02 3 = .ok (.ifCond .eq 14, 3) := by decide +kernel
theorem dJ0_isLatin1_aae02_6 : decode cJ0_isLatin1_aae02 6 = .ok (.aload_n 0, 1) := by decide +kernel
theorem dJ0_isLatin1_aae02_7 : decode cJ0_isLatin1_aae02 7 = .ok (.getfield 15, 3) := by decide +kernel
theorem dJ0_isLatin1_aae02_10 : decode cJ0_isLatin1_aae02 10 = .ok (.ifCond .ne 7, 3) := by decide +kernel
theorem dJ0_isLatin1_aae02_13 : decode cJ0_isLatin1_aae02 13 = .ok (.iconst 1, 1) := by decide +kernel
theorem dJ0_isLatin1_aae02_14 : decode cJ0_isLatin1_aae02 14 = .ok (.goto 4, 3) := by decide +kernel
theorem dJ0_isLatin1_aae02_17 : decode cJ0_isLatin1_aae02 17 = .ok (.iconst 0, 1) := by decide +kernel
theorem dJ0_isLatin1_aae02_18 : decode cJ0_isLatin1_aae02 18 = .ok (.ireturn, 1) := by decide +kernel
theorem dJ0_checkIndex_df160_0 : decode cJ0_checkIndex_df160 0 = .ok (.iload_n 0, 1) := by decide +kernel
theorem dJ0_checkIndex_df160_1 : decode cJ0_checkIndex_df160 1 = .ok (.iload_n 1, 1) := by decide +kernel
theorem dJ0_checkIndex_df160_2 : decode cJ0_checkIndex_df160 2 = .ok (.getstatic 1053, 3) := by decide +kernel
theorem dJ0_checkIndex_df160_5 : decode cJ0_checkIndex_df160 5 = .ok (.invokestatic 1059, 3) := by decide +kernel
theorem dJ0_checkIndex_df160_8 : decode cJ0_checkIndex_df160 8 = .ok (.pop, 1) := by decide +kernel
theorem dJ0_checkIndex_df160_9 : decode cJ0_checkIndex_df160 9 = .ok (.return_, 1) := by decide +kernel
theorem dJ0_checkBoundsOffCount_cabcc_0 : decode cJ0_checkBoundsOffCount_cabcc 0 = .ok (.iload_n 0, 1) := by decide +kernel
theorem dJ0_checkBoundsOffCount_cabcc_1 : decode cJ0_checkBoundsOffCount_cabcc 1 = .ok (.iload_n 1, 1) := by decide +kernel
theorem dJ0_checkBoundsOffCount_cabcc_2 : decode cJ0_checkBoundsOffCount_cabcc 2 = .ok (.iload_n 2, 1) := by decide +kernel
theorem dJ0_checkBoundsOffCount_cabcc_3 : decode cJ0_checkBoundsOffCount_cabcc 3 = .ok (.getstatic 1053, 3) := by decide +kernel
theorem dJ0_checkBoundsOffCount_cabcc_6 : decode cJ0_checkBoundsOffCount_cabcc 6 = .ok (.invokestatic 1065, 3) := by decide +kernel
theorem dJ0_checkBoundsOffCount_cabcc_9 : decode cJ0_checkBoundsOffCount_cabcc 9 = .ok (.ireturn, 1) := by decide +kernel
theorem dJ0_checkBoundsBeginEnd_23922_0 : decode cJ0_checkBoundsBeginEnd_23922 0 = .ok (.iload_n 0, 1) := by decide +kernel
theorem dJ0_checkBoundsBeginEnd_23922_1 : decode cJ0_checkBoundsBeginEnd_23922 1 = .ok (.iload_n 1, 1) := by decide +kernel
theorem dJ0_checkBoundsBeginEnd_23922_2 : decode cJ0_checkBoundsBeginEnd_23922 2 = .ok (.iload_n 2, 1) := by decide +kernel
theorem dJ0_checkBoundsBeginEnd_23922_3 : decode cJ0_checkBoundsBeginEnd_23922 3 = .ok (.getstatic 1053, 3) := by decide +kernel
theorem dJ0_checkBoundsBeginEnd_23922_6 : decode cJ0_checkBoundsBeginEnd_23922 6 = .ok (.invokestatic 1062, 3) := by decide +kernel
theorem dJ0_checkBoundsBeginEnd_23922_9 : decode cJ0_checkBoundsBeginEnd_23922 9 = .ok (.pop, 1) := by decide +kernel
theorem dJ0_checkBoundsBeginEnd_23922_10 : decode cJ0_checkBoundsBeginEnd_23922 10 = .ok (.return_, 1) := by decide +kernel
theorem dJ1_charAt_3b067_0 : decode cJ1_charAt_3b067 0 = .ok (.iload_n 1, 1) := by decide +kernel
theorem dJ1_charAt_3b067_1 : decode cJ1_charAt_3b067 1 = .ok (.aload_n 0, 1) := by decide +kernel
theorem dJ1_charAt_3b067_2 : decode cJ1_charAt_3b067 2 = .ok (.arraylength, 1) := by decide +kernel
theorem dJ1_charAt_3b067_3 : decode cJ1_charAt_3b067 3 = .ok (.invokestatic 9, 3) := by decide +kernel
theorem dJ1_charAt_3b067_6 : decode cJ1_charAt_3b067 6 = .ok (.aload_n 0, 1) := by decide +kernel
theorem dJ1_charAt_3b067_7 : decode cJ1_charAt_3b067 7 = .ok (.iload_n 1, 1) := by decide +kernel
theorem dJ1_charAt_3b067_8 : decode cJ1_charAt_3b067 8 = .ok (.baload, 1) := by decide +kernel
theorem dJ1_charAt_3b067_9 : decode cJ1_charAt_3b067 9 = .ok (.sipush 255, 3) := by decide +kernel
theorem dJ1_charAt_3b067_12 : decode cJ1_charAt_3b067 12 = .ok (.iand, 1) := by decide +kernel
theorem dJ1_charAt_3b067_13 : decode cJ1_charAt_3b067 13 = .ok (.i2c, 1) := by decide +kernel
theorem dJ1_charAt_3b067_14 : decode cJ1_charAt_3b067 14 = .ok (.ireturn, 1) := by decide +kernel
theorem dJ1_equals_b5fdf_0 : decode cJ1_equals_b5fdf 0 = .ok (.aload_n 0, 1) := by decide +kernel
theorem dJ1_equals_b5fdf_1 : decode cJ1_equals_b5fdf 1 = .ok (.arraylength, 1) := by decide +kernel
theorem dJ1_equals_b5fdf_2 : decode cJ1_equals_b5fdf 2 = .ok (.aload_n 1, 1) := by decide +kernel
theorem dJ1_equals_b5fdf_3 : decode cJ1_equals_b5fdf 3 = .ok (.arraylength, 1) := by decide +kernel
theorem dJ1_equals_b5fdf_4 : decode cJ1_equals_b5fdf 4 = .ok (.if_icmp .ne 30, 3) := by decide +kernel
theorem dJ1_equals_b5fdf_7 : decode cJ1_equals_b5fdf 7 = .ok (.iconst 0, 1) := by decide +kernel
theorem dJ1_equals_b5fdf_8 : decode cJ1_equals_b5fdf 8 = .ok (.istore_n 2, 1) := by decide +kernel
theorem dJ1_equals_b5fdf_9 : decode cJ1_equals_b5fdf 9 = .ok (.iload_n 2, 1) := by decide +kernel
theorem dJ1_equals_b5fdf_10 : decode cJ1_equals_b5fdf 10 = .ok (.aload_n 0, 1) := by decide +kernel
theorem dJ1_equals_b5fdf_11 : decode cJ1_equals_b5fdf 11 = .ok (.arraylength, 1) := by decide +kernel
theorem dJ1_equals_b5fdf_12 : decode cJ1_equals_b5fdf 12 = .ok (.if_icmp .ge 20, 3) := by decide +kernel
theorem dJ1_equals_b5fdf_15 : decode cJ1_equals_b5fdf 15 = .ok (.aload_n 0, 1) := by decide +kernel
theorem dJ1_equals_b5fdf_16 : decode cJ1_equals_b5fdf 16 = .ok (.iload_n 2, 1) := by decide +kernel
theorem dJ1_equals_b5fdf_17 : decode cJ1_equals_b5fdf 17 = .ok (.baload, 1) := by decide +kernel
theorem dJ1_equals_b5fdf_18 : decode cJ1_equals_b5fdf 18 = .ok (.aload_n 1, 1) := by decide +kernel
theorem dJ1_equals_b5fdf_19 : decode cJ1_equals_b5fdf 19 = .ok (.iload_n 2, 1) := by decide +kernel
theorem dJ1_equals_b5fdf_20 : decode cJ1_equals_b5fdf 20 = .ok (.baload, 1) := by decide +kernel
theorem dJ1_equals_b5fdf_21 : decode cJ1_equals_b5fdf 21 = .ok (.if_icmp .eq 5, 3) := by decide +kernel
theorem dJ1_equals_b5fdf_24 : decode cJ1_equals_b5fdf 24 = .ok (.iconst 0, 1) := by decide +kernel
theorem dJ1_equals_b5fdf_25 : decode cJ1_equals_b5fdf 25 = .ok (.ireturn, 1) := by decide +kernel
theorem dJ1_equals_b5fdf_26 : decode cJ1_equals_b5fdf 26 = .ok (.iinc 2 1, 3) := by decide +kernel
theorem dJ1_equals_b5fdf_29 : decode cJ1_equals_b5fdf 29 = .ok (.goto (-20), 3) := by decide +kernel
theorem dJ1_equals_b5fdf_32 : decode cJ1_equals_b5fdf 32 = .ok (.iconst 1, 1) := by decide +kernel
theorem dJ1_equals_b5fdf_33 : decode cJ1_equals_b5fdf 33 = .ok (.ireturn, 1) := by decide +kernel
theorem dJ1_equals_b5fdf_34 : decode cJ1_equals_b5fdf 34 = .ok (.iconst 0, 1) := by decide +kernel
theorem dJ1_equals_b5fdf_35 : decode cJ1_equals_b5fdf 35 = .ok (.ireturn, 1) := by decide +kernel
theorem dJ1_newString_b4f7a_0 : decode cJ1_newString_b4f7a 0 = .ok (.iload_n 2, 1) := by decide +kernel
theorem dJ1_newString_b4f7a_1 : decode cJ1_newString_b4f7a 1 = .ok (.ifCond .ne 6, 3) := by decide +kernel
theorem dJ1_newString_b4f7a_4 : decode cJ1_newString_b4f7a 4 = .ok (.ldc 151, 2) := by decide +kernel
theorem dJ1_newString_b4f7a_6 : decode cJ1_newString_b4f7a 6 = .ok (.areturn, 1) := by decide +kernel
theorem dJ1_newString_b4f7a_7 : decode cJ1_newString_b4f7a 7 = .ok (.new 1, 3) := by decide +kernel
theorem dJ1_newString_b4f7a_10 : decode cJ1_newString_b4f7a 10 = .ok (.dup, 1) := by decide +kernel
theorem dJ1_newString_b4f7a_11 : decode cJ1_newString_b4f7a 11 = .ok (.aload_n 0, 1) := by decide +kernel
theorem dJ1_newString_b4f7a_12 : decode cJ1_newString_b4f7a 12 = .ok (.iload_n 1, 1) := by decide +kernel
theorem dJ1_newString_b4f7a_13 : decode cJ1_newString_b4f7a 13 = .ok (.iload_n 1, 1) := by decide +kernel
theorem dJ1_newString_b4f7a_14 : decode cJ1_newString_b4f7a 14 = .ok (.iload_n 2, 1) := by decide +kernel
theorem dJ1_newString_b4f7a_15 : decode cJ1_newString_b4f7a 15 = .ok (.iadd, 1) := by decide +kernel
theorem dJ1_newString_b4f7a_16 : decode cJ1_newString_b4f7a 16 = .ok (.invokestatic 232, 3) := by decide +kernel
theorem dJ1_newString_b4f7a_19 : decode cJ1_newString_b4f7a 19 = .ok (.iconst 0, 1) := by decide +kernel
theorem dJ1_newString_b4f7a_20 : decode cJ1_newString_b4f7a 20 = .ok (.invokespecial 112, 3) := by decide +kernel
theorem dJ1_newString_b4f7a_23 : decode cJ1_newString_b4f7a 23 = .ok (.areturn, 1) := by decide +kernel
theorem dJ2_newBytesFor_77867_0 : decode cJ2_newBytesFor_77867 0 = .ok (.iload_n 0, 1) := by decide +kernel
theorem dJ2_newBytesFor_77867_1 : decode cJ2_newBytesFor_77867 1 = .ok (.invokestatic 11, 3) := by decide +kernel
theorem dJ2_newBytesFor_77867_4 : decode cJ2_newBytesFor_77867 4 = .ok (.newarray .byte, 2) := by decide +kernel
theorem dJ2_newBytesFor_77867_6 : decode cJ2_newBytesFor_77867 6 = .ok (.areturn, 1) := by decide +kernel
theorem dJ2_newBytesLength_0f7a4_0 : decode cJ2_newBytesLength_0f7a4 0 = .ok (.iload_n 0, 1) := by decide +kernel
theorem dJ2_newBytesLength_0f7a4_1 : decode cJ2_newBytesLength_0f7a4 1 = .ok (.ifCond .ge 11, 3) := by decide +kernel
theorem dJ2_newBytesLength_0f7a4_4 : decode cJ2_newBytesLength_0f7a4 4 = .ok (.new 17, 3) := by decide +kernel
theorem dJ2_newBytesLength_0f7a4_7 : decode cJ2_newBytesLength_0f7a4 7 = .ok (.dup, 1) := by decide +kernel
theorem dJ2_newBytesLength_0f7a4_8 : decode cJ2_newBytesLength_0f7a4 8 = .ok (.invokespecial 19, 3) := by decide +kernel
theorem dJ2_newBytesLength_0f7a4_11 : decode cJ2_newBytesLength_0f7a4 11 = .ok (.athrow, 1) := by decide +kernel
theorem dJ2_newBytesLength_0f7a4_12 : decode cJ2_newBytesLength_0f7a4 12 = .ok (.iload_n 0, 1) := by decide +kernel
theorem dJ2_newBytesLength_0f7a4_13 : decode cJ2_newBytesLength_0f7a4 13 = .ok (.ldc 20, 2) := by decide +kernel
theorem dJ2_newBytesLength_0f7a4_15 : decode cJ2_newBytesLength_0f7a4 15 = .ok (.if_icmp .lt 40, 3) := by decide +kernel
theorem dJ2_newBytesLength_0f7a4_18 : decode cJ2_newBytesLength_0f7a4 18 = .ok (.new 21, 3) := by decide +kernel
theorem dJ2_newBytesLength_0f7a4_21 : decode cJ2_newBytesLength_0f7a4 21 = .ok (.dup, 1) := by decide +kernel
theorem dJ2_newBytesLength_0f7a4_22 : decode cJ2_newBytesLength_0f7a4 22 = .ok (.new 23, 3) := by decide +kernel
theorem dJ2_newBytesLength_0f7a4_25 : decode cJ2_newBytesLength_0f7a4 25 = .ok (.dup, 1) := by decide +kernel
theorem dJ2_newBytesLength_0f7a4_26 : decode cJ2_newBytesLength_0f7a4 26 = .ok (.invokespecial 25, 3) := by decide +kernel
theorem dJ2_newBytesLength_0f7a4_29 : decode cJ2_newBytesLength_0f7a4 29 = .ok (.ldc 26, 2) := by decide +kernel
theorem dJ2_newBytesLength_0f7a4_31 : decode cJ2_newBytesLength_0f7a4 31 = .ok (.invokevirtual 28, 3) := by decide +kernel
theorem dJ2_newBytesLength_0f7a4_34 : decode cJ2_newBytesLength_0f7a4 34 = .ok (.iload_n 0, 1) := by decide +kernel
theorem dJ2_newBytesLength_0f7a4_35 : decode cJ2_newBytesLength_0f7a4 35 = .ok (.invokevirtual 32, 3) := by decide +kernel
theorem dJ2_newBytesLength_0f7a4_38 : decode cJ2_newBytesLength_0f7a4 38 = .ok (.ldc 35, 2) := by decide +kernel
theorem dJ2_newBytesLength_0f7a4_40 : decode cJ2_newBytesLength_0f7a4 40 = .ok (.invokevirtual 28, 3) := by decide +kernel
theorem dJ2_newBytesLength_0f7a4_43 : decode cJ2_newBytesLength_0f7a4 43 = .ok (.ldc 20, 2) := by decide +kernel
theorem dJ2_newBytesLength_0f7a4_45 : decode cJ2_newBytesLength_0f7a4 45 = .ok (.invokevirtual 32, 3) := by decide +kernel
theorem dJ2_newBytesLength_0f7a4_48 : decode cJ2_newBytesLength_0f7a4 48 = .ok (.invokevirtual 37, 3) := by decide +kernel
theorem dJ2_newBytesLength_0f7a4_51 : decode cJ2_newBytesLength_0f7a4 51 = .ok (.invokespecial 41, 3) := by decide +kernel
theorem dJ2_newBytesLength_0f7a4_54 : decode cJ2_newBytesLength_0f7a4 54 = .ok (.athrow, 1) := by decide +kernel
theorem dJ2_newBytesLength_0f7a4_55 : decode cJ2_newBytesLength_0f7a4 55 = .ok (.iload_n 0, 1) := by decide +kernel
theorem dJ2_newBytesLength_0f7a4_56 : decode cJ2_newBytesLength_0f7a4 56 = .ok (.iconst 1, 1) := by decide +kernel
theorem dJ2_newBytesLength_0f7a4_57 : decode cJ2_newBytesLength_0f7a4 57 = .ok (.ishl, 1) := by decide +kernel
theorem dJ2_newBytesLength_0f7a4_58 : decode cJ2_newBytesLength_0f7a4 58 = .ok (.ireturn, 1) := by decide +kernel
theorem dJ2_putChar_b72d1_0 : decode cJ2_putChar_b72d1 0 = .ok (.getstatic 44, 3) := by decide +kernel
theorem dJ2_putChar_b72d1_3 : decode cJ2_putChar_b72d1 3 = .ok (.ifCond .ne 25, 3) := by decide +kernel
theorem dJ2_putChar_b72d1_6 : decode cJ2_putChar_b72d1 6 = .ok (.iload_n 1, 1) := by decide +kernel
theorem dJ2_putChar_b72d1_7 : decode cJ2_putChar_b72d1 7 = .ok (.ifCond .lt 11, 3) := by decide +kernel
theorem dJ2_putChar_b72d1_10 : decode cJ2_putChar_b72d1 10 = .ok (.iload_n 1, 1) := by decide +kernel
theorem dJ2_putChar_b72d1_11 : decode cJ2_putChar_b72d1 11 = .ok (.aload_n 0, 1) := by decide +kernel
theorem dJ2_putChar_b72d1_12 : decode cJ2_putChar_b72d1 12 = .ok (.invokestatic 48, 3) := by decide +kernel
theorem dJ2_putChar_b72d1_15 : decode cJ2_putChar_b72d1 15 = .ok (.if_icmp .lt 13, 3) := by decide +kernel
theorem dJ2_putChar_b72d1_18 : decode cJ2_putChar_b72d1 18 = .ok (.new 52, 3) := by decide +kernel
theorem dJ2_putChar_b72d1_21 : decode cJ2_putChar_b72d1 21 = .ok (.dup, 1) := by decide +kernel
theorem dJ2_putChar_b72d1_22 : decode cJ2_putChar_b72d1 22 = .ok (.ldc 54, 2) := by decide +kernel
theorem dJ2_putChar_b72d1_24 : decode cJ2_putChar_b72d1 24 = .ok (.invokespecial 56, 3) := by decide +kernel
theorem dJ2_putChar_b72d1_27 : decode cJ2_putChar_b72d1 27 = .ok (.athrow, 1) := by decide +kernel
theorem dJ2_putChar_b72d1_28 : decode cJ2_putChar_b72d1 28 = .ok (.iload_n 1, 1) := by decide +kernel
theorem dJ2_putChar_b72d1_29 : decode cJ2_putChar_b72d1 29 = .ok (.iconst 1, 1) := by decide +kernel
theorem dJ2_putChar_b72d1_30 : decode cJ2_putChar_b72d1 30 = .ok (.ishl, 1) := by decide +kernel
theorem dJ2_putChar_b72d1_31 : decode cJ2_putChar_b72d1 31 = .ok (.istore_n 1, 1) := by decide +kernel
theorem dJ2_putChar_b72d1_32 : decode cJ2_putChar_b72d1 32 = .ok (.aload_n 0, 1) := by decide +kernel
theorem dJ2_putChar_b72d1_33 : decode cJ2_putChar_b72d1 33 = .ok (.iload_n 1, 1) := by decide +kernel
theorem dJ2_putChar_b72d1_34 : decode cJ2_putChar_b72d1 34 = .ok (.iinc 1 1, 3) := by decide +kernel
theorem dJ2_putChar_b72d1_37 : decode cJ2_putChar_b72d1 37 = .ok (.iload_n 2, 1) := by decide +kernel
theorem dJ2_putChar_b72d1_38 : decode cJ2_putChar_b72d1 38 = .ok (.getstatic 59, 3) := by decide +kernel
theorem dJ2_putChar_b72d1_41 : decode cJ2_putChar_b72d1 41 = .ok (.ishr, 1) := by decide +kernel
theorem dJ2_putChar_b72d1_42 : decode cJ2_putChar_b72d1 42 = .ok (.i2b, 1) := by decide +kernel
theorem dJ2_putChar_b72d1_43 : decode cJ2_putChar_b72d1 43 = .ok (.bastore, 1) := by decide +kernel
theorem dJ2_putChar_b72d1_44 : decode cJ2_putChar_b72d1 44 = .ok (.aload_n 0, 1) := by decide +kernel
theorem dJ2_putChar_b72d1_45 : decode cJ2_putChar_b72d1 45 = .ok (.iload_n 1, 1) := by decide +kernel
theorem dJ2_putChar_b72d1_46 : decode cJ2_putChar_b72d1 46 = .ok (.iload_n 2, 1) := by decide +kernel
theorem dJ2_putChar_b72d1_47 : decode cJ2_putChar_b72d1 47 = .ok (.getstatic 63, 3) := by decide +kernel
theorem dJ2_putChar_b72d1_50 : decode cJ2_putChar_b72d1 50 = .ok (.ishr, 1) := by decide +kernel
theorem dJ2_putChar_b72d1_51 : decode cJ2_putChar_b72d1 51 = .ok (.i2b, 1) := by decide +kernel
theorem dJ2_putChar_b72d1_52 : decode cJ2_putChar_b72d1 52 = .ok (.bastore, 1) := by decide +kernel
theorem dJ2_putChar_b72d1_53 : decode cJ2_putChar_b72d1 53 = .ok (.return_, 1) := by decide +kernel
theorem dJ2_getChar_3b067_0 : decode cJ2_getChar_3b067 0 = .ok (.getstatic 44, 3) := by decide +kernel
theorem dJ2_getChar_3b067_3 : decode cJ2_getChar_3b067 3 = .ok (.ifCond .ne 25, 3) := by decide +kernel
theorem dJ2_getChar_3b067_6 : decode cJ2_getChar_3b067 6 = .ok (.iload_n 1, 1) := by decide +kernel
theorem dJ2_getChar_3b067_7 : decode cJ2_getChar_3b067 7 = .ok (.ifCond .lt 11, 3) := by decide +kernel
theorem dJ2_getChar_3b067_10 : decode cJ2_getChar_3b067 10 = .ok (.iload_n 1, 1) := by decide +kernel
theorem dJ2_getChar_3b067_11 : decode cJ2_getChar_3b067 11 = .ok (.aload_n 0, 1) := by decide +kernel
theorem dJ2_getChar_3b067_12 : decode cJ2_getChar_3b067 12 = .ok (.invokestatic 48, 3) := by decide +kernel
theorem dJ2_getChar_3b067_15 : decode cJ2_getChar_3b067 15 = .ok (.if_icmp .lt 13, 3) := by decide +kernel
theorem dJ2_getChar_3b067_18 : decode cJ2_getChar_3b067 18 = .ok (.new 52, 3) := by decide +kernel
theorem dJ2_getChar_3b067_21 : decode cJ2_getChar_3b067 21 = .ok (.dup, 1) := by decide +kernel
theorem dJ2_getChar_3b067_22 : decode cJ2_getChar_3b067 22 = .ok (.ldc 54, 2) := by decide +kernel
theorem dJ2_getChar_3b067_24 : decode cJ2_getChar_3b067 24 = .ok (.invokespecial 56, 3) := by decide +kernel
theorem dJ2_getChar_3b067_27 : decode cJ2_getChar_3b067 27 = .ok (.athrow, 1) := by decide +kernel
theorem dJ2_getChar_3b067_28 : decode cJ2_getChar_3b067 28 = .ok (.iload_n 1, 1) := by decide +kernel
theorem dJ2_getChar_3b067_29 : decode cJ2_getChar_3b067 29 = .ok (.iconst 1, 1) := by decide +kernel
theorem dJ2_getChar_3b067_30 : decode cJ2_getChar_3b067 30 = .ok (.ishl, 1) := by decide +kernel
theorem dJ2_getChar_3b067_31 : decode cJ2_getChar_3b067 31 = .ok (.istore_n 1, 1) := by decide +kernel
theorem dJ2_getChar_3b067_32 : decode cJ2_getChar_3b067 32 = .ok (.aload_n 0, 1) := by decide +kernel
theorem dJ2_getChar_3b067_33 : decode cJ2_getChar_3b067 33 = .ok (.iload_n 1, 1) := by decide +kernel
theorem dJ2_getChar_3b067_34 : decode cJ2_getChar_3b067 34 = .ok (.iinc 1 1, 3) := by decide +kernel
theorem dJ2_getChar_3b067_37 : decode cJ2_getChar_3b067 37 = .ok (.baload, 1) := by decide +kernel
theorem dJ2_getChar_3b067_38 : decode cJ2_getChar_3b067 38 = .ok (.sipush 255, 3) := by decide +kernel
theorem dJ2_getChar_3b067_41 : decode cJ2_getChar_3b067 41 = .ok (.iand, 1) := by decide +kernel
theorem dJ2_getChar_3b067_42 : decode cJ2_getChar_3b067 42 = .ok (.getstatic 59, 3) := by decide +kernel
theorem dJ2_getChar_3b067_45 : decode cJ2_getChar_3b067 45 = .ok (.ishl, 1) := by decide +kernel
theorem dJ2_getChar_3b067_46 : decode cJ2_getChar_3b067 46 = .ok (.aload_n 0, 1) := by decide +kernel
theorem dJ2_getChar_3b067_47 : decode cJ2_getChar_3b067 47 = .ok (.iload_n 1, 1) := by decide +kernel
theorem dJ2_getChar_3b067_48 : decode cJ2_getChar_3b067 48 = .ok (.baload, 1) := by decide +kernel
theorem dJ2_getChar_3b067_49 : decode cJ2_getChar_3b067 49 = .ok (.sipush 255, 3) := by decide +kernel
theorem dJ2_getChar_3b067_52 : decode cJ2_getChar_3b067 52 = .ok (.iand, 1) := by decide +kernel
theorem dJ2_getChar_3b067_53 : decode cJ2_getChar_3b067 53 = .ok (.getstatic 63, 3) := by decide +kernel
theorem dJ2_getChar_3b067_56 : decode cJ2_getChar_3b067 56 = .ok (.ishl, 1) := by decide +kernel
theorem dJ2_getChar_3b067_57 : decode cJ2_getChar_3b067 57 = .ok (.ior, 1) := by decide +kernel
theorem dJ2_getChar_3b067_58 : decode cJ2_getChar_3b067 58 = .ok (.i2c, 1) := by decide +kernel
theorem dJ2_getChar_3b067_59 : decode cJ2_getChar_3b067 59 = .ok (.ireturn, 1) := by decide +kernel
theorem dJ2_length_9d52b_0 : decode cJ2_length_9d52b 0 = .ok (.aload_n 0, 1) := by decide +kernel
theorem dJ2_length_9d52b_1 : decode cJ2_length_9d52b 1 = .ok (.arraylength, 1) := by decide +kernel
theorem dJ2_length_9d52b_2 : decode cJ2_length_9d52b 2 = .ok (.iconst 1, 1) := by decide +kernel
theorem dJ2_length_9d52b_3 : decode cJ2_length_9d52b 3 = .ok (.ishr, 1) := by decide +kernel
theorem dJ2_length_9d52b_4 : decode cJ2_length_9d52b 4 = .ok (.ireturn, 1) := by decide +kernel
theorem dJ2_toBytes_dfd3c_0 : decode cJ2_toBytes_dfd3c 0 = .ok (.iload_n 2, 1) := by decide +kernel
theorem dJ2_toBytes_dfd3c_1 : decode cJ2_toBytes_dfd3c 1 = .ok (.invokestatic 107, 3) := by decide +kernel
theorem dJ2_toBytes_dfd3c_4 : decode cJ2_toBytes_dfd3c 4 = .ok (.astore_n 3, 1) := by decide +kernel
theorem dJ2_toBytes_dfd3c_5 : decode cJ2_toBytes_dfd3c 5 = .ok (.iconst 0, 1) := by decide +kernel
theorem dJ2_toBytes_dfd3c_6 : decode cJ2_toBytes_dfd3c 6 = .ok (.istore 4, 2) := by decide +kernel
theorem dJ2_toBytes_dfd3c_8 : decode cJ2_toBytes_dfd3c 8 = .ok (.iload 4, 2) := by decide +kernel
theorem dJ2_toBytes_dfd3c_10 : decode cJ2_toBytes_dfd3c 10 = .ok (.iload_n 2, 1) := by decide +kernel
theorem dJ2_toBytes_dfd3c_11 : decode cJ2_toBytes_dfd3c 11 = .ok (.if_icmp .ge 21, 3) := by decide +kernel
theorem dJ2_toBytes_dfd3c_14 : decode cJ2_toBytes_dfd3c 14 = .ok (.aload_n 3, 1) := by decide +kernel
theorem dJ2_toBytes_dfd3c_15 : decode cJ2_toBytes_dfd3c 15 = .ok (.iload 4, 2) := by decide +kernel
theorem dJ2_toBytes_dfd3c_17 : decode cJ2_toBytes_dfd3c 17 = .ok (.aload_n 0, 1) := by decide +kernel
theorem dJ2_toBytes_dfd3c_18 : decode cJ2_toBytes_dfd3c 18 = .ok (.iload_n 1, 1) := by decide +kernel
theorem dJ2_toBytes_dfd3c_19 : decode cJ2_toBytes_dfd3c 19 = .ok (.caload, 1) := by decide +kernel
theorem dJ2_toBytes_dfd3c_20 : decode cJ2_toBytes_dfd3c 20 = .ok (.invokestatic 111, 3) := by decide +kernel
theorem dJ2_toBytes_dfd3c_23 : decode cJ2_toBytes_dfd3c 23 = .ok (.iinc 1 1, 3) := by decide +kernel
theorem dJ2_toBytes_dfd3c_26 : decode cJ2_toBytes_dfd3c 26 = .ok (.iinc 4 1, 3) := by decide +kernel
theorem dJ2_toBytes_dfd3c_29 : decode cJ2_toBytes_dfd3c 29 = .ok (.goto (-21), 3) := by decide +kernel
theorem dJ2_toBytes_dfd3c_32 : decode cJ2_toBytes_dfd3c 32 = .ok (.aload_n 3, 1) := by decide +kernel
theorem dJ2_toBytes_dfd3c_33 : decode cJ2_toBytes_dfd3c 33 = .ok (.areturn, 1) := by decide +kernel
theorem dJ2_coderFromArrayLen_85cad_0 : decode cJ2_coderFromArrayLen_85cad 0 = .ok (.iload_n 1, 1) := by decide +kernel
theorem dJ2_coderFromArrayLen_85cad_1 : decode cJ2_coderFromArrayLen_85cad 1 = .ok (.aload_n 0, 1) := by decide +kernel
theorem dJ2_coderFromArrayLen_85cad_2 : decode cJ2_coderFromArrayLen_85cad 2 = .ok (.arraylength, 1) := by decide +kernel
theorem dJ2_coderFromArrayLen_85cad_3 : decode cJ2_coderFromArrayLen_85cad 3 = .ok (.isub, 1) := by decide +kernel
theorem dJ2_coderFromArrayLen_85cad_4 : decode cJ2_coderFromArrayLen_85cad 4 = .ok (.bipush 31, 2) := by decide +kernel
theorem dJ2_coderFromArrayLen_85cad_6 : decode cJ2_coderFromArrayLen_85cad 6 = .ok (.iushr, 1) := by decide +kernel
theorem dJ2_coderFromArrayLen_85cad_7 : decode cJ2_coderFromArrayLen_85cad 7 = .ok (.i2b, 1) := by decide +kernel
theorem dJ2_coderFromArrayLen_85cad_8 : decode cJ2_coderFromArrayLen_85cad 8 = .ok (.ireturn, 1) := by decide +kernel
theorem dJ2_compress_dfd3c_0 : decode cJ2_compress_dfd3c 0 = .ok (.iload_n 2, 1) := by decide +kernel
theorem dJ2_compress_dfd3c_1 : decode cJ2_compress_dfd3c 1 = .ok (.newarray .byte, 2) := by decide +kernel
theorem dJ2_compress_dfd3c_3 : decode cJ2_compress_dfd3c 3 = .ok (.astore_n 3, 1) := by decide +kernel
theorem dJ2_compress_dfd3c_4 : decode cJ2_compress_dfd3c 4 = .ok (.aload_n 0, 1) := by decide +kernel
theorem dJ2_compress_dfd3c_5 : decode cJ2_compress_dfd3c 5 = .ok (.iload_n 1, 1) := by decide +kernel
theorem dJ2_compress_dfd3c_6 : decode cJ2_compress_dfd3c 6 = .ok (.aload_n 3, 1) := by decide +kernel
theorem dJ2_compress_dfd3c_7 : decode cJ2_compress_dfd3c 7 = .ok (.iconst 0, 1) := by decide +kernel
theorem dJ2_compress_dfd3c_8 : decode cJ2_compress_dfd3c 8 = .ok (.iload_n 2, 1) := by decide +kernel
theorem dJ2_compress_dfd3c_9 : decode cJ2_compress_dfd3c 9 = .ok (.invokestatic 115, 3) := by decide +kernel
theorem dJ2_compress_dfd3c_12 : decode cJ2_compress_dfd3c 12 = .ok (.istore 4, 2) := by decide +kernel
theorem dJ2_compress_dfd3c_14 : decode cJ2_compress_dfd3c 14 = .ok (.iload 4, 2) := by decide +kernel
theorem dJ2_compress_dfd3c_16 : decode cJ2_compress_dfd3c 16 = .ok (.iload_n 2, 1) := by decide +kernel
theorem dJ2_compress_dfd3c_17 : decode cJ2_compress_dfd3c 17 = .ok (.if_icmp .eq 40, 3) := by decide +kernel
theorem dJ2_compress_dfd3c_20 : decode cJ2_compress_dfd3c 20 = .ok (.aload_n 0, 1) := by decide +kernel
theorem dJ2_compress_dfd3c_21 : decode cJ2_compress_dfd3c 21 = .ok (.iload_n 1, 1) := by decide +kernel
theorem dJ2_compress_dfd3c_22 : decode cJ2_compress_dfd3c 22 = .ok (.iload_n 2, 1) := by decide +kernel
theorem dJ2_compress_dfd3c_23 : decode cJ2_compress_dfd3c 23 = .ok (.invokestatic 119, 3) := by decide +kernel
theorem dJ2_compress_dfd3c_26 : decode cJ2_compress_dfd3c 26 = .ok (.astore 5, 2) := by decide +kernel
theorem dJ2_compress_dfd3c_28 : decode cJ2_compress_dfd3c 28 = .ok (.aload 5, 2) := by decide +kernel
theorem dJ2_compress_dfd3c_30 : decode cJ2_compress_dfd3c 30 = .ok (.iload 4, 2) := by decide +kernel
theorem dJ2_compress_dfd3c_32 : decode cJ2_compress_dfd3c 32 = .ok (.invokestatic 71, 3) := by decide +kernel
theorem dJ2_compress_dfd3c_35 : decode cJ2_compress_dfd3c 35 = .ok (.sipush 255, 3) := by decide +kernel
theorem dJ2_compress_dfd3c_38 : decode cJ2_compress_dfd3c 38 = .ok (.if_icmp .gt 16, 3) := by decide +kernel
theorem dJ2_compress_dfd3c_41 : decode cJ2_compress_dfd3c 41 = .ok (.aload 5, 2) := by decide +kernel
theorem dJ2_compress_dfd3c_43 : decode cJ2_compress_dfd3c 43 = .ok (.iconst 0, 1) := by decide +kernel
theorem dJ2_compress_dfd3c_44 : decode cJ2_compress_dfd3c 44 = .ok (.aload_n 3, 1) := by decide +kernel
theorem dJ2_compress_dfd3c_45 : decode cJ2_compress_dfd3c 45 = .ok (.iconst 0, 1) := by decide +kernel
theorem dJ2_compress_dfd3c_46 : decode cJ2_compress_dfd3c 46 = .ok (.iload_n 2, 1) := by decide +kernel
theorem dJ2_compress_dfd3c_47 : decode cJ2_compress_dfd3c 47 = .ok (.invokestatic 123, 3) := by decide +kernel
theorem dJ2_compress_dfd3c_50 : decode cJ2_compress_dfd3c 50 = .ok (.iload_n 2, 1) := by decide +kernel
theorem dJ2_compress_dfd3c_51 : decode cJ2_compress_dfd3c 51 = .ok (.if_icmp .eq 6, 3) := by decide +kernel
theorem dJ2_compress_dfd3c_54 : decode cJ2_compress_dfd3c 54 = .ok (.aload 5, 2) := by decide +kernel
theorem dJ2_compress_dfd3c_56 : decode cJ2_compress_dfd3c 56 = .ok (.areturn, 1) := by decide +kernel
theorem dJ2_compress_dfd3c_57 : decode cJ2_compress_dfd3c 57 = .ok (.aload_n 3, 1) := by decide +kernel
theorem dJ2_compress_dfd3c_58 : decode cJ2_compress_dfd3c 58 = .ok (.areturn, 1) := by decide +kernel
theorem dJ2_compress_39247_0 : decode cJ2_compress_39247 0 = .ok (.iload_n 2, 1) := by decide +kernel
theorem dJ2_compress_39247_1 : decode cJ2_compress_39247 1 = .ok (.newarray .byte, 2) := by decide +kernel
theorem dJ2_compress_39247_3 : decode cJ2_compress_39247 3 = .ok (.astore_n 3, 1) := by decide +kernel
theorem dJ2_compress_39247_4 : decode cJ2_compress_39247 4 = .ok (.aload_n 0, 1) := by decide +kernel
theorem dJ2_compress_39247_5 : decode cJ2_compress_39247 5 = .ok (.iload_n 1, 1) := by decide +kernel
theorem dJ2_compress_39247_6 : decode cJ2_compress_39247 6 = .ok (.aload_n 3, 1) := by decide +kernel
theorem dJ2_compress_39247_7 : decode cJ2_compress_39247 7 = .ok (.iconst 0, 1) := by decide +kernel
theorem dJ2_compress_39247_8 : decode cJ2_compress_39247 8 = .ok (.iload_n 2, 1) := by decide +kernel
theorem dJ2_compress_39247_9 : decode cJ2_compress_39247 9 = .ok (.invokestatic 123, 3) := by decide +kernel
theorem dJ2_compress_39247_12 : decode cJ2_compress_39247 12 = .ok (.istore 4, 2) := by decide +kernel
theorem dJ2_compress_39247_14 : decode cJ2_compress_39247 14 = .ok (.iload 4, 2) := by decide +kernel
theorem dJ2_compress_39247_16 : decode cJ2_compress_39247 16 = .ok (.iload_n 2, 1) := by decide +kernel
theorem dJ2_compress_39247_17 : decode cJ2_compress_39247 17 = .ok (.if_icmp .eq 47, 3) := by decide +kernel
theorem dJ2_compress_39247_20 : decode cJ2_compress_39247 20 = .ok (.aload_n 0, 1) := by decide +kernel
theorem dJ2_compress_39247_21 : decode cJ2_compress_39247 21 = .ok (.iload_n 1, 1) := by decide +kernel
theorem dJ2_compress_39247_22 : decode cJ2_compress_39247 22 = .ok (.iconst 1, 1) := by decide +kernel
theorem dJ2_compress_39247_23 : decode cJ2_compress_39247 23 = .ok (.ishl, 1) := by decide +kernel
theorem dJ2_compress_39247_24 : decode cJ2_compress_39247 24 = .ok (.iload_n 1, 1) := by decide +kernel
theorem dJ2_compress_39247_25 : decode cJ2_compress_39247 25 = .ok (.iload_n 2, 1) := by decide +kernel
theorem dJ2_compress_39247_26 : decode cJ2_compress_39247 26 = .ok (.iadd, 1) := by decide +kernel
theorem dJ2_compress_39247_27 : decode cJ2_compress_39247 27 = .ok (.invokestatic 11, 3) := by decide +kernel
theorem dJ2_compress_39247_30 : decode cJ2_compress_39247 30 = .ok (.invokestatic 126, 3) := by decide +kernel
theorem dJ2_compress_39247_33 : decode cJ2_compress_39247 33 = .ok (.astore 5, 2) := by decide +kernel
theorem dJ2_compress_39247_35 : decode cJ2_compress_39247 35 = .ok (.aload 5, 2) := by decide +kernel
theorem dJ2_compress_39247_37 : decode cJ2_compress_39247 37 = .ok (.iload 4, 2) := by decide +kernel
theorem dJ2_compress_39247_39 : decode cJ2_compress_39247 39 = .ok (.invokestatic 71, 3) := by decide +kernel
theorem dJ2_compress_39247_42 : decode cJ2_compress_39247 42 = .ok (.sipush 255, 3) := by decide +kernel
theorem dJ2_compress_39247_45 : decode cJ2_compress_39247 45 = .ok (.if_icmp .gt 16, 3) := by decide +kernel
theorem dJ2_compress_39247_48 : decode cJ2_compress_39247 48 = .ok (.aload 5, 2) := by decide +kernel
theorem dJ2_compress_39247_50 : decode cJ2_compress_39247 50 = .ok (.iconst 0, 1) := by decide +kernel
theorem dJ2_compress_39247_51 : decode cJ2_compress_39247 51 = .ok (.aload_n 3, 1) := by decide +kernel
theorem dJ2_compress_39247_52 : decode cJ2_compress_39247 52 = .ok (.iconst 0, 1) := by decide +kernel
theorem dJ2_compress_39247_53 : decode cJ2_compress_39247 53 = .ok (.iload_n 2, 1) := by decide +kernel
theorem dJ2_compress_39247_54 : decode cJ2_compress_39247 54 = .ok (.invokestatic 123, 3) := by decide +kernel
theorem dJ2_compress_39247_57 : decode cJ2_compress_39247 57 = .ok (.iload_n 2, 1) := by decide +kernel
theorem dJ2_compress_39247_58 : decode cJ2_compress_39247 58 = .ok (.if_icmp .eq 6, 3) := by decide +kernel
theorem dJ2_compress_39247_61 : decode cJ2_compress_39247 61 = .ok (.aload 5, 2) := by decide +kernel
theorem dJ2_compress_39247_63 : decode cJ2_compress_39247 63 = .ok (.areturn, 1) := by decide +kernel
theorem dJ2_compress_39247_64 : decode cJ2_compress_39247 64 = .ok (.aload_n 3, 1) := by decide +kernel
theorem dJ2_compress_39247_65 : decode cJ2_compress_39247 65 = .ok (.areturn, 1) := by decide +kernel
theorem dJ2_compress_fe38e_0 : decode cJ2_compress_fe38e 0 = .ok (.iconst 0, 1) := by decide +kernel
theorem dJ2_compress_fe38e_1 : decode cJ2_compress_fe38e 1 = .ok (.istore 5, 2) := by decide +kernel
theorem dJ2_compress_fe38e_3 : decode cJ2_compress_fe38e 3 = .ok (.iload 5, 2) := by decide +kernel
theorem dJ2_compress_fe38e_5 : decode cJ2_compress_fe38e 5 = .ok (.iload 4, 2) := by decide +kernel
theorem dJ2_compress_fe38e_7 : decode cJ2_compress_fe38e 7 = .ok (.if_icmp .ge 37, 3) := by decide +kernel
theorem dJ2_compress_fe38e_10 : decode cJ2_compress_fe38e 10 = .ok (.aload_n 0, 1) := by decide +kernel
theorem dJ2_compress_fe38e_11 : decode cJ2_compress_fe38e 11 = .ok (.iload_n 1, 1) := by decide +kernel
theorem dJ2_compress_fe38e_12 : decode cJ2_compress_fe38e 12 = .ok (.caload, 1) := by decide +kernel
theorem dJ2_compress_fe38e_13 : decode cJ2_compress_fe38e 13 = .ok (.istore 6, 2) := by decide +kernel
theorem dJ2_compress_fe38e_15 : decode cJ2_compress_fe38e 15 = .ok (.iload 6, 2) := by decide +kernel
theorem dJ2_compress_fe38e_17 : decode cJ2_compress_fe38e 17 = .ok (.sipush 255, 3) := by decide +kernel
theorem dJ2_compress_fe38e_20 : decode cJ2_compress_fe38e 20 = .ok (.if_icmp .le 6, 3) := by decide +kernel
theorem dJ2_compress_fe38e_23 : decode cJ2_compress_fe38e 23 = .ok (.iload 5, 2) := by decide +kernel
theorem dJ2_compress_fe38e_25 : decode cJ2_compress_fe38e 25 = .ok (.ireturn, 1) := by decide +kernel
theorem dJ2_compress_fe38e_26 : decode cJ2_compress_fe38e 26 = .ok (.aload_n 2, 1) := by decide +kernel
theorem dJ2_compress_fe38e_27 : decode cJ2_compress_fe38e 27 = .ok (.iload_n 3, 1) := by decide +kernel
theorem dJ2_compress_fe38e_28 : decode cJ2_compress_fe38e 28 = .ok (.iload 6, 2) := by decide +kernel
theorem dJ2_compress_fe38e_30 : decode cJ2_compress_fe38e 30 = .ok (.i2b, 1) := by decide +kernel
theorem dJ2_compress_fe38e_31 : decode cJ2_compress_fe38e 31 = .ok (.bastore, 1) := by decide +kernel
theorem dJ2_compress_fe38e_32 : decode cJ2_compress_fe38e 32 = .ok (.iinc 1 1, 3) := by decide +kernel
theorem dJ2_compress_fe38e_35 : decode cJ2_compress_fe38e 35 = .ok (.iinc 3 1, 3) := by decide +kernel
theorem dJ2_compress_fe38e_38 : decode cJ2_compress_fe38e 38 = .ok (.iinc 5 1, 3) := by decide +kernel
theorem dJ2_compress_fe38e_41 : decode cJ2_compress_fe38e 41 = .ok (.goto (-38), 3) := by decide +kernel
theorem dJ2_compress_fe38e_44 : decode cJ2_compress_fe38e 44 = .ok (.iload 4, 2) := by decide +kernel
theorem dJ2_compress_fe38e_46 : decode cJ2_compress_fe38e 46 = .ok (.ireturn, 1) := by decide +kernel
theorem dJ2_compress_5af95_0 : decode cJ2_compress_5af95 0 = .ok (.iload_n 1, 1) := by decide +kernel
theorem dJ2_compress_5af95_1 : decode cJ2_compress_5af95 1 = .ok (.iload 4, 2) := by decide +kernel
theorem dJ2_compress_5af95_3 : decode cJ2_compress_5af95 3 = .ok (.aload_n 0, 1) := by decide +kernel
theorem dJ2_compress_5af95_4 : decode cJ2_compress_5af95 4 = .ok (.invokestatic 173, 3) := by decide +kernel
theorem dJ2_compress_5af95_7 : decode cJ2_compress_5af95 7 = .ok (.iconst 0, 1) := by decide +kernel
theorem dJ2_compress_5af95_8 : decode cJ2_compress_5af95 8 = .ok (.istore 5, 2) := by decide +kernel
theorem dJ2_compress_5af95_10 : decode cJ2_compress_5af95 10 = .ok (.iload 5, 2) := by decide +kernel
theorem dJ2_compress_5af95_12 : decode cJ2_compress_5af95 12 = .ok (.iload 4, 2) := by decide +kernel
theorem dJ2_compress_5af95_14 : decode cJ2_compress_5af95 14 = .ok (.if_icmp .ge 39, 3) := by decide +kernel
theorem dJ2_compress_5af95_17 : decode cJ2_compress_5af95 17 = .ok (.aload_n 0, 1) := by decide +kernel
theorem dJ2_compress_5af95_18 : decode cJ2_compress_5af95 18 = .ok (.iload_n 1, 1) := by decide +kernel
theorem dJ2_compress_5af95_19 : decode cJ2_compress_5af95 19 = .ok (.invokestatic 71, 3) := by decide +kernel
theorem dJ2_compress_5af95_22 : decode cJ2_compress_5af95 22 = .ok (.istore 6, 2) := by decide +kernel
theorem dJ2_compress_5af95_24 : decode cJ2_compress_5af95 24 = .ok (.iload 6, 2) := by decide +kernel
theorem dJ2_compress_5af95_26 : decode cJ2_compress_5af95 26 = .ok (.sipush 255, 3) := by decide +kernel
theorem dJ2_compress_5af95_29 : decode cJ2_compress_5af95 29 = .ok (.if_icmp .le 6, 3) := by decide +kernel
theorem dJ2_compress_5af95_32 : decode cJ2_compress_5af95 32 = .ok (.iload 5, 2) := by decide +kernel
theorem dJ2_compress_5af95_34 : decode cJ2_compress_5af95 34 = .ok (.ireturn, 1) := by decide +kernel
theorem dJ2_compress_5af95_35 : decode cJ2_compress_5af95 35 = .ok (.aload_n 2, 1) := by decide +kernel
theorem dJ2_compress_5af95_36 : decode cJ2_compress_5af95 36 = .ok (.iload_n 3, 1) := by decide +kernel
theorem dJ2_compress_5af95_37 : decode cJ2_compress_5af95 37 = .ok (.iload 6, 2) := by decide +kernel
theorem dJ2_compress_5af95_39 : decode cJ2_compress_5af95 39 = .ok (.i2b, 1) := by decide +kernel
theorem dJ2_compress_5af95_40 : decode cJ2_compress_5af95 40 = .ok (.bastore, 1) := by decide +kernel
theorem dJ2_compress_5af95_41 : decode cJ2_compress_5af95 41 = .ok (.iinc 1 1, 3) := by decide +kernel
theorem dJ2_compress_5af95_44 : decode cJ2_compress_5af95 44 = .ok (.iinc 3 1, 3) := by decide +kernel
theorem dJ2_compress_5af95_47 : decode cJ2_compress_5af95 47 = .ok (.iinc 5 1, 3) := by decide +kernel
theorem dJ2_compress_5af95_50 : decode cJ2_compress_5af95 50 = .ok (.goto (-40), 3) := by decide +kernel
theorem dJ2_compress_5af95_53 : decode cJ2_compress_5af95 53 = .ok (.iload 4, 2) := by decide +kernel
theorem dJ2_compress_5af95_55 : decode cJ2_compress_5af95 55 = .ok (.ireturn, 1) := by decide +kernel
theorem dJ2_newString_b4f7a_0 : decode cJ2_newString_b4f7a 0 = .ok (.iload_n 2, 1) := by decide +kernel
theorem dJ2_newString_b4f7a_1 : decode cJ2_newString_b4f7a 1 = .ok (.ifCond .ne 7, 3) := by decide +kernel
theorem dJ2_newString_b4f7a_4 : decode cJ2_newString_b4f7a 4 = .ok (.ldc_w 295, 3) := by decide +kernel
theorem dJ2_newString_b4f7a_7 : decode cJ2_newString_b4f7a 7 = .ok (.areturn, 1) := by decide +kernel
theorem dJ2_newString_b4f7a_8 : decode cJ2_newString_b4f7a 8 = .ok (.getstatic 251, 3) := by decide +kernel
theorem dJ2_newString_b4f7a_11 : decode cJ2_newString_b4f7a 11 = .ok (.ifCond .eq 28, 3) := by decide +kernel
theorem dJ2_newString_b4f7a_14 : decode cJ2_newString_b4f7a 14 = .ok (.aload_n 0, 1) := by decide +kernel
theorem dJ2_newString_b4f7a_15 : decode cJ2_newString_b4f7a 15 = .ok (.iload_n 1, 1) := by decide +kernel
theorem dJ2_newString_b4f7a_16 : decode cJ2_newString_b4f7a 16 = .ok (.iload_n 2, 1) := by decide +kernel
theorem dJ2_newString_b4f7a_17 : decode cJ2_newString_b4f7a 17 = .ok (.invokestatic 257, 3) := by decide +kernel
theorem dJ2_newString_b4f7a_20 : decode cJ2_newString_b4f7a 20 = .ok (.astore_n 3, 1) := by decide +kernel
theorem dJ2_newString_b4f7a_21 : decode cJ2_newString_b4f7a 21 = .ok (.aload_n 3, 1) := by decide +kernel
theorem dJ2_newString_b4f7a_22 : decode cJ2_newString_b4f7a 22 = .ok (.iload_n 2, 1) := by decide +kernel
theorem dJ2_newString_b4f7a_23 : decode cJ2_newString_b4f7a 23 = .ok (.invokestatic 259, 3) := by decide +kernel
theorem dJ2_newString_b4f7a_26 : decode cJ2_newString_b4f7a 26 = .ok (.istore 4, 2) := by decide +kernel
theorem dJ2_newString_b4f7a_28 : decode cJ2_newString_b4f7a 28 = .ok (.new 3, 3) := by decide +kernel
theorem dJ2_newString_b4f7a_31 : decode cJ2_newString_b4f7a 31 = .ok (.dup, 1) := by decide +kernel
theorem dJ2_newString_b4f7a_32 : decode cJ2_newString_b4f7a 32 = .ok (.aload_n 3, 1) := by decide +kernel
theorem dJ2_newString_b4f7a_33 : decode cJ2_newString_b4f7a 33 = .ok (.iload 4, 2) := by decide +kernel
theorem dJ2_newString_b4f7a_35 : decode cJ2_newString_b4f7a 35 = .ok (.invokespecial 263, 3) := by decide +kernel
theorem dJ2_newString_b4f7a_38 : decode cJ2_newString_b4f7a 38 = .ok (.areturn, 1) := by decide +kernel
theorem dJ2_newString_b4f7a_39 : decode cJ2_newString_b4f7a 39 = .ok (.iload_n 1, 1) := by decide +kernel
theorem dJ2_newString_b4f7a_40 : decode cJ2_newString_b4f7a 40 = .ok (.iload_n 2, 1) := by decide +kernel
theorem dJ2_newString_b4f7a_41 : decode cJ2_newString_b4f7a 41 = .ok (.iadd, 1) := by decide +kernel
theorem dJ2_newString_b4f7a_42 : decode cJ2_newString_b4f7a 42 = .ok (.istore_n 3, 1) := by decide +kernel
theorem dJ2_newString_b4f7a_43 : decode cJ2_newString_b4f7a 43 = .ok (.new 3, 3) := by decide +kernel
theorem dJ2_newString_b4f7a_46 : decode cJ2_newString_b4f7a 46 = .ok (.dup, 1) := by decide +kernel
theorem dJ2_newString_b4f7a_47 : decode cJ2_newString_b4f7a 47 = .ok (.aload_n 0, 1) := by decide +kernel
theorem dJ2_newString_b4f7a_48 : decode cJ2_newString_b4f7a 48 = .ok (.iload_n 1, 1) := by decide +kernel
theorem dJ2_newString_b4f7a_49 : decode cJ2_newString_b4f7a 49 = .ok (.iconst 1, 1) := by decide +kernel
theorem dJ2_newString_b4f7a_50 : decode cJ2_newString_b4f7a 50 = .ok (.ishl, 1) := by decide +kernel
theorem dJ2_newString_b4f7a_51 : decode cJ2_newString_b4f7a 51 = .ok (.iload_n 3, 1) := by decide +kernel
theorem dJ2_newString_b4f7a_52 : decode cJ2_newString_b4f7a 52 = .ok (.iconst 1, 1) := by decide +kernel
theorem dJ2_newString_b4f7a_53 : decode cJ2_newString_b4f7a 53 = .ok (.ishl, 1) := by decide +kernel
theorem dJ2_newString_b4f7a_54 : decode cJ2_newString_b4f7a 54 = .ok (.invokestatic 126, 3) := by decide +kernel
theorem dJ2_newString_b4f7a_57 : decode cJ2_newString_b4f7a 57 = .ok (.iconst 1, 1) := by decide +kernel
theorem dJ2_newString_b4f7a_58 : decode cJ2_newString_b4f7a 58 = .ok (.invokespecial 263, 3) := by decide +kernel
theorem dJ2_newString_b4f7a_61 : decode cJ2_newString_b4f7a 61 = .ok (.areturn, 1) := by decide +kernel
theorem dJ2_charAt_3b067_0 : decode cJ2_charAt_3b067 0 = .ok (.iload_n 1, 1) := by decide +kernel
theorem dJ2_charAt_3b067_1 : decode cJ2_charAt_3b067 1 = .ok (.aload_n 0, 1) := by decide +kernel
theorem dJ2_charAt_3b067_2 : decode cJ2_charAt_3b067 2 = .ok (.invokestatic 67, 3) := by decide +kernel
theorem dJ2_charAt_3b067_5 : decode cJ2_charAt_3b067 5 = .ok (.aload_n 0, 1) := by decide +kernel
theorem dJ2_charAt_3b067_6 : decode cJ2_charAt_3b067 6 = .ok (.iload_n 1, 1) := by decide +kernel
theorem dJ2_charAt_3b067_7 : decode cJ2_charAt_3b067 7 = .ok (.invokestatic 71, 3) := by decide +kernel
theorem dJ2_charAt_3b067_10 : decode cJ2_charAt_3b067 10 = .ok (.ireturn, 1) := by decide +kernel
theorem dJ2_checkIndex_2214a_0 : decode cJ2_checkIndex_2214a 0 = .ok (.iload_n 0, 1) := by decide +kernel
theorem dJ2_checkIndex_2214a_1 : decode cJ2_checkIndex_2214a 1 = .ok (.aload_n 1, 1) := by decide +kernel
theorem dJ2_checkIndex_2214a_2 : decode cJ2_checkIndex_2214a 2 = .ok (.invokestatic 48, 3) := by decide +kernel
theorem dJ2_checkIndex_2214a_5 : decode cJ2_checkIndex_2214a 5 = .ok (.invokestatic 414, 3) := by decide +kernel
theorem dJ2_checkIndex_2214a_8 : decode cJ2_checkIndex_2214a 8 = .ok (.return_, 1) := by decide +kernel
theorem dJ2_checkBoundsOffCount_d044e_0 : decode cJ2_checkBoundsOffCount_d044e 0 = .ok (.iload_n 0, 1) := by decide +kernel
theorem dJ2_checkBoundsOffCount_d044e_1 : decode cJ2_checkBoundsOffCount_d044e 1 = .ok (.iload_n 1, 1) := by decide +kernel
theorem dJ2_checkBoundsOffCount_d044e_2 : decode cJ2_checkBoundsOffCount_d044e 2 = .ok (.aload_n 2, 1) := by decide +kernel
theorem dJ2_checkBoundsOffCount_d044e_3 : decode cJ2_checkBoundsOffCount_d044e 3 = .ok (.invokestatic 48, 3) := by decide +kernel
theorem dJ2_checkBoundsOffCount_d044e_6 : decode cJ2_checkBoundsOffCount_d044e 6 = .ok (.invokestatic 419, 3) := by decide +kernel
theorem dJ2_checkBoundsOffCount_d044e_9 : decode cJ2_checkBoundsOffCount_d044e 9 = .ok (.pop, 1) := by decide +kernel
theorem dJ2_checkBoundsOffCount_d044e_10 : decode cJ2_checkBoundsOffCount_d044e 10 = .ok (.return_, 1) := by decide +kernel
theorem dJ7_checkLength_df160_0 : decode cJ7_checkLength_df160 0 = .ok (.iload_n 1, 1) := by decide +kernel
theorem dJ7_checkLength_df160_1 : decode cJ7_checkLength_df160 1 = .ok (.iload_n 0, 1) := by decide +kernel
theorem dJ7_checkLength_df160_2 : decode cJ7_checkLength_df160 2 = .ok (.if_icmp .ge 35, 3) := by decide +kernel
theorem dJ7_checkLength_df160_5 : decode cJ7_checkLength_df160 5 = .ok (.new 43, 3) := by decide +kernel
theorem dJ7_checkLength_df160_8 : decode cJ7_checkLength_df160 8 = .ok (.dup, 1) := by decide +kernel
theorem dJ7_checkLength_df160_9 : decode cJ7_checkLength_df160 9 = .ok (.new 45, 3) := by decide +kernel
theorem dJ7_checkLength_df160_12 : decode cJ7_checkLength_df160 12 = .ok (.dup, 1) := by decide +kernel
theorem dJ7_checkLength_df160_13 : decode cJ7_checkLength_df160 13 = .ok (.invokespecial 47, 3) := by decide +kernel
theorem dJ7_checkLength_df160_16 : decode cJ7_checkLength_df160 16 = .ok (.iload_n 0, 1) := by decide +kernel
theorem dJ7_checkLength_df160_17 : decode cJ7_checkLength_df160 17 = .ok (.invokevirtual 54, 3) := by decide +kernel
theorem dJ7_checkLength_df160_20 : decode cJ7_checkLength_df160 20 = .ok (.ldc_w 337, 3) := by decide +kernel
theorem dJ7_checkLength_df160_23 : decode cJ7_checkLength_df160 23 = .ok (.invokevirtual 50, 3) := by decide +kernel
theorem dJ7_checkLength_df160_26 : decode cJ7_checkLength_df160 26 = .ok (.iload_n 1, 1) := by decide +kernel
theorem dJ7_checkLength_df160_27 : decode cJ7_checkLength_df160 27 = .ok (.invokevirtual 54, 3) := by decide +kernel
theorem dJ7_checkLength_df160_30 : decode cJ7_checkLength_df160 30 = .ok (.invokevirtual 61, 3) := by decide +kernel
theorem dJ7_checkLength_df160_33 : decode cJ7_checkLength_df160 33 = .ok (.invokespecial 65, 3) := by decide +kernel
theorem dJ7_checkLength_df160_36 : decode cJ7_checkLength_df160 36 = .ok (.athrow, 1) := by decide +kernel
theorem dJ7_checkLength_df160_37 : decode cJ7_checkLength_df160 37 = .ok (.return_, 1) := by decide +kernel
theorem dJ7_copyOfRange_39247_0 : decode cJ7_copyOfRange_39247 0 = .ok (.iload_n 1, 1) := by decide +kernel
theorem dJ7_copyOfRange_39247_1 : decode cJ7_copyOfRange_39247 1 = .ok (.ifCond .ne 9, 3) := by decide +kernel
theorem dJ7_copyOfRange_39247_4 : decode cJ7_copyOfRange_39247 4 = .ok (.iload_n 2, 1) := by decide +kernel
theorem dJ7_copyOfRange_39247_5 : decode cJ7_copyOfRange_39247 5 = .ok (.aload_n 0, 1) := by decide +kernel
theorem dJ7_copyOfRange_39247_6 : decode cJ7_copyOfRange_39247 6 = .ok (.arraylength, 1) := by decide +kernel
theorem dJ7_copyOfRange_39247_7 : decode cJ7_copyOfRange_39247 7 = .ok (.if_icmp .eq 10, 3) := by decide +kernel
theorem dJ7_copyOfRange_39247_10 : decode cJ7_copyOfRange_39247 10 = .ok (.aload_n 0, 1) := by decide +kernel
theorem dJ7_copyOfRange_39247_11 : decode cJ7_copyOfRange_39247 11 = .ok (.iload_n 1, 1) := by decide +kernel
theorem dJ7_copyOfRange_39247_12 : decode cJ7_copyOfRange_39247 12 = .ok (.iload_n 2, 1) := by decide +kernel
theorem dJ7_copyOfRange_39247_13 : decode cJ7_copyOfRange_39247 13 = .ok (.invokestatic 339, 3) := by decide +kernel
theorem dJ7_copyOfRange_39247_16 : decode cJ7_copyOfRange_39247 16 = .ok (.areturn, 1) := by decide +kernel
theorem dJ7_copyOfRange_39247_17 : decode cJ7_copyOfRange_39247 17 = .ok (.aload_n 0, 1) := by decide +kernel
theorem dJ7_copyOfRange_39247_18 : decode cJ7_copyOfRange_39247 18 = .ok (.invokevirtual 310, 3) := by decide +kernel
theorem dJ7_copyOfRange_39247_21 : decode cJ7_copyOfRange_39247 21 = .ok (.checkcast 311, 3) := by decide +kernel
theorem dJ7_copyOfRange_39247_24 : decode cJ7_copyOfRange_39247 24 = .ok (.areturn, 1) := by decide +kernel
theorem dJ7_copyOfRangeByte_39247_0 : decode cJ7_copyOfRangeByte_39247 0 = .ok (.iload_n 1, 1) := by decide +kernel
theorem dJ7_copyOfRangeByte_39247_1 : decode cJ7_copyOfRangeByte_39247 1 = .ok (.iload_n 2, 1) := by decide +kernel
theorem dJ7_copyOfRangeByte_39247_2 : decode cJ7_copyOfRangeByte_39247 2 = .ok (.invokestatic 343, 3) := by decide +kernel
theorem dJ7_copyOfRangeByte_39247_5 : decode cJ7_copyOfRangeByte_39247 5 = .ok (.iload_n 2, 1) := by decide +kernel
theorem dJ7_copyOfRangeByte_39247_6 : decode cJ7_copyOfRangeByte_39247 6 = .ok (.iload_n 1, 1) := by decide +kernel
theorem dJ7_copyOfRangeByte_39247_7 : decode cJ7_copyOfRangeByte_39247 7 = .ok (.isub, 1) := by decide +kernel
theorem dJ7_copyOfRangeByte_39247_8 : decode cJ7_copyOfRangeByte_39247 8 = .ok (.istore_n 3, 1) := by decide +kernel
theorem dJ7_copyOfRangeByte_39247_9 : decode cJ7_copyOfRangeByte_39247 9 = .ok (.iload_n 3, 1) := by decide +kernel
theorem dJ7_copyOfRangeByte_39247_10 : decode cJ7_copyOfRangeByte_39247 10 = .ok (.newarray .byte, 2) := by decide +kernel
theorem dJ7_copyOfRangeByte_39247_12 : decode cJ7_copyOfRangeByte_39247 12 = .ok (.astore 4, 2) := by decide +kernel
theorem dJ7_copyOfRangeByte_39247_14 : decode cJ7_copyOfRangeByte_39247 14 = .ok (.aload_n 0, 1) := by decide +kernel
theorem dJ7_copyOfRangeByte_39247_15 : decode cJ7_copyOfRangeByte_39247 15 = .ok (.iload_n 1, 1) := by decide +kernel
theorem dJ7_copyOfRangeByte_39247_16 : decode cJ7_copyOfRangeByte_39247 16 = .ok (.aload 4, 2) := by decide +kernel
theorem dJ7_copyOfRangeByte_39247_18 : decode cJ7_copyOfRangeByte_39247 18 = .ok (.iconst 0, 1) := by decide +kernel
theorem dJ7_copyOfRangeByte_39247_19 : decode cJ7_copyOfRangeByte_39247 19 = .ok (.aload_n 0, 1) := by decide +kernel
theorem dJ7_copyOfRangeByte_39247_20 : decode cJ7_copyOfRangeByte_39247 20 = .ok (.arraylength, 1) := by decide +kernel
theorem dJ7_copyOfRangeByte_39247_21 : decode cJ7_copyOfRangeByte_39247 21 = .ok (.iload_n 1, 1) := by decide +kernel
theorem dJ7_copyOfRangeByte_39247_22 : decode cJ7_copyOfRangeByte_39247 22 = .ok (.isub, 1) := by decide +kernel
theorem dJ7_copyOfRangeByte_39247_23 : decode cJ7_copyOfRangeByte_39247 23 = .ok (.iload_n 3, 1) := by decide +kernel
theorem dJ7_copyOfRangeByte_39247_24 : decode cJ7_copyOfRangeByte_39247 24 = .ok (.invokestatic 304, 3) := by decide +kernel
theorem dJ7_copyOfRangeByte_39247_27 : decode cJ7_copyOfRangeByte_39247 27 = .ok (.invokestatic 150, 3) := by decide +kernel
theorem dJ7_copyOfRangeByte_39247_30 : decode cJ7_copyOfRangeByte_39247 30 = .ok (.aload 4, 2) := by decide +kernel
theorem dJ7_copyOfRangeByte_39247_32 : decode cJ7_copyOfRangeByte_39247 32 = .ok (.areturn, 1) := by decide +kernel
theorem dJ3_checkIndex_8e157_0 : decode cJ3_checkIndex_8e157 0 = .ok (.iload_n 0, 1) := by decide +kernel
theorem dJ3_checkIndex_8e157_1 : decode cJ3_checkIndex_8e157 1 = .ok (.ifCond .lt 8, 3) := by decide +kernel
theorem dJ3_checkIndex_8e157_4 : decode cJ3_checkIndex_8e157 4 = .ok (.iload_n 0, 1) := by decide +kernel
theorem dJ3_checkIndex_8e157_5 : decode cJ3_checkIndex_8e157 5 = .ok (.iload_n 1, 1) := by decide +kernel
theorem dJ3_checkIndex_8e157_6 : decode cJ3_checkIndex_8e157 6 = .ok (.if_icmp .lt 10, 3) := by decide +kernel
theorem dJ3_checkIndex_8e157_9 : decode cJ3_checkIndex_8e157 9 = .ok (.aload_n 2, 1) := by decide +kernel
theorem dJ3_checkIndex_8e157_10 : decode cJ3_checkIndex_8e157 10 = .ok (.iload_n 0, 1) := by decide +kernel
theorem dJ3_checkIndex_8e157_11 : decode cJ3_checkIndex_8e157 11 = .ok (.iload_n 1, 1) := by decide +kernel
theorem dJ3_checkIndex_8e157_12 : decode cJ3_checkIndex_8e157 12 = .ok (.invokestatic 95, 3) := by decide +kernel
theorem dJ3_checkIndex_8e157_15 : decode cJ3_checkIndex_8e157 15 = .ok (.athrow, 1) := by decide +kernel
theorem dJ3_checkIndex_8e157_16 : decode cJ3_checkIndex_8e157 16 = .ok (.iload_n 0, 1) := by decide +kernel
theorem dJ3_checkIndex_8e157_17 : decode cJ3_checkIndex_8e157 17 = .ok (.ireturn, 1) := by decide +kernel
theorem dJ3_checkFromToIndex_8c36e_0 : decode cJ3_checkFromToIndex_8c36e 0 = .ok (.iload_n 0, 1) := by decide +kernel
theorem dJ3_checkFromToIndex_8c36e_1 : decode cJ3_checkFromToIndex_8c36e 1 = .ok (.ifCond .lt 13, 3) := by decide +kernel
theorem dJ3_checkFromToIndex_8c36e_4 : decode cJ3_checkFromToIndex_8c36e 4 = .ok (.iload_n 0, 1) := by decide +kernel
theorem dJ3_checkFromToIndex_8c36e_5 : decode cJ3_checkFromToIndex_8c36e 5 = .ok (.iload_n 1, 1) := by decide +kernel
theorem dJ3_checkFromToIndex_8c36e_6 : decode cJ3_checkFromToIndex_8c36e 6 = .ok (.if_icmp .gt 8, 3) := by decide +kernel
theorem dJ3_checkFromToIndex_8c36e_9 : decode cJ3_checkFromToIndex_8c36e 9 = .ok (.iload_n 1, 1) := by decide +kernel
theorem dJ3_checkFromToIndex_8c36e_10 : decode cJ3_checkFromToIndex_8c36e 10 = .ok (.iload_n 2, 1) := by decide +kernel
theorem dJ3_checkFromToIndex_8c36e_11 : decode cJ3_checkFromToIndex_8c36e 11 = .ok (.if_icmp .le 11, 3) := by decide +kernel
theorem dJ3_checkFromToIndex_8c36e_14 : decode cJ3_checkFromToIndex_8c36e 14 = .ok (.aload_n 3, 1) := by decide +kernel
theorem dJ3_checkFromToIndex_8c36e_15 : decode cJ3_checkFromToIndex_8c36e 15 = .ok (.iload_n 0, 1) := by decide +kernel
theorem dJ3_checkFromToIndex_8c36e_16 : decode cJ3_checkFromToIndex_8c36e 16 = .ok (.iload_n 1, 1) := by decide +kernel
theorem dJ3_checkFromToIndex_8c36e_17 : decode cJ3_checkFromToIndex_8c36e 17 = .ok (.iload_n 2, 1) := by decide +kernel
theorem dJ3_checkFromToIndex_8c36e_18 : decode cJ3_checkFromToIndex_8c36e 18 = .ok (.invokestatic 99, 3) := by decide +kernel
theorem dJ3_checkFromToIndex_8c36e_21 : decode cJ3_checkFromToIndex_8c36e 21 = .ok (.athrow, 1) := by decide +kernel
theorem dJ3_checkFromToIndex_8c36e_22 : decode cJ3_checkFromToIndex_8c36e 22 = .ok (.iload_n 0, 1) := by decide +kernel
theorem dJ3_checkFromToIndex_8c36e_23 : decode cJ3_checkFromToIndex_8c36e 23 = .ok (.ireturn, 1) := by decide +kernel
theorem dJ3_checkFromIndexSize_8c36e_0 : decode cJ3_checkFromIndexSize_8c36e 0 = .ok (.iload_n 2, 1) := by decide +kernel
theorem dJ3_checkFromIndexSize_8c36e_1 : decode cJ3_checkFromIndexSize_8c36e 1 = .ok (.iload_n 0, 1) := by decide +kernel
theorem dJ3_checkFromIndexSize_8c36e_2 : decode cJ3_checkFromIndexSize_8c36e 2 = .ok (.ior, 1) := by decide +kernel
theorem dJ3_checkFromIndexSize_8c36e_3 : decode cJ3_checkFromIndexSize_8c36e 3 = .ok (.iload_n 1, 1) := by decide +kernel
theorem dJ3_checkFromIndexSize_8c36e_4 : decode cJ3_checkFromIndexSize_8c36e 4 = .ok (.ior, 1) := by decide +kernel
theorem dJ3_checkFromIndexSize_8c36e_5 : decode cJ3_checkFromIndexSize_8c36e 5 = .ok (.ifCond .lt 10, 3) := by decide +kernel
theorem dJ3_checkFromIndexSize_8c36e_8 : decode cJ3_checkFromIndexSize_8c36e 8 = .ok (.iload_n 1, 1) := by decide +kernel
theorem dJ3_checkFromIndexSize_8c36e_9 : decode cJ3_checkFromIndexSize_8c36e 9 = .ok (.iload_n 2, 1) := by decide +kernel
theorem dJ3_checkFromIndexSize_8c36e_10 : decode cJ3_checkFromIndexSize_8c36e 10 = .ok (.iload_n 0, 1) := by decide +kernel
theorem dJ3_checkFromIndexSize_8c36e_11 : decode cJ3_checkFromIndexSize_8c36e 11 = .ok (.isub, 1) := by decide +kernel
theorem dJ3_checkFromIndexSize_8c36e_12 : decode cJ3_checkFromIndexSize_8c36e 12 = .ok (.if_icmp .le 11, 3) := by decide +kernel
theorem dJ3_checkFromIndexSize_8c36e_15 : decode cJ3_checkFromIndexSize_8c36e 15 = .ok (.aload_n 3, 1) := by decide +kernel
theorem dJ3_checkFromIndexSize_8c36e_16 : decode cJ3_checkFromIndexSize_8c36e 16 = .ok (.iload_n 0, 1) := by decide +kernel
theorem dJ3_checkFromIndexSize_8c36e_17 : decode cJ3_checkFromIndexSize_8c36e 17 = .ok (.iload_n 1, 1) := by decide +kernel
theorem dJ3_checkFromIndexSize_8c36e_18 : decode cJ3_checkFromIndexSize_8c36e 18 = .ok (.iload_n 2, 1) := by decide +kernel
theorem dJ3_checkFromIndexSize_8c36e_19 : decode cJ3_checkFromIndexSize_8c36e 19 = .ok (.invokestatic 103, 3) := by decide +kernel
theorem dJ3_checkFromIndexSize_8c36e_22 : decode cJ3_checkFromIndexSize_8c36e 22 = .ok (.athrow, 1) := by decide +kernel
theorem dJ3_checkFromIndexSize_8c36e_23 : decode cJ3_checkFromIndexSize_8c36e 23 = .ok (.iload_n 0, 1) := by decide +kernel
theorem dJ3_checkFromIndexSize_8c36e_24 : decode cJ3_checkFromIndexSize_8c36e 24 = .ok (.ireturn, 1) := by decide +kernel
