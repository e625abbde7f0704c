theorem dX0_init_0 : decode cX0_init 0 = .ok (.aload_n 0, 1) := by decide +kernel
theorem dX0_init_1 : decode cX0_init 1 = .ok (.invokespecial 3, 3) := by decide +kernel
theorem dX0_init_4 : decode cX0_init 4 = .ok (.aload_n 0, 1) := by decide +kernel
theorem dX0_init_5 : decode cX0_init 5 = .ok (.aload_n 1, 1) := by decide +kernel
theorem dX0_init_6 : decode cX0_init 6 = .ok (.putfield 9, 3) := by decide +kernel
theorem dX0_init_9 : decode cX0_init 9 = .ok (.return_, 1) := by decide +kernel
theorem dX0_readWhole_0 : decode cX0_readWhole 0 = .ok (.aload_n 0, 1) := by decide +kernel
theorem dX0_readWhole_1 : decode cX0_readWhole 1 = .ok (.iconst 0, 1) := by decide +kernel
theorem dX0_readWhole_2 : decode cX0_readWhole 2 = .ok (.putfield 15, 3) := by decide +kernel
theorem dX0_readWhole_5 : decode cX0_readWhole 5 = .ok (.new 19, 3) := by decide +kernel
theorem dX0_readWhole_8 : decode cX0_readWhole 8 = .ok (.dup, 1) := by decide +kernel
theorem dX0_readWhole_9 : decode cX0_readWhole 9 = .ok (.iconst 3, 1) := by decide +kernel
theorem dX0_readWhole_10 : decode cX0_readWhole 10 = .ok (.iconst (-1), 1) := by decide +kernel
theorem dX0_readWhole_11 : decode cX0_readWhole 11 = .ok (.ldc 23, 2) := by decide +kernel
theorem dX0_readWhole_13 : decode cX0_readWhole 13 = .ok (.invokespecial 25, 3) := by decide +kernel
theorem dX0_readWhole_16 : decode cX0_readWhole 16 = .ok (.astore_n 2, 1) := by decide +kernel
theorem dX0_readWhole_17 : decode cX0_readWhole 17 = .ok (.aload_n 0, 1) := by decide +kernel
theorem dX0_readWhole_18 : decode cX0_readWhole 18 = .ok (.aload_n 2, 1) := by decide +kernel
theorem dX0_readWhole_19 : decode cX0_readWhole 19 = .ok (.iload_n 1, 1) := by decide +kernel
theorem dX0_readWhole_20 : decode cX0_readWhole 20 = .ok (.iconst 1, 1) := by decide +kernel
theorem dX0_readWhole_21 : decode cX0_readWhole 21 = .ok (.invokevirtual 28, 3) := by decide +kernel
theorem dX0_readWhole_24 : decode cX0_readWhole 24 = .ok (.ifCond .eq 15, 3) := by decide +kernel
theorem dX0_readWhole_27 : decode cX0_readWhole 27 = .ok (.aload_n 0, 1) := by decide +kernel
theorem dX0_readWhole_28 : decode cX0_readWhole 28 = .ok (.getfield 15, 3) := by decide +kernel
theorem dX0_readWhole_31 : decode cX0_readWhole 31 = .ok (.iload_n 1, 1) := by decide +kernel
theorem dX0_readWhole_32 : decode cX0_readWhole 32 = .ok (.if_icmp .ne 7, 3) := by decide +kernel
theorem dX0_readWhole_35 : decode cX0_readWhole 35 = .ok (.aload_n 2, 1) := by decide +kernel
theorem dX0_readWhole_36 : decode cX0_readWhole 36 = .ok (.goto 4, 3) := by decide +kernel
theorem dX0_readWhole_39 : decode cX0_readWhole 39 = .ok (.aconst_null, 1) := by decide +kernel
theorem dX0_readWhole_40 : decode cX0_readWhole 40 = .ok (.areturn, 1) := by decide +kernel
theorem dX0_readParts_0 : decode cX0_readParts 0 = .ok (.iload_n 3, 1) := by decide +kernel
theorem dX0_readParts_1 : decode cX0_readParts 1 = .ok (.bipush 16, 2) := by decide +kernel
theorem dX0_readParts_3 : decode cX0_readParts 3 = .ok (.if_icmp .gt 13, 3) := by decide +kernel
theorem dX0_readParts_6 : decode cX0_readParts 6 = .ok (.iload_n 2, 1) := by decide +kernel
theorem dX0_readParts_7 : decode cX0_readParts 7 = .ok (.aload_n 0, 1) := by decide +kernel
theorem dX0_readParts_8 : decode cX0_readParts 8 = .ok (.getfield 15, 3) := by decide +kernel
theorem dX0_readParts_11 : decode cX0_readParts 11 = .ok (.isub, 1) := by decide +kernel
theorem dX0_readParts_12 : decode cX0_readParts 12 = .ok (.iconst 5, 1) := by decide +kernel
theorem dX0_readParts_13 : decode cX0_readParts 13 = .ok (.if_icmp .ge 5, 3) := by decide +kernel
theorem dX0_readParts_16 : decode cX0_readParts 16 = .ok (.iconst 0, 1) := by decide +kernel
theorem dX0_readParts_17 : decode cX0_readParts 17 = .ok (.ireturn, 1) := by decide +kernel
theorem dX0_readParts_18 : decode cX0_readParts 18 = .ok (.aload_n 0, 1) := by decide +kernel
theorem dX0_readParts_19 : decode cX0_readParts 19 = .ok (.getfield 15, 3) := by decide +kernel
theorem dX0_readParts_22 : decode cX0_readParts 22 = .ok (.istore 4, 2) := by decide +kernel
theorem dX0_readParts_24 : decode cX0_readParts 24 = .ok (.aload_n 0, 1) := by decide +kernel
theorem dX0_readParts_25 : decode cX0_readParts 25 = .ok (.iconst 4, 1) := by decide +kernel
theorem dX0_readParts_26 : decode cX0_readParts 26 = .ok (.invokevirtual 32, 3) := by decide +kernel
theorem dX0_readParts_29 : decode cX0_readParts 29 = .ok (.l2i, 1) := by decide +kernel
theorem dX0_readParts_30 : decode cX0_readParts 30 = .ok (.istore 5, 2) := by decide +kernel
theorem dX0_readParts_32 : decode cX0_readParts 32 = .ok (.iload 5, 2) := by decide +kernel
theorem dX0_readParts_34 : decode cX0_readParts 34 = .ok (.iconst 5, 1) := by decide +kernel
theorem dX0_readParts_35 : decode cX0_readParts 35 = .ok (.if_icmp .lt 12, 3) := by decide +kernel
theorem dX0_readParts_38 : decode cX0_readParts 38 = .ok (.iload 5, 2) := by decide +kernel
theorem dX0_readParts_40 : decode cX0_readParts 40 = .ok (.iload_n 2, 1) := by decide +kernel
theorem dX0_readParts_41 : decode cX0_readParts 41 = .ok (.iload 4, 2) := by decide +kernel
theorem dX0_readParts_43 : decode cX0_readParts 43 = .ok (.isub, 1) := by decide +kernel
theorem dX0_readParts_44 : decode cX0_readParts 44 = .ok (.if_icmp .le 5, 3) := by decide +kernel
theorem dX0_readParts_47 : decode cX0_readParts 47 = .ok (.iconst 0, 1) := by decide +kernel
theorem dX0_readParts_48 : decode cX0_readParts 48 = .ok (.ireturn, 1) := by decide +kernel
theorem dX0_readParts_49 : decode cX0_readParts 49 = .ok (.iload 4, 2) := by decide +kernel
theorem dX0_readParts_51 : decode cX0_readParts 51 = .ok (.iload 5, 2) := by decide +kernel
theorem dX0_readParts_53 : decode cX0_readParts 53 = .ok (.iadd, 1) := by decide +kernel
theorem dX0_readParts_54 : decode cX0_readParts 54 = .ok (.iconst 1, 1) := by decide +kernel
theorem dX0_readParts_55 : decode cX0_readParts 55 = .ok (.isub, 1) := by decide +kernel
theorem dX0_readParts_56 : decode cX0_readParts 56 = .ok (.istore 6, 2) := by decide +kernel
theorem dX0_readParts_58 : decode cX0_readParts 58 = .ok (.iconst 0, 1) := by decide +kernel
theorem dX0_readParts_59 : decode cX0_readParts 59 = .ok (.istore 7, 2) := by decide +kernel
theorem dX0_readParts_61 : decode cX0_readParts 61 = .ok (.iload 7, 2) := by decide +kernel
theorem dX0_readParts_63 : decode cX0_readParts 63 = .ok (.sipush 2000, 3) := by decide +kernel
theorem dX0_readParts_66 : decode cX0_readParts 66 = .ok (.if_icmp .ge 50, 3) := by decide +kernel
theorem dX0_readParts_69 : decode cX0_readParts 69 = .ok (.aload_n 0, 1) := by decide +kernel
theorem dX0_readParts_70 : decode cX0_readParts 70 = .ok (.getfield 15, 3) := by decide +kernel
theorem dX0_readParts_73 : decode cX0_readParts 73 = .ok (.iload 6, 2) := by decide +kernel
theorem dX0_readParts_75 : decode cX0_readParts 75 = .ok (.if_icmp .ge 41, 3) := by decide +kernel
theorem dX0_readParts_78 : decode cX0_readParts 78 = .ok (.aload_n 0, 1) := by decide +kernel
theorem dX0_readParts_79 : decode cX0_readParts 79 = .ok (.iload 6, 2) := by decide +kernel
theorem dX0_readParts_81 : decode cX0_readParts 81 = .ok (.iload_n 3, 1) := by decide +kernel
theorem dX0_readParts_82 : decode cX0_readParts 82 = .ok (.invokevirtual 36, 3) := by decide +kernel
theorem dX0_readParts_85 : decode cX0_readParts 85 = .ok (.astore 8, 2) := by decide +kernel
theorem dX0_readParts_87 : decode cX0_readParts 87 = .ok (.aload 8, 2) := by decide +kernel
theorem dX0_readParts_89 : decode cX0_readParts 89 = .ok (.ifnull 13, 3) := by decide +kernel
theorem dX0_readParts_92 : decode cX0_readParts 92 = .ok (.aload_n 0, 1) := by decide +kernel
theorem dX0_readParts_93 : decode cX0_readParts 93 = .ok (.aload_n 1, 1) := by decide +kernel
theorem dX0_readParts_94 : decode cX0_readParts 94 = .ok (.aload 8, 2) := by decide +kernel
theorem dX0_readParts_96 : decode cX0_readParts 96 = .ok (.invokevirtual 40, 3) := by decide +kernel
theorem dX0_readParts_99 : decode cX0_readParts 99 = .ok (.ifCond .ne 5, 3) := by decide +kernel
theorem dX0_readParts_102 : decode cX0_readParts 102 = .ok (.iconst 0, 1) := by decide +kernel
theorem dX0_readParts_103 : decode cX0_readParts 103 = .ok (.ireturn, 1) := by decide +kernel
theorem dX0_readParts_104 : decode cX0_readParts 104 = .ok (.aload_n 1, 1) := by decide +kernel
theorem dX0_readParts_105 : decode cX0_readParts 105 = .ok (.aload 8, 2) := by decide +kernel
theorem dX0_readParts_107 : decode cX0_readParts 107 = .ok (.invokevirtual 44, 3) := by decide +kernel
theorem dX0_readParts_110 : decode cX0_readParts 110 = .ok (.iinc 7 1, 3) := by decide +kernel
theorem dX0_readParts_113 : decode cX0_readParts 113 = .ok (.goto (-52), 3) := by decide +kernel
theorem dX0_readParts_116 : decode cX0_readParts 116 = .ok (.aload_n 0, 1) := by decide +kernel
theorem dX0_readParts_117 : decode cX0_readParts 117 = .ok (.getfield 15, 3) := by decide +kernel
theorem dX0_readParts_120 : decode cX0_readParts 120 = .ok (.iload 6, 2) := by decide +kernel
theorem dX0_readParts_122 : decode cX0_readParts 122 = .ok (.if_icmp .ne 15, 3) := by decide +kernel
theorem dX0_readParts_125 : decode cX0_readParts 125 = .ok (.aload_n 0, 1) := by decide +kernel
theorem dX0_readParts_126 : decode cX0_readParts 126 = .ok (.getfield 9, 3) := by decide +kernel
theorem dX0_readParts_129 : decode cX0_readParts 129 = .ok (.iload 6, 2) := by decide +kernel
theorem dX0_readParts_131 : decode cX0_readParts 131 = .ok (.invokevirtual 48, 3) := by decide +kernel
theorem dX0_readParts_134 : decode cX0_readParts 134 = .ok (.ifCond .eq 5, 3) := by decide +kernel
theorem dX0_readParts_137 : decode cX0_readParts 137 = .ok (.iconst 0, 1) := by decide +kernel
theorem dX0_readParts_138 : decode cX0_readParts 138 = .ok (.ireturn, 1) := by decide +kernel
theorem dX0_readParts_139 : decode cX0_readParts 139 = .ok (.aload_n 0, 1) := by decide +kernel
theorem dX0_readParts_140 : decode cX0_readParts 140 = .ok (.iload 6, 2) := by decide +kernel
theorem dX0_readParts_142 : decode cX0_readParts 142 = .ok (.iconst 1, 1) := by decide +kernel
theorem dX0_readParts_143 : decode cX0_readParts 143 = .ok (.iadd, 1) := by decide +kernel
theorem dX0_readParts_144 : decode cX0_readParts 144 = .ok (.putfield 15, 3) := by decide +kernel
theorem dX0_readParts_147 : decode cX0_readParts 147 = .ok (.iconst 1, 1) := by decide +kernel
theorem dX0_readParts_148 : decode cX0_readParts 148 = .ok (.ireturn, 1) := by decide +kernel
theorem dX0_readElement_0 : decode cX0_readElement 0 = .ok (.aload_n 0, 1) := by decide +kernel
theorem dX0_readElement_1 : decode cX0_readElement 1 = .ok (.getfield 15, 3) := by decide +kernel
theorem dX0_readElement_4 : decode cX0_readElement 4 = .ok (.istore_n 3, 1) := by decide +kernel
theorem dX0_readElement_5 : decode cX0_readElement 5 = .ok (.aload_n 0, 1) := by decide +kernel
theorem dX0_readElement_6 : decode cX0_readElement 6 = .ok (.iload_n 3, 1) := by decide +kernel
theorem dX0_readElement_7 : decode cX0_readElement 7 = .ok (.iconst 1, 1) := by decide +kernel
theorem dX0_readElement_8 : decode cX0_readElement 8 = .ok (.iadd, 1) := by decide +kernel
theorem dX0_readElement_9 : decode cX0_readElement 9 = .ok (.iload_n 1, 1) := by decide +kernel
theorem dX0_readElement_10 : decode cX0_readElement 10 = .ok (.invokevirtual 54, 3) := by decide +kernel
theorem dX0_readElement_13 : decode cX0_readElement 13 = .ok (.istore 4, 2) := by decide +kernel
theorem dX0_readElement_15 : decode cX0_readElement 15 = .ok (.iload 4, 2) := by decide +kernel
theorem dX0_readElement_17 : decode cX0_readElement 17 = .ok (.ifCond .lt 15, 3) := by decide +kernel
theorem dX0_readElement_20 : decode cX0_readElement 20 = .ok (.aload_n 0, 1) := by decide +kernel
theorem dX0_readElement_21 : decode cX0_readElement 21 = .ok (.iload_n 3, 1) := by decide +kernel
theorem dX0_readElement_22 : decode cX0_readElement 22 = .ok (.iconst 1, 1) := by decide +kernel
theorem dX0_readElement_23 : decode cX0_readElement 23 = .ok (.iadd, 1) := by decide +kernel
theorem dX0_readElement_24 : decode cX0_readElement 24 = .ok (.iload 4, 2) := by decide +kernel
theorem dX0_readElement_26 : decode cX0_readElement 26 = .ok (.invokevirtual 58, 3) := by decide +kernel
theorem dX0_readElement_29 : decode cX0_readElement 29 = .ok (.ifCond .ne 5, 3) := by decide +kernel
theorem dX0_readElement_32 : decode cX0_readElement 32 = .ok (.aconst_null, 1) := by decide +kernel
theorem dX0_readElement_33 : decode cX0_readElement 33 = .ok (.areturn, 1) := by decide +kernel
theorem dX0_readElement_34 : decode cX0_readElement 34 = .ok (.new 19, 3) := by decide +kernel
theorem dX0_readElement_37 : decode cX0_readElement 37 = .ok (.dup, 1) := by decide +kernel
theorem dX0_readElement_38 : decode cX0_readElement 38 = .ok (.aload_n 0, 1) := by decide +kernel
theorem dX0_readElement_39 : decode cX0_readElement 39 = .ok (.getfield 9, 3) := by decide +kernel
theorem dX0_readElement_42 : decode cX0_readElement 42 = .ok (.iload_n 3, 1) := by decide +kernel
theorem dX0_readElement_43 : decode cX0_readElement 43 = .ok (.invokevirtual 48, 3) := by decide +kernel
theorem dX0_readElement_46 : decode cX0_readElement 46 = .ok (.iload_n 3, 1) := by decide +kernel
theorem dX0_readElement_47 : decode cX0_readElement 47 = .ok (.aload_n 0, 1) := by decide +kernel
theorem dX0_readElement_48 : decode cX0_readElement 48 = .ok (.iload_n 3, 1) := by decide +kernel
theorem dX0_readElement_49 : decode cX0_readElement 49 = .ok (.iconst 1, 1) := by decide +kernel
theorem dX0_readElement_50 : decode cX0_readElement 50 = .ok (.iadd, 1) := by decide +kernel
theorem dX0_readElement_51 : decode cX0_readElement 51 = .ok (.iload 4, 2) := by decide +kernel
theorem dX0_readElement_53 : decode cX0_readElement 53 = .ok (.invokevirtual 62, 3) := by decide +kernel
theorem dX0_readElement_56 : decode cX0_readElement 56 = .ok (.invokespecial 25, 3) := by decide +kernel
theorem dX0_readElement_59 : decode cX0_readElement 59 = .ok (.astore 5, 2) := by decide +kernel
theorem dX0_readElement_61 : decode cX0_readElement 61 = .ok (.aload_n 0, 1) := by decide +kernel
theorem dX0_readElement_62 : decode cX0_readElement 62 = .ok (.iload 4, 2) := by decide +kernel
theorem dX0_readElement_64 : decode cX0_readElement 64 = .ok (.iconst 1, 1) := by decide +kernel
theorem dX0_readElement_65 : decode cX0_readElement 65 = .ok (.iadd, 1) := by decide +kernel
theorem dX0_readElement_66 : decode cX0_readElement 66 = .ok (.putfield 15, 3) := by decide +kernel
theorem dX0_readElement_69 : decode cX0_readElement 69 = .ok (.aload_n 0, 1) := by decide +kernel
theorem dX0_readElement_70 : decode cX0_readElement 70 = .ok (.aload 5, 2) := by decide +kernel
theorem dX0_readElement_72 : decode cX0_readElement 72 = .ok (.iload_n 1, 1) := by decide +kernel
theorem dX0_readElement_73 : decode cX0_readElement 73 = .ok (.iload_n 2, 1) := by decide +kernel
theorem dX0_readElement_74 : decode cX0_readElement 74 = .ok (.invokevirtual 66, 3) := by decide +kernel
theorem dX0_readElement_77 : decode cX0_readElement 77 = .ok (.ifCond .eq 8, 3) := by decide +kernel
theorem dX0_readElement_80 : decode cX0_readElement 80 = .ok (.aload 5, 2) := by decide +kernel
theorem dX0_readElement_82 : decode cX0_readElement 82 = .ok (.goto 4, 3) := by decide +kernel
theorem dX0_readElement_85 : decode cX0_readElement 85 = .ok (.aconst_null, 1) := by decide +kernel
theorem dX0_readElement_86 : decode cX0_readElement 86 = .ok (.areturn, 1) := by decide +kernel
theorem dX0_readValue_0 : decode cX0_readValue 0 = .ok (.aload_n 1, 1) := by decide +kernel
theorem dX0_readValue_1 : decode cX0_readValue 1 = .ok (.getfield 69, 3) := by decide +kernel
theorem dX0_readValue_4 : decode cX0_readValue 4 = .ok (.tableswitch 127 2 18 #[110, 117, 117, 127, 127, 127, 86, 127, 84, 127, 127, 127, 127, 127, 93, 127, 101], 84) := by decide +kernel
theorem dX0_readValue_88 : decode cX0_readValue 88 = .ok (.iconst 1, 1) := by decide +kernel
theorem dX0_readValue_89 : decode cX0_readValue 89 = .ok (.ireturn, 1) := by decide +kernel
theorem dX0_readValue_90 : decode cX0_readValue 90 = .ok (.aload_n 0, 1) := by decide +kernel
theorem dX0_readValue_91 : decode cX0_readValue 91 = .ok (.aload_n 1, 1) := by decide +kernel
theorem dX0_readValue_92 : decode cX0_readValue 92 = .ok (.iload_n 2, 1) := by decide +kernel
theorem dX0_readValue_93 : decode cX0_readValue 93 = .ok (.invokevirtual 72, 3) := by decide +kernel
theorem dX0_readValue_96 : decode cX0_readValue 96 = .ok (.ireturn, 1) := by decide +kernel
theorem dX0_readValue_97 : decode cX0_readValue 97 = .ok (.aload_n 0, 1) := by decide +kernel
theorem dX0_readValue_98 : decode cX0_readValue 98 = .ok (.aload_n 1, 1) := by decide +kernel
theorem dX0_readValue_99 : decode cX0_readValue 99 = .ok (.iconst 4, 1) := by decide +kernel
theorem dX0_readValue_100 : decode cX0_readValue 100 = .ok (.iload_n 2, 1) := by decide +kernel
theorem dX0_readValue_101 : decode cX0_readValue 101 = .ok (.invokevirtual 76, 3) := by decide +kernel
theorem dX0_readValue_104 : decode cX0_readValue 104 = .ok (.ireturn, 1) := by decide +kernel
theorem dX0_readValue_105 : decode cX0_readValue 105 = .ok (.aload_n 0, 1) := by decide +kernel
theorem dX0_readValue_106 : decode cX0_readValue 106 = .ok (.aload_n 1, 1) := by decide +kernel
theorem dX0_readValue_107 : decode cX0_readValue 107 = .ok (.bipush 8, 2) := by decide +kernel
theorem dX0_readValue_109 : decode cX0_readValue 109 = .ok (.iload_n 2, 1) := by decide +kernel
theorem dX0_readValue_110 : decode cX0_readValue 110 = .ok (.invokevirtual 76, 3) := by decide +kernel
theorem dX0_readValue_113 : decode cX0_readValue 113 = .ok (.ireturn, 1) := by decide +kernel
theorem dX0_readValue_114 : decode cX0_readValue 114 = .ok (.aload_n 0, 1) := by decide +kernel
theorem dX0_readValue_115 : decode cX0_readValue 115 = .ok (.aload_n 1, 1) := by decide +kernel
theorem dX0_readValue_116 : decode cX0_readValue 116 = .ok (.iload_n 2, 1) := by decide +kernel
theorem dX0_readValue_117 : decode cX0_readValue 117 = .ok (.invokevirtual 79, 3) := by decide +kernel
theorem dX0_readValue_120 : decode cX0_readValue 120 = .ok (.ireturn, 1) := by decide +kernel
theorem dX0_readValue_121 : decode cX0_readValue 121 = .ok (.aload_n 0, 1) := by decide +kernel
theorem dX0_readValue_122 : decode cX0_readValue 122 = .ok (.aload_n 1, 1) := by decide +kernel
theorem dX0_readValue_123 : decode cX0_readValue 123 = .ok (.iload_n 2, 1) := by decide +kernel
theorem dX0_readValue_124 : decode cX0_readValue 124 = .ok (.iload_n 3, 1) := by decide +kernel
theorem dX0_readValue_125 : decode cX0_readValue 125 = .ok (.iconst 1, 1) := by decide +kernel
theorem dX0_readValue_126 : decode cX0_readValue 126 = .ok (.iadd, 1) := by decide +kernel
theorem dX0_readValue_127 : decode cX0_readValue 127 = .ok (.invokevirtual 28, 3) := by decide +kernel
theorem dX0_readValue_130 : decode cX0_readValue 130 = .ok (.ireturn, 1) := by decide +kernel
theorem dX0_readValue_131 : decode cX0_readValue 131 = .ok (.iconst 0, 1) := by decide +kernel
theorem dX0_readValue_132 : decode cX0_readValue 132 = .ok (.ireturn, 1) := by decide +kernel
theorem dX0_readTruth_0 : decode cX0_readTruth 0 = .ok (.iload_n 2, 1) := by decide +kernel
theorem dX0_readTruth_1 : decode cX0_readTruth 1 = .ok (.aload_n 0, 1) := by decide +kernel
theorem dX0_readTruth_2 : decode cX0_readTruth 2 = .ok (.getfield 15, 3) := by decide +kernel
theorem dX0_readTruth_5 : decode cX0_readTruth 5 = .ok (.isub, 1) := by decide +kernel
theorem dX0_readTruth_6 : decode cX0_readTruth 6 = .ok (.iconst 1, 1) := by decide +kernel
theorem dX0_readTruth_7 : decode cX0_readTruth 7 = .ok (.if_icmp .lt 18, 3) := by decide +kernel
theorem dX0_readTruth_10 : decode cX0_readTruth 10 = .ok (.aload_n 0, 1) := by decide +kernel
theorem dX0_readTruth_11 : decode cX0_readTruth 11 = .ok (.getfield 9, 3) := by decide +kernel
theorem dX0_readTruth_14 : decode cX0_readTruth 14 = .ok (.aload_n 0, 1) := by decide +kernel
theorem dX0_readTruth_15 : decode cX0_readTruth 15 = .ok (.getfield 15, 3) := by decide +kernel
theorem dX0_readTruth_18 : decode cX0_readTruth 18 = .ok (.invokevirtual 48, 3) := by decide +kernel
theorem dX0_readTruth_21 : decode cX0_readTruth 21 = .ok (.iconst 1, 1) := by decide +kernel
theorem dX0_readTruth_22 : decode cX0_readTruth 22 = .ok (.if_icmp .le 5, 3) := by decide +kernel
theorem dX0_readTruth_25 : decode cX0_readTruth 25 = .ok (.iconst 0, 1) := by decide +kernel
theorem dX0_readTruth_26 : decode cX0_readTruth 26 = .ok (.ireturn, 1) := by decide +kernel
theorem dX0_readTruth_27 : decode cX0_readTruth 27 = .ok (.aload_n 1, 1) := by decide +kernel
theorem dX0_readTruth_28 : decode cX0_readTruth 28 = .ok (.aload_n 0, 1) := by decide +kernel
theorem dX0_readTruth_29 : decode cX0_readTruth 29 = .ok (.iconst 1, 1) := by decide +kernel
theorem dX0_readTruth_30 : decode cX0_readTruth 30 = .ok (.invokevirtual 32, 3) := by decide +kernel
theorem dX0_readTruth_33 : decode cX0_readTruth 33 = .ok (.putfield 82, 3) := by decide +kernel
theorem dX0_readTruth_36 : decode cX0_readTruth 36 = .ok (.iconst 1, 1) := by decide +kernel
theorem dX0_readTruth_37 : decode cX0_readTruth 37 = .ok (.ireturn, 1) := by decide +kernel
theorem dX0_readWholeNumber_0 : decode cX0_readWholeNumber 0 = .ok (.iload_n 3, 1) := by decide +kernel
theorem dX0_readWholeNumber_1 : decode cX0_readWholeNumber 1 = .ok (.aload_n 0, 1) := by decide +kernel
theorem dX0_readWholeNumber_2 : decode cX0_readWholeNumber 2 = .ok (.getfield 15, 3) := by decide +kernel
theorem dX0_readWholeNumber_5 : decode cX0_readWholeNumber 5 = .ok (.isub, 1) := by decide +kernel
theorem dX0_readWholeNumber_6 : decode cX0_readWholeNumber 6 = .ok (.iload_n 2, 1) := by decide +kernel
theorem dX0_readWholeNumber_7 : decode cX0_readWholeNumber 7 = .ok (.if_icmp .ge 5, 3) := by decide +kernel
theorem dX0_readWholeNumber_10 : decode cX0_readWholeNumber 10 = .ok (.iconst 0, 1) := by decide +kernel
theorem dX0_readWholeNumber_11 : decode cX0_readWholeNumber 11 = .ok (.ireturn, 1) := by decide +kernel
theorem dX0_readWholeNumber_12 : decode cX0_readWholeNumber 12 = .ok (.aload_n 0, 1) := by decide +kernel
theorem dX0_readWholeNumber_13 : decode cX0_readWholeNumber 13 = .ok (.iload_n 2, 1) := by decide +kernel
theorem dX0_readWholeNumber_14 : decode cX0_readWholeNumber 14 = .ok (.invokevirtual 32, 3) := by decide +kernel
theorem dX0_readWholeNumber_17 : decode cX0_readWholeNumber 17 = .ok (.lstore 4, 2) := by decide +kernel
theorem dX0_readWholeNumber_19 : decode cX0_readWholeNumber 19 = .ok (.aload_n 1, 1) := by decide +kernel
theorem dX0_readWholeNumber_20 : decode cX0_readWholeNumber 20 = .ok (.iload_n 2, 1) := by decide +kernel
theorem dX0_readWholeNumber_21 : decode cX0_readWholeNumber 21 = .ok (.iconst 4, 1) := by decide +kernel
theorem dX0_readWholeNumber_22 : decode cX0_readWholeNumber 22 = .ok (.if_icmp .ne 10, 3) := by decide +kernel
theorem dX0_readWholeNumber_25 : decode cX0_readWholeNumber 25 = .ok (.lload 4, 2) := by decide +kernel
theorem dX0_readWholeNumber_27 : decode cX0_readWholeNumber 27 = .ok (.l2i, 1) := by decide +kernel
theorem dX0_readWholeNumber_28 : decode cX0_readWholeNumber 28 = .ok (.i2l, 1) := by decide +kernel
theorem dX0_readWholeNumber_29 : decode cX0_readWholeNumber 29 = .ok (.goto 5, 3) := by decide +kernel
theorem dX0_readWholeNumber_32 : decode cX0_readWholeNumber 32 = .ok (.lload 4, 2) := by decide +kernel
theorem dX0_readWholeNumber_34 : decode cX0_readWholeNumber 34 = .ok (.putfield 82, 3) := by decide +kernel
theorem dX0_readWholeNumber_37 : decode cX0_readWholeNumber 37 = .ok (.iconst 1, 1) := by decide +kernel
theorem dX0_readWholeNumber_38 : decode cX0_readWholeNumber 38 = .ok (.ireturn, 1) := by decide +kernel
theorem dX0_readText_0 : decode cX0_readText 0 = .ok (.iload_n 2, 1) := by decide +kernel
theorem dX0_readText_1 : decode cX0_readText 1 = .ok (.aload_n 0, 1) := by decide +kernel
theorem dX0_readText_2 : decode cX0_readText 2 = .ok (.getfield 15, 3) := by decide +kernel
theorem dX0_readText_5 : decode cX0_readText 5 = .ok (.isub, 1) := by decide +kernel
theorem dX0_readText_6 : decode cX0_readText 6 = .ok (.iconst 4, 1) := by decide +kernel
theorem dX0_readText_7 : decode cX0_readText 7 = .ok (.if_icmp .ge 5, 3) := by decide +kernel
theorem dX0_readText_10 : decode cX0_readText 10 = .ok (.iconst 0, 1) := by decide +kernel
theorem dX0_readText_11 : decode cX0_readText 11 = .ok (.ireturn, 1) := by decide +kernel
theorem dX0_readText_12 : decode cX0_readText 12 = .ok (.aload_n 0, 1) := by decide +kernel
theorem dX0_readText_13 : decode cX0_readText 13 = .ok (.iconst 4, 1) := by decide +kernel
theorem dX0_readText_14 : decode cX0_readText 14 = .ok (.invokevirtual 32, 3) := by decide +kernel
theorem dX0_readText_17 : decode cX0_readText 17 = .ok (.l2i, 1) := by decide +kernel
theorem dX0_readText_18 : decode cX0_readText 18 = .ok (.istore_n 3, 1) := by decide +kernel
theorem dX0_readText_19 : decode cX0_readText 19 = .ok (.iload_n 3, 1) := by decide +kernel
theorem dX0_readText_20 : decode cX0_readText 20 = .ok (.iconst 1, 1) := by decide +kernel
theorem dX0_readText_21 : decode cX0_readText 21 = .ok (.if_icmp .lt 13, 3) := by decide +kernel
theorem dX0_readText_24 : decode cX0_readText 24 = .ok (.iload_n 3, 1) := by decide +kernel
theorem dX0_readText_25 : decode cX0_readText 25 = .ok (.iload_n 2, 1) := by decide +kernel
theorem dX0_readText_26 : decode cX0_readText 26 = .ok (.aload_n 0, 1) := by decide +kernel
theorem dX0_readText_27 : decode cX0_readText 27 = .ok (.getfield 15, 3) := by decide +kernel
theorem dX0_readText_30 : decode cX0_readText 30 = .ok (.isub, 1) := by decide +kernel
theorem dX0_readText_31 : decode cX0_readText 31 = .ok (.if_icmp .le 5, 3) := by decide +kernel
theorem dX0_readText_34 : decode cX0_readText 34 = .ok (.iconst 0, 1) := by decide +kernel
theorem dX0_readText_35 : decode cX0_readText 35 = .ok (.ireturn, 1) := by decide +kernel
theorem dX0_readText_36 : decode cX0_readText 36 = .ok (.aload_n 0, 1) := by decide +kernel
theorem dX0_readText_37 : decode cX0_readText 37 = .ok (.getfield 15, 3) := by decide +kernel
theorem dX0_readText_40 : decode cX0_readText 40 = .ok (.iload_n 3, 1) := by decide +kernel
theorem dX0_readText_41 : decode cX0_readText 41 = .ok (.iadd, 1) := by decide +kernel
theorem dX0_readText_42 : decode cX0_readText 42 = .ok (.iconst 1, 1) := by decide +kernel
theorem dX0_readText_43 : decode cX0_readText 43 = .ok (.isub, 1) := by decide +kernel
theorem dX0_readText_44 : decode cX0_readText 44 = .ok (.istore 4, 2) := by decide +kernel
theorem dX0_readText_46 : decode cX0_readText 46 = .ok (.aload_n 0, 1) := by decide +kernel
theorem dX0_readText_47 : decode cX0_readText 47 = .ok (.getfield 9, 3) := by decide +kernel
theorem dX0_readText_50 : decode cX0_readText 50 = .ok (.iload 4, 2) := by decide +kernel
theorem dX0_readText_52 : decode cX0_readText 52 = .ok (.invokevirtual 48, 3) := by decide +kernel
theorem dX0_readText_55 : decode cX0_readText 55 = .ok (.ifCond .ne 16, 3) := by decide +kernel
theorem dX0_readText_58 : decode cX0_readText 58 = .ok (.aload_n 0, 1) := by decide +kernel
theorem dX0_readText_59 : decode cX0_readText 59 = .ok (.aload_n 0, 1) := by decide +kernel
theorem dX0_readText_60 : decode cX0_readText 60 = .ok (.getfield 15, 3) := by decide +kernel
theorem dX0_readText_63 : decode cX0_readText 63 = .ok (.iload 4, 2) := by decide +kernel
theorem dX0_readText_65 : decode cX0_readText 65 = .ok (.invokevirtual 58, 3) := by decide +kernel
theorem dX0_readText_68 : decode cX0_readText 68 = .ok (.ifCond .ne 5, 3) := by decide +kernel
theorem dX0_readText_71 : decode cX0_readText 71 = .ok (.iconst 0, 1) := by decide +kernel
theorem dX0_readText_72 : decode cX0_readText 72 = .ok (.ireturn, 1) := by decide +kernel
theorem dX0_readText_73 : decode cX0_readText 73 = .ok (.aload_n 1, 1) := by decide +kernel
theorem dX0_readText_74 : decode cX0_readText 74 = .ok (.aload_n 0, 1) := by decide +kernel
theorem dX0_readText_75 : decode cX0_readText 75 = .ok (.aload_n 0, 1) := by decide +kernel
theorem dX0_readText_76 : decode cX0_readText 76 = .ok (.getfield 15, 3) := by decide +kernel
theorem dX0_readText_79 : decode cX0_readText 79 = .ok (.iload 4, 2) := by decide +kernel
theorem dX0_readText_81 : decode cX0_readText 81 = .ok (.invokevirtual 62, 3) := by decide +kernel
theorem dX0_readText_84 : decode cX0_readText 84 = .ok (.putfield 86, 3) := by decide +kernel
theorem dX0_readText_87 : decode cX0_readText 87 = .ok (.aload_n 0, 1) := by decide +kernel
theorem dX0_readText_88 : decode cX0_readText 88 = .ok (.iload 4, 2) := by decide +kernel
theorem dX0_readText_90 : decode cX0_readText 90 = .ok (.iconst 1, 1) := by decide +kernel
theorem dX0_readText_91 : decode cX0_readText 91 = .ok (.iadd, 1) := by decide +kernel
theorem dX0_readText_92 : decode cX0_readText 92 = .ok (.putfield 15, 3) := by decide +kernel
theorem dX0_readText_95 : decode cX0_readText 95 = .ok (.iconst 1, 1) := by decide +kernel
theorem dX0_readText_96 : decode cX0_readText 96 = .ok (.ireturn, 1) := by decide +kernel
theorem dX0_readNumber_0 : decode cX0_readNumber 0 = .ok (.lconst 0, 1) := by decide +kernel
theorem dX0_readNumber_1 : decode cX0_readNumber 1 = .ok (.lstore_n 2, 1) := by decide +kernel
theorem dX0_readNumber_2 : decode cX0_readNumber 2 = .ok (.iconst 0, 1) := by decide +kernel
theorem dX0_readNumber_3 : decode cX0_readNumber 3 = .ok (.istore 4, 2) := by decide +kernel
theorem dX0_readNumber_5 : decode cX0_readNumber 5 = .ok (.iload 4, 2) := by decide +kernel
theorem dX0_readNumber_7 : decode cX0_readNumber 7 = .ok (.iload_n 1, 1) := by decide +kernel
theorem dX0_readNumber_8 : decode cX0_readNumber 8 = .ok (.if_icmp .ge 40, 3) := by decide +kernel
theorem dX0_readNumber_11 : decode cX0_readNumber 11 = .ok (.lload_n 2, 1) := by decide +kernel
theorem dX0_readNumber_12 : decode cX0_readNumber 12 = .ok (.aload_n 0, 1) := by decide +kernel
theorem dX0_readNumber_13 : decode cX0_readNumber 13 = .ok (.getfield 9, 3) := by decide +kernel
theorem dX0_readNumber_16 : decode cX0_readNumber 16 = .ok (.aload_n 0, 1) := by decide +kernel
theorem dX0_readNumber_17 : decode cX0_readNumber 17 = .ok (.getfield 15, 3) := by decide +kernel
theorem dX0_readNumber_20 : decode cX0_readNumber 20 = .ok (.invokevirtual 48, 3) := by decide +kernel
theorem dX0_readNumber_23 : decode cX0_readNumber 23 = .ok (.i2l, 1) := by decide +kernel
theorem dX0_readNumber_24 : decode cX0_readNumber 24 = .ok (.bipush 8, 2) := by decide +kernel
theorem dX0_readNumber_26 : decode cX0_readNumber 26 = .ok (.iload 4, 2) := by decide +kernel
theorem dX0_readNumber_28 : decode cX0_readNumber 28 = .ok (.imul, 1) := by decide +kernel
theorem dX0_readNumber_29 : decode cX0_readNumber 29 = .ok (.lshl, 1) := by decide +kernel
theorem dX0_readNumber_30 : decode cX0_readNumber 30 = .ok (.lor, 1) := by decide +kernel
theorem dX0_readNumber_31 : decode cX0_readNumber 31 = .ok (.lstore_n 2, 1) := by decide +kernel
theorem dX0_readNumber_32 : decode cX0_readNumber 32 = .ok (.aload_n 0, 1) := by decide +kernel
theorem dX0_readNumber_33 : decode cX0_readNumber 33 = .ok (.dup, 1) := by decide +kernel
theorem dX0_readNumber_34 : decode cX0_readNumber 34 = .ok (.getfield 15, 3) := by decide +kernel
theorem dX0_readNumber_37 : decode cX0_readNumber 37 = .ok (.iconst 1, 1) := by decide +kernel
theorem dX0_readNumber_38 : decode cX0_readNumber 38 = .ok (.iadd, 1) := by decide +kernel
theorem dX0_readNumber_39 : decode cX0_readNumber 39 = .ok (.putfield 15, 3) := by decide +kernel
theorem dX0_readNumber_42 : decode cX0_readNumber 42 = .ok (.iinc 4 1, 3) := by decide +kernel
theorem dX0_readNumber_45 : decode cX0_readNumber 45 = .ok (.goto (-40), 3) := by decide +kernel
theorem dX0_readNumber_48 : decode cX0_readNumber 48 = .ok (.lload_n 2, 1) := by decide +kernel
theorem dX0_readNumber_49 : decode cX0_readNumber 49 = .ok (.lreturn, 1) := by decide +kernel
theorem dX0_mayFollow_0 : decode cX0_mayFollow 0 = .ok (.aload_n 1, 1) := by decide +kernel
theorem dX0_mayFollow_1 : decode cX0_mayFollow 1 = .ok (.getfield 69, 3) := by decide +kernel
theorem dX0_mayFollow_4 : decode cX0_mayFollow 4 = .ok (.iconst 4, 1) := by decide +kernel
theorem dX0_mayFollow_5 : decode cX0_mayFollow 5 = .ok (.if_icmp .ne 16, 3) := by decide +kernel
theorem dX0_mayFollow_8 : decode cX0_mayFollow 8 = .ok (.aload_n 0, 1) := by decide +kernel
theorem dX0_mayFollow_9 : decode cX0_mayFollow 9 = .ok (.aload_n 2, 1) := by decide +kernel
theorem dX0_mayFollow_10 : decode cX0_mayFollow 10 = .ok (.getfield 90, 3) := by decide +kernel
theorem dX0_mayFollow_13 : decode cX0_mayFollow 13 = .ok (.aload_n 1, 1) := by decide +kernel
theorem dX0_mayFollow_14 : decode cX0_mayFollow 14 = .ok (.getfield 93, 3) := by decide +kernel
theorem dX0_mayFollow_17 : decode cX0_mayFollow 17 = .ok (.invokevirtual 96, 3) := by decide +kernel
theorem dX0_mayFollow_20 : decode cX0_mayFollow 20 = .ok (.ireturn, 1) := by decide +kernel
theorem dX0_mayFollow_21 : decode cX0_mayFollow 21 = .ok (.aload_n 1, 1) := by decide +kernel
theorem dX0_mayFollow_22 : decode cX0_mayFollow 22 = .ok (.aload_n 2, 1) := by decide +kernel
theorem dX0_mayFollow_23 : decode cX0_mayFollow 23 = .ok (.getfield 90, 3) := by decide +kernel
theorem dX0_mayFollow_26 : decode cX0_mayFollow 26 = .ok (.invokevirtual 100, 3) := by decide +kernel
theorem dX0_mayFollow_29 : decode cX0_mayFollow 29 = .ok (.ifnonnull 7, 3) := by decide +kernel
theorem dX0_mayFollow_32 : decode cX0_mayFollow 32 = .ok (.iconst 1, 1) := by decide +kernel
theorem dX0_mayFollow_33 : decode cX0_mayFollow 33 = .ok (.goto 4, 3) := by decide +kernel
theorem dX0_mayFollow_36 : decode cX0_mayFollow 36 = .ok (.iconst 0, 1) := by decide +kernel
theorem dX0_mayFollow_37 : decode cX0_mayFollow 37 = .ok (.ireturn, 1) := by decide +kernel
theorem dX0_isDecimal_0 : decode cX0_isDecimal 0 = .ok (.iload_n 2, 1) := by decide +kernel
theorem dX0_isDecimal_1 : decode cX0_isDecimal 1 = .ok (.istore_n 3, 1) := by decide +kernel
theorem dX0_isDecimal_2 : decode cX0_isDecimal 2 = .ok (.aload_n 1, 1) := by decide +kernel
theorem dX0_isDecimal_3 : decode cX0_isDecimal 3 = .ok (.invokevirtual 104, 3) := by decide +kernel
theorem dX0_isDecimal_6 : decode cX0_isDecimal 6 = .ok (.iconst 1, 1) := by decide +kernel
theorem dX0_isDecimal_7 : decode cX0_isDecimal 7 = .ok (.isub, 1) := by decide +kernel
theorem dX0_isDecimal_8 : decode cX0_isDecimal 8 = .ok (.istore 4, 2) := by decide +kernel
theorem dX0_isDecimal_10 : decode cX0_isDecimal 10 = .ok (.iload 4, 2) := by decide +kernel
theorem dX0_isDecimal_12 : decode cX0_isDecimal 12 = .ok (.ifCond .lt 49, 3) := by decide +kernel
theorem dX0_isDecimal_15 : decode cX0_isDecimal 15 = .ok (.aload_n 1, 1) := by decide +kernel
theorem dX0_isDecimal_16 : decode cX0_isDecimal 16 = .ok (.iload 4, 2) := by decide +kernel
theorem dX0_isDecimal_18 : decode cX0_isDecimal 18 = .ok (.invokevirtual 110, 3) := by decide +kernel
theorem dX0_isDecimal_21 : decode cX0_isDecimal 21 = .ok (.bipush 48, 2) := by decide +kernel
theorem dX0_isDecimal_23 : decode cX0_isDecimal 23 = .ok (.iload_n 3, 1) := by decide +kernel
theorem dX0_isDecimal_24 : decode cX0_isDecimal 24 = .ok (.bipush 10, 2) := by decide +kernel
theorem dX0_isDecimal_26 : decode cX0_isDecimal 26 = .ok (.irem, 1) := by decide +kernel
theorem dX0_isDecimal_27 : decode cX0_isDecimal 27 = .ok (.iadd, 1) := by decide +kernel
theorem dX0_isDecimal_28 : decode cX0_isDecimal 28 = .ok (.if_icmp .eq 5, 3) := by decide +kernel
theorem dX0_isDecimal_31 : decode cX0_isDecimal 31 = .ok (.iconst 0, 1) := by decide +kernel
theorem dX0_isDecimal_32 : decode cX0_isDecimal 32 = .ok (.ireturn, 1) := by decide +kernel
theorem dX0_isDecimal_33 : decode cX0_isDecimal 33 = .ok (.iload_n 3, 1) := by decide +kernel
theorem dX0_isDecimal_34 : decode cX0_isDecimal 34 = .ok (.bipush 10, 2) := by decide +kernel
theorem dX0_isDecimal_36 : decode cX0_isDecimal 36 = .ok (.if_icmp .ge 14, 3) := by decide +kernel
theorem dX0_isDecimal_39 : decode cX0_isDecimal 39 = .ok (.iload 4, 2) := by decide +kernel
theorem dX0_isDecimal_41 : decode cX0_isDecimal 41 = .ok (.ifCond .ne 7, 3) := by decide +kernel
theorem dX0_isDecimal_44 : decode cX0_isDecimal 44 = .ok (.iconst 1, 1) := by decide +kernel
theorem dX0_isDecimal_45 : decode cX0_isDecimal 45 = .ok (.goto 4, 3) := by decide +kernel
theorem dX0_isDecimal_48 : decode cX0_isDecimal 48 = .ok (.iconst 0, 1) := by decide +kernel
theorem dX0_isDecimal_49 : decode cX0_isDecimal 49 = .ok (.ireturn, 1) := by decide +kernel
theorem dX0_isDecimal_50 : decode cX0_isDecimal 50 = .ok (.iload_n 3, 1) := by decide +kernel
theorem dX0_isDecimal_51 : decode cX0_isDecimal 51 = .ok (.bipush 10, 2) := by decide +kernel
theorem dX0_isDecimal_53 : decode cX0_isDecimal 53 = .ok (.idiv, 1) := by decide +kernel
theorem dX0_isDecimal_54 : decode cX0_isDecimal 54 = .ok (.istore_n 3, 1) := by decide +kernel
theorem dX0_isDecimal_55 : decode cX0_isDecimal 55 = .ok (.iinc 4 (-1), 3) := by decide +kernel
theorem dX0_isDecimal_58 : decode cX0_isDecimal 58 = .ok (.goto (-48), 3) := by decide +kernel
theorem dX0_isDecimal_61 : decode cX0_isDecimal 61 = .ok (.iconst 0, 1) := by decide +kernel
theorem dX0_isDecimal_62 : decode cX0_isDecimal 62 = .ok (.ireturn, 1) := by decide +kernel
theorem dX0_zeroFrom_0 : decode cX0_zeroFrom 0 = .ok (.iload_n 1, 1) := by decide +kernel
theorem dX0_zeroFrom_1 : decode cX0_zeroFrom 1 = .ok (.istore_n 3, 1) := by decide +kernel
theorem dX0_zeroFrom_2 : decode cX0_zeroFrom 2 = .ok (.iload_n 3, 1) := by decide +kernel
theorem dX0_zeroFrom_3 : decode cX0_zeroFrom 3 = .ok (.iload_n 2, 1) := by decide +kernel
theorem dX0_zeroFrom_4 : decode cX0_zeroFrom 4 = .ok (.if_icmp .ge 22, 3) := by decide +kernel
theorem dX0_zeroFrom_7 : decode cX0_zeroFrom 7 = .ok (.aload_n 0, 1) := by decide +kernel
theorem dX0_zeroFrom_8 : decode cX0_zeroFrom 8 = .ok (.getfield 9, 3) := by decide +kernel
theorem dX0_zeroFrom_11 : decode cX0_zeroFrom 11 = .ok (.iload_n 3, 1) := by decide +kernel
theorem dX0_zeroFrom_12 : decode cX0_zeroFrom 12 = .ok (.invokevirtual 48, 3) := by decide +kernel
theorem dX0_zeroFrom_15 : decode cX0_zeroFrom 15 = .ok (.ifCond .ne 5, 3) := by decide +kernel
theorem dX0_zeroFrom_18 : decode cX0_zeroFrom 18 = .ok (.iload_n 3, 1) := by decide +kernel
theorem dX0_zeroFrom_19 : decode cX0_zeroFrom 19 = .ok (.ireturn, 1) := by decide +kernel
theorem dX0_zeroFrom_20 : decode cX0_zeroFrom 20 = .ok (.iinc 3 1, 3) := by decide +kernel
theorem dX0_zeroFrom_23 : decode cX0_zeroFrom 23 = .ok (.goto (-21), 3) := by decide +kernel
theorem dX0_zeroFrom_26 : decode cX0_zeroFrom 26 = .ok (.iconst (-1), 1) := by decide +kernel
theorem dX0_zeroFrom_27 : decode cX0_zeroFrom 27 = .ok (.ireturn, 1) := by decide +kernel
theorem dX0_textOf_0 : decode cX0_textOf 0 = .ok (.iload_n 1, 1) := by decide +kernel
theorem dX0_textOf_1 : decode cX0_textOf 1 = .ok (.iload_n 2, 1) := by decide +kernel
theorem dX0_textOf_2 : decode cX0_textOf 2 = .ok (.if_icmp .lt 6, 3) := by decide +kernel
theorem dX0_textOf_5 : decode cX0_textOf 5 = .ok (.ldc 23, 2) := by decide +kernel
theorem dX0_textOf_7 : decode cX0_textOf 7 = .ok (.areturn, 1) := by decide +kernel
theorem dX0_textOf_8 : decode cX0_textOf 8 = .ok (.iload_n 2, 1) := by decide +kernel
theorem dX0_textOf_9 : decode cX0_textOf 9 = .ok (.iload_n 1, 1) := by decide +kernel
theorem dX0_textOf_10 : decode cX0_textOf 10 = .ok (.isub, 1) := by decide +kernel
theorem dX0_textOf_11 : decode cX0_textOf 11 = .ok (.newarray .char, 2) := by decide +kernel
theorem dX0_textOf_13 : decode cX0_textOf 13 = .ok (.astore_n 3, 1) := by decide +kernel
theorem dX0_textOf_14 : decode cX0_textOf 14 = .ok (.iconst 0, 1) := by decide +kernel
theorem dX0_textOf_15 : decode cX0_textOf 15 = .ok (.istore 4, 2) := by decide +kernel
theorem dX0_textOf_17 : decode cX0_textOf 17 = .ok (.iload 4, 2) := by decide +kernel
theorem dX0_textOf_19 : decode cX0_textOf 19 = .ok (.aload_n 3, 1) := by decide +kernel
theorem dX0_textOf_20 : decode cX0_textOf 20 = .ok (.arraylength, 1) := by decide +kernel
theorem dX0_textOf_21 : decode cX0_textOf 21 = .ok (.if_icmp .ge 25, 3) := by decide +kernel
theorem dX0_textOf_24 : decode cX0_textOf 24 = .ok (.aload_n 3, 1) := by decide +kernel
theorem dX0_textOf_25 : decode cX0_textOf 25 = .ok (.iload 4, 2) := by decide +kernel
theorem dX0_textOf_27 : decode cX0_textOf 27 = .ok (.aload_n 0, 1) := by decide +kernel
theorem dX0_textOf_28 : decode cX0_textOf 28 = .ok (.getfield 9, 3) := by decide +kernel
theorem dX0_textOf_31 : decode cX0_textOf 31 = .ok (.iload_n 1, 1) := by decide +kernel
theorem dX0_textOf_32 : decode cX0_textOf 32 = .ok (.iload 4, 2) := by decide +kernel
theorem dX0_textOf_34 : decode cX0_textOf 34 = .ok (.iadd, 1) := by decide +kernel
theorem dX0_textOf_35 : decode cX0_textOf 35 = .ok (.invokevirtual 48, 3) := by decide +kernel
theorem dX0_textOf_38 : decode cX0_textOf 38 = .ok (.i2c, 1) := by decide +kernel
theorem dX0_textOf_39 : decode cX0_textOf 39 = .ok (.castore, 1) := by decide +kernel
theorem dX0_textOf_40 : decode cX0_textOf 40 = .ok (.iinc 4 1, 3) := by decide +kernel
theorem dX0_textOf_43 : decode cX0_textOf 43 = .ok (.goto (-26), 3) := by decide +kernel
theorem dX0_textOf_46 : decode cX0_textOf 46 = .ok (.new 105, 3) := by decide +kernel
theorem dX0_textOf_49 : decode cX0_textOf 49 = .ok (.dup, 1) := by decide +kernel
theorem dX0_textOf_50 : decode cX0_textOf 50 = .ok (.aload_n 3, 1) := by decide +kernel
theorem dX0_textOf_51 : decode cX0_textOf 51 = .ok (.invokespecial 114, 3) := by decide +kernel
theorem dX0_textOf_54 : decode cX0_textOf 54 = .ok (.areturn, 1) := by decide +kernel
theorem dX0_isRightUtf8_0 : decode cX0_isRightUtf8 0 = .ok (.iconst 0, 1) := by decide +kernel
theorem dX0_isRightUtf8_1 : decode cX0_isRightUtf8 1 = .ok (.istore_n 3, 1) := by decide +kernel
theorem dX0_isRightUtf8_2 : decode cX0_isRightUtf8 2 = .ok (.iconst 0, 1) := by decide +kernel
theorem dX0_isRightUtf8_3 : decode cX0_isRightUtf8 3 = .ok (.istore 4, 2) := by decide +kernel
theorem dX0_isRightUtf8_5 : decode cX0_isRightUtf8 5 = .ok (.iconst 0, 1) := by decide +kernel
theorem dX0_isRightUtf8_6 : decode cX0_isRightUtf8 6 = .ok (.istore 5, 2) := by decide +kernel
theorem dX0_isRightUtf8_8 : decode cX0_isRightUtf8 8 = .ok (.iload_n 1, 1) := by decide +kernel
theorem dX0_isRightUtf8_9 : decode cX0_isRightUtf8 9 = .ok (.istore 6, 2) := by decide +kernel
theorem dX0_isRightUtf8_11 : decode cX0_isRightUtf8 11 = .ok (.iload 6, 2) := by decide +kernel
theorem dX0_isRightUtf8_13 : decode cX0_isRightUtf8 13 = .ok (.iload_n 2, 1) := by decide +kernel
theorem dX0_isRightUtf8_14 : decode cX0_isRightUtf8 14 = .ok (.if_icmp .ge 108, 3) := by decide +kernel
theorem dX0_isRightUtf8_17 : decode cX0_isRightUtf8 17 = .ok (.aload_n 0, 1) := by decide +kernel
theorem dX0_isRightUtf8_18 : decode cX0_isRightUtf8 18 = .ok (.getfield 9, 3) := by decide +kernel
theorem dX0_isRightUtf8_21 : decode cX0_isRightUtf8 21 = .ok (.iload 6, 2) := by decide +kernel
theorem dX0_isRightUtf8_23 : decode cX0_isRightUtf8 23 = .ok (.invokevirtual 48, 3) := by decide +kernel
theorem dX0_isRightUtf8_26 : decode cX0_isRightUtf8 26 = .ok (.istore 7, 2) := by decide +kernel
theorem dX0_isRightUtf8_28 : decode cX0_isRightUtf8 28 = .ok (.iload 5, 2) := by decide +kernel
theorem dX0_isRightUtf8_30 : decode cX0_isRightUtf8 30 = .ok (.ifCond .ne 31, 3) := by decide +kernel
theorem dX0_isRightUtf8_33 : decode cX0_isRightUtf8 33 = .ok (.aload_n 0, 1) := by decide +kernel
theorem dX0_isRightUtf8_34 : decode cX0_isRightUtf8 34 = .ok (.iload 7, 2) := by decide +kernel
theorem dX0_isRightUtf8_36 : decode cX0_isRightUtf8 36 = .ok (.invokevirtual 117, 3) := by decide +kernel
theorem dX0_isRightUtf8_39 : decode cX0_isRightUtf8 39 = .ok (.istore 5, 2) := by decide +kernel
theorem dX0_isRightUtf8_41 : decode cX0_isRightUtf8 41 = .ok (.aload_n 0, 1) := by decide +kernel
theorem dX0_isRightUtf8_42 : decode cX0_isRightUtf8 42 = .ok (.iload 7, 2) := by decide +kernel
theorem dX0_isRightUtf8_44 : decode cX0_isRightUtf8 44 = .ok (.iload 5, 2) := by decide +kernel
theorem dX0_isRightUtf8_46 : decode cX0_isRightUtf8 46 = .ok (.invokevirtual 120, 3) := by decide +kernel
theorem dX0_isRightUtf8_49 : decode cX0_isRightUtf8 49 = .ok (.istore_n 3, 1) := by decide +kernel
theorem dX0_isRightUtf8_50 : decode cX0_isRightUtf8 50 = .ok (.aload_n 0, 1) := by decide +kernel
theorem dX0_isRightUtf8_51 : decode cX0_isRightUtf8 51 = .ok (.iload 5, 2) := by decide +kernel
theorem dX0_isRightUtf8_53 : decode cX0_isRightUtf8 53 = .ok (.invokevirtual 123, 3) := by decide +kernel
theorem dX0_isRightUtf8_56 : decode cX0_isRightUtf8 56 = .ok (.istore 4, 2) := by decide +kernel
theorem dX0_isRightUtf8_58 : decode cX0_isRightUtf8 58 = .ok (.goto 36, 3) := by decide +kernel
theorem dX0_isRightUtf8_61 : decode cX0_isRightUtf8 61 = .ok (.iload 7, 2) := by decide +kernel
theorem dX0_isRightUtf8_63 : decode cX0_isRightUtf8 63 = .ok (.sipush 192, 3) := by decide +kernel
theorem dX0_isRightUtf8_66 : decode cX0_isRightUtf8 66 = .ok (.iand, 1) := by decide +kernel
theorem dX0_isRightUtf8_67 : decode cX0_isRightUtf8 67 = .ok (.sipush 128, 3) := by decide +kernel
theorem dX0_isRightUtf8_70 : decode cX0_isRightUtf8 70 = .ok (.if_icmp .ne 10, 3) := by decide +kernel
theorem dX0_isRightUtf8_73 : decode cX0_isRightUtf8 73 = .ok (.iload 5, 2) := by decide +kernel
theorem dX0_isRightUtf8_75 : decode cX0_isRightUtf8 75 = .ok (.iconst 1, 1) := by decide +kernel
theorem dX0_isRightUtf8_76 : decode cX0_isRightUtf8 76 = .ok (.isub, 1) := by decide +kernel
theorem dX0_isRightUtf8_77 : decode cX0_isRightUtf8 77 = .ok (.goto 4, 3) := by decide +kernel
theorem dX0_isRightUtf8_80 : decode cX0_isRightUtf8 80 = .ok (.iconst (-1), 1) := by decide +kernel
theorem dX0_isRightUtf8_81 : decode cX0_isRightUtf8 81 = .ok (.istore 5, 2) := by decide +kernel
theorem dX0_isRightUtf8_83 : decode cX0_isRightUtf8 83 = .ok (.iload_n 3, 1) := by decide +kernel
theorem dX0_isRightUtf8_84 : decode cX0_isRightUtf8 84 = .ok (.bipush 6, 2) := by decide +kernel
theorem dX0_isRightUtf8_86 : decode cX0_isRightUtf8 86 = .ok (.ishl, 1) := by decide +kernel
theorem dX0_isRightUtf8_87 : decode cX0_isRightUtf8 87 = .ok (.iload 7, 2) := by decide +kernel
theorem dX0_isRightUtf8_89 : decode cX0_isRightUtf8 89 = .ok (.bipush 63, 2) := by decide +kernel
theorem dX0_isRightUtf8_91 : decode cX0_isRightUtf8 91 = .ok (.iand, 1) := by decide +kernel
theorem dX0_isRightUtf8_92 : decode cX0_isRightUtf8 92 = .ok (.ior, 1) := by decide +kernel
theorem dX0_isRightUtf8_93 : decode cX0_isRightUtf8 93 = .ok (.istore_n 3, 1) := by decide +kernel
theorem dX0_isRightUtf8_94 : decode cX0_isRightUtf8 94 = .ok (.iload 5, 2) := by decide +kernel
theorem dX0_isRightUtf8_96 : decode cX0_isRightUtf8 96 = .ok (.ifCond .lt 18, 3) := by decide +kernel
theorem dX0_isRightUtf8_99 : decode cX0_isRightUtf8 99 = .ok (.iload 5, 2) := by decide +kernel
theorem dX0_isRightUtf8_101 : decode cX0_isRightUtf8 101 = .ok (.ifCond .ne 15, 3) := by decide +kernel
theorem dX0_isRightUtf8_104 : decode cX0_isRightUtf8 104 = .ok (.aload_n 0, 1) := by decide +kernel
theorem dX0_isRightUtf8_105 : decode cX0_isRightUtf8 105 = .ok (.iload_n 3, 1) := by decide +kernel
theorem dX0_isRightUtf8_106 : decode cX0_isRightUtf8 106 = .ok (.iload 4, 2) := by decide +kernel
theorem dX0_isRightUtf8_108 : decode cX0_isRightUtf8 108 = .ok (.invokevirtual 126, 3) := by decide +kernel
theorem dX0_isRightUtf8_111 : decode cX0_isRightUtf8 111 = .ok (.ifCond .ne 5, 3) := by decide +kernel
theorem dX0_isRightUtf8_114 : decode cX0_isRightUtf8 114 = .ok (.iconst 0, 1) := by decide +kernel
theorem dX0_isRightUtf8_115 : decode cX0_isRightUtf8 115 = .ok (.ireturn, 1) := by decide +kernel
theorem dX0_isRightUtf8_116 : decode cX0_isRightUtf8 116 = .ok (.iinc 6 1, 3) := by decide +kernel
theorem dX0_isRightUtf8_119 : decode cX0_isRightUtf8 119 = .ok (.goto (-108), 3) := by decide +kernel
theorem dX0_isRightUtf8_122 : decode cX0_isRightUtf8 122 = .ok (.iload 5, 2) := by decide +kernel
theorem dX0_isRightUtf8_124 : decode cX0_isRightUtf8 124 = .ok (.ifCond .ne 7, 3) := by decide +kernel
theorem dX0_isRightUtf8_127 : decode cX0_isRightUtf8 127 = .ok (.iconst 1, 1) := by decide +kernel
theorem dX0_isRightUtf8_128 : decode cX0_isRightUtf8 128 = .ok (.goto 4, 3) := by decide +kernel
theorem dX0_isRightUtf8_131 : decode cX0_isRightUtf8 131 = .ok (.iconst 0, 1) := by decide +kernel
theorem dX0_isRightUtf8_132 : decode cX0_isRightUtf8 132 = .ok (.ireturn, 1) := by decide +kernel
theorem dX0_followers_0 : decode cX0_followers 0 = .ok (.iload_n 1, 1) := by decide +kernel
theorem dX0_followers_1 : decode cX0_followers 1 = .ok (.sipush 128, 3) := by decide +kernel
theorem dX0_followers_4 : decode cX0_followers 4 = .ok (.if_icmp .ge 5, 3) := by decide +kernel
theorem dX0_followers_7 : decode cX0_followers 7 = .ok (.iconst 0, 1) := by decide +kernel
theorem dX0_followers_8 : decode cX0_followers 8 = .ok (.ireturn, 1) := by decide +kernel
theorem dX0_followers_9 : decode cX0_followers 9 = .ok (.iload_n 1, 1) := by decide +kernel
theorem dX0_followers_10 : decode cX0_followers 10 = .ok (.sipush 192, 3) := by decide +kernel
theorem dX0_followers_13 : decode cX0_followers 13 = .ok (.if_icmp .lt 10, 3) := by decide +kernel
theorem dX0_followers_16 : decode cX0_followers 16 = .ok (.iload_n 1, 1) := by decide +kernel
theorem dX0_followers_17 : decode cX0_followers 17 = .ok (.sipush 247, 3) := by decide +kernel
theorem dX0_followers_20 : decode cX0_followers 20 = .ok (.if_icmp .le 5, 3) := by decide +kernel
theorem dX0_followers_23 : decode cX0_followers 23 = .ok (.iconst (-1), 1) := by decide +kernel
theorem dX0_followers_24 : decode cX0_followers 24 = .ok (.ireturn, 1) := by decide +kernel
theorem dX0_followers_25 : decode cX0_followers 25 = .ok (.iload_n 1, 1) := by decide +kernel
theorem dX0_followers_26 : decode cX0_followers 26 = .ok (.sipush 224, 3) := by decide +kernel
theorem dX0_followers_29 : decode cX0_followers 29 = .ok (.if_icmp .ge 7, 3) := by decide +kernel
theorem dX0_followers_32 : decode cX0_followers 32 = .ok (.iconst 1, 1) := by decide +kernel
theorem dX0_followers_33 : decode cX0_followers 33 = .ok (.goto 15, 3) := by decide +kernel
theorem dX0_followers_36 : decode cX0_followers 36 = .ok (.iload_n 1, 1) := by decide +kernel
theorem dX0_followers_37 : decode cX0_followers 37 = .ok (.sipush 240, 3) := by decide +kernel
theorem dX0_followers_40 : decode cX0_followers 40 = .ok (.if_icmp .ge 7, 3) := by decide +kernel
theorem dX0_followers_43 : decode cX0_followers 43 = .ok (.iconst 2, 1) := by decide +kernel
theorem dX0_followers_44 : decode cX0_followers 44 = .ok (.goto 4, 3) := by decide +kernel
theorem dX0_followers_47 : decode cX0_followers 47 = .ok (.iconst 3, 1) := by decide +kernel
theorem dX0_followers_48 : decode cX0_followers 48 = .ok (.ireturn, 1) := by decide +kernel
theorem dX0_leadingBits_0 : decode cX0_leadingBits 0 = .ok (.iload_n 2, 1) := by decide +kernel
theorem dX0_leadingBits_1 : decode cX0_leadingBits 1 = .ok (.ifCond .gt 7, 3) := by decide +kernel
theorem dX0_leadingBits_4 : decode cX0_leadingBits 4 = .ok (.iload_n 1, 1) := by decide +kernel
theorem dX0_leadingBits_5 : decode cX0_leadingBits 5 = .ok (.goto 9, 3) := by decide +kernel
theorem dX0_leadingBits_8 : decode cX0_leadingBits 8 = .ok (.iload_n 1, 1) := by decide +kernel
theorem dX0_leadingBits_9 : decode cX0_leadingBits 9 = .ok (.bipush 63, 2) := by decide +kernel
theorem dX0_leadingBits_11 : decode cX0_leadingBits 11 = .ok (.iload_n 2, 1) := by decide +kernel
theorem dX0_leadingBits_12 : decode cX0_leadingBits 12 = .ok (.ishr, 1) := by decide +kernel
theorem dX0_leadingBits_13 : decode cX0_leadingBits 13 = .ok (.iand, 1) := by decide +kernel
theorem dX0_leadingBits_14 : decode cX0_leadingBits 14 = .ok (.ireturn, 1) := by decide +kernel
theorem dX0_leastCode_0 : decode cX0_leastCode 0 = .ok (.iload_n 1, 1) := by decide +kernel
theorem dX0_leastCode_1 : decode cX0_leastCode 1 = .ok (.tableswitch 38 1 3 #[27, 31, 35], 27) := by decide +kernel
theorem dX0_leastCode_28 : decode cX0_leastCode 28 = .ok (.sipush 128, 3) := by decide +kernel
theorem dX0_leastCode_31 : decode cX0_leastCode 31 = .ok (.ireturn, 1) := by decide +kernel
theorem dX0_leastCode_32 : decode cX0_leastCode 32 = .ok (.sipush 2048, 3) := by decide +kernel
theorem dX0_leastCode_35 : decode cX0_leastCode 35 = .ok (.ireturn, 1) := by decide +kernel
theorem dX0_leastCode_36 : decode cX0_leastCode 36 = .ok (.ldc 129, 2) := by decide +kernel
theorem dX0_leastCode_38 : decode cX0_leastCode 38 = .ok (.ireturn, 1) := by decide +kernel
theorem dX0_leastCode_39 : decode cX0_leastCode 39 = .ok (.iconst 0, 1) := by decide +kernel
theorem dX0_leastCode_40 : decode cX0_leastCode 40 = .ok (.ireturn, 1) := by decide +kernel
theorem dX0_isCharacter_0 : decode cX0_isCharacter 0 = .ok (.iload_n 1, 1) := by decide +kernel
theorem dX0_isCharacter_1 : decode cX0_isCharacter 1 = .ok (.ldc 130, 2) := by decide +kernel
theorem dX0_isCharacter_3 : decode cX0_isCharacter 3 = .ok (.if_icmp .lt 13, 3) := by decide +kernel
theorem dX0_isCharacter_6 : decode cX0_isCharacter 6 = .ok (.iload_n 1, 1) := by decide +kernel
theorem dX0_isCharacter_7 : decode cX0_isCharacter 7 = .ok (.ldc 131, 2) := by decide +kernel
theorem dX0_isCharacter_9 : decode cX0_isCharacter 9 = .ok (.if_icmp .gt 7, 3) := by decide +kernel
theorem dX0_isCharacter_12 : decode cX0_isCharacter 12 = .ok (.iconst 1, 1) := by decide +kernel
theorem dX0_isCharacter_13 : decode cX0_isCharacter 13 = .ok (.goto 4, 3) := by decide +kernel
theorem dX0_isCharacter_16 : decode cX0_isCharacter 16 = .ok (.iconst 0, 1) := by decide +kernel
theorem dX0_isCharacter_17 : decode cX0_isCharacter 17 = .ok (.istore_n 3, 1) := by decide +kernel
theorem dX0_isCharacter_18 : decode cX0_isCharacter 18 = .ok (.iload_n 1, 1) := by decide +kernel
theorem dX0_isCharacter_19 : decode cX0_isCharacter 19 = .ok (.iload_n 2, 1) := by decide +kernel
theorem dX0_isCharacter_20 : decode cX0_isCharacter 20 = .ok (.if_icmp .lt 17, 3) := by decide +kernel
theorem dX0_isCharacter_23 : decode cX0_isCharacter 23 = .ok (.iload_n 1, 1) := by decide +kernel
theorem dX0_isCharacter_24 : decode cX0_isCharacter 24 = .ok (.ldc 132, 2) := by decide +kernel
theorem dX0_isCharacter_26 : decode cX0_isCharacter 26 = .ok (.if_icmp .gt 11, 3) := by decide +kernel
theorem dX0_isCharacter_29 : decode cX0_isCharacter 29 = .ok (.iload_n 3, 1) := by decide +kernel
theorem dX0_isCharacter_30 : decode cX0_isCharacter 30 = .ok (.ifCond .ne 7, 3) := by decide +kernel
theorem dX0_isCharacter_33 : decode cX0_isCharacter 33 = .ok (.iconst 1, 1) := by decide +kernel
theorem dX0_isCharacter_34 : decode cX0_isCharacter 34 = .ok (.goto 4, 3) := by decide +kernel
theorem dX0_isCharacter_37 : decode cX0_isCharacter 37 = .ok (.iconst 0, 1) := by decide +kernel
theorem dX0_isCharacter_38 : decode cX0_isCharacter 38 = .ok (.ireturn, 1) := by decide +kernel
theorem dX1_init_0 : decode cX1_init 0 = .ok (.aload_n 0, 1) := by decide +kernel
theorem dX1_init_1 : decode cX1_init 1 = .ok (.invokespecial 1, 3) := by decide +kernel
theorem dX1_init_4 : decode cX1_init 4 = .ok (.aload_n 0, 1) := by decide +kernel
theorem dX1_init_5 : decode cX1_init 5 = .ok (.new 7, 3) := by decide +kernel
theorem dX1_init_8 : decode cX1_init 8 = .ok (.dup, 1) := by decide +kernel
theorem dX1_init_9 : decode cX1_init 9 = .ok (.iconst 1, 1) := by decide +kernel
theorem dX1_init_10 : decode cX1_init 10 = .ok (.iconst 0, 1) := by decide +kernel
theorem dX1_init_11 : decode cX1_init 11 = .ok (.aload_n 1, 1) := by decide +kernel
theorem dX1_init_12 : decode cX1_init 12 = .ok (.aconst_null, 1) := by decide +kernel
theorem dX1_init_13 : decode cX1_init 13 = .ok (.invokespecial 9, 3) := by decide +kernel
theorem dX1_init_16 : decode cX1_init 16 = .ok (.putfield 12, 3) := by decide +kernel
theorem dX1_init_19 : decode cX1_init 19 = .ok (.aload_n 0, 1) := by decide +kernel
theorem dX1_init_20 : decode cX1_init 20 = .ok (.iconst 4, 1) := by decide +kernel
theorem dX1_init_21 : decode cX1_init 21 = .ok (.newarray .int, 2) := by decide +kernel
theorem dX1_init_23 : decode cX1_init 23 = .ok (.dup, 1) := by decide +kernel
theorem dX1_init_24 : decode cX1_init 24 = .ok (.iconst 0, 1) := by decide +kernel
theorem dX1_init_25 : decode cX1_init 25 = .ok (.aload_n 1, 1) := by decide +kernel
theorem dX1_init_26 : decode cX1_init 26 = .ok (.getfield 18, 3) := by decide +kernel
theorem dX1_init_29 : decode cX1_init 29 = .ok (.iastore, 1) := by decide +kernel
theorem dX1_init_30 : decode cX1_init 30 = .ok (.dup, 1) := by decide +kernel
theorem dX1_init_31 : decode cX1_init 31 = .ok (.iconst 1, 1) := by decide +kernel
theorem dX1_init_32 : decode cX1_init 32 = .ok (.iconst 0, 1) := by decide +kernel
theorem dX1_init_33 : decode cX1_init 33 = .ok (.iastore, 1) := by decide +kernel
theorem dX1_init_34 : decode cX1_init 34 = .ok (.dup, 1) := by decide +kernel
theorem dX1_init_35 : decode cX1_init 35 = .ok (.iconst 2, 1) := by decide +kernel
theorem dX1_init_36 : decode cX1_init 36 = .ok (.iconst 0, 1) := by decide +kernel
theorem dX1_init_37 : decode cX1_init 37 = .ok (.iastore, 1) := by decide +kernel
theorem dX1_init_38 : decode cX1_init 38 = .ok (.dup, 1) := by decide +kernel
theorem dX1_init_39 : decode cX1_init 39 = .ok (.iconst 3, 1) := by decide +kernel
theorem dX1_init_40 : decode cX1_init 40 = .ok (.iconst 0, 1) := by decide +kernel
theorem dX1_init_41 : decode cX1_init 41 = .ok (.iastore, 1) := by decide +kernel
theorem dX1_init_42 : decode cX1_init 42 = .ok (.putfield 24, 3) := by decide +kernel
theorem dX1_init_45 : decode cX1_init 45 = .ok (.return_, 1) := by decide +kernel
theorem dX2_init_0 : decode cX2_init 0 = .ok (.aload_n 0, 1) := by decide +kernel
theorem dX2_init_1 : decode cX2_init 1 = .ok (.invokespecial 3, 3) := by decide +kernel
theorem dX2_init_4 : decode cX2_init 4 = .ok (.aload_n 0, 1) := by decide +kernel
theorem dX2_init_5 : decode cX2_init 5 = .ok (.iconst (-1), 1) := by decide +kernel
theorem dX2_init_6 : decode cX2_init 6 = .ok (.putfield 9, 3) := by decide +kernel
theorem dX2_init_9 : decode cX2_init 9 = .ok (.aload_n 0, 1) := by decide +kernel
theorem dX2_init_10 : decode cX2_init 10 = .ok (.new 15, 3) := by decide +kernel
theorem dX2_init_13 : decode cX2_init 13 = .ok (.dup, 1) := by decide +kernel
theorem dX2_init_14 : decode cX2_init 14 = .ok (.aload_n 1, 1) := by decide +kernel
theorem dX2_init_15 : decode cX2_init 15 = .ok (.invokespecial 17, 3) := by decide +kernel
theorem dX2_init_18 : decode cX2_init 18 = .ok (.putfield 20, 3) := by decide +kernel
theorem dX2_init_21 : decode cX2_init 21 = .ok (.return_, 1) := by decide +kernel
theorem dX2_make_0 : decode cX2_make 0 = .ok (.aload_n 0, 1) := by decide +kernel
theorem dX2_make_1 : decode cX2_make 1 = .ok (.aload_n 0, 1) := by decide +kernel
theorem dX2_make_2 : decode cX2_make 2 = .ok (.getfield 20, 3) := by decide +kernel
theorem dX2_make_5 : decode cX2_make 5 = .ok (.getfield 24, 3) := by decide +kernel
theorem dX2_make_8 : decode cX2_make 8 = .ok (.iconst 1, 1) := by decide +kernel
theorem dX2_make_9 : decode cX2_make 9 = .ok (.invokevirtual 28, 3) := by decide +kernel
theorem dX2_make_12 : decode cX2_make 12 = .ok (.return_, 1) := by decide +kernel
theorem dX2_addClauses_0 : decode cX2_addClauses 0 = .ok (.iload_n 2, 1) := by decide +kernel
theorem dX2_addClauses_1 : decode cX2_addClauses 1 = .ok (.bipush 16, 2) := by decide +kernel
theorem dX2_addClauses_3 : decode cX2_addClauses 3 = .ok (.if_icmp .le 4, 3) := by decide +kernel
theorem dX2_addClauses_6 : decode cX2_addClauses 6 = .ok (.return_, 1) := by decide +kernel
theorem dX2_addClauses_7 : decode cX2_addClauses 7 = .ok (.aload_n 1, 1) := by decide +kernel
theorem dX2_addClauses_8 : decode cX2_addClauses 8 = .ok (.getfield 32, 3) := by decide +kernel
theorem dX2_addClauses_11 : decode cX2_addClauses 11 = .ok (.getfield 38, 3) := by decide +kernel
theorem dX2_addClauses_14 : decode cX2_addClauses 14 = .ok (.astore_n 3, 1) := by decide +kernel
theorem dX2_addClauses_15 : decode cX2_addClauses 15 = .ok (.aload_n 3, 1) := by decide +kernel
theorem dX2_addClauses_16 : decode cX2_addClauses 16 = .ok (.ifnull 45, 3) := by decide +kernel
theorem dX2_addClauses_19 : decode cX2_addClauses 19 = .ok (.aload_n 0, 1) := by decide +kernel
theorem dX2_addClauses_20 : decode cX2_addClauses 20 = .ok (.getfield 43, 3) := by decide +kernel
theorem dX2_addClauses_23 : decode cX2_addClauses 23 = .ok (.ifCond .ne 38, 3) := by decide +kernel
theorem dX2_addClauses_26 : decode cX2_addClauses 26 = .ok (.aload_n 3, 1) := by decide +kernel
theorem dX2_addClauses_27 : decode cX2_addClauses 27 = .ok (.getfield 46, 3) := by decide +kernel
theorem dX2_addClauses_30 : decode cX2_addClauses 30 = .ok (.invokestatic 50, 3) := by decide +kernel
theorem dX2_addClauses_33 : decode cX2_addClauses 33 = .ok (.ifCond .eq 13, 3) := by decide +kernel
theorem dX2_addClauses_36 : decode cX2_addClauses 36 = .ok (.aload_n 0, 1) := by decide +kernel
theorem dX2_addClauses_37 : decode cX2_addClauses 37 = .ok (.aload_n 1, 1) := by decide +kernel
theorem dX2_addClauses_38 : decode cX2_addClauses 38 = .ok (.aload_n 3, 1) := by decide +kernel
theorem dX2_addClauses_39 : decode cX2_addClauses 39 = .ok (.iload_n 2, 1) := by decide +kernel
theorem dX2_addClauses_40 : decode cX2_addClauses 40 = .ok (.invokevirtual 54, 3) := by decide +kernel
theorem dX2_addClauses_43 : decode cX2_addClauses 43 = .ok (.goto 10, 3) := by decide +kernel
theorem dX2_addClauses_46 : decode cX2_addClauses 46 = .ok (.aload_n 0, 1) := by decide +kernel
theorem dX2_addClauses_47 : decode cX2_addClauses 47 = .ok (.aload_n 1, 1) := by decide +kernel
theorem dX2_addClauses_48 : decode cX2_addClauses 48 = .ok (.aload_n 3, 1) := by decide +kernel
theorem dX2_addClauses_49 : decode cX2_addClauses 49 = .ok (.iload_n 2, 1) := by decide +kernel
theorem dX2_addClauses_50 : decode cX2_addClauses 50 = .ok (.invokevirtual 58, 3) := by decide +kernel
theorem dX2_addClauses_53 : decode cX2_addClauses 53 = .ok (.aload_n 3, 1) := by decide +kernel
theorem dX2_addClauses_54 : decode cX2_addClauses 54 = .ok (.getfield 61, 3) := by decide +kernel
theorem dX2_addClauses_57 : decode cX2_addClauses 57 = .ok (.astore_n 3, 1) := by decide +kernel
theorem dX2_addClauses_58 : decode cX2_addClauses 58 = .ok (.goto (-43), 3) := by decide +kernel
theorem dX2_addClauses_61 : decode cX2_addClauses 61 = .ok (.return_, 1) := by decide +kernel
theorem dX2_addJoin_0 : decode cX2_addJoin 0 = .ok (.aload_n 2, 1) := by decide +kernel
theorem dX2_addJoin_1 : decode cX2_addJoin 1 = .ok (.getfield 46, 3) := by decide +kernel
theorem dX2_addJoin_4 : decode cX2_addJoin 4 = .ok (.invokestatic 64, 3) := by decide +kernel
theorem dX2_addJoin_7 : decode cX2_addJoin 7 = .ok (.istore 4, 2) := by decide +kernel
theorem dX2_addJoin_9 : decode cX2_addJoin 9 = .ok (.iload 4, 2) := by decide +kernel
theorem dX2_addJoin_11 : decode cX2_addJoin 11 = .ok (.ifCond .ne 12, 3) := by decide +kernel
theorem dX2_addJoin_14 : decode cX2_addJoin 14 = .ok (.aload_n 0, 1) := by decide +kernel
theorem dX2_addJoin_15 : decode cX2_addJoin 15 = .ok (.iconst 1, 1) := by decide +kernel
theorem dX2_addJoin_16 : decode cX2_addJoin 16 = .ok (.aload_n 2, 1) := by decide +kernel
theorem dX2_addJoin_17 : decode cX2_addJoin 17 = .ok (.invokevirtual 68, 3) := by decide +kernel
theorem dX2_addJoin_20 : decode cX2_addJoin 20 = .ok (.goto 73, 3) := by decide +kernel
theorem dX2_addJoin_23 : decode cX2_addJoin 23 = .ok (.aload_n 2, 1) := by decide +kernel
theorem dX2_addJoin_24 : decode cX2_addJoin 24 = .ok (.getfield 72, 3) := by decide +kernel
theorem dX2_addJoin_27 : decode cX2_addJoin 27 = .ok (.iconst 4, 1) := by decide +kernel
theorem dX2_addJoin_28 : decode cX2_addJoin 28 = .ok (.if_icmp .ne 10, 3) := by decide +kernel
theorem dX2_addJoin_31 : decode cX2_addJoin 31 = .ok (.aload_n 2, 1) := by decide +kernel
theorem dX2_addJoin_32 : decode cX2_addJoin 32 = .ok (.getfield 77, 3) := by decide +kernel
theorem dX2_addJoin_35 : decode cX2_addJoin 35 = .ok (.ifCond .ne 12, 3) := by decide +kernel
theorem dX2_addJoin_38 : decode cX2_addJoin 38 = .ok (.aload_n 0, 1) := by decide +kernel
theorem dX2_addJoin_39 : decode cX2_addJoin 39 = .ok (.iconst 2, 1) := by decide +kernel
theorem dX2_addJoin_40 : decode cX2_addJoin 40 = .ok (.aload_n 2, 1) := by decide +kernel
theorem dX2_addJoin_41 : decode cX2_addJoin 41 = .ok (.invokevirtual 68, 3) := by decide +kernel
theorem dX2_addJoin_44 : decode cX2_addJoin 44 = .ok (.goto 49, 3) := by decide +kernel
theorem dX2_addJoin_47 : decode cX2_addJoin 47 = .ok (.aload_n 0, 1) := by decide +kernel
theorem dX2_addJoin_48 : decode cX2_addJoin 48 = .ok (.iconst 1, 1) := by decide +kernel
theorem dX2_addJoin_49 : decode cX2_addJoin 49 = .ok (.aload_n 2, 1) := by decide +kernel
theorem dX2_addJoin_50 : decode cX2_addJoin 50 = .ok (.invokevirtual 80, 3) := by decide +kernel
theorem dX2_addJoin_53 : decode cX2_addJoin 53 = .ok (.ifCond .eq 40, 3) := by decide +kernel
theorem dX2_addJoin_56 : decode cX2_addJoin 56 = .ok (.new 33, 3) := by decide +kernel
theorem dX2_addJoin_59 : decode cX2_addJoin 59 = .ok (.dup, 1) := by decide +kernel
theorem dX2_addJoin_60 : decode cX2_addJoin 60 = .ok (.iload 4, 2) := by decide +kernel
theorem dX2_addJoin_62 : decode cX2_addJoin 62 = .ok (.aload_n 2, 1) := by decide +kernel
theorem dX2_addJoin_63 : decode cX2_addJoin 63 = .ok (.getfield 46, 3) := by decide +kernel
theorem dX2_addJoin_66 : decode cX2_addJoin 66 = .ok (.ldc 84, 2) := by decide +kernel
theorem dX2_addJoin_68 : decode cX2_addJoin 68 = .ok (.invokevirtual 86, 3) := by decide +kernel
theorem dX2_addJoin_71 : decode cX2_addJoin 71 = .ok (.aload_n 2, 1) := by decide +kernel
theorem dX2_addJoin_72 : decode cX2_addJoin 72 = .ok (.aconst_null, 1) := by decide +kernel
theorem dX2_addJoin_73 : decode cX2_addJoin 73 = .ok (.invokespecial 92, 3) := by decide +kernel
theorem dX2_addJoin_76 : decode cX2_addJoin 76 = .ok (.astore 5, 2) := by decide +kernel
theorem dX2_addJoin_78 : decode cX2_addJoin 78 = .ok (.aload_n 1, 1) := by decide +kernel
theorem dX2_addJoin_79 : decode cX2_addJoin 79 = .ok (.aload 5, 2) := by decide +kernel
theorem dX2_addJoin_81 : decode cX2_addJoin 81 = .ok (.invokevirtual 95, 3) := by decide +kernel
theorem dX2_addJoin_84 : decode cX2_addJoin 84 = .ok (.aload_n 0, 1) := by decide +kernel
theorem dX2_addJoin_85 : decode cX2_addJoin 85 = .ok (.aload 5, 2) := by decide +kernel
theorem dX2_addJoin_87 : decode cX2_addJoin 87 = .ok (.iload_n 3, 1) := by decide +kernel
theorem dX2_addJoin_88 : decode cX2_addJoin 88 = .ok (.iconst 2, 1) := by decide +kernel
theorem dX2_addJoin_89 : decode cX2_addJoin 89 = .ok (.iadd, 1) := by decide +kernel
theorem dX2_addJoin_90 : decode cX2_addJoin 90 = .ok (.invokevirtual 99, 3) := by decide +kernel
theorem dX2_addJoin_93 : decode cX2_addJoin 93 = .ok (.return_, 1) := by decide +kernel
theorem dX2_addJoined_0 : decode cX2_addJoined 0 = .ok (.aload_n 1, 1) := by decide +kernel
theorem dX2_addJoined_1 : decode cX2_addJoined 1 = .ok (.getfield 32, 3) := by decide +kernel
theorem dX2_addJoined_4 : decode cX2_addJoined 4 = .ok (.getfield 38, 3) := by decide +kernel
theorem dX2_addJoined_7 : decode cX2_addJoined 7 = .ok (.astore_n 3, 1) := by decide +kernel
theorem dX2_addJoined_8 : decode cX2_addJoined 8 = .ok (.aload_n 3, 1) := by decide +kernel
theorem dX2_addJoined_9 : decode cX2_addJoined 9 = .ok (.ifnull 61, 3) := by decide +kernel
theorem dX2_addJoined_12 : decode cX2_addJoined 12 = .ok (.aload_n 0, 1) := by decide +kernel
theorem dX2_addJoined_13 : decode cX2_addJoined 13 = .ok (.getfield 43, 3) := by decide +kernel
theorem dX2_addJoined_16 : decode cX2_addJoined 16 = .ok (.ifCond .ne 54, 3) := by decide +kernel
theorem dX2_addJoined_19 : decode cX2_addJoined 19 = .ok (.aload_n 3, 1) := by decide +kernel
theorem dX2_addJoined_20 : decode cX2_addJoined 20 = .ok (.getfield 72, 3) := by decide +kernel
theorem dX2_addJoined_23 : decode cX2_addJoined 23 = .ok (.iconst 3, 1) := by decide +kernel
theorem dX2_addJoined_24 : decode cX2_addJoined 24 = .ok (.if_icmp .ne 32, 3) := by decide +kernel
theorem dX2_addJoined_27 : decode cX2_addJoined 27 = .ok (.new 33, 3) := by decide +kernel
theorem dX2_addJoined_30 : decode cX2_addJoined 30 = .ok (.dup, 1) := by decide +kernel
theorem dX2_addJoined_31 : decode cX2_addJoined 31 = .ok (.iconst 1, 1) := by decide +kernel
theorem dX2_addJoined_32 : decode cX2_addJoined 32 = .ok (.iconst 0, 1) := by decide +kernel
theorem dX2_addJoined_33 : decode cX2_addJoined 33 = .ok (.aload_n 3, 1) := by decide +kernel
theorem dX2_addJoined_34 : decode cX2_addJoined 34 = .ok (.aconst_null, 1) := by decide +kernel
theorem dX2_addJoined_35 : decode cX2_addJoined 35 = .ok (.invokespecial 92, 3) := by decide +kernel
theorem dX2_addJoined_38 : decode cX2_addJoined 38 = .ok (.astore 4, 2) := by decide +kernel
theorem dX2_addJoined_40 : decode cX2_addJoined 40 = .ok (.aload_n 1, 1) := by decide +kernel
theorem dX2_addJoined_41 : decode cX2_addJoined 41 = .ok (.aload 4, 2) := by decide +kernel
theorem dX2_addJoined_43 : decode cX2_addJoined 43 = .ok (.invokevirtual 95, 3) := by decide +kernel
theorem dX2_addJoined_46 : decode cX2_addJoined 46 = .ok (.aload_n 0, 1) := by decide +kernel
theorem dX2_addJoined_47 : decode cX2_addJoined 47 = .ok (.aload 4, 2) := by decide +kernel
theorem dX2_addJoined_49 : decode cX2_addJoined 49 = .ok (.iload_n 2, 1) := by decide +kernel
theorem dX2_addJoined_50 : decode cX2_addJoined 50 = .ok (.invokevirtual 28, 3) := by decide +kernel
theorem dX2_addJoined_53 : decode cX2_addJoined 53 = .ok (.goto 9, 3) := by decide +kernel
theorem dX2_addJoined_56 : decode cX2_addJoined 56 = .ok (.aload_n 0, 1) := by decide +kernel
theorem dX2_addJoined_57 : decode cX2_addJoined 57 = .ok (.iconst 2, 1) := by decide +kernel
theorem dX2_addJoined_58 : decode cX2_addJoined 58 = .ok (.aload_n 3, 1) := by decide +kernel
theorem dX2_addJoined_59 : decode cX2_addJoined 59 = .ok (.invokevirtual 68, 3) := by decide +kernel
theorem dX2_addJoined_62 : decode cX2_addJoined 62 = .ok (.aload_n 3, 1) := by decide +kernel
theorem dX2_addJoined_63 : decode cX2_addJoined 63 = .ok (.getfield 61, 3) := by decide +kernel
theorem dX2_addJoined_66 : decode cX2_addJoined 66 = .ok (.astore_n 3, 1) := by decide +kernel
theorem dX2_addJoined_67 : decode cX2_addJoined 67 = .ok (.goto (-59), 3) := by decide +kernel
theorem dX2_addJoined_70 : decode cX2_addJoined 70 = .ok (.return_, 1) := by decide +kernel
theorem dX2_addPath_0 : decode cX2_addPath 0 = .ok (.aload_n 2, 1) := by decide +kernel
theorem dX2_addPath_1 : decode cX2_addPath 1 = .ok (.getfield 46, 3) := by decide +kernel
theorem dX2_addPath_4 : decode cX2_addPath 4 = .ok (.invokestatic 102, 3) := by decide +kernel
theorem dX2_addPath_7 : decode cX2_addPath 7 = .ok (.astore 4, 2) := by decide +kernel
theorem dX2_addPath_9 : decode cX2_addPath 9 = .ok (.aload_n 2, 1) := by decide +kernel
theorem dX2_addPath_10 : decode cX2_addPath 10 = .ok (.invokevirtual 108, 3) := by decide +kernel
theorem dX2_addPath_13 : decode cX2_addPath 13 = .ok (.ifCond .ne 7, 3) := by decide +kernel
theorem dX2_addPath_16 : decode cX2_addPath 16 = .ok (.iconst 1, 1) := by decide +kernel
theorem dX2_addPath_17 : decode cX2_addPath 17 = .ok (.goto 4, 3) := by decide +kernel
theorem dX2_addPath_20 : decode cX2_addPath 20 = .ok (.iconst 0, 1) := by decide +kernel
theorem dX2_addPath_21 : decode cX2_addPath 21 = .ok (.istore 5, 2) := by decide +kernel
theorem dX2_addPath_23 : decode cX2_addPath 23 = .ok (.aload 4, 2) := by decide +kernel
theorem dX2_addPath_25 : decode cX2_addPath 25 = .ok (.ifnonnull 12, 3) := by decide +kernel
theorem dX2_addPath_28 : decode cX2_addPath 28 = .ok (.aload_n 0, 1) := by decide +kernel
theorem dX2_addPath_29 : decode cX2_addPath 29 = .ok (.iconst 3, 1) := by decide +kernel
theorem dX2_addPath_30 : decode cX2_addPath 30 = .ok (.aload_n 2, 1) := by decide +kernel
theorem dX2_addPath_31 : decode cX2_addPath 31 = .ok (.invokevirtual 68, 3) := by decide +kernel
theorem dX2_addPath_34 : decode cX2_addPath 34 = .ok (.goto 104, 3) := by decide +kernel
theorem dX2_addPath_37 : decode cX2_addPath 37 = .ok (.aload_n 0, 1) := by decide +kernel
theorem dX2_addPath_38 : decode cX2_addPath 38 = .ok (.iload 5, 2) := by decide +kernel
theorem dX2_addPath_40 : decode cX2_addPath 40 = .ok (.ifCond .eq 7, 3) := by decide +kernel
theorem dX2_addPath_43 : decode cX2_addPath 43 = .ok (.iconst 2, 1) := by decide +kernel
theorem dX2_addPath_44 : decode cX2_addPath 44 = .ok (.goto 4, 3) := by decide +kernel
theorem dX2_addPath_47 : decode cX2_addPath 47 = .ok (.iconst 1, 1) := by decide +kernel
theorem dX2_addPath_48 : decode cX2_addPath 48 = .ok (.aload_n 2, 1) := by decide +kernel
theorem dX2_addPath_49 : decode cX2_addPath 49 = .ok (.invokevirtual 80, 3) := by decide +kernel
theorem dX2_addPath_52 : decode cX2_addPath 52 = .ok (.ifCond .eq 86, 3) := by decide +kernel
theorem dX2_addPath_55 : decode cX2_addPath 55 = .ok (.aload_n 0, 1) := by decide +kernel
theorem dX2_addPath_56 : decode cX2_addPath 56 = .ok (.getfield 20, 3) := by decide +kernel
theorem dX2_addPath_59 : decode cX2_addPath 59 = .ok (.getfield 112, 3) := by decide +kernel
theorem dX2_addPath_62 : decode cX2_addPath 62 = .ok (.iconst 2, 1) := by decide +kernel
theorem dX2_addPath_63 : decode cX2_addPath 63 = .ok (.dup2, 1) := by decide +kernel
theorem dX2_addPath_64 : decode cX2_addPath 64 = .ok (.iaload, 1) := by decide +kernel
theorem dX2_addPath_65 : decode cX2_addPath 65 = .ok (.iconst 1, 1) := by decide +kernel
theorem dX2_addPath_66 : decode cX2_addPath 66 = .ok (.iadd, 1) := by decide +kernel
theorem dX2_addPath_67 : decode cX2_addPath 67 = .ok (.iastore, 1) := by decide +kernel
theorem dX2_addPath_68 : decode cX2_addPath 68 = .ok (.aload_n 0, 1) := by decide +kernel
theorem dX2_addPath_69 : decode cX2_addPath 69 = .ok (.getfield 20, 3) := by decide +kernel
theorem dX2_addPath_72 : decode cX2_addPath 72 = .ok (.getfield 112, 3) := by decide +kernel
theorem dX2_addPath_75 : decode cX2_addPath 75 = .ok (.iconst 3, 1) := by decide +kernel
theorem dX2_addPath_76 : decode cX2_addPath 76 = .ok (.dup2, 1) := by decide +kernel
theorem dX2_addPath_77 : decode cX2_addPath 77 = .ok (.iaload, 1) := by decide +kernel
theorem dX2_addPath_78 : decode cX2_addPath 78 = .ok (.aload 4, 2) := by decide +kernel
theorem dX2_addPath_80 : decode cX2_addPath 80 = .ok (.getfield 116, 3) := by decide +kernel
theorem dX2_addPath_83 : decode cX2_addPath 83 = .ok (.iadd, 1) := by decide +kernel
theorem dX2_addPath_84 : decode cX2_addPath 84 = .ok (.iastore, 1) := by decide +kernel
theorem dX2_addPath_85 : decode cX2_addPath 85 = .ok (.new 33, 3) := by decide +kernel
theorem dX2_addPath_88 : decode cX2_addPath 88 = .ok (.dup, 1) := by decide +kernel
theorem dX2_addPath_89 : decode cX2_addPath 89 = .ok (.iconst 4, 1) := by decide +kernel
theorem dX2_addPath_90 : decode cX2_addPath 90 = .ok (.iconst 0, 1) := by decide +kernel
theorem dX2_addPath_91 : decode cX2_addPath 91 = .ok (.aload_n 2, 1) := by decide +kernel
theorem dX2_addPath_92 : decode cX2_addPath 92 = .ok (.aload 4, 2) := by decide +kernel
theorem dX2_addPath_94 : decode cX2_addPath 94 = .ok (.invokespecial 92, 3) := by decide +kernel
theorem dX2_addPath_97 : decode cX2_addPath 97 = .ok (.astore 6, 2) := by decide +kernel
theorem dX2_addPath_99 : decode cX2_addPath 99 = .ok (.aload_n 1, 1) := by decide +kernel
theorem dX2_addPath_100 : decode cX2_addPath 100 = .ok (.aload 6, 2) := by decide +kernel
theorem dX2_addPath_102 : decode cX2_addPath 102 = .ok (.invokevirtual 95, 3) := by decide +kernel
theorem dX2_addPath_105 : decode cX2_addPath 105 = .ok (.iload 5, 2) := by decide +kernel
theorem dX2_addPath_107 : decode cX2_addPath 107 = .ok (.ifCond .eq 22, 3) := by decide +kernel
theorem dX2_addPath_110 : decode cX2_addPath 110 = .ok (.aload 6, 2) := by decide +kernel
theorem dX2_addPath_112 : decode cX2_addPath 112 = .ok (.new 33, 3) := by decide +kernel
theorem dX2_addPath_115 : decode cX2_addPath 115 = .ok (.dup, 1) := by decide +kernel
theorem dX2_addPath_116 : decode cX2_addPath 116 = .ok (.iconst 5, 1) := by decide +kernel
theorem dX2_addPath_117 : decode cX2_addPath 117 = .ok (.iconst 0, 1) := by decide +kernel
theorem dX2_addPath_118 : decode cX2_addPath 118 = .ok (.aload_n 2, 1) := by decide +kernel
theorem dX2_addPath_119 : decode cX2_addPath 119 = .ok (.aconst_null, 1) := by decide +kernel
theorem dX2_addPath_120 : decode cX2_addPath 120 = .ok (.invokespecial 92, 3) := by decide +kernel
theorem dX2_addPath_123 : decode cX2_addPath 123 = .ok (.invokevirtual 95, 3) := by decide +kernel
theorem dX2_addPath_126 : decode cX2_addPath 126 = .ok (.goto 12, 3) := by decide +kernel
theorem dX2_addPath_129 : decode cX2_addPath 129 = .ok (.aload_n 0, 1) := by decide +kernel
theorem dX2_addPath_130 : decode cX2_addPath 130 = .ok (.aload 6, 2) := by decide +kernel
theorem dX2_addPath_132 : decode cX2_addPath 132 = .ok (.iload_n 3, 1) := by decide +kernel
theorem dX2_addPath_133 : decode cX2_addPath 133 = .ok (.iconst 1, 1) := by decide +kernel
theorem dX2_addPath_134 : decode cX2_addPath 134 = .ok (.iadd, 1) := by decide +kernel
theorem dX2_addPath_135 : decode cX2_addPath 135 = .ok (.invokevirtual 117, 3) := by decide +kernel
theorem dX2_addPath_138 : decode cX2_addPath 138 = .ok (.return_, 1) := by decide +kernel
theorem dX2_addConditions_0 : decode cX2_addConditions 0 = .ok (.iload_n 2, 1) := by decide +kernel
theorem dX2_addConditions_1 : decode cX2_addConditions 1 = .ok (.bipush 16, 2) := by decide +kernel
theorem dX2_addConditions_3 : decode cX2_addConditions 3 = .ok (.if_icmp .le 4, 3) := by decide +kernel
theorem dX2_addConditions_6 : decode cX2_addConditions 6 = .ok (.return_, 1) := by decide +kernel
theorem dX2_addConditions_7 : decode cX2_addConditions 7 = .ok (.aload_n 1, 1) := by decide +kernel
theorem dX2_addConditions_8 : decode cX2_addConditions 8 = .ok (.getfield 32, 3) := by decide +kernel
theorem dX2_addConditions_11 : decode cX2_addConditions 11 = .ok (.getfield 38, 3) := by decide +kernel
theorem dX2_addConditions_14 : decode cX2_addConditions 14 = .ok (.astore_n 3, 1) := by decide +kernel
theorem dX2_addConditions_15 : decode cX2_addConditions 15 = .ok (.aload_n 3, 1) := by decide +kernel
theorem dX2_addConditions_16 : decode cX2_addConditions 16 = .ok (.ifnull 25, 3) := by decide +kernel
theorem dX2_addConditions_19 : decode cX2_addConditions 19 = .ok (.aload_n 0, 1) := by decide +kernel
theorem dX2_addConditions_20 : decode cX2_addConditions 20 = .ok (.getfield 43, 3) := by decide +kernel
theorem dX2_addConditions_23 : decode cX2_addConditions 23 = .ok (.ifCond .ne 18, 3) := by decide +kernel
theorem dX2_addConditions_26 : decode cX2_addConditions 26 = .ok (.aload_n 0, 1) := by decide +kernel
theorem dX2_addConditions_27 : decode cX2_addConditions 27 = .ok (.aload_n 1, 1) := by decide +kernel
theorem dX2_addConditions_28 : decode cX2_addConditions 28 = .ok (.aload_n 3, 1) := by decide +kernel
theorem dX2_addConditions_29 : decode cX2_addConditions 29 = .ok (.iload_n 2, 1) := by decide +kernel
theorem dX2_addConditions_30 : decode cX2_addConditions 30 = .ok (.invokevirtual 120, 3) := by decide +kernel
theorem dX2_addConditions_33 : decode cX2_addConditions 33 = .ok (.aload_n 3, 1) := by decide +kernel
theorem dX2_addConditions_34 : decode cX2_addConditions 34 = .ok (.getfield 61, 3) := by decide +kernel
theorem dX2_addConditions_37 : decode cX2_addConditions 37 = .ok (.astore_n 3, 1) := by decide +kernel
theorem dX2_addConditions_38 : decode cX2_addConditions 38 = .ok (.goto (-23), 3) := by decide +kernel
theorem dX2_addConditions_41 : decode cX2_addConditions 41 = .ok (.return_, 1) := by decide +kernel
theorem dX2_addCondition_0 : decode cX2_addCondition 0 = .ok (.aload_n 2, 1) := by decide +kernel
theorem dX2_addCondition_1 : decode cX2_addCondition 1 = .ok (.invokestatic 123, 3) := by decide +kernel
theorem dX2_addCondition_4 : decode cX2_addCondition 4 = .ok (.istore 4, 2) := by decide +kernel
theorem dX2_addCondition_6 : decode cX2_addCondition 6 = .ok (.iload 4, 2) := by decide +kernel
theorem dX2_addCondition_8 : decode cX2_addCondition 8 = .ok (.ifCond .ne 12, 3) := by decide +kernel
theorem dX2_addCondition_11 : decode cX2_addCondition 11 = .ok (.aload_n 0, 1) := by decide +kernel
theorem dX2_addCondition_12 : decode cX2_addCondition 12 = .ok (.iconst 1, 1) := by decide +kernel
theorem dX2_addCondition_13 : decode cX2_addCondition 13 = .ok (.aload_n 2, 1) := by decide +kernel
theorem dX2_addCondition_14 : decode cX2_addCondition 14 = .ok (.invokevirtual 68, 3) := by decide +kernel
theorem dX2_addCondition_17 : decode cX2_addCondition 17 = .ok (.goto 95, 3) := by decide +kernel
theorem dX2_addCondition_20 : decode cX2_addCondition 20 = .ok (.iload 4, 2) := by decide +kernel
theorem dX2_addCondition_22 : decode cX2_addCondition 22 = .ok (.aload_n 2, 1) := by decide +kernel
theorem dX2_addCondition_23 : decode cX2_addCondition 23 = .ok (.invokestatic 127, 3) := by decide +kernel
theorem dX2_addCondition_26 : decode cX2_addCondition 26 = .ok (.ifCond .ne 12, 3) := by decide +kernel
theorem dX2_addCondition_29 : decode cX2_addCondition 29 = .ok (.aload_n 0, 1) := by decide +kernel
theorem dX2_addCondition_30 : decode cX2_addCondition 30 = .ok (.iconst 4, 1) := by decide +kernel
theorem dX2_addCondition_31 : decode cX2_addCondition 31 = .ok (.aload_n 2, 1) := by decide +kernel
theorem dX2_addCondition_32 : decode cX2_addCondition 32 = .ok (.invokevirtual 68, 3) := by decide +kernel
theorem dX2_addCondition_35 : decode cX2_addCondition 35 = .ok (.goto 77, 3) := by decide +kernel
theorem dX2_addCondition_38 : decode cX2_addCondition 38 = .ok (.aload_n 0, 1) := by decide +kernel
theorem dX2_addCondition_39 : decode cX2_addCondition 39 = .ok (.iconst 1, 1) := by decide +kernel
theorem dX2_addCondition_40 : decode cX2_addCondition 40 = .ok (.aload_n 2, 1) := by decide +kernel
theorem dX2_addCondition_41 : decode cX2_addCondition 41 = .ok (.invokevirtual 80, 3) := by decide +kernel
theorem dX2_addCondition_44 : decode cX2_addCondition 44 = .ok (.ifCond .eq 68, 3) := by decide +kernel
theorem dX2_addCondition_47 : decode cX2_addCondition 47 = .ok (.new 33, 3) := by decide +kernel
theorem dX2_addCondition_50 : decode cX2_addCondition 50 = .ok (.dup, 1) := by decide +kernel
theorem dX2_addCondition_51 : decode cX2_addCondition 51 = .ok (.iload 4, 2) := by decide +kernel
theorem dX2_addCondition_53 : decode cX2_addCondition 53 = .ok (.aload_n 2, 1) := by decide +kernel
theorem dX2_addCondition_54 : decode cX2_addCondition 54 = .ok (.invokestatic 130, 3) := by decide +kernel
theorem dX2_addCondition_57 : decode cX2_addCondition 57 = .ok (.aload_n 2, 1) := by decide +kernel
theorem dX2_addCondition_58 : decode cX2_addCondition 58 = .ok (.aconst_null, 1) := by decide +kernel
theorem dX2_addCondition_59 : decode cX2_addCondition 59 = .ok (.invokespecial 92, 3) := by decide +kernel
theorem dX2_addCondition_62 : decode cX2_addCondition 62 = .ok (.astore 5, 2) := by decide +kernel
theorem dX2_addCondition_64 : decode cX2_addCondition 64 = .ok (.aload_n 1, 1) := by decide +kernel
theorem dX2_addCondition_65 : decode cX2_addCondition 65 = .ok (.aload 5, 2) := by decide +kernel
theorem dX2_addCondition_67 : decode cX2_addCondition 67 = .ok (.invokevirtual 95, 3) := by decide +kernel
theorem dX2_addCondition_70 : decode cX2_addCondition 70 = .ok (.iload 4, 2) := by decide +kernel
theorem dX2_addCondition_72 : decode cX2_addCondition 72 = .ok (.bipush 15, 2) := by decide +kernel
theorem dX2_addCondition_74 : decode cX2_addCondition 74 = .ok (.if_icmp .eq 10, 3) := by decide +kernel
theorem dX2_addCondition_77 : decode cX2_addCondition 77 = .ok (.iload 4, 2) := by decide +kernel
theorem dX2_addCondition_79 : decode cX2_addCondition 79 = .ok (.bipush 13, 2) := by decide +kernel
theorem dX2_addCondition_81 : decode cX2_addCondition 81 = .ok (.if_icmp .ne 15, 3) := by decide +kernel
theorem dX2_addCondition_84 : decode cX2_addCondition 84 = .ok (.aload_n 0, 1) := by decide +kernel
theorem dX2_addCondition_85 : decode cX2_addCondition 85 = .ok (.aload 5, 2) := by decide +kernel
theorem dX2_addCondition_87 : decode cX2_addCondition 87 = .ok (.iload_n 3, 1) := by decide +kernel
theorem dX2_addCondition_88 : decode cX2_addCondition 88 = .ok (.iconst 1, 1) := by decide +kernel
theorem dX2_addCondition_89 : decode cX2_addCondition 89 = .ok (.iadd, 1) := by decide +kernel
theorem dX2_addCondition_90 : decode cX2_addCondition 90 = .ok (.invokevirtual 117, 3) := by decide +kernel
theorem dX2_addCondition_93 : decode cX2_addCondition 93 = .ok (.goto 19, 3) := by decide +kernel
theorem dX2_addCondition_96 : decode cX2_addCondition 96 = .ok (.iload 4, 2) := by decide +kernel
theorem dX2_addCondition_98 : decode cX2_addCondition 98 = .ok (.bipush 14, 2) := by decide +kernel
theorem dX2_addCondition_100 : decode cX2_addCondition 100 = .ok (.if_icmp .ne 12, 3) := by decide +kernel
theorem dX2_addCondition_103 : decode cX2_addCondition 103 = .ok (.aload_n 0, 1) := by decide +kernel
theorem dX2_addCondition_104 : decode cX2_addCondition 104 = .ok (.aload 5, 2) := by decide +kernel
theorem dX2_addCondition_106 : decode cX2_addCondition 106 = .ok (.iload_n 3, 1) := by decide +kernel
theorem dX2_addCondition_107 : decode cX2_addCondition 107 = .ok (.iconst 1, 1) := by decide +kernel
theorem dX2_addCondition_108 : decode cX2_addCondition 108 = .ok (.iadd, 1) := by decide +kernel
theorem dX2_addCondition_109 : decode cX2_addCondition 109 = .ok (.invokevirtual 28, 3) := by decide +kernel
theorem dX2_addCondition_112 : decode cX2_addCondition 112 = .ok (.return_, 1) := by decide +kernel
theorem dX2_mayCount_0 : decode cX2_mayCount 0 = .ok (.aload_n 0, 1) := by decide +kernel
theorem dX2_mayCount_1 : decode cX2_mayCount 1 = .ok (.getfield 20, 3) := by decide +kernel
theorem dX2_mayCount_4 : decode cX2_mayCount 4 = .ok (.getfield 112, 3) := by decide +kernel
theorem dX2_mayCount_7 : decode cX2_mayCount 7 = .ok (.iconst 1, 1) := by decide +kernel
theorem dX2_mayCount_8 : decode cX2_mayCount 8 = .ok (.dup2, 1) := by decide +kernel
theorem dX2_mayCount_9 : decode cX2_mayCount 9 = .ok (.iaload, 1) := by decide +kernel
theorem dX2_mayCount_10 : decode cX2_mayCount 10 = .ok (.iload_n 1, 1) := by decide +kernel
theorem dX2_mayCount_11 : decode cX2_mayCount 11 = .ok (.iadd, 1) := by decide +kernel
theorem dX2_mayCount_12 : decode cX2_mayCount 12 = .ok (.iastore, 1) := by decide +kernel
theorem dX2_mayCount_13 : decode cX2_mayCount 13 = .ok (.aload_n 0, 1) := by decide +kernel
theorem dX2_mayCount_14 : decode cX2_mayCount 14 = .ok (.getfield 20, 3) := by decide +kernel
theorem dX2_mayCount_17 : decode cX2_mayCount 17 = .ok (.getfield 112, 3) := by decide +kernel
theorem dX2_mayCount_20 : decode cX2_mayCount 20 = .ok (.iconst 1, 1) := by decide +kernel
theorem dX2_mayCount_21 : decode cX2_mayCount 21 = .ok (.iaload, 1) := by decide +kernel
theorem dX2_mayCount_22 : decode cX2_mayCount 22 = .ok (.bipush 100, 2) := by decide +kernel
theorem dX2_mayCount_24 : decode cX2_mayCount 24 = .ok (.if_icmp .le 11, 3) := by decide +kernel
theorem dX2_mayCount_27 : decode cX2_mayCount 27 = .ok (.aload_n 0, 1) := by decide +kernel
theorem dX2_mayCount_28 : decode cX2_mayCount 28 = .ok (.iconst 5, 1) := by decide +kernel
theorem dX2_mayCount_29 : decode cX2_mayCount 29 = .ok (.aload_n 2, 1) := by decide +kernel
theorem dX2_mayCount_30 : decode cX2_mayCount 30 = .ok (.invokevirtual 68, 3) := by decide +kernel
theorem dX2_mayCount_33 : decode cX2_mayCount 33 = .ok (.iconst 0, 1) := by decide +kernel
theorem dX2_mayCount_34 : decode cX2_mayCount 34 = .ok (.ireturn, 1) := by decide +kernel
theorem dX2_mayCount_35 : decode cX2_mayCount 35 = .ok (.iconst 1, 1) := by decide +kernel
theorem dX2_mayCount_36 : decode cX2_mayCount 36 = .ok (.ireturn, 1) := by decide +kernel
theorem dX2_refuse_0 : decode cX2_refuse 0 = .ok (.aload_n 0, 1) := by decide +kernel
theorem dX2_refuse_1 : decode cX2_refuse 1 = .ok (.iload_n 1, 1) := by decide +kernel
theorem dX2_refuse_2 : decode cX2_refuse 2 = .ok (.putfield 43, 3) := by decide +kernel
theorem dX2_refuse_5 : decode cX2_refuse 5 = .ok (.aload_n 0, 1) := by decide +kernel
theorem dX2_refuse_6 : decode cX2_refuse 6 = .ok (.aload_n 2, 1) := by decide +kernel
theorem dX2_refuse_7 : decode cX2_refuse 7 = .ok (.getfield 134, 3) := by decide +kernel
theorem dX2_refuse_10 : decode cX2_refuse 10 = .ok (.putfield 9, 3) := by decide +kernel
theorem dX2_refuse_13 : decode cX2_refuse 13 = .ok (.return_, 1) := by decide +kernel
theorem dX2_joinSign_0 : decode cX2_joinSign 0 = .ok (.aload_n 0, 1) := by decide +kernel
theorem dX2_joinSign_1 : decode cX2_joinSign 1 = .ok (.ldc 137, 2) := by decide +kernel
theorem dX2_joinSign_3 : decode cX2_joinSign 3 = .ok (.invokevirtual 86, 3) := by decide +kernel
theorem dX2_joinSign_6 : decode cX2_joinSign 6 = .ok (.ifCond .eq 5, 3) := by decide +kernel
theorem dX2_joinSign_9 : decode cX2_joinSign 9 = .ok (.iconst 2, 1) := by decide +kernel
theorem dX2_joinSign_10 : decode cX2_joinSign 10 = .ok (.ireturn, 1) := by decide +kernel
theorem dX2_joinSign_11 : decode cX2_joinSign 11 = .ok (.aload_n 0, 1) := by decide +kernel
theorem dX2_joinSign_12 : decode cX2_joinSign 12 = .ok (.ldc 139, 2) := by decide +kernel
theorem dX2_joinSign_14 : decode cX2_joinSign 14 = .ok (.invokevirtual 86, 3) := by decide +kernel
theorem dX2_joinSign_17 : decode cX2_joinSign 17 = .ok (.ifCond .ne 12, 3) := by decide +kernel
theorem dX2_joinSign_20 : decode cX2_joinSign 20 = .ok (.aload_n 0, 1) := by decide +kernel
theorem dX2_joinSign_21 : decode cX2_joinSign 21 = .ok (.ldc 84, 2) := by decide +kernel
theorem dX2_joinSign_23 : decode cX2_joinSign 23 = .ok (.invokevirtual 86, 3) := by decide +kernel
theorem dX2_joinSign_26 : decode cX2_joinSign 26 = .ok (.ifCond .eq 7, 3) := by decide +kernel
theorem dX2_joinSign_29 : decode cX2_joinSign 29 = .ok (.iconst 3, 1) := by decide +kernel
theorem dX2_joinSign_30 : decode cX2_joinSign 30 = .ok (.goto 4, 3) := by decide +kernel
theorem dX2_joinSign_33 : decode cX2_joinSign 33 = .ok (.iconst 0, 1) := by decide +kernel
theorem dX2_joinSign_34 : decode cX2_joinSign 34 = .ok (.ireturn, 1) := by decide +kernel
theorem dX2_conditionSign_0 : decode cX2_conditionSign 0 = .ok (.aload_n 0, 1) := by decide +kernel
theorem dX2_conditionSign_1 : decode cX2_conditionSign 1 = .ok (.getfield 46, 3) := by decide +kernel
theorem dX2_conditionSign_4 : decode cX2_conditionSign 4 = .ok (.astore_n 1, 1) := by decide +kernel
theorem dX2_conditionSign_5 : decode cX2_conditionSign 5 = .ok (.aload_n 1, 1) := by decide +kernel
theorem dX2_conditionSign_6 : decode cX2_conditionSign 6 = .ok (.ldc 141, 2) := by decide +kernel
theorem dX2_conditionSign_8 : decode cX2_conditionSign 8 = .ok (.invokevirtual 86, 3) := by decide +kernel
theorem dX2_conditionSign_11 : decode cX2_conditionSign 11 = .ok (.ifCond .ne 12, 3) := by decide +kernel
theorem dX2_conditionSign_14 : decode cX2_conditionSign 14 = .ok (.aload_n 1, 1) := by decide +kernel
theorem dX2_conditionSign_15 : decode cX2_conditionSign 15 = .ok (.ldc 143, 2) := by decide +kernel
theorem dX2_conditionSign_17 : decode cX2_conditionSign 17 = .ok (.invokevirtual 86, 3) := by decide +kernel
theorem dX2_conditionSign_20 : decode cX2_conditionSign 20 = .ok (.ifCond .eq 5, 3) := by decide +kernel
theorem dX2_conditionSign_23 : decode cX2_conditionSign 23 = .ok (.iconst 5, 1) := by decide +kernel
theorem dX2_conditionSign_24 : decode cX2_conditionSign 24 = .ok (.ireturn, 1) := by decide +kernel
theorem dX2_conditionSign_25 : decode cX2_conditionSign 25 = .ok (.aload_n 1, 1) := by decide +kernel
theorem dX2_conditionSign_26 : decode cX2_conditionSign 26 = .ok (.ldc 145, 2) := by decide +kernel
theorem dX2_conditionSign_28 : decode cX2_conditionSign 28 = .ok (.invokevirtual 86, 3) := by decide +kernel
theorem dX2_conditionSign_31 : decode cX2_conditionSign 31 = .ok (.ifCond .ne 12, 3) := by decide +kernel
theorem dX2_conditionSign_34 : decode cX2_conditionSign 34 = .ok (.aload_n 1, 1) := by decide +kernel
theorem dX2_conditionSign_35 : decode cX2_conditionSign 35 = .ok (.ldc 147, 2) := by decide +kernel
theorem dX2_conditionSign_37 : decode cX2_conditionSign 37 = .ok (.invokevirtual 86, 3) := by decide +kernel
theorem dX2_conditionSign_40 : decode cX2_conditionSign 40 = .ok (.ifCond .eq 6, 3) := by decide +kernel
theorem dX2_conditionSign_43 : decode cX2_conditionSign 43 = .ok (.bipush 6, 2) := by decide +kernel
theorem dX2_conditionSign_45 : decode cX2_conditionSign 45 = .ok (.ireturn, 1) := by decide +kernel
theorem dX2_conditionSign_46 : decode cX2_conditionSign 46 = .ok (.aload_n 1, 1) := by decide +kernel
theorem dX2_conditionSign_47 : decode cX2_conditionSign 47 = .ok (.ldc 149, 2) := by decide +kernel
theorem dX2_conditionSign_49 : decode cX2_conditionSign 49 = .ok (.invokevirtual 86, 3) := by decide +kernel
theorem dX2_conditionSign_52 : decode cX2_conditionSign 52 = .ok (.ifCond .eq 6, 3) := by decide +kernel
theorem dX2_conditionSign_55 : decode cX2_conditionSign 55 = .ok (.bipush 11, 2) := by decide +kernel
theorem dX2_conditionSign_57 : decode cX2_conditionSign 57 = .ok (.ireturn, 1) := by decide +kernel
theorem dX2_conditionSign_58 : decode cX2_conditionSign 58 = .ok (.aload_n 1, 1) := by decide +kernel
theorem dX2_conditionSign_59 : decode cX2_conditionSign 59 = .ok (.ldc 151, 2) := by decide +kernel
theorem dX2_conditionSign_61 : decode cX2_conditionSign 61 = .ok (.invokevirtual 86, 3) := by decide +kernel
theorem dX2_conditionSign_64 : decode cX2_conditionSign 64 = .ok (.ifCond .eq 6, 3) := by decide +kernel
theorem dX2_conditionSign_67 : decode cX2_conditionSign 67 = .ok (.bipush 12, 2) := by decide +kernel
theorem dX2_conditionSign_69 : decode cX2_conditionSign 69 = .ok (.ireturn, 1) := by decide +kernel
theorem dX2_conditionSign_70 : decode cX2_conditionSign 70 = .ok (.aload_n 1, 1) := by decide +kernel
theorem dX2_conditionSign_71 : decode cX2_conditionSign 71 = .ok (.ldc 153, 2) := by decide +kernel
theorem dX2_conditionSign_73 : decode cX2_conditionSign 73 = .ok (.invokevirtual 86, 3) := by decide +kernel
theorem dX2_conditionSign_76 : decode cX2_conditionSign 76 = .ok (.ifCond .eq 8, 3) := by decide +kernel
theorem dX2_conditionSign_79 : decode cX2_conditionSign 79 = .ok (.aload_n 0, 1) := by decide +kernel
theorem dX2_conditionSign_80 : decode cX2_conditionSign 80 = .ok (.invokestatic 155, 3) := by decide +kernel
theorem dX2_conditionSign_83 : decode cX2_conditionSign 83 = .ok (.ireturn, 1) := by decide +kernel
theorem dX2_conditionSign_84 : decode cX2_conditionSign 84 = .ok (.aload_n 1, 1) := by decide +kernel
theorem dX2_conditionSign_85 : decode cX2_conditionSign 85 = .ok (.ldc 158, 2) := by decide +kernel
theorem dX2_conditionSign_87 : decode cX2_conditionSign 87 = .ok (.invokevirtual 86, 3) := by decide +kernel
theorem dX2_conditionSign_90 : decode cX2_conditionSign 90 = .ok (.ifCond .eq 8, 3) := by decide +kernel
theorem dX2_conditionSign_93 : decode cX2_conditionSign 93 = .ok (.bipush 15, 2) := by decide +kernel
theorem dX2_conditionSign_95 : decode cX2_conditionSign 95 = .ok (.goto 7, 3) := by decide +kernel
theorem dX2_conditionSign_98 : decode cX2_conditionSign 98 = .ok (.aload_n 0, 1) := by decide +kernel
theorem dX2_conditionSign_99 : decode cX2_conditionSign 99 = .ok (.invokestatic 160, 3) := by decide +kernel
theorem dX2_conditionSign_102 : decode cX2_conditionSign 102 = .ok (.ireturn, 1) := by decide +kernel
theorem dX2_orderSign_0 : decode cX2_orderSign 0 = .ok (.aload_n 0, 1) := by decide +kernel
theorem dX2_orderSign_1 : decode cX2_orderSign 1 = .ok (.getfield 46, 3) := by decide +kernel
theorem dX2_orderSign_4 : decode cX2_orderSign 4 = .ok (.astore_n 1, 1) := by decide +kernel
theorem dX2_orderSign_5 : decode cX2_orderSign 5 = .ok (.aload_n 0, 1) := by decide +kernel
theorem dX2_orderSign_6 : decode cX2_orderSign 6 = .ok (.getfield 72, 3) := by decide +kernel
theorem dX2_orderSign_9 : decode cX2_orderSign 9 = .ok (.bipush 10, 2) := by decide +kernel
theorem dX2_orderSign_11 : decode cX2_orderSign 11 = .ok (.if_icmp .ne 7, 3) := by decide +kernel
theorem dX2_orderSign_14 : decode cX2_orderSign 14 = .ok (.iconst 1, 1) := by decide +kernel
theorem dX2_orderSign_15 : decode cX2_orderSign 15 = .ok (.goto 4, 3) := by decide +kernel
theorem dX2_orderSign_18 : decode cX2_orderSign 18 = .ok (.iconst 0, 1) := by decide +kernel
theorem dX2_orderSign_19 : decode cX2_orderSign 19 = .ok (.istore_n 2, 1) := by decide +kernel
theorem dX2_orderSign_20 : decode cX2_orderSign 20 = .ok (.aload_n 1, 1) := by decide +kernel
theorem dX2_orderSign_21 : decode cX2_orderSign 21 = .ok (.ldc 163, 2) := by decide +kernel
theorem dX2_orderSign_23 : decode cX2_orderSign 23 = .ok (.invokevirtual 86, 3) := by decide +kernel
theorem dX2_orderSign_26 : decode cX2_orderSign 26 = .ok (.ifCond .eq 6, 3) := by decide +kernel
theorem dX2_orderSign_29 : decode cX2_orderSign 29 = .ok (.bipush 7, 2) := by decide +kernel
theorem dX2_orderSign_31 : decode cX2_orderSign 31 = .ok (.ireturn, 1) := by decide +kernel
theorem dX2_orderSign_32 : decode cX2_orderSign 32 = .ok (.aload_n 1, 1) := by decide +kernel
theorem dX2_orderSign_33 : decode cX2_orderSign 33 = .ok (.ldc 165, 2) := by decide +kernel
theorem dX2_orderSign_35 : decode cX2_orderSign 35 = .ok (.invokevirtual 86, 3) := by decide +kernel
theorem dX2_orderSign_38 : decode cX2_orderSign 38 = .ok (.ifCond .eq 6, 3) := by decide +kernel
theorem dX2_orderSign_41 : decode cX2_orderSign 41 = .ok (.bipush 9, 2) := by decide +kernel
theorem dX2_orderSign_43 : decode cX2_orderSign 43 = .ok (.ireturn, 1) := by decide +kernel
theorem dX2_orderSign_44 : decode cX2_orderSign 44 = .ok (.aload_n 1, 1) := by decide +kernel
theorem dX2_orderSign_45 : decode cX2_orderSign 45 = .ok (.ldc 167, 2) := by decide +kernel
theorem dX2_orderSign_47 : decode cX2_orderSign 47 = .ok (.invokevirtual 86, 3) := by decide +kernel
theorem dX2_orderSign_50 : decode cX2_orderSign 50 = .ok (.ifCond .eq 14, 3) := by decide +kernel
theorem dX2_orderSign_53 : decode cX2_orderSign 53 = .ok (.iload_n 2, 1) := by decide +kernel
theorem dX2_orderSign_54 : decode cX2_orderSign 54 = .ok (.ifCond .eq 7, 3) := by decide +kernel
theorem dX2_orderSign_57 : decode cX2_orderSign 57 = .ok (.iconst 5, 1) := by decide +kernel
theorem dX2_orderSign_58 : decode cX2_orderSign 58 = .ok (.goto 5, 3) := by decide +kernel
theorem dX2_orderSign_61 : decode cX2_orderSign 61 = .ok (.bipush 8, 2) := by decide +kernel
theorem dX2_orderSign_63 : decode cX2_orderSign 63 = .ok (.ireturn, 1) := by decide +kernel
theorem dX2_orderSign_64 : decode cX2_orderSign 64 = .ok (.aload_n 1, 1) := by decide +kernel
theorem dX2_orderSign_65 : decode cX2_orderSign 65 = .ok (.ldc 169, 2) := by decide +kernel
theorem dX2_orderSign_67 : decode cX2_orderSign 67 = .ok (.invokevirtual 86, 3) := by decide +kernel
theorem dX2_orderSign_70 : decode cX2_orderSign 70 = .ok (.ifCond .eq 14, 3) := by decide +kernel
theorem dX2_orderSign_73 : decode cX2_orderSign 73 = .ok (.iload_n 2, 1) := by decide +kernel
theorem dX2_orderSign_74 : decode cX2_orderSign 74 = .ok (.ifCond .eq 7, 3) := by decide +kernel
theorem dX2_orderSign_77 : decode cX2_orderSign 77 = .ok (.iconst 5, 1) := by decide +kernel
theorem dX2_orderSign_78 : decode cX2_orderSign 78 = .ok (.goto 5, 3) := by decide +kernel
theorem dX2_orderSign_81 : decode cX2_orderSign 81 = .ok (.bipush 10, 2) := by decide +kernel
theorem dX2_orderSign_83 : decode cX2_orderSign 83 = .ok (.ireturn, 1) := by decide +kernel
theorem dX2_orderSign_84 : decode cX2_orderSign 84 = .ok (.iconst 0, 1) := by decide +kernel
theorem dX2_orderSign_85 : decode cX2_orderSign 85 = .ok (.ireturn, 1) := by decide +kernel
theorem dX2_elemSign_0 : decode cX2_elemSign 0 = .ok (.aload_n 0, 1) := by decide +kernel
theorem dX2_elemSign_1 : decode cX2_elemSign 1 = .ok (.getfield 38, 3) := by decide +kernel
theorem dX2_elemSign_4 : decode cX2_elemSign 4 = .ok (.ifnull 20, 3) := by decide +kernel
theorem dX2_elemSign_7 : decode cX2_elemSign 7 = .ok (.aload_n 0, 1) := by decide +kernel
theorem dX2_elemSign_8 : decode cX2_elemSign 8 = .ok (.getfield 38, 3) := by decide +kernel
theorem dX2_elemSign_11 : decode cX2_elemSign 11 = .ok (.getfield 46, 3) := by decide +kernel
theorem dX2_elemSign_14 : decode cX2_elemSign 14 = .ok (.invokestatic 64, 3) := by decide +kernel
theorem dX2_elemSign_17 : decode cX2_elemSign 17 = .ok (.ifCond .eq 7, 3) := by decide +kernel
theorem dX2_elemSign_20 : decode cX2_elemSign 20 = .ok (.iconst 1, 1) := by decide +kernel
theorem dX2_elemSign_21 : decode cX2_elemSign 21 = .ok (.goto 4, 3) := by decide +kernel
theorem dX2_elemSign_24 : decode cX2_elemSign 24 = .ok (.iconst 0, 1) := by decide +kernel
theorem dX2_elemSign_25 : decode cX2_elemSign 25 = .ok (.istore_n 1, 1) := by decide +kernel
theorem dX2_elemSign_26 : decode cX2_elemSign 26 = .ok (.aload_n 0, 1) := by decide +kernel
theorem dX2_elemSign_27 : decode cX2_elemSign 27 = .ok (.invokevirtual 108, 3) := by decide +kernel
theorem dX2_elemSign_30 : decode cX2_elemSign 30 = .ok (.ifCond .eq 12, 3) := by decide +kernel
theorem dX2_elemSign_33 : decode cX2_elemSign 33 = .ok (.iload_n 1, 1) := by decide +kernel
theorem dX2_elemSign_34 : decode cX2_elemSign 34 = .ok (.ifCond .ne 8, 3) := by decide +kernel
theorem dX2_elemSign_37 : decode cX2_elemSign 37 = .ok (.bipush 13, 2) := by decide +kernel
theorem dX2_elemSign_39 : decode cX2_elemSign 39 = .ok (.goto 5, 3) := by decide +kernel
theorem dX2_elemSign_42 : decode cX2_elemSign 42 = .ok (.bipush 14, 2) := by decide +kernel
theorem dX2_elemSign_44 : decode cX2_elemSign 44 = .ok (.ireturn, 1) := by decide +kernel
theorem dX2_isNegated_0 : decode cX2_isNegated 0 = .ok (.aload_n 0, 1) := by decide +kernel
theorem dX2_isNegated_1 : decode cX2_isNegated 1 = .ok (.getfield 46, 3) := by decide +kernel
theorem dX2_isNegated_4 : decode cX2_isNegated 4 = .ok (.astore_n 1, 1) := by decide +kernel
theorem dX2_isNegated_5 : decode cX2_isNegated 5 = .ok (.aload_n 1, 1) := by decide +kernel
theorem dX2_isNegated_6 : decode cX2_isNegated 6 = .ok (.ldc 149, 2) := by decide +kernel
theorem dX2_isNegated_8 : decode cX2_isNegated 8 = .ok (.invokevirtual 86, 3) := by decide +kernel
theorem dX2_isNegated_11 : decode cX2_isNegated 11 = .ok (.ifCond .eq 18, 3) := by decide +kernel
theorem dX2_isNegated_14 : decode cX2_isNegated 14 = .ok (.aload_n 0, 1) := by decide +kernel
theorem dX2_isNegated_15 : decode cX2_isNegated 15 = .ok (.getfield 171, 3) := by decide +kernel
theorem dX2_isNegated_18 : decode cX2_isNegated 18 = .ok (.lconst 0, 1) := by decide +kernel
theorem dX2_isNegated_19 : decode cX2_isNegated 19 = .ok (.lcmp, 1) := by decide +kernel
theorem dX2_isNegated_20 : decode cX2_isNegated 20 = .ok (.ifCond .ne 7, 3) := by decide +kernel
theorem dX2_isNegated_23 : decode cX2_isNegated 23 = .ok (.iconst 1, 1) := by decide +kernel
theorem dX2_isNegated_24 : decode cX2_isNegated 24 = .ok (.goto 4, 3) := by decide +kernel
theorem dX2_isNegated_27 : decode cX2_isNegated 27 = .ok (.iconst 0, 1) := by decide +kernel
theorem dX2_isNegated_28 : decode cX2_isNegated 28 = .ok (.ireturn, 1) := by decide +kernel
theorem dX2_isNegated_29 : decode cX2_isNegated 29 = .ok (.aload_n 1, 1) := by decide +kernel
theorem dX2_isNegated_30 : decode cX2_isNegated 30 = .ok (.ldc 143, 2) := by decide +kernel
theorem dX2_isNegated_32 : decode cX2_isNegated 32 = .ok (.invokevirtual 86, 3) := by decide +kernel
theorem dX2_isNegated_35 : decode cX2_isNegated 35 = .ok (.ifCond .ne 21, 3) := by decide +kernel
theorem dX2_isNegated_38 : decode cX2_isNegated 38 = .ok (.aload_n 1, 1) := by decide +kernel
theorem dX2_isNegated_39 : decode cX2_isNegated 39 = .ok (.ldc 147, 2) := by decide +kernel
theorem dX2_isNegated_41 : decode cX2_isNegated 41 = .ok (.invokevirtual 86, 3) := by decide +kernel
theorem dX2_isNegated_44 : decode cX2_isNegated 44 = .ok (.ifCond .ne 12, 3) := by decide +kernel
theorem dX2_isNegated_47 : decode cX2_isNegated 47 = .ok (.aload_n 1, 1) := by decide +kernel
theorem dX2_isNegated_48 : decode cX2_isNegated 48 = .ok (.ldc 158, 2) := by decide +kernel
theorem dX2_isNegated_50 : decode cX2_isNegated 50 = .ok (.invokevirtual 86, 3) := by decide +kernel
theorem dX2_isNegated_53 : decode cX2_isNegated 53 = .ok (.ifCond .eq 7, 3) := by decide +kernel
theorem dX2_isNegated_56 : decode cX2_isNegated 56 = .ok (.iconst 1, 1) := by decide +kernel
theorem dX2_isNegated_57 : decode cX2_isNegated 57 = .ok (.goto 4, 3) := by decide +kernel
theorem dX2_isNegated_60 : decode cX2_isNegated 60 = .ok (.iconst 0, 1) := by decide +kernel
theorem dX2_isNegated_61 : decode cX2_isNegated 61 = .ok (.ireturn, 1) := by decide +kernel
theorem dX2_isValueFor_0 : decode cX2_isValueFor 0 = .ok (.iload_n 0, 1) := by decide +kernel
theorem dX2_isValueFor_1 : decode cX2_isValueFor 1 = .ok (.tableswitch 129 6 15 #[55, 129, 129, 129, 129, 69, 84, 110, 110, 124], 55) := by decide +kernel
theorem dX2_isValueFor_56 : decode cX2_isValueFor 56 = .ok (.aload_n 1, 1) := by decide +kernel
theorem dX2_isValueFor_57 : decode cX2_isValueFor 57 = .ok (.getfield 72, 3) := by decide +kernel
theorem dX2_isValueFor_60 : decode cX2_isValueFor 60 = .ok (.iconst 4, 1) := by decide +kernel
theorem dX2_isValueFor_61 : decode cX2_isValueFor 61 = .ok (.if_icmp .ne 7, 3) := by decide +kernel
theorem dX2_isValueFor_64 : decode cX2_isValueFor 64 = .ok (.iconst 1, 1) := by decide +kernel
theorem dX2_isValueFor_65 : decode cX2_isValueFor 65 = .ok (.goto 4, 3) := by decide +kernel
theorem dX2_isValueFor_68 : decode cX2_isValueFor 68 = .ok (.iconst 0, 1) := by decide +kernel
theorem dX2_isValueFor_69 : decode cX2_isValueFor 69 = .ok (.ireturn, 1) := by decide +kernel
theorem dX2_isValueFor_70 : decode cX2_isValueFor 70 = .ok (.aload_n 1, 1) := by decide +kernel
theorem dX2_isValueFor_71 : decode cX2_isValueFor 71 = .ok (.getfield 72, 3) := by decide +kernel
theorem dX2_isValueFor_74 : decode cX2_isValueFor 74 = .ok (.bipush 8, 2) := by decide +kernel
theorem dX2_isValueFor_76 : decode cX2_isValueFor 76 = .ok (.if_icmp .ne 7, 3) := by decide +kernel
theorem dX2_isValueFor_79 : decode cX2_isValueFor 79 = .ok (.iconst 1, 1) := by decide +kernel
theorem dX2_isValueFor_80 : decode cX2_isValueFor 80 = .ok (.goto 4, 3) := by decide +kernel
theorem dX2_isValueFor_83 : decode cX2_isValueFor 83 = .ok (.iconst 0, 1) := by decide +kernel
theorem dX2_isValueFor_84 : decode cX2_isValueFor 84 = .ok (.ireturn, 1) := by decide +kernel
theorem dX2_isValueFor_85 : decode cX2_isValueFor 85 = .ok (.aload_n 1, 1) := by decide +kernel
theorem dX2_isValueFor_86 : decode cX2_isValueFor 86 = .ok (.getfield 72, 3) := by decide +kernel
theorem dX2_isValueFor_89 : decode cX2_isValueFor 89 = .ok (.invokestatic 175, 3) := by decide +kernel
theorem dX2_isValueFor_92 : decode cX2_isValueFor 92 = .ok (.iconst 2, 1) := by decide +kernel
theorem dX2_isValueFor_93 : decode cX2_isValueFor 93 = .ok (.if_icmp .ne 16, 3) := by decide +kernel
theorem dX2_isValueFor_96 : decode cX2_isValueFor 96 = .ok (.aload_n 1, 1) := by decide +kernel
theorem dX2_isValueFor_97 : decode cX2_isValueFor 97 = .ok (.getfield 171, 3) := by decide +kernel
theorem dX2_isValueFor_100 : decode cX2_isValueFor 100 = .ok (.lconst 0, 1) := by decide +kernel
theorem dX2_isValueFor_101 : decode cX2_isValueFor 101 = .ok (.lcmp, 1) := by decide +kernel
theorem dX2_isValueFor_102 : decode cX2_isValueFor 102 = .ok (.ifCond .lt 7, 3) := by decide +kernel
theorem dX2_isValueFor_105 : decode cX2_isValueFor 105 = .ok (.iconst 1, 1) := by decide +kernel
theorem dX2_isValueFor_106 : decode cX2_isValueFor 106 = .ok (.goto 4, 3) := by decide +kernel
theorem dX2_isValueFor_109 : decode cX2_isValueFor 109 = .ok (.iconst 0, 1) := by decide +kernel
theorem dX2_isValueFor_110 : decode cX2_isValueFor 110 = .ok (.ireturn, 1) := by decide +kernel
theorem dX2_isValueFor_111 : decode cX2_isValueFor 111 = .ok (.aload_n 1, 1) := by decide +kernel
theorem dX2_isValueFor_112 : decode cX2_isValueFor 112 = .ok (.getfield 72, 3) := by decide +kernel
theorem dX2_isValueFor_115 : decode cX2_isValueFor 115 = .ok (.iconst 3, 1) := by decide +kernel
theorem dX2_isValueFor_116 : decode cX2_isValueFor 116 = .ok (.if_icmp .ne 7, 3) := by decide +kernel
theorem dX2_isValueFor_119 : decode cX2_isValueFor 119 = .ok (.iconst 1, 1) := by decide +kernel
theorem dX2_isValueFor_120 : decode cX2_isValueFor 120 = .ok (.goto 4, 3) := by decide +kernel
theorem dX2_isValueFor_123 : decode cX2_isValueFor 123 = .ok (.iconst 0, 1) := by decide +kernel
theorem dX2_isValueFor_124 : decode cX2_isValueFor 124 = .ok (.ireturn, 1) := by decide +kernel
theorem dX2_isValueFor_125 : decode cX2_isValueFor 125 = .ok (.aload_n 1, 1) := by decide +kernel
theorem dX2_isValueFor_126 : decode cX2_isValueFor 126 = .ok (.invokevirtual 108, 3) := by decide +kernel
theorem dX2_isValueFor_129 : decode cX2_isValueFor 129 = .ok (.ireturn, 1) := by decide +kernel
theorem dX2_isValueFor_130 : decode cX2_isValueFor 130 = .ok (.iconst 1, 1) := by decide +kernel
theorem dX2_isValueFor_131 : decode cX2_isValueFor 131 = .ok (.ireturn, 1) := by decide +kernel
theorem dX3_classOf_0 : decode cX3_classOf 0 = .ok (.iload_n 0, 1) := by decide +kernel
theorem dX3_classOf_1 : decode cX3_classOf 1 = .ok (.tableswitch 96 2 18 #[87, 89, 91, 96, 96, 96, 93, 96, 83, 96, 96, 96, 96, 96, 85, 96, 85], 83) := by decide +kernel
theorem dX3_classOf_84 : decode cX3_classOf 84 = .ok (.iconst 1, 1) := by decide +kernel
theorem dX3_classOf_85 : decode cX3_classOf 85 = .ok (.ireturn, 1) := by decide +kernel
theorem dX3_classOf_86 : decode cX3_classOf 86 = .ok (.iconst 2, 1) := by decide +kernel
theorem dX3_classOf_87 : decode cX3_classOf 87 = .ok (.ireturn, 1) := by decide +kernel
theorem dX3_classOf_88 : decode cX3_classOf 88 = .ok (.iconst 3, 1) := by decide +kernel
theorem dX3_classOf_89 : decode cX3_classOf 89 = .ok (.ireturn, 1) := by decide +kernel
theorem dX3_classOf_90 : decode cX3_classOf 90 = .ok (.iconst 4, 1) := by decide +kernel
theorem dX3_classOf_91 : decode cX3_classOf 91 = .ok (.ireturn, 1) := by decide +kernel
theorem dX3_classOf_92 : decode cX3_classOf 92 = .ok (.iconst 5, 1) := by decide +kernel
theorem dX3_classOf_93 : decode cX3_classOf 93 = .ok (.ireturn, 1) := by decide +kernel
theorem dX3_classOf_94 : decode cX3_classOf 94 = .ok (.bipush 6, 2) := by decide +kernel
theorem dX3_classOf_96 : decode cX3_classOf 96 = .ok (.ireturn, 1) := by decide +kernel
theorem dX3_classOf_97 : decode cX3_classOf 97 = .ok (.iconst 0, 1) := by decide +kernel
theorem dX3_classOf_98 : decode cX3_classOf 98 = .ok (.ireturn, 1) := by decide +kernel
theorem dX4_init_0 : decode cX4_init 0 = .ok (.aload_n 0, 1) := by decide +kernel
theorem dX4_init_1 : decode cX4_init 1 = .ok (.invokespecial 3, 3) := by decide +kernel
theorem dX4_init_4 : decode cX4_init 4 = .ok (.aload_n 0, 1) := by decide +kernel
theorem dX4_init_5 : decode cX4_init 5 = .ok (.new 9, 3) := by decide +kernel
theorem dX4_init_8 : decode cX4_init 8 = .ok (.dup, 1) := by decide +kernel
theorem dX4_init_9 : decode cX4_init 9 = .ok (.iconst 0, 1) := by decide +kernel
theorem dX4_init_10 : decode cX4_init 10 = .ok (.iconst (-1), 1) := by decide +kernel
theorem dX4_init_11 : decode cX4_init 11 = .ok (.ldc 13, 2) := by decide +kernel
theorem dX4_init_13 : decode cX4_init 13 = .ok (.invokespecial 15, 3) := by decide +kernel
theorem dX4_init_16 : decode cX4_init 16 = .ok (.putfield 18, 3) := by decide +kernel
theorem dX4_init_19 : decode cX4_init 19 = .ok (.return_, 1) := by decide +kernel
theorem dX4_firstFailing_0 : decode cX4_firstFailing 0 = .ok (.iconst 0, 1) := by decide +kernel
theorem dX4_firstFailing_1 : decode cX4_firstFailing 1 = .ok (.istore 4, 2) := by decide +kernel
theorem dX4_firstFailing_3 : decode cX4_firstFailing 3 = .ok (.aload_n 1, 1) := by decide +kernel
theorem dX4_firstFailing_4 : decode cX4_firstFailing 4 = .ok (.getfield 24, 3) := by decide +kernel
theorem dX4_firstFailing_7 : decode cX4_firstFailing 7 = .ok (.astore 5, 2) := by decide +kernel
theorem dX4_firstFailing_9 : decode cX4_firstFailing 9 = .ok (.aload 5, 2) := by decide +kernel
theorem dX4_firstFailing_11 : decode cX4_firstFailing 11 = .ok (.ifnull 30, 3) := by decide +kernel
theorem dX4_firstFailing_14 : decode cX4_firstFailing 14 = .ok (.aload_n 0, 1) := by decide +kernel
theorem dX4_firstFailing_15 : decode cX4_firstFailing 15 = .ok (.aload 5, 2) := by decide +kernel
theorem dX4_firstFailing_17 : decode cX4_firstFailing 17 = .ok (.aload_n 2, 1) := by decide +kernel
theorem dX4_firstFailing_18 : decode cX4_firstFailing 18 = .ok (.iload_n 3, 1) := by decide +kernel
theorem dX4_firstFailing_19 : decode cX4_firstFailing 19 = .ok (.invokevirtual 30, 3) := by decide +kernel
theorem dX4_firstFailing_22 : decode cX4_firstFailing 22 = .ok (.ifCond .ne 6, 3) := by decide +kernel
theorem dX4_firstFailing_25 : decode cX4_firstFailing 25 = .ok (.iload 4, 2) := by decide +kernel
theorem dX4_firstFailing_27 : decode cX4_firstFailing 27 = .ok (.ireturn, 1) := by decide +kernel
theorem dX4_firstFailing_28 : decode cX4_firstFailing 28 = .ok (.iinc 4 1, 3) := by decide +kernel
theorem dX4_firstFailing_31 : decode cX4_firstFailing 31 = .ok (.aload 5, 2) := by decide +kernel
theorem dX4_firstFailing_33 : decode cX4_firstFailing 33 = .ok (.getfield 34, 3) := by decide +kernel
theorem dX4_firstFailing_36 : decode cX4_firstFailing 36 = .ok (.astore 5, 2) := by decide +kernel
theorem dX4_firstFailing_38 : decode cX4_firstFailing 38 = .ok (.goto (-29), 3) := by decide +kernel
theorem dX4_firstFailing_41 : decode cX4_firstFailing 41 = .ok (.iconst (-1), 1) := by decide +kernel
theorem dX4_firstFailing_42 : decode cX4_firstFailing 42 = .ok (.ireturn, 1) := by decide +kernel
theorem dX4_clauseHolds_0 : decode cX4_clauseHolds 0 = .ok (.iload_n 3, 1) := by decide +kernel
theorem dX4_clauseHolds_1 : decode cX4_clauseHolds 1 = .ok (.bipush 40, 2) := by decide +kernel
theorem dX4_clauseHolds_3 : decode cX4_clauseHolds 3 = .ok (.if_icmp .le 5, 3) := by decide +kernel
theorem dX4_clauseHolds_6 : decode cX4_clauseHolds 6 = .ok (.iconst 0, 1) := by decide +kernel
theorem dX4_clauseHolds_7 : decode cX4_clauseHolds 7 = .ok (.ireturn, 1) := by decide +kernel
theorem dX4_clauseHolds_8 : decode cX4_clauseHolds 8 = .ok (.aload_n 1, 1) := by decide +kernel
theorem dX4_clauseHolds_9 : decode cX4_clauseHolds 9 = .ok (.getfield 37, 3) := by decide +kernel
theorem dX4_clauseHolds_12 : decode cX4_clauseHolds 12 = .ok (.lookupswitch 66 #[(2, 28), (3, 45)], 28) := by decide +kernel
theorem dX4_clauseHolds_40 : decode cX4_clauseHolds 40 = .ok (.aload_n 0, 1) := by decide +kernel
theorem dX4_clauseHolds_41 : decode cX4_clauseHolds 41 = .ok (.iconst 0, 1) := by decide +kernel
theorem dX4_clauseHolds_42 : decode cX4_clauseHolds 42 = .ok (.aload_n 1, 1) := by decide +kernel
theorem dX4_clauseHolds_43 : decode cX4_clauseHolds 43 = .ok (.aload_n 2, 1) := by decide +kernel
theorem dX4_clauseHolds_44 : decode cX4_clauseHolds 44 = .ok (.iload_n 3, 1) := by decide +kernel
theorem dX4_clauseHolds_45 : decode cX4_clauseHolds 45 = .ok (.invokevirtual 41, 3) := by decide +kernel
theorem dX4_clauseHolds_48 : decode cX4_clauseHolds 48 = .ok (.ifCond .ne 7, 3) := by decide +kernel
theorem dX4_clauseHolds_51 : decode cX4_clauseHolds 51 = .ok (.iconst 1, 1) := by decide +kernel
theorem dX4_clauseHolds_52 : decode cX4_clauseHolds 52 = .ok (.goto 4, 3) := by decide +kernel
theorem dX4_clauseHolds_55 : decode cX4_clauseHolds 55 = .ok (.iconst 0, 1) := by decide +kernel
theorem dX4_clauseHolds_56 : decode cX4_clauseHolds 56 = .ok (.ireturn, 1) := by decide +kernel
theorem dX4_clauseHolds_57 : decode cX4_clauseHolds 57 = .ok (.aload_n 0, 1) := by decide +kernel
theorem dX4_clauseHolds_58 : decode cX4_clauseHolds 58 = .ok (.iconst 1, 1) := by decide +kernel
theorem dX4_clauseHolds_59 : decode cX4_clauseHolds 59 = .ok (.aload_n 1, 1) := by decide +kernel
theorem dX4_clauseHolds_60 : decode cX4_clauseHolds 60 = .ok (.aload_n 2, 1) := by decide +kernel
theorem dX4_clauseHolds_61 : decode cX4_clauseHolds 61 = .ok (.iload_n 3, 1) := by decide +kernel
theorem dX4_clauseHolds_62 : decode cX4_clauseHolds 62 = .ok (.invokevirtual 41, 3) := by decide +kernel
theorem dX4_clauseHolds_65 : decode cX4_clauseHolds 65 = .ok (.aload_n 1, 1) := by decide +kernel
theorem dX4_clauseHolds_66 : decode cX4_clauseHolds 66 = .ok (.getfield 45, 3) := by decide +kernel
theorem dX4_clauseHolds_69 : decode cX4_clauseHolds 69 = .ok (.if_icmp .eq 7, 3) := by decide +kernel
theorem dX4_clauseHolds_72 : decode cX4_clauseHolds 72 = .ok (.iconst 1, 1) := by decide +kernel
theorem dX4_clauseHolds_73 : decode cX4_clauseHolds 73 = .ok (.goto 4, 3) := by decide +kernel
theorem dX4_clauseHolds_76 : decode cX4_clauseHolds 76 = .ok (.iconst 0, 1) := by decide +kernel
theorem dX4_clauseHolds_77 : decode cX4_clauseHolds 77 = .ok (.ireturn, 1) := by decide +kernel
theorem dX4_clauseHolds_78 : decode cX4_clauseHolds 78 = .ok (.aload_n 0, 1) := by decide +kernel
theorem dX4_clauseHolds_79 : decode cX4_clauseHolds 79 = .ok (.aload_n 1, 1) := by decide +kernel
theorem dX4_clauseHolds_80 : decode cX4_clauseHolds 80 = .ok (.aload_n 1, 1) := by decide +kernel
theorem dX4_clauseHolds_81 : decode cX4_clauseHolds 81 = .ok (.getfield 49, 3) := by decide +kernel
theorem dX4_clauseHolds_84 : decode cX4_clauseHolds 84 = .ok (.aload_n 2, 1) := by decide +kernel
theorem dX4_clauseHolds_85 : decode cX4_clauseHolds 85 = .ok (.iload_n 3, 1) := by decide +kernel
theorem dX4_clauseHolds_86 : decode cX4_clauseHolds 86 = .ok (.invokevirtual 53, 3) := by decide +kernel
theorem dX4_clauseHolds_89 : decode cX4_clauseHolds 89 = .ok (.ireturn, 1) := by decide +kernel
theorem dX4_somePartIs_0 : decode cX4_somePartIs 0 = .ok (.aload_n 2, 1) := by decide +kernel
theorem dX4_somePartIs_1 : decode cX4_somePartIs 1 = .ok (.getfield 24, 3) := by decide +kernel
theorem dX4_somePartIs_4 : decode cX4_somePartIs 4 = .ok (.astore 5, 2) := by decide +kernel
theorem dX4_somePartIs_6 : decode cX4_somePartIs 6 = .ok (.aload 5, 2) := by decide +kernel
theorem dX4_somePartIs_8 : decode cX4_somePartIs 8 = .ok (.ifnull 38, 3) := by decide +kernel
theorem dX4_somePartIs_11 : decode cX4_somePartIs 11 = .ok (.aload_n 0, 1) := by decide +kernel
theorem dX4_somePartIs_12 : decode cX4_somePartIs 12 = .ok (.aload 5, 2) := by decide +kernel
theorem dX4_somePartIs_14 : decode cX4_somePartIs 14 = .ok (.aload_n 3, 1) := by decide +kernel
theorem dX4_somePartIs_15 : decode cX4_somePartIs 15 = .ok (.iload 4, 2) := by decide +kernel
theorem dX4_somePartIs_17 : decode cX4_somePartIs 17 = .ok (.iconst 1, 1) := by decide +kernel
theorem dX4_somePartIs_18 : decode cX4_somePartIs 18 = .ok (.iadd, 1) := by decide +kernel
theorem dX4_somePartIs_19 : decode cX4_somePartIs 19 = .ok (.invokevirtual 57, 3) := by decide +kernel
theorem dX4_somePartIs_22 : decode cX4_somePartIs 22 = .ok (.ifCond .ge 7, 3) := by decide +kernel
theorem dX4_somePartIs_25 : decode cX4_somePartIs 25 = .ok (.iconst 1, 1) := by decide +kernel
theorem dX4_somePartIs_26 : decode cX4_somePartIs 26 = .ok (.goto 4, 3) := by decide +kernel
theorem dX4_somePartIs_29 : decode cX4_somePartIs 29 = .ok (.iconst 0, 1) := by decide +kernel
theorem dX4_somePartIs_30 : decode cX4_somePartIs 30 = .ok (.iload_n 1, 1) := by decide +kernel
theorem dX4_somePartIs_31 : decode cX4_somePartIs 31 = .ok (.if_icmp .ne 5, 3) := by decide +kernel
theorem dX4_somePartIs_34 : decode cX4_somePartIs 34 = .ok (.iconst 1, 1) := by decide +kernel
theorem dX4_somePartIs_35 : decode cX4_somePartIs 35 = .ok (.ireturn, 1) := by decide +kernel
theorem dX4_somePartIs_36 : decode cX4_somePartIs 36 = .ok (.aload 5, 2) := by decide +kernel
theorem dX4_somePartIs_38 : decode cX4_somePartIs 38 = .ok (.getfield 34, 3) := by decide +kernel
theorem dX4_somePartIs_41 : decode cX4_somePartIs 41 = .ok (.astore 5, 2) := by decide +kernel
theorem dX4_somePartIs_43 : decode cX4_somePartIs 43 = .ok (.goto (-37), 3) := by decide +kernel
theorem dX4_somePartIs_46 : decode cX4_somePartIs 46 = .ok (.iconst 0, 1) := by decide +kernel
theorem dX4_somePartIs_47 : decode cX4_somePartIs 47 = .ok (.ireturn, 1) := by decide +kernel
theorem dX4_conditionsHold_0 : decode cX4_conditionsHold 0 = .ok (.iload 4, 2) := by decide +kernel
theorem dX4_conditionsHold_2 : decode cX4_conditionsHold 2 = .ok (.bipush 40, 2) := by decide +kernel
theorem dX4_conditionsHold_4 : decode cX4_conditionsHold 4 = .ok (.if_icmp .le 5, 3) := by decide +kernel
theorem dX4_conditionsHold_7 : decode cX4_conditionsHold 7 = .ok (.iconst 0, 1) := by decide +kernel
theorem dX4_conditionsHold_8 : decode cX4_conditionsHold 8 = .ok (.ireturn, 1) := by decide +kernel
theorem dX4_conditionsHold_9 : decode cX4_conditionsHold 9 = .ok (.aload_n 1, 1) := by decide +kernel
theorem dX4_conditionsHold_10 : decode cX4_conditionsHold 10 = .ok (.getfield 24, 3) := by decide +kernel
theorem dX4_conditionsHold_13 : decode cX4_conditionsHold 13 = .ok (.astore 5, 2) := by decide +kernel
theorem dX4_conditionsHold_15 : decode cX4_conditionsHold 15 = .ok (.aload 5, 2) := by decide +kernel
theorem dX4_conditionsHold_17 : decode cX4_conditionsHold 17 = .ok (.ifnull 28, 3) := by decide +kernel
theorem dX4_conditionsHold_20 : decode cX4_conditionsHold 20 = .ok (.aload_n 0, 1) := by decide +kernel
theorem dX4_conditionsHold_21 : decode cX4_conditionsHold 21 = .ok (.aload 5, 2) := by decide +kernel
theorem dX4_conditionsHold_23 : decode cX4_conditionsHold 23 = .ok (.aload_n 2, 1) := by decide +kernel
theorem dX4_conditionsHold_24 : decode cX4_conditionsHold 24 = .ok (.aload_n 3, 1) := by decide +kernel
theorem dX4_conditionsHold_25 : decode cX4_conditionsHold 25 = .ok (.iload 4, 2) := by decide +kernel
theorem dX4_conditionsHold_27 : decode cX4_conditionsHold 27 = .ok (.invokevirtual 61, 3) := by decide +kernel
theorem dX4_conditionsHold_30 : decode cX4_conditionsHold 30 = .ok (.ifCond .ne 5, 3) := by decide +kernel
theorem dX4_conditionsHold_33 : decode cX4_conditionsHold 33 = .ok (.iconst 0, 1) := by decide +kernel
theorem dX4_conditionsHold_34 : decode cX4_conditionsHold 34 = .ok (.ireturn, 1) := by decide +kernel
theorem dX4_conditionsHold_35 : decode cX4_conditionsHold 35 = .ok (.aload 5, 2) := by decide +kernel
theorem dX4_conditionsHold_37 : decode cX4_conditionsHold 37 = .ok (.getfield 34, 3) := by decide +kernel
theorem dX4_conditionsHold_40 : decode cX4_conditionsHold 40 = .ok (.astore 5, 2) := by decide +kernel
theorem dX4_conditionsHold_42 : decode cX4_conditionsHold 42 = .ok (.goto (-27), 3) := by decide +kernel
theorem dX4_conditionsHold_45 : decode cX4_conditionsHold 45 = .ok (.iconst 1, 1) := by decide +kernel
theorem dX4_conditionsHold_46 : decode cX4_conditionsHold 46 = .ok (.ireturn, 1) := by decide +kernel
theorem dX4_conditionHolds_0 : decode cX4_conditionHolds 0 = .ok (.aload_n 1, 1) := by decide +kernel
theorem dX4_conditionHolds_1 : decode cX4_conditionHolds 1 = .ok (.getfield 37, 3) := by decide +kernel
theorem dX4_conditionHolds_4 : decode cX4_conditionHolds 4 = .ok (.bipush 15, 2) := by decide +kernel
theorem dX4_conditionHolds_6 : decode cX4_conditionHolds 6 = .ok (.if_icmp .ne 19, 3) := by decide +kernel
theorem dX4_conditionHolds_9 : decode cX4_conditionHolds 9 = .ok (.aload_n 0, 1) := by decide +kernel
theorem dX4_conditionHolds_10 : decode cX4_conditionHolds 10 = .ok (.aload_n 1, 1) := by decide +kernel
theorem dX4_conditionHolds_11 : decode cX4_conditionHolds 11 = .ok (.aload_n 2, 1) := by decide +kernel
theorem dX4_conditionHolds_12 : decode cX4_conditionHolds 12 = .ok (.aload_n 3, 1) := by decide +kernel
theorem dX4_conditionHolds_13 : decode cX4_conditionHolds 13 = .ok (.iload 4, 2) := by decide +kernel
theorem dX4_conditionHolds_15 : decode cX4_conditionHolds 15 = .ok (.iconst 1, 1) := by decide +kernel
theorem dX4_conditionHolds_16 : decode cX4_conditionHolds 16 = .ok (.iadd, 1) := by decide +kernel
theorem dX4_conditionHolds_17 : decode cX4_conditionHolds 17 = .ok (.invokevirtual 53, 3) := by decide +kernel
theorem dX4_conditionHolds_20 : decode cX4_conditionHolds 20 = .ok (.istore 5, 2) := by decide +kernel
theorem dX4_conditionHolds_22 : decode cX4_conditionHolds 22 = .ok (.goto 46, 3) := by decide +kernel
theorem dX4_conditionHolds_25 : decode cX4_conditionHolds 25 = .ok (.aload_n 0, 1) := by decide +kernel
theorem dX4_conditionHolds_26 : decode cX4_conditionHolds 26 = .ok (.aload_n 1, 1) := by decide +kernel
theorem dX4_conditionHolds_27 : decode cX4_conditionHolds 27 = .ok (.aload_n 2, 1) := by decide +kernel
theorem dX4_conditionHolds_28 : decode cX4_conditionHolds 28 = .ok (.aload_n 3, 1) := by decide +kernel
theorem dX4_conditionHolds_29 : decode cX4_conditionHolds 29 = .ok (.iload 4, 2) := by decide +kernel
theorem dX4_conditionHolds_31 : decode cX4_conditionHolds 31 = .ok (.invokevirtual 64, 3) := by decide +kernel
theorem dX4_conditionHolds_34 : decode cX4_conditionHolds 34 = .ok (.istore 6, 2) := by decide +kernel
theorem dX4_conditionHolds_36 : decode cX4_conditionHolds 36 = .ok (.iload 6, 2) := by decide +kernel
theorem dX4_conditionHolds_38 : decode cX4_conditionHolds 38 = .ok (.ifCond .ne 17, 3) := by decide +kernel
theorem dX4_conditionHolds_41 : decode cX4_conditionHolds 41 = .ok (.aload_n 0, 1) := by decide +kernel
theorem dX4_conditionHolds_42 : decode cX4_conditionHolds 42 = .ok (.aload_n 1, 1) := by decide +kernel
theorem dX4_conditionHolds_43 : decode cX4_conditionHolds 43 = .ok (.aload_n 0, 1) := by decide +kernel
theorem dX4_conditionHolds_44 : decode cX4_conditionHolds 44 = .ok (.getfield 18, 3) := by decide +kernel
theorem dX4_conditionHolds_47 : decode cX4_conditionHolds 47 = .ok (.iload 4, 2) := by decide +kernel
theorem dX4_conditionHolds_49 : decode cX4_conditionHolds 49 = .ok (.invokevirtual 68, 3) := by decide +kernel
theorem dX4_conditionHolds_52 : decode cX4_conditionHolds 52 = .ok (.goto 5, 3) := by decide +kernel
theorem dX4_conditionHolds_55 : decode cX4_conditionHolds 55 = .ok (.iload 6, 2) := by decide +kernel
theorem dX4_conditionHolds_57 : decode cX4_conditionHolds 57 = .ok (.iconst 2, 1) := by decide +kernel
theorem dX4_conditionHolds_58 : decode cX4_conditionHolds 58 = .ok (.if_icmp .ne 7, 3) := by decide +kernel
theorem dX4_conditionHolds_61 : decode cX4_conditionHolds 61 = .ok (.iconst 1, 1) := by decide +kernel
theorem dX4_conditionHolds_62 : decode cX4_conditionHolds 62 = .ok (.goto 4, 3) := by decide +kernel
theorem dX4_conditionHolds_65 : decode cX4_conditionHolds 65 = .ok (.iconst 0, 1) := by decide +kernel
theorem dX4_conditionHolds_66 : decode cX4_conditionHolds 66 = .ok (.istore 5, 2) := by decide +kernel
theorem dX4_conditionHolds_68 : decode cX4_conditionHolds 68 = .ok (.iload 5, 2) := by decide +kernel
theorem dX4_conditionHolds_70 : decode cX4_conditionHolds 70 = .ok (.aload_n 1, 1) := by decide +kernel
theorem dX4_conditionHolds_71 : decode cX4_conditionHolds 71 = .ok (.getfield 45, 3) := by decide +kernel
theorem dX4_conditionHolds_74 : decode cX4_conditionHolds 74 = .ok (.if_icmp .eq 7, 3) := by decide +kernel
theorem dX4_conditionHolds_77 : decode cX4_conditionHolds 77 = .ok (.iconst 1, 1) := by decide +kernel
theorem dX4_conditionHolds_78 : decode cX4_conditionHolds 78 = .ok (.goto 4, 3) := by decide +kernel
theorem dX4_conditionHolds_81 : decode cX4_conditionHolds 81 = .ok (.iconst 0, 1) := by decide +kernel
theorem dX4_conditionHolds_82 : decode cX4_conditionHolds 82 = .ok (.ireturn, 1) := by decide +kernel
theorem dX4_tryLeaves_0 : decode cX4_tryLeaves 0 = .ok (.iload 4, 2) := by decide +kernel
theorem dX4_tryLeaves_2 : decode cX4_tryLeaves 2 = .ok (.bipush 40, 2) := by decide +kernel
theorem dX4_tryLeaves_4 : decode cX4_tryLeaves 4 = .ok (.if_icmp .le 5, 3) := by decide +kernel
theorem dX4_tryLeaves_7 : decode cX4_tryLeaves 7 = .ok (.iconst 0, 1) := by decide +kernel
theorem dX4_tryLeaves_8 : decode cX4_tryLeaves 8 = .ok (.ireturn, 1) := by decide +kernel
theorem dX4_tryLeaves_9 : decode cX4_tryLeaves 9 = .ok (.aload_n 2, 1) := by decide +kernel
theorem dX4_tryLeaves_10 : decode cX4_tryLeaves 10 = .ok (.ifnonnull 12, 3) := by decide +kernel
theorem dX4_tryLeaves_13 : decode cX4_tryLeaves 13 = .ok (.aload_n 0, 1) := by decide +kernel
theorem dX4_tryLeaves_14 : decode cX4_tryLeaves 14 = .ok (.aload_n 1, 1) := by decide +kernel
theorem dX4_tryLeaves_15 : decode cX4_tryLeaves 15 = .ok (.aload_n 3, 1) := by decide +kernel
theorem dX4_tryLeaves_16 : decode cX4_tryLeaves 16 = .ok (.iload 4, 2) := by decide +kernel
theorem dX4_tryLeaves_18 : decode cX4_tryLeaves 18 = .ok (.invokevirtual 68, 3) := by decide +kernel
theorem dX4_tryLeaves_21 : decode cX4_tryLeaves 21 = .ok (.ireturn, 1) := by decide +kernel
theorem dX4_tryLeaves_22 : decode cX4_tryLeaves 22 = .ok (.aload_n 3, 1) := by decide +kernel
theorem dX4_tryLeaves_23 : decode cX4_tryLeaves 23 = .ok (.getfield 71, 3) := by decide +kernel
theorem dX4_tryLeaves_26 : decode cX4_tryLeaves 26 = .ok (.iconst 4, 1) := by decide +kernel
theorem dX4_tryLeaves_27 : decode cX4_tryLeaves 27 = .ok (.if_icmp .ne 13, 3) := by decide +kernel
theorem dX4_tryLeaves_30 : decode cX4_tryLeaves 30 = .ok (.aload_n 0, 1) := by decide +kernel
theorem dX4_tryLeaves_31 : decode cX4_tryLeaves 31 = .ok (.aload_n 1, 1) := by decide +kernel
theorem dX4_tryLeaves_32 : decode cX4_tryLeaves 32 = .ok (.aload_n 2, 1) := by decide +kernel
theorem dX4_tryLeaves_33 : decode cX4_tryLeaves 33 = .ok (.aload_n 3, 1) := by decide +kernel
theorem dX4_tryLeaves_34 : decode cX4_tryLeaves 34 = .ok (.iload 4, 2) := by decide +kernel
theorem dX4_tryLeaves_36 : decode cX4_tryLeaves 36 = .ok (.invokevirtual 74, 3) := by decide +kernel
theorem dX4_tryLeaves_39 : decode cX4_tryLeaves 39 = .ok (.ireturn, 1) := by decide +kernel
theorem dX4_tryLeaves_40 : decode cX4_tryLeaves 40 = .ok (.aload_n 3, 1) := by decide +kernel
theorem dX4_tryLeaves_41 : decode cX4_tryLeaves 41 = .ok (.aload_n 2, 1) := by decide +kernel
theorem dX4_tryLeaves_42 : decode cX4_tryLeaves 42 = .ok (.getfield 77, 3) := by decide +kernel
theorem dX4_tryLeaves_45 : decode cX4_tryLeaves 45 = .ok (.invokevirtual 83, 3) := by decide +kernel
theorem dX4_tryLeaves_48 : decode cX4_tryLeaves 48 = .ok (.astore 5, 2) := by decide +kernel
theorem dX4_tryLeaves_50 : decode cX4_tryLeaves 50 = .ok (.aload 5, 2) := by decide +kernel
theorem dX4_tryLeaves_52 : decode cX4_tryLeaves 52 = .ok (.ifnonnull 15, 3) := by decide +kernel
theorem dX4_tryLeaves_55 : decode cX4_tryLeaves 55 = .ok (.aload_n 0, 1) := by decide +kernel
theorem dX4_tryLeaves_56 : decode cX4_tryLeaves 56 = .ok (.aload_n 1, 1) := by decide +kernel
theorem dX4_tryLeaves_57 : decode cX4_tryLeaves 57 = .ok (.aload_n 0, 1) := by decide +kernel
theorem dX4_tryLeaves_58 : decode cX4_tryLeaves 58 = .ok (.getfield 18, 3) := by decide +kernel
theorem dX4_tryLeaves_61 : decode cX4_tryLeaves 61 = .ok (.iload 4, 2) := by decide +kernel
theorem dX4_tryLeaves_63 : decode cX4_tryLeaves 63 = .ok (.invokevirtual 68, 3) := by decide +kernel
theorem dX4_tryLeaves_66 : decode cX4_tryLeaves 66 = .ok (.ireturn, 1) := by decide +kernel
theorem dX4_tryLeaves_67 : decode cX4_tryLeaves 67 = .ok (.aload_n 0, 1) := by decide +kernel
theorem dX4_tryLeaves_68 : decode cX4_tryLeaves 68 = .ok (.aload_n 1, 1) := by decide +kernel
theorem dX4_tryLeaves_69 : decode cX4_tryLeaves 69 = .ok (.aload_n 2, 1) := by decide +kernel
theorem dX4_tryLeaves_70 : decode cX4_tryLeaves 70 = .ok (.getfield 87, 3) := by decide +kernel
theorem dX4_tryLeaves_73 : decode cX4_tryLeaves 73 = .ok (.aload 5, 2) := by decide +kernel
theorem dX4_tryLeaves_75 : decode cX4_tryLeaves 75 = .ok (.iload 4, 2) := by decide +kernel
theorem dX4_tryLeaves_77 : decode cX4_tryLeaves 77 = .ok (.iconst 1, 1) := by decide +kernel
theorem dX4_tryLeaves_78 : decode cX4_tryLeaves 78 = .ok (.iadd, 1) := by decide +kernel
theorem dX4_tryLeaves_79 : decode cX4_tryLeaves 79 = .ok (.invokevirtual 64, 3) := by decide +kernel
theorem dX4_tryLeaves_82 : decode cX4_tryLeaves 82 = .ok (.ireturn, 1) := by decide +kernel
theorem dX4_tryLeavesOfRow_0 : decode cX4_tryLeavesOfRow 0 = .ok (.aload_n 3, 1) := by decide +kernel
theorem dX4_tryLeavesOfRow_1 : decode cX4_tryLeavesOfRow 1 = .ok (.aload_n 2, 1) := by decide +kernel
theorem dX4_tryLeavesOfRow_2 : decode cX4_tryLeavesOfRow 2 = .ok (.getfield 77, 3) := by decide +kernel
theorem dX4_tryLeavesOfRow_5 : decode cX4_tryLeavesOfRow 5 = .ok (.invokevirtual 83, 3) := by decide +kernel
theorem dX4_tryLeavesOfRow_8 : decode cX4_tryLeavesOfRow 8 = .ok (.astore 5, 2) := by decide +kernel
theorem dX4_tryLeavesOfRow_10 : decode cX4_tryLeavesOfRow 10 = .ok (.iconst 0, 1) := by decide +kernel
theorem dX4_tryLeavesOfRow_11 : decode cX4_tryLeavesOfRow 11 = .ok (.istore 6, 2) := by decide +kernel
theorem dX4_tryLeavesOfRow_13 : decode cX4_tryLeavesOfRow 13 = .ok (.aload 5, 2) := by decide +kernel
theorem dX4_tryLeavesOfRow_15 : decode cX4_tryLeavesOfRow 15 = .ok (.ifnull 20, 3) := by decide +kernel
theorem dX4_tryLeavesOfRow_18 : decode cX4_tryLeavesOfRow 18 = .ok (.aload_n 0, 1) := by decide +kernel
theorem dX4_tryLeavesOfRow_19 : decode cX4_tryLeavesOfRow 19 = .ok (.aload_n 1, 1) := by decide +kernel
theorem dX4_tryLeavesOfRow_20 : decode cX4_tryLeavesOfRow 20 = .ok (.aload_n 2, 1) := by decide +kernel
theorem dX4_tryLeavesOfRow_21 : decode cX4_tryLeavesOfRow 21 = .ok (.getfield 87, 3) := by decide +kernel
theorem dX4_tryLeavesOfRow_24 : decode cX4_tryLeavesOfRow 24 = .ok (.aload 5, 2) := by decide +kernel
theorem dX4_tryLeavesOfRow_26 : decode cX4_tryLeavesOfRow 26 = .ok (.iload 4, 2) := by decide +kernel
theorem dX4_tryLeavesOfRow_28 : decode cX4_tryLeavesOfRow 28 = .ok (.iconst 1, 1) := by decide +kernel
theorem dX4_tryLeavesOfRow_29 : decode cX4_tryLeavesOfRow 29 = .ok (.iadd, 1) := by decide +kernel
theorem dX4_tryLeavesOfRow_30 : decode cX4_tryLeavesOfRow 30 = .ok (.invokevirtual 64, 3) := by decide +kernel
theorem dX4_tryLeavesOfRow_33 : decode cX4_tryLeavesOfRow 33 = .ok (.istore 6, 2) := by decide +kernel
theorem dX4_tryLeavesOfRow_35 : decode cX4_tryLeavesOfRow 35 = .ok (.aload_n 3, 1) := by decide +kernel
theorem dX4_tryLeavesOfRow_36 : decode cX4_tryLeavesOfRow 36 = .ok (.getfield 89, 3) := by decide +kernel
theorem dX4_tryLeavesOfRow_39 : decode cX4_tryLeavesOfRow 39 = .ok (.astore 7, 2) := by decide +kernel
theorem dX4_tryLeavesOfRow_41 : decode cX4_tryLeavesOfRow 41 = .ok (.aload 7, 2) := by decide +kernel
theorem dX4_tryLeavesOfRow_43 : decode cX4_tryLeavesOfRow 43 = .ok (.ifnull 47, 3) := by decide +kernel
theorem dX4_tryLeavesOfRow_46 : decode cX4_tryLeavesOfRow 46 = .ok (.iload 6, 2) := by decide +kernel
theorem dX4_tryLeavesOfRow_48 : decode cX4_tryLeavesOfRow 48 = .ok (.iconst 2, 1) := by decide +kernel
theorem dX4_tryLeavesOfRow_49 : decode cX4_tryLeavesOfRow 49 = .ok (.if_icmp .eq 41, 3) := by decide +kernel
theorem dX4_tryLeavesOfRow_52 : decode cX4_tryLeavesOfRow 52 = .ok (.aload 7, 2) := by decide +kernel
theorem dX4_tryLeavesOfRow_54 : decode cX4_tryLeavesOfRow 54 = .ok (.getfield 71, 3) := by decide +kernel
theorem dX4_tryLeavesOfRow_57 : decode cX4_tryLeavesOfRow 57 = .ok (.iconst 3, 1) := by decide +kernel
theorem dX4_tryLeavesOfRow_58 : decode cX4_tryLeavesOfRow 58 = .ok (.if_icmp .ne 22, 3) := by decide +kernel
theorem dX4_tryLeavesOfRow_61 : decode cX4_tryLeavesOfRow 61 = .ok (.iload 6, 2) := by decide +kernel
theorem dX4_tryLeavesOfRow_63 : decode cX4_tryLeavesOfRow 63 = .ok (.aload_n 0, 1) := by decide +kernel
theorem dX4_tryLeavesOfRow_64 : decode cX4_tryLeavesOfRow 64 = .ok (.aload_n 1, 1) := by decide +kernel
theorem dX4_tryLeavesOfRow_65 : decode cX4_tryLeavesOfRow 65 = .ok (.aload_n 2, 1) := by decide +kernel
theorem dX4_tryLeavesOfRow_66 : decode cX4_tryLeavesOfRow 66 = .ok (.aload 7, 2) := by decide +kernel
theorem dX4_tryLeavesOfRow_68 : decode cX4_tryLeavesOfRow 68 = .ok (.iload 4, 2) := by decide +kernel
theorem dX4_tryLeavesOfRow_70 : decode cX4_tryLeavesOfRow 70 = .ok (.iconst 1, 1) := by decide +kernel
theorem dX4_tryLeavesOfRow_71 : decode cX4_tryLeavesOfRow 71 = .ok (.iadd, 1) := by decide +kernel
theorem dX4_tryLeavesOfRow_72 : decode cX4_tryLeavesOfRow 72 = .ok (.invokevirtual 64, 3) := by decide +kernel
theorem dX4_tryLeavesOfRow_75 : decode cX4_tryLeavesOfRow 75 = .ok (.invokestatic 91, 3) := by decide +kernel
theorem dX4_tryLeavesOfRow_78 : decode cX4_tryLeavesOfRow 78 = .ok (.istore 6, 2) := by decide +kernel
theorem dX4_tryLeavesOfRow_80 : decode cX4_tryLeavesOfRow 80 = .ok (.aload 7, 2) := by decide +kernel
theorem dX4_tryLeavesOfRow_82 : decode cX4_tryLeavesOfRow 82 = .ok (.getfield 97, 3) := by decide +kernel
theorem dX4_tryLeavesOfRow_85 : decode cX4_tryLeavesOfRow 85 = .ok (.astore 7, 2) := by decide +kernel
theorem dX4_tryLeavesOfRow_87 : decode cX4_tryLeavesOfRow 87 = .ok (.goto (-46), 3) := by decide +kernel
theorem dX4_tryLeavesOfRow_90 : decode cX4_tryLeavesOfRow 90 = .ok (.iload 6, 2) := by decide +kernel
theorem dX4_tryLeavesOfRow_92 : decode cX4_tryLeavesOfRow 92 = .ok (.ireturn, 1) := by decide +kernel
theorem dX4_tryLeaf_0 : decode cX4_tryLeaf 0 = .ok (.aload_n 0, 1) := by decide +kernel
theorem dX4_tryLeaf_1 : decode cX4_tryLeaf 1 = .ok (.aload_n 1, 1) := by decide +kernel
theorem dX4_tryLeaf_2 : decode cX4_tryLeaf 2 = .ok (.aload_n 2, 1) := by decide +kernel
theorem dX4_tryLeaf_3 : decode cX4_tryLeaf 3 = .ok (.iload_n 3, 1) := by decide +kernel
theorem dX4_tryLeaf_4 : decode cX4_tryLeaf 4 = .ok (.invokevirtual 99, 3) := by decide +kernel
theorem dX4_tryLeaf_7 : decode cX4_tryLeaf 7 = .ok (.ifCond .eq 7, 3) := by decide +kernel
theorem dX4_tryLeaf_10 : decode cX4_tryLeaf 10 = .ok (.iconst 2, 1) := by decide +kernel
theorem dX4_tryLeaf_11 : decode cX4_tryLeaf 11 = .ok (.goto 4, 3) := by decide +kernel
theorem dX4_tryLeaf_14 : decode cX4_tryLeaf 14 = .ok (.iconst 1, 1) := by decide +kernel
theorem dX4_tryLeaf_15 : decode cX4_tryLeaf 15 = .ok (.ireturn, 1) := by decide +kernel
theorem dX4_passes_0 : decode cX4_passes 0 = .ok (.aload_n 1, 1) := by decide +kernel
theorem dX4_passes_1 : decode cX4_passes 1 = .ok (.getfield 37, 3) := by decide +kernel
theorem dX4_passes_4 : decode cX4_passes 4 = .ok (.tableswitch 129 6 14 #[52, 129, 129, 129, 129, 62, 75, 105, 105], 52) := by decide +kernel
theorem dX4_passes_56 : decode cX4_passes 56 = .ok (.aload_n 0, 1) := by decide +kernel
theorem dX4_passes_57 : decode cX4_passes 57 = .ok (.aload_n 1, 1) := by decide +kernel
theorem dX4_passes_58 : decode cX4_passes 58 = .ok (.getfield 102, 3) := by decide +kernel
theorem dX4_passes_61 : decode cX4_passes 61 = .ok (.aload_n 2, 1) := by decide +kernel
theorem dX4_passes_62 : decode cX4_passes 62 = .ok (.invokevirtual 105, 3) := by decide +kernel
theorem dX4_passes_65 : decode cX4_passes 65 = .ok (.ireturn, 1) := by decide +kernel
theorem dX4_passes_66 : decode cX4_passes 66 = .ok (.aload_n 2, 1) := by decide +kernel
theorem dX4_passes_67 : decode cX4_passes 67 = .ok (.getfield 71, 3) := by decide +kernel
theorem dX4_passes_70 : decode cX4_passes 70 = .ok (.ifCond .eq 7, 3) := by decide +kernel
theorem dX4_passes_73 : decode cX4_passes 73 = .ok (.iconst 1, 1) := by decide +kernel
theorem dX4_passes_74 : decode cX4_passes 74 = .ok (.goto 4, 3) := by decide +kernel
theorem dX4_passes_77 : decode cX4_passes 77 = .ok (.iconst 0, 1) := by decide +kernel
theorem dX4_passes_78 : decode cX4_passes 78 = .ok (.ireturn, 1) := by decide +kernel
theorem dX4_passes_79 : decode cX4_passes 79 = .ok (.aload_n 2, 1) := by decide +kernel
theorem dX4_passes_80 : decode cX4_passes 80 = .ok (.getfield 71, 3) := by decide +kernel
theorem dX4_passes_83 : decode cX4_passes 83 = .ok (.iconst 4, 1) := by decide +kernel
theorem dX4_passes_84 : decode cX4_passes 84 = .ok (.if_icmp .ne 23, 3) := by decide +kernel
theorem dX4_passes_87 : decode cX4_passes 87 = .ok (.aload_n 2, 1) := by decide +kernel
theorem dX4_passes_88 : decode cX4_passes 88 = .ok (.getfield 109, 3) := by decide +kernel
theorem dX4_passes_91 : decode cX4_passes 91 = .ok (.i2l, 1) := by decide +kernel
theorem dX4_passes_92 : decode cX4_passes 92 = .ok (.aload_n 1, 1) := by decide +kernel
theorem dX4_passes_93 : decode cX4_passes 93 = .ok (.getfield 102, 3) := by decide +kernel
theorem dX4_passes_96 : decode cX4_passes 96 = .ok (.getfield 112, 3) := by decide +kernel
theorem dX4_passes_99 : decode cX4_passes 99 = .ok (.lcmp, 1) := by decide +kernel
theorem dX4_passes_100 : decode cX4_passes 100 = .ok (.ifCond .ne 7, 3) := by decide +kernel
theorem dX4_passes_103 : decode cX4_passes 103 = .ok (.iconst 1, 1) := by decide +kernel
theorem dX4_passes_104 : decode cX4_passes 104 = .ok (.goto 4, 3) := by decide +kernel
theorem dX4_passes_107 : decode cX4_passes 107 = .ok (.iconst 0, 1) := by decide +kernel
theorem dX4_passes_108 : decode cX4_passes 108 = .ok (.ireturn, 1) := by decide +kernel
theorem dX4_passes_109 : decode cX4_passes 109 = .ok (.aload_n 2, 1) := by decide +kernel
theorem dX4_passes_110 : decode cX4_passes 110 = .ok (.getfield 71, 3) := by decide +kernel
theorem dX4_passes_113 : decode cX4_passes 113 = .ok (.iconst 4, 1) := by decide +kernel
theorem dX4_passes_114 : decode cX4_passes 114 = .ok (.if_icmp .ne 17, 3) := by decide +kernel
theorem dX4_passes_117 : decode cX4_passes 117 = .ok (.aload_n 0, 1) := by decide +kernel
theorem dX4_passes_118 : decode cX4_passes 118 = .ok (.aload_n 1, 1) := by decide +kernel
theorem dX4_passes_119 : decode cX4_passes 119 = .ok (.aload_n 2, 1) := by decide +kernel
theorem dX4_passes_120 : decode cX4_passes 120 = .ok (.iload_n 3, 1) := by decide +kernel
theorem dX4_passes_121 : decode cX4_passes 121 = .ok (.invokevirtual 116, 3) := by decide +kernel
theorem dX4_passes_124 : decode cX4_passes 124 = .ok (.ifCond .eq 7, 3) := by decide +kernel
theorem dX4_passes_127 : decode cX4_passes 127 = .ok (.iconst 1, 1) := by decide +kernel
theorem dX4_passes_128 : decode cX4_passes 128 = .ok (.goto 4, 3) := by decide +kernel
theorem dX4_passes_131 : decode cX4_passes 131 = .ok (.iconst 0, 1) := by decide +kernel
theorem dX4_passes_132 : decode cX4_passes 132 = .ok (.ireturn, 1) := by decide +kernel
theorem dX4_passes_133 : decode cX4_passes 133 = .ok (.aload_n 0, 1) := by decide +kernel
theorem dX4_passes_134 : decode cX4_passes 134 = .ok (.aload_n 1, 1) := by decide +kernel
theorem dX4_passes_135 : decode cX4_passes 135 = .ok (.getfield 37, 3) := by decide +kernel
theorem dX4_passes_138 : decode cX4_passes 138 = .ok (.aload_n 1, 1) := by decide +kernel
theorem dX4_passes_139 : decode cX4_passes 139 = .ok (.getfield 102, 3) := by decide +kernel
theorem dX4_passes_142 : decode cX4_passes 142 = .ok (.aload_n 2, 1) := by decide +kernel
theorem dX4_passes_143 : decode cX4_passes 143 = .ok (.invokevirtual 119, 3) := by decide +kernel
theorem dX4_passes_146 : decode cX4_passes 146 = .ok (.ireturn, 1) := by decide +kernel
theorem dX4_hasItemFor_0 : decode cX4_hasItemFor 0 = .ok (.aload_n 2, 1) := by decide +kernel
theorem dX4_hasItemFor_1 : decode cX4_hasItemFor 1 = .ok (.getfield 89, 3) := by decide +kernel
theorem dX4_hasItemFor_4 : decode cX4_hasItemFor 4 = .ok (.astore 4, 2) := by decide +kernel
theorem dX4_hasItemFor_6 : decode cX4_hasItemFor 6 = .ok (.aload 4, 2) := by decide +kernel
theorem dX4_hasItemFor_8 : decode cX4_hasItemFor 8 = .ok (.ifnull 62, 3) := by decide +kernel
theorem dX4_hasItemFor_11 : decode cX4_hasItemFor 11 = .ok (.aload_n 1, 1) := by decide +kernel
theorem dX4_hasItemFor_12 : decode cX4_hasItemFor 12 = .ok (.getfield 37, 3) := by decide +kernel
theorem dX4_hasItemFor_15 : decode cX4_hasItemFor 15 = .ok (.bipush 13, 2) := by decide +kernel
theorem dX4_hasItemFor_17 : decode cX4_hasItemFor 17 = .ok (.if_icmp .ne 19, 3) := by decide +kernel
theorem dX4_hasItemFor_20 : decode cX4_hasItemFor 20 = .ok (.aload_n 0, 1) := by decide +kernel
theorem dX4_hasItemFor_21 : decode cX4_hasItemFor 21 = .ok (.aload_n 1, 1) := by decide +kernel
theorem dX4_hasItemFor_22 : decode cX4_hasItemFor 22 = .ok (.aconst_null, 1) := by decide +kernel
theorem dX4_hasItemFor_23 : decode cX4_hasItemFor 23 = .ok (.aload 4, 2) := by decide +kernel
theorem dX4_hasItemFor_25 : decode cX4_hasItemFor 25 = .ok (.iload_n 3, 1) := by decide +kernel
theorem dX4_hasItemFor_26 : decode cX4_hasItemFor 26 = .ok (.iconst 1, 1) := by decide +kernel
theorem dX4_hasItemFor_27 : decode cX4_hasItemFor 27 = .ok (.iadd, 1) := by decide +kernel
theorem dX4_hasItemFor_28 : decode cX4_hasItemFor 28 = .ok (.invokevirtual 53, 3) := by decide +kernel
theorem dX4_hasItemFor_31 : decode cX4_hasItemFor 31 = .ok (.ifCond .eq 29, 3) := by decide +kernel
theorem dX4_hasItemFor_34 : decode cX4_hasItemFor 34 = .ok (.iconst 1, 1) := by decide +kernel
theorem dX4_hasItemFor_35 : decode cX4_hasItemFor 35 = .ok (.ireturn, 1) := by decide +kernel
theorem dX4_hasItemFor_36 : decode cX4_hasItemFor 36 = .ok (.aload 4, 2) := by decide +kernel
theorem dX4_hasItemFor_38 : decode cX4_hasItemFor 38 = .ok (.getfield 71, 3) := by decide +kernel
theorem dX4_hasItemFor_41 : decode cX4_hasItemFor 41 = .ok (.iconst 3, 1) := by decide +kernel
theorem dX4_hasItemFor_42 : decode cX4_hasItemFor 42 = .ok (.if_icmp .ne 18, 3) := by decide +kernel
theorem dX4_hasItemFor_45 : decode cX4_hasItemFor 45 = .ok (.aload_n 0, 1) := by decide +kernel
theorem dX4_hasItemFor_46 : decode cX4_hasItemFor 46 = .ok (.aload_n 1, 1) := by decide +kernel
theorem dX4_hasItemFor_47 : decode cX4_hasItemFor 47 = .ok (.aload 4, 2) := by decide +kernel
theorem dX4_hasItemFor_49 : decode cX4_hasItemFor 49 = .ok (.iload_n 3, 1) := by decide +kernel
theorem dX4_hasItemFor_50 : decode cX4_hasItemFor 50 = .ok (.iconst 1, 1) := by decide +kernel
theorem dX4_hasItemFor_51 : decode cX4_hasItemFor 51 = .ok (.iadd, 1) := by decide +kernel
theorem dX4_hasItemFor_52 : decode cX4_hasItemFor 52 = .ok (.invokevirtual 57, 3) := by decide +kernel
theorem dX4_hasItemFor_55 : decode cX4_hasItemFor 55 = .ok (.ifCond .ge 5, 3) := by decide +kernel
theorem dX4_hasItemFor_58 : decode cX4_hasItemFor 58 = .ok (.iconst 1, 1) := by decide +kernel
theorem dX4_hasItemFor_59 : decode cX4_hasItemFor 59 = .ok (.ireturn, 1) := by decide +kernel
theorem dX4_hasItemFor_60 : decode cX4_hasItemFor 60 = .ok (.aload 4, 2) := by decide +kernel
theorem dX4_hasItemFor_62 : decode cX4_hasItemFor 62 = .ok (.getfield 97, 3) := by decide +kernel
theorem dX4_hasItemFor_65 : decode cX4_hasItemFor 65 = .ok (.astore 4, 2) := by decide +kernel
theorem dX4_hasItemFor_67 : decode cX4_hasItemFor 67 = .ok (.goto (-61), 3) := by decide +kernel
theorem dX4_hasItemFor_70 : decode cX4_hasItemFor 70 = .ok (.iconst 0, 1) := by decide +kernel
theorem dX4_hasItemFor_71 : decode cX4_hasItemFor 71 = .ok (.ireturn, 1) := by decide +kernel
theorem dX4_passesSome_0 : decode cX4_passesSome 0 = .ok (.aload_n 1, 1) := by decide +kernel
theorem dX4_passesSome_1 : decode cX4_passesSome 1 = .ok (.getfield 89, 3) := by decide +kernel
theorem dX4_passesSome_4 : decode cX4_passesSome 4 = .ok (.astore_n 3, 1) := by decide +kernel
theorem dX4_passesSome_5 : decode cX4_passesSome 5 = .ok (.aload_n 3, 1) := by decide +kernel
theorem dX4_passesSome_6 : decode cX4_passesSome 6 = .ok (.ifnull 23, 3) := by decide +kernel
theorem dX4_passesSome_9 : decode cX4_passesSome 9 = .ok (.aload_n 0, 1) := by decide +kernel
theorem dX4_passesSome_10 : decode cX4_passesSome 10 = .ok (.iconst 5, 1) := by decide +kernel
theorem dX4_passesSome_11 : decode cX4_passesSome 11 = .ok (.aload_n 3, 1) := by decide +kernel
theorem dX4_passesSome_12 : decode cX4_passesSome 12 = .ok (.aload_n 2, 1) := by decide +kernel
theorem dX4_passesSome_13 : decode cX4_passesSome 13 = .ok (.invokevirtual 119, 3) := by decide +kernel
theorem dX4_passesSome_16 : decode cX4_passesSome 16 = .ok (.ifCond .eq 5, 3) := by decide +kernel
theorem dX4_passesSome_19 : decode cX4_passesSome 19 = .ok (.iconst 1, 1) := by decide +kernel
theorem dX4_passesSome_20 : decode cX4_passesSome 20 = .ok (.ireturn, 1) := by decide +kernel
theorem dX4_passesSome_21 : decode cX4_passesSome 21 = .ok (.aload_n 3, 1) := by decide +kernel
theorem dX4_passesSome_22 : decode cX4_passesSome 22 = .ok (.getfield 97, 3) := by decide +kernel
theorem dX4_passesSome_25 : decode cX4_passesSome 25 = .ok (.astore_n 3, 1) := by decide +kernel
theorem dX4_passesSome_26 : decode cX4_passesSome 26 = .ok (.goto (-21), 3) := by decide +kernel
theorem dX4_passesSome_29 : decode cX4_passesSome 29 = .ok (.iconst 0, 1) := by decide +kernel
theorem dX4_passesSome_30 : decode cX4_passesSome 30 = .ok (.ireturn, 1) := by decide +kernel
theorem dX4_passesWithItems_0 : decode cX4_passesWithItems 0 = .ok (.aload_n 0, 1) := by decide +kernel
theorem dX4_passesWithItems_1 : decode cX4_passesWithItems 1 = .ok (.iload_n 1, 1) := by decide +kernel
theorem dX4_passesWithItems_2 : decode cX4_passesWithItems 2 = .ok (.aload_n 3, 1) := by decide +kernel
theorem dX4_passesWithItems_3 : decode cX4_passesWithItems 3 = .ok (.aload_n 2, 1) := by decide +kernel
theorem dX4_passesWithItems_4 : decode cX4_passesWithItems 4 = .ok (.invokevirtual 123, 3) := by decide +kernel
theorem dX4_passesWithItems_7 : decode cX4_passesWithItems 7 = .ok (.ifCond .eq 5, 3) := by decide +kernel
theorem dX4_passesWithItems_10 : decode cX4_passesWithItems 10 = .ok (.iconst 1, 1) := by decide +kernel
theorem dX4_passesWithItems_11 : decode cX4_passesWithItems 11 = .ok (.ireturn, 1) := by decide +kernel
theorem dX4_passesWithItems_12 : decode cX4_passesWithItems 12 = .ok (.aload_n 3, 1) := by decide +kernel
theorem dX4_passesWithItems_13 : decode cX4_passesWithItems 13 = .ok (.getfield 71, 3) := by decide +kernel
theorem dX4_passesWithItems_16 : decode cX4_passesWithItems 16 = .ok (.iconst 4, 1) := by decide +kernel
theorem dX4_passesWithItems_17 : decode cX4_passesWithItems 17 = .ok (.if_icmp .eq 5, 3) := by decide +kernel
theorem dX4_passesWithItems_20 : decode cX4_passesWithItems 20 = .ok (.iconst 0, 1) := by decide +kernel
theorem dX4_passesWithItems_21 : decode cX4_passesWithItems 21 = .ok (.ireturn, 1) := by decide +kernel
theorem dX4_passesWithItems_22 : decode cX4_passesWithItems 22 = .ok (.aload_n 3, 1) := by decide +kernel
theorem dX4_passesWithItems_23 : decode cX4_passesWithItems 23 = .ok (.getfield 89, 3) := by decide +kernel
theorem dX4_passesWithItems_26 : decode cX4_passesWithItems 26 = .ok (.astore 4, 2) := by decide +kernel
theorem dX4_passesWithItems_28 : decode cX4_passesWithItems 28 = .ok (.aload 4, 2) := by decide +kernel
theorem dX4_passesWithItems_30 : decode cX4_passesWithItems 30 = .ok (.ifnull 26, 3) := by decide +kernel
theorem dX4_passesWithItems_33 : decode cX4_passesWithItems 33 = .ok (.aload_n 0, 1) := by decide +kernel
theorem dX4_passesWithItems_34 : decode cX4_passesWithItems 34 = .ok (.iload_n 1, 1) := by decide +kernel
theorem dX4_passesWithItems_35 : decode cX4_passesWithItems 35 = .ok (.aload 4, 2) := by decide +kernel
theorem dX4_passesWithItems_37 : decode cX4_passesWithItems 37 = .ok (.aload_n 2, 1) := by decide +kernel
theorem dX4_passesWithItems_38 : decode cX4_passesWithItems 38 = .ok (.invokevirtual 123, 3) := by decide +kernel
theorem dX4_passesWithItems_41 : decode cX4_passesWithItems 41 = .ok (.ifCond .eq 5, 3) := by decide +kernel
theorem dX4_passesWithItems_44 : decode cX4_passesWithItems 44 = .ok (.iconst 1, 1) := by decide +kernel
theorem dX4_passesWithItems_45 : decode cX4_passesWithItems 45 = .ok (.ireturn, 1) := by decide +kernel
theorem dX4_passesWithItems_46 : decode cX4_passesWithItems 46 = .ok (.aload 4, 2) := by decide +kernel
theorem dX4_passesWithItems_48 : decode cX4_passesWithItems 48 = .ok (.getfield 97, 3) := by decide +kernel
theorem dX4_passesWithItems_51 : decode cX4_passesWithItems 51 = .ok (.astore 4, 2) := by decide +kernel
theorem dX4_passesWithItems_53 : decode cX4_passesWithItems 53 = .ok (.goto (-25), 3) := by decide +kernel
theorem dX4_passesWithItems_56 : decode cX4_passesWithItems 56 = .ok (.iconst 0, 1) := by decide +kernel
theorem dX4_passesWithItems_57 : decode cX4_passesWithItems 57 = .ok (.ireturn, 1) := by decide +kernel
theorem dX4_compares_0 : decode cX4_compares 0 = .ok (.aload_n 2, 1) := by decide +kernel
theorem dX4_compares_1 : decode cX4_compares 1 = .ok (.getfield 71, 3) := by decide +kernel
theorem dX4_compares_4 : decode cX4_compares 4 = .ok (.invokestatic 126, 3) := by decide +kernel
theorem dX4_compares_7 : decode cX4_compares 7 = .ok (.aload_n 3, 1) := by decide +kernel
theorem dX4_compares_8 : decode cX4_compares 8 = .ok (.getfield 71, 3) := by decide +kernel
theorem dX4_compares_11 : decode cX4_compares 11 = .ok (.invokestatic 126, 3) := by decide +kernel
theorem dX4_compares_14 : decode cX4_compares 14 = .ok (.if_icmp .eq 30, 3) := by decide +kernel
theorem dX4_compares_17 : decode cX4_compares 17 = .ok (.iload_n 1, 1) := by decide +kernel
theorem dX4_compares_18 : decode cX4_compares 18 = .ok (.iconst 5, 1) := by decide +kernel
theorem dX4_compares_19 : decode cX4_compares 19 = .ok (.if_icmp .ne 23, 3) := by decide +kernel
theorem dX4_compares_22 : decode cX4_compares 22 = .ok (.aload_n 2, 1) := by decide +kernel
theorem dX4_compares_23 : decode cX4_compares 23 = .ok (.getfield 71, 3) := by decide +kernel
theorem dX4_compares_26 : decode cX4_compares 26 = .ok (.ifCond .ne 16, 3) := by decide +kernel
theorem dX4_compares_29 : decode cX4_compares 29 = .ok (.aload_n 3, 1) := by decide +kernel
theorem dX4_compares_30 : decode cX4_compares 30 = .ok (.getfield 71, 3) := by decide +kernel
theorem dX4_compares_33 : decode cX4_compares 33 = .ok (.bipush 10, 2) := by decide +kernel
theorem dX4_compares_35 : decode cX4_compares 35 = .ok (.if_icmp .ne 7, 3) := by decide +kernel
theorem dX4_compares_38 : decode cX4_compares 38 = .ok (.iconst 1, 1) := by decide +kernel
theorem dX4_compares_39 : decode cX4_compares 39 = .ok (.goto 4, 3) := by decide +kernel
theorem dX4_compares_42 : decode cX4_compares 42 = .ok (.iconst 0, 1) := by decide +kernel
theorem dX4_compares_43 : decode cX4_compares 43 = .ok (.ireturn, 1) := by decide +kernel
theorem dX4_compares_44 : decode cX4_compares 44 = .ok (.aload_n 2, 1) := by decide +kernel
theorem dX4_compares_45 : decode cX4_compares 45 = .ok (.aload_n 3, 1) := by decide +kernel
theorem dX4_compares_46 : decode cX4_compares 46 = .ok (.iconst 1, 1) := by decide +kernel
theorem dX4_compares_47 : decode cX4_compares 47 = .ok (.invokestatic 130, 3) := by decide +kernel
theorem dX4_compares_50 : decode cX4_compares 50 = .ok (.istore 4, 2) := by decide +kernel
theorem dX4_compares_52 : decode cX4_compares 52 = .ok (.iload_n 1, 1) := by decide +kernel
theorem dX4_compares_53 : decode cX4_compares 53 = .ok (.tableswitch 79 5 9 #[35, 79, 46, 57, 68], 35) := by decide +kernel
theorem dX4_compares_88 : decode cX4_compares 88 = .ok (.iload 4, 2) := by decide +kernel
theorem dX4_compares_90 : decode cX4_compares 90 = .ok (.ifCond .ne 7, 3) := by decide +kernel
theorem dX4_compares_93 : decode cX4_compares 93 = .ok (.iconst 1, 1) := by decide +kernel
theorem dX4_compares_94 : decode cX4_compares 94 = .ok (.goto 4, 3) := by decide +kernel
theorem dX4_compares_97 : decode cX4_compares 97 = .ok (.iconst 0, 1) := by decide +kernel
theorem dX4_compares_98 : decode cX4_compares 98 = .ok (.ireturn, 1) := by decide +kernel
theorem dX4_compares_99 : decode cX4_compares 99 = .ok (.iload 4, 2) := by decide +kernel
theorem dX4_compares_101 : decode cX4_compares 101 = .ok (.ifCond .ge 7, 3) := by decide +kernel
theorem dX4_compares_104 : decode cX4_compares 104 = .ok (.iconst 1, 1) := by decide +kernel
theorem dX4_compares_105 : decode cX4_compares 105 = .ok (.goto 4, 3) := by decide +kernel
theorem dX4_compares_108 : decode cX4_compares 108 = .ok (.iconst 0, 1) := by decide +kernel
theorem dX4_compares_109 : decode cX4_compares 109 = .ok (.ireturn, 1) := by decide +kernel
theorem dX4_compares_110 : decode cX4_compares 110 = .ok (.iload 4, 2) := by decide +kernel
theorem dX4_compares_112 : decode cX4_compares 112 = .ok (.ifCond .gt 7, 3) := by decide +kernel
theorem dX4_compares_115 : decode cX4_compares 115 = .ok (.iconst 1, 1) := by decide +kernel
theorem dX4_compares_116 : decode cX4_compares 116 = .ok (.goto 4, 3) := by decide +kernel
theorem dX4_compares_119 : decode cX4_compares 119 = .ok (.iconst 0, 1) := by decide +kernel
theorem dX4_compares_120 : decode cX4_compares 120 = .ok (.ireturn, 1) := by decide +kernel
theorem dX4_compares_121 : decode cX4_compares 121 = .ok (.iload 4, 2) := by decide +kernel
theorem dX4_compares_123 : decode cX4_compares 123 = .ok (.ifCond .le 7, 3) := by decide +kernel
theorem dX4_compares_126 : decode cX4_compares 126 = .ok (.iconst 1, 1) := by decide +kernel
theorem dX4_compares_127 : decode cX4_compares 127 = .ok (.goto 4, 3) := by decide +kernel
theorem dX4_compares_130 : decode cX4_compares 130 = .ok (.iconst 0, 1) := by decide +kernel
theorem dX4_compares_131 : decode cX4_compares 131 = .ok (.ireturn, 1) := by decide +kernel
theorem dX4_compares_132 : decode cX4_compares 132 = .ok (.iload 4, 2) := by decide +kernel
theorem dX4_compares_134 : decode cX4_compares 134 = .ok (.ifCond .lt 7, 3) := by decide +kernel
theorem dX4_compares_137 : decode cX4_compares 137 = .ok (.iconst 1, 1) := by decide +kernel
theorem dX4_compares_138 : decode cX4_compares 138 = .ok (.goto 4, 3) := by decide +kernel
theorem dX4_compares_141 : decode cX4_compares 141 = .ok (.iconst 0, 1) := by decide +kernel
theorem dX4_compares_142 : decode cX4_compares 142 = .ok (.ireturn, 1) := by decide +kernel
theorem dX5_compare_0 : decode cX5_compare 0 = .ok (.aload_n 0, 1) := by decide +kernel
theorem dX5_compare_1 : decode cX5_compare 1 = .ok (.getfield 9, 3) := by decide +kernel
theorem dX5_compare_4 : decode cX5_compare 4 = .ok (.invokestatic 15, 3) := by decide +kernel
theorem dX5_compare_7 : decode cX5_compare 7 = .ok (.istore_n 3, 1) := by decide +kernel
theorem dX5_compare_8 : decode cX5_compare 8 = .ok (.iload_n 3, 1) := by decide +kernel
theorem dX5_compare_9 : decode cX5_compare 9 = .ok (.aload_n 1, 1) := by decide +kernel
theorem dX5_compare_10 : decode cX5_compare 10 = .ok (.getfield 9, 3) := by decide +kernel
theorem dX5_compare_13 : decode cX5_compare 13 = .ok (.invokestatic 15, 3) := by decide +kernel
theorem dX5_compare_16 : decode cX5_compare 16 = .ok (.invokestatic 21, 3) := by decide +kernel
theorem dX5_compare_19 : decode cX5_compare 19 = .ok (.istore 4, 2) := by decide +kernel
theorem dX5_compare_21 : decode cX5_compare 21 = .ok (.iload 4, 2) := by decide +kernel
theorem dX5_compare_23 : decode cX5_compare 23 = .ok (.ifCond .eq 6, 3) := by decide +kernel
theorem dX5_compare_26 : decode cX5_compare 26 = .ok (.iload 4, 2) := by decide +kernel
theorem dX5_compare_28 : decode cX5_compare 28 = .ok (.ireturn, 1) := by decide +kernel
theorem dX5_compare_29 : decode cX5_compare 29 = .ok (.iload_n 3, 1) := by decide +kernel
theorem dX5_compare_30 : decode cX5_compare 30 = .ok (.tableswitch 65 2 6 #[34, 46, 58, 58, 34], 34) := by decide +kernel
theorem dX5_compare_64 : decode cX5_compare 64 = .ok (.aload_n 0, 1) := by decide +kernel
theorem dX5_compare_65 : decode cX5_compare 65 = .ok (.getfield 27, 3) := by decide +kernel
theorem dX5_compare_68 : decode cX5_compare 68 = .ok (.aload_n 1, 1) := by decide +kernel
theorem dX5_compare_69 : decode cX5_compare 69 = .ok (.getfield 27, 3) := by decide +kernel
theorem dX5_compare_72 : decode cX5_compare 72 = .ok (.invokestatic 31, 3) := by decide +kernel
theorem dX5_compare_75 : decode cX5_compare 75 = .ok (.ireturn, 1) := by decide +kernel
theorem dX5_compare_76 : decode cX5_compare 76 = .ok (.aload_n 0, 1) := by decide +kernel
theorem dX5_compare_77 : decode cX5_compare 77 = .ok (.getfield 36, 3) := by decide +kernel
theorem dX5_compare_80 : decode cX5_compare 80 = .ok (.aload_n 1, 1) := by decide +kernel
theorem dX5_compare_81 : decode cX5_compare 81 = .ok (.getfield 36, 3) := by decide +kernel
theorem dX5_compare_84 : decode cX5_compare 84 = .ok (.invokestatic 40, 3) := by decide +kernel
theorem dX5_compare_87 : decode cX5_compare 87 = .ok (.ireturn, 1) := by decide +kernel
theorem dX5_compare_88 : decode cX5_compare 88 = .ok (.aload_n 0, 1) := by decide +kernel
theorem dX5_compare_89 : decode cX5_compare 89 = .ok (.aload_n 1, 1) := by decide +kernel
theorem dX5_compare_90 : decode cX5_compare 90 = .ok (.iload_n 2, 1) := by decide +kernel
theorem dX5_compare_91 : decode cX5_compare 91 = .ok (.invokestatic 46, 3) := by decide +kernel
theorem dX5_compare_94 : decode cX5_compare 94 = .ok (.ireturn, 1) := by decide +kernel
theorem dX5_compare_95 : decode cX5_compare 95 = .ok (.iconst 0, 1) := by decide +kernel
theorem dX5_compare_96 : decode cX5_compare 96 = .ok (.ireturn, 1) := by decide +kernel
theorem dX5_compareParts_0 : decode cX5_compareParts 0 = .ok (.iload_n 2, 1) := by decide +kernel
theorem dX5_compareParts_1 : decode cX5_compareParts 1 = .ok (.bipush 16, 2) := by decide +kernel
theorem dX5_compareParts_3 : decode cX5_compareParts 3 = .ok (.if_icmp .le 5, 3) := by decide +kernel
theorem dX5_compareParts_6 : decode cX5_compareParts 6 = .ok (.iconst 0, 1) := by decide +kernel
theorem dX5_compareParts_7 : decode cX5_compareParts 7 = .ok (.ireturn, 1) := by decide +kernel
theorem dX5_compareParts_8 : decode cX5_compareParts 8 = .ok (.aload_n 1, 1) := by decide +kernel
theorem dX5_compareParts_9 : decode cX5_compareParts 9 = .ok (.getfield 50, 3) := by decide +kernel
theorem dX5_compareParts_12 : decode cX5_compareParts 12 = .ok (.astore_n 3, 1) := by decide +kernel
theorem dX5_compareParts_13 : decode cX5_compareParts 13 = .ok (.aload_n 0, 1) := by decide +kernel
theorem dX5_compareParts_14 : decode cX5_compareParts 14 = .ok (.getfield 50, 3) := by decide +kernel
theorem dX5_compareParts_17 : decode cX5_compareParts 17 = .ok (.astore 4, 2) := by decide +kernel
theorem dX5_compareParts_19 : decode cX5_compareParts 19 = .ok (.aload 4, 2) := by decide +kernel
theorem dX5_compareParts_21 : decode cX5_compareParts 21 = .ok (.ifnull 41, 3) := by decide +kernel
theorem dX5_compareParts_24 : decode cX5_compareParts 24 = .ok (.aload_n 3, 1) := by decide +kernel
theorem dX5_compareParts_25 : decode cX5_compareParts 25 = .ok (.ifnonnull 5, 3) := by decide +kernel
theorem dX5_compareParts_28 : decode cX5_compareParts 28 = .ok (.iconst 1, 1) := by decide +kernel
theorem dX5_compareParts_29 : decode cX5_compareParts 29 = .ok (.ireturn, 1) := by decide +kernel
theorem dX5_compareParts_30 : decode cX5_compareParts 30 = .ok (.aload 4, 2) := by decide +kernel
theorem dX5_compareParts_32 : decode cX5_compareParts 32 = .ok (.aload_n 3, 1) := by decide +kernel
theorem dX5_compareParts_33 : decode cX5_compareParts 33 = .ok (.iload_n 2, 1) := by decide +kernel
theorem dX5_compareParts_34 : decode cX5_compareParts 34 = .ok (.invokestatic 54, 3) := by decide +kernel
theorem dX5_compareParts_37 : decode cX5_compareParts 37 = .ok (.istore 5, 2) := by decide +kernel
theorem dX5_compareParts_39 : decode cX5_compareParts 39 = .ok (.iload 5, 2) := by decide +kernel
theorem dX5_compareParts_41 : decode cX5_compareParts 41 = .ok (.ifCond .eq 6, 3) := by decide +kernel
theorem dX5_compareParts_44 : decode cX5_compareParts 44 = .ok (.iload 5, 2) := by decide +kernel
theorem dX5_compareParts_46 : decode cX5_compareParts 46 = .ok (.ireturn, 1) := by decide +kernel
theorem dX5_compareParts_47 : decode cX5_compareParts 47 = .ok (.aload_n 3, 1) := by decide +kernel
theorem dX5_compareParts_48 : decode cX5_compareParts 48 = .ok (.getfield 57, 3) := by decide +kernel
theorem dX5_compareParts_51 : decode cX5_compareParts 51 = .ok (.astore_n 3, 1) := by decide +kernel
theorem dX5_compareParts_52 : decode cX5_compareParts 52 = .ok (.aload 4, 2) := by decide +kernel
theorem dX5_compareParts_54 : decode cX5_compareParts 54 = .ok (.getfield 57, 3) := by decide +kernel
theorem dX5_compareParts_57 : decode cX5_compareParts 57 = .ok (.astore 4, 2) := by decide +kernel
theorem dX5_compareParts_59 : decode cX5_compareParts 59 = .ok (.goto (-40), 3) := by decide +kernel
theorem dX5_compareParts_62 : decode cX5_compareParts 62 = .ok (.aload_n 3, 1) := by decide +kernel
theorem dX5_compareParts_63 : decode cX5_compareParts 63 = .ok (.ifnonnull 7, 3) := by decide +kernel
theorem dX5_compareParts_66 : decode cX5_compareParts 66 = .ok (.iconst 0, 1) := by decide +kernel
theorem dX5_compareParts_67 : decode cX5_compareParts 67 = .ok (.goto 4, 3) := by decide +kernel
theorem dX5_compareParts_70 : decode cX5_compareParts 70 = .ok (.iconst (-1), 1) := by decide +kernel
theorem dX5_compareParts_71 : decode cX5_compareParts 71 = .ok (.ireturn, 1) := by decide +kernel
theorem dX5_compareElements_0 : decode cX5_compareElements 0 = .ok (.aload_n 0, 1) := by decide +kernel
theorem dX5_compareElements_1 : decode cX5_compareElements 1 = .ok (.getfield 9, 3) := by decide +kernel
theorem dX5_compareElements_4 : decode cX5_compareElements 4 = .ok (.invokestatic 15, 3) := by decide +kernel
theorem dX5_compareElements_7 : decode cX5_compareElements 7 = .ok (.aload_n 1, 1) := by decide +kernel
theorem dX5_compareElements_8 : decode cX5_compareElements 8 = .ok (.getfield 9, 3) := by decide +kernel
theorem dX5_compareElements_11 : decode cX5_compareElements 11 = .ok (.invokestatic 15, 3) := by decide +kernel
theorem dX5_compareElements_14 : decode cX5_compareElements 14 = .ok (.invokestatic 21, 3) := by decide +kernel
theorem dX5_compareElements_17 : decode cX5_compareElements 17 = .ok (.istore_n 3, 1) := by decide +kernel
theorem dX5_compareElements_18 : decode cX5_compareElements 18 = .ok (.iload_n 3, 1) := by decide +kernel
theorem dX5_compareElements_19 : decode cX5_compareElements 19 = .ok (.ifCond .eq 5, 3) := by decide +kernel
theorem dX5_compareElements_22 : decode cX5_compareElements 22 = .ok (.iload_n 3, 1) := by decide +kernel
theorem dX5_compareElements_23 : decode cX5_compareElements 23 = .ok (.ireturn, 1) := by decide +kernel
theorem dX5_compareElements_24 : decode cX5_compareElements 24 = .ok (.aload_n 0, 1) := by decide +kernel
theorem dX5_compareElements_25 : decode cX5_compareElements 25 = .ok (.getfield 60, 3) := by decide +kernel
theorem dX5_compareElements_28 : decode cX5_compareElements 28 = .ok (.aload_n 1, 1) := by decide +kernel
theorem dX5_compareElements_29 : decode cX5_compareElements 29 = .ok (.getfield 60, 3) := by decide +kernel
theorem dX5_compareElements_32 : decode cX5_compareElements 32 = .ok (.invokestatic 40, 3) := by decide +kernel
theorem dX5_compareElements_35 : decode cX5_compareElements 35 = .ok (.istore 4, 2) := by decide +kernel
theorem dX5_compareElements_37 : decode cX5_compareElements 37 = .ok (.iload 4, 2) := by decide +kernel
theorem dX5_compareElements_39 : decode cX5_compareElements 39 = .ok (.ifCond .eq 8, 3) := by decide +kernel
theorem dX5_compareElements_42 : decode cX5_compareElements 42 = .ok (.iload 4, 2) := by decide +kernel
theorem dX5_compareElements_44 : decode cX5_compareElements 44 = .ok (.goto 11, 3) := by decide +kernel
theorem dX5_compareElements_47 : decode cX5_compareElements 47 = .ok (.aload_n 0, 1) := by decide +kernel
theorem dX5_compareElements_48 : decode cX5_compareElements 48 = .ok (.aload_n 1, 1) := by decide +kernel
theorem dX5_compareElements_49 : decode cX5_compareElements 49 = .ok (.iload_n 2, 1) := by decide +kernel
theorem dX5_compareElements_50 : decode cX5_compareElements 50 = .ok (.iconst 1, 1) := by decide +kernel
theorem dX5_compareElements_51 : decode cX5_compareElements 51 = .ok (.iadd, 1) := by decide +kernel
theorem dX5_compareElements_52 : decode cX5_compareElements 52 = .ok (.invokestatic 63, 3) := by decide +kernel
theorem dX5_compareElements_55 : decode cX5_compareElements 55 = .ok (.ireturn, 1) := by decide +kernel
theorem dX5_compareTexts_0 : decode cX5_compareTexts 0 = .ok (.aload_n 0, 1) := by decide +kernel
theorem dX5_compareTexts_1 : decode cX5_compareTexts 1 = .ok (.invokevirtual 65, 3) := by decide +kernel
theorem dX5_compareTexts_4 : decode cX5_compareTexts 4 = .ok (.aload_n 1, 1) := by decide +kernel
theorem dX5_compareTexts_5 : decode cX5_compareTexts 5 = .ok (.invokevirtual 65, 3) := by decide +kernel
theorem dX5_compareTexts_8 : decode cX5_compareTexts 8 = .ok (.invokestatic 71, 3) := by decide +kernel
theorem dX5_compareTexts_11 : decode cX5_compareTexts 11 = .ok (.istore_n 2, 1) := by decide +kernel
theorem dX5_compareTexts_12 : decode cX5_compareTexts 12 = .ok (.iconst 0, 1) := by decide +kernel
theorem dX5_compareTexts_13 : decode cX5_compareTexts 13 = .ok (.istore_n 3, 1) := by decide +kernel
theorem dX5_compareTexts_14 : decode cX5_compareTexts 14 = .ok (.iload_n 3, 1) := by decide +kernel
theorem dX5_compareTexts_15 : decode cX5_compareTexts 15 = .ok (.iload_n 2, 1) := by decide +kernel
theorem dX5_compareTexts_16 : decode cX5_compareTexts 16 = .ok (.if_icmp .ge 36, 3) := by decide +kernel
theorem dX5_compareTexts_19 : decode cX5_compareTexts 19 = .ok (.aload_n 0, 1) := by decide +kernel
theorem dX5_compareTexts_20 : decode cX5_compareTexts 20 = .ok (.iload_n 3, 1) := by decide +kernel
theorem dX5_compareTexts_21 : decode cX5_compareTexts 21 = .ok (.invokevirtual 76, 3) := by decide +kernel
theorem dX5_compareTexts_24 : decode cX5_compareTexts 24 = .ok (.aload_n 1, 1) := by decide +kernel
theorem dX5_compareTexts_25 : decode cX5_compareTexts 25 = .ok (.iload_n 3, 1) := by decide +kernel
theorem dX5_compareTexts_26 : decode cX5_compareTexts 26 = .ok (.invokevirtual 76, 3) := by decide +kernel
theorem dX5_compareTexts_29 : decode cX5_compareTexts 29 = .ok (.if_icmp .eq 17, 3) := by decide +kernel
theorem dX5_compareTexts_32 : decode cX5_compareTexts 32 = .ok (.aload_n 0, 1) := by decide +kernel
theorem dX5_compareTexts_33 : decode cX5_compareTexts 33 = .ok (.iload_n 3, 1) := by decide +kernel
theorem dX5_compareTexts_34 : decode cX5_compareTexts 34 = .ok (.invokevirtual 76, 3) := by decide +kernel
theorem dX5_compareTexts_37 : decode cX5_compareTexts 37 = .ok (.aload_n 1, 1) := by decide +kernel
theorem dX5_compareTexts_38 : decode cX5_compareTexts 38 = .ok (.iload_n 3, 1) := by decide +kernel
theorem dX5_compareTexts_39 : decode cX5_compareTexts 39 = .ok (.invokevirtual 76, 3) := by decide +kernel
theorem dX5_compareTexts_42 : decode cX5_compareTexts 42 = .ok (.invokestatic 21, 3) := by decide +kernel
theorem dX5_compareTexts_45 : decode cX5_compareTexts 45 = .ok (.ireturn, 1) := by decide +kernel
theorem dX5_compareTexts_46 : decode cX5_compareTexts 46 = .ok (.iinc 3 1, 3) := by decide +kernel
theorem dX5_compareTexts_49 : decode cX5_compareTexts 49 = .ok (.goto (-35), 3) := by decide +kernel
theorem dX5_compareTexts_52 : decode cX5_compareTexts 52 = .ok (.aload_n 0, 1) := by decide +kernel
theorem dX5_compareTexts_53 : decode cX5_compareTexts 53 = .ok (.invokevirtual 65, 3) := by decide +kernel
theorem dX5_compareTexts_56 : decode cX5_compareTexts 56 = .ok (.aload_n 1, 1) := by decide +kernel
theorem dX5_compareTexts_57 : decode cX5_compareTexts 57 = .ok (.invokevirtual 65, 3) := by decide +kernel
theorem dX5_compareTexts_60 : decode cX5_compareTexts 60 = .ok (.invokestatic 21, 3) := by decide +kernel
theorem dX5_compareTexts_63 : decode cX5_compareTexts 63 = .ok (.ireturn, 1) := by decide +kernel
theorem dX6_init_0 : decode cX6_init 0 = .ok (.aload_n 0, 1) := by decide +kernel
theorem dX6_init_1 : decode cX6_init 1 = .ok (.invokespecial 1, 3) := by decide +kernel
theorem dX6_init_4 : decode cX6_init 4 = .ok (.aload_n 0, 1) := by decide +kernel
theorem dX6_init_5 : decode cX6_init 5 = .ok (.iload_n 1, 1) := by decide +kernel
theorem dX6_init_6 : decode cX6_init 6 = .ok (.putfield 7, 3) := by decide +kernel
theorem dX6_init_9 : decode cX6_init 9 = .ok (.aload_n 0, 1) := by decide +kernel
theorem dX6_init_10 : decode cX6_init 10 = .ok (.iload_n 2, 1) := by decide +kernel
theorem dX6_init_11 : decode cX6_init 11 = .ok (.putfield 13, 3) := by decide +kernel
theorem dX6_init_14 : decode cX6_init 14 = .ok (.aload_n 0, 1) := by decide +kernel
theorem dX6_init_15 : decode cX6_init 15 = .ok (.aload_n 3, 1) := by decide +kernel
theorem dX6_init_16 : decode cX6_init 16 = .ok (.putfield 17, 3) := by decide +kernel
theorem dX6_init_19 : decode cX6_init 19 = .ok (.aload_n 0, 1) := by decide +kernel
theorem dX6_init_20 : decode cX6_init 20 = .ok (.aload 4, 2) := by decide +kernel
theorem dX6_init_22 : decode cX6_init 22 = .ok (.putfield 21, 3) := by decide +kernel
theorem dX6_init_25 : decode cX6_init 25 = .ok (.return_, 1) := by decide +kernel
theorem dX6_add_0 : decode cX6_add 0 = .ok (.aload_n 0, 1) := by decide +kernel
theorem dX6_add_1 : decode cX6_add 1 = .ok (.getfield 25, 3) := by decide +kernel
theorem dX6_add_4 : decode cX6_add 4 = .ok (.ifnonnull 11, 3) := by decide +kernel
theorem dX6_add_7 : decode cX6_add 7 = .ok (.aload_n 0, 1) := by decide +kernel
theorem dX6_add_8 : decode cX6_add 8 = .ok (.aload_n 1, 1) := by decide +kernel
theorem dX6_add_9 : decode cX6_add 9 = .ok (.putfield 29, 3) := by decide +kernel
theorem dX6_add_12 : decode cX6_add 12 = .ok (.goto 11, 3) := by decide +kernel
theorem dX6_add_15 : decode cX6_add 15 = .ok (.aload_n 0, 1) := by decide +kernel
theorem dX6_add_16 : decode cX6_add 16 = .ok (.getfield 25, 3) := by decide +kernel
theorem dX6_add_19 : decode cX6_add 19 = .ok (.aload_n 1, 1) := by decide +kernel
theorem dX6_add_20 : decode cX6_add 20 = .ok (.putfield 32, 3) := by decide +kernel
theorem dX6_add_23 : decode cX6_add 23 = .ok (.aload_n 0, 1) := by decide +kernel
theorem dX6_add_24 : decode cX6_add 24 = .ok (.aload_n 1, 1) := by decide +kernel
theorem dX6_add_25 : decode cX6_add 25 = .ok (.putfield 25, 3) := by decide +kernel
theorem dX6_add_28 : decode cX6_add 28 = .ok (.return_, 1) := by decide +kernel
theorem dX7_init_0 : decode cX7_init 0 = .ok (.aload_n 0, 1) := by decide +kernel
theorem dX7_init_1 : decode cX7_init 1 = .ok (.invokespecial 3, 3) := by decide +kernel
theorem dX7_init_4 : decode cX7_init 4 = .ok (.aload_n 0, 1) := by decide +kernel
theorem dX7_init_5 : decode cX7_init 5 = .ok (.aload_n 1, 1) := by decide +kernel
theorem dX7_init_6 : decode cX7_init 6 = .ok (.putfield 9, 3) := by decide +kernel
theorem dX7_init_9 : decode cX7_init 9 = .ok (.aload_n 0, 1) := by decide +kernel
theorem dX7_init_10 : decode cX7_init 10 = .ok (.aload_n 2, 1) := by decide +kernel
theorem dX7_init_11 : decode cX7_init 11 = .ok (.putfield 15, 3) := by decide +kernel
theorem dX7_init_14 : decode cX7_init 14 = .ok (.aload_n 0, 1) := by decide +kernel
theorem dX7_init_15 : decode cX7_init 15 = .ok (.aload_n 2, 1) := by decide +kernel
theorem dX7_init_16 : decode cX7_init 16 = .ok (.ifnonnull 7, 3) := by decide +kernel
theorem dX7_init_19 : decode cX7_init 19 = .ok (.iconst 1, 1) := by decide +kernel
theorem dX7_init_20 : decode cX7_init 20 = .ok (.goto 9, 3) := by decide +kernel
theorem dX7_init_23 : decode cX7_init 23 = .ok (.aload_n 2, 1) := by decide +kernel
theorem dX7_init_24 : decode cX7_init 24 = .ok (.getfield 19, 3) := by decide +kernel
theorem dX7_init_27 : decode cX7_init 27 = .ok (.iconst 1, 1) := by decide +kernel
theorem dX7_init_28 : decode cX7_init 28 = .ok (.iadd, 1) := by decide +kernel
theorem dX7_init_29 : decode cX7_init 29 = .ok (.putfield 19, 3) := by decide +kernel
theorem dX7_init_32 : decode cX7_init 32 = .ok (.return_, 1) := by decide +kernel
theorem dX7_ofPath_0 : decode cX7_ofPath 0 = .ok (.aconst_null, 1) := by decide +kernel
theorem dX7_ofPath_1 : decode cX7_ofPath 1 = .ok (.astore_n 1, 1) := by decide +kernel
theorem dX7_ofPath_2 : decode cX7_ofPath 2 = .ok (.aload_n 0, 1) := by decide +kernel
theorem dX7_ofPath_3 : decode cX7_ofPath 3 = .ok (.invokevirtual 23, 3) := by decide +kernel
theorem dX7_ofPath_6 : decode cX7_ofPath 6 = .ok (.istore_n 2, 1) := by decide +kernel
theorem dX7_ofPath_7 : decode cX7_ofPath 7 = .ok (.aload_n 0, 1) := by decide +kernel
theorem dX7_ofPath_8 : decode cX7_ofPath 8 = .ok (.invokevirtual 23, 3) := by decide +kernel
theorem dX7_ofPath_11 : decode cX7_ofPath 11 = .ok (.iconst 1, 1) := by decide +kernel
theorem dX7_ofPath_12 : decode cX7_ofPath 12 = .ok (.isub, 1) := by decide +kernel
theorem dX7_ofPath_13 : decode cX7_ofPath 13 = .ok (.istore_n 3, 1) := by decide +kernel
theorem dX7_ofPath_14 : decode cX7_ofPath 14 = .ok (.iload_n 3, 1) := by decide +kernel
theorem dX7_ofPath_15 : decode cX7_ofPath 15 = .ok (.iconst (-1), 1) := by decide +kernel
theorem dX7_ofPath_16 : decode cX7_ofPath 16 = .ok (.if_icmp .lt 75, 3) := by decide +kernel
theorem dX7_ofPath_19 : decode cX7_ofPath 19 = .ok (.iload_n 3, 1) := by decide +kernel
theorem dX7_ofPath_20 : decode cX7_ofPath 20 = .ok (.ifCond .lt 13, 3) := by decide +kernel
theorem dX7_ofPath_23 : decode cX7_ofPath 23 = .ok (.aload_n 0, 1) := by decide +kernel
theorem dX7_ofPath_24 : decode cX7_ofPath 24 = .ok (.iload_n 3, 1) := by decide +kernel
theorem dX7_ofPath_25 : decode cX7_ofPath 25 = .ok (.invokevirtual 29, 3) := by decide +kernel
theorem dX7_ofPath_28 : decode cX7_ofPath 28 = .ok (.bipush 46, 2) := by decide +kernel
theorem dX7_ofPath_30 : decode cX7_ofPath 30 = .ok (.if_icmp .ne 55, 3) := by decide +kernel
theorem dX7_ofPath_33 : decode cX7_ofPath 33 = .ok (.aload_n 0, 1) := by decide +kernel
theorem dX7_ofPath_34 : decode cX7_ofPath 34 = .ok (.iload_n 3, 1) := by decide +kernel
theorem dX7_ofPath_35 : decode cX7_ofPath 35 = .ok (.iconst 1, 1) := by decide +kernel
theorem dX7_ofPath_36 : decode cX7_ofPath 36 = .ok (.iadd, 1) := by decide +kernel
theorem dX7_ofPath_37 : decode cX7_ofPath 37 = .ok (.iload_n 2, 1) := by decide +kernel
theorem dX7_ofPath_38 : decode cX7_ofPath 38 = .ok (.invokevirtual 33, 3) := by decide +kernel
theorem dX7_ofPath_41 : decode cX7_ofPath 41 = .ok (.astore 4, 2) := by decide +kernel
theorem dX7_ofPath_43 : decode cX7_ofPath 43 = .ok (.aload 4, 2) := by decide +kernel
theorem dX7_ofPath_45 : decode cX7_ofPath 45 = .ok (.invokevirtual 37, 3) := by decide +kernel
theorem dX7_ofPath_48 : decode cX7_ofPath 48 = .ok (.ifCond .ne 11, 3) := by decide +kernel
theorem dX7_ofPath_51 : decode cX7_ofPath 51 = .ok (.aload 4, 2) := by decide +kernel
theorem dX7_ofPath_53 : decode cX7_ofPath 53 = .ok (.invokestatic 41, 3) := by decide +kernel
theorem dX7_ofPath_56 : decode cX7_ofPath 56 = .ok (.ifCond .eq 5, 3) := by decide +kernel
theorem dX7_ofPath_59 : decode cX7_ofPath 59 = .ok (.aconst_null, 1) := by decide +kernel
theorem dX7_ofPath_60 : decode cX7_ofPath 60 = .ok (.areturn, 1) := by decide +kernel
theorem dX7_ofPath_61 : decode cX7_ofPath 61 = .ok (.new 10, 3) := by decide +kernel
theorem dX7_ofPath_64 : decode cX7_ofPath 64 = .ok (.dup, 1) := by decide +kernel
theorem dX7_ofPath_65 : decode cX7_ofPath 65 = .ok (.aload 4, 2) := by decide +kernel
theorem dX7_ofPath_67 : decode cX7_ofPath 67 = .ok (.aload_n 1, 1) := by decide +kernel
theorem dX7_ofPath_68 : decode cX7_ofPath 68 = .ok (.invokespecial 45, 3) := by decide +kernel
theorem dX7_ofPath_71 : decode cX7_ofPath 71 = .ok (.astore_n 1, 1) := by decide +kernel
theorem dX7_ofPath_72 : decode cX7_ofPath 72 = .ok (.aload_n 1, 1) := by decide +kernel
theorem dX7_ofPath_73 : decode cX7_ofPath 73 = .ok (.getfield 19, 3) := by decide +kernel
theorem dX7_ofPath_76 : decode cX7_ofPath 76 = .ok (.bipush 8, 2) := by decide +kernel
theorem dX7_ofPath_78 : decode cX7_ofPath 78 = .ok (.if_icmp .le 5, 3) := by decide +kernel
theorem dX7_ofPath_81 : decode cX7_ofPath 81 = .ok (.aconst_null, 1) := by decide +kernel
theorem dX7_ofPath_82 : decode cX7_ofPath 82 = .ok (.areturn, 1) := by decide +kernel
theorem dX7_ofPath_83 : decode cX7_ofPath 83 = .ok (.iload_n 3, 1) := by decide +kernel
theorem dX7_ofPath_84 : decode cX7_ofPath 84 = .ok (.istore_n 2, 1) := by decide +kernel
theorem dX7_ofPath_85 : decode cX7_ofPath 85 = .ok (.iinc 3 (-1), 3) := by decide +kernel
theorem dX7_ofPath_88 : decode cX7_ofPath 88 = .ok (.goto (-74), 3) := by decide +kernel
theorem dX7_ofPath_91 : decode cX7_ofPath 91 = .ok (.aload_n 1, 1) := by decide +kernel
theorem dX7_ofPath_92 : decode cX7_ofPath 92 = .ok (.areturn, 1) := by decide +kernel
theorem dX8_init_0 : decode cX8_init 0 = .ok (.aload_n 0, 1) := by decide +kernel
theorem dX8_init_1 : decode cX8_init 1 = .ok (.invokespecial 3, 3) := by decide +kernel
theorem dX8_init_4 : decode cX8_init 4 = .ok (.aload_n 0, 1) := by decide +kernel
theorem dX8_init_5 : decode cX8_init 5 = .ok (.sipush 2000, 3) := by decide +kernel
theorem dX8_init_8 : decode cX8_init 8 = .ok (.newarray .int, 2) := by decide +kernel
theorem dX8_init_10 : decode cX8_init 10 = .ok (.putfield 9, 3) := by decide +kernel
theorem dX8_init_13 : decode cX8_init 13 = .ok (.return_, 1) := by decide +kernel
theorem dX8_hasRoom_0 : decode cX8_hasRoom 0 = .ok (.aload_n 0, 1) := by decide +kernel
theorem dX8_hasRoom_1 : decode cX8_hasRoom 1 = .ok (.getfield 15, 3) := by decide +kernel
theorem dX8_hasRoom_4 : decode cX8_hasRoom 4 = .ok (.bipush 20, 2) := by decide +kernel
theorem dX8_hasRoom_6 : decode cX8_hasRoom 6 = .ok (.iadd, 1) := by decide +kernel
theorem dX8_hasRoom_7 : decode cX8_hasRoom 7 = .ok (.sipush 2000, 3) := by decide +kernel
theorem dX8_hasRoom_10 : decode cX8_hasRoom 10 = .ok (.if_icmp .gt 7, 3) := by decide +kernel
theorem dX8_hasRoom_13 : decode cX8_hasRoom 13 = .ok (.iconst 1, 1) := by decide +kernel
theorem dX8_hasRoom_14 : decode cX8_hasRoom 14 = .ok (.goto 4, 3) := by decide +kernel
theorem dX8_hasRoom_17 : decode cX8_hasRoom 17 = .ok (.iconst 0, 1) := by decide +kernel
theorem dX8_hasRoom_18 : decode cX8_hasRoom 18 = .ok (.ireturn, 1) := by decide +kernel
theorem dX8_has_0 : decode cX8_has 0 = .ok (.iload_n 1, 1) := by decide +kernel
theorem dX8_has_1 : decode cX8_has 1 = .ok (.ifCond .lt 15, 3) := by decide +kernel
theorem dX8_has_4 : decode cX8_has 4 = .ok (.iload_n 1, 1) := by decide +kernel
theorem dX8_has_5 : decode cX8_has 5 = .ok (.aload_n 0, 1) := by decide +kernel
theorem dX8_has_6 : decode cX8_has 6 = .ok (.getfield 15, 3) := by decide +kernel
theorem dX8_has_9 : decode cX8_has 9 = .ok (.if_icmp .gt 7, 3) := by decide +kernel
theorem dX8_has_12 : decode cX8_has 12 = .ok (.iconst 1, 1) := by decide +kernel
theorem dX8_has_13 : decode cX8_has 13 = .ok (.goto 4, 3) := by decide +kernel
theorem dX8_has_16 : decode cX8_has 16 = .ok (.iconst 0, 1) := by decide +kernel
theorem dX8_has_17 : decode cX8_has 17 = .ok (.ireturn, 1) := by decide +kernel
theorem dX8_clear_0 : decode cX8_clear 0 = .ok (.aload_n 0, 1) := by decide +kernel
theorem dX8_clear_1 : decode cX8_clear 1 = .ok (.iconst 0, 1) := by decide +kernel
theorem dX8_clear_2 : decode cX8_clear 2 = .ok (.putfield 15, 3) := by decide +kernel
theorem dX8_clear_5 : decode cX8_clear 5 = .ok (.return_, 1) := by decide +kernel
theorem dX8_put_0 : decode cX8_put 0 = .ok (.bipush 24, 2) := by decide +kernel
theorem dX8_put_2 : decode cX8_put 2 = .ok (.istore_n 2, 1) := by decide +kernel
theorem dX8_put_3 : decode cX8_put 3 = .ok (.iload_n 2, 1) := by decide +kernel
theorem dX8_put_4 : decode cX8_put 4 = .ok (.ifCond .lt 54, 3) := by decide +kernel
theorem dX8_put_7 : decode cX8_put 7 = .ok (.aload_n 0, 1) := by decide +kernel
theorem dX8_put_8 : decode cX8_put 8 = .ok (.getfield 15, 3) := by decide +kernel
theorem dX8_put_11 : decode cX8_put 11 = .ok (.ifCond .lt 41, 3) := by decide +kernel
theorem dX8_put_14 : decode cX8_put 14 = .ok (.aload_n 0, 1) := by decide +kernel
theorem dX8_put_15 : decode cX8_put 15 = .ok (.getfield 15, 3) := by decide +kernel
theorem dX8_put_18 : decode cX8_put 18 = .ok (.aload_n 0, 1) := by decide +kernel
theorem dX8_put_19 : decode cX8_put 19 = .ok (.getfield 9, 3) := by decide +kernel
theorem dX8_put_22 : decode cX8_put 22 = .ok (.arraylength, 1) := by decide +kernel
theorem dX8_put_23 : decode cX8_put 23 = .ok (.if_icmp .ge 29, 3) := by decide +kernel
theorem dX8_put_26 : decode cX8_put 26 = .ok (.aload_n 0, 1) := by decide +kernel
theorem dX8_put_27 : decode cX8_put 27 = .ok (.getfield 9, 3) := by decide +kernel
theorem dX8_put_30 : decode cX8_put 30 = .ok (.aload_n 0, 1) := by decide +kernel
theorem dX8_put_31 : decode cX8_put 31 = .ok (.getfield 15, 3) := by decide +kernel
theorem dX8_put_34 : decode cX8_put 34 = .ok (.iload_n 1, 1) := by decide +kernel
theorem dX8_put_35 : decode cX8_put 35 = .ok (.iload_n 2, 1) := by decide +kernel
theorem dX8_put_36 : decode cX8_put 36 = .ok (.iushr, 1) := by decide +kernel
theorem dX8_put_37 : decode cX8_put 37 = .ok (.sipush 255, 3) := by decide +kernel
theorem dX8_put_40 : decode cX8_put 40 = .ok (.iand, 1) := by decide +kernel
theorem dX8_put_41 : decode cX8_put 41 = .ok (.iastore, 1) := by decide +kernel
theorem dX8_put_42 : decode cX8_put 42 = .ok (.aload_n 0, 1) := by decide +kernel
theorem dX8_put_43 : decode cX8_put 43 = .ok (.dup, 1) := by decide +kernel
theorem dX8_put_44 : decode cX8_put 44 = .ok (.getfield 15, 3) := by decide +kernel
theorem dX8_put_47 : decode cX8_put 47 = .ok (.iconst 1, 1) := by decide +kernel
theorem dX8_put_48 : decode cX8_put 48 = .ok (.iadd, 1) := by decide +kernel
theorem dX8_put_49 : decode cX8_put 49 = .ok (.putfield 15, 3) := by decide +kernel
theorem dX8_put_52 : decode cX8_put 52 = .ok (.iinc 2 (-8), 3) := by decide +kernel
theorem dX8_put_55 : decode cX8_put 55 = .ok (.goto (-52), 3) := by decide +kernel
theorem dX8_put_58 : decode cX8_put 58 = .ok (.return_, 1) := by decide +kernel
theorem dX8_byteAt_0 : decode cX8_byteAt 0 = .ok (.iload_n 1, 1) := by decide +kernel
theorem dX8_byteAt_1 : decode cX8_byteAt 1 = .ok (.ifCond .lt 21, 3) := by decide +kernel
theorem dX8_byteAt_4 : decode cX8_byteAt 4 = .ok (.iload_n 1, 1) := by decide +kernel
theorem dX8_byteAt_5 : decode cX8_byteAt 5 = .ok (.aload_n 0, 1) := by decide +kernel
theorem dX8_byteAt_6 : decode cX8_byteAt 6 = .ok (.getfield 9, 3) := by decide +kernel
theorem dX8_byteAt_9 : decode cX8_byteAt 9 = .ok (.arraylength, 1) := by decide +kernel
theorem dX8_byteAt_10 : decode cX8_byteAt 10 = .ok (.if_icmp .ge 12, 3) := by decide +kernel
theorem dX8_byteAt_13 : decode cX8_byteAt 13 = .ok (.aload_n 0, 1) := by decide +kernel
theorem dX8_byteAt_14 : decode cX8_byteAt 14 = .ok (.getfield 9, 3) := by decide +kernel
theorem dX8_byteAt_17 : decode cX8_byteAt 17 = .ok (.iload_n 1, 1) := by decide +kernel
theorem dX8_byteAt_18 : decode cX8_byteAt 18 = .ok (.iaload, 1) := by decide +kernel
theorem dX8_byteAt_19 : decode cX8_byteAt 19 = .ok (.goto 4, 3) := by decide +kernel
theorem dX8_byteAt_22 : decode cX8_byteAt 22 = .ok (.iconst 0, 1) := by decide +kernel
theorem dX8_byteAt_23 : decode cX8_byteAt 23 = .ok (.ireturn, 1) := by decide +kernel
theorem dX9_init_0 : decode cX9_init 0 = .ok (.aload_n 0, 1) := by decide +kernel
theorem dX9_init_1 : decode cX9_init 1 = .ok (.invokespecial 1, 3) := by decide +kernel
theorem dX9_init_4 : decode cX9_init 4 = .ok (.aload_n 0, 1) := by decide +kernel
theorem dX9_init_5 : decode cX9_init 5 = .ok (.ldc 7, 2) := by decide +kernel
theorem dX9_init_7 : decode cX9_init 7 = .ok (.putfield 9, 3) := by decide +kernel
theorem dX9_init_10 : decode cX9_init 10 = .ok (.aload_n 0, 1) := by decide +kernel
theorem dX9_init_11 : decode cX9_init 11 = .ok (.iload_n 1, 1) := by decide +kernel
theorem dX9_init_12 : decode cX9_init 12 = .ok (.putfield 15, 3) := by decide +kernel
theorem dX9_init_15 : decode cX9_init 15 = .ok (.aload_n 0, 1) := by decide +kernel
theorem dX9_init_16 : decode cX9_init 16 = .ok (.iload_n 2, 1) := by decide +kernel
theorem dX9_init_17 : decode cX9_init 17 = .ok (.putfield 19, 3) := by decide +kernel
theorem dX9_init_20 : decode cX9_init 20 = .ok (.aload_n 0, 1) := by decide +kernel
theorem dX9_init_21 : decode cX9_init 21 = .ok (.aload_n 3, 1) := by decide +kernel
theorem dX9_init_22 : decode cX9_init 22 = .ok (.putfield 22, 3) := by decide +kernel
theorem dX9_init_25 : decode cX9_init 25 = .ok (.return_, 1) := by decide +kernel
theorem dX9_add_0 : decode cX9_add 0 = .ok (.aload_n 0, 1) := by decide +kernel
theorem dX9_add_1 : decode cX9_add 1 = .ok (.getfield 25, 3) := by decide +kernel
theorem dX9_add_4 : decode cX9_add 4 = .ok (.ifnonnull 11, 3) := by decide +kernel
theorem dX9_add_7 : decode cX9_add 7 = .ok (.aload_n 0, 1) := by decide +kernel
theorem dX9_add_8 : decode cX9_add 8 = .ok (.aload_n 1, 1) := by decide +kernel
theorem dX9_add_9 : decode cX9_add 9 = .ok (.putfield 29, 3) := by decide +kernel
theorem dX9_add_12 : decode cX9_add 12 = .ok (.goto 11, 3) := by decide +kernel
theorem dX9_add_15 : decode cX9_add 15 = .ok (.aload_n 0, 1) := by decide +kernel
theorem dX9_add_16 : decode cX9_add 16 = .ok (.getfield 25, 3) := by decide +kernel
theorem dX9_add_19 : decode cX9_add 19 = .ok (.aload_n 1, 1) := by decide +kernel
theorem dX9_add_20 : decode cX9_add 20 = .ok (.putfield 32, 3) := by decide +kernel
theorem dX9_add_23 : decode cX9_add 23 = .ok (.aload_n 0, 1) := by decide +kernel
theorem dX9_add_24 : decode cX9_add 24 = .ok (.aload_n 1, 1) := by decide +kernel
theorem dX9_add_25 : decode cX9_add 25 = .ok (.putfield 25, 3) := by decide +kernel
theorem dX9_add_28 : decode cX9_add 28 = .ok (.aload_n 0, 1) := by decide +kernel
theorem dX9_add_29 : decode cX9_add 29 = .ok (.dup, 1) := by decide +kernel
theorem dX9_add_30 : decode cX9_add 30 = .ok (.getfield 35, 3) := by decide +kernel
theorem dX9_add_33 : decode cX9_add 33 = .ok (.iconst 1, 1) := by decide +kernel
theorem dX9_add_34 : decode cX9_add 34 = .ok (.iadd, 1) := by decide +kernel
theorem dX9_add_35 : decode cX9_add 35 = .ok (.putfield 35, 3) := by decide +kernel
theorem dX9_add_38 : decode cX9_add 38 = .ok (.return_, 1) := by decide +kernel
theorem dX9_named_0 : decode cX9_named 0 = .ok (.aload_n 0, 1) := by decide +kernel
theorem dX9_named_1 : decode cX9_named 1 = .ok (.getfield 29, 3) := by decide +kernel
theorem dX9_named_4 : decode cX9_named 4 = .ok (.astore_n 2, 1) := by decide +kernel
theorem dX9_named_5 : decode cX9_named 5 = .ok (.aload_n 2, 1) := by decide +kernel
theorem dX9_named_6 : decode cX9_named 6 = .ok (.ifnull 24, 3) := by decide +kernel
theorem dX9_named_9 : decode cX9_named 9 = .ok (.aload_n 2, 1) := by decide +kernel
theorem dX9_named_10 : decode cX9_named 10 = .ok (.getfield 22, 3) := by decide +kernel
theorem dX9_named_13 : decode cX9_named 13 = .ok (.aload_n 1, 1) := by decide +kernel
theorem dX9_named_14 : decode cX9_named 14 = .ok (.invokevirtual 38, 3) := by decide +kernel
theorem dX9_named_17 : decode cX9_named 17 = .ok (.ifCond .eq 5, 3) := by decide +kernel
theorem dX9_named_20 : decode cX9_named 20 = .ok (.aload_n 2, 1) := by decide +kernel
theorem dX9_named_21 : decode cX9_named 21 = .ok (.areturn, 1) := by decide +kernel
theorem dX9_named_22 : decode cX9_named 22 = .ok (.aload_n 2, 1) := by decide +kernel
theorem dX9_named_23 : decode cX9_named 23 = .ok (.getfield 32, 3) := by decide +kernel
theorem dX9_named_26 : decode cX9_named 26 = .ok (.astore_n 2, 1) := by decide +kernel
theorem dX9_named_27 : decode cX9_named 27 = .ok (.goto (-22), 3) := by decide +kernel
theorem dX9_named_30 : decode cX9_named 30 = .ok (.aconst_null, 1) := by decide +kernel
theorem dX9_named_31 : decode cX9_named 31 = .ok (.areturn, 1) := by decide +kernel
theorem dX9_isConditions_0 : decode cX9_isConditions 0 = .ok (.aload_n 0, 1) := by decide +kernel
theorem dX9_isConditions_1 : decode cX9_isConditions 1 = .ok (.getfield 15, 3) := by decide +kernel
theorem dX9_isConditions_4 : decode cX9_isConditions 4 = .ok (.iconst 3, 1) := by decide +kernel
theorem dX9_isConditions_5 : decode cX9_isConditions 5 = .ok (.if_icmp .ne 27, 3) := by decide +kernel
theorem dX9_isConditions_8 : decode cX9_isConditions 8 = .ok (.aload_n 0, 1) := by decide +kernel
theorem dX9_isConditions_9 : decode cX9_isConditions 9 = .ok (.getfield 29, 3) := by decide +kernel
theorem dX9_isConditions_12 : decode cX9_isConditions 12 = .ok (.ifnull 20, 3) := by decide +kernel
theorem dX9_isConditions_15 : decode cX9_isConditions 15 = .ok (.aload_n 0, 1) := by decide +kernel
theorem dX9_isConditions_16 : decode cX9_isConditions 16 = .ok (.getfield 29, 3) := by decide +kernel
theorem dX9_isConditions_19 : decode cX9_isConditions 19 = .ok (.getfield 22, 3) := by decide +kernel
theorem dX9_isConditions_22 : decode cX9_isConditions 22 = .ok (.invokestatic 46, 3) := by decide +kernel
theorem dX9_isConditions_25 : decode cX9_isConditions 25 = .ok (.ifCond .eq 7, 3) := by decide +kernel
theorem dX9_isConditions_28 : decode cX9_isConditions 28 = .ok (.iconst 1, 1) := by decide +kernel
theorem dX9_isConditions_29 : decode cX9_isConditions 29 = .ok (.goto 4, 3) := by decide +kernel
theorem dX9_isConditions_32 : decode cX9_isConditions 32 = .ok (.iconst 0, 1) := by decide +kernel
theorem dX9_isConditions_33 : decode cX9_isConditions 33 = .ok (.ireturn, 1) := by decide +kernel
theorem dX10_init_0 : decode cX10_init 0 = .ok (.aload_n 0, 1) := by decide +kernel
theorem dX10_init_1 : decode cX10_init 1 = .ok (.invokespecial 1, 3) := by decide +kernel
theorem dX10_init_4 : decode cX10_init 4 = .ok (.aload_n 0, 1) := by decide +kernel
theorem dX10_init_5 : decode cX10_init 5 = .ok (.new 7, 3) := by decide +kernel
theorem dX10_init_8 : decode cX10_init 8 = .ok (.dup, 1) := by decide +kernel
theorem dX10_init_9 : decode cX10_init 9 = .ok (.invokespecial 9, 3) := by decide +kernel
theorem dX10_init_12 : decode cX10_init 12 = .ok (.putfield 10, 3) := by decide +kernel
theorem dX10_init_15 : decode cX10_init 15 = .ok (.aload_n 0, 1) := by decide +kernel
theorem dX10_init_16 : decode cX10_init 16 = .ok (.new 16, 3) := by decide +kernel
theorem dX10_init_19 : decode cX10_init 19 = .ok (.dup, 1) := by decide +kernel
theorem dX10_init_20 : decode cX10_init 20 = .ok (.invokespecial 18, 3) := by decide +kernel
theorem dX10_init_23 : decode cX10_init 23 = .ok (.putfield 19, 3) := by decide +kernel
theorem dX10_init_26 : decode cX10_init 26 = .ok (.aload_n 0, 1) := by decide +kernel
theorem dX10_init_27 : decode cX10_init 27 = .ok (.iconst 4, 1) := by decide +kernel
theorem dX10_init_28 : decode cX10_init 28 = .ok (.anewarray 23, 3) := by decide +kernel
theorem dX10_init_31 : decode cX10_init 31 = .ok (.putfield 25, 3) := by decide +kernel
theorem dX10_init_34 : decode cX10_init 34 = .ok (.iconst 0, 1) := by decide +kernel
theorem dX10_init_35 : decode cX10_init 35 = .ok (.istore_n 1, 1) := by decide +kernel
theorem dX10_init_36 : decode cX10_init 36 = .ok (.iload_n 1, 1) := by decide +kernel
theorem dX10_init_37 : decode cX10_init 37 = .ok (.iconst 4, 1) := by decide +kernel
theorem dX10_init_38 : decode cX10_init 38 = .ok (.if_icmp .ge 26, 3) := by decide +kernel
theorem dX10_init_41 : decode cX10_init 41 = .ok (.aload_n 0, 1) := by decide +kernel
theorem dX10_init_42 : decode cX10_init 42 = .ok (.getfield 25, 3) := by decide +kernel
theorem dX10_init_45 : decode cX10_init 45 = .ok (.iload_n 1, 1) := by decide +kernel
theorem dX10_init_46 : decode cX10_init 46 = .ok (.new 23, 3) := by decide +kernel
theorem dX10_init_49 : decode cX10_init 49 = .ok (.dup, 1) := by decide +kernel
theorem dX10_init_50 : decode cX10_init 50 = .ok (.iconst 3, 1) := by decide +kernel
theorem dX10_init_51 : decode cX10_init 51 = .ok (.iconst (-1), 1) := by decide +kernel
theorem dX10_init_52 : decode cX10_init 52 = .ok (.ldc 31, 2) := by decide +kernel
theorem dX10_init_54 : decode cX10_init 54 = .ok (.invokespecial 33, 3) := by decide +kernel
theorem dX10_init_57 : decode cX10_init 57 = .ok (.aastore, 1) := by decide +kernel
theorem dX10_init_58 : decode cX10_init 58 = .ok (.iinc 1 1, 3) := by decide +kernel
theorem dX10_init_61 : decode cX10_init 61 = .ok (.goto (-25), 3) := by decide +kernel
theorem dX10_init_64 : decode cX10_init 64 = .ok (.aload_n 0, 1) := by decide +kernel
theorem dX10_init_65 : decode cX10_init 65 = .ok (.iconst 4, 1) := by decide +kernel
theorem dX10_init_66 : decode cX10_init 66 = .ok (.anewarray 36, 3) := by decide +kernel
theorem dX10_init_69 : decode cX10_init 69 = .ok (.putfield 38, 3) := by decide +kernel
theorem dX10_init_72 : decode cX10_init 72 = .ok (.iconst 0, 1) := by decide +kernel
theorem dX10_init_73 : decode cX10_init 73 = .ok (.istore_n 1, 1) := by decide +kernel
theorem dX10_init_74 : decode cX10_init 74 = .ok (.iload_n 1, 1) := by decide +kernel
theorem dX10_init_75 : decode cX10_init 75 = .ok (.iconst 4, 1) := by decide +kernel
theorem dX10_init_76 : decode cX10_init 76 = .ok (.if_icmp .ge 33, 3) := by decide +kernel
theorem dX10_init_79 : decode cX10_init 79 = .ok (.aload_n 0, 1) := by decide +kernel
theorem dX10_init_80 : decode cX10_init 80 = .ok (.getfield 38, 3) := by decide +kernel
theorem dX10_init_83 : decode cX10_init 83 = .ok (.iload_n 1, 1) := by decide +kernel
theorem dX10_init_84 : decode cX10_init 84 = .ok (.new 36, 3) := by decide +kernel
theorem dX10_init_87 : decode cX10_init 87 = .ok (.dup, 1) := by decide +kernel
theorem dX10_init_88 : decode cX10_init 88 = .ok (.new 23, 3) := by decide +kernel
theorem dX10_init_91 : decode cX10_init 91 = .ok (.dup, 1) := by decide +kernel
theorem dX10_init_92 : decode cX10_init 92 = .ok (.iconst 3, 1) := by decide +kernel
theorem dX10_init_93 : decode cX10_init 93 = .ok (.iconst (-1), 1) := by decide +kernel
theorem dX10_init_94 : decode cX10_init 94 = .ok (.ldc 31, 2) := by decide +kernel
theorem dX10_init_96 : decode cX10_init 96 = .ok (.invokespecial 33, 3) := by decide +kernel
theorem dX10_init_99 : decode cX10_init 99 = .ok (.invokespecial 42, 3) := by decide +kernel
theorem dX10_init_102 : decode cX10_init 102 = .ok (.aastore, 1) := by decide +kernel
theorem dX10_init_103 : decode cX10_init 103 = .ok (.iinc 1 1, 3) := by decide +kernel
theorem dX10_init_106 : decode cX10_init 106 = .ok (.goto (-32), 3) := by decide +kernel
theorem dX10_init_109 : decode cX10_init 109 = .ok (.aload_n 0, 1) := by decide +kernel
theorem dX10_init_110 : decode cX10_init 110 = .ok (.iconst (-1), 1) := by decide +kernel
theorem dX10_init_111 : decode cX10_init 111 = .ok (.putfield 45, 3) := by decide +kernel
theorem dX10_init_114 : decode cX10_init 114 = .ok (.return_, 1) := by decide +kernel
theorem dX10_feed_0 : decode cX10_feed 0 = .ok (.aload_n 0, 1) := by decide +kernel
theorem dX10_feed_1 : decode cX10_feed 1 = .ok (.getfield 10, 3) := by decide +kernel
theorem dX10_feed_4 : decode cX10_feed 4 = .ok (.invokevirtual 49, 3) := by decide +kernel
theorem dX10_feed_7 : decode cX10_feed 7 = .ok (.ifCond .ne 5, 3) := by decide +kernel
theorem dX10_feed_10 : decode cX10_feed 10 = .ok (.iconst (-1), 1) := by decide +kernel
theorem dX10_feed_11 : decode cX10_feed 11 = .ok (.ireturn, 1) := by decide +kernel
theorem dX10_feed_12 : decode cX10_feed 12 = .ok (.aload_n 0, 1) := by decide +kernel
theorem dX10_feed_13 : decode cX10_feed 13 = .ok (.getfield 10, 3) := by decide +kernel
theorem dX10_feed_16 : decode cX10_feed 16 = .ok (.iload_n 1, 1) := by decide +kernel
theorem dX10_feed_17 : decode cX10_feed 17 = .ok (.invokevirtual 53, 3) := by decide +kernel
theorem dX10_feed_20 : decode cX10_feed 20 = .ok (.aload_n 0, 1) := by decide +kernel
theorem dX10_feed_21 : decode cX10_feed 21 = .ok (.getfield 10, 3) := by decide +kernel
theorem dX10_feed_24 : decode cX10_feed 24 = .ok (.iload_n 2, 1) := by decide +kernel
theorem dX10_feed_25 : decode cX10_feed 25 = .ok (.invokevirtual 53, 3) := by decide +kernel
theorem dX10_feed_28 : decode cX10_feed 28 = .ok (.aload_n 0, 1) := by decide +kernel
theorem dX10_feed_29 : decode cX10_feed 29 = .ok (.getfield 10, 3) := by decide +kernel
theorem dX10_feed_32 : decode cX10_feed 32 = .ok (.iload_n 3, 1) := by decide +kernel
theorem dX10_feed_33 : decode cX10_feed 33 = .ok (.invokevirtual 53, 3) := by decide +kernel
theorem dX10_feed_36 : decode cX10_feed 36 = .ok (.aload_n 0, 1) := by decide +kernel
theorem dX10_feed_37 : decode cX10_feed 37 = .ok (.getfield 10, 3) := by decide +kernel
theorem dX10_feed_40 : decode cX10_feed 40 = .ok (.iload 4, 2) := by decide +kernel
theorem dX10_feed_42 : decode cX10_feed 42 = .ok (.invokevirtual 53, 3) := by decide +kernel
theorem dX10_feed_45 : decode cX10_feed 45 = .ok (.aload_n 0, 1) := by decide +kernel
theorem dX10_feed_46 : decode cX10_feed 46 = .ok (.getfield 10, 3) := by decide +kernel
theorem dX10_feed_49 : decode cX10_feed 49 = .ok (.iload 5, 2) := by decide +kernel
theorem dX10_feed_51 : decode cX10_feed 51 = .ok (.invokevirtual 53, 3) := by decide +kernel
theorem dX10_feed_54 : decode cX10_feed 54 = .ok (.aload_n 0, 1) := by decide +kernel
theorem dX10_feed_55 : decode cX10_feed 55 = .ok (.getfield 10, 3) := by decide +kernel
theorem dX10_feed_58 : decode cX10_feed 58 = .ok (.getfield 57, 3) := by decide +kernel
theorem dX10_feed_61 : decode cX10_feed 61 = .ok (.ireturn, 1) := by decide +kernel
theorem dX10_read_0 : decode cX10_read 0 = .ok (.aload_n 0, 1) := by decide +kernel
theorem dX10_read_1 : decode cX10_read 1 = .ok (.iload_n 1, 1) := by decide +kernel
theorem dX10_read_2 : decode cX10_read 2 = .ok (.invokevirtual 60, 3) := by decide +kernel
theorem dX10_read_5 : decode cX10_read 5 = .ok (.ifnull 14, 3) := by decide +kernel
theorem dX10_read_8 : decode cX10_read 8 = .ok (.aload_n 0, 1) := by decide +kernel
theorem dX10_read_9 : decode cX10_read 9 = .ok (.getfield 10, 3) := by decide +kernel
theorem dX10_read_12 : decode cX10_read 12 = .ok (.iload_n 2, 1) := by decide +kernel
theorem dX10_read_13 : decode cX10_read 13 = .ok (.invokevirtual 64, 3) := by decide +kernel
theorem dX10_read_16 : decode cX10_read 16 = .ok (.ifCond .ne 6, 3) := by decide +kernel
theorem dX10_read_19 : decode cX10_read 19 = .ok (.bipush (-2), 2) := by decide +kernel
theorem dX10_read_21 : decode cX10_read 21 = .ok (.ireturn, 1) := by decide +kernel
theorem dX10_read_22 : decode cX10_read 22 = .ok (.aload_n 0, 1) := by decide +kernel
theorem dX10_read_23 : decode cX10_read 23 = .ok (.iload_n 2, 1) := by decide +kernel
theorem dX10_read_24 : decode cX10_read 24 = .ok (.invokevirtual 68, 3) := by decide +kernel
theorem dX10_read_27 : decode cX10_read 27 = .ok (.astore_n 3, 1) := by decide +kernel
theorem dX10_read_28 : decode cX10_read 28 = .ok (.aload_n 3, 1) := by decide +kernel
theorem dX10_read_29 : decode cX10_read 29 = .ok (.ifnonnull 5, 3) := by decide +kernel
theorem dX10_read_32 : decode cX10_read 32 = .ok (.iconst (-1), 1) := by decide +kernel
theorem dX10_read_33 : decode cX10_read 33 = .ok (.ireturn, 1) := by decide +kernel
theorem dX10_read_34 : decode cX10_read 34 = .ok (.aload_n 0, 1) := by decide +kernel
theorem dX10_read_35 : decode cX10_read 35 = .ok (.getfield 25, 3) := by decide +kernel
theorem dX10_read_38 : decode cX10_read 38 = .ok (.iload_n 1, 1) := by decide +kernel
theorem dX10_read_39 : decode cX10_read 39 = .ok (.aload_n 3, 1) := by decide +kernel
theorem dX10_read_40 : decode cX10_read 40 = .ok (.aastore, 1) := by decide +kernel
theorem dX10_read_41 : decode cX10_read 41 = .ok (.iconst 0, 1) := by decide +kernel
theorem dX10_read_42 : decode cX10_read 42 = .ok (.ireturn, 1) := by decide +kernel
theorem dX10_filter_0 : decode cX10_filter 0 = .ok (.aload_n 0, 1) := by decide +kernel
theorem dX10_filter_1 : decode cX10_filter 1 = .ok (.iload_n 1, 1) := by decide +kernel
theorem dX10_filter_2 : decode cX10_filter 2 = .ok (.invokevirtual 71, 3) := by decide +kernel
theorem dX10_filter_5 : decode cX10_filter 5 = .ok (.ifnull 14, 3) := by decide +kernel
theorem dX10_filter_8 : decode cX10_filter 8 = .ok (.aload_n 0, 1) := by decide +kernel
theorem dX10_filter_9 : decode cX10_filter 9 = .ok (.getfield 10, 3) := by decide +kernel
theorem dX10_filter_12 : decode cX10_filter 12 = .ok (.iload_n 2, 1) := by decide +kernel
theorem dX10_filter_13 : decode cX10_filter 13 = .ok (.invokevirtual 64, 3) := by decide +kernel
theorem dX10_filter_16 : decode cX10_filter 16 = .ok (.ifCond .ne 6, 3) := by decide +kernel
theorem dX10_filter_19 : decode cX10_filter 19 = .ok (.bipush (-2), 2) := by decide +kernel
theorem dX10_filter_21 : decode cX10_filter 21 = .ok (.ireturn, 1) := by decide +kernel
theorem dX10_filter_22 : decode cX10_filter 22 = .ok (.aload_n 0, 1) := by decide +kernel
theorem dX10_filter_23 : decode cX10_filter 23 = .ok (.iload_n 2, 1) := by decide +kernel
theorem dX10_filter_24 : decode cX10_filter 24 = .ok (.invokevirtual 68, 3) := by decide +kernel
theorem dX10_filter_27 : decode cX10_filter 27 = .ok (.astore_n 3, 1) := by decide +kernel
theorem dX10_filter_28 : decode cX10_filter 28 = .ok (.aload_n 3, 1) := by decide +kernel
theorem dX10_filter_29 : decode cX10_filter 29 = .ok (.ifnonnull 10, 3) := by decide +kernel
theorem dX10_filter_32 : decode cX10_filter 32 = .ok (.aload_n 0, 1) := by decide +kernel
theorem dX10_filter_33 : decode cX10_filter 33 = .ok (.iconst (-1), 1) := by decide +kernel
theorem dX10_filter_34 : decode cX10_filter 34 = .ok (.putfield 45, 3) := by decide +kernel
theorem dX10_filter_37 : decode cX10_filter 37 = .ok (.iconst (-1), 1) := by decide +kernel
theorem dX10_filter_38 : decode cX10_filter 38 = .ok (.ireturn, 1) := by decide +kernel
theorem dX10_filter_39 : decode cX10_filter 39 = .ok (.new 75, 3) := by decide +kernel
theorem dX10_filter_42 : decode cX10_filter 42 = .ok (.dup, 1) := by decide +kernel
theorem dX10_filter_43 : decode cX10_filter 43 = .ok (.aload_n 3, 1) := by decide +kernel
theorem dX10_filter_44 : decode cX10_filter 44 = .ok (.invokespecial 77, 3) := by decide +kernel
theorem dX10_filter_47 : decode cX10_filter 47 = .ok (.astore 4, 2) := by decide +kernel
theorem dX10_filter_49 : decode cX10_filter 49 = .ok (.aload 4, 2) := by decide +kernel
theorem dX10_filter_51 : decode cX10_filter 51 = .ok (.invokevirtual 78, 3) := by decide +kernel
theorem dX10_filter_54 : decode cX10_filter 54 = .ok (.aload_n 0, 1) := by decide +kernel
theorem dX10_filter_55 : decode cX10_filter 55 = .ok (.aload 4, 2) := by decide +kernel
theorem dX10_filter_57 : decode cX10_filter 57 = .ok (.getfield 81, 3) := by decide +kernel
theorem dX10_filter_60 : decode cX10_filter 60 = .ok (.putfield 45, 3) := by decide +kernel
theorem dX10_filter_63 : decode cX10_filter 63 = .ok (.aload 4, 2) := by decide +kernel
theorem dX10_filter_65 : decode cX10_filter 65 = .ok (.getfield 82, 3) := by decide +kernel
theorem dX10_filter_68 : decode cX10_filter 68 = .ok (.ifCond .ne 14, 3) := by decide +kernel
theorem dX10_filter_71 : decode cX10_filter 71 = .ok (.aload_n 0, 1) := by decide +kernel
theorem dX10_filter_72 : decode cX10_filter 72 = .ok (.getfield 38, 3) := by decide +kernel
theorem dX10_filter_75 : decode cX10_filter 75 = .ok (.iload_n 1, 1) := by decide +kernel
theorem dX10_filter_76 : decode cX10_filter 76 = .ok (.aload 4, 2) := by decide +kernel
theorem dX10_filter_78 : decode cX10_filter 78 = .ok (.getfield 85, 3) := by decide +kernel
theorem dX10_filter_81 : decode cX10_filter 81 = .ok (.aastore, 1) := by decide +kernel
theorem dX10_filter_82 : decode cX10_filter 82 = .ok (.aload 4, 2) := by decide +kernel
theorem dX10_filter_84 : decode cX10_filter 84 = .ok (.getfield 82, 3) := by decide +kernel
theorem dX10_filter_87 : decode cX10_filter 87 = .ok (.ireturn, 1) := by decide +kernel
theorem dX10_place_0 : decode cX10_place 0 = .ok (.aload_n 0, 1) := by decide +kernel
theorem dX10_place_1 : decode cX10_place 1 = .ok (.getfield 45, 3) := by decide +kernel
theorem dX10_place_4 : decode cX10_place 4 = .ok (.ireturn, 1) := by decide +kernel
theorem dX10_many_0 : decode cX10_many 0 = .ok (.aload_n 0, 1) := by decide +kernel
theorem dX10_many_1 : decode cX10_many 1 = .ok (.iload_n 1, 1) := by decide +kernel
theorem dX10_many_2 : decode cX10_many 2 = .ok (.invokevirtual 71, 3) := by decide +kernel
theorem dX10_many_5 : decode cX10_many 5 = .ok (.astore_n 3, 1) := by decide +kernel
theorem dX10_many_6 : decode cX10_many 6 = .ok (.aload_n 3, 1) := by decide +kernel
theorem dX10_many_7 : decode cX10_many 7 = .ok (.ifnull 16, 3) := by decide +kernel
theorem dX10_many_10 : decode cX10_many 10 = .ok (.iload_n 2, 1) := by decide +kernel
theorem dX10_many_11 : decode cX10_many 11 = .ok (.ifCond .lt 12, 3) := by decide +kernel
theorem dX10_many_14 : decode cX10_many 14 = .ok (.iload_n 2, 1) := by decide +kernel
theorem dX10_many_15 : decode cX10_many 15 = .ok (.aload_n 3, 1) := by decide +kernel
theorem dX10_many_16 : decode cX10_many 16 = .ok (.getfield 89, 3) := by decide +kernel
theorem dX10_many_19 : decode cX10_many 19 = .ok (.arraylength, 1) := by decide +kernel
theorem dX10_many_20 : decode cX10_many 20 = .ok (.if_icmp .lt 5, 3) := by decide +kernel
theorem dX10_many_23 : decode cX10_many 23 = .ok (.iconst (-1), 1) := by decide +kernel
theorem dX10_many_24 : decode cX10_many 24 = .ok (.ireturn, 1) := by decide +kernel
theorem dX10_many_25 : decode cX10_many 25 = .ok (.aload_n 3, 1) := by decide +kernel
theorem dX10_many_26 : decode cX10_many 26 = .ok (.getfield 89, 3) := by decide +kernel
theorem dX10_many_29 : decode cX10_many 29 = .ok (.iload_n 2, 1) := by decide +kernel
theorem dX10_many_30 : decode cX10_many 30 = .ok (.iaload, 1) := by decide +kernel
theorem dX10_many_31 : decode cX10_many 31 = .ok (.ireturn, 1) := by decide +kernel
theorem dX10_holds_0 : decode cX10_holds 0 = .ok (.aload_n 0, 1) := by decide +kernel
theorem dX10_holds_1 : decode cX10_holds 1 = .ok (.iload_n 1, 1) := by decide +kernel
theorem dX10_holds_2 : decode cX10_holds 2 = .ok (.invokevirtual 71, 3) := by decide +kernel
theorem dX10_holds_5 : decode cX10_holds 5 = .ok (.astore_n 3, 1) := by decide +kernel
theorem dX10_holds_6 : decode cX10_holds 6 = .ok (.aload_n 0, 1) := by decide +kernel
theorem dX10_holds_7 : decode cX10_holds 7 = .ok (.iload_n 2, 1) := by decide +kernel
theorem dX10_holds_8 : decode cX10_holds 8 = .ok (.invokevirtual 60, 3) := by decide +kernel
theorem dX10_holds_11 : decode cX10_holds 11 = .ok (.astore 4, 2) := by decide +kernel
theorem dX10_holds_13 : decode cX10_holds 13 = .ok (.aload_n 3, 1) := by decide +kernel
theorem dX10_holds_14 : decode cX10_holds 14 = .ok (.ifnull 8, 3) := by decide +kernel
theorem dX10_holds_17 : decode cX10_holds 17 = .ok (.aload 4, 2) := by decide +kernel
theorem dX10_holds_19 : decode cX10_holds 19 = .ok (.ifnonnull 5, 3) := by decide +kernel
theorem dX10_holds_22 : decode cX10_holds 22 = .ok (.iconst (-1), 1) := by decide +kernel
theorem dX10_holds_23 : decode cX10_holds 23 = .ok (.ireturn, 1) := by decide +kernel
theorem dX10_holds_24 : decode cX10_holds 24 = .ok (.aload_n 0, 1) := by decide +kernel
theorem dX10_holds_25 : decode cX10_holds 25 = .ok (.getfield 19, 3) := by decide +kernel
theorem dX10_holds_28 : decode cX10_holds 28 = .ok (.aload_n 3, 1) := by decide +kernel
theorem dX10_holds_29 : decode cX10_holds 29 = .ok (.getfield 93, 3) := by decide +kernel
theorem dX10_holds_32 : decode cX10_holds 32 = .ok (.aload 4, 2) := by decide +kernel
theorem dX10_holds_34 : decode cX10_holds 34 = .ok (.iconst 0, 1) := by decide +kernel
theorem dX10_holds_35 : decode cX10_holds 35 = .ok (.invokevirtual 97, 3) := by decide +kernel
theorem dX10_holds_38 : decode cX10_holds 38 = .ok (.ifCond .ge 7, 3) := by decide +kernel
theorem dX10_holds_41 : decode cX10_holds 41 = .ok (.iconst 1, 1) := by decide +kernel
theorem dX10_holds_42 : decode cX10_holds 42 = .ok (.goto 4, 3) := by decide +kernel
theorem dX10_holds_45 : decode cX10_holds 45 = .ok (.iconst 0, 1) := by decide +kernel
theorem dX10_holds_46 : decode cX10_holds 46 = .ok (.ireturn, 1) := by decide +kernel
theorem dX10_fails_0 : decode cX10_fails 0 = .ok (.aload_n 0, 1) := by decide +kernel
theorem dX10_fails_1 : decode cX10_fails 1 = .ok (.iload_n 1, 1) := by decide +kernel
theorem dX10_fails_2 : decode cX10_fails 2 = .ok (.invokevirtual 71, 3) := by decide +kernel
theorem dX10_fails_5 : decode cX10_fails 5 = .ok (.astore_n 3, 1) := by decide +kernel
theorem dX10_fails_6 : decode cX10_fails 6 = .ok (.aload_n 0, 1) := by decide +kernel
theorem dX10_fails_7 : decode cX10_fails 7 = .ok (.iload_n 2, 1) := by decide +kernel
theorem dX10_fails_8 : decode cX10_fails 8 = .ok (.invokevirtual 60, 3) := by decide +kernel
theorem dX10_fails_11 : decode cX10_fails 11 = .ok (.astore 4, 2) := by decide +kernel
theorem dX10_fails_13 : decode cX10_fails 13 = .ok (.aload_n 3, 1) := by decide +kernel
theorem dX10_fails_14 : decode cX10_fails 14 = .ok (.ifnull 8, 3) := by decide +kernel
theorem dX10_fails_17 : decode cX10_fails 17 = .ok (.aload 4, 2) := by decide +kernel
theorem dX10_fails_19 : decode cX10_fails 19 = .ok (.ifnonnull 6, 3) := by decide +kernel
theorem dX10_fails_22 : decode cX10_fails 22 = .ok (.bipush (-2), 2) := by decide +kernel
theorem dX10_fails_24 : decode cX10_fails 24 = .ok (.ireturn, 1) := by decide +kernel
theorem dX10_fails_25 : decode cX10_fails 25 = .ok (.aload_n 0, 1) := by decide +kernel
theorem dX10_fails_26 : decode cX10_fails 26 = .ok (.getfield 19, 3) := by decide +kernel
theorem dX10_fails_29 : decode cX10_fails 29 = .ok (.aload_n 3, 1) := by decide +kernel
theorem dX10_fails_30 : decode cX10_fails 30 = .ok (.getfield 93, 3) := by decide +kernel
theorem dX10_fails_33 : decode cX10_fails 33 = .ok (.aload 4, 2) := by decide +kernel
theorem dX10_fails_35 : decode cX10_fails 35 = .ok (.iconst 0, 1) := by decide +kernel
theorem dX10_fails_36 : decode cX10_fails 36 = .ok (.invokevirtual 97, 3) := by decide +kernel
theorem dX10_fails_39 : decode cX10_fails 39 = .ok (.ireturn, 1) := by decide +kernel
theorem dX10_which_0 : decode cX10_which 0 = .ok (.aload_n 0, 1) := by decide +kernel
theorem dX10_which_1 : decode cX10_which 1 = .ok (.iload_n 1, 1) := by decide +kernel
theorem dX10_which_2 : decode cX10_which 2 = .ok (.invokevirtual 71, 3) := by decide +kernel
theorem dX10_which_5 : decode cX10_which 5 = .ok (.ifnonnull 5, 3) := by decide +kernel
theorem dX10_which_8 : decode cX10_which 8 = .ok (.iconst (-1), 1) := by decide +kernel
theorem dX10_which_9 : decode cX10_which 9 = .ok (.ireturn, 1) := by decide +kernel
theorem dX10_which_10 : decode cX10_which 10 = .ok (.iconst 0, 1) := by decide +kernel
theorem dX10_which_11 : decode cX10_which 11 = .ok (.istore_n 2, 1) := by decide +kernel
theorem dX10_which_12 : decode cX10_which 12 = .ok (.iconst 0, 1) := by decide +kernel
theorem dX10_which_13 : decode cX10_which 13 = .ok (.istore_n 3, 1) := by decide +kernel
theorem dX10_which_14 : decode cX10_which 14 = .ok (.iload_n 3, 1) := by decide +kernel
theorem dX10_which_15 : decode cX10_which 15 = .ok (.iconst 4, 1) := by decide +kernel
theorem dX10_which_16 : decode cX10_which 16 = .ok (.if_icmp .ge 25, 3) := by decide +kernel
theorem dX10_which_19 : decode cX10_which 19 = .ok (.aload_n 0, 1) := by decide +kernel
theorem dX10_which_20 : decode cX10_which 20 = .ok (.iload_n 1, 1) := by decide +kernel
theorem dX10_which_21 : decode cX10_which 21 = .ok (.iload_n 3, 1) := by decide +kernel
theorem dX10_which_22 : decode cX10_which 22 = .ok (.invokevirtual 101, 3) := by decide +kernel
theorem dX10_which_25 : decode cX10_which 25 = .ok (.iconst 1, 1) := by decide +kernel
theorem dX10_which_26 : decode cX10_which 26 = .ok (.if_icmp .ne 9, 3) := by decide +kernel
theorem dX10_which_29 : decode cX10_which 29 = .ok (.iload_n 2, 1) := by decide +kernel
theorem dX10_which_30 : decode cX10_which 30 = .ok (.iconst 1, 1) := by decide +kernel
theorem dX10_which_31 : decode cX10_which 31 = .ok (.iload_n 3, 1) := by decide +kernel
theorem dX10_which_32 : decode cX10_which 32 = .ok (.ishl, 1) := by decide +kernel
theorem dX10_which_33 : decode cX10_which 33 = .ok (.ior, 1) := by decide +kernel
theorem dX10_which_34 : decode cX10_which 34 = .ok (.istore_n 2, 1) := by decide +kernel
theorem dX10_which_35 : decode cX10_which 35 = .ok (.iinc 3 1, 3) := by decide +kernel
theorem dX10_which_38 : decode cX10_which 38 = .ok (.goto (-24), 3) := by decide +kernel
theorem dX10_which_41 : decode cX10_which 41 = .ok (.iload_n 2, 1) := by decide +kernel
theorem dX10_which_42 : decode cX10_which 42 = .ok (.ireturn, 1) := by decide +kernel
theorem dX10_takeDocument_0 : decode cX10_takeDocument 0 = .ok (.new 105, 3) := by decide +kernel
theorem dX10_takeDocument_3 : decode cX10_takeDocument 3 = .ok (.dup, 1) := by decide +kernel
theorem dX10_takeDocument_4 : decode cX10_takeDocument 4 = .ok (.aload_n 0, 1) := by decide +kernel
theorem dX10_takeDocument_5 : decode cX10_takeDocument 5 = .ok (.getfield 10, 3) := by decide +kernel
theorem dX10_takeDocument_8 : decode cX10_takeDocument 8 = .ok (.invokespecial 107, 3) := by decide +kernel
theorem dX10_takeDocument_11 : decode cX10_takeDocument 11 = .ok (.iload_n 1, 1) := by decide +kernel
theorem dX10_takeDocument_12 : decode cX10_takeDocument 12 = .ok (.invokevirtual 110, 3) := by decide +kernel
theorem dX10_takeDocument_15 : decode cX10_takeDocument 15 = .ok (.astore_n 2, 1) := by decide +kernel
theorem dX10_takeDocument_16 : decode cX10_takeDocument 16 = .ok (.aload_n 0, 1) := by decide +kernel
theorem dX10_takeDocument_17 : decode cX10_takeDocument 17 = .ok (.getfield 10, 3) := by decide +kernel
theorem dX10_takeDocument_20 : decode cX10_takeDocument 20 = .ok (.invokevirtual 113, 3) := by decide +kernel
theorem dX10_takeDocument_23 : decode cX10_takeDocument 23 = .ok (.aload_n 2, 1) := by decide +kernel
theorem dX10_takeDocument_24 : decode cX10_takeDocument 24 = .ok (.areturn, 1) := by decide +kernel
theorem dX10_slotAt_0 : decode cX10_slotAt 0 = .ok (.iload_n 1, 1) := by decide +kernel
theorem dX10_slotAt_1 : decode cX10_slotAt 1 = .ok (.ifCond .lt 21, 3) := by decide +kernel
theorem dX10_slotAt_4 : decode cX10_slotAt 4 = .ok (.iload_n 1, 1) := by decide +kernel
theorem dX10_slotAt_5 : decode cX10_slotAt 5 = .ok (.aload_n 0, 1) := by decide +kernel
theorem dX10_slotAt_6 : decode cX10_slotAt 6 = .ok (.getfield 25, 3) := by decide +kernel
theorem dX10_slotAt_9 : decode cX10_slotAt 9 = .ok (.arraylength, 1) := by decide +kernel
theorem dX10_slotAt_10 : decode cX10_slotAt 10 = .ok (.if_icmp .ge 12, 3) := by decide +kernel
theorem dX10_slotAt_13 : decode cX10_slotAt 13 = .ok (.aload_n 0, 1) := by decide +kernel
theorem dX10_slotAt_14 : decode cX10_slotAt 14 = .ok (.getfield 25, 3) := by decide +kernel
theorem dX10_slotAt_17 : decode cX10_slotAt 17 = .ok (.iload_n 1, 1) := by decide +kernel
theorem dX10_slotAt_18 : decode cX10_slotAt 18 = .ok (.aaload, 1) := by decide +kernel
theorem dX10_slotAt_19 : decode cX10_slotAt 19 = .ok (.goto 4, 3) := by decide +kernel
theorem dX10_slotAt_22 : decode cX10_slotAt 22 = .ok (.aconst_null, 1) := by decide +kernel
theorem dX10_slotAt_23 : decode cX10_slotAt 23 = .ok (.areturn, 1) := by decide +kernel
theorem dX10_filterAt_0 : decode cX10_filterAt 0 = .ok (.iload_n 1, 1) := by decide +kernel
theorem dX10_filterAt_1 : decode cX10_filterAt 1 = .ok (.ifCond .lt 21, 3) := by decide +kernel
theorem dX10_filterAt_4 : decode cX10_filterAt 4 = .ok (.iload_n 1, 1) := by decide +kernel
theorem dX10_filterAt_5 : decode cX10_filterAt 5 = .ok (.aload_n 0, 1) := by decide +kernel
theorem dX10_filterAt_6 : decode cX10_filterAt 6 = .ok (.getfield 38, 3) := by decide +kernel
theorem dX10_filterAt_9 : decode cX10_filterAt 9 = .ok (.arraylength, 1) := by decide +kernel
theorem dX10_filterAt_10 : decode cX10_filterAt 10 = .ok (.if_icmp .ge 12, 3) := by decide +kernel
theorem dX10_filterAt_13 : decode cX10_filterAt 13 = .ok (.aload_n 0, 1) := by decide +kernel
theorem dX10_filterAt_14 : decode cX10_filterAt 14 = .ok (.getfield 38, 3) := by decide +kernel
theorem dX10_filterAt_17 : decode cX10_filterAt 17 = .ok (.iload_n 1, 1) := by decide +kernel
theorem dX10_filterAt_18 : decode cX10_filterAt 18 = .ok (.aaload, 1) := by decide +kernel
theorem dX10_filterAt_19 : decode cX10_filterAt 19 = .ok (.goto 4, 3) := by decide +kernel
theorem dX10_filterAt_22 : decode cX10_filterAt 22 = .ok (.aconst_null, 1) := by decide +kernel
theorem dX10_filterAt_23 : decode cX10_filterAt 23 = .ok (.areturn, 1) := by decide +kernel
theorem dX10_beginsWithDollar_0 : decode cX10_beginsWithDollar 0 = .ok (.aload_n 0, 1) := by decide +kernel
theorem dX10_beginsWithDollar_1 : decode cX10_beginsWithDollar 1 = .ok (.invokevirtual 116, 3) := by decide +kernel
theorem dX10_beginsWithDollar_4 : decode cX10_beginsWithDollar 4 = .ok (.ifCond .ne 17, 3) := by decide +kernel
theorem dX10_beginsWithDollar_7 : decode cX10_beginsWithDollar 7 = .ok (.aload_n 0, 1) := by decide +kernel
theorem dX10_beginsWithDollar_8 : decode cX10_beginsWithDollar 8 = .ok (.iconst 0, 1) := by decide +kernel
theorem dX10_beginsWithDollar_9 : decode cX10_beginsWithDollar 9 = .ok (.invokevirtual 121, 3) := by decide +kernel
theorem dX10_beginsWithDollar_12 : decode cX10_beginsWithDollar 12 = .ok (.bipush 36, 2) := by decide +kernel
theorem dX10_beginsWithDollar_14 : decode cX10_beginsWithDollar 14 = .ok (.if_icmp .ne 7, 3) := by decide +kernel
theorem dX10_beginsWithDollar_17 : decode cX10_beginsWithDollar 17 = .ok (.iconst 1, 1) := by decide +kernel
theorem dX10_beginsWithDollar_18 : decode cX10_beginsWithDollar 18 = .ok (.goto 4, 3) := by decide +kernel
theorem dX10_beginsWithDollar_21 : decode cX10_beginsWithDollar 21 = .ok (.iconst 0, 1) := by decide +kernel
theorem dX10_beginsWithDollar_22 : decode cX10_beginsWithDollar 22 = .ok (.ireturn, 1) := by decide +kernel
