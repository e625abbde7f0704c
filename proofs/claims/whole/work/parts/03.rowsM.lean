theorem dX11_init_0 : decode cX11_init 0 = .ok (.aload_n 0, 1) := by decide +kernel
theorem dX11_init_1 : decode cX11_init 1 = .ok (.invokespecial 1, 3) := by decide +kernel
theorem dX11_init_4 : decode cX11_init 4 = .ok (.aload_n 0, 1) := by decide +kernel
theorem dX11_init_5 : decode cX11_init 5 = .ok (.sipush 18000, 3) := by decide +kernel
theorem dX11_init_8 : decode cX11_init 8 = .ok (.newarray .int, 2) := by decide +kernel
theorem dX11_init_10 : decode cX11_init 10 = .ok (.putfield 7, 3) := by decide +kernel
theorem dX11_init_13 : decode cX11_init 13 = .ok (.aload_n 0, 1) := by decide +kernel
theorem dX11_init_14 : decode cX11_init 14 = .ok (.iconst (-1), 1) := by decide +kernel
theorem dX11_init_15 : decode cX11_init 15 = .ok (.putfield 13, 3) := by decide +kernel
theorem dX11_init_18 : decode cX11_init 18 = .ok (.aload_n 0, 1) := by decide +kernel
theorem dX11_init_19 : decode cX11_init 19 = .ok (.iconst 4, 1) := by decide +kernel
theorem dX11_init_20 : decode cX11_init 20 = .ok (.newarray .int, 2) := by decide +kernel
theorem dX11_init_22 : decode cX11_init 22 = .ok (.putfield 17, 3) := by decide +kernel
theorem dX11_init_25 : decode cX11_init 25 = .ok (.aload_n 0, 1) := by decide +kernel
theorem dX11_init_26 : decode cX11_init 26 = .ok (.iconst 4, 1) := by decide +kernel
theorem dX11_init_27 : decode cX11_init 27 = .ok (.newarray .int, 2) := by decide +kernel
theorem dX11_init_29 : decode cX11_init 29 = .ok (.putfield 20, 3) := by decide +kernel
theorem dX11_init_32 : decode cX11_init 32 = .ok (.aload_n 0, 1) := by decide +kernel
theorem dX11_init_33 : decode cX11_init 33 = .ok (.iconst 4, 1) := by decide +kernel
theorem dX11_init_34 : decode cX11_init 34 = .ok (.newarray .int, 2) := by decide +kernel
theorem dX11_init_36 : decode cX11_init 36 = .ok (.putfield 23, 3) := by decide +kernel
theorem dX11_init_39 : decode cX11_init 39 = .ok (.aload_n 0, 1) := by decide +kernel
theorem dX11_init_40 : decode cX11_init 40 = .ok (.sipush 2000, 3) := by decide +kernel
theorem dX11_init_43 : decode cX11_init 43 = .ok (.newarray .int, 2) := by decide +kernel
theorem dX11_init_45 : decode cX11_init 45 = .ok (.putfield 26, 3) := by decide +kernel
theorem dX11_init_48 : decode cX11_init 48 = .ok (.aload_n 0, 1) := by decide +kernel
theorem dX11_init_49 : decode cX11_init 49 = .ok (.sipush 1000, 3) := by decide +kernel
theorem dX11_init_52 : decode cX11_init 52 = .ok (.newarray .int, 2) := by decide +kernel
theorem dX11_init_54 : decode cX11_init 54 = .ok (.putfield 29, 3) := by decide +kernel
theorem dX11_init_57 : decode cX11_init 57 = .ok (.aload_n 0, 1) := by decide +kernel
theorem dX11_init_58 : decode cX11_init 58 = .ok (.sipush 1000, 3) := by decide +kernel
theorem dX11_init_61 : decode cX11_init 61 = .ok (.newarray .int, 2) := by decide +kernel
theorem dX11_init_63 : decode cX11_init 63 = .ok (.putfield 32, 3) := by decide +kernel
theorem dX11_init_66 : decode cX11_init 66 = .ok (.aload_n 0, 1) := by decide +kernel
theorem dX11_init_67 : decode cX11_init 67 = .ok (.sipush 1000, 3) := by decide +kernel
theorem dX11_init_70 : decode cX11_init 70 = .ok (.newarray .int, 2) := by decide +kernel
theorem dX11_init_72 : decode cX11_init 72 = .ok (.putfield 35, 3) := by decide +kernel
theorem dX11_init_75 : decode cX11_init 75 = .ok (.aload_n 0, 1) := by decide +kernel
theorem dX11_init_76 : decode cX11_init 76 = .ok (.bipush 20, 2) := by decide +kernel
theorem dX11_init_78 : decode cX11_init 78 = .ok (.newarray .int, 2) := by decide +kernel
theorem dX11_init_80 : decode cX11_init 80 = .ok (.putfield 38, 3) := by decide +kernel
theorem dX11_init_83 : decode cX11_init 83 = .ok (.aload_n 0, 1) := by decide +kernel
theorem dX11_init_84 : decode cX11_init 84 = .ok (.bipush 20, 2) := by decide +kernel
theorem dX11_init_86 : decode cX11_init 86 = .ok (.newarray .int, 2) := by decide +kernel
theorem dX11_init_88 : decode cX11_init 88 = .ok (.putfield 41, 3) := by decide +kernel
theorem dX11_init_91 : decode cX11_init 91 = .ok (.aload_n 0, 1) := by decide +kernel
theorem dX11_init_92 : decode cX11_init 92 = .ok (.bipush 20, 2) := by decide +kernel
theorem dX11_init_94 : decode cX11_init 94 = .ok (.newarray .int, 2) := by decide +kernel
theorem dX11_init_96 : decode cX11_init 96 = .ok (.putfield 44, 3) := by decide +kernel
theorem dX11_init_99 : decode cX11_init 99 = .ok (.aload_n 0, 1) := by decide +kernel
theorem dX11_init_100 : decode cX11_init 100 = .ok (.bipush 20, 2) := by decide +kernel
theorem dX11_init_102 : decode cX11_init 102 = .ok (.newarray .int, 2) := by decide +kernel
theorem dX11_init_104 : decode cX11_init 104 = .ok (.putfield 47, 3) := by decide +kernel
theorem dX11_init_107 : decode cX11_init 107 = .ok (.iconst 0, 1) := by decide +kernel
theorem dX11_init_108 : decode cX11_init 108 = .ok (.istore_n 1, 1) := by decide +kernel
theorem dX11_init_109 : decode cX11_init 109 = .ok (.iload_n 1, 1) := by decide +kernel
theorem dX11_init_110 : decode cX11_init 110 = .ok (.bipush 8, 2) := by decide +kernel
theorem dX11_init_112 : decode cX11_init 112 = .ok (.if_icmp .ge 20, 3) := by decide +kernel
theorem dX11_init_115 : decode cX11_init 115 = .ok (.aload_n 0, 1) := by decide +kernel
theorem dX11_init_116 : decode cX11_init 116 = .ok (.getfield 7, 3) := by decide +kernel
theorem dX11_init_119 : decode cX11_init 119 = .ok (.sipush 2000, 3) := by decide +kernel
theorem dX11_init_122 : decode cX11_init 122 = .ok (.iload_n 1, 1) := by decide +kernel
theorem dX11_init_123 : decode cX11_init 123 = .ok (.imul, 1) := by decide +kernel
theorem dX11_init_124 : decode cX11_init 124 = .ok (.iconst 5, 1) := by decide +kernel
theorem dX11_init_125 : decode cX11_init 125 = .ok (.iastore, 1) := by decide +kernel
theorem dX11_init_126 : decode cX11_init 126 = .ok (.iinc 1 1, 3) := by decide +kernel
theorem dX11_init_129 : decode cX11_init 129 = .ok (.goto (-20), 3) := by decide +kernel
theorem dX11_init_132 : decode cX11_init 132 = .ok (.return_, 1) := by decide +kernel
theorem dX11_feed_0 : decode cX11_feed 0 = .ok (.aload_n 0, 1) := by decide +kernel
theorem dX11_feed_1 : decode cX11_feed 1 = .ok (.getfield 53, 3) := by decide +kernel
theorem dX11_feed_4 : decode cX11_feed 4 = .ok (.bipush 20, 2) := by decide +kernel
theorem dX11_feed_6 : decode cX11_feed 6 = .ok (.iadd, 1) := by decide +kernel
theorem dX11_feed_7 : decode cX11_feed 7 = .ok (.sipush 2000, 3) := by decide +kernel
theorem dX11_feed_10 : decode cX11_feed 10 = .ok (.if_icmp .le 5, 3) := by decide +kernel
theorem dX11_feed_13 : decode cX11_feed 13 = .ok (.iconst (-1), 1) := by decide +kernel
theorem dX11_feed_14 : decode cX11_feed 14 = .ok (.ireturn, 1) := by decide +kernel
theorem dX11_feed_15 : decode cX11_feed 15 = .ok (.aload_n 0, 1) := by decide +kernel
theorem dX11_feed_16 : decode cX11_feed 16 = .ok (.iload_n 1, 1) := by decide +kernel
theorem dX11_feed_17 : decode cX11_feed 17 = .ok (.invokevirtual 56, 3) := by decide +kernel
theorem dX11_feed_20 : decode cX11_feed 20 = .ok (.aload_n 0, 1) := by decide +kernel
theorem dX11_feed_21 : decode cX11_feed 21 = .ok (.iload_n 2, 1) := by decide +kernel
theorem dX11_feed_22 : decode cX11_feed 22 = .ok (.invokevirtual 56, 3) := by decide +kernel
theorem dX11_feed_25 : decode cX11_feed 25 = .ok (.aload_n 0, 1) := by decide +kernel
theorem dX11_feed_26 : decode cX11_feed 26 = .ok (.iload_n 3, 1) := by decide +kernel
theorem dX11_feed_27 : decode cX11_feed 27 = .ok (.invokevirtual 56, 3) := by decide +kernel
theorem dX11_feed_30 : decode cX11_feed 30 = .ok (.aload_n 0, 1) := by decide +kernel
theorem dX11_feed_31 : decode cX11_feed 31 = .ok (.iload 4, 2) := by decide +kernel
theorem dX11_feed_33 : decode cX11_feed 33 = .ok (.invokevirtual 56, 3) := by decide +kernel
theorem dX11_feed_36 : decode cX11_feed 36 = .ok (.aload_n 0, 1) := by decide +kernel
theorem dX11_feed_37 : decode cX11_feed 37 = .ok (.iload 5, 2) := by decide +kernel
theorem dX11_feed_39 : decode cX11_feed 39 = .ok (.invokevirtual 56, 3) := by decide +kernel
theorem dX11_feed_42 : decode cX11_feed 42 = .ok (.aload_n 0, 1) := by decide +kernel
theorem dX11_feed_43 : decode cX11_feed 43 = .ok (.getfield 53, 3) := by decide +kernel
theorem dX11_feed_46 : decode cX11_feed 46 = .ok (.ireturn, 1) := by decide +kernel
theorem dX11_put_0 : decode cX11_put 0 = .ok (.bipush 24, 2) := by decide +kernel
theorem dX11_put_2 : decode cX11_put 2 = .ok (.istore_n 2, 1) := by decide +kernel
theorem dX11_put_3 : decode cX11_put 3 = .ok (.iload_n 2, 1) := by decide +kernel
theorem dX11_put_4 : decode cX11_put 4 = .ok (.ifCond .lt 39, 3) := by decide +kernel
theorem dX11_put_7 : decode cX11_put 7 = .ok (.aload_n 0, 1) := by decide +kernel
theorem dX11_put_8 : decode cX11_put 8 = .ok (.getfield 7, 3) := by decide +kernel
theorem dX11_put_11 : decode cX11_put 11 = .ok (.sipush 16000, 3) := by decide +kernel
theorem dX11_put_14 : decode cX11_put 14 = .ok (.aload_n 0, 1) := by decide +kernel
theorem dX11_put_15 : decode cX11_put 15 = .ok (.getfield 53, 3) := by decide +kernel
theorem dX11_put_18 : decode cX11_put 18 = .ok (.iadd, 1) := by decide +kernel
theorem dX11_put_19 : decode cX11_put 19 = .ok (.iload_n 1, 1) := by decide +kernel
theorem dX11_put_20 : decode cX11_put 20 = .ok (.iload_n 2, 1) := by decide +kernel
theorem dX11_put_21 : decode cX11_put 21 = .ok (.ishr, 1) := by decide +kernel
theorem dX11_put_22 : decode cX11_put 22 = .ok (.sipush 255, 3) := by decide +kernel
theorem dX11_put_25 : decode cX11_put 25 = .ok (.iand, 1) := by decide +kernel
theorem dX11_put_26 : decode cX11_put 26 = .ok (.iastore, 1) := by decide +kernel
theorem dX11_put_27 : decode cX11_put 27 = .ok (.aload_n 0, 1) := by decide +kernel
theorem dX11_put_28 : decode cX11_put 28 = .ok (.dup, 1) := by decide +kernel
theorem dX11_put_29 : decode cX11_put 29 = .ok (.getfield 53, 3) := by decide +kernel
theorem dX11_put_32 : decode cX11_put 32 = .ok (.iconst 1, 1) := by decide +kernel
theorem dX11_put_33 : decode cX11_put 33 = .ok (.iadd, 1) := by decide +kernel
theorem dX11_put_34 : decode cX11_put 34 = .ok (.putfield 53, 3) := by decide +kernel
theorem dX11_put_37 : decode cX11_put 37 = .ok (.iinc 2 (-8), 3) := by decide +kernel
theorem dX11_put_40 : decode cX11_put 40 = .ok (.goto (-37), 3) := by decide +kernel
theorem dX11_put_43 : decode cX11_put 43 = .ok (.return_, 1) := by decide +kernel
theorem dX11_character_0 : decode cX11_character 0 = .ok (.aload_n 0, 1) := by decide +kernel
theorem dX11_character_1 : decode cX11_character 1 = .ok (.iload_n 1, 1) := by decide +kernel
theorem dX11_character_2 : decode cX11_character 2 = .ok (.iaload, 1) := by decide +kernel
theorem dX11_character_3 : decode cX11_character 3 = .ok (.istore_n 3, 1) := by decide +kernel
theorem dX11_character_4 : decode cX11_character 4 = .ok (.iload_n 3, 1) := by decide +kernel
theorem dX11_character_5 : decode cX11_character 5 = .ok (.sipush 128, 3) := by decide +kernel
theorem dX11_character_8 : decode cX11_character 8 = .ok (.if_icmp .ge 5, 3) := by decide +kernel
theorem dX11_character_11 : decode cX11_character 11 = .ok (.iconst 1, 1) := by decide +kernel
theorem dX11_character_12 : decode cX11_character 12 = .ok (.ireturn, 1) := by decide +kernel
theorem dX11_character_13 : decode cX11_character 13 = .ok (.iload_n 3, 1) := by decide +kernel
theorem dX11_character_14 : decode cX11_character 14 = .ok (.sipush 192, 3) := by decide +kernel
theorem dX11_character_17 : decode cX11_character 17 = .ok (.if_icmp .lt 14, 3) := by decide +kernel
theorem dX11_character_20 : decode cX11_character 20 = .ok (.iload_n 3, 1) := by decide +kernel
theorem dX11_character_21 : decode cX11_character 21 = .ok (.sipush 224, 3) := by decide +kernel
theorem dX11_character_24 : decode cX11_character 24 = .ok (.if_icmp .ge 7, 3) := by decide +kernel
theorem dX11_character_27 : decode cX11_character 27 = .ok (.iconst 2, 1) := by decide +kernel
theorem dX11_character_28 : decode cX11_character 28 = .ok (.goto 40, 3) := by decide +kernel
theorem dX11_character_31 : decode cX11_character 31 = .ok (.iload_n 3, 1) := by decide +kernel
theorem dX11_character_32 : decode cX11_character 32 = .ok (.sipush 224, 3) := by decide +kernel
theorem dX11_character_35 : decode cX11_character 35 = .ok (.if_icmp .lt 14, 3) := by decide +kernel
theorem dX11_character_38 : decode cX11_character 38 = .ok (.iload_n 3, 1) := by decide +kernel
theorem dX11_character_39 : decode cX11_character 39 = .ok (.sipush 240, 3) := by decide +kernel
theorem dX11_character_42 : decode cX11_character 42 = .ok (.if_icmp .ge 7, 3) := by decide +kernel
theorem dX11_character_45 : decode cX11_character 45 = .ok (.iconst 3, 1) := by decide +kernel
theorem dX11_character_46 : decode cX11_character 46 = .ok (.goto 22, 3) := by decide +kernel
theorem dX11_character_49 : decode cX11_character 49 = .ok (.iload_n 3, 1) := by decide +kernel
theorem dX11_character_50 : decode cX11_character 50 = .ok (.sipush 240, 3) := by decide +kernel
theorem dX11_character_53 : decode cX11_character 53 = .ok (.if_icmp .lt 14, 3) := by decide +kernel
theorem dX11_character_56 : decode cX11_character 56 = .ok (.iload_n 3, 1) := by decide +kernel
theorem dX11_character_57 : decode cX11_character 57 = .ok (.sipush 248, 3) := by decide +kernel
theorem dX11_character_60 : decode cX11_character 60 = .ok (.if_icmp .ge 7, 3) := by decide +kernel
theorem dX11_character_63 : decode cX11_character 63 = .ok (.iconst 4, 1) := by decide +kernel
theorem dX11_character_64 : decode cX11_character 64 = .ok (.goto 4, 3) := by decide +kernel
theorem dX11_character_67 : decode cX11_character 67 = .ok (.iconst 0, 1) := by decide +kernel
theorem dX11_character_68 : decode cX11_character 68 = .ok (.istore 4, 2) := by decide +kernel
theorem dX11_character_70 : decode cX11_character 70 = .ok (.iload 4, 2) := by decide +kernel
theorem dX11_character_72 : decode cX11_character 72 = .ok (.ifCond .eq 11, 3) := by decide +kernel
theorem dX11_character_75 : decode cX11_character 75 = .ok (.iload_n 1, 1) := by decide +kernel
theorem dX11_character_76 : decode cX11_character 76 = .ok (.iload 4, 2) := by decide +kernel
theorem dX11_character_78 : decode cX11_character 78 = .ok (.iadd, 1) := by decide +kernel
theorem dX11_character_79 : decode cX11_character 79 = .ok (.iload_n 2, 1) := by decide +kernel
theorem dX11_character_80 : decode cX11_character 80 = .ok (.if_icmp .le 5, 3) := by decide +kernel
theorem dX11_character_83 : decode cX11_character 83 = .ok (.iconst 0, 1) := by decide +kernel
theorem dX11_character_84 : decode cX11_character 84 = .ok (.ireturn, 1) := by decide +kernel
theorem dX11_character_85 : decode cX11_character 85 = .ok (.iload 4, 2) := by decide +kernel
theorem dX11_character_87 : decode cX11_character 87 = .ok (.iconst 2, 1) := by decide +kernel
theorem dX11_character_88 : decode cX11_character 88 = .ok (.if_icmp .ne 11, 3) := by decide +kernel
theorem dX11_character_91 : decode cX11_character 91 = .ok (.iload_n 3, 1) := by decide +kernel
theorem dX11_character_92 : decode cX11_character 92 = .ok (.sipush 192, 3) := by decide +kernel
theorem dX11_character_95 : decode cX11_character 95 = .ok (.isub, 1) := by decide +kernel
theorem dX11_character_96 : decode cX11_character 96 = .ok (.goto 22, 3) := by decide +kernel
theorem dX11_character_99 : decode cX11_character 99 = .ok (.iload 4, 2) := by decide +kernel
theorem dX11_character_101 : decode cX11_character 101 = .ok (.iconst 3, 1) := by decide +kernel
theorem dX11_character_102 : decode cX11_character 102 = .ok (.if_icmp .ne 11, 3) := by decide +kernel
theorem dX11_character_105 : decode cX11_character 105 = .ok (.iload_n 3, 1) := by decide +kernel
theorem dX11_character_106 : decode cX11_character 106 = .ok (.sipush 224, 3) := by decide +kernel
theorem dX11_character_109 : decode cX11_character 109 = .ok (.isub, 1) := by decide +kernel
theorem dX11_character_110 : decode cX11_character 110 = .ok (.goto 8, 3) := by decide +kernel
theorem dX11_character_113 : decode cX11_character 113 = .ok (.iload_n 3, 1) := by decide +kernel
theorem dX11_character_114 : decode cX11_character 114 = .ok (.sipush 240, 3) := by decide +kernel
theorem dX11_character_117 : decode cX11_character 117 = .ok (.isub, 1) := by decide +kernel
theorem dX11_character_118 : decode cX11_character 118 = .ok (.istore 5, 2) := by decide +kernel
theorem dX11_character_120 : decode cX11_character 120 = .ok (.iconst 1, 1) := by decide +kernel
theorem dX11_character_121 : decode cX11_character 121 = .ok (.istore 6, 2) := by decide +kernel
theorem dX11_character_123 : decode cX11_character 123 = .ok (.iload 6, 2) := by decide +kernel
theorem dX11_character_125 : decode cX11_character 125 = .ok (.iload 4, 2) := by decide +kernel
theorem dX11_character_127 : decode cX11_character 127 = .ok (.if_icmp .ge 53, 3) := by decide +kernel
theorem dX11_character_130 : decode cX11_character 130 = .ok (.aload_n 0, 1) := by decide +kernel
theorem dX11_character_131 : decode cX11_character 131 = .ok (.iload_n 1, 1) := by decide +kernel
theorem dX11_character_132 : decode cX11_character 132 = .ok (.iload 6, 2) := by decide +kernel
theorem dX11_character_134 : decode cX11_character 134 = .ok (.iadd, 1) := by decide +kernel
theorem dX11_character_135 : decode cX11_character 135 = .ok (.iaload, 1) := by decide +kernel
theorem dX11_character_136 : decode cX11_character 136 = .ok (.sipush 128, 3) := by decide +kernel
theorem dX11_character_139 : decode cX11_character 139 = .ok (.if_icmp .lt 15, 3) := by decide +kernel
theorem dX11_character_142 : decode cX11_character 142 = .ok (.aload_n 0, 1) := by decide +kernel
theorem dX11_character_143 : decode cX11_character 143 = .ok (.iload_n 1, 1) := by decide +kernel
theorem dX11_character_144 : decode cX11_character 144 = .ok (.iload 6, 2) := by decide +kernel
theorem dX11_character_146 : decode cX11_character 146 = .ok (.iadd, 1) := by decide +kernel
theorem dX11_character_147 : decode cX11_character 147 = .ok (.iaload, 1) := by decide +kernel
theorem dX11_character_148 : decode cX11_character 148 = .ok (.sipush 191, 3) := by decide +kernel
theorem dX11_character_151 : decode cX11_character 151 = .ok (.if_icmp .le 5, 3) := by decide +kernel
theorem dX11_character_154 : decode cX11_character 154 = .ok (.iconst 0, 1) := by decide +kernel
theorem dX11_character_155 : decode cX11_character 155 = .ok (.ireturn, 1) := by decide +kernel
theorem dX11_character_156 : decode cX11_character 156 = .ok (.bipush 64, 2) := by decide +kernel
theorem dX11_character_158 : decode cX11_character 158 = .ok (.iload 5, 2) := by decide +kernel
theorem dX11_character_160 : decode cX11_character 160 = .ok (.imul, 1) := by decide +kernel
theorem dX11_character_161 : decode cX11_character 161 = .ok (.aload_n 0, 1) := by decide +kernel
theorem dX11_character_162 : decode cX11_character 162 = .ok (.iload_n 1, 1) := by decide +kernel
theorem dX11_character_163 : decode cX11_character 163 = .ok (.iload 6, 2) := by decide +kernel
theorem dX11_character_165 : decode cX11_character 165 = .ok (.iadd, 1) := by decide +kernel
theorem dX11_character_166 : decode cX11_character 166 = .ok (.iaload, 1) := by decide +kernel
theorem dX11_character_167 : decode cX11_character 167 = .ok (.iadd, 1) := by decide +kernel
theorem dX11_character_168 : decode cX11_character 168 = .ok (.sipush 128, 3) := by decide +kernel
theorem dX11_character_171 : decode cX11_character 171 = .ok (.isub, 1) := by decide +kernel
theorem dX11_character_172 : decode cX11_character 172 = .ok (.istore 5, 2) := by decide +kernel
theorem dX11_character_174 : decode cX11_character 174 = .ok (.iinc 6 1, 3) := by decide +kernel
theorem dX11_character_177 : decode cX11_character 177 = .ok (.goto (-54), 3) := by decide +kernel
theorem dX11_character_180 : decode cX11_character 180 = .ok (.iload 4, 2) := by decide +kernel
theorem dX11_character_182 : decode cX11_character 182 = .ok (.iconst 2, 1) := by decide +kernel
theorem dX11_character_183 : decode cX11_character 183 = .ok (.if_icmp .ne 9, 3) := by decide +kernel
theorem dX11_character_186 : decode cX11_character 186 = .ok (.sipush 128, 3) := by decide +kernel
theorem dX11_character_189 : decode cX11_character 189 = .ok (.goto 17, 3) := by decide +kernel
theorem dX11_character_192 : decode cX11_character 192 = .ok (.iload 4, 2) := by decide +kernel
theorem dX11_character_194 : decode cX11_character 194 = .ok (.iconst 3, 1) := by decide +kernel
theorem dX11_character_195 : decode cX11_character 195 = .ok (.if_icmp .ne 9, 3) := by decide +kernel
theorem dX11_character_198 : decode cX11_character 198 = .ok (.sipush 2048, 3) := by decide +kernel
theorem dX11_character_201 : decode cX11_character 201 = .ok (.goto 5, 3) := by decide +kernel
theorem dX11_character_204 : decode cX11_character 204 = .ok (.ldc 60, 2) := by decide +kernel
theorem dX11_character_206 : decode cX11_character 206 = .ok (.istore 6, 2) := by decide +kernel
theorem dX11_character_208 : decode cX11_character 208 = .ok (.iload 5, 2) := by decide +kernel
theorem dX11_character_210 : decode cX11_character 210 = .ok (.iload 6, 2) := by decide +kernel
theorem dX11_character_212 : decode cX11_character 212 = .ok (.if_icmp .lt 24, 3) := by decide +kernel
theorem dX11_character_215 : decode cX11_character 215 = .ok (.iload 5, 2) := by decide +kernel
theorem dX11_character_217 : decode cX11_character 217 = .ok (.ldc 61, 2) := by decide +kernel
theorem dX11_character_219 : decode cX11_character 219 = .ok (.if_icmp .gt 17, 3) := by decide +kernel
theorem dX11_character_222 : decode cX11_character 222 = .ok (.iload 5, 2) := by decide +kernel
theorem dX11_character_224 : decode cX11_character 224 = .ok (.ldc 62, 2) := by decide +kernel
theorem dX11_character_226 : decode cX11_character 226 = .ok (.if_icmp .le 14, 3) := by decide +kernel
theorem dX11_character_229 : decode cX11_character 229 = .ok (.iload 5, 2) := by decide +kernel
theorem dX11_character_231 : decode cX11_character 231 = .ok (.ldc 63, 2) := by decide +kernel
theorem dX11_character_233 : decode cX11_character 233 = .ok (.if_icmp .ge 7, 3) := by decide +kernel
theorem dX11_character_236 : decode cX11_character 236 = .ok (.iconst 0, 1) := by decide +kernel
theorem dX11_character_237 : decode cX11_character 237 = .ok (.goto 5, 3) := by decide +kernel
theorem dX11_character_240 : decode cX11_character 240 = .ok (.iload 4, 2) := by decide +kernel
theorem dX11_character_242 : decode cX11_character 242 = .ok (.ireturn, 1) := by decide +kernel
theorem dX11_badText_0 : decode cX11_badText 0 = .ok (.iload_n 1, 1) := by decide +kernel
theorem dX11_badText_1 : decode cX11_badText 1 = .ok (.istore_n 3, 1) := by decide +kernel
theorem dX11_badText_2 : decode cX11_badText 2 = .ok (.iload_n 3, 1) := by decide +kernel
theorem dX11_badText_3 : decode cX11_badText 3 = .ok (.iload_n 2, 1) := by decide +kernel
theorem dX11_badText_4 : decode cX11_badText 4 = .ok (.if_icmp .ge 26, 3) := by decide +kernel
theorem dX11_badText_7 : decode cX11_badText 7 = .ok (.aload_n 0, 1) := by decide +kernel
theorem dX11_badText_8 : decode cX11_badText 8 = .ok (.iload_n 3, 1) := by decide +kernel
theorem dX11_badText_9 : decode cX11_badText 9 = .ok (.iload_n 2, 1) := by decide +kernel
theorem dX11_badText_10 : decode cX11_badText 10 = .ok (.invokestatic 64, 3) := by decide +kernel
theorem dX11_badText_13 : decode cX11_badText 13 = .ok (.istore 4, 2) := by decide +kernel
theorem dX11_badText_15 : decode cX11_badText 15 = .ok (.iload 4, 2) := by decide +kernel
theorem dX11_badText_17 : decode cX11_badText 17 = .ok (.ifCond .ne 5, 3) := by decide +kernel
theorem dX11_badText_20 : decode cX11_badText 20 = .ok (.iload_n 3, 1) := by decide +kernel
theorem dX11_badText_21 : decode cX11_badText 21 = .ok (.ireturn, 1) := by decide +kernel
theorem dX11_badText_22 : decode cX11_badText 22 = .ok (.iload_n 3, 1) := by decide +kernel
theorem dX11_badText_23 : decode cX11_badText 23 = .ok (.iload 4, 2) := by decide +kernel
theorem dX11_badText_25 : decode cX11_badText 25 = .ok (.iadd, 1) := by decide +kernel
theorem dX11_badText_26 : decode cX11_badText 26 = .ok (.istore_n 3, 1) := by decide +kernel
theorem dX11_badText_27 : decode cX11_badText 27 = .ok (.goto (-25), 3) := by decide +kernel
theorem dX11_badText_30 : decode cX11_badText 30 = .ok (.iconst (-1), 1) := by decide +kernel
theorem dX11_badText_31 : decode cX11_badText 31 = .ok (.ireturn, 1) := by decide +kernel
theorem dX11_stop_0 : decode cX11_stop 0 = .ok (.aload_n 0, 1) := by decide +kernel
theorem dX11_stop_1 : decode cX11_stop 1 = .ok (.aload_n 0, 1) := by decide +kernel
theorem dX11_stop_2 : decode cX11_stop 2 = .ok (.getfield 68, 3) := by decide +kernel
theorem dX11_stop_5 : decode cX11_stop 5 = .ok (.ifCond .ne 7, 3) := by decide +kernel
theorem dX11_stop_8 : decode cX11_stop 8 = .ok (.iload_n 1, 1) := by decide +kernel
theorem dX11_stop_9 : decode cX11_stop 9 = .ok (.goto 7, 3) := by decide +kernel
theorem dX11_stop_12 : decode cX11_stop 12 = .ok (.aload_n 0, 1) := by decide +kernel
theorem dX11_stop_13 : decode cX11_stop 13 = .ok (.getfield 68, 3) := by decide +kernel
theorem dX11_stop_16 : decode cX11_stop 16 = .ok (.putfield 68, 3) := by decide +kernel
theorem dX11_stop_19 : decode cX11_stop 19 = .ok (.return_, 1) := by decide +kernel
theorem dX11_low_0 : decode cX11_low 0 = .ok (.lconst 0, 1) := by decide +kernel
theorem dX11_low_1 : decode cX11_low 1 = .ok (.lstore_n 3, 1) := by decide +kernel
theorem dX11_low_2 : decode cX11_low 2 = .ok (.iload_n 2, 1) := by decide +kernel
theorem dX11_low_3 : decode cX11_low 3 = .ok (.iconst 1, 1) := by decide +kernel
theorem dX11_low_4 : decode cX11_low 4 = .ok (.isub, 1) := by decide +kernel
theorem dX11_low_5 : decode cX11_low 5 = .ok (.istore 5, 2) := by decide +kernel
theorem dX11_low_7 : decode cX11_low 7 = .ok (.iload 5, 2) := by decide +kernel
theorem dX11_low_9 : decode cX11_low 9 = .ok (.ifCond .lt 25, 3) := by decide +kernel
theorem dX11_low_12 : decode cX11_low 12 = .ok (.lload_n 3, 1) := by decide +kernel
theorem dX11_low_13 : decode cX11_low 13 = .ok (.bipush 8, 2) := by decide +kernel
theorem dX11_low_15 : decode cX11_low 15 = .ok (.lshl, 1) := by decide +kernel
theorem dX11_low_16 : decode cX11_low 16 = .ok (.aload_n 0, 1) := by decide +kernel
theorem dX11_low_17 : decode cX11_low 17 = .ok (.getfield 26, 3) := by decide +kernel
theorem dX11_low_20 : decode cX11_low 20 = .ok (.iload_n 1, 1) := by decide +kernel
theorem dX11_low_21 : decode cX11_low 21 = .ok (.iload 5, 2) := by decide +kernel
theorem dX11_low_23 : decode cX11_low 23 = .ok (.iadd, 1) := by decide +kernel
theorem dX11_low_24 : decode cX11_low 24 = .ok (.iaload, 1) := by decide +kernel
theorem dX11_low_25 : decode cX11_low 25 = .ok (.i2l, 1) := by decide +kernel
theorem dX11_low_26 : decode cX11_low 26 = .ok (.lor, 1) := by decide +kernel
theorem dX11_low_27 : decode cX11_low 27 = .ok (.lstore_n 3, 1) := by decide +kernel
theorem dX11_low_28 : decode cX11_low 28 = .ok (.iinc 5 (-1), 3) := by decide +kernel
theorem dX11_low_31 : decode cX11_low 31 = .ok (.goto (-24), 3) := by decide +kernel
theorem dX11_low_34 : decode cX11_low 34 = .ok (.lload_n 3, 1) := by decide +kernel
theorem dX11_low_35 : decode cX11_low 35 = .ok (.lreturn, 1) := by decide +kernel
theorem dX11_opens_0 : decode cX11_opens 0 = .ok (.iload_n 2, 1) := by decide +kernel
theorem dX11_opens_1 : decode cX11_opens 1 = .ok (.iconst 4, 1) := by decide +kernel
theorem dX11_opens_2 : decode cX11_opens 2 = .ok (.if_icmp .ge 11, 3) := by decide +kernel
theorem dX11_opens_5 : decode cX11_opens 5 = .ok (.aload_n 0, 1) := by decide +kernel
theorem dX11_opens_6 : decode cX11_opens 6 = .ok (.iconst 1, 1) := by decide +kernel
theorem dX11_opens_7 : decode cX11_opens 7 = .ok (.iload_n 1, 1) := by decide +kernel
theorem dX11_opens_8 : decode cX11_opens 8 = .ok (.invokevirtual 71, 3) := by decide +kernel
theorem dX11_opens_11 : decode cX11_opens 11 = .ok (.iconst 0, 1) := by decide +kernel
theorem dX11_opens_12 : decode cX11_opens 12 = .ok (.ireturn, 1) := by decide +kernel
theorem dX11_opens_13 : decode cX11_opens 13 = .ok (.aload_n 0, 1) := by decide +kernel
theorem dX11_opens_14 : decode cX11_opens 14 = .ok (.iload_n 1, 1) := by decide +kernel
theorem dX11_opens_15 : decode cX11_opens 15 = .ok (.iconst 4, 1) := by decide +kernel
theorem dX11_opens_16 : decode cX11_opens 16 = .ok (.invokevirtual 75, 3) := by decide +kernel
theorem dX11_opens_19 : decode cX11_opens 19 = .ok (.lstore 6, 2) := by decide +kernel
theorem dX11_opens_21 : decode cX11_opens 21 = .ok (.lload 6, 2) := by decide +kernel
theorem dX11_opens_23 : decode cX11_opens 23 = .ok (.ldc2_w 79, 3) := by decide +kernel
theorem dX11_opens_26 : decode cX11_opens 26 = .ok (.lcmp, 1) := by decide +kernel
theorem dX11_opens_27 : decode cX11_opens 27 = .ok (.ifCond .lt 15, 3) := by decide +kernel
theorem dX11_opens_30 : decode cX11_opens 30 = .ok (.iload_n 3, 1) := by decide +kernel
theorem dX11_opens_31 : decode cX11_opens 31 = .ok (.ifCond .ne 20, 3) := by decide +kernel
theorem dX11_opens_34 : decode cX11_opens 34 = .ok (.lload 6, 2) := by decide +kernel
theorem dX11_opens_36 : decode cX11_opens 36 = .ok (.iload_n 2, 1) := by decide +kernel
theorem dX11_opens_37 : decode cX11_opens 37 = .ok (.i2l, 1) := by decide +kernel
theorem dX11_opens_38 : decode cX11_opens 38 = .ok (.lcmp, 1) := by decide +kernel
theorem dX11_opens_39 : decode cX11_opens 39 = .ok (.ifCond .ge 12, 3) := by decide +kernel
theorem dX11_opens_42 : decode cX11_opens 42 = .ok (.aload_n 0, 1) := by decide +kernel
theorem dX11_opens_43 : decode cX11_opens 43 = .ok (.iconst 2, 1) := by decide +kernel
theorem dX11_opens_44 : decode cX11_opens 44 = .ok (.iload_n 1, 1) := by decide +kernel
theorem dX11_opens_45 : decode cX11_opens 45 = .ok (.invokevirtual 71, 3) := by decide +kernel
theorem dX11_opens_48 : decode cX11_opens 48 = .ok (.goto 33, 3) := by decide +kernel
theorem dX11_opens_51 : decode cX11_opens 51 = .ok (.lload 6, 2) := by decide +kernel
theorem dX11_opens_53 : decode cX11_opens 53 = .ok (.iload_n 2, 1) := by decide +kernel
theorem dX11_opens_54 : decode cX11_opens 54 = .ok (.i2l, 1) := by decide +kernel
theorem dX11_opens_55 : decode cX11_opens 55 = .ok (.lcmp, 1) := by decide +kernel
theorem dX11_opens_56 : decode cX11_opens 56 = .ok (.ifCond .le 12, 3) := by decide +kernel
theorem dX11_opens_59 : decode cX11_opens 59 = .ok (.aload_n 0, 1) := by decide +kernel
theorem dX11_opens_60 : decode cX11_opens 60 = .ok (.iconst 1, 1) := by decide +kernel
theorem dX11_opens_61 : decode cX11_opens 61 = .ok (.iload_n 1, 1) := by decide +kernel
theorem dX11_opens_62 : decode cX11_opens 62 = .ok (.invokevirtual 71, 3) := by decide +kernel
theorem dX11_opens_65 : decode cX11_opens 65 = .ok (.goto 16, 3) := by decide +kernel
theorem dX11_opens_68 : decode cX11_opens 68 = .ok (.iload_n 3, 1) := by decide +kernel
theorem dX11_opens_69 : decode cX11_opens 69 = .ok (.bipush 16, 2) := by decide +kernel
theorem dX11_opens_71 : decode cX11_opens 71 = .ok (.if_icmp .ne 10, 3) := by decide +kernel
theorem dX11_opens_74 : decode cX11_opens 74 = .ok (.aload_n 0, 1) := by decide +kernel
theorem dX11_opens_75 : decode cX11_opens 75 = .ok (.bipush 8, 2) := by decide +kernel
theorem dX11_opens_77 : decode cX11_opens 77 = .ok (.iload_n 1, 1) := by decide +kernel
theorem dX11_opens_78 : decode cX11_opens 78 = .ok (.invokevirtual 71, 3) := by decide +kernel
theorem dX11_opens_81 : decode cX11_opens 81 = .ok (.aload_n 0, 1) := by decide +kernel
theorem dX11_opens_82 : decode cX11_opens 82 = .ok (.getfield 68, 3) := by decide +kernel
theorem dX11_opens_85 : decode cX11_opens 85 = .ok (.ifCond .eq 5, 3) := by decide +kernel
theorem dX11_opens_88 : decode cX11_opens 88 = .ok (.iconst 0, 1) := by decide +kernel
theorem dX11_opens_89 : decode cX11_opens 89 = .ok (.ireturn, 1) := by decide +kernel
theorem dX11_opens_90 : decode cX11_opens 90 = .ok (.aload_n 0, 1) := by decide +kernel
theorem dX11_opens_91 : decode cX11_opens 91 = .ok (.getfield 38, 3) := by decide +kernel
theorem dX11_opens_94 : decode cX11_opens 94 = .ok (.iload_n 3, 1) := by decide +kernel
theorem dX11_opens_95 : decode cX11_opens 95 = .ok (.iload_n 1, 1) := by decide +kernel
theorem dX11_opens_96 : decode cX11_opens 96 = .ok (.lload 6, 2) := by decide +kernel
theorem dX11_opens_98 : decode cX11_opens 98 = .ok (.l2i, 1) := by decide +kernel
theorem dX11_opens_99 : decode cX11_opens 99 = .ok (.iadd, 1) := by decide +kernel
theorem dX11_opens_100 : decode cX11_opens 100 = .ok (.iastore, 1) := by decide +kernel
theorem dX11_opens_101 : decode cX11_opens 101 = .ok (.aload_n 0, 1) := by decide +kernel
theorem dX11_opens_102 : decode cX11_opens 102 = .ok (.getfield 41, 3) := by decide +kernel
theorem dX11_opens_105 : decode cX11_opens 105 = .ok (.iload_n 3, 1) := by decide +kernel
theorem dX11_opens_106 : decode cX11_opens 106 = .ok (.iload 4, 2) := by decide +kernel
theorem dX11_opens_108 : decode cX11_opens 108 = .ok (.iastore, 1) := by decide +kernel
theorem dX11_opens_109 : decode cX11_opens 109 = .ok (.aload_n 0, 1) := by decide +kernel
theorem dX11_opens_110 : decode cX11_opens 110 = .ok (.getfield 44, 3) := by decide +kernel
theorem dX11_opens_113 : decode cX11_opens 113 = .ok (.iload_n 3, 1) := by decide +kernel
theorem dX11_opens_114 : decode cX11_opens 114 = .ok (.iconst 0, 1) := by decide +kernel
theorem dX11_opens_115 : decode cX11_opens 115 = .ok (.iastore, 1) := by decide +kernel
theorem dX11_opens_116 : decode cX11_opens 116 = .ok (.aload_n 0, 1) := by decide +kernel
theorem dX11_opens_117 : decode cX11_opens 117 = .ok (.getfield 47, 3) := by decide +kernel
theorem dX11_opens_120 : decode cX11_opens 120 = .ok (.iload_n 3, 1) := by decide +kernel
theorem dX11_opens_121 : decode cX11_opens 121 = .ok (.iload 5, 2) := by decide +kernel
theorem dX11_opens_123 : decode cX11_opens 123 = .ok (.ifCond .eq 7, 3) := by decide +kernel
theorem dX11_opens_126 : decode cX11_opens 126 = .ok (.iconst 1, 1) := by decide +kernel
theorem dX11_opens_127 : decode cX11_opens 127 = .ok (.goto 4, 3) := by decide +kernel
theorem dX11_opens_130 : decode cX11_opens 130 = .ok (.iconst 0, 1) := by decide +kernel
theorem dX11_opens_131 : decode cX11_opens 131 = .ok (.iastore, 1) := by decide +kernel
theorem dX11_opens_132 : decode cX11_opens 132 = .ok (.iconst 1, 1) := by decide +kernel
theorem dX11_opens_133 : decode cX11_opens 133 = .ok (.ireturn, 1) := by decide +kernel
theorem dX11_isKind_0 : decode cX11_isKind 0 = .ok (.iload_n 1, 1) := by decide +kernel
theorem dX11_isKind_1 : decode cX11_isKind 1 = .ok (.iconst 2, 1) := by decide +kernel
theorem dX11_isKind_2 : decode cX11_isKind 2 = .ok (.if_icmp .eq 37, 3) := by decide +kernel
theorem dX11_isKind_5 : decode cX11_isKind 5 = .ok (.iload_n 1, 1) := by decide +kernel
theorem dX11_isKind_6 : decode cX11_isKind 6 = .ok (.iconst 3, 1) := by decide +kernel
theorem dX11_isKind_7 : decode cX11_isKind 7 = .ok (.if_icmp .eq 32, 3) := by decide +kernel
theorem dX11_isKind_10 : decode cX11_isKind 10 = .ok (.iload_n 1, 1) := by decide +kernel
theorem dX11_isKind_11 : decode cX11_isKind 11 = .ok (.iconst 4, 1) := by decide +kernel
theorem dX11_isKind_12 : decode cX11_isKind 12 = .ok (.if_icmp .eq 27, 3) := by decide +kernel
theorem dX11_isKind_15 : decode cX11_isKind 15 = .ok (.iload_n 1, 1) := by decide +kernel
theorem dX11_isKind_16 : decode cX11_isKind 16 = .ok (.bipush 8, 2) := by decide +kernel
theorem dX11_isKind_18 : decode cX11_isKind 18 = .ok (.if_icmp .eq 21, 3) := by decide +kernel
theorem dX11_isKind_21 : decode cX11_isKind 21 = .ok (.iload_n 1, 1) := by decide +kernel
theorem dX11_isKind_22 : decode cX11_isKind 22 = .ok (.bipush 10, 2) := by decide +kernel
theorem dX11_isKind_24 : decode cX11_isKind 24 = .ok (.if_icmp .eq 15, 3) := by decide +kernel
theorem dX11_isKind_27 : decode cX11_isKind 27 = .ok (.iload_n 1, 1) := by decide +kernel
theorem dX11_isKind_28 : decode cX11_isKind 28 = .ok (.bipush 16, 2) := by decide +kernel
theorem dX11_isKind_30 : decode cX11_isKind 30 = .ok (.if_icmp .eq 9, 3) := by decide +kernel
theorem dX11_isKind_33 : decode cX11_isKind 33 = .ok (.iload_n 1, 1) := by decide +kernel
theorem dX11_isKind_34 : decode cX11_isKind 34 = .ok (.bipush 18, 2) := by decide +kernel
theorem dX11_isKind_36 : decode cX11_isKind 36 = .ok (.if_icmp .ne 7, 3) := by decide +kernel
theorem dX11_isKind_39 : decode cX11_isKind 39 = .ok (.iconst 1, 1) := by decide +kernel
theorem dX11_isKind_40 : decode cX11_isKind 40 = .ok (.goto 4, 3) := by decide +kernel
theorem dX11_isKind_43 : decode cX11_isKind 43 = .ok (.iconst 0, 1) := by decide +kernel
theorem dX11_isKind_44 : decode cX11_isKind 44 = .ok (.ireturn, 1) := by decide +kernel
theorem dX11_goOver_0 : decode cX11_goOver 0 = .ok (.aload_n 0, 1) := by decide +kernel
theorem dX11_goOver_1 : decode cX11_goOver 1 = .ok (.iconst 0, 1) := by decide +kernel
theorem dX11_goOver_2 : decode cX11_goOver 2 = .ok (.putfield 68, 3) := by decide +kernel
theorem dX11_goOver_5 : decode cX11_goOver 5 = .ok (.aload_n 0, 1) := by decide +kernel
theorem dX11_goOver_6 : decode cX11_goOver 6 = .ok (.iconst 1, 1) := by decide +kernel
theorem dX11_goOver_7 : decode cX11_goOver 7 = .ok (.putfield 81, 3) := by decide +kernel
theorem dX11_goOver_10 : decode cX11_goOver 10 = .ok (.aload_n 0, 1) := by decide +kernel
theorem dX11_goOver_11 : decode cX11_goOver 11 = .ok (.iconst 0, 1) := by decide +kernel
theorem dX11_goOver_12 : decode cX11_goOver 12 = .ok (.iload_n 1, 1) := by decide +kernel
theorem dX11_goOver_13 : decode cX11_goOver 13 = .ok (.iconst 0, 1) := by decide +kernel
theorem dX11_goOver_14 : decode cX11_goOver 14 = .ok (.iconst 0, 1) := by decide +kernel
theorem dX11_goOver_15 : decode cX11_goOver 15 = .ok (.iconst 0, 1) := by decide +kernel
theorem dX11_goOver_16 : decode cX11_goOver 16 = .ok (.invokevirtual 84, 3) := by decide +kernel
theorem dX11_goOver_19 : decode cX11_goOver 19 = .ok (.ifCond .eq 7, 3) := by decide +kernel
theorem dX11_goOver_22 : decode cX11_goOver 22 = .ok (.iconst 1, 1) := by decide +kernel
theorem dX11_goOver_23 : decode cX11_goOver 23 = .ok (.goto 4, 3) := by decide +kernel
theorem dX11_goOver_26 : decode cX11_goOver 26 = .ok (.iconst 0, 1) := by decide +kernel
theorem dX11_goOver_27 : decode cX11_goOver 27 = .ok (.istore_n 2, 1) := by decide +kernel
theorem dX11_goOver_28 : decode cX11_goOver 28 = .ok (.iconst 4, 1) := by decide +kernel
theorem dX11_goOver_29 : decode cX11_goOver 29 = .ok (.istore_n 3, 1) := by decide +kernel
theorem dX11_goOver_30 : decode cX11_goOver 30 = .ok (.iload_n 2, 1) := by decide +kernel
theorem dX11_goOver_31 : decode cX11_goOver 31 = .ok (.ifCond .le 206, 3) := by decide +kernel
theorem dX11_goOver_34 : decode cX11_goOver 34 = .ok (.aload_n 0, 1) := by decide +kernel
theorem dX11_goOver_35 : decode cX11_goOver 35 = .ok (.getfield 68, 3) := by decide +kernel
theorem dX11_goOver_38 : decode cX11_goOver 38 = .ok (.ifCond .ne 199, 3) := by decide +kernel
theorem dX11_goOver_41 : decode cX11_goOver 41 = .ok (.aload_n 0, 1) := by decide +kernel
theorem dX11_goOver_42 : decode cX11_goOver 42 = .ok (.getfield 38, 3) := by decide +kernel
theorem dX11_goOver_45 : decode cX11_goOver 45 = .ok (.iload_n 2, 1) := by decide +kernel
theorem dX11_goOver_46 : decode cX11_goOver 46 = .ok (.iconst 1, 1) := by decide +kernel
theorem dX11_goOver_47 : decode cX11_goOver 47 = .ok (.isub, 1) := by decide +kernel
theorem dX11_goOver_48 : decode cX11_goOver 48 = .ok (.iaload, 1) := by decide +kernel
theorem dX11_goOver_49 : decode cX11_goOver 49 = .ok (.iconst 1, 1) := by decide +kernel
theorem dX11_goOver_50 : decode cX11_goOver 50 = .ok (.isub, 1) := by decide +kernel
theorem dX11_goOver_51 : decode cX11_goOver 51 = .ok (.istore 4, 2) := by decide +kernel
theorem dX11_goOver_53 : decode cX11_goOver 53 = .ok (.iload_n 3, 1) := by decide +kernel
theorem dX11_goOver_54 : decode cX11_goOver 54 = .ok (.iload 4, 2) := by decide +kernel
theorem dX11_goOver_56 : decode cX11_goOver 56 = .ok (.if_icmp .ne 27, 3) := by decide +kernel
theorem dX11_goOver_59 : decode cX11_goOver 59 = .ok (.aload_n 0, 1) := by decide +kernel
theorem dX11_goOver_60 : decode cX11_goOver 60 = .ok (.getfield 26, 3) := by decide +kernel
theorem dX11_goOver_63 : decode cX11_goOver 63 = .ok (.iload_n 3, 1) := by decide +kernel
theorem dX11_goOver_64 : decode cX11_goOver 64 = .ok (.iaload, 1) := by decide +kernel
theorem dX11_goOver_65 : decode cX11_goOver 65 = .ok (.ifCond .eq 9, 3) := by decide +kernel
theorem dX11_goOver_68 : decode cX11_goOver 68 = .ok (.aload_n 0, 1) := by decide +kernel
theorem dX11_goOver_69 : decode cX11_goOver 69 = .ok (.iconst 2, 1) := by decide +kernel
theorem dX11_goOver_70 : decode cX11_goOver 70 = .ok (.iload_n 3, 1) := by decide +kernel
theorem dX11_goOver_71 : decode cX11_goOver 71 = .ok (.invokevirtual 71, 3) := by decide +kernel
theorem dX11_goOver_74 : decode cX11_goOver 74 = .ok (.iinc 3 1, 3) := by decide +kernel
theorem dX11_goOver_77 : decode cX11_goOver 77 = .ok (.iinc 2 (-1), 3) := by decide +kernel
theorem dX11_goOver_80 : decode cX11_goOver 80 = .ok (.goto 154, 3) := by decide +kernel
theorem dX11_goOver_83 : decode cX11_goOver 83 = .ok (.aload_n 0, 1) := by decide +kernel
theorem dX11_goOver_84 : decode cX11_goOver 84 = .ok (.getfield 26, 3) := by decide +kernel
theorem dX11_goOver_87 : decode cX11_goOver 87 = .ok (.iload_n 3, 1) := by decide +kernel
theorem dX11_goOver_88 : decode cX11_goOver 88 = .ok (.iaload, 1) := by decide +kernel
theorem dX11_goOver_89 : decode cX11_goOver 89 = .ok (.ifCond .ne 12, 3) := by decide +kernel
theorem dX11_goOver_92 : decode cX11_goOver 92 = .ok (.aload_n 0, 1) := by decide +kernel
theorem dX11_goOver_93 : decode cX11_goOver 93 = .ok (.iconst 2, 1) := by decide +kernel
theorem dX11_goOver_94 : decode cX11_goOver 94 = .ok (.iload_n 3, 1) := by decide +kernel
theorem dX11_goOver_95 : decode cX11_goOver 95 = .ok (.invokevirtual 71, 3) := by decide +kernel
theorem dX11_goOver_98 : decode cX11_goOver 98 = .ok (.goto 136, 3) := by decide +kernel
theorem dX11_goOver_101 : decode cX11_goOver 101 = .ok (.aload_n 0, 1) := by decide +kernel
theorem dX11_goOver_102 : decode cX11_goOver 102 = .ok (.aload_n 0, 1) := by decide +kernel
theorem dX11_goOver_103 : decode cX11_goOver 103 = .ok (.getfield 26, 3) := by decide +kernel
theorem dX11_goOver_106 : decode cX11_goOver 106 = .ok (.iload_n 3, 1) := by decide +kernel
theorem dX11_goOver_107 : decode cX11_goOver 107 = .ok (.iaload, 1) := by decide +kernel
theorem dX11_goOver_108 : decode cX11_goOver 108 = .ok (.invokevirtual 88, 3) := by decide +kernel
theorem dX11_goOver_111 : decode cX11_goOver 111 = .ok (.ifCond .ne 12, 3) := by decide +kernel
theorem dX11_goOver_114 : decode cX11_goOver 114 = .ok (.aload_n 0, 1) := by decide +kernel
theorem dX11_goOver_115 : decode cX11_goOver 115 = .ok (.iconst 3, 1) := by decide +kernel
theorem dX11_goOver_116 : decode cX11_goOver 116 = .ok (.iload_n 3, 1) := by decide +kernel
theorem dX11_goOver_117 : decode cX11_goOver 117 = .ok (.invokevirtual 71, 3) := by decide +kernel
theorem dX11_goOver_120 : decode cX11_goOver 120 = .ok (.goto 114, 3) := by decide +kernel
theorem dX11_goOver_123 : decode cX11_goOver 123 = .ok (.aload_n 0, 1) := by decide +kernel
theorem dX11_goOver_124 : decode cX11_goOver 124 = .ok (.iload_n 3, 1) := by decide +kernel
theorem dX11_goOver_125 : decode cX11_goOver 125 = .ok (.iload 4, 2) := by decide +kernel
theorem dX11_goOver_127 : decode cX11_goOver 127 = .ok (.iload_n 2, 1) := by decide +kernel
theorem dX11_goOver_128 : decode cX11_goOver 128 = .ok (.invokevirtual 92, 3) := by decide +kernel
theorem dX11_goOver_131 : decode cX11_goOver 131 = .ok (.istore_n 3, 1) := by decide +kernel
theorem dX11_goOver_132 : decode cX11_goOver 132 = .ok (.aload_n 0, 1) := by decide +kernel
theorem dX11_goOver_133 : decode cX11_goOver 133 = .ok (.getfield 68, 3) := by decide +kernel
theorem dX11_goOver_136 : decode cX11_goOver 136 = .ok (.ifCond .ne 98, 3) := by decide +kernel
theorem dX11_goOver_139 : decode cX11_goOver 139 = .ok (.aload_n 0, 1) := by decide +kernel
theorem dX11_goOver_140 : decode cX11_goOver 140 = .ok (.getfield 26, 3) := by decide +kernel
theorem dX11_goOver_143 : decode cX11_goOver 143 = .ok (.aload_n 0, 1) := by decide +kernel
theorem dX11_goOver_144 : decode cX11_goOver 144 = .ok (.getfield 32, 3) := by decide +kernel
theorem dX11_goOver_147 : decode cX11_goOver 147 = .ok (.aload_n 0, 1) := by decide +kernel
theorem dX11_goOver_148 : decode cX11_goOver 148 = .ok (.getfield 81, 3) := by decide +kernel
theorem dX11_goOver_151 : decode cX11_goOver 151 = .ok (.iconst 1, 1) := by decide +kernel
theorem dX11_goOver_152 : decode cX11_goOver 152 = .ok (.isub, 1) := by decide +kernel
theorem dX11_goOver_153 : decode cX11_goOver 153 = .ok (.iaload, 1) := by decide +kernel
theorem dX11_goOver_154 : decode cX11_goOver 154 = .ok (.iaload, 1) := by decide +kernel
theorem dX11_goOver_155 : decode cX11_goOver 155 = .ok (.iconst 3, 1) := by decide +kernel
theorem dX11_goOver_156 : decode cX11_goOver 156 = .ok (.if_icmp .eq 23, 3) := by decide +kernel
theorem dX11_goOver_159 : decode cX11_goOver 159 = .ok (.aload_n 0, 1) := by decide +kernel
theorem dX11_goOver_160 : decode cX11_goOver 160 = .ok (.getfield 26, 3) := by decide +kernel
theorem dX11_goOver_163 : decode cX11_goOver 163 = .ok (.aload_n 0, 1) := by decide +kernel
theorem dX11_goOver_164 : decode cX11_goOver 164 = .ok (.getfield 32, 3) := by decide +kernel
theorem dX11_goOver_167 : decode cX11_goOver 167 = .ok (.aload_n 0, 1) := by decide +kernel
theorem dX11_goOver_168 : decode cX11_goOver 168 = .ok (.getfield 81, 3) := by decide +kernel
theorem dX11_goOver_171 : decode cX11_goOver 171 = .ok (.iconst 1, 1) := by decide +kernel
theorem dX11_goOver_172 : decode cX11_goOver 172 = .ok (.isub, 1) := by decide +kernel
theorem dX11_goOver_173 : decode cX11_goOver 173 = .ok (.iaload, 1) := by decide +kernel
theorem dX11_goOver_174 : decode cX11_goOver 174 = .ok (.iaload, 1) := by decide +kernel
theorem dX11_goOver_175 : decode cX11_goOver 175 = .ok (.iconst 4, 1) := by decide +kernel
theorem dX11_goOver_176 : decode cX11_goOver 176 = .ok (.if_icmp .ne 58, 3) := by decide +kernel
theorem dX11_goOver_179 : decode cX11_goOver 179 = .ok (.aload_n 0, 1) := by decide +kernel
theorem dX11_goOver_180 : decode cX11_goOver 180 = .ok (.iload_n 3, 1) := by decide +kernel
theorem dX11_goOver_181 : decode cX11_goOver 181 = .ok (.iload 4, 2) := by decide +kernel
theorem dX11_goOver_183 : decode cX11_goOver 183 = .ok (.iload_n 3, 1) := by decide +kernel
theorem dX11_goOver_184 : decode cX11_goOver 184 = .ok (.isub, 1) := by decide +kernel
theorem dX11_goOver_185 : decode cX11_goOver 185 = .ok (.iload_n 2, 1) := by decide +kernel
theorem dX11_goOver_186 : decode cX11_goOver 186 = .ok (.aload_n 0, 1) := by decide +kernel
theorem dX11_goOver_187 : decode cX11_goOver 187 = .ok (.getfield 81, 3) := by decide +kernel
theorem dX11_goOver_190 : decode cX11_goOver 190 = .ok (.iconst 1, 1) := by decide +kernel
theorem dX11_goOver_191 : decode cX11_goOver 191 = .ok (.isub, 1) := by decide +kernel
theorem dX11_goOver_192 : decode cX11_goOver 192 = .ok (.aload_n 0, 1) := by decide +kernel
theorem dX11_goOver_193 : decode cX11_goOver 193 = .ok (.getfield 26, 3) := by decide +kernel
theorem dX11_goOver_196 : decode cX11_goOver 196 = .ok (.aload_n 0, 1) := by decide +kernel
theorem dX11_goOver_197 : decode cX11_goOver 197 = .ok (.getfield 32, 3) := by decide +kernel
theorem dX11_goOver_200 : decode cX11_goOver 200 = .ok (.aload_n 0, 1) := by decide +kernel
theorem dX11_goOver_201 : decode cX11_goOver 201 = .ok (.getfield 81, 3) := by decide +kernel
theorem dX11_goOver_204 : decode cX11_goOver 204 = .ok (.iconst 1, 1) := by decide +kernel
theorem dX11_goOver_205 : decode cX11_goOver 205 = .ok (.isub, 1) := by decide +kernel
theorem dX11_goOver_206 : decode cX11_goOver 206 = .ok (.iaload, 1) := by decide +kernel
theorem dX11_goOver_207 : decode cX11_goOver 207 = .ok (.iaload, 1) := by decide +kernel
theorem dX11_goOver_208 : decode cX11_goOver 208 = .ok (.iconst 4, 1) := by decide +kernel
theorem dX11_goOver_209 : decode cX11_goOver 209 = .ok (.if_icmp .ne 7, 3) := by decide +kernel
theorem dX11_goOver_212 : decode cX11_goOver 212 = .ok (.iconst 1, 1) := by decide +kernel
theorem dX11_goOver_213 : decode cX11_goOver 213 = .ok (.goto 4, 3) := by decide +kernel
theorem dX11_goOver_216 : decode cX11_goOver 216 = .ok (.iconst 0, 1) := by decide +kernel
theorem dX11_goOver_217 : decode cX11_goOver 217 = .ok (.invokevirtual 84, 3) := by decide +kernel
theorem dX11_goOver_220 : decode cX11_goOver 220 = .ok (.ifCond .eq 9, 3) := by decide +kernel
theorem dX11_goOver_223 : decode cX11_goOver 223 = .ok (.iload_n 2, 1) := by decide +kernel
theorem dX11_goOver_224 : decode cX11_goOver 224 = .ok (.iconst 1, 1) := by decide +kernel
theorem dX11_goOver_225 : decode cX11_goOver 225 = .ok (.iadd, 1) := by decide +kernel
theorem dX11_goOver_226 : decode cX11_goOver 226 = .ok (.goto 4, 3) := by decide +kernel
theorem dX11_goOver_229 : decode cX11_goOver 229 = .ok (.iload_n 2, 1) := by decide +kernel
theorem dX11_goOver_230 : decode cX11_goOver 230 = .ok (.istore_n 2, 1) := by decide +kernel
theorem dX11_goOver_231 : decode cX11_goOver 231 = .ok (.iinc 3 4, 3) := by decide +kernel
theorem dX11_goOver_234 : decode cX11_goOver 234 = .ok (.goto (-204), 3) := by decide +kernel
theorem dX11_goOver_237 : decode cX11_goOver 237 = .ok (.return_, 1) := by decide +kernel
theorem dX11_element_0 : decode cX11_element 0 = .ok (.iload_n 1, 1) := by decide +kernel
theorem dX11_element_1 : decode cX11_element 1 = .ok (.iconst 1, 1) := by decide +kernel
theorem dX11_element_2 : decode cX11_element 2 = .ok (.iadd, 1) := by decide +kernel
theorem dX11_element_3 : decode cX11_element 3 = .ok (.istore 4, 2) := by decide +kernel
theorem dX11_element_5 : decode cX11_element 5 = .ok (.iload 4, 2) := by decide +kernel
theorem dX11_element_7 : decode cX11_element 7 = .ok (.istore 5, 2) := by decide +kernel
theorem dX11_element_9 : decode cX11_element 9 = .ok (.iload 5, 2) := by decide +kernel
theorem dX11_element_11 : decode cX11_element 11 = .ok (.iload_n 2, 1) := by decide +kernel
theorem dX11_element_12 : decode cX11_element 12 = .ok (.if_icmp .ge 19, 3) := by decide +kernel
theorem dX11_element_15 : decode cX11_element 15 = .ok (.aload_n 0, 1) := by decide +kernel
theorem dX11_element_16 : decode cX11_element 16 = .ok (.getfield 26, 3) := by decide +kernel
theorem dX11_element_19 : decode cX11_element 19 = .ok (.iload 5, 2) := by decide +kernel
theorem dX11_element_21 : decode cX11_element 21 = .ok (.iaload, 1) := by decide +kernel
theorem dX11_element_22 : decode cX11_element 22 = .ok (.ifCond .eq 9, 3) := by decide +kernel
theorem dX11_element_25 : decode cX11_element 25 = .ok (.iinc 5 1, 3) := by decide +kernel
theorem dX11_element_28 : decode cX11_element 28 = .ok (.goto (-19), 3) := by decide +kernel
theorem dX11_element_31 : decode cX11_element 31 = .ok (.iload 5, 2) := by decide +kernel
theorem dX11_element_33 : decode cX11_element 33 = .ok (.iload_n 2, 1) := by decide +kernel
theorem dX11_element_34 : decode cX11_element 34 = .ok (.if_icmp .lt 13, 3) := by decide +kernel
theorem dX11_element_37 : decode cX11_element 37 = .ok (.aload_n 0, 1) := by decide +kernel
theorem dX11_element_38 : decode cX11_element 38 = .ok (.iconst 1, 1) := by decide +kernel
theorem dX11_element_39 : decode cX11_element 39 = .ok (.iload 4, 2) := by decide +kernel
theorem dX11_element_41 : decode cX11_element 41 = .ok (.invokevirtual 71, 3) := by decide +kernel
theorem dX11_element_44 : decode cX11_element 44 = .ok (.iload 5, 2) := by decide +kernel
theorem dX11_element_46 : decode cX11_element 46 = .ok (.ireturn, 1) := by decide +kernel
theorem dX11_element_47 : decode cX11_element 47 = .ok (.aload_n 0, 1) := by decide +kernel
theorem dX11_element_48 : decode cX11_element 48 = .ok (.getfield 26, 3) := by decide +kernel
theorem dX11_element_51 : decode cX11_element 51 = .ok (.iload 4, 2) := by decide +kernel
theorem dX11_element_53 : decode cX11_element 53 = .ok (.iload 5, 2) := by decide +kernel
theorem dX11_element_55 : decode cX11_element 55 = .ok (.invokestatic 96, 3) := by decide +kernel
theorem dX11_element_58 : decode cX11_element 58 = .ok (.istore 6, 2) := by decide +kernel
theorem dX11_element_60 : decode cX11_element 60 = .ok (.iload 6, 2) := by decide +kernel
theorem dX11_element_62 : decode cX11_element 62 = .ok (.ifCond .lt 13, 3) := by decide +kernel
theorem dX11_element_65 : decode cX11_element 65 = .ok (.aload_n 0, 1) := by decide +kernel
theorem dX11_element_66 : decode cX11_element 66 = .ok (.iconst 4, 1) := by decide +kernel
theorem dX11_element_67 : decode cX11_element 67 = .ok (.iload 6, 2) := by decide +kernel
theorem dX11_element_69 : decode cX11_element 69 = .ok (.invokevirtual 71, 3) := by decide +kernel
theorem dX11_element_72 : decode cX11_element 72 = .ok (.goto 23, 3) := by decide +kernel
theorem dX11_element_75 : decode cX11_element 75 = .ok (.aload_n 0, 1) := by decide +kernel
theorem dX11_element_76 : decode cX11_element 76 = .ok (.iload 4, 2) := by decide +kernel
theorem dX11_element_78 : decode cX11_element 78 = .ok (.iload 5, 2) := by decide +kernel
theorem dX11_element_80 : decode cX11_element 80 = .ok (.iload_n 3, 1) := by decide +kernel
theorem dX11_element_81 : decode cX11_element 81 = .ok (.invokevirtual 99, 3) := by decide +kernel
theorem dX11_element_84 : decode cX11_element 84 = .ok (.ifCond .ne 11, 3) := by decide +kernel
theorem dX11_element_87 : decode cX11_element 87 = .ok (.aload_n 0, 1) := by decide +kernel
theorem dX11_element_88 : decode cX11_element 88 = .ok (.bipush 7, 2) := by decide +kernel
theorem dX11_element_90 : decode cX11_element 90 = .ok (.iload 4, 2) := by decide +kernel
theorem dX11_element_92 : decode cX11_element 92 = .ok (.invokevirtual 71, 3) := by decide +kernel
theorem dX11_element_95 : decode cX11_element 95 = .ok (.aload_n 0, 1) := by decide +kernel
theorem dX11_element_96 : decode cX11_element 96 = .ok (.getfield 68, 3) := by decide +kernel
theorem dX11_element_99 : decode cX11_element 99 = .ok (.ifCond .eq 6, 3) := by decide +kernel
theorem dX11_element_102 : decode cX11_element 102 = .ok (.iload 5, 2) := by decide +kernel
theorem dX11_element_104 : decode cX11_element 104 = .ok (.ireturn, 1) := by decide +kernel
theorem dX11_element_105 : decode cX11_element 105 = .ok (.aload_n 0, 1) := by decide +kernel
theorem dX11_element_106 : decode cX11_element 106 = .ok (.getfield 81, 3) := by decide +kernel
theorem dX11_element_109 : decode cX11_element 109 = .ok (.istore 7, 2) := by decide +kernel
theorem dX11_element_111 : decode cX11_element 111 = .ok (.aload_n 0, 1) := by decide +kernel
theorem dX11_element_112 : decode cX11_element 112 = .ok (.dup, 1) := by decide +kernel
theorem dX11_element_113 : decode cX11_element 113 = .ok (.getfield 81, 3) := by decide +kernel
theorem dX11_element_116 : decode cX11_element 116 = .ok (.iconst 1, 1) := by decide +kernel
theorem dX11_element_117 : decode cX11_element 117 = .ok (.iadd, 1) := by decide +kernel
theorem dX11_element_118 : decode cX11_element 118 = .ok (.putfield 81, 3) := by decide +kernel
theorem dX11_element_121 : decode cX11_element 121 = .ok (.aload_n 0, 1) := by decide +kernel
theorem dX11_element_122 : decode cX11_element 122 = .ok (.getfield 29, 3) := by decide +kernel
theorem dX11_element_125 : decode cX11_element 125 = .ok (.iload 7, 2) := by decide +kernel
theorem dX11_element_127 : decode cX11_element 127 = .ok (.aload_n 0, 1) := by decide +kernel
theorem dX11_element_128 : decode cX11_element 128 = .ok (.getfield 41, 3) := by decide +kernel
theorem dX11_element_131 : decode cX11_element 131 = .ok (.iload_n 3, 1) := by decide +kernel
theorem dX11_element_132 : decode cX11_element 132 = .ok (.iconst 1, 1) := by decide +kernel
theorem dX11_element_133 : decode cX11_element 133 = .ok (.isub, 1) := by decide +kernel
theorem dX11_element_134 : decode cX11_element 134 = .ok (.iaload, 1) := by decide +kernel
theorem dX11_element_135 : decode cX11_element 135 = .ok (.iastore, 1) := by decide +kernel
theorem dX11_element_136 : decode cX11_element 136 = .ok (.aload_n 0, 1) := by decide +kernel
theorem dX11_element_137 : decode cX11_element 137 = .ok (.getfield 32, 3) := by decide +kernel
theorem dX11_element_140 : decode cX11_element 140 = .ok (.iload 7, 2) := by decide +kernel
theorem dX11_element_142 : decode cX11_element 142 = .ok (.iload_n 1, 1) := by decide +kernel
theorem dX11_element_143 : decode cX11_element 143 = .ok (.iastore, 1) := by decide +kernel
theorem dX11_element_144 : decode cX11_element 144 = .ok (.aload_n 0, 1) := by decide +kernel
theorem dX11_element_145 : decode cX11_element 145 = .ok (.getfield 35, 3) := by decide +kernel
theorem dX11_element_148 : decode cX11_element 148 = .ok (.iload 7, 2) := by decide +kernel
theorem dX11_element_150 : decode cX11_element 150 = .ok (.iload 5, 2) := by decide +kernel
theorem dX11_element_152 : decode cX11_element 152 = .ok (.iastore, 1) := by decide +kernel
theorem dX11_element_153 : decode cX11_element 153 = .ok (.aload_n 0, 1) := by decide +kernel
theorem dX11_element_154 : decode cX11_element 154 = .ok (.getfield 44, 3) := by decide +kernel
theorem dX11_element_157 : decode cX11_element 157 = .ok (.iload_n 3, 1) := by decide +kernel
theorem dX11_element_158 : decode cX11_element 158 = .ok (.iconst 1, 1) := by decide +kernel
theorem dX11_element_159 : decode cX11_element 159 = .ok (.isub, 1) := by decide +kernel
theorem dX11_element_160 : decode cX11_element 160 = .ok (.dup2, 1) := by decide +kernel
theorem dX11_element_161 : decode cX11_element 161 = .ok (.iaload, 1) := by decide +kernel
theorem dX11_element_162 : decode cX11_element 162 = .ok (.iconst 1, 1) := by decide +kernel
theorem dX11_element_163 : decode cX11_element 163 = .ok (.iadd, 1) := by decide +kernel
theorem dX11_element_164 : decode cX11_element 164 = .ok (.iastore, 1) := by decide +kernel
theorem dX11_element_165 : decode cX11_element 165 = .ok (.aload_n 0, 1) := by decide +kernel
theorem dX11_element_166 : decode cX11_element 166 = .ok (.aload_n 0, 1) := by decide +kernel
theorem dX11_element_167 : decode cX11_element 167 = .ok (.getfield 26, 3) := by decide +kernel
theorem dX11_element_170 : decode cX11_element 170 = .ok (.iload_n 1, 1) := by decide +kernel
theorem dX11_element_171 : decode cX11_element 171 = .ok (.iaload, 1) := by decide +kernel
theorem dX11_element_172 : decode cX11_element 172 = .ok (.iload 5, 2) := by decide +kernel
theorem dX11_element_174 : decode cX11_element 174 = .ok (.iconst 1, 1) := by decide +kernel
theorem dX11_element_175 : decode cX11_element 175 = .ok (.iadd, 1) := by decide +kernel
theorem dX11_element_176 : decode cX11_element 176 = .ok (.iload_n 2, 1) := by decide +kernel
theorem dX11_element_177 : decode cX11_element 177 = .ok (.invokevirtual 103, 3) := by decide +kernel
theorem dX11_element_180 : decode cX11_element 180 = .ok (.ireturn, 1) := by decide +kernel
theorem dX11_isName_0 : decode cX11_isName 0 = .ok (.aload_n 0, 1) := by decide +kernel
theorem dX11_isName_1 : decode cX11_isName 1 = .ok (.getfield 47, 3) := by decide +kernel
theorem dX11_isName_4 : decode cX11_isName 4 = .ok (.iload_n 3, 1) := by decide +kernel
theorem dX11_isName_5 : decode cX11_isName 5 = .ok (.iconst 1, 1) := by decide +kernel
theorem dX11_isName_6 : decode cX11_isName 6 = .ok (.isub, 1) := by decide +kernel
theorem dX11_isName_7 : decode cX11_isName 7 = .ok (.iaload, 1) := by decide +kernel
theorem dX11_isName_8 : decode cX11_isName 8 = .ok (.iconst 1, 1) := by decide +kernel
theorem dX11_isName_9 : decode cX11_isName 9 = .ok (.if_icmp .ne 21, 3) := by decide +kernel
theorem dX11_isName_12 : decode cX11_isName 12 = .ok (.aload_n 0, 1) := by decide +kernel
theorem dX11_isName_13 : decode cX11_isName 13 = .ok (.getfield 26, 3) := by decide +kernel
theorem dX11_isName_16 : decode cX11_isName 16 = .ok (.iload_n 1, 1) := by decide +kernel
theorem dX11_isName_17 : decode cX11_isName 17 = .ok (.iload_n 2, 1) := by decide +kernel
theorem dX11_isName_18 : decode cX11_isName 18 = .ok (.aload_n 0, 1) := by decide +kernel
theorem dX11_isName_19 : decode cX11_isName 19 = .ok (.getfield 44, 3) := by decide +kernel
theorem dX11_isName_22 : decode cX11_isName 22 = .ok (.iload_n 3, 1) := by decide +kernel
theorem dX11_isName_23 : decode cX11_isName 23 = .ok (.iconst 1, 1) := by decide +kernel
theorem dX11_isName_24 : decode cX11_isName 24 = .ok (.isub, 1) := by decide +kernel
theorem dX11_isName_25 : decode cX11_isName 25 = .ok (.iaload, 1) := by decide +kernel
theorem dX11_isName_26 : decode cX11_isName 26 = .ok (.invokestatic 106, 3) := by decide +kernel
theorem dX11_isName_29 : decode cX11_isName 29 = .ok (.ireturn, 1) := by decide +kernel
theorem dX11_isName_30 : decode cX11_isName 30 = .ok (.iconst 1, 1) := by decide +kernel
theorem dX11_isName_31 : decode cX11_isName 31 = .ok (.istore 4, 2) := by decide +kernel
theorem dX11_isName_33 : decode cX11_isName 33 = .ok (.iload 4, 2) := by decide +kernel
theorem dX11_isName_35 : decode cX11_isName 35 = .ok (.aload_n 0, 1) := by decide +kernel
theorem dX11_isName_36 : decode cX11_isName 36 = .ok (.getfield 81, 3) := by decide +kernel
theorem dX11_isName_39 : decode cX11_isName 39 = .ok (.if_icmp .ge 122, 3) := by decide +kernel
theorem dX11_isName_42 : decode cX11_isName 42 = .ok (.aload_n 0, 1) := by decide +kernel
theorem dX11_isName_43 : decode cX11_isName 43 = .ok (.getfield 29, 3) := by decide +kernel
theorem dX11_isName_46 : decode cX11_isName 46 = .ok (.iload 4, 2) := by decide +kernel
theorem dX11_isName_48 : decode cX11_isName 48 = .ok (.iaload, 1) := by decide +kernel
theorem dX11_isName_49 : decode cX11_isName 49 = .ok (.aload_n 0, 1) := by decide +kernel
theorem dX11_isName_50 : decode cX11_isName 50 = .ok (.getfield 41, 3) := by decide +kernel
theorem dX11_isName_53 : decode cX11_isName 53 = .ok (.iload_n 3, 1) := by decide +kernel
theorem dX11_isName_54 : decode cX11_isName 54 = .ok (.iconst 1, 1) := by decide +kernel
theorem dX11_isName_55 : decode cX11_isName 55 = .ok (.isub, 1) := by decide +kernel
theorem dX11_isName_56 : decode cX11_isName 56 = .ok (.iaload, 1) := by decide +kernel
theorem dX11_isName_57 : decode cX11_isName 57 = .ok (.if_icmp .ne 30, 3) := by decide +kernel
theorem dX11_isName_60 : decode cX11_isName 60 = .ok (.aload_n 0, 1) := by decide +kernel
theorem dX11_isName_61 : decode cX11_isName 61 = .ok (.getfield 35, 3) := by decide +kernel
theorem dX11_isName_64 : decode cX11_isName 64 = .ok (.iload 4, 2) := by decide +kernel
theorem dX11_isName_66 : decode cX11_isName 66 = .ok (.iaload, 1) := by decide +kernel
theorem dX11_isName_67 : decode cX11_isName 67 = .ok (.aload_n 0, 1) := by decide +kernel
theorem dX11_isName_68 : decode cX11_isName 68 = .ok (.getfield 32, 3) := by decide +kernel
theorem dX11_isName_71 : decode cX11_isName 71 = .ok (.iload 4, 2) := by decide +kernel
theorem dX11_isName_73 : decode cX11_isName 73 = .ok (.iaload, 1) := by decide +kernel
theorem dX11_isName_74 : decode cX11_isName 74 = .ok (.isub, 1) := by decide +kernel
theorem dX11_isName_75 : decode cX11_isName 75 = .ok (.iconst 1, 1) := by decide +kernel
theorem dX11_isName_76 : decode cX11_isName 76 = .ok (.isub, 1) := by decide +kernel
theorem dX11_isName_77 : decode cX11_isName 77 = .ok (.iload_n 2, 1) := by decide +kernel
theorem dX11_isName_78 : decode cX11_isName 78 = .ok (.iload_n 1, 1) := by decide +kernel
theorem dX11_isName_79 : decode cX11_isName 79 = .ok (.isub, 1) := by decide +kernel
theorem dX11_isName_80 : decode cX11_isName 80 = .ok (.if_icmp .ne 7, 3) := by decide +kernel
theorem dX11_isName_83 : decode cX11_isName 83 = .ok (.iconst 1, 1) := by decide +kernel
theorem dX11_isName_84 : decode cX11_isName 84 = .ok (.goto 4, 3) := by decide +kernel
theorem dX11_isName_87 : decode cX11_isName 87 = .ok (.iconst 0, 1) := by decide +kernel
theorem dX11_isName_88 : decode cX11_isName 88 = .ok (.istore 5, 2) := by decide +kernel
theorem dX11_isName_90 : decode cX11_isName 90 = .ok (.iconst 0, 1) := by decide +kernel
theorem dX11_isName_91 : decode cX11_isName 91 = .ok (.istore 6, 2) := by decide +kernel
theorem dX11_isName_93 : decode cX11_isName 93 = .ok (.iload 6, 2) := by decide +kernel
theorem dX11_isName_95 : decode cX11_isName 95 = .ok (.iload_n 2, 1) := by decide +kernel
theorem dX11_isName_96 : decode cX11_isName 96 = .ok (.iload_n 1, 1) := by decide +kernel
theorem dX11_isName_97 : decode cX11_isName 97 = .ok (.isub, 1) := by decide +kernel
theorem dX11_isName_98 : decode cX11_isName 98 = .ok (.if_icmp .ge 50, 3) := by decide +kernel
theorem dX11_isName_101 : decode cX11_isName 101 = .ok (.iload 5, 2) := by decide +kernel
theorem dX11_isName_103 : decode cX11_isName 103 = .ok (.ifCond .eq 45, 3) := by decide +kernel
theorem dX11_isName_106 : decode cX11_isName 106 = .ok (.aload_n 0, 1) := by decide +kernel
theorem dX11_isName_107 : decode cX11_isName 107 = .ok (.getfield 26, 3) := by decide +kernel
theorem dX11_isName_110 : decode cX11_isName 110 = .ok (.aload_n 0, 1) := by decide +kernel
theorem dX11_isName_111 : decode cX11_isName 111 = .ok (.getfield 32, 3) := by decide +kernel
theorem dX11_isName_114 : decode cX11_isName 114 = .ok (.iload 4, 2) := by decide +kernel
theorem dX11_isName_116 : decode cX11_isName 116 = .ok (.iaload, 1) := by decide +kernel
theorem dX11_isName_117 : decode cX11_isName 117 = .ok (.iconst 1, 1) := by decide +kernel
theorem dX11_isName_118 : decode cX11_isName 118 = .ok (.iadd, 1) := by decide +kernel
theorem dX11_isName_119 : decode cX11_isName 119 = .ok (.iload 6, 2) := by decide +kernel
theorem dX11_isName_121 : decode cX11_isName 121 = .ok (.iadd, 1) := by decide +kernel
theorem dX11_isName_122 : decode cX11_isName 122 = .ok (.iaload, 1) := by decide +kernel
theorem dX11_isName_123 : decode cX11_isName 123 = .ok (.aload_n 0, 1) := by decide +kernel
theorem dX11_isName_124 : decode cX11_isName 124 = .ok (.getfield 26, 3) := by decide +kernel
theorem dX11_isName_127 : decode cX11_isName 127 = .ok (.iload_n 1, 1) := by decide +kernel
theorem dX11_isName_128 : decode cX11_isName 128 = .ok (.iload 6, 2) := by decide +kernel
theorem dX11_isName_130 : decode cX11_isName 130 = .ok (.iadd, 1) := by decide +kernel
theorem dX11_isName_131 : decode cX11_isName 131 = .ok (.iaload, 1) := by decide +kernel
theorem dX11_isName_132 : decode cX11_isName 132 = .ok (.if_icmp .ne 7, 3) := by decide +kernel
theorem dX11_isName_135 : decode cX11_isName 135 = .ok (.iconst 1, 1) := by decide +kernel
theorem dX11_isName_136 : decode cX11_isName 136 = .ok (.goto 4, 3) := by decide +kernel
theorem dX11_isName_139 : decode cX11_isName 139 = .ok (.iconst 0, 1) := by decide +kernel
theorem dX11_isName_140 : decode cX11_isName 140 = .ok (.istore 5, 2) := by decide +kernel
theorem dX11_isName_142 : decode cX11_isName 142 = .ok (.iinc 6 1, 3) := by decide +kernel
theorem dX11_isName_145 : decode cX11_isName 145 = .ok (.goto (-52), 3) := by decide +kernel
theorem dX11_isName_148 : decode cX11_isName 148 = .ok (.iload 5, 2) := by decide +kernel
theorem dX11_isName_150 : decode cX11_isName 150 = .ok (.ifCond .eq 5, 3) := by decide +kernel
theorem dX11_isName_153 : decode cX11_isName 153 = .ok (.iconst 0, 1) := by decide +kernel
theorem dX11_isName_154 : decode cX11_isName 154 = .ok (.ireturn, 1) := by decide +kernel
theorem dX11_isName_155 : decode cX11_isName 155 = .ok (.iinc 4 1, 3) := by decide +kernel
theorem dX11_isName_158 : decode cX11_isName 158 = .ok (.goto (-125), 3) := by decide +kernel
theorem dX11_isName_161 : decode cX11_isName 161 = .ok (.iconst 1, 1) := by decide +kernel
theorem dX11_isName_162 : decode cX11_isName 162 = .ok (.ireturn, 1) := by decide +kernel
theorem dX11_digits_0 : decode cX11_digits 0 = .ok (.iload_n 0, 1) := by decide +kernel
theorem dX11_digits_1 : decode cX11_digits 1 = .ok (.sipush 999, 3) := by decide +kernel
theorem dX11_digits_4 : decode cX11_digits 4 = .ok (.if_icmp .le 7, 3) := by decide +kernel
theorem dX11_digits_7 : decode cX11_digits 7 = .ok (.iconst 4, 1) := by decide +kernel
theorem dX11_digits_8 : decode cX11_digits 8 = .ok (.goto 24, 3) := by decide +kernel
theorem dX11_digits_11 : decode cX11_digits 11 = .ok (.iload_n 0, 1) := by decide +kernel
theorem dX11_digits_12 : decode cX11_digits 12 = .ok (.bipush 99, 2) := by decide +kernel
theorem dX11_digits_14 : decode cX11_digits 14 = .ok (.if_icmp .le 7, 3) := by decide +kernel
theorem dX11_digits_17 : decode cX11_digits 17 = .ok (.iconst 3, 1) := by decide +kernel
theorem dX11_digits_18 : decode cX11_digits 18 = .ok (.goto 14, 3) := by decide +kernel
theorem dX11_digits_21 : decode cX11_digits 21 = .ok (.iload_n 0, 1) := by decide +kernel
theorem dX11_digits_22 : decode cX11_digits 22 = .ok (.bipush 9, 2) := by decide +kernel
theorem dX11_digits_24 : decode cX11_digits 24 = .ok (.if_icmp .le 7, 3) := by decide +kernel
theorem dX11_digits_27 : decode cX11_digits 27 = .ok (.iconst 2, 1) := by decide +kernel
theorem dX11_digits_28 : decode cX11_digits 28 = .ok (.goto 4, 3) := by decide +kernel
theorem dX11_digits_31 : decode cX11_digits 31 = .ok (.iconst 1, 1) := by decide +kernel
theorem dX11_digits_32 : decode cX11_digits 32 = .ok (.ireturn, 1) := by decide +kernel
theorem dX11_digit_0 : decode cX11_digit 0 = .ok (.iload_n 0, 1) := by decide +kernel
theorem dX11_digit_1 : decode cX11_digit 1 = .ok (.istore_n 2, 1) := by decide +kernel
theorem dX11_digit_2 : decode cX11_digit 2 = .ok (.iload_n 0, 1) := by decide +kernel
theorem dX11_digit_3 : decode cX11_digit 3 = .ok (.invokestatic 110, 3) := by decide +kernel
theorem dX11_digit_6 : decode cX11_digit 6 = .ok (.iconst 1, 1) := by decide +kernel
theorem dX11_digit_7 : decode cX11_digit 7 = .ok (.isub, 1) := by decide +kernel
theorem dX11_digit_8 : decode cX11_digit 8 = .ok (.istore_n 3, 1) := by decide +kernel
theorem dX11_digit_9 : decode cX11_digit 9 = .ok (.iload_n 3, 1) := by decide +kernel
theorem dX11_digit_10 : decode cX11_digit 10 = .ok (.iload_n 1, 1) := by decide +kernel
theorem dX11_digit_11 : decode cX11_digit 11 = .ok (.if_icmp .le 14, 3) := by decide +kernel
theorem dX11_digit_14 : decode cX11_digit 14 = .ok (.iload_n 2, 1) := by decide +kernel
theorem dX11_digit_15 : decode cX11_digit 15 = .ok (.bipush 10, 2) := by decide +kernel
theorem dX11_digit_17 : decode cX11_digit 17 = .ok (.idiv, 1) := by decide +kernel
theorem dX11_digit_18 : decode cX11_digit 18 = .ok (.istore_n 2, 1) := by decide +kernel
theorem dX11_digit_19 : decode cX11_digit 19 = .ok (.iinc 3 (-1), 3) := by decide +kernel
theorem dX11_digit_22 : decode cX11_digit 22 = .ok (.goto (-13), 3) := by decide +kernel
theorem dX11_digit_25 : decode cX11_digit 25 = .ok (.bipush 48, 2) := by decide +kernel
theorem dX11_digit_27 : decode cX11_digit 27 = .ok (.iload_n 2, 1) := by decide +kernel
theorem dX11_digit_28 : decode cX11_digit 28 = .ok (.bipush 10, 2) := by decide +kernel
theorem dX11_digit_30 : decode cX11_digit 30 = .ok (.irem, 1) := by decide +kernel
theorem dX11_digit_31 : decode cX11_digit 31 = .ok (.iadd, 1) := by decide +kernel
theorem dX11_digit_32 : decode cX11_digit 32 = .ok (.ireturn, 1) := by decide +kernel
theorem dX11_isNumber_0 : decode cX11_isNumber 0 = .ok (.iload_n 2, 1) := by decide +kernel
theorem dX11_isNumber_1 : decode cX11_isNumber 1 = .ok (.iload_n 1, 1) := by decide +kernel
theorem dX11_isNumber_2 : decode cX11_isNumber 2 = .ok (.isub, 1) := by decide +kernel
theorem dX11_isNumber_3 : decode cX11_isNumber 3 = .ok (.iload_n 3, 1) := by decide +kernel
theorem dX11_isNumber_4 : decode cX11_isNumber 4 = .ok (.invokestatic 110, 3) := by decide +kernel
theorem dX11_isNumber_7 : decode cX11_isNumber 7 = .ok (.if_icmp .eq 5, 3) := by decide +kernel
theorem dX11_isNumber_10 : decode cX11_isNumber 10 = .ok (.iconst 0, 1) := by decide +kernel
theorem dX11_isNumber_11 : decode cX11_isNumber 11 = .ok (.ireturn, 1) := by decide +kernel
theorem dX11_isNumber_12 : decode cX11_isNumber 12 = .ok (.iconst 0, 1) := by decide +kernel
theorem dX11_isNumber_13 : decode cX11_isNumber 13 = .ok (.istore 4, 2) := by decide +kernel
theorem dX11_isNumber_15 : decode cX11_isNumber 15 = .ok (.iload 4, 2) := by decide +kernel
theorem dX11_isNumber_17 : decode cX11_isNumber 17 = .ok (.iload_n 2, 1) := by decide +kernel
theorem dX11_isNumber_18 : decode cX11_isNumber 18 = .ok (.iload_n 1, 1) := by decide +kernel
theorem dX11_isNumber_19 : decode cX11_isNumber 19 = .ok (.isub, 1) := by decide +kernel
theorem dX11_isNumber_20 : decode cX11_isNumber 20 = .ok (.if_icmp .ge 26, 3) := by decide +kernel
theorem dX11_isNumber_23 : decode cX11_isNumber 23 = .ok (.aload_n 0, 1) := by decide +kernel
theorem dX11_isNumber_24 : decode cX11_isNumber 24 = .ok (.iload_n 1, 1) := by decide +kernel
theorem dX11_isNumber_25 : decode cX11_isNumber 25 = .ok (.iload 4, 2) := by decide +kernel
theorem dX11_isNumber_27 : decode cX11_isNumber 27 = .ok (.iadd, 1) := by decide +kernel
theorem dX11_isNumber_28 : decode cX11_isNumber 28 = .ok (.iaload, 1) := by decide +kernel
theorem dX11_isNumber_29 : decode cX11_isNumber 29 = .ok (.iload_n 3, 1) := by decide +kernel
theorem dX11_isNumber_30 : decode cX11_isNumber 30 = .ok (.iload 4, 2) := by decide +kernel
theorem dX11_isNumber_32 : decode cX11_isNumber 32 = .ok (.invokestatic 114, 3) := by decide +kernel
theorem dX11_isNumber_35 : decode cX11_isNumber 35 = .ok (.if_icmp .eq 5, 3) := by decide +kernel
theorem dX11_isNumber_38 : decode cX11_isNumber 38 = .ok (.iconst 0, 1) := by decide +kernel
theorem dX11_isNumber_39 : decode cX11_isNumber 39 = .ok (.ireturn, 1) := by decide +kernel
theorem dX11_isNumber_40 : decode cX11_isNumber 40 = .ok (.iinc 4 1, 3) := by decide +kernel
theorem dX11_isNumber_43 : decode cX11_isNumber 43 = .ok (.goto (-28), 3) := by decide +kernel
theorem dX11_isNumber_46 : decode cX11_isNumber 46 = .ok (.iconst 1, 1) := by decide +kernel
theorem dX11_isNumber_47 : decode cX11_isNumber 47 = .ok (.ireturn, 1) := by decide +kernel
theorem dX11_value_0 : decode cX11_value 0 = .ok (.iload_n 3, 1) := by decide +kernel
theorem dX11_value_1 : decode cX11_value 1 = .ok (.iload_n 2, 1) := by decide +kernel
theorem dX11_value_2 : decode cX11_value 2 = .ok (.isub, 1) := by decide +kernel
theorem dX11_value_3 : decode cX11_value 3 = .ok (.istore 4, 2) := by decide +kernel
theorem dX11_value_5 : decode cX11_value 5 = .ok (.iload_n 1, 1) := by decide +kernel
theorem dX11_value_6 : decode cX11_value 6 = .ok (.bipush 16, 2) := by decide +kernel
theorem dX11_value_8 : decode cX11_value 8 = .ok (.if_icmp .eq 15, 3) := by decide +kernel
theorem dX11_value_11 : decode cX11_value 11 = .ok (.iload_n 1, 1) := by decide +kernel
theorem dX11_value_12 : decode cX11_value 12 = .ok (.bipush 18, 2) := by decide +kernel
theorem dX11_value_14 : decode cX11_value 14 = .ok (.if_icmp .eq 9, 3) := by decide +kernel
theorem dX11_value_17 : decode cX11_value 17 = .ok (.iload_n 1, 1) := by decide +kernel
theorem dX11_value_18 : decode cX11_value 18 = .ok (.bipush 8, 2) := by decide +kernel
theorem dX11_value_20 : decode cX11_value 20 = .ok (.if_icmp .ne 70, 3) := by decide +kernel
theorem dX11_value_23 : decode cX11_value 23 = .ok (.iload_n 1, 1) := by decide +kernel
theorem dX11_value_24 : decode cX11_value 24 = .ok (.bipush 16, 2) := by decide +kernel
theorem dX11_value_26 : decode cX11_value 26 = .ok (.if_icmp .ne 7, 3) := by decide +kernel
theorem dX11_value_29 : decode cX11_value 29 = .ok (.iconst 4, 1) := by decide +kernel
theorem dX11_value_30 : decode cX11_value 30 = .ok (.goto 15, 3) := by decide +kernel
theorem dX11_value_33 : decode cX11_value 33 = .ok (.iload_n 1, 1) := by decide +kernel
theorem dX11_value_34 : decode cX11_value 34 = .ok (.bipush 18, 2) := by decide +kernel
theorem dX11_value_36 : decode cX11_value 36 = .ok (.if_icmp .ne 8, 3) := by decide +kernel
theorem dX11_value_39 : decode cX11_value 39 = .ok (.bipush 8, 2) := by decide +kernel
theorem dX11_value_41 : decode cX11_value 41 = .ok (.goto 4, 3) := by decide +kernel
theorem dX11_value_44 : decode cX11_value 44 = .ok (.iconst 1, 1) := by decide +kernel
theorem dX11_value_45 : decode cX11_value 45 = .ok (.istore 5, 2) := by decide +kernel
theorem dX11_value_47 : decode cX11_value 47 = .ok (.iload 4, 2) := by decide +kernel
theorem dX11_value_49 : decode cX11_value 49 = .ok (.iload 5, 2) := by decide +kernel
theorem dX11_value_51 : decode cX11_value 51 = .ok (.if_icmp .ge 12, 3) := by decide +kernel
theorem dX11_value_54 : decode cX11_value 54 = .ok (.aload_n 0, 1) := by decide +kernel
theorem dX11_value_55 : decode cX11_value 55 = .ok (.iconst 1, 1) := by decide +kernel
theorem dX11_value_56 : decode cX11_value 56 = .ok (.iload_n 2, 1) := by decide +kernel
theorem dX11_value_57 : decode cX11_value 57 = .ok (.invokevirtual 71, 3) := by decide +kernel
theorem dX11_value_60 : decode cX11_value 60 = .ok (.goto 25, 3) := by decide +kernel
theorem dX11_value_63 : decode cX11_value 63 = .ok (.iload_n 1, 1) := by decide +kernel
theorem dX11_value_64 : decode cX11_value 64 = .ok (.bipush 8, 2) := by decide +kernel
theorem dX11_value_66 : decode cX11_value 66 = .ok (.if_icmp .ne 19, 3) := by decide +kernel
theorem dX11_value_69 : decode cX11_value 69 = .ok (.aload_n 0, 1) := by decide +kernel
theorem dX11_value_70 : decode cX11_value 70 = .ok (.getfield 26, 3) := by decide +kernel
theorem dX11_value_73 : decode cX11_value 73 = .ok (.iload_n 2, 1) := by decide +kernel
theorem dX11_value_74 : decode cX11_value 74 = .ok (.iaload, 1) := by decide +kernel
theorem dX11_value_75 : decode cX11_value 75 = .ok (.iconst 1, 1) := by decide +kernel
theorem dX11_value_76 : decode cX11_value 76 = .ok (.if_icmp .le 9, 3) := by decide +kernel
theorem dX11_value_79 : decode cX11_value 79 = .ok (.aload_n 0, 1) := by decide +kernel
theorem dX11_value_80 : decode cX11_value 80 = .ok (.iconst 5, 1) := by decide +kernel
theorem dX11_value_81 : decode cX11_value 81 = .ok (.iload_n 2, 1) := by decide +kernel
theorem dX11_value_82 : decode cX11_value 82 = .ok (.invokevirtual 71, 3) := by decide +kernel
theorem dX11_value_85 : decode cX11_value 85 = .ok (.iload_n 2, 1) := by decide +kernel
theorem dX11_value_86 : decode cX11_value 86 = .ok (.iload 5, 2) := by decide +kernel
theorem dX11_value_88 : decode cX11_value 88 = .ok (.iadd, 1) := by decide +kernel
theorem dX11_value_89 : decode cX11_value 89 = .ok (.ireturn, 1) := by decide +kernel
theorem dX11_value_90 : decode cX11_value 90 = .ok (.iload_n 1, 1) := by decide +kernel
theorem dX11_value_91 : decode cX11_value 91 = .ok (.iconst 2, 1) := by decide +kernel
theorem dX11_value_92 : decode cX11_value 92 = .ok (.if_icmp .ne 12, 3) := by decide +kernel
theorem dX11_value_95 : decode cX11_value 95 = .ok (.aload_n 0, 1) := by decide +kernel
theorem dX11_value_96 : decode cX11_value 96 = .ok (.iload_n 2, 1) := by decide +kernel
theorem dX11_value_97 : decode cX11_value 97 = .ok (.iload_n 3, 1) := by decide +kernel
theorem dX11_value_98 : decode cX11_value 98 = .ok (.invokevirtual 118, 3) := by decide +kernel
theorem dX11_value_101 : decode cX11_value 101 = .ok (.goto 4, 3) := by decide +kernel
theorem dX11_value_104 : decode cX11_value 104 = .ok (.iload_n 2, 1) := by decide +kernel
theorem dX11_value_105 : decode cX11_value 105 = .ok (.ireturn, 1) := by decide +kernel
theorem dX11_text_0 : decode cX11_text 0 = .ok (.iload_n 2, 1) := by decide +kernel
theorem dX11_text_1 : decode cX11_text 1 = .ok (.iload_n 1, 1) := by decide +kernel
theorem dX11_text_2 : decode cX11_text 2 = .ok (.isub, 1) := by decide +kernel
theorem dX11_text_3 : decode cX11_text 3 = .ok (.istore_n 3, 1) := by decide +kernel
theorem dX11_text_4 : decode cX11_text 4 = .ok (.iload_n 3, 1) := by decide +kernel
theorem dX11_text_5 : decode cX11_text 5 = .ok (.iconst 4, 1) := by decide +kernel
theorem dX11_text_6 : decode cX11_text 6 = .ok (.if_icmp .ge 11, 3) := by decide +kernel
theorem dX11_text_9 : decode cX11_text 9 = .ok (.aload_n 0, 1) := by decide +kernel
theorem dX11_text_10 : decode cX11_text 10 = .ok (.iconst 1, 1) := by decide +kernel
theorem dX11_text_11 : decode cX11_text 11 = .ok (.iload_n 1, 1) := by decide +kernel
theorem dX11_text_12 : decode cX11_text 12 = .ok (.invokevirtual 71, 3) := by decide +kernel
theorem dX11_text_15 : decode cX11_text 15 = .ok (.iload_n 1, 1) := by decide +kernel
theorem dX11_text_16 : decode cX11_text 16 = .ok (.ireturn, 1) := by decide +kernel
theorem dX11_text_17 : decode cX11_text 17 = .ok (.aload_n 0, 1) := by decide +kernel
theorem dX11_text_18 : decode cX11_text 18 = .ok (.iload_n 1, 1) := by decide +kernel
theorem dX11_text_19 : decode cX11_text 19 = .ok (.iconst 4, 1) := by decide +kernel
theorem dX11_text_20 : decode cX11_text 20 = .ok (.invokevirtual 75, 3) := by decide +kernel
theorem dX11_text_23 : decode cX11_text 23 = .ok (.lstore 4, 2) := by decide +kernel
theorem dX11_text_25 : decode cX11_text 25 = .ok (.lload 4, 2) := by decide +kernel
theorem dX11_text_27 : decode cX11_text 27 = .ok (.lconst 1, 1) := by decide +kernel
theorem dX11_text_28 : decode cX11_text 28 = .ok (.lcmp, 1) := by decide +kernel
theorem dX11_text_29 : decode cX11_text 29 = .ok (.ifCond .ge 13, 3) := by decide +kernel
theorem dX11_text_32 : decode cX11_text 32 = .ok (.aload_n 0, 1) := by decide +kernel
theorem dX11_text_33 : decode cX11_text 33 = .ok (.bipush 6, 2) := by decide +kernel
theorem dX11_text_35 : decode cX11_text 35 = .ok (.iload_n 1, 1) := by decide +kernel
theorem dX11_text_36 : decode cX11_text 36 = .ok (.invokevirtual 71, 3) := by decide +kernel
theorem dX11_text_39 : decode cX11_text 39 = .ok (.goto 19, 3) := by decide +kernel
theorem dX11_text_42 : decode cX11_text 42 = .ok (.lload 4, 2) := by decide +kernel
theorem dX11_text_44 : decode cX11_text 44 = .ok (.iload_n 3, 1) := by decide +kernel
theorem dX11_text_45 : decode cX11_text 45 = .ok (.iconst 4, 1) := by decide +kernel
theorem dX11_text_46 : decode cX11_text 46 = .ok (.isub, 1) := by decide +kernel
theorem dX11_text_47 : decode cX11_text 47 = .ok (.i2l, 1) := by decide +kernel
theorem dX11_text_48 : decode cX11_text 48 = .ok (.lcmp, 1) := by decide +kernel
theorem dX11_text_49 : decode cX11_text 49 = .ok (.ifCond .le 9, 3) := by decide +kernel
theorem dX11_text_52 : decode cX11_text 52 = .ok (.aload_n 0, 1) := by decide +kernel
theorem dX11_text_53 : decode cX11_text 53 = .ok (.iconst 1, 1) := by decide +kernel
theorem dX11_text_54 : decode cX11_text 54 = .ok (.iload_n 1, 1) := by decide +kernel
theorem dX11_text_55 : decode cX11_text 55 = .ok (.invokevirtual 71, 3) := by decide +kernel
theorem dX11_text_58 : decode cX11_text 58 = .ok (.aload_n 0, 1) := by decide +kernel
theorem dX11_text_59 : decode cX11_text 59 = .ok (.getfield 68, 3) := by decide +kernel
theorem dX11_text_62 : decode cX11_text 62 = .ok (.ifCond .eq 5, 3) := by decide +kernel
theorem dX11_text_65 : decode cX11_text 65 = .ok (.iload_n 1, 1) := by decide +kernel
theorem dX11_text_66 : decode cX11_text 66 = .ok (.ireturn, 1) := by decide +kernel
theorem dX11_text_67 : decode cX11_text 67 = .ok (.iload_n 1, 1) := by decide +kernel
theorem dX11_text_68 : decode cX11_text 68 = .ok (.iconst 4, 1) := by decide +kernel
theorem dX11_text_69 : decode cX11_text 69 = .ok (.iadd, 1) := by decide +kernel
theorem dX11_text_70 : decode cX11_text 70 = .ok (.lload 4, 2) := by decide +kernel
theorem dX11_text_72 : decode cX11_text 72 = .ok (.l2i, 1) := by decide +kernel
theorem dX11_text_73 : decode cX11_text 73 = .ok (.iadd, 1) := by decide +kernel
theorem dX11_text_74 : decode cX11_text 74 = .ok (.istore 6, 2) := by decide +kernel
theorem dX11_text_76 : decode cX11_text 76 = .ok (.aload_n 0, 1) := by decide +kernel
theorem dX11_text_77 : decode cX11_text 77 = .ok (.getfield 26, 3) := by decide +kernel
theorem dX11_text_80 : decode cX11_text 80 = .ok (.iload 6, 2) := by decide +kernel
theorem dX11_text_82 : decode cX11_text 82 = .ok (.iconst 1, 1) := by decide +kernel
theorem dX11_text_83 : decode cX11_text 83 = .ok (.isub, 1) := by decide +kernel
theorem dX11_text_84 : decode cX11_text 84 = .ok (.iaload, 1) := by decide +kernel
theorem dX11_text_85 : decode cX11_text 85 = .ok (.ifCond .eq 13, 3) := by decide +kernel
theorem dX11_text_88 : decode cX11_text 88 = .ok (.aload_n 0, 1) := by decide +kernel
theorem dX11_text_89 : decode cX11_text 89 = .ok (.bipush 6, 2) := by decide +kernel
theorem dX11_text_91 : decode cX11_text 91 = .ok (.iload 6, 2) := by decide +kernel
theorem dX11_text_93 : decode cX11_text 93 = .ok (.iconst 1, 1) := by decide +kernel
theorem dX11_text_94 : decode cX11_text 94 = .ok (.isub, 1) := by decide +kernel
theorem dX11_text_95 : decode cX11_text 95 = .ok (.invokevirtual 71, 3) := by decide +kernel
theorem dX11_text_98 : decode cX11_text 98 = .ok (.aload_n 0, 1) := by decide +kernel
theorem dX11_text_99 : decode cX11_text 99 = .ok (.getfield 26, 3) := by decide +kernel
theorem dX11_text_102 : decode cX11_text 102 = .ok (.iload_n 1, 1) := by decide +kernel
theorem dX11_text_103 : decode cX11_text 103 = .ok (.iconst 4, 1) := by decide +kernel
theorem dX11_text_104 : decode cX11_text 104 = .ok (.iadd, 1) := by decide +kernel
theorem dX11_text_105 : decode cX11_text 105 = .ok (.iload 6, 2) := by decide +kernel
theorem dX11_text_107 : decode cX11_text 107 = .ok (.iconst 1, 1) := by decide +kernel
theorem dX11_text_108 : decode cX11_text 108 = .ok (.isub, 1) := by decide +kernel
theorem dX11_text_109 : decode cX11_text 109 = .ok (.invokestatic 96, 3) := by decide +kernel
theorem dX11_text_112 : decode cX11_text 112 = .ok (.istore 7, 2) := by decide +kernel
theorem dX11_text_114 : decode cX11_text 114 = .ok (.iload 7, 2) := by decide +kernel
theorem dX11_text_116 : decode cX11_text 116 = .ok (.ifCond .lt 10, 3) := by decide +kernel
theorem dX11_text_119 : decode cX11_text 119 = .ok (.aload_n 0, 1) := by decide +kernel
theorem dX11_text_120 : decode cX11_text 120 = .ok (.iconst 4, 1) := by decide +kernel
theorem dX11_text_121 : decode cX11_text 121 = .ok (.iload 7, 2) := by decide +kernel
theorem dX11_text_123 : decode cX11_text 123 = .ok (.invokevirtual 71, 3) := by decide +kernel
theorem dX11_text_126 : decode cX11_text 126 = .ok (.iload 6, 2) := by decide +kernel
theorem dX11_text_128 : decode cX11_text 128 = .ok (.ireturn, 1) := by decide +kernel
theorem dX11_isDocument_0 : decode cX11_isDocument 0 = .ok (.iconst 0, 1) := by decide +kernel
theorem dX11_isDocument_1 : decode cX11_isDocument 1 = .ok (.istore_n 2, 1) := by decide +kernel
theorem dX11_isDocument_2 : decode cX11_isDocument 2 = .ok (.iload_n 2, 1) := by decide +kernel
theorem dX11_isDocument_3 : decode cX11_isDocument 3 = .ok (.iload_n 1, 1) := by decide +kernel
theorem dX11_isDocument_4 : decode cX11_isDocument 4 = .ok (.if_icmp .ge 25, 3) := by decide +kernel
theorem dX11_isDocument_7 : decode cX11_isDocument 7 = .ok (.aload_n 0, 1) := by decide +kernel
theorem dX11_isDocument_8 : decode cX11_isDocument 8 = .ok (.getfield 26, 3) := by decide +kernel
theorem dX11_isDocument_11 : decode cX11_isDocument 11 = .ok (.iload_n 2, 1) := by decide +kernel
theorem dX11_isDocument_12 : decode cX11_isDocument 12 = .ok (.aload_n 0, 1) := by decide +kernel
theorem dX11_isDocument_13 : decode cX11_isDocument 13 = .ok (.getfield 7, 3) := by decide +kernel
theorem dX11_isDocument_16 : decode cX11_isDocument 16 = .ok (.sipush 16000, 3) := by decide +kernel
theorem dX11_isDocument_19 : decode cX11_isDocument 19 = .ok (.iload_n 2, 1) := by decide +kernel
theorem dX11_isDocument_20 : decode cX11_isDocument 20 = .ok (.iadd, 1) := by decide +kernel
theorem dX11_isDocument_21 : decode cX11_isDocument 21 = .ok (.iaload, 1) := by decide +kernel
theorem dX11_isDocument_22 : decode cX11_isDocument 22 = .ok (.iastore, 1) := by decide +kernel
theorem dX11_isDocument_23 : decode cX11_isDocument 23 = .ok (.iinc 2 1, 3) := by decide +kernel
theorem dX11_isDocument_26 : decode cX11_isDocument 26 = .ok (.goto (-24), 3) := by decide +kernel
theorem dX11_isDocument_29 : decode cX11_isDocument 29 = .ok (.aload_n 0, 1) := by decide +kernel
theorem dX11_isDocument_30 : decode cX11_isDocument 30 = .ok (.iload_n 1, 1) := by decide +kernel
theorem dX11_isDocument_31 : decode cX11_isDocument 31 = .ok (.invokevirtual 121, 3) := by decide +kernel
theorem dX11_isDocument_34 : decode cX11_isDocument 34 = .ok (.aload_n 0, 1) := by decide +kernel
theorem dX11_isDocument_35 : decode cX11_isDocument 35 = .ok (.getfield 68, 3) := by decide +kernel
theorem dX11_isDocument_38 : decode cX11_isDocument 38 = .ok (.ifCond .ne 7, 3) := by decide +kernel
theorem dX11_isDocument_41 : decode cX11_isDocument 41 = .ok (.iconst 1, 1) := by decide +kernel
theorem dX11_isDocument_42 : decode cX11_isDocument 42 = .ok (.goto 4, 3) := by decide +kernel
theorem dX11_isDocument_45 : decode cX11_isDocument 45 = .ok (.iconst 0, 1) := by decide +kernel
theorem dX11_isDocument_46 : decode cX11_isDocument 46 = .ok (.ireturn, 1) := by decide +kernel
theorem dX11_whole_0 : decode cX11_whole 0 = .ok (.aload_n 0, 1) := by decide +kernel
theorem dX11_whole_1 : decode cX11_whole 1 = .ok (.getfield 7, 3) := by decide +kernel
theorem dX11_whole_4 : decode cX11_whole 4 = .ok (.iload_n 1, 1) := by decide +kernel
theorem dX11_whole_5 : decode cX11_whole 5 = .ok (.iaload, 1) := by decide +kernel
theorem dX11_whole_6 : decode cX11_whole 6 = .ok (.sipush 256, 3) := by decide +kernel
theorem dX11_whole_9 : decode cX11_whole 9 = .ok (.aload_n 0, 1) := by decide +kernel
theorem dX11_whole_10 : decode cX11_whole 10 = .ok (.getfield 7, 3) := by decide +kernel
theorem dX11_whole_13 : decode cX11_whole 13 = .ok (.iload_n 1, 1) := by decide +kernel
theorem dX11_whole_14 : decode cX11_whole 14 = .ok (.iconst 1, 1) := by decide +kernel
theorem dX11_whole_15 : decode cX11_whole 15 = .ok (.iadd, 1) := by decide +kernel
theorem dX11_whole_16 : decode cX11_whole 16 = .ok (.iaload, 1) := by decide +kernel
theorem dX11_whole_17 : decode cX11_whole 17 = .ok (.imul, 1) := by decide +kernel
theorem dX11_whole_18 : decode cX11_whole 18 = .ok (.iadd, 1) := by decide +kernel
theorem dX11_whole_19 : decode cX11_whole 19 = .ok (.ldc 60, 2) := by decide +kernel
theorem dX11_whole_21 : decode cX11_whole 21 = .ok (.aload_n 0, 1) := by decide +kernel
theorem dX11_whole_22 : decode cX11_whole 22 = .ok (.getfield 7, 3) := by decide +kernel
theorem dX11_whole_25 : decode cX11_whole 25 = .ok (.iload_n 1, 1) := by decide +kernel
theorem dX11_whole_26 : decode cX11_whole 26 = .ok (.iconst 2, 1) := by decide +kernel
theorem dX11_whole_27 : decode cX11_whole 27 = .ok (.iadd, 1) := by decide +kernel
theorem dX11_whole_28 : decode cX11_whole 28 = .ok (.iaload, 1) := by decide +kernel
theorem dX11_whole_29 : decode cX11_whole 29 = .ok (.imul, 1) := by decide +kernel
theorem dX11_whole_30 : decode cX11_whole 30 = .ok (.iadd, 1) := by decide +kernel
theorem dX11_whole_31 : decode cX11_whole 31 = .ok (.ldc 124, 2) := by decide +kernel
theorem dX11_whole_33 : decode cX11_whole 33 = .ok (.aload_n 0, 1) := by decide +kernel
theorem dX11_whole_34 : decode cX11_whole 34 = .ok (.getfield 7, 3) := by decide +kernel
theorem dX11_whole_37 : decode cX11_whole 37 = .ok (.iload_n 1, 1) := by decide +kernel
theorem dX11_whole_38 : decode cX11_whole 38 = .ok (.iconst 3, 1) := by decide +kernel
theorem dX11_whole_39 : decode cX11_whole 39 = .ok (.iadd, 1) := by decide +kernel
theorem dX11_whole_40 : decode cX11_whole 40 = .ok (.iaload, 1) := by decide +kernel
theorem dX11_whole_41 : decode cX11_whole 41 = .ok (.imul, 1) := by decide +kernel
theorem dX11_whole_42 : decode cX11_whole 42 = .ok (.iadd, 1) := by decide +kernel
theorem dX11_whole_43 : decode cX11_whole 43 = .ok (.ireturn, 1) := by decide +kernel
theorem dX11_nameEndOf_0 : decode cX11_nameEndOf 0 = .ok (.iload_n 1, 1) := by decide +kernel
theorem dX11_nameEndOf_1 : decode cX11_nameEndOf 1 = .ok (.iconst 1, 1) := by decide +kernel
theorem dX11_nameEndOf_2 : decode cX11_nameEndOf 2 = .ok (.iadd, 1) := by decide +kernel
theorem dX11_nameEndOf_3 : decode cX11_nameEndOf 3 = .ok (.istore_n 2, 1) := by decide +kernel
theorem dX11_nameEndOf_4 : decode cX11_nameEndOf 4 = .ok (.aload_n 0, 1) := by decide +kernel
theorem dX11_nameEndOf_5 : decode cX11_nameEndOf 5 = .ok (.getfield 7, 3) := by decide +kernel
theorem dX11_nameEndOf_8 : decode cX11_nameEndOf 8 = .ok (.iload_n 2, 1) := by decide +kernel
theorem dX11_nameEndOf_9 : decode cX11_nameEndOf 9 = .ok (.iaload, 1) := by decide +kernel
theorem dX11_nameEndOf_10 : decode cX11_nameEndOf 10 = .ok (.ifCond .eq 9, 3) := by decide +kernel
theorem dX11_nameEndOf_13 : decode cX11_nameEndOf 13 = .ok (.iinc 2 1, 3) := by decide +kernel
theorem dX11_nameEndOf_16 : decode cX11_nameEndOf 16 = .ok (.goto (-12), 3) := by decide +kernel
theorem dX11_nameEndOf_19 : decode cX11_nameEndOf 19 = .ok (.iload_n 2, 1) := by decide +kernel
theorem dX11_nameEndOf_20 : decode cX11_nameEndOf 20 = .ok (.ireturn, 1) := by decide +kernel
theorem dX11_valueOf_0 : decode cX11_valueOf 0 = .ok (.aload_n 0, 1) := by decide +kernel
theorem dX11_valueOf_1 : decode cX11_valueOf 1 = .ok (.iload_n 1, 1) := by decide +kernel
theorem dX11_valueOf_2 : decode cX11_valueOf 2 = .ok (.invokevirtual 125, 3) := by decide +kernel
theorem dX11_valueOf_5 : decode cX11_valueOf 5 = .ok (.iconst 1, 1) := by decide +kernel
theorem dX11_valueOf_6 : decode cX11_valueOf 6 = .ok (.iadd, 1) := by decide +kernel
theorem dX11_valueOf_7 : decode cX11_valueOf 7 = .ok (.ireturn, 1) := by decide +kernel
theorem dX11_lengthOf_0 : decode cX11_lengthOf 0 = .ok (.iload_n 1, 1) := by decide +kernel
theorem dX11_lengthOf_1 : decode cX11_lengthOf 1 = .ok (.tableswitch 104 2 18 #[90, 98, 98, 104, 104, 104, 88, 104, 104, 104, 104, 104, 104, 104, 83, 104, 85], 83) := by decide +kernel
theorem dX11_lengthOf_84 : decode cX11_lengthOf 84 = .ok (.iconst 4, 1) := by decide +kernel
theorem dX11_lengthOf_85 : decode cX11_lengthOf 85 = .ok (.ireturn, 1) := by decide +kernel
theorem dX11_lengthOf_86 : decode cX11_lengthOf 86 = .ok (.bipush 8, 2) := by decide +kernel
theorem dX11_lengthOf_88 : decode cX11_lengthOf 88 = .ok (.ireturn, 1) := by decide +kernel
theorem dX11_lengthOf_89 : decode cX11_lengthOf 89 = .ok (.iconst 1, 1) := by decide +kernel
theorem dX11_lengthOf_90 : decode cX11_lengthOf 90 = .ok (.ireturn, 1) := by decide +kernel
theorem dX11_lengthOf_91 : decode cX11_lengthOf 91 = .ok (.iconst 4, 1) := by decide +kernel
theorem dX11_lengthOf_92 : decode cX11_lengthOf 92 = .ok (.aload_n 0, 1) := by decide +kernel
theorem dX11_lengthOf_93 : decode cX11_lengthOf 93 = .ok (.iload_n 2, 1) := by decide +kernel
theorem dX11_lengthOf_94 : decode cX11_lengthOf 94 = .ok (.invokevirtual 128, 3) := by decide +kernel
theorem dX11_lengthOf_97 : decode cX11_lengthOf 97 = .ok (.iadd, 1) := by decide +kernel
theorem dX11_lengthOf_98 : decode cX11_lengthOf 98 = .ok (.ireturn, 1) := by decide +kernel
theorem dX11_lengthOf_99 : decode cX11_lengthOf 99 = .ok (.aload_n 0, 1) := by decide +kernel
theorem dX11_lengthOf_100 : decode cX11_lengthOf 100 = .ok (.iload_n 2, 1) := by decide +kernel
theorem dX11_lengthOf_101 : decode cX11_lengthOf 101 = .ok (.invokevirtual 128, 3) := by decide +kernel
theorem dX11_lengthOf_104 : decode cX11_lengthOf 104 = .ok (.ireturn, 1) := by decide +kernel
theorem dX11_lengthOf_105 : decode cX11_lengthOf 105 = .ok (.iconst 0, 1) := by decide +kernel
theorem dX11_lengthOf_106 : decode cX11_lengthOf 106 = .ok (.ireturn, 1) := by decide +kernel
theorem dX11_firstOf_0 : decode cX11_firstOf 0 = .ok (.aload_n 0, 1) := by decide +kernel
theorem dX11_firstOf_1 : decode cX11_firstOf 1 = .ok (.getfield 7, 3) := by decide +kernel
theorem dX11_firstOf_4 : decode cX11_firstOf 4 = .ok (.iload_n 1, 1) := by decide +kernel
theorem dX11_firstOf_5 : decode cX11_firstOf 5 = .ok (.iconst 4, 1) := by decide +kernel
theorem dX11_firstOf_6 : decode cX11_firstOf 6 = .ok (.iadd, 1) := by decide +kernel
theorem dX11_firstOf_7 : decode cX11_firstOf 7 = .ok (.iaload, 1) := by decide +kernel
theorem dX11_firstOf_8 : decode cX11_firstOf 8 = .ok (.ifCond .ne 7, 3) := by decide +kernel
theorem dX11_firstOf_11 : decode cX11_firstOf 11 = .ok (.iconst 0, 1) := by decide +kernel
theorem dX11_firstOf_12 : decode cX11_firstOf 12 = .ok (.goto 6, 3) := by decide +kernel
theorem dX11_firstOf_15 : decode cX11_firstOf 15 = .ok (.iload_n 1, 1) := by decide +kernel
theorem dX11_firstOf_16 : decode cX11_firstOf 16 = .ok (.iconst 4, 1) := by decide +kernel
theorem dX11_firstOf_17 : decode cX11_firstOf 17 = .ok (.iadd, 1) := by decide +kernel
theorem dX11_firstOf_18 : decode cX11_firstOf 18 = .ok (.ireturn, 1) := by decide +kernel
theorem dX11_nextOf_0 : decode cX11_nextOf 0 = .ok (.aload_n 0, 1) := by decide +kernel
theorem dX11_nextOf_1 : decode cX11_nextOf 1 = .ok (.iload_n 1, 1) := by decide +kernel
theorem dX11_nextOf_2 : decode cX11_nextOf 2 = .ok (.invokevirtual 131, 3) := by decide +kernel
theorem dX11_nextOf_5 : decode cX11_nextOf 5 = .ok (.istore_n 2, 1) := by decide +kernel
theorem dX11_nextOf_6 : decode cX11_nextOf 6 = .ok (.iload_n 2, 1) := by decide +kernel
theorem dX11_nextOf_7 : decode cX11_nextOf 7 = .ok (.aload_n 0, 1) := by decide +kernel
theorem dX11_nextOf_8 : decode cX11_nextOf 8 = .ok (.aload_n 0, 1) := by decide +kernel
theorem dX11_nextOf_9 : decode cX11_nextOf 9 = .ok (.getfield 7, 3) := by decide +kernel
theorem dX11_nextOf_12 : decode cX11_nextOf 12 = .ok (.iload_n 1, 1) := by decide +kernel
theorem dX11_nextOf_13 : decode cX11_nextOf 13 = .ok (.iaload, 1) := by decide +kernel
theorem dX11_nextOf_14 : decode cX11_nextOf 14 = .ok (.iload_n 2, 1) := by decide +kernel
theorem dX11_nextOf_15 : decode cX11_nextOf 15 = .ok (.invokevirtual 134, 3) := by decide +kernel
theorem dX11_nextOf_18 : decode cX11_nextOf 18 = .ok (.iadd, 1) := by decide +kernel
theorem dX11_nextOf_19 : decode cX11_nextOf 19 = .ok (.istore_n 3, 1) := by decide +kernel
theorem dX11_nextOf_20 : decode cX11_nextOf 20 = .ok (.aload_n 0, 1) := by decide +kernel
theorem dX11_nextOf_21 : decode cX11_nextOf 21 = .ok (.getfield 7, 3) := by decide +kernel
theorem dX11_nextOf_24 : decode cX11_nextOf 24 = .ok (.iload_n 3, 1) := by decide +kernel
theorem dX11_nextOf_25 : decode cX11_nextOf 25 = .ok (.iaload, 1) := by decide +kernel
theorem dX11_nextOf_26 : decode cX11_nextOf 26 = .ok (.ifCond .ne 7, 3) := by decide +kernel
theorem dX11_nextOf_29 : decode cX11_nextOf 29 = .ok (.iconst 0, 1) := by decide +kernel
theorem dX11_nextOf_30 : decode cX11_nextOf 30 = .ok (.goto 4, 3) := by decide +kernel
theorem dX11_nextOf_33 : decode cX11_nextOf 33 = .ok (.iload_n 3, 1) := by decide +kernel
theorem dX11_nextOf_34 : decode cX11_nextOf 34 = .ok (.ireturn, 1) := by decide +kernel
theorem dX11_countOf_0 : decode cX11_countOf 0 = .ok (.iconst 0, 1) := by decide +kernel
theorem dX11_countOf_1 : decode cX11_countOf 1 = .ok (.istore_n 2, 1) := by decide +kernel
theorem dX11_countOf_2 : decode cX11_countOf 2 = .ok (.aload_n 0, 1) := by decide +kernel
theorem dX11_countOf_3 : decode cX11_countOf 3 = .ok (.iload_n 1, 1) := by decide +kernel
theorem dX11_countOf_4 : decode cX11_countOf 4 = .ok (.invokevirtual 137, 3) := by decide +kernel
theorem dX11_countOf_7 : decode cX11_countOf 7 = .ok (.istore_n 3, 1) := by decide +kernel
theorem dX11_countOf_8 : decode cX11_countOf 8 = .ok (.iload_n 3, 1) := by decide +kernel
theorem dX11_countOf_9 : decode cX11_countOf 9 = .ok (.ifCond .le 15, 3) := by decide +kernel
theorem dX11_countOf_12 : decode cX11_countOf 12 = .ok (.iinc 2 1, 3) := by decide +kernel
theorem dX11_countOf_15 : decode cX11_countOf 15 = .ok (.aload_n 0, 1) := by decide +kernel
theorem dX11_countOf_16 : decode cX11_countOf 16 = .ok (.iload_n 3, 1) := by decide +kernel
theorem dX11_countOf_17 : decode cX11_countOf 17 = .ok (.invokevirtual 140, 3) := by decide +kernel
theorem dX11_countOf_20 : decode cX11_countOf 20 = .ok (.istore_n 3, 1) := by decide +kernel
theorem dX11_countOf_21 : decode cX11_countOf 21 = .ok (.goto (-13), 3) := by decide +kernel
theorem dX11_countOf_24 : decode cX11_countOf 24 = .ok (.iload_n 2, 1) := by decide +kernel
theorem dX11_countOf_25 : decode cX11_countOf 25 = .ok (.ireturn, 1) := by decide +kernel
theorem dX11_isNamed_0 : decode cX11_isNamed 0 = .ok (.lload_n 2, 1) := by decide +kernel
theorem dX11_isNamed_1 : decode cX11_isNamed 1 = .ok (.lstore 4, 2) := by decide +kernel
theorem dX11_isNamed_3 : decode cX11_isNamed 3 = .ok (.iload_n 1, 1) := by decide +kernel
theorem dX11_isNamed_4 : decode cX11_isNamed 4 = .ok (.iconst 1, 1) := by decide +kernel
theorem dX11_isNamed_5 : decode cX11_isNamed 5 = .ok (.iadd, 1) := by decide +kernel
theorem dX11_isNamed_6 : decode cX11_isNamed 6 = .ok (.istore 6, 2) := by decide +kernel
theorem dX11_isNamed_8 : decode cX11_isNamed 8 = .ok (.lload 4, 2) := by decide +kernel
theorem dX11_isNamed_10 : decode cX11_isNamed 10 = .ok (.lconst 0, 1) := by decide +kernel
theorem dX11_isNamed_11 : decode cX11_isNamed 11 = .ok (.lcmp, 1) := by decide +kernel
theorem dX11_isNamed_12 : decode cX11_isNamed 12 = .ok (.ifCond .le 33, 3) := by decide +kernel
theorem dX11_isNamed_15 : decode cX11_isNamed 15 = .ok (.aload_n 0, 1) := by decide +kernel
theorem dX11_isNamed_16 : decode cX11_isNamed 16 = .ok (.getfield 7, 3) := by decide +kernel
theorem dX11_isNamed_19 : decode cX11_isNamed 19 = .ok (.iload 6, 2) := by decide +kernel
theorem dX11_isNamed_21 : decode cX11_isNamed 21 = .ok (.iaload, 1) := by decide +kernel
theorem dX11_isNamed_22 : decode cX11_isNamed 22 = .ok (.lload 4, 2) := by decide +kernel
theorem dX11_isNamed_24 : decode cX11_isNamed 24 = .ok (.ldc2_w 143, 3) := by decide +kernel
theorem dX11_isNamed_27 : decode cX11_isNamed 27 = .ok (.land, 1) := by decide +kernel
theorem dX11_isNamed_28 : decode cX11_isNamed 28 = .ok (.l2i, 1) := by decide +kernel
theorem dX11_isNamed_29 : decode cX11_isNamed 29 = .ok (.if_icmp .ne 16, 3) := by decide +kernel
theorem dX11_isNamed_32 : decode cX11_isNamed 32 = .ok (.lload 4, 2) := by decide +kernel
theorem dX11_isNamed_34 : decode cX11_isNamed 34 = .ok (.bipush 8, 2) := by decide +kernel
theorem dX11_isNamed_36 : decode cX11_isNamed 36 = .ok (.lshr, 1) := by decide +kernel
theorem dX11_isNamed_37 : decode cX11_isNamed 37 = .ok (.lstore 4, 2) := by decide +kernel
theorem dX11_isNamed_39 : decode cX11_isNamed 39 = .ok (.iinc 6 1, 3) := by decide +kernel
theorem dX11_isNamed_42 : decode cX11_isNamed 42 = .ok (.goto (-34), 3) := by decide +kernel
theorem dX11_isNamed_45 : decode cX11_isNamed 45 = .ok (.lload 4, 2) := by decide +kernel
theorem dX11_isNamed_47 : decode cX11_isNamed 47 = .ok (.lconst 0, 1) := by decide +kernel
theorem dX11_isNamed_48 : decode cX11_isNamed 48 = .ok (.lcmp, 1) := by decide +kernel
theorem dX11_isNamed_49 : decode cX11_isNamed 49 = .ok (.ifCond .ne 17, 3) := by decide +kernel
theorem dX11_isNamed_52 : decode cX11_isNamed 52 = .ok (.aload_n 0, 1) := by decide +kernel
theorem dX11_isNamed_53 : decode cX11_isNamed 53 = .ok (.getfield 7, 3) := by decide +kernel
theorem dX11_isNamed_56 : decode cX11_isNamed 56 = .ok (.iload 6, 2) := by decide +kernel
theorem dX11_isNamed_58 : decode cX11_isNamed 58 = .ok (.iaload, 1) := by decide +kernel
theorem dX11_isNamed_59 : decode cX11_isNamed 59 = .ok (.ifCond .ne 7, 3) := by decide +kernel
theorem dX11_isNamed_62 : decode cX11_isNamed 62 = .ok (.iconst 1, 1) := by decide +kernel
theorem dX11_isNamed_63 : decode cX11_isNamed 63 = .ok (.goto 4, 3) := by decide +kernel
theorem dX11_isNamed_66 : decode cX11_isNamed 66 = .ok (.iconst 0, 1) := by decide +kernel
theorem dX11_isNamed_67 : decode cX11_isNamed 67 = .ok (.ireturn, 1) := by decide +kernel
theorem dX11_isDollar_0 : decode cX11_isDollar 0 = .ok (.aload_n 0, 1) := by decide +kernel
theorem dX11_isDollar_1 : decode cX11_isDollar 1 = .ok (.getfield 7, 3) := by decide +kernel
theorem dX11_isDollar_4 : decode cX11_isDollar 4 = .ok (.iload_n 1, 1) := by decide +kernel
theorem dX11_isDollar_5 : decode cX11_isDollar 5 = .ok (.iconst 1, 1) := by decide +kernel
theorem dX11_isDollar_6 : decode cX11_isDollar 6 = .ok (.iadd, 1) := by decide +kernel
theorem dX11_isDollar_7 : decode cX11_isDollar 7 = .ok (.iaload, 1) := by decide +kernel
theorem dX11_isDollar_8 : decode cX11_isDollar 8 = .ok (.bipush 36, 2) := by decide +kernel
theorem dX11_isDollar_10 : decode cX11_isDollar 10 = .ok (.if_icmp .ne 7, 3) := by decide +kernel
theorem dX11_isDollar_13 : decode cX11_isDollar 13 = .ok (.iconst 1, 1) := by decide +kernel
theorem dX11_isDollar_14 : decode cX11_isDollar 14 = .ok (.goto 4, 3) := by decide +kernel
theorem dX11_isDollar_17 : decode cX11_isDollar 17 = .ok (.iconst 0, 1) := by decide +kernel
theorem dX11_isDollar_18 : decode cX11_isDollar 18 = .ok (.ireturn, 1) := by decide +kernel
theorem dX11_isConditions_0 : decode cX11_isConditions 0 = .ok (.iload_n 1, 1) := by decide +kernel
theorem dX11_isConditions_1 : decode cX11_isConditions 1 = .ok (.iconst 3, 1) := by decide +kernel
theorem dX11_isConditions_2 : decode cX11_isConditions 2 = .ok (.if_icmp .ne 27, 3) := by decide +kernel
theorem dX11_isConditions_5 : decode cX11_isConditions 5 = .ok (.aload_n 0, 1) := by decide +kernel
theorem dX11_isConditions_6 : decode cX11_isConditions 6 = .ok (.iload_n 2, 1) := by decide +kernel
theorem dX11_isConditions_7 : decode cX11_isConditions 7 = .ok (.invokevirtual 137, 3) := by decide +kernel
theorem dX11_isConditions_10 : decode cX11_isConditions 10 = .ok (.ifCond .le 19, 3) := by decide +kernel
theorem dX11_isConditions_13 : decode cX11_isConditions 13 = .ok (.aload_n 0, 1) := by decide +kernel
theorem dX11_isConditions_14 : decode cX11_isConditions 14 = .ok (.aload_n 0, 1) := by decide +kernel
theorem dX11_isConditions_15 : decode cX11_isConditions 15 = .ok (.iload_n 2, 1) := by decide +kernel
theorem dX11_isConditions_16 : decode cX11_isConditions 16 = .ok (.invokevirtual 137, 3) := by decide +kernel
theorem dX11_isConditions_19 : decode cX11_isConditions 19 = .ok (.invokevirtual 145, 3) := by decide +kernel
theorem dX11_isConditions_22 : decode cX11_isConditions 22 = .ok (.ifCond .eq 7, 3) := by decide +kernel
theorem dX11_isConditions_25 : decode cX11_isConditions 25 = .ok (.iconst 1, 1) := by decide +kernel
theorem dX11_isConditions_26 : decode cX11_isConditions 26 = .ok (.goto 4, 3) := by decide +kernel
theorem dX11_isConditions_29 : decode cX11_isConditions 29 = .ok (.iconst 0, 1) := by decide +kernel
theorem dX11_isConditions_30 : decode cX11_isConditions 30 = .ok (.ireturn, 1) := by decide +kernel
theorem dX11_isAnd_0 : decode cX11_isAnd 0 = .ok (.aload_n 0, 1) := by decide +kernel
theorem dX11_isAnd_1 : decode cX11_isAnd 1 = .ok (.iload_n 1, 1) := by decide +kernel
theorem dX11_isAnd_2 : decode cX11_isAnd 2 = .ok (.ldc2_w 148, 3) := by decide +kernel
theorem dX11_isAnd_5 : decode cX11_isAnd 5 = .ok (.invokevirtual 150, 3) := by decide +kernel
theorem dX11_isAnd_8 : decode cX11_isAnd 8 = .ok (.ireturn, 1) := by decide +kernel
theorem dX11_isOr_0 : decode cX11_isOr 0 = .ok (.aload_n 0, 1) := by decide +kernel
theorem dX11_isOr_1 : decode cX11_isOr 1 = .ok (.iload_n 1, 1) := by decide +kernel
theorem dX11_isOr_2 : decode cX11_isOr 2 = .ok (.ldc2_w 154, 3) := by decide +kernel
theorem dX11_isOr_5 : decode cX11_isOr 5 = .ok (.invokevirtual 150, 3) := by decide +kernel
theorem dX11_isOr_8 : decode cX11_isOr 8 = .ok (.ireturn, 1) := by decide +kernel
theorem dX11_isNor_0 : decode cX11_isNor 0 = .ok (.aload_n 0, 1) := by decide +kernel
theorem dX11_isNor_1 : decode cX11_isNor 1 = .ok (.iload_n 1, 1) := by decide +kernel
theorem dX11_isNor_2 : decode cX11_isNor 2 = .ok (.ldc2_w 156, 3) := by decide +kernel
theorem dX11_isNor_5 : decode cX11_isNor 5 = .ok (.invokevirtual 150, 3) := by decide +kernel
theorem dX11_isNor_8 : decode cX11_isNor 8 = .ok (.ireturn, 1) := by decide +kernel
theorem dX11_isJoin_0 : decode cX11_isJoin 0 = .ok (.aload_n 0, 1) := by decide +kernel
theorem dX11_isJoin_1 : decode cX11_isJoin 1 = .ok (.iload_n 1, 1) := by decide +kernel
theorem dX11_isJoin_2 : decode cX11_isJoin 2 = .ok (.invokevirtual 158, 3) := by decide +kernel
theorem dX11_isJoin_5 : decode cX11_isJoin 5 = .ok (.ifCond .ne 19, 3) := by decide +kernel
theorem dX11_isJoin_8 : decode cX11_isJoin 8 = .ok (.aload_n 0, 1) := by decide +kernel
theorem dX11_isJoin_9 : decode cX11_isJoin 9 = .ok (.iload_n 1, 1) := by decide +kernel
theorem dX11_isJoin_10 : decode cX11_isJoin 10 = .ok (.invokevirtual 161, 3) := by decide +kernel
theorem dX11_isJoin_13 : decode cX11_isJoin 13 = .ok (.ifCond .ne 11, 3) := by decide +kernel
theorem dX11_isJoin_16 : decode cX11_isJoin 16 = .ok (.aload_n 0, 1) := by decide +kernel
theorem dX11_isJoin_17 : decode cX11_isJoin 17 = .ok (.iload_n 1, 1) := by decide +kernel
theorem dX11_isJoin_18 : decode cX11_isJoin 18 = .ok (.invokevirtual 164, 3) := by decide +kernel
theorem dX11_isJoin_21 : decode cX11_isJoin 21 = .ok (.ifCond .eq 7, 3) := by decide +kernel
theorem dX11_isJoin_24 : decode cX11_isJoin 24 = .ok (.iconst 1, 1) := by decide +kernel
theorem dX11_isJoin_25 : decode cX11_isJoin 25 = .ok (.goto 4, 3) := by decide +kernel
theorem dX11_isJoin_28 : decode cX11_isJoin 28 = .ok (.iconst 0, 1) := by decide +kernel
theorem dX11_isJoin_29 : decode cX11_isJoin 29 = .ok (.ireturn, 1) := by decide +kernel
theorem dX11_condition_0 : decode cX11_condition 0 = .ok (.aload_n 0, 1) := by decide +kernel
theorem dX11_condition_1 : decode cX11_condition 1 = .ok (.iload_n 1, 1) := by decide +kernel
theorem dX11_condition_2 : decode cX11_condition 2 = .ok (.ldc2_w 167, 3) := by decide +kernel
theorem dX11_condition_5 : decode cX11_condition 5 = .ok (.invokevirtual 150, 3) := by decide +kernel
theorem dX11_condition_8 : decode cX11_condition 8 = .ok (.ifCond .eq 5, 3) := by decide +kernel
theorem dX11_condition_11 : decode cX11_condition 11 = .ok (.iconst 1, 1) := by decide +kernel
theorem dX11_condition_12 : decode cX11_condition 12 = .ok (.ireturn, 1) := by decide +kernel
theorem dX11_condition_13 : decode cX11_condition 13 = .ok (.aload_n 0, 1) := by decide +kernel
theorem dX11_condition_14 : decode cX11_condition 14 = .ok (.iload_n 1, 1) := by decide +kernel
theorem dX11_condition_15 : decode cX11_condition 15 = .ok (.ldc2_w 169, 3) := by decide +kernel
theorem dX11_condition_18 : decode cX11_condition 18 = .ok (.invokevirtual 150, 3) := by decide +kernel
theorem dX11_condition_21 : decode cX11_condition 21 = .ok (.ifCond .eq 5, 3) := by decide +kernel
theorem dX11_condition_24 : decode cX11_condition 24 = .ok (.iconst 2, 1) := by decide +kernel
theorem dX11_condition_25 : decode cX11_condition 25 = .ok (.ireturn, 1) := by decide +kernel
theorem dX11_condition_26 : decode cX11_condition 26 = .ok (.aload_n 0, 1) := by decide +kernel
theorem dX11_condition_27 : decode cX11_condition 27 = .ok (.iload_n 1, 1) := by decide +kernel
theorem dX11_condition_28 : decode cX11_condition 28 = .ok (.ldc2_w 171, 3) := by decide +kernel
theorem dX11_condition_31 : decode cX11_condition 31 = .ok (.invokevirtual 150, 3) := by decide +kernel
theorem dX11_condition_34 : decode cX11_condition 34 = .ok (.ifCond .eq 5, 3) := by decide +kernel
theorem dX11_condition_37 : decode cX11_condition 37 = .ok (.iconst 3, 1) := by decide +kernel
theorem dX11_condition_38 : decode cX11_condition 38 = .ok (.ireturn, 1) := by decide +kernel
theorem dX11_condition_39 : decode cX11_condition 39 = .ok (.aload_n 0, 1) := by decide +kernel
theorem dX11_condition_40 : decode cX11_condition 40 = .ok (.iload_n 1, 1) := by decide +kernel
theorem dX11_condition_41 : decode cX11_condition 41 = .ok (.ldc2_w 173, 3) := by decide +kernel
theorem dX11_condition_44 : decode cX11_condition 44 = .ok (.invokevirtual 150, 3) := by decide +kernel
theorem dX11_condition_47 : decode cX11_condition 47 = .ok (.ifCond .eq 5, 3) := by decide +kernel
theorem dX11_condition_50 : decode cX11_condition 50 = .ok (.iconst 4, 1) := by decide +kernel
theorem dX11_condition_51 : decode cX11_condition 51 = .ok (.ireturn, 1) := by decide +kernel
theorem dX11_condition_52 : decode cX11_condition 52 = .ok (.aload_n 0, 1) := by decide +kernel
theorem dX11_condition_53 : decode cX11_condition 53 = .ok (.iload_n 1, 1) := by decide +kernel
theorem dX11_condition_54 : decode cX11_condition 54 = .ok (.ldc2_w 175, 3) := by decide +kernel
theorem dX11_condition_57 : decode cX11_condition 57 = .ok (.invokevirtual 150, 3) := by decide +kernel
theorem dX11_condition_60 : decode cX11_condition 60 = .ok (.ifCond .eq 5, 3) := by decide +kernel
theorem dX11_condition_63 : decode cX11_condition 63 = .ok (.iconst 5, 1) := by decide +kernel
theorem dX11_condition_64 : decode cX11_condition 64 = .ok (.ireturn, 1) := by decide +kernel
theorem dX11_condition_65 : decode cX11_condition 65 = .ok (.aload_n 0, 1) := by decide +kernel
theorem dX11_condition_66 : decode cX11_condition 66 = .ok (.iload_n 1, 1) := by decide +kernel
theorem dX11_condition_67 : decode cX11_condition 67 = .ok (.ldc2_w 177, 3) := by decide +kernel
theorem dX11_condition_70 : decode cX11_condition 70 = .ok (.invokevirtual 150, 3) := by decide +kernel
theorem dX11_condition_73 : decode cX11_condition 73 = .ok (.ifCond .eq 6, 3) := by decide +kernel
theorem dX11_condition_76 : decode cX11_condition 76 = .ok (.bipush 6, 2) := by decide +kernel
theorem dX11_condition_78 : decode cX11_condition 78 = .ok (.ireturn, 1) := by decide +kernel
theorem dX11_condition_79 : decode cX11_condition 79 = .ok (.aload_n 0, 1) := by decide +kernel
theorem dX11_condition_80 : decode cX11_condition 80 = .ok (.iload_n 1, 1) := by decide +kernel
theorem dX11_condition_81 : decode cX11_condition 81 = .ok (.ldc2_w 179, 3) := by decide +kernel
theorem dX11_condition_84 : decode cX11_condition 84 = .ok (.invokevirtual 150, 3) := by decide +kernel
theorem dX11_condition_87 : decode cX11_condition 87 = .ok (.ifCond .eq 6, 3) := by decide +kernel
theorem dX11_condition_90 : decode cX11_condition 90 = .ok (.bipush 7, 2) := by decide +kernel
theorem dX11_condition_92 : decode cX11_condition 92 = .ok (.ireturn, 1) := by decide +kernel
theorem dX11_condition_93 : decode cX11_condition 93 = .ok (.aload_n 0, 1) := by decide +kernel
theorem dX11_condition_94 : decode cX11_condition 94 = .ok (.iload_n 1, 1) := by decide +kernel
theorem dX11_condition_95 : decode cX11_condition 95 = .ok (.ldc2_w 181, 3) := by decide +kernel
theorem dX11_condition_98 : decode cX11_condition 98 = .ok (.invokevirtual 150, 3) := by decide +kernel
theorem dX11_condition_101 : decode cX11_condition 101 = .ok (.ifCond .eq 6, 3) := by decide +kernel
theorem dX11_condition_104 : decode cX11_condition 104 = .ok (.bipush 8, 2) := by decide +kernel
theorem dX11_condition_106 : decode cX11_condition 106 = .ok (.ireturn, 1) := by decide +kernel
theorem dX11_condition_107 : decode cX11_condition 107 = .ok (.aload_n 0, 1) := by decide +kernel
theorem dX11_condition_108 : decode cX11_condition 108 = .ok (.iload_n 1, 1) := by decide +kernel
theorem dX11_condition_109 : decode cX11_condition 109 = .ok (.ldc2_w 183, 3) := by decide +kernel
theorem dX11_condition_112 : decode cX11_condition 112 = .ok (.invokevirtual 150, 3) := by decide +kernel
theorem dX11_condition_115 : decode cX11_condition 115 = .ok (.ifCond .eq 6, 3) := by decide +kernel
theorem dX11_condition_118 : decode cX11_condition 118 = .ok (.bipush 9, 2) := by decide +kernel
theorem dX11_condition_120 : decode cX11_condition 120 = .ok (.ireturn, 1) := by decide +kernel
theorem dX11_condition_121 : decode cX11_condition 121 = .ok (.aload_n 0, 1) := by decide +kernel
theorem dX11_condition_122 : decode cX11_condition 122 = .ok (.iload_n 1, 1) := by decide +kernel
theorem dX11_condition_123 : decode cX11_condition 123 = .ok (.ldc2_w 185, 3) := by decide +kernel
theorem dX11_condition_126 : decode cX11_condition 126 = .ok (.invokevirtual 150, 3) := by decide +kernel
theorem dX11_condition_129 : decode cX11_condition 129 = .ok (.ifCond .eq 6, 3) := by decide +kernel
theorem dX11_condition_132 : decode cX11_condition 132 = .ok (.bipush 10, 2) := by decide +kernel
theorem dX11_condition_134 : decode cX11_condition 134 = .ok (.ireturn, 1) := by decide +kernel
theorem dX11_condition_135 : decode cX11_condition 135 = .ok (.aload_n 0, 1) := by decide +kernel
theorem dX11_condition_136 : decode cX11_condition 136 = .ok (.iload_n 1, 1) := by decide +kernel
theorem dX11_condition_137 : decode cX11_condition 137 = .ok (.ldc2_w 187, 3) := by decide +kernel
theorem dX11_condition_140 : decode cX11_condition 140 = .ok (.invokevirtual 150, 3) := by decide +kernel
theorem dX11_condition_143 : decode cX11_condition 143 = .ok (.ifCond .eq 6, 3) := by decide +kernel
theorem dX11_condition_146 : decode cX11_condition 146 = .ok (.bipush 11, 2) := by decide +kernel
theorem dX11_condition_148 : decode cX11_condition 148 = .ok (.ireturn, 1) := by decide +kernel
theorem dX11_condition_149 : decode cX11_condition 149 = .ok (.aload_n 0, 1) := by decide +kernel
theorem dX11_condition_150 : decode cX11_condition 150 = .ok (.iload_n 1, 1) := by decide +kernel
theorem dX11_condition_151 : decode cX11_condition 151 = .ok (.ldc2_w 189, 3) := by decide +kernel
theorem dX11_condition_154 : decode cX11_condition 154 = .ok (.invokevirtual 150, 3) := by decide +kernel
theorem dX11_condition_157 : decode cX11_condition 157 = .ok (.ifCond .eq 8, 3) := by decide +kernel
theorem dX11_condition_160 : decode cX11_condition 160 = .ok (.bipush 12, 2) := by decide +kernel
theorem dX11_condition_162 : decode cX11_condition 162 = .ok (.goto 4, 3) := by decide +kernel
theorem dX11_condition_165 : decode cX11_condition 165 = .ok (.iconst 0, 1) := by decide +kernel
theorem dX11_condition_166 : decode cX11_condition 166 = .ok (.ireturn, 1) := by decide +kernel
theorem dX11_say_0 : decode cX11_say 0 = .ok (.aload_n 0, 1) := by decide +kernel
theorem dX11_say_1 : decode cX11_say 1 = .ok (.getfield 191, 3) := by decide +kernel
theorem dX11_say_4 : decode cX11_say 4 = .ok (.ifCond .eq 4, 3) := by decide +kernel
theorem dX11_say_7 : decode cX11_say 7 = .ok (.return_, 1) := by decide +kernel
theorem dX11_say_8 : decode cX11_say 8 = .ok (.aload_n 0, 1) := by decide +kernel
theorem dX11_say_9 : decode cX11_say 9 = .ok (.iload_n 1, 1) := by decide +kernel
theorem dX11_say_10 : decode cX11_say 10 = .ok (.putfield 191, 3) := by decide +kernel
theorem dX11_say_13 : decode cX11_say 13 = .ok (.aload_n 0, 1) := by decide +kernel
theorem dX11_say_14 : decode cX11_say 14 = .ok (.iload_n 2, 1) := by decide +kernel
theorem dX11_say_15 : decode cX11_say 15 = .ok (.putfield 194, 3) := by decide +kernel
theorem dX11_say_18 : decode cX11_say 18 = .ok (.return_, 1) := by decide +kernel
theorem dX11_count_0 : decode cX11_count 0 = .ok (.aload_n 0, 1) := by decide +kernel
theorem dX11_count_1 : decode cX11_count 1 = .ok (.dup, 1) := by decide +kernel
theorem dX11_count_2 : decode cX11_count 2 = .ok (.getfield 197, 3) := by decide +kernel
theorem dX11_count_5 : decode cX11_count 5 = .ok (.iload_n 1, 1) := by decide +kernel
theorem dX11_count_6 : decode cX11_count 6 = .ok (.iadd, 1) := by decide +kernel
theorem dX11_count_7 : decode cX11_count 7 = .ok (.putfield 197, 3) := by decide +kernel
theorem dX11_count_10 : decode cX11_count 10 = .ok (.aload_n 0, 1) := by decide +kernel
theorem dX11_count_11 : decode cX11_count 11 = .ok (.getfield 197, 3) := by decide +kernel
theorem dX11_count_14 : decode cX11_count 14 = .ok (.bipush 100, 2) := by decide +kernel
theorem dX11_count_16 : decode cX11_count 16 = .ok (.if_icmp .le 9, 3) := by decide +kernel
theorem dX11_count_19 : decode cX11_count 19 = .ok (.aload_n 0, 1) := by decide +kernel
theorem dX11_count_20 : decode cX11_count 20 = .ok (.iconst 5, 1) := by decide +kernel
theorem dX11_count_21 : decode cX11_count 21 = .ok (.iload_n 2, 1) := by decide +kernel
theorem dX11_count_22 : decode cX11_count 22 = .ok (.invokevirtual 200, 3) := by decide +kernel
theorem dX11_count_25 : decode cX11_count 25 = .ok (.return_, 1) := by decide +kernel
theorem dX11_stepsOf_0 : decode cX11_stepsOf 0 = .ok (.iconst 1, 1) := by decide +kernel
theorem dX11_stepsOf_1 : decode cX11_stepsOf 1 = .ok (.istore_n 2, 1) := by decide +kernel
theorem dX11_stepsOf_2 : decode cX11_stepsOf 2 = .ok (.aload_n 0, 1) := by decide +kernel
theorem dX11_stepsOf_3 : decode cX11_stepsOf 3 = .ok (.iload_n 1, 1) := by decide +kernel
theorem dX11_stepsOf_4 : decode cX11_stepsOf 4 = .ok (.invokevirtual 125, 3) := by decide +kernel
theorem dX11_stepsOf_7 : decode cX11_stepsOf 7 = .ok (.istore_n 3, 1) := by decide +kernel
theorem dX11_stepsOf_8 : decode cX11_stepsOf 8 = .ok (.iconst 1, 1) := by decide +kernel
theorem dX11_stepsOf_9 : decode cX11_stepsOf 9 = .ok (.istore 4, 2) := by decide +kernel
theorem dX11_stepsOf_11 : decode cX11_stepsOf 11 = .ok (.iload_n 1, 1) := by decide +kernel
theorem dX11_stepsOf_12 : decode cX11_stepsOf 12 = .ok (.iconst 1, 1) := by decide +kernel
theorem dX11_stepsOf_13 : decode cX11_stepsOf 13 = .ok (.iadd, 1) := by decide +kernel
theorem dX11_stepsOf_14 : decode cX11_stepsOf 14 = .ok (.istore 5, 2) := by decide +kernel
theorem dX11_stepsOf_16 : decode cX11_stepsOf 16 = .ok (.iload 5, 2) := by decide +kernel
theorem dX11_stepsOf_18 : decode cX11_stepsOf 18 = .ok (.iload_n 3, 1) := by decide +kernel
theorem dX11_stepsOf_19 : decode cX11_stepsOf 19 = .ok (.if_icmp .gt 100, 3) := by decide +kernel
theorem dX11_stepsOf_22 : decode cX11_stepsOf 22 = .ok (.iload 5, 2) := by decide +kernel
theorem dX11_stepsOf_24 : decode cX11_stepsOf 24 = .ok (.iload_n 1, 1) := by decide +kernel
theorem dX11_stepsOf_25 : decode cX11_stepsOf 25 = .ok (.iconst 1, 1) := by decide +kernel
theorem dX11_stepsOf_26 : decode cX11_stepsOf 26 = .ok (.iadd, 1) := by decide +kernel
theorem dX11_stepsOf_27 : decode cX11_stepsOf 27 = .ok (.if_icmp .eq 17, 3) := by decide +kernel
theorem dX11_stepsOf_30 : decode cX11_stepsOf 30 = .ok (.aload_n 0, 1) := by decide +kernel
theorem dX11_stepsOf_31 : decode cX11_stepsOf 31 = .ok (.getfield 7, 3) := by decide +kernel
theorem dX11_stepsOf_34 : decode cX11_stepsOf 34 = .ok (.iload 5, 2) := by decide +kernel
theorem dX11_stepsOf_36 : decode cX11_stepsOf 36 = .ok (.iconst 1, 1) := by decide +kernel
theorem dX11_stepsOf_37 : decode cX11_stepsOf 37 = .ok (.isub, 1) := by decide +kernel
theorem dX11_stepsOf_38 : decode cX11_stepsOf 38 = .ok (.iaload, 1) := by decide +kernel
theorem dX11_stepsOf_39 : decode cX11_stepsOf 39 = .ok (.bipush 46, 2) := by decide +kernel
theorem dX11_stepsOf_41 : decode cX11_stepsOf 41 = .ok (.if_icmp .ne 7, 3) := by decide +kernel
theorem dX11_stepsOf_44 : decode cX11_stepsOf 44 = .ok (.iconst 1, 1) := by decide +kernel
theorem dX11_stepsOf_45 : decode cX11_stepsOf 45 = .ok (.goto 4, 3) := by decide +kernel
theorem dX11_stepsOf_48 : decode cX11_stepsOf 48 = .ok (.iconst 0, 1) := by decide +kernel
theorem dX11_stepsOf_49 : decode cX11_stepsOf 49 = .ok (.istore 6, 2) := by decide +kernel
theorem dX11_stepsOf_51 : decode cX11_stepsOf 51 = .ok (.iload 6, 2) := by decide +kernel
theorem dX11_stepsOf_53 : decode cX11_stepsOf 53 = .ok (.ifCond .eq 40, 3) := by decide +kernel
theorem dX11_stepsOf_56 : decode cX11_stepsOf 56 = .ok (.aload_n 0, 1) := by decide +kernel
theorem dX11_stepsOf_57 : decode cX11_stepsOf 57 = .ok (.getfield 7, 3) := by decide +kernel
theorem dX11_stepsOf_60 : decode cX11_stepsOf 60 = .ok (.iload 5, 2) := by decide +kernel
theorem dX11_stepsOf_62 : decode cX11_stepsOf 62 = .ok (.iaload, 1) := by decide +kernel
theorem dX11_stepsOf_63 : decode cX11_stepsOf 63 = .ok (.ifCond .eq 27, 3) := by decide +kernel
theorem dX11_stepsOf_66 : decode cX11_stepsOf 66 = .ok (.aload_n 0, 1) := by decide +kernel
theorem dX11_stepsOf_67 : decode cX11_stepsOf 67 = .ok (.getfield 7, 3) := by decide +kernel
theorem dX11_stepsOf_70 : decode cX11_stepsOf 70 = .ok (.iload 5, 2) := by decide +kernel
theorem dX11_stepsOf_72 : decode cX11_stepsOf 72 = .ok (.iaload, 1) := by decide +kernel
theorem dX11_stepsOf_73 : decode cX11_stepsOf 73 = .ok (.bipush 46, 2) := by decide +kernel
theorem dX11_stepsOf_75 : decode cX11_stepsOf 75 = .ok (.if_icmp .eq 15, 3) := by decide +kernel
theorem dX11_stepsOf_78 : decode cX11_stepsOf 78 = .ok (.aload_n 0, 1) := by decide +kernel
theorem dX11_stepsOf_79 : decode cX11_stepsOf 79 = .ok (.getfield 7, 3) := by decide +kernel
theorem dX11_stepsOf_82 : decode cX11_stepsOf 82 = .ok (.iload 5, 2) := by decide +kernel
theorem dX11_stepsOf_84 : decode cX11_stepsOf 84 = .ok (.iaload, 1) := by decide +kernel
theorem dX11_stepsOf_85 : decode cX11_stepsOf 85 = .ok (.bipush 36, 2) := by decide +kernel
theorem dX11_stepsOf_87 : decode cX11_stepsOf 87 = .ok (.if_icmp .ne 6, 3) := by decide +kernel
theorem dX11_stepsOf_90 : decode cX11_stepsOf 90 = .ok (.iconst 0, 1) := by decide +kernel
theorem dX11_stepsOf_91 : decode cX11_stepsOf 91 = .ok (.istore 4, 2) := by decide +kernel
theorem dX11_stepsOf_93 : decode cX11_stepsOf 93 = .ok (.iload_n 2, 1) := by decide +kernel
theorem dX11_stepsOf_94 : decode cX11_stepsOf 94 = .ok (.aload_n 0, 1) := by decide +kernel
theorem dX11_stepsOf_95 : decode cX11_stepsOf 95 = .ok (.getfield 7, 3) := by decide +kernel
theorem dX11_stepsOf_98 : decode cX11_stepsOf 98 = .ok (.iload 5, 2) := by decide +kernel
theorem dX11_stepsOf_100 : decode cX11_stepsOf 100 = .ok (.iaload, 1) := by decide +kernel
theorem dX11_stepsOf_101 : decode cX11_stepsOf 101 = .ok (.bipush 46, 2) := by decide +kernel
theorem dX11_stepsOf_103 : decode cX11_stepsOf 103 = .ok (.if_icmp .ne 7, 3) := by decide +kernel
theorem dX11_stepsOf_106 : decode cX11_stepsOf 106 = .ok (.iconst 1, 1) := by decide +kernel
theorem dX11_stepsOf_107 : decode cX11_stepsOf 107 = .ok (.goto 4, 3) := by decide +kernel
theorem dX11_stepsOf_110 : decode cX11_stepsOf 110 = .ok (.iconst 0, 1) := by decide +kernel
theorem dX11_stepsOf_111 : decode cX11_stepsOf 111 = .ok (.iadd, 1) := by decide +kernel
theorem dX11_stepsOf_112 : decode cX11_stepsOf 112 = .ok (.istore_n 2, 1) := by decide +kernel
theorem dX11_stepsOf_113 : decode cX11_stepsOf 113 = .ok (.iinc 5 1, 3) := by decide +kernel
theorem dX11_stepsOf_116 : decode cX11_stepsOf 116 = .ok (.goto (-100), 3) := by decide +kernel
theorem dX11_stepsOf_119 : decode cX11_stepsOf 119 = .ok (.iload 4, 2) := by decide +kernel
theorem dX11_stepsOf_121 : decode cX11_stepsOf 121 = .ok (.ifCond .eq 13, 3) := by decide +kernel
theorem dX11_stepsOf_124 : decode cX11_stepsOf 124 = .ok (.iload_n 2, 1) := by decide +kernel
theorem dX11_stepsOf_125 : decode cX11_stepsOf 125 = .ok (.bipush 9, 2) := by decide +kernel
theorem dX11_stepsOf_127 : decode cX11_stepsOf 127 = .ok (.if_icmp .ge 7, 3) := by decide +kernel
theorem dX11_stepsOf_130 : decode cX11_stepsOf 130 = .ok (.iload_n 2, 1) := by decide +kernel
theorem dX11_stepsOf_131 : decode cX11_stepsOf 131 = .ok (.goto 4, 3) := by decide +kernel
theorem dX11_stepsOf_134 : decode cX11_stepsOf 134 = .ok (.iconst 0, 1) := by decide +kernel
theorem dX11_stepsOf_135 : decode cX11_stepsOf 135 = .ok (.ireturn, 1) := by decide +kernel
theorem dX11_checkFilter_0 : decode cX11_checkFilter 0 = .ok (.aload_n 0, 1) := by decide +kernel
theorem dX11_checkFilter_1 : decode cX11_checkFilter 1 = .ok (.iload_n 1, 1) := by decide +kernel
theorem dX11_checkFilter_2 : decode cX11_checkFilter 2 = .ok (.invokevirtual 137, 3) := by decide +kernel
theorem dX11_checkFilter_5 : decode cX11_checkFilter 5 = .ok (.istore_n 2, 1) := by decide +kernel
theorem dX11_checkFilter_6 : decode cX11_checkFilter 6 = .ok (.iload_n 2, 1) := by decide +kernel
theorem dX11_checkFilter_7 : decode cX11_checkFilter 7 = .ok (.ifCond .le 40, 3) := by decide +kernel
theorem dX11_checkFilter_10 : decode cX11_checkFilter 10 = .ok (.aload_n 0, 1) := by decide +kernel
theorem dX11_checkFilter_11 : decode cX11_checkFilter 11 = .ok (.getfield 191, 3) := by decide +kernel
theorem dX11_checkFilter_14 : decode cX11_checkFilter 14 = .ok (.ifCond .ne 33, 3) := by decide +kernel
theorem dX11_checkFilter_17 : decode cX11_checkFilter 17 = .ok (.aload_n 0, 1) := by decide +kernel
theorem dX11_checkFilter_18 : decode cX11_checkFilter 18 = .ok (.iload_n 2, 1) := by decide +kernel
theorem dX11_checkFilter_19 : decode cX11_checkFilter 19 = .ok (.invokevirtual 145, 3) := by decide +kernel
theorem dX11_checkFilter_22 : decode cX11_checkFilter 22 = .ok (.ifCond .eq 11, 3) := by decide +kernel
theorem dX11_checkFilter_25 : decode cX11_checkFilter 25 = .ok (.aload_n 0, 1) := by decide +kernel
theorem dX11_checkFilter_26 : decode cX11_checkFilter 26 = .ok (.iload_n 2, 1) := by decide +kernel
theorem dX11_checkFilter_27 : decode cX11_checkFilter 27 = .ok (.invokevirtual 203, 3) := by decide +kernel
theorem dX11_checkFilter_30 : decode cX11_checkFilter 30 = .ok (.goto 8, 3) := by decide +kernel
theorem dX11_checkFilter_33 : decode cX11_checkFilter 33 = .ok (.aload_n 0, 1) := by decide +kernel
theorem dX11_checkFilter_34 : decode cX11_checkFilter 34 = .ok (.iload_n 2, 1) := by decide +kernel
theorem dX11_checkFilter_35 : decode cX11_checkFilter 35 = .ok (.invokevirtual 206, 3) := by decide +kernel
theorem dX11_checkFilter_38 : decode cX11_checkFilter 38 = .ok (.aload_n 0, 1) := by decide +kernel
theorem dX11_checkFilter_39 : decode cX11_checkFilter 39 = .ok (.iload_n 2, 1) := by decide +kernel
theorem dX11_checkFilter_40 : decode cX11_checkFilter 40 = .ok (.invokevirtual 140, 3) := by decide +kernel
theorem dX11_checkFilter_43 : decode cX11_checkFilter 43 = .ok (.istore_n 2, 1) := by decide +kernel
theorem dX11_checkFilter_44 : decode cX11_checkFilter 44 = .ok (.goto (-38), 3) := by decide +kernel
theorem dX11_checkFilter_47 : decode cX11_checkFilter 47 = .ok (.return_, 1) := by decide +kernel
theorem dX11_checkJoin_0 : decode cX11_checkJoin 0 = .ok (.aload_n 0, 1) := by decide +kernel
theorem dX11_checkJoin_1 : decode cX11_checkJoin 1 = .ok (.iload_n 1, 1) := by decide +kernel
theorem dX11_checkJoin_2 : decode cX11_checkJoin 2 = .ok (.invokevirtual 209, 3) := by decide +kernel
theorem dX11_checkJoin_5 : decode cX11_checkJoin 5 = .ok (.ifCond .ne 10, 3) := by decide +kernel
theorem dX11_checkJoin_8 : decode cX11_checkJoin 8 = .ok (.aload_n 0, 1) := by decide +kernel
theorem dX11_checkJoin_9 : decode cX11_checkJoin 9 = .ok (.iconst 1, 1) := by decide +kernel
theorem dX11_checkJoin_10 : decode cX11_checkJoin 10 = .ok (.iload_n 1, 1) := by decide +kernel
theorem dX11_checkJoin_11 : decode cX11_checkJoin 11 = .ok (.invokevirtual 200, 3) := by decide +kernel
theorem dX11_checkJoin_14 : decode cX11_checkJoin 14 = .ok (.return_, 1) := by decide +kernel
theorem dX11_checkJoin_15 : decode cX11_checkJoin 15 = .ok (.aload_n 0, 1) := by decide +kernel
theorem dX11_checkJoin_16 : decode cX11_checkJoin 16 = .ok (.getfield 7, 3) := by decide +kernel
theorem dX11_checkJoin_19 : decode cX11_checkJoin 19 = .ok (.iload_n 1, 1) := by decide +kernel
theorem dX11_checkJoin_20 : decode cX11_checkJoin 20 = .ok (.iaload, 1) := by decide +kernel
theorem dX11_checkJoin_21 : decode cX11_checkJoin 21 = .ok (.iconst 4, 1) := by decide +kernel
theorem dX11_checkJoin_22 : decode cX11_checkJoin 22 = .ok (.if_icmp .ne 15, 3) := by decide +kernel
theorem dX11_checkJoin_25 : decode cX11_checkJoin 25 = .ok (.aload_n 0, 1) := by decide +kernel
theorem dX11_checkJoin_26 : decode cX11_checkJoin 26 = .ok (.aload_n 0, 1) := by decide +kernel
theorem dX11_checkJoin_27 : decode cX11_checkJoin 27 = .ok (.iload_n 1, 1) := by decide +kernel
theorem dX11_checkJoin_28 : decode cX11_checkJoin 28 = .ok (.invokevirtual 131, 3) := by decide +kernel
theorem dX11_checkJoin_31 : decode cX11_checkJoin 31 = .ok (.invokevirtual 137, 3) := by decide +kernel
theorem dX11_checkJoin_34 : decode cX11_checkJoin 34 = .ok (.ifCond .ne 9, 3) := by decide +kernel
theorem dX11_checkJoin_37 : decode cX11_checkJoin 37 = .ok (.aload_n 0, 1) := by decide +kernel
theorem dX11_checkJoin_38 : decode cX11_checkJoin 38 = .ok (.iconst 2, 1) := by decide +kernel
theorem dX11_checkJoin_39 : decode cX11_checkJoin 39 = .ok (.iload_n 1, 1) := by decide +kernel
theorem dX11_checkJoin_40 : decode cX11_checkJoin 40 = .ok (.invokevirtual 200, 3) := by decide +kernel
theorem dX11_checkJoin_43 : decode cX11_checkJoin 43 = .ok (.aload_n 0, 1) := by decide +kernel
theorem dX11_checkJoin_44 : decode cX11_checkJoin 44 = .ok (.iconst 1, 1) := by decide +kernel
theorem dX11_checkJoin_45 : decode cX11_checkJoin 45 = .ok (.iload_n 1, 1) := by decide +kernel
theorem dX11_checkJoin_46 : decode cX11_checkJoin 46 = .ok (.invokevirtual 212, 3) := by decide +kernel
theorem dX11_checkJoin_49 : decode cX11_checkJoin 49 = .ok (.aload_n 0, 1) := by decide +kernel
theorem dX11_checkJoin_50 : decode cX11_checkJoin 50 = .ok (.getfield 191, 3) := by decide +kernel
theorem dX11_checkJoin_53 : decode cX11_checkJoin 53 = .ok (.ifCond .eq 4, 3) := by decide +kernel
theorem dX11_checkJoin_56 : decode cX11_checkJoin 56 = .ok (.return_, 1) := by decide +kernel
theorem dX11_checkJoin_57 : decode cX11_checkJoin 57 = .ok (.aload_n 0, 1) := by decide +kernel
theorem dX11_checkJoin_58 : decode cX11_checkJoin 58 = .ok (.aload_n 0, 1) := by decide +kernel
theorem dX11_checkJoin_59 : decode cX11_checkJoin 59 = .ok (.iload_n 1, 1) := by decide +kernel
theorem dX11_checkJoin_60 : decode cX11_checkJoin 60 = .ok (.invokevirtual 131, 3) := by decide +kernel
theorem dX11_checkJoin_63 : decode cX11_checkJoin 63 = .ok (.invokevirtual 137, 3) := by decide +kernel
theorem dX11_checkJoin_66 : decode cX11_checkJoin 66 = .ok (.istore_n 2, 1) := by decide +kernel
theorem dX11_checkJoin_67 : decode cX11_checkJoin 67 = .ok (.iload_n 2, 1) := by decide +kernel
theorem dX11_checkJoin_68 : decode cX11_checkJoin 68 = .ok (.ifCond .le 47, 3) := by decide +kernel
theorem dX11_checkJoin_71 : decode cX11_checkJoin 71 = .ok (.aload_n 0, 1) := by decide +kernel
theorem dX11_checkJoin_72 : decode cX11_checkJoin 72 = .ok (.getfield 191, 3) := by decide +kernel
theorem dX11_checkJoin_75 : decode cX11_checkJoin 75 = .ok (.ifCond .ne 40, 3) := by decide +kernel
theorem dX11_checkJoin_78 : decode cX11_checkJoin 78 = .ok (.aload_n 0, 1) := by decide +kernel
theorem dX11_checkJoin_79 : decode cX11_checkJoin 79 = .ok (.getfield 7, 3) := by decide +kernel
theorem dX11_checkJoin_82 : decode cX11_checkJoin 82 = .ok (.iload_n 2, 1) := by decide +kernel
theorem dX11_checkJoin_83 : decode cX11_checkJoin 83 = .ok (.iaload, 1) := by decide +kernel
theorem dX11_checkJoin_84 : decode cX11_checkJoin 84 = .ok (.iconst 3, 1) := by decide +kernel
theorem dX11_checkJoin_85 : decode cX11_checkJoin 85 = .ok (.if_icmp .eq 12, 3) := by decide +kernel
theorem dX11_checkJoin_88 : decode cX11_checkJoin 88 = .ok (.aload_n 0, 1) := by decide +kernel
theorem dX11_checkJoin_89 : decode cX11_checkJoin 89 = .ok (.iconst 2, 1) := by decide +kernel
theorem dX11_checkJoin_90 : decode cX11_checkJoin 90 = .ok (.iload_n 2, 1) := by decide +kernel
theorem dX11_checkJoin_91 : decode cX11_checkJoin 91 = .ok (.invokevirtual 200, 3) := by decide +kernel
theorem dX11_checkJoin_94 : decode cX11_checkJoin 94 = .ok (.goto 12, 3) := by decide +kernel
theorem dX11_checkJoin_97 : decode cX11_checkJoin 97 = .ok (.aload_n 0, 1) := by decide +kernel
theorem dX11_checkJoin_98 : decode cX11_checkJoin 98 = .ok (.aload_n 0, 1) := by decide +kernel
theorem dX11_checkJoin_99 : decode cX11_checkJoin 99 = .ok (.iload_n 2, 1) := by decide +kernel
theorem dX11_checkJoin_100 : decode cX11_checkJoin 100 = .ok (.invokevirtual 131, 3) := by decide +kernel
theorem dX11_checkJoin_103 : decode cX11_checkJoin 103 = .ok (.invokevirtual 215, 3) := by decide +kernel
theorem dX11_checkJoin_106 : decode cX11_checkJoin 106 = .ok (.aload_n 0, 1) := by decide +kernel
theorem dX11_checkJoin_107 : decode cX11_checkJoin 107 = .ok (.iload_n 2, 1) := by decide +kernel
theorem dX11_checkJoin_108 : decode cX11_checkJoin 108 = .ok (.invokevirtual 140, 3) := by decide +kernel
theorem dX11_checkJoin_111 : decode cX11_checkJoin 111 = .ok (.istore_n 2, 1) := by decide +kernel
theorem dX11_checkJoin_112 : decode cX11_checkJoin 112 = .ok (.goto (-45), 3) := by decide +kernel
theorem dX11_checkJoin_115 : decode cX11_checkJoin 115 = .ok (.return_, 1) := by decide +kernel
theorem dX11_checkPath_0 : decode cX11_checkPath 0 = .ok (.aload_n 0, 1) := by decide +kernel
theorem dX11_checkPath_1 : decode cX11_checkPath 1 = .ok (.iload_n 1, 1) := by decide +kernel
theorem dX11_checkPath_2 : decode cX11_checkPath 2 = .ok (.invokevirtual 218, 3) := by decide +kernel
theorem dX11_checkPath_5 : decode cX11_checkPath 5 = .ok (.istore_n 2, 1) := by decide +kernel
theorem dX11_checkPath_6 : decode cX11_checkPath 6 = .ok (.iload_n 2, 1) := by decide +kernel
theorem dX11_checkPath_7 : decode cX11_checkPath 7 = .ok (.ifCond .ne 9, 3) := by decide +kernel
theorem dX11_checkPath_10 : decode cX11_checkPath 10 = .ok (.aload_n 0, 1) := by decide +kernel
theorem dX11_checkPath_11 : decode cX11_checkPath 11 = .ok (.iconst 3, 1) := by decide +kernel
theorem dX11_checkPath_12 : decode cX11_checkPath 12 = .ok (.iload_n 1, 1) := by decide +kernel
theorem dX11_checkPath_13 : decode cX11_checkPath 13 = .ok (.invokevirtual 200, 3) := by decide +kernel
theorem dX11_checkPath_16 : decode cX11_checkPath 16 = .ok (.aload_n 0, 1) := by decide +kernel
theorem dX11_checkPath_17 : decode cX11_checkPath 17 = .ok (.dup, 1) := by decide +kernel
theorem dX11_checkPath_18 : decode cX11_checkPath 18 = .ok (.getfield 221, 3) := by decide +kernel
theorem dX11_checkPath_21 : decode cX11_checkPath 21 = .ok (.iconst 1, 1) := by decide +kernel
theorem dX11_checkPath_22 : decode cX11_checkPath 22 = .ok (.iadd, 1) := by decide +kernel
theorem dX11_checkPath_23 : decode cX11_checkPath 23 = .ok (.putfield 221, 3) := by decide +kernel
theorem dX11_checkPath_26 : decode cX11_checkPath 26 = .ok (.aload_n 0, 1) := by decide +kernel
theorem dX11_checkPath_27 : decode cX11_checkPath 27 = .ok (.dup, 1) := by decide +kernel
theorem dX11_checkPath_28 : decode cX11_checkPath 28 = .ok (.getfield 224, 3) := by decide +kernel
theorem dX11_checkPath_31 : decode cX11_checkPath 31 = .ok (.iload_n 2, 1) := by decide +kernel
theorem dX11_checkPath_32 : decode cX11_checkPath 32 = .ok (.iadd, 1) := by decide +kernel
theorem dX11_checkPath_33 : decode cX11_checkPath 33 = .ok (.putfield 224, 3) := by decide +kernel
theorem dX11_checkPath_36 : decode cX11_checkPath 36 = .ok (.aload_n 0, 1) := by decide +kernel
theorem dX11_checkPath_37 : decode cX11_checkPath 37 = .ok (.aload_n 0, 1) := by decide +kernel
theorem dX11_checkPath_38 : decode cX11_checkPath 38 = .ok (.getfield 7, 3) := by decide +kernel
theorem dX11_checkPath_41 : decode cX11_checkPath 41 = .ok (.iload_n 1, 1) := by decide +kernel
theorem dX11_checkPath_42 : decode cX11_checkPath 42 = .ok (.iaload, 1) := by decide +kernel
theorem dX11_checkPath_43 : decode cX11_checkPath 43 = .ok (.aload_n 0, 1) := by decide +kernel
theorem dX11_checkPath_44 : decode cX11_checkPath 44 = .ok (.iload_n 1, 1) := by decide +kernel
theorem dX11_checkPath_45 : decode cX11_checkPath 45 = .ok (.invokevirtual 131, 3) := by decide +kernel
theorem dX11_checkPath_48 : decode cX11_checkPath 48 = .ok (.invokevirtual 227, 3) := by decide +kernel
theorem dX11_checkPath_51 : decode cX11_checkPath 51 = .ok (.ifCond .ne 7, 3) := by decide +kernel
theorem dX11_checkPath_54 : decode cX11_checkPath 54 = .ok (.iconst 1, 1) := by decide +kernel
theorem dX11_checkPath_55 : decode cX11_checkPath 55 = .ok (.goto 4, 3) := by decide +kernel
theorem dX11_checkPath_58 : decode cX11_checkPath 58 = .ok (.iconst 0, 1) := by decide +kernel
theorem dX11_checkPath_59 : decode cX11_checkPath 59 = .ok (.istore_n 3, 1) := by decide +kernel
theorem dX11_checkPath_60 : decode cX11_checkPath 60 = .ok (.aload_n 0, 1) := by decide +kernel
theorem dX11_checkPath_61 : decode cX11_checkPath 61 = .ok (.iload_n 3, 1) := by decide +kernel
theorem dX11_checkPath_62 : decode cX11_checkPath 62 = .ok (.ifCond .eq 7, 3) := by decide +kernel
theorem dX11_checkPath_65 : decode cX11_checkPath 65 = .ok (.iconst 2, 1) := by decide +kernel
theorem dX11_checkPath_66 : decode cX11_checkPath 66 = .ok (.goto 4, 3) := by decide +kernel
theorem dX11_checkPath_69 : decode cX11_checkPath 69 = .ok (.iconst 1, 1) := by decide +kernel
theorem dX11_checkPath_70 : decode cX11_checkPath 70 = .ok (.iload_n 1, 1) := by decide +kernel
theorem dX11_checkPath_71 : decode cX11_checkPath 71 = .ok (.invokevirtual 212, 3) := by decide +kernel
theorem dX11_checkPath_74 : decode cX11_checkPath 74 = .ok (.iload_n 3, 1) := by decide +kernel
theorem dX11_checkPath_75 : decode cX11_checkPath 75 = .ok (.ifCond .ne 19, 3) := by decide +kernel
theorem dX11_checkPath_78 : decode cX11_checkPath 78 = .ok (.aload_n 0, 1) := by decide +kernel
theorem dX11_checkPath_79 : decode cX11_checkPath 79 = .ok (.getfield 191, 3) := by decide +kernel
theorem dX11_checkPath_82 : decode cX11_checkPath 82 = .ok (.ifCond .ne 12, 3) := by decide +kernel
theorem dX11_checkPath_85 : decode cX11_checkPath 85 = .ok (.aload_n 0, 1) := by decide +kernel
theorem dX11_checkPath_86 : decode cX11_checkPath 86 = .ok (.aload_n 0, 1) := by decide +kernel
theorem dX11_checkPath_87 : decode cX11_checkPath 87 = .ok (.iload_n 1, 1) := by decide +kernel
theorem dX11_checkPath_88 : decode cX11_checkPath 88 = .ok (.invokevirtual 131, 3) := by decide +kernel
theorem dX11_checkPath_91 : decode cX11_checkPath 91 = .ok (.invokevirtual 231, 3) := by decide +kernel
theorem dX11_checkPath_94 : decode cX11_checkPath 94 = .ok (.return_, 1) := by decide +kernel
theorem dX11_checkConditions_0 : decode cX11_checkConditions 0 = .ok (.aload_n 0, 1) := by decide +kernel
theorem dX11_checkConditions_1 : decode cX11_checkConditions 1 = .ok (.iload_n 1, 1) := by decide +kernel
theorem dX11_checkConditions_2 : decode cX11_checkConditions 2 = .ok (.invokevirtual 137, 3) := by decide +kernel
theorem dX11_checkConditions_5 : decode cX11_checkConditions 5 = .ok (.istore_n 2, 1) := by decide +kernel
theorem dX11_checkConditions_6 : decode cX11_checkConditions 6 = .ok (.iload_n 2, 1) := by decide +kernel
theorem dX11_checkConditions_7 : decode cX11_checkConditions 7 = .ok (.ifCond .le 129, 3) := by decide +kernel
theorem dX11_checkConditions_10 : decode cX11_checkConditions 10 = .ok (.aload_n 0, 1) := by decide +kernel
theorem dX11_checkConditions_11 : decode cX11_checkConditions 11 = .ok (.getfield 191, 3) := by decide +kernel
theorem dX11_checkConditions_14 : decode cX11_checkConditions 14 = .ok (.ifCond .ne 122, 3) := by decide +kernel
theorem dX11_checkConditions_17 : decode cX11_checkConditions 17 = .ok (.aload_n 0, 1) := by decide +kernel
theorem dX11_checkConditions_18 : decode cX11_checkConditions 18 = .ok (.iload_n 2, 1) := by decide +kernel
theorem dX11_checkConditions_19 : decode cX11_checkConditions 19 = .ok (.invokevirtual 234, 3) := by decide +kernel
theorem dX11_checkConditions_22 : decode cX11_checkConditions 22 = .ok (.istore_n 3, 1) := by decide +kernel
theorem dX11_checkConditions_23 : decode cX11_checkConditions 23 = .ok (.aload_n 0, 1) := by decide +kernel
theorem dX11_checkConditions_24 : decode cX11_checkConditions 24 = .ok (.iload_n 2, 1) := by decide +kernel
theorem dX11_checkConditions_25 : decode cX11_checkConditions 25 = .ok (.invokevirtual 131, 3) := by decide +kernel
theorem dX11_checkConditions_28 : decode cX11_checkConditions 28 = .ok (.istore 4, 2) := by decide +kernel
theorem dX11_checkConditions_30 : decode cX11_checkConditions 30 = .ok (.iload_n 3, 1) := by decide +kernel
theorem dX11_checkConditions_31 : decode cX11_checkConditions 31 = .ok (.ifCond .ne 12, 3) := by decide +kernel
theorem dX11_checkConditions_34 : decode cX11_checkConditions 34 = .ok (.aload_n 0, 1) := by decide +kernel
theorem dX11_checkConditions_35 : decode cX11_checkConditions 35 = .ok (.iconst 1, 1) := by decide +kernel
theorem dX11_checkConditions_36 : decode cX11_checkConditions 36 = .ok (.iload_n 2, 1) := by decide +kernel
theorem dX11_checkConditions_37 : decode cX11_checkConditions 37 = .ok (.invokevirtual 200, 3) := by decide +kernel
theorem dX11_checkConditions_40 : decode cX11_checkConditions 40 = .ok (.goto 25, 3) := by decide +kernel
theorem dX11_checkConditions_43 : decode cX11_checkConditions 43 = .ok (.aload_n 0, 1) := by decide +kernel
theorem dX11_checkConditions_44 : decode cX11_checkConditions 44 = .ok (.iload_n 3, 1) := by decide +kernel
theorem dX11_checkConditions_45 : decode cX11_checkConditions 45 = .ok (.aload_n 0, 1) := by decide +kernel
theorem dX11_checkConditions_46 : decode cX11_checkConditions 46 = .ok (.getfield 7, 3) := by decide +kernel
theorem dX11_checkConditions_49 : decode cX11_checkConditions 49 = .ok (.iload_n 2, 1) := by decide +kernel
theorem dX11_checkConditions_50 : decode cX11_checkConditions 50 = .ok (.iaload, 1) := by decide +kernel
theorem dX11_checkConditions_51 : decode cX11_checkConditions 51 = .ok (.iload 4, 2) := by decide +kernel
theorem dX11_checkConditions_53 : decode cX11_checkConditions 53 = .ok (.invokevirtual 237, 3) := by decide +kernel
theorem dX11_checkConditions_56 : decode cX11_checkConditions 56 = .ok (.ifCond .ne 9, 3) := by decide +kernel
theorem dX11_checkConditions_59 : decode cX11_checkConditions 59 = .ok (.aload_n 0, 1) := by decide +kernel
theorem dX11_checkConditions_60 : decode cX11_checkConditions 60 = .ok (.iconst 4, 1) := by decide +kernel
theorem dX11_checkConditions_61 : decode cX11_checkConditions 61 = .ok (.iload_n 2, 1) := by decide +kernel
theorem dX11_checkConditions_62 : decode cX11_checkConditions 62 = .ok (.invokevirtual 200, 3) := by decide +kernel
theorem dX11_checkConditions_65 : decode cX11_checkConditions 65 = .ok (.aload_n 0, 1) := by decide +kernel
theorem dX11_checkConditions_66 : decode cX11_checkConditions 66 = .ok (.iconst 1, 1) := by decide +kernel
theorem dX11_checkConditions_67 : decode cX11_checkConditions 67 = .ok (.iload_n 2, 1) := by decide +kernel
theorem dX11_checkConditions_68 : decode cX11_checkConditions 68 = .ok (.invokevirtual 212, 3) := by decide +kernel
theorem dX11_checkConditions_71 : decode cX11_checkConditions 71 = .ok (.aload_n 0, 1) := by decide +kernel
theorem dX11_checkConditions_72 : decode cX11_checkConditions 72 = .ok (.getfield 191, 3) := by decide +kernel
theorem dX11_checkConditions_75 : decode cX11_checkConditions 75 = .ok (.ifCond .ne 15, 3) := by decide +kernel
theorem dX11_checkConditions_78 : decode cX11_checkConditions 78 = .ok (.iload_n 3, 1) := by decide +kernel
theorem dX11_checkConditions_79 : decode cX11_checkConditions 79 = .ok (.bipush 12, 2) := by decide +kernel
theorem dX11_checkConditions_81 : decode cX11_checkConditions 81 = .ok (.if_icmp .ne 9, 3) := by decide +kernel
theorem dX11_checkConditions_84 : decode cX11_checkConditions 84 = .ok (.aload_n 0, 1) := by decide +kernel
theorem dX11_checkConditions_85 : decode cX11_checkConditions 85 = .ok (.iload 4, 2) := by decide +kernel
theorem dX11_checkConditions_87 : decode cX11_checkConditions 87 = .ok (.invokevirtual 231, 3) := by decide +kernel
theorem dX11_checkConditions_90 : decode cX11_checkConditions 90 = .ok (.aload_n 0, 1) := by decide +kernel
theorem dX11_checkConditions_91 : decode cX11_checkConditions 91 = .ok (.getfield 191, 3) := by decide +kernel
theorem dX11_checkConditions_94 : decode cX11_checkConditions 94 = .ok (.ifCond .ne 33, 3) := by decide +kernel
theorem dX11_checkConditions_97 : decode cX11_checkConditions 97 = .ok (.iload_n 3, 1) := by decide +kernel
theorem dX11_checkConditions_98 : decode cX11_checkConditions 98 = .ok (.bipush 11, 2) := by decide +kernel
theorem dX11_checkConditions_100 : decode cX11_checkConditions 100 = .ok (.if_icmp .ne 27, 3) := by decide +kernel
theorem dX11_checkConditions_103 : decode cX11_checkConditions 103 = .ok (.aload_n 0, 1) := by decide +kernel
theorem dX11_checkConditions_104 : decode cX11_checkConditions 104 = .ok (.iload 4, 2) := by decide +kernel
theorem dX11_checkConditions_106 : decode cX11_checkConditions 106 = .ok (.invokevirtual 240, 3) := by decide +kernel
theorem dX11_checkConditions_109 : decode cX11_checkConditions 109 = .ok (.ifCond .eq 12, 3) := by decide +kernel
theorem dX11_checkConditions_112 : decode cX11_checkConditions 112 = .ok (.aload_n 0, 1) := by decide +kernel
theorem dX11_checkConditions_113 : decode cX11_checkConditions 113 = .ok (.iload 4, 2) := by decide +kernel
theorem dX11_checkConditions_115 : decode cX11_checkConditions 115 = .ok (.invokevirtual 231, 3) := by decide +kernel
theorem dX11_checkConditions_118 : decode cX11_checkConditions 118 = .ok (.goto 9, 3) := by decide +kernel
theorem dX11_checkConditions_121 : decode cX11_checkConditions 121 = .ok (.aload_n 0, 1) := by decide +kernel
theorem dX11_checkConditions_122 : decode cX11_checkConditions 122 = .ok (.iload 4, 2) := by decide +kernel
theorem dX11_checkConditions_124 : decode cX11_checkConditions 124 = .ok (.invokevirtual 215, 3) := by decide +kernel
theorem dX11_checkConditions_127 : decode cX11_checkConditions 127 = .ok (.aload_n 0, 1) := by decide +kernel
theorem dX11_checkConditions_128 : decode cX11_checkConditions 128 = .ok (.iload_n 2, 1) := by decide +kernel
theorem dX11_checkConditions_129 : decode cX11_checkConditions 129 = .ok (.invokevirtual 140, 3) := by decide +kernel
theorem dX11_checkConditions_132 : decode cX11_checkConditions 132 = .ok (.istore_n 2, 1) := by decide +kernel
theorem dX11_checkConditions_133 : decode cX11_checkConditions 133 = .ok (.goto (-127), 3) := by decide +kernel
theorem dX11_checkConditions_136 : decode cX11_checkConditions 136 = .ok (.return_, 1) := by decide +kernel
theorem dX11_isRight_0 : decode cX11_isRight 0 = .ok (.iload_n 1, 1) := by decide +kernel
theorem dX11_isRight_1 : decode cX11_isRight 1 = .ok (.tableswitch 125 3 12 #[55, 55, 125, 125, 125, 125, 66, 78, 107, 118], 55) := by decide +kernel
theorem dX11_isRight_56 : decode cX11_isRight 56 = .ok (.iload_n 2, 1) := by decide +kernel
theorem dX11_isRight_57 : decode cX11_isRight 57 = .ok (.iconst 4, 1) := by decide +kernel
theorem dX11_isRight_58 : decode cX11_isRight 58 = .ok (.if_icmp .ne 7, 3) := by decide +kernel
theorem dX11_isRight_61 : decode cX11_isRight 61 = .ok (.iconst 1, 1) := by decide +kernel
theorem dX11_isRight_62 : decode cX11_isRight 62 = .ok (.goto 4, 3) := by decide +kernel
theorem dX11_isRight_65 : decode cX11_isRight 65 = .ok (.iconst 0, 1) := by decide +kernel
theorem dX11_isRight_66 : decode cX11_isRight 66 = .ok (.ireturn, 1) := by decide +kernel
theorem dX11_isRight_67 : decode cX11_isRight 67 = .ok (.iload_n 2, 1) := by decide +kernel
theorem dX11_isRight_68 : decode cX11_isRight 68 = .ok (.bipush 8, 2) := by decide +kernel
theorem dX11_isRight_70 : decode cX11_isRight 70 = .ok (.if_icmp .ne 7, 3) := by decide +kernel
theorem dX11_isRight_73 : decode cX11_isRight 73 = .ok (.iconst 1, 1) := by decide +kernel
theorem dX11_isRight_74 : decode cX11_isRight 74 = .ok (.goto 4, 3) := by decide +kernel
theorem dX11_isRight_77 : decode cX11_isRight 77 = .ok (.iconst 0, 1) := by decide +kernel
theorem dX11_isRight_78 : decode cX11_isRight 78 = .ok (.ireturn, 1) := by decide +kernel
theorem dX11_isRight_79 : decode cX11_isRight 79 = .ok (.iload_n 2, 1) := by decide +kernel
theorem dX11_isRight_80 : decode cX11_isRight 80 = .ok (.bipush 16, 2) := by decide +kernel
theorem dX11_isRight_82 : decode cX11_isRight 82 = .ok (.if_icmp .eq 9, 3) := by decide +kernel
theorem dX11_isRight_85 : decode cX11_isRight 85 = .ok (.iload_n 2, 1) := by decide +kernel
theorem dX11_isRight_86 : decode cX11_isRight 86 = .ok (.bipush 18, 2) := by decide +kernel
theorem dX11_isRight_88 : decode cX11_isRight 88 = .ok (.if_icmp .ne 18, 3) := by decide +kernel
theorem dX11_isRight_91 : decode cX11_isRight 91 = .ok (.aload_n 0, 1) := by decide +kernel
theorem dX11_isRight_92 : decode cX11_isRight 92 = .ok (.iload_n 2, 1) := by decide +kernel
theorem dX11_isRight_93 : decode cX11_isRight 93 = .ok (.iload_n 3, 1) := by decide +kernel
theorem dX11_isRight_94 : decode cX11_isRight 94 = .ok (.invokevirtual 243, 3) := by decide +kernel
theorem dX11_isRight_97 : decode cX11_isRight 97 = .ok (.lconst 0, 1) := by decide +kernel
theorem dX11_isRight_98 : decode cX11_isRight 98 = .ok (.lcmp, 1) := by decide +kernel
theorem dX11_isRight_99 : decode cX11_isRight 99 = .ok (.ifCond .lt 7, 3) := by decide +kernel
theorem dX11_isRight_102 : decode cX11_isRight 102 = .ok (.iconst 1, 1) := by decide +kernel
theorem dX11_isRight_103 : decode cX11_isRight 103 = .ok (.goto 4, 3) := by decide +kernel
theorem dX11_isRight_106 : decode cX11_isRight 106 = .ok (.iconst 0, 1) := by decide +kernel
theorem dX11_isRight_107 : decode cX11_isRight 107 = .ok (.ireturn, 1) := by decide +kernel
theorem dX11_isRight_108 : decode cX11_isRight 108 = .ok (.iload_n 2, 1) := by decide +kernel
theorem dX11_isRight_109 : decode cX11_isRight 109 = .ok (.iconst 3, 1) := by decide +kernel
theorem dX11_isRight_110 : decode cX11_isRight 110 = .ok (.if_icmp .ne 7, 3) := by decide +kernel
theorem dX11_isRight_113 : decode cX11_isRight 113 = .ok (.iconst 1, 1) := by decide +kernel
theorem dX11_isRight_114 : decode cX11_isRight 114 = .ok (.goto 4, 3) := by decide +kernel
theorem dX11_isRight_117 : decode cX11_isRight 117 = .ok (.iconst 0, 1) := by decide +kernel
theorem dX11_isRight_118 : decode cX11_isRight 118 = .ok (.ireturn, 1) := by decide +kernel
theorem dX11_isRight_119 : decode cX11_isRight 119 = .ok (.aload_n 0, 1) := by decide +kernel
theorem dX11_isRight_120 : decode cX11_isRight 120 = .ok (.iload_n 2, 1) := by decide +kernel
theorem dX11_isRight_121 : decode cX11_isRight 121 = .ok (.iload_n 3, 1) := by decide +kernel
theorem dX11_isRight_122 : decode cX11_isRight 122 = .ok (.invokevirtual 227, 3) := by decide +kernel
theorem dX11_isRight_125 : decode cX11_isRight 125 = .ok (.ireturn, 1) := by decide +kernel
theorem dX11_isRight_126 : decode cX11_isRight 126 = .ok (.iconst 1, 1) := by decide +kernel
theorem dX11_isRight_127 : decode cX11_isRight 127 = .ok (.ireturn, 1) := by decide +kernel
theorem dX11_asConditions_0 : decode cX11_asConditions 0 = .ok (.aload_n 0, 1) := by decide +kernel
theorem dX11_asConditions_1 : decode cX11_asConditions 1 = .ok (.iconst 3, 1) := by decide +kernel
theorem dX11_asConditions_2 : decode cX11_asConditions 2 = .ok (.iload_n 1, 1) := by decide +kernel
theorem dX11_asConditions_3 : decode cX11_asConditions 3 = .ok (.invokevirtual 227, 3) := by decide +kernel
theorem dX11_asConditions_6 : decode cX11_asConditions 6 = .ok (.ifCond .eq 19, 3) := by decide +kernel
theorem dX11_asConditions_9 : decode cX11_asConditions 9 = .ok (.aload_n 0, 1) := by decide +kernel
theorem dX11_asConditions_10 : decode cX11_asConditions 10 = .ok (.aload_n 0, 1) := by decide +kernel
theorem dX11_asConditions_11 : decode cX11_asConditions 11 = .ok (.iload_n 1, 1) := by decide +kernel
theorem dX11_asConditions_12 : decode cX11_asConditions 12 = .ok (.invokevirtual 137, 3) := by decide +kernel
theorem dX11_asConditions_15 : decode cX11_asConditions 15 = .ok (.invokevirtual 209, 3) := by decide +kernel
theorem dX11_asConditions_18 : decode cX11_asConditions 18 = .ok (.ifCond .ne 7, 3) := by decide +kernel
theorem dX11_asConditions_21 : decode cX11_asConditions 21 = .ok (.iconst 1, 1) := by decide +kernel
theorem dX11_asConditions_22 : decode cX11_asConditions 22 = .ok (.goto 4, 3) := by decide +kernel
theorem dX11_asConditions_25 : decode cX11_asConditions 25 = .ok (.iconst 0, 1) := by decide +kernel
theorem dX11_asConditions_26 : decode cX11_asConditions 26 = .ok (.ireturn, 1) := by decide +kernel
theorem dX11_number_0 : decode cX11_number 0 = .ok (.iload_n 1, 1) := by decide +kernel
theorem dX11_number_1 : decode cX11_number 1 = .ok (.bipush 8, 2) := by decide +kernel
theorem dX11_number_3 : decode cX11_number 3 = .ok (.if_icmp .ne 11, 3) := by decide +kernel
theorem dX11_number_6 : decode cX11_number 6 = .ok (.aload_n 0, 1) := by decide +kernel
theorem dX11_number_7 : decode cX11_number 7 = .ok (.getfield 7, 3) := by decide +kernel
theorem dX11_number_10 : decode cX11_number 10 = .ok (.iload_n 2, 1) := by decide +kernel
theorem dX11_number_11 : decode cX11_number 11 = .ok (.iaload, 1) := by decide +kernel
theorem dX11_number_12 : decode cX11_number 12 = .ok (.i2l, 1) := by decide +kernel
theorem dX11_number_13 : decode cX11_number 13 = .ok (.lreturn, 1) := by decide +kernel
theorem dX11_number_14 : decode cX11_number 14 = .ok (.iload_n 1, 1) := by decide +kernel
theorem dX11_number_15 : decode cX11_number 15 = .ok (.bipush 16, 2) := by decide +kernel
theorem dX11_number_17 : decode cX11_number 17 = .ok (.if_icmp .ne 10, 3) := by decide +kernel
theorem dX11_number_20 : decode cX11_number 20 = .ok (.aload_n 0, 1) := by decide +kernel
theorem dX11_number_21 : decode cX11_number 21 = .ok (.iload_n 2, 1) := by decide +kernel
theorem dX11_number_22 : decode cX11_number 22 = .ok (.invokevirtual 128, 3) := by decide +kernel
theorem dX11_number_25 : decode cX11_number 25 = .ok (.i2l, 1) := by decide +kernel
theorem dX11_number_26 : decode cX11_number 26 = .ok (.lreturn, 1) := by decide +kernel
theorem dX11_number_27 : decode cX11_number 27 = .ok (.lconst 0, 1) := by decide +kernel
theorem dX11_number_28 : decode cX11_number 28 = .ok (.lstore_n 3, 1) := by decide +kernel
theorem dX11_number_29 : decode cX11_number 29 = .ok (.bipush 7, 2) := by decide +kernel
theorem dX11_number_31 : decode cX11_number 31 = .ok (.istore 5, 2) := by decide +kernel
theorem dX11_number_33 : decode cX11_number 33 = .ok (.iload 5, 2) := by decide +kernel
theorem dX11_number_35 : decode cX11_number 35 = .ok (.ifCond .lt 25, 3) := by decide +kernel
theorem dX11_number_38 : decode cX11_number 38 = .ok (.lload_n 3, 1) := by decide +kernel
theorem dX11_number_39 : decode cX11_number 39 = .ok (.bipush 8, 2) := by decide +kernel
theorem dX11_number_41 : decode cX11_number 41 = .ok (.lshl, 1) := by decide +kernel
theorem dX11_number_42 : decode cX11_number 42 = .ok (.aload_n 0, 1) := by decide +kernel
theorem dX11_number_43 : decode cX11_number 43 = .ok (.getfield 7, 3) := by decide +kernel
theorem dX11_number_46 : decode cX11_number 46 = .ok (.iload_n 2, 1) := by decide +kernel
theorem dX11_number_47 : decode cX11_number 47 = .ok (.iload 5, 2) := by decide +kernel
theorem dX11_number_49 : decode cX11_number 49 = .ok (.iadd, 1) := by decide +kernel
theorem dX11_number_50 : decode cX11_number 50 = .ok (.iaload, 1) := by decide +kernel
theorem dX11_number_51 : decode cX11_number 51 = .ok (.i2l, 1) := by decide +kernel
theorem dX11_number_52 : decode cX11_number 52 = .ok (.lor, 1) := by decide +kernel
theorem dX11_number_53 : decode cX11_number 53 = .ok (.lstore_n 3, 1) := by decide +kernel
theorem dX11_number_54 : decode cX11_number 54 = .ok (.iinc 5 (-1), 3) := by decide +kernel
theorem dX11_number_57 : decode cX11_number 57 = .ok (.goto (-24), 3) := by decide +kernel
theorem dX11_number_60 : decode cX11_number 60 = .ok (.lload_n 3, 1) := by decide +kernel
theorem dX11_number_61 : decode cX11_number 61 = .ok (.lreturn, 1) := by decide +kernel
theorem dX11_classOf_0 : decode cX11_classOf 0 = .ok (.iload_n 0, 1) := by decide +kernel
theorem dX11_classOf_1 : decode cX11_classOf 1 = .ok (.tableswitch 96 2 18 #[87, 89, 91, 96, 96, 96, 93, 96, 83, 96, 96, 96, 96, 96, 85, 96, 85], 83) := by decide +kernel
theorem dX11_classOf_84 : decode cX11_classOf 84 = .ok (.iconst 1, 1) := by decide +kernel
theorem dX11_classOf_85 : decode cX11_classOf 85 = .ok (.ireturn, 1) := by decide +kernel
theorem dX11_classOf_86 : decode cX11_classOf 86 = .ok (.iconst 2, 1) := by decide +kernel
theorem dX11_classOf_87 : decode cX11_classOf 87 = .ok (.ireturn, 1) := by decide +kernel
theorem dX11_classOf_88 : decode cX11_classOf 88 = .ok (.iconst 3, 1) := by decide +kernel
theorem dX11_classOf_89 : decode cX11_classOf 89 = .ok (.ireturn, 1) := by decide +kernel
theorem dX11_classOf_90 : decode cX11_classOf 90 = .ok (.iconst 4, 1) := by decide +kernel
theorem dX11_classOf_91 : decode cX11_classOf 91 = .ok (.ireturn, 1) := by decide +kernel
theorem dX11_classOf_92 : decode cX11_classOf 92 = .ok (.iconst 5, 1) := by decide +kernel
theorem dX11_classOf_93 : decode cX11_classOf 93 = .ok (.ireturn, 1) := by decide +kernel
theorem dX11_classOf_94 : decode cX11_classOf 94 = .ok (.bipush 6, 2) := by decide +kernel
theorem dX11_classOf_96 : decode cX11_classOf 96 = .ok (.ireturn, 1) := by decide +kernel
theorem dX11_classOf_97 : decode cX11_classOf 97 = .ok (.iconst 0, 1) := by decide +kernel
theorem dX11_classOf_98 : decode cX11_classOf 98 = .ok (.ireturn, 1) := by decide +kernel
theorem dX11_orderBytes_0 : decode cX11_orderBytes 0 = .ok (.iconst 0, 1) := by decide +kernel
theorem dX11_orderBytes_1 : decode cX11_orderBytes 1 = .ok (.istore 5, 2) := by decide +kernel
theorem dX11_orderBytes_3 : decode cX11_orderBytes 3 = .ok (.iload 5, 2) := by decide +kernel
theorem dX11_orderBytes_5 : decode cX11_orderBytes 5 = .ok (.iload_n 2, 1) := by decide +kernel
theorem dX11_orderBytes_6 : decode cX11_orderBytes 6 = .ok (.if_icmp .ge 37, 3) := by decide +kernel
theorem dX11_orderBytes_9 : decode cX11_orderBytes 9 = .ok (.iload 5, 2) := by decide +kernel
theorem dX11_orderBytes_11 : decode cX11_orderBytes 11 = .ok (.iload 4, 2) := by decide +kernel
theorem dX11_orderBytes_13 : decode cX11_orderBytes 13 = .ok (.if_icmp .ge 30, 3) := by decide +kernel
theorem dX11_orderBytes_16 : decode cX11_orderBytes 16 = .ok (.aload_n 0, 1) := by decide +kernel
theorem dX11_orderBytes_17 : decode cX11_orderBytes 17 = .ok (.getfield 7, 3) := by decide +kernel
theorem dX11_orderBytes_20 : decode cX11_orderBytes 20 = .ok (.iload_n 1, 1) := by decide +kernel
theorem dX11_orderBytes_21 : decode cX11_orderBytes 21 = .ok (.iload 5, 2) := by decide +kernel
theorem dX11_orderBytes_23 : decode cX11_orderBytes 23 = .ok (.iadd, 1) := by decide +kernel
theorem dX11_orderBytes_24 : decode cX11_orderBytes 24 = .ok (.iaload, 1) := by decide +kernel
theorem dX11_orderBytes_25 : decode cX11_orderBytes 25 = .ok (.aload_n 0, 1) := by decide +kernel
theorem dX11_orderBytes_26 : decode cX11_orderBytes 26 = .ok (.getfield 7, 3) := by decide +kernel
theorem dX11_orderBytes_29 : decode cX11_orderBytes 29 = .ok (.iload_n 3, 1) := by decide +kernel
theorem dX11_orderBytes_30 : decode cX11_orderBytes 30 = .ok (.iload 5, 2) := by decide +kernel
theorem dX11_orderBytes_32 : decode cX11_orderBytes 32 = .ok (.iadd, 1) := by decide +kernel
theorem dX11_orderBytes_33 : decode cX11_orderBytes 33 = .ok (.iaload, 1) := by decide +kernel
theorem dX11_orderBytes_34 : decode cX11_orderBytes 34 = .ok (.if_icmp .ne 9, 3) := by decide +kernel
theorem dX11_orderBytes_37 : decode cX11_orderBytes 37 = .ok (.iinc 5 1, 3) := by decide +kernel
theorem dX11_orderBytes_40 : decode cX11_orderBytes 40 = .ok (.goto (-37), 3) := by decide +kernel
theorem dX11_orderBytes_43 : decode cX11_orderBytes 43 = .ok (.iload 5, 2) := by decide +kernel
theorem dX11_orderBytes_45 : decode cX11_orderBytes 45 = .ok (.iload_n 2, 1) := by decide +kernel
theorem dX11_orderBytes_46 : decode cX11_orderBytes 46 = .ok (.if_icmp .ge 37, 3) := by decide +kernel
theorem dX11_orderBytes_49 : decode cX11_orderBytes 49 = .ok (.iload 5, 2) := by decide +kernel
theorem dX11_orderBytes_51 : decode cX11_orderBytes 51 = .ok (.iload 4, 2) := by decide +kernel
theorem dX11_orderBytes_53 : decode cX11_orderBytes 53 = .ok (.if_icmp .ge 30, 3) := by decide +kernel
theorem dX11_orderBytes_56 : decode cX11_orderBytes 56 = .ok (.aload_n 0, 1) := by decide +kernel
theorem dX11_orderBytes_57 : decode cX11_orderBytes 57 = .ok (.getfield 7, 3) := by decide +kernel
theorem dX11_orderBytes_60 : decode cX11_orderBytes 60 = .ok (.iload_n 1, 1) := by decide +kernel
theorem dX11_orderBytes_61 : decode cX11_orderBytes 61 = .ok (.iload 5, 2) := by decide +kernel
theorem dX11_orderBytes_63 : decode cX11_orderBytes 63 = .ok (.iadd, 1) := by decide +kernel
theorem dX11_orderBytes_64 : decode cX11_orderBytes 64 = .ok (.iaload, 1) := by decide +kernel
theorem dX11_orderBytes_65 : decode cX11_orderBytes 65 = .ok (.aload_n 0, 1) := by decide +kernel
theorem dX11_orderBytes_66 : decode cX11_orderBytes 66 = .ok (.getfield 7, 3) := by decide +kernel
theorem dX11_orderBytes_69 : decode cX11_orderBytes 69 = .ok (.iload_n 3, 1) := by decide +kernel
theorem dX11_orderBytes_70 : decode cX11_orderBytes 70 = .ok (.iload 5, 2) := by decide +kernel
theorem dX11_orderBytes_72 : decode cX11_orderBytes 72 = .ok (.iadd, 1) := by decide +kernel
theorem dX11_orderBytes_73 : decode cX11_orderBytes 73 = .ok (.iaload, 1) := by decide +kernel
theorem dX11_orderBytes_74 : decode cX11_orderBytes 74 = .ok (.if_icmp .ge 7, 3) := by decide +kernel
theorem dX11_orderBytes_77 : decode cX11_orderBytes 77 = .ok (.iconst (-1), 1) := by decide +kernel
theorem dX11_orderBytes_78 : decode cX11_orderBytes 78 = .ok (.goto 4, 3) := by decide +kernel
theorem dX11_orderBytes_81 : decode cX11_orderBytes 81 = .ok (.iconst 1, 1) := by decide +kernel
theorem dX11_orderBytes_82 : decode cX11_orderBytes 82 = .ok (.ireturn, 1) := by decide +kernel
theorem dX11_orderBytes_83 : decode cX11_orderBytes 83 = .ok (.iload_n 2, 1) := by decide +kernel
theorem dX11_orderBytes_84 : decode cX11_orderBytes 84 = .ok (.iload 4, 2) := by decide +kernel
theorem dX11_orderBytes_86 : decode cX11_orderBytes 86 = .ok (.if_icmp .ge 7, 3) := by decide +kernel
theorem dX11_orderBytes_89 : decode cX11_orderBytes 89 = .ok (.iconst (-1), 1) := by decide +kernel
theorem dX11_orderBytes_90 : decode cX11_orderBytes 90 = .ok (.goto 14, 3) := by decide +kernel
theorem dX11_orderBytes_93 : decode cX11_orderBytes 93 = .ok (.iload_n 2, 1) := by decide +kernel
theorem dX11_orderBytes_94 : decode cX11_orderBytes 94 = .ok (.iload 4, 2) := by decide +kernel
theorem dX11_orderBytes_96 : decode cX11_orderBytes 96 = .ok (.if_icmp .le 7, 3) := by decide +kernel
theorem dX11_orderBytes_99 : decode cX11_orderBytes 99 = .ok (.iconst 1, 1) := by decide +kernel
theorem dX11_orderBytes_100 : decode cX11_orderBytes 100 = .ok (.goto 4, 3) := by decide +kernel
theorem dX11_orderBytes_103 : decode cX11_orderBytes 103 = .ok (.iconst 0, 1) := by decide +kernel
theorem dX11_orderBytes_104 : decode cX11_orderBytes 104 = .ok (.ireturn, 1) := by decide +kernel
theorem dX11_order_0 : decode cX11_order 0 = .ok (.iload_n 1, 1) := by decide +kernel
theorem dX11_order_1 : decode cX11_order 1 = .ok (.invokestatic 246, 3) := by decide +kernel
theorem dX11_order_4 : decode cX11_order 4 = .ok (.istore 5, 2) := by decide +kernel
theorem dX11_order_6 : decode cX11_order 6 = .ok (.iload 5, 2) := by decide +kernel
theorem dX11_order_8 : decode cX11_order 8 = .ok (.iload_n 3, 1) := by decide +kernel
theorem dX11_order_9 : decode cX11_order 9 = .ok (.invokestatic 246, 3) := by decide +kernel
theorem dX11_order_12 : decode cX11_order 12 = .ok (.if_icmp .eq 18, 3) := by decide +kernel
theorem dX11_order_15 : decode cX11_order 15 = .ok (.iload 5, 2) := by decide +kernel
theorem dX11_order_17 : decode cX11_order 17 = .ok (.iload_n 3, 1) := by decide +kernel
theorem dX11_order_18 : decode cX11_order 18 = .ok (.invokestatic 246, 3) := by decide +kernel
theorem dX11_order_21 : decode cX11_order 21 = .ok (.if_icmp .ge 7, 3) := by decide +kernel
theorem dX11_order_24 : decode cX11_order 24 = .ok (.iconst (-1), 1) := by decide +kernel
theorem dX11_order_25 : decode cX11_order 25 = .ok (.goto 4, 3) := by decide +kernel
theorem dX11_order_28 : decode cX11_order 28 = .ok (.iconst 1, 1) := by decide +kernel
theorem dX11_order_29 : decode cX11_order 29 = .ok (.ireturn, 1) := by decide +kernel
theorem dX11_order_30 : decode cX11_order 30 = .ok (.iload 5, 2) := by decide +kernel
theorem dX11_order_32 : decode cX11_order 32 = .ok (.iconst 2, 1) := by decide +kernel
theorem dX11_order_33 : decode cX11_order 33 = .ok (.if_icmp .eq 10, 3) := by decide +kernel
theorem dX11_order_36 : decode cX11_order 36 = .ok (.iload 5, 2) := by decide +kernel
theorem dX11_order_38 : decode cX11_order 38 = .ok (.bipush 6, 2) := by decide +kernel
theorem dX11_order_40 : decode cX11_order 40 = .ok (.if_icmp .ne 46, 3) := by decide +kernel
theorem dX11_order_43 : decode cX11_order 43 = .ok (.aload_n 0, 1) := by decide +kernel
theorem dX11_order_44 : decode cX11_order 44 = .ok (.iload_n 1, 1) := by decide +kernel
theorem dX11_order_45 : decode cX11_order 45 = .ok (.iload_n 2, 1) := by decide +kernel
theorem dX11_order_46 : decode cX11_order 46 = .ok (.invokevirtual 243, 3) := by decide +kernel
theorem dX11_order_49 : decode cX11_order 49 = .ok (.lstore 6, 2) := by decide +kernel
theorem dX11_order_51 : decode cX11_order 51 = .ok (.aload_n 0, 1) := by decide +kernel
theorem dX11_order_52 : decode cX11_order 52 = .ok (.iload_n 3, 1) := by decide +kernel
theorem dX11_order_53 : decode cX11_order 53 = .ok (.iload 4, 2) := by decide +kernel
theorem dX11_order_55 : decode cX11_order 55 = .ok (.invokevirtual 243, 3) := by decide +kernel
theorem dX11_order_58 : decode cX11_order 58 = .ok (.lstore 8, 2) := by decide +kernel
theorem dX11_order_60 : decode cX11_order 60 = .ok (.lload 6, 2) := by decide +kernel
theorem dX11_order_62 : decode cX11_order 62 = .ok (.lload 8, 2) := by decide +kernel
theorem dX11_order_64 : decode cX11_order 64 = .ok (.lcmp, 1) := by decide +kernel
theorem dX11_order_65 : decode cX11_order 65 = .ok (.ifCond .ge 7, 3) := by decide +kernel
theorem dX11_order_68 : decode cX11_order 68 = .ok (.iconst (-1), 1) := by decide +kernel
theorem dX11_order_69 : decode cX11_order 69 = .ok (.goto 16, 3) := by decide +kernel
theorem dX11_order_72 : decode cX11_order 72 = .ok (.lload 6, 2) := by decide +kernel
theorem dX11_order_74 : decode cX11_order 74 = .ok (.lload 8, 2) := by decide +kernel
theorem dX11_order_76 : decode cX11_order 76 = .ok (.lcmp, 1) := by decide +kernel
theorem dX11_order_77 : decode cX11_order 77 = .ok (.ifCond .le 7, 3) := by decide +kernel
theorem dX11_order_80 : decode cX11_order 80 = .ok (.iconst 1, 1) := by decide +kernel
theorem dX11_order_81 : decode cX11_order 81 = .ok (.goto 4, 3) := by decide +kernel
theorem dX11_order_84 : decode cX11_order 84 = .ok (.iconst 0, 1) := by decide +kernel
theorem dX11_order_85 : decode cX11_order 85 = .ok (.ireturn, 1) := by decide +kernel
theorem dX11_order_86 : decode cX11_order 86 = .ok (.iload 5, 2) := by decide +kernel
theorem dX11_order_88 : decode cX11_order 88 = .ok (.iconst 3, 1) := by decide +kernel
theorem dX11_order_89 : decode cX11_order 89 = .ok (.if_icmp .ne 30, 3) := by decide +kernel
theorem dX11_order_92 : decode cX11_order 92 = .ok (.aload_n 0, 1) := by decide +kernel
theorem dX11_order_93 : decode cX11_order 93 = .ok (.iload_n 2, 1) := by decide +kernel
theorem dX11_order_94 : decode cX11_order 94 = .ok (.iconst 4, 1) := by decide +kernel
theorem dX11_order_95 : decode cX11_order 95 = .ok (.iadd, 1) := by decide +kernel
theorem dX11_order_96 : decode cX11_order 96 = .ok (.aload_n 0, 1) := by decide +kernel
theorem dX11_order_97 : decode cX11_order 97 = .ok (.iload_n 2, 1) := by decide +kernel
theorem dX11_order_98 : decode cX11_order 98 = .ok (.invokevirtual 128, 3) := by decide +kernel
theorem dX11_order_101 : decode cX11_order 101 = .ok (.iconst 1, 1) := by decide +kernel
theorem dX11_order_102 : decode cX11_order 102 = .ok (.isub, 1) := by decide +kernel
theorem dX11_order_103 : decode cX11_order 103 = .ok (.iload 4, 2) := by decide +kernel
theorem dX11_order_105 : decode cX11_order 105 = .ok (.iconst 4, 1) := by decide +kernel
theorem dX11_order_106 : decode cX11_order 106 = .ok (.iadd, 1) := by decide +kernel
theorem dX11_order_107 : decode cX11_order 107 = .ok (.aload_n 0, 1) := by decide +kernel
theorem dX11_order_108 : decode cX11_order 108 = .ok (.iload 4, 2) := by decide +kernel
theorem dX11_order_110 : decode cX11_order 110 = .ok (.invokevirtual 128, 3) := by decide +kernel
theorem dX11_order_113 : decode cX11_order 113 = .ok (.iconst 1, 1) := by decide +kernel
theorem dX11_order_114 : decode cX11_order 114 = .ok (.isub, 1) := by decide +kernel
theorem dX11_order_115 : decode cX11_order 115 = .ok (.invokevirtual 249, 3) := by decide +kernel
theorem dX11_order_118 : decode cX11_order 118 = .ok (.ireturn, 1) := by decide +kernel
theorem dX11_order_119 : decode cX11_order 119 = .ok (.iload 5, 2) := by decide +kernel
theorem dX11_order_121 : decode cX11_order 121 = .ok (.iconst 4, 1) := by decide +kernel
theorem dX11_order_122 : decode cX11_order 122 = .ok (.if_icmp .eq 9, 3) := by decide +kernel
theorem dX11_order_125 : decode cX11_order 125 = .ok (.iload 5, 2) := by decide +kernel
theorem dX11_order_127 : decode cX11_order 127 = .ok (.iconst 5, 1) := by decide +kernel
theorem dX11_order_128 : decode cX11_order 128 = .ok (.if_icmp .ne 24, 3) := by decide +kernel
theorem dX11_order_131 : decode cX11_order 131 = .ok (.aload_n 0, 1) := by decide +kernel
theorem dX11_order_132 : decode cX11_order 132 = .ok (.iload_n 2, 1) := by decide +kernel
theorem dX11_order_133 : decode cX11_order 133 = .ok (.iload 4, 2) := by decide +kernel
theorem dX11_order_135 : decode cX11_order 135 = .ok (.iload 5, 2) := by decide +kernel
theorem dX11_order_137 : decode cX11_order 137 = .ok (.iconst 4, 1) := by decide +kernel
theorem dX11_order_138 : decode cX11_order 138 = .ok (.if_icmp .ne 7, 3) := by decide +kernel
theorem dX11_order_141 : decode cX11_order 141 = .ok (.iconst 1, 1) := by decide +kernel
theorem dX11_order_142 : decode cX11_order 142 = .ok (.goto 4, 3) := by decide +kernel
theorem dX11_order_145 : decode cX11_order 145 = .ok (.iconst 0, 1) := by decide +kernel
theorem dX11_order_146 : decode cX11_order 146 = .ok (.invokevirtual 253, 3) := by decide +kernel
theorem dX11_order_149 : decode cX11_order 149 = .ok (.goto 4, 3) := by decide +kernel
theorem dX11_order_152 : decode cX11_order 152 = .ok (.iconst 0, 1) := by decide +kernel
theorem dX11_order_153 : decode cX11_order 153 = .ok (.ireturn, 1) := by decide +kernel
theorem dX11_orderBoxes_0 : decode cX11_orderBoxes 0 = .ok (.aload_n 0, 1) := by decide +kernel
theorem dX11_orderBoxes_1 : decode cX11_orderBoxes 1 = .ok (.iload_n 1, 1) := by decide +kernel
theorem dX11_orderBoxes_2 : decode cX11_orderBoxes 2 = .ok (.invokevirtual 137, 3) := by decide +kernel
theorem dX11_orderBoxes_5 : decode cX11_orderBoxes 5 = .ok (.istore 4, 2) := by decide +kernel
theorem dX11_orderBoxes_7 : decode cX11_orderBoxes 7 = .ok (.aload_n 0, 1) := by decide +kernel
theorem dX11_orderBoxes_8 : decode cX11_orderBoxes 8 = .ok (.iload_n 2, 1) := by decide +kernel
theorem dX11_orderBoxes_9 : decode cX11_orderBoxes 9 = .ok (.invokevirtual 137, 3) := by decide +kernel
theorem dX11_orderBoxes_12 : decode cX11_orderBoxes 12 = .ok (.istore 5, 2) := by decide +kernel
theorem dX11_orderBoxes_14 : decode cX11_orderBoxes 14 = .ok (.iload 4, 2) := by decide +kernel
theorem dX11_orderBoxes_16 : decode cX11_orderBoxes 16 = .ok (.ifCond .le 156, 3) := by decide +kernel
theorem dX11_orderBoxes_19 : decode cX11_orderBoxes 19 = .ok (.iload 5, 2) := by decide +kernel
theorem dX11_orderBoxes_21 : decode cX11_orderBoxes 21 = .ok (.ifCond .le 151, 3) := by decide +kernel
theorem dX11_orderBoxes_24 : decode cX11_orderBoxes 24 = .ok (.iload_n 3, 1) := by decide +kernel
theorem dX11_orderBoxes_25 : decode cX11_orderBoxes 25 = .ok (.ifCond .eq 27, 3) := by decide +kernel
theorem dX11_orderBoxes_28 : decode cX11_orderBoxes 28 = .ok (.aload_n 0, 1) := by decide +kernel
theorem dX11_orderBoxes_29 : decode cX11_orderBoxes 29 = .ok (.getfield 7, 3) := by decide +kernel
theorem dX11_orderBoxes_32 : decode cX11_orderBoxes 32 = .ok (.iload 4, 2) := by decide +kernel
theorem dX11_orderBoxes_34 : decode cX11_orderBoxes 34 = .ok (.iaload, 1) := by decide +kernel
theorem dX11_orderBoxes_35 : decode cX11_orderBoxes 35 = .ok (.invokestatic 246, 3) := by decide +kernel
theorem dX11_orderBoxes_38 : decode cX11_orderBoxes 38 = .ok (.aload_n 0, 1) := by decide +kernel
theorem dX11_orderBoxes_39 : decode cX11_orderBoxes 39 = .ok (.getfield 7, 3) := by decide +kernel
theorem dX11_orderBoxes_42 : decode cX11_orderBoxes 42 = .ok (.iload 5, 2) := by decide +kernel
theorem dX11_orderBoxes_44 : decode cX11_orderBoxes 44 = .ok (.iaload, 1) := by decide +kernel
theorem dX11_orderBoxes_45 : decode cX11_orderBoxes 45 = .ok (.invokestatic 246, 3) := by decide +kernel
theorem dX11_orderBoxes_48 : decode cX11_orderBoxes 48 = .ok (.isub, 1) := by decide +kernel
theorem dX11_orderBoxes_49 : decode cX11_orderBoxes 49 = .ok (.goto 4, 3) := by decide +kernel
theorem dX11_orderBoxes_52 : decode cX11_orderBoxes 52 = .ok (.iconst 0, 1) := by decide +kernel
theorem dX11_orderBoxes_53 : decode cX11_orderBoxes 53 = .ok (.istore 6, 2) := by decide +kernel
theorem dX11_orderBoxes_55 : decode cX11_orderBoxes 55 = .ok (.iload 6, 2) := by decide +kernel
theorem dX11_orderBoxes_57 : decode cX11_orderBoxes 57 = .ok (.ifCond .ne 43, 3) := by decide +kernel
theorem dX11_orderBoxes_60 : decode cX11_orderBoxes 60 = .ok (.iload_n 3, 1) := by decide +kernel
theorem dX11_orderBoxes_61 : decode cX11_orderBoxes 61 = .ok (.ifCond .eq 39, 3) := by decide +kernel
theorem dX11_orderBoxes_64 : decode cX11_orderBoxes 64 = .ok (.aload_n 0, 1) := by decide +kernel
theorem dX11_orderBoxes_65 : decode cX11_orderBoxes 65 = .ok (.iload 4, 2) := by decide +kernel
theorem dX11_orderBoxes_67 : decode cX11_orderBoxes 67 = .ok (.iconst 1, 1) := by decide +kernel
theorem dX11_orderBoxes_68 : decode cX11_orderBoxes 68 = .ok (.iadd, 1) := by decide +kernel
theorem dX11_orderBoxes_69 : decode cX11_orderBoxes 69 = .ok (.aload_n 0, 1) := by decide +kernel
theorem dX11_orderBoxes_70 : decode cX11_orderBoxes 70 = .ok (.iload 4, 2) := by decide +kernel
theorem dX11_orderBoxes_72 : decode cX11_orderBoxes 72 = .ok (.invokevirtual 125, 3) := by decide +kernel
theorem dX11_orderBoxes_75 : decode cX11_orderBoxes 75 = .ok (.iload 4, 2) := by decide +kernel
theorem dX11_orderBoxes_77 : decode cX11_orderBoxes 77 = .ok (.isub, 1) := by decide +kernel
theorem dX11_orderBoxes_78 : decode cX11_orderBoxes 78 = .ok (.iconst 1, 1) := by decide +kernel
theorem dX11_orderBoxes_79 : decode cX11_orderBoxes 79 = .ok (.isub, 1) := by decide +kernel
theorem dX11_orderBoxes_80 : decode cX11_orderBoxes 80 = .ok (.iload 5, 2) := by decide +kernel
theorem dX11_orderBoxes_82 : decode cX11_orderBoxes 82 = .ok (.iconst 1, 1) := by decide +kernel
theorem dX11_orderBoxes_83 : decode cX11_orderBoxes 83 = .ok (.iadd, 1) := by decide +kernel
theorem dX11_orderBoxes_84 : decode cX11_orderBoxes 84 = .ok (.aload_n 0, 1) := by decide +kernel
theorem dX11_orderBoxes_85 : decode cX11_orderBoxes 85 = .ok (.iload 5, 2) := by decide +kernel
theorem dX11_orderBoxes_87 : decode cX11_orderBoxes 87 = .ok (.invokevirtual 125, 3) := by decide +kernel
theorem dX11_orderBoxes_90 : decode cX11_orderBoxes 90 = .ok (.iload 5, 2) := by decide +kernel
theorem dX11_orderBoxes_92 : decode cX11_orderBoxes 92 = .ok (.isub, 1) := by decide +kernel
theorem dX11_orderBoxes_93 : decode cX11_orderBoxes 93 = .ok (.iconst 1, 1) := by decide +kernel
theorem dX11_orderBoxes_94 : decode cX11_orderBoxes 94 = .ok (.isub, 1) := by decide +kernel
theorem dX11_orderBoxes_95 : decode cX11_orderBoxes 95 = .ok (.invokevirtual 249, 3) := by decide +kernel
theorem dX11_orderBoxes_98 : decode cX11_orderBoxes 98 = .ok (.istore 6, 2) := by decide +kernel
theorem dX11_orderBoxes_100 : decode cX11_orderBoxes 100 = .ok (.iload 6, 2) := by decide +kernel
theorem dX11_orderBoxes_102 : decode cX11_orderBoxes 102 = .ok (.ifCond .ne 35, 3) := by decide +kernel
theorem dX11_orderBoxes_105 : decode cX11_orderBoxes 105 = .ok (.aload_n 0, 1) := by decide +kernel
theorem dX11_orderBoxes_106 : decode cX11_orderBoxes 106 = .ok (.aload_n 0, 1) := by decide +kernel
theorem dX11_orderBoxes_107 : decode cX11_orderBoxes 107 = .ok (.getfield 7, 3) := by decide +kernel
theorem dX11_orderBoxes_110 : decode cX11_orderBoxes 110 = .ok (.iload 4, 2) := by decide +kernel
theorem dX11_orderBoxes_112 : decode cX11_orderBoxes 112 = .ok (.iaload, 1) := by decide +kernel
theorem dX11_orderBoxes_113 : decode cX11_orderBoxes 113 = .ok (.aload_n 0, 1) := by decide +kernel
theorem dX11_orderBoxes_114 : decode cX11_orderBoxes 114 = .ok (.iload 4, 2) := by decide +kernel
theorem dX11_orderBoxes_116 : decode cX11_orderBoxes 116 = .ok (.invokevirtual 131, 3) := by decide +kernel
theorem dX11_orderBoxes_119 : decode cX11_orderBoxes 119 = .ok (.aload_n 0, 1) := by decide +kernel
theorem dX11_orderBoxes_120 : decode cX11_orderBoxes 120 = .ok (.getfield 7, 3) := by decide +kernel
theorem dX11_orderBoxes_123 : decode cX11_orderBoxes 123 = .ok (.iload 5, 2) := by decide +kernel
theorem dX11_orderBoxes_125 : decode cX11_orderBoxes 125 = .ok (.iaload, 1) := by decide +kernel
theorem dX11_orderBoxes_126 : decode cX11_orderBoxes 126 = .ok (.aload_n 0, 1) := by decide +kernel
theorem dX11_orderBoxes_127 : decode cX11_orderBoxes 127 = .ok (.iload 5, 2) := by decide +kernel
theorem dX11_orderBoxes_129 : decode cX11_orderBoxes 129 = .ok (.invokevirtual 131, 3) := by decide +kernel
theorem dX11_orderBoxes_132 : decode cX11_orderBoxes 132 = .ok (.invokevirtual 257, 3) := by decide +kernel
theorem dX11_orderBoxes_135 : decode cX11_orderBoxes 135 = .ok (.istore 6, 2) := by decide +kernel
theorem dX11_orderBoxes_137 : decode cX11_orderBoxes 137 = .ok (.iload 6, 2) := by decide +kernel
theorem dX11_orderBoxes_139 : decode cX11_orderBoxes 139 = .ok (.ifCond .eq 14, 3) := by decide +kernel
theorem dX11_orderBoxes_142 : decode cX11_orderBoxes 142 = .ok (.iload 6, 2) := by decide +kernel
theorem dX11_orderBoxes_144 : decode cX11_orderBoxes 144 = .ok (.ifCond .ge 7, 3) := by decide +kernel
theorem dX11_orderBoxes_147 : decode cX11_orderBoxes 147 = .ok (.iconst (-1), 1) := by decide +kernel
theorem dX11_orderBoxes_148 : decode cX11_orderBoxes 148 = .ok (.goto 4, 3) := by decide +kernel
theorem dX11_orderBoxes_151 : decode cX11_orderBoxes 151 = .ok (.iconst 1, 1) := by decide +kernel
theorem dX11_orderBoxes_152 : decode cX11_orderBoxes 152 = .ok (.ireturn, 1) := by decide +kernel
theorem dX11_orderBoxes_153 : decode cX11_orderBoxes 153 = .ok (.aload_n 0, 1) := by decide +kernel
theorem dX11_orderBoxes_154 : decode cX11_orderBoxes 154 = .ok (.iload 4, 2) := by decide +kernel
theorem dX11_orderBoxes_156 : decode cX11_orderBoxes 156 = .ok (.invokevirtual 140, 3) := by decide +kernel
theorem dX11_orderBoxes_159 : decode cX11_orderBoxes 159 = .ok (.istore 4, 2) := by decide +kernel
theorem dX11_orderBoxes_161 : decode cX11_orderBoxes 161 = .ok (.aload_n 0, 1) := by decide +kernel
theorem dX11_orderBoxes_162 : decode cX11_orderBoxes 162 = .ok (.iload 5, 2) := by decide +kernel
theorem dX11_orderBoxes_164 : decode cX11_orderBoxes 164 = .ok (.invokevirtual 140, 3) := by decide +kernel
theorem dX11_orderBoxes_167 : decode cX11_orderBoxes 167 = .ok (.istore 5, 2) := by decide +kernel
theorem dX11_orderBoxes_169 : decode cX11_orderBoxes 169 = .ok (.goto (-155), 3) := by decide +kernel
theorem dX11_orderBoxes_172 : decode cX11_orderBoxes 172 = .ok (.iload 4, 2) := by decide +kernel
theorem dX11_orderBoxes_174 : decode cX11_orderBoxes 174 = .ok (.ifCond .le 7, 3) := by decide +kernel
theorem dX11_orderBoxes_177 : decode cX11_orderBoxes 177 = .ok (.iconst 1, 1) := by decide +kernel
theorem dX11_orderBoxes_178 : decode cX11_orderBoxes 178 = .ok (.goto 13, 3) := by decide +kernel
theorem dX11_orderBoxes_181 : decode cX11_orderBoxes 181 = .ok (.iload 5, 2) := by decide +kernel
theorem dX11_orderBoxes_183 : decode cX11_orderBoxes 183 = .ok (.ifCond .le 7, 3) := by decide +kernel
theorem dX11_orderBoxes_186 : decode cX11_orderBoxes 186 = .ok (.iconst (-1), 1) := by decide +kernel
theorem dX11_orderBoxes_187 : decode cX11_orderBoxes 187 = .ok (.goto 4, 3) := by decide +kernel
theorem dX11_orderBoxes_190 : decode cX11_orderBoxes 190 = .ok (.iconst 0, 1) := by decide +kernel
theorem dX11_orderBoxes_191 : decode cX11_orderBoxes 191 = .ok (.ireturn, 1) := by decide +kernel
theorem dX11_isEqual_0 : decode cX11_isEqual 0 = .ok (.iload_n 1, 1) := by decide +kernel
theorem dX11_isEqual_1 : decode cX11_isEqual 1 = .ok (.ifCond .ne 15, 3) := by decide +kernel
theorem dX11_isEqual_4 : decode cX11_isEqual 4 = .ok (.iload_n 3, 1) := by decide +kernel
theorem dX11_isEqual_5 : decode cX11_isEqual 5 = .ok (.bipush 10, 2) := by decide +kernel
theorem dX11_isEqual_7 : decode cX11_isEqual 7 = .ok (.if_icmp .ne 7, 3) := by decide +kernel
theorem dX11_isEqual_10 : decode cX11_isEqual 10 = .ok (.iconst 1, 1) := by decide +kernel
theorem dX11_isEqual_11 : decode cX11_isEqual 11 = .ok (.goto 4, 3) := by decide +kernel
theorem dX11_isEqual_14 : decode cX11_isEqual 14 = .ok (.iconst 0, 1) := by decide +kernel
theorem dX11_isEqual_15 : decode cX11_isEqual 15 = .ok (.ireturn, 1) := by decide +kernel
theorem dX11_isEqual_16 : decode cX11_isEqual 16 = .ok (.aload_n 0, 1) := by decide +kernel
theorem dX11_isEqual_17 : decode cX11_isEqual 17 = .ok (.iload_n 1, 1) := by decide +kernel
theorem dX11_isEqual_18 : decode cX11_isEqual 18 = .ok (.iload_n 2, 1) := by decide +kernel
theorem dX11_isEqual_19 : decode cX11_isEqual 19 = .ok (.iload_n 3, 1) := by decide +kernel
theorem dX11_isEqual_20 : decode cX11_isEqual 20 = .ok (.iload 4, 2) := by decide +kernel
theorem dX11_isEqual_22 : decode cX11_isEqual 22 = .ok (.invokevirtual 257, 3) := by decide +kernel
theorem dX11_isEqual_25 : decode cX11_isEqual 25 = .ok (.ifCond .ne 5, 3) := by decide +kernel
theorem dX11_isEqual_28 : decode cX11_isEqual 28 = .ok (.iconst 1, 1) := by decide +kernel
theorem dX11_isEqual_29 : decode cX11_isEqual 29 = .ok (.ireturn, 1) := by decide +kernel
theorem dX11_isEqual_30 : decode cX11_isEqual 30 = .ok (.iconst 0, 1) := by decide +kernel
theorem dX11_isEqual_31 : decode cX11_isEqual 31 = .ok (.istore 5, 2) := by decide +kernel
theorem dX11_isEqual_33 : decode cX11_isEqual 33 = .ok (.iload_n 1, 1) := by decide +kernel
theorem dX11_isEqual_34 : decode cX11_isEqual 34 = .ok (.iconst 4, 1) := by decide +kernel
theorem dX11_isEqual_35 : decode cX11_isEqual 35 = .ok (.if_icmp .ne 61, 3) := by decide +kernel
theorem dX11_isEqual_38 : decode cX11_isEqual 38 = .ok (.aload_n 0, 1) := by decide +kernel
theorem dX11_isEqual_39 : decode cX11_isEqual 39 = .ok (.iload_n 2, 1) := by decide +kernel
theorem dX11_isEqual_40 : decode cX11_isEqual 40 = .ok (.invokevirtual 137, 3) := by decide +kernel
theorem dX11_isEqual_43 : decode cX11_isEqual 43 = .ok (.istore 6, 2) := by decide +kernel
theorem dX11_isEqual_45 : decode cX11_isEqual 45 = .ok (.iload 6, 2) := by decide +kernel
theorem dX11_isEqual_47 : decode cX11_isEqual 47 = .ok (.ifCond .le 49, 3) := by decide +kernel
theorem dX11_isEqual_50 : decode cX11_isEqual 50 = .ok (.iload 5, 2) := by decide +kernel
theorem dX11_isEqual_52 : decode cX11_isEqual 52 = .ok (.ifCond .ne 44, 3) := by decide +kernel
theorem dX11_isEqual_55 : decode cX11_isEqual 55 = .ok (.aload_n 0, 1) := by decide +kernel
theorem dX11_isEqual_56 : decode cX11_isEqual 56 = .ok (.aload_n 0, 1) := by decide +kernel
theorem dX11_isEqual_57 : decode cX11_isEqual 57 = .ok (.getfield 7, 3) := by decide +kernel
theorem dX11_isEqual_60 : decode cX11_isEqual 60 = .ok (.iload 6, 2) := by decide +kernel
theorem dX11_isEqual_62 : decode cX11_isEqual 62 = .ok (.iaload, 1) := by decide +kernel
theorem dX11_isEqual_63 : decode cX11_isEqual 63 = .ok (.aload_n 0, 1) := by decide +kernel
theorem dX11_isEqual_64 : decode cX11_isEqual 64 = .ok (.iload 6, 2) := by decide +kernel
theorem dX11_isEqual_66 : decode cX11_isEqual 66 = .ok (.invokevirtual 131, 3) := by decide +kernel
theorem dX11_isEqual_69 : decode cX11_isEqual 69 = .ok (.iload_n 3, 1) := by decide +kernel
theorem dX11_isEqual_70 : decode cX11_isEqual 70 = .ok (.iload 4, 2) := by decide +kernel
theorem dX11_isEqual_72 : decode cX11_isEqual 72 = .ok (.invokevirtual 257, 3) := by decide +kernel
theorem dX11_isEqual_75 : decode cX11_isEqual 75 = .ok (.ifCond .ne 7, 3) := by decide +kernel
theorem dX11_isEqual_78 : decode cX11_isEqual 78 = .ok (.iconst 1, 1) := by decide +kernel
theorem dX11_isEqual_79 : decode cX11_isEqual 79 = .ok (.goto 4, 3) := by decide +kernel
theorem dX11_isEqual_82 : decode cX11_isEqual 82 = .ok (.iconst 0, 1) := by decide +kernel
theorem dX11_isEqual_83 : decode cX11_isEqual 83 = .ok (.istore 5, 2) := by decide +kernel
theorem dX11_isEqual_85 : decode cX11_isEqual 85 = .ok (.aload_n 0, 1) := by decide +kernel
theorem dX11_isEqual_86 : decode cX11_isEqual 86 = .ok (.iload 6, 2) := by decide +kernel
theorem dX11_isEqual_88 : decode cX11_isEqual 88 = .ok (.invokevirtual 140, 3) := by decide +kernel
theorem dX11_isEqual_91 : decode cX11_isEqual 91 = .ok (.istore 6, 2) := by decide +kernel
theorem dX11_isEqual_93 : decode cX11_isEqual 93 = .ok (.goto (-48), 3) := by decide +kernel
theorem dX11_isEqual_96 : decode cX11_isEqual 96 = .ok (.iload 5, 2) := by decide +kernel
theorem dX11_isEqual_98 : decode cX11_isEqual 98 = .ok (.ireturn, 1) := by decide +kernel
theorem dX11_stands_0 : decode cX11_stands 0 = .ok (.iload_n 2, 1) := by decide +kernel
theorem dX11_stands_1 : decode cX11_stands 1 = .ok (.invokestatic 246, 3) := by decide +kernel
theorem dX11_stands_4 : decode cX11_stands 4 = .ok (.iload 4, 2) := by decide +kernel
theorem dX11_stands_6 : decode cX11_stands 6 = .ok (.invokestatic 246, 3) := by decide +kernel
theorem dX11_stands_9 : decode cX11_stands 9 = .ok (.if_icmp .eq 5, 3) := by decide +kernel
theorem dX11_stands_12 : decode cX11_stands 12 = .ok (.iconst 0, 1) := by decide +kernel
theorem dX11_stands_13 : decode cX11_stands 13 = .ok (.ireturn, 1) := by decide +kernel
theorem dX11_stands_14 : decode cX11_stands 14 = .ok (.aload_n 0, 1) := by decide +kernel
theorem dX11_stands_15 : decode cX11_stands 15 = .ok (.iload_n 2, 1) := by decide +kernel
theorem dX11_stands_16 : decode cX11_stands 16 = .ok (.iload_n 3, 1) := by decide +kernel
theorem dX11_stands_17 : decode cX11_stands 17 = .ok (.iload 4, 2) := by decide +kernel
theorem dX11_stands_19 : decode cX11_stands 19 = .ok (.iload 5, 2) := by decide +kernel
theorem dX11_stands_21 : decode cX11_stands 21 = .ok (.invokevirtual 257, 3) := by decide +kernel
theorem dX11_stands_24 : decode cX11_stands 24 = .ok (.istore 6, 2) := by decide +kernel
theorem dX11_stands_26 : decode cX11_stands 26 = .ok (.iload_n 1, 1) := by decide +kernel
theorem dX11_stands_27 : decode cX11_stands 27 = .ok (.iconst 5, 1) := by decide +kernel
theorem dX11_stands_28 : decode cX11_stands 28 = .ok (.if_icmp .ne 16, 3) := by decide +kernel
theorem dX11_stands_31 : decode cX11_stands 31 = .ok (.iload 6, 2) := by decide +kernel
theorem dX11_stands_33 : decode cX11_stands 33 = .ok (.ifCond .ge 7, 3) := by decide +kernel
theorem dX11_stands_36 : decode cX11_stands 36 = .ok (.iconst 1, 1) := by decide +kernel
theorem dX11_stands_37 : decode cX11_stands 37 = .ok (.goto 55, 3) := by decide +kernel
theorem dX11_stands_40 : decode cX11_stands 40 = .ok (.iconst 0, 1) := by decide +kernel
theorem dX11_stands_41 : decode cX11_stands 41 = .ok (.goto 51, 3) := by decide +kernel
theorem dX11_stands_44 : decode cX11_stands 44 = .ok (.iload_n 1, 1) := by decide +kernel
theorem dX11_stands_45 : decode cX11_stands 45 = .ok (.bipush 6, 2) := by decide +kernel
theorem dX11_stands_47 : decode cX11_stands 47 = .ok (.if_icmp .ne 16, 3) := by decide +kernel
theorem dX11_stands_50 : decode cX11_stands 50 = .ok (.iload 6, 2) := by decide +kernel
theorem dX11_stands_52 : decode cX11_stands 52 = .ok (.ifCond .gt 7, 3) := by decide +kernel
theorem dX11_stands_55 : decode cX11_stands 55 = .ok (.iconst 1, 1) := by decide +kernel
theorem dX11_stands_56 : decode cX11_stands 56 = .ok (.goto 36, 3) := by decide +kernel
theorem dX11_stands_59 : decode cX11_stands 59 = .ok (.iconst 0, 1) := by decide +kernel
theorem dX11_stands_60 : decode cX11_stands 60 = .ok (.goto 32, 3) := by decide +kernel
theorem dX11_stands_63 : decode cX11_stands 63 = .ok (.iload_n 1, 1) := by decide +kernel
theorem dX11_stands_64 : decode cX11_stands 64 = .ok (.bipush 7, 2) := by decide +kernel
theorem dX11_stands_66 : decode cX11_stands 66 = .ok (.if_icmp .ne 16, 3) := by decide +kernel
theorem dX11_stands_69 : decode cX11_stands 69 = .ok (.iload 6, 2) := by decide +kernel
theorem dX11_stands_71 : decode cX11_stands 71 = .ok (.ifCond .le 7, 3) := by decide +kernel
theorem dX11_stands_74 : decode cX11_stands 74 = .ok (.iconst 1, 1) := by decide +kernel
theorem dX11_stands_75 : decode cX11_stands 75 = .ok (.goto 17, 3) := by decide +kernel
theorem dX11_stands_78 : decode cX11_stands 78 = .ok (.iconst 0, 1) := by decide +kernel
theorem dX11_stands_79 : decode cX11_stands 79 = .ok (.goto 13, 3) := by decide +kernel
theorem dX11_stands_82 : decode cX11_stands 82 = .ok (.iload 6, 2) := by decide +kernel
theorem dX11_stands_84 : decode cX11_stands 84 = .ok (.ifCond .lt 7, 3) := by decide +kernel
theorem dX11_stands_87 : decode cX11_stands 87 = .ok (.iconst 1, 1) := by decide +kernel
theorem dX11_stands_88 : decode cX11_stands 88 = .ok (.goto 4, 3) := by decide +kernel
theorem dX11_stands_91 : decode cX11_stands 91 = .ok (.iconst 0, 1) := by decide +kernel
theorem dX11_stands_92 : decode cX11_stands 92 = .ok (.ireturn, 1) := by decide +kernel
theorem dX11_isSo_0 : decode cX11_isSo 0 = .ok (.iload_n 2, 1) := by decide +kernel
theorem dX11_isSo_1 : decode cX11_isSo 1 = .ok (.ifCond .ne 28, 3) := by decide +kernel
theorem dX11_isSo_4 : decode cX11_isSo 4 = .ok (.iload 4, 2) := by decide +kernel
theorem dX11_isSo_6 : decode cX11_isSo 6 = .ok (.bipush 10, 2) := by decide +kernel
theorem dX11_isSo_8 : decode cX11_isSo 8 = .ok (.if_icmp .ne 19, 3) := by decide +kernel
theorem dX11_isSo_11 : decode cX11_isSo 11 = .ok (.iload_n 1, 1) := by decide +kernel
theorem dX11_isSo_12 : decode cX11_isSo 12 = .ok (.bipush 6, 2) := by decide +kernel
theorem dX11_isSo_14 : decode cX11_isSo 14 = .ok (.if_icmp .eq 9, 3) := by decide +kernel
theorem dX11_isSo_17 : decode cX11_isSo 17 = .ok (.iload_n 1, 1) := by decide +kernel
theorem dX11_isSo_18 : decode cX11_isSo 18 = .ok (.bipush 8, 2) := by decide +kernel
theorem dX11_isSo_20 : decode cX11_isSo 20 = .ok (.if_icmp .ne 7, 3) := by decide +kernel
theorem dX11_isSo_23 : decode cX11_isSo 23 = .ok (.iconst 1, 1) := by decide +kernel
theorem dX11_isSo_24 : decode cX11_isSo 24 = .ok (.goto 4, 3) := by decide +kernel
theorem dX11_isSo_27 : decode cX11_isSo 27 = .ok (.iconst 0, 1) := by decide +kernel
theorem dX11_isSo_28 : decode cX11_isSo 28 = .ok (.ireturn, 1) := by decide +kernel
theorem dX11_isSo_29 : decode cX11_isSo 29 = .ok (.aload_n 0, 1) := by decide +kernel
theorem dX11_isSo_30 : decode cX11_isSo 30 = .ok (.iload_n 1, 1) := by decide +kernel
theorem dX11_isSo_31 : decode cX11_isSo 31 = .ok (.iload_n 2, 1) := by decide +kernel
theorem dX11_isSo_32 : decode cX11_isSo 32 = .ok (.iload_n 3, 1) := by decide +kernel
theorem dX11_isSo_33 : decode cX11_isSo 33 = .ok (.iload 4, 2) := by decide +kernel
theorem dX11_isSo_35 : decode cX11_isSo 35 = .ok (.iload 5, 2) := by decide +kernel
theorem dX11_isSo_37 : decode cX11_isSo 37 = .ok (.invokevirtual 260, 3) := by decide +kernel
theorem dX11_isSo_40 : decode cX11_isSo 40 = .ok (.istore 6, 2) := by decide +kernel
theorem dX11_isSo_42 : decode cX11_isSo 42 = .ok (.iload_n 2, 1) := by decide +kernel
theorem dX11_isSo_43 : decode cX11_isSo 43 = .ok (.iconst 4, 1) := by decide +kernel
theorem dX11_isSo_44 : decode cX11_isSo 44 = .ok (.if_icmp .ne 55, 3) := by decide +kernel
theorem dX11_isSo_47 : decode cX11_isSo 47 = .ok (.aload_n 0, 1) := by decide +kernel
theorem dX11_isSo_48 : decode cX11_isSo 48 = .ok (.iload_n 3, 1) := by decide +kernel
theorem dX11_isSo_49 : decode cX11_isSo 49 = .ok (.invokevirtual 137, 3) := by decide +kernel
theorem dX11_isSo_52 : decode cX11_isSo 52 = .ok (.istore 7, 2) := by decide +kernel
theorem dX11_isSo_54 : decode cX11_isSo 54 = .ok (.iload 7, 2) := by decide +kernel
theorem dX11_isSo_56 : decode cX11_isSo 56 = .ok (.ifCond .le 43, 3) := by decide +kernel
theorem dX11_isSo_59 : decode cX11_isSo 59 = .ok (.iload 6, 2) := by decide +kernel
theorem dX11_isSo_61 : decode cX11_isSo 61 = .ok (.ifCond .ne 38, 3) := by decide +kernel
theorem dX11_isSo_64 : decode cX11_isSo 64 = .ok (.aload_n 0, 1) := by decide +kernel
theorem dX11_isSo_65 : decode cX11_isSo 65 = .ok (.iload_n 1, 1) := by decide +kernel
theorem dX11_isSo_66 : decode cX11_isSo 66 = .ok (.aload_n 0, 1) := by decide +kernel
theorem dX11_isSo_67 : decode cX11_isSo 67 = .ok (.getfield 7, 3) := by decide +kernel
theorem dX11_isSo_70 : decode cX11_isSo 70 = .ok (.iload 7, 2) := by decide +kernel
theorem dX11_isSo_72 : decode cX11_isSo 72 = .ok (.iaload, 1) := by decide +kernel
theorem dX11_isSo_73 : decode cX11_isSo 73 = .ok (.aload_n 0, 1) := by decide +kernel
theorem dX11_isSo_74 : decode cX11_isSo 74 = .ok (.iload 7, 2) := by decide +kernel
theorem dX11_isSo_76 : decode cX11_isSo 76 = .ok (.invokevirtual 131, 3) := by decide +kernel
theorem dX11_isSo_79 : decode cX11_isSo 79 = .ok (.iload 4, 2) := by decide +kernel
theorem dX11_isSo_81 : decode cX11_isSo 81 = .ok (.iload 5, 2) := by decide +kernel
theorem dX11_isSo_83 : decode cX11_isSo 83 = .ok (.invokevirtual 260, 3) := by decide +kernel
theorem dX11_isSo_86 : decode cX11_isSo 86 = .ok (.istore 6, 2) := by decide +kernel
theorem dX11_isSo_88 : decode cX11_isSo 88 = .ok (.aload_n 0, 1) := by decide +kernel
theorem dX11_isSo_89 : decode cX11_isSo 89 = .ok (.iload 7, 2) := by decide +kernel
theorem dX11_isSo_91 : decode cX11_isSo 91 = .ok (.invokevirtual 140, 3) := by decide +kernel
theorem dX11_isSo_94 : decode cX11_isSo 94 = .ok (.istore 7, 2) := by decide +kernel
theorem dX11_isSo_96 : decode cX11_isSo 96 = .ok (.goto (-42), 3) := by decide +kernel
theorem dX11_isSo_99 : decode cX11_isSo 99 = .ok (.iload 6, 2) := by decide +kernel
theorem dX11_isSo_101 : decode cX11_isSo 101 = .ok (.ireturn, 1) := by decide +kernel
theorem dX11_hasItem_0 : decode cX11_hasItem 0 = .ok (.aload_n 0, 1) := by decide +kernel
theorem dX11_hasItem_1 : decode cX11_hasItem 1 = .ok (.iload_n 2, 1) := by decide +kernel
theorem dX11_hasItem_2 : decode cX11_hasItem 2 = .ok (.invokevirtual 240, 3) := by decide +kernel
theorem dX11_hasItem_5 : decode cX11_hasItem 5 = .ok (.istore_n 3, 1) := by decide +kernel
theorem dX11_hasItem_6 : decode cX11_hasItem 6 = .ok (.aload_n 0, 1) := by decide +kernel
theorem dX11_hasItem_7 : decode cX11_hasItem 7 = .ok (.iload_n 1, 1) := by decide +kernel
theorem dX11_hasItem_8 : decode cX11_hasItem 8 = .ok (.invokevirtual 137, 3) := by decide +kernel
theorem dX11_hasItem_11 : decode cX11_hasItem 11 = .ok (.istore 4, 2) := by decide +kernel
theorem dX11_hasItem_13 : decode cX11_hasItem 13 = .ok (.iload 4, 2) := by decide +kernel
theorem dX11_hasItem_15 : decode cX11_hasItem 15 = .ok (.ifCond .le 70, 3) := by decide +kernel
theorem dX11_hasItem_18 : decode cX11_hasItem 18 = .ok (.iload_n 3, 1) := by decide +kernel
theorem dX11_hasItem_19 : decode cX11_hasItem 19 = .ok (.ifCond .eq 28, 3) := by decide +kernel
theorem dX11_hasItem_22 : decode cX11_hasItem 22 = .ok (.aload_n 0, 1) := by decide +kernel
theorem dX11_hasItem_23 : decode cX11_hasItem 23 = .ok (.iload_n 2, 1) := by decide +kernel
theorem dX11_hasItem_24 : decode cX11_hasItem 24 = .ok (.iconst 0, 1) := by decide +kernel
theorem dX11_hasItem_25 : decode cX11_hasItem 25 = .ok (.aload_n 0, 1) := by decide +kernel
theorem dX11_hasItem_26 : decode cX11_hasItem 26 = .ok (.getfield 7, 3) := by decide +kernel
theorem dX11_hasItem_29 : decode cX11_hasItem 29 = .ok (.iload 4, 2) := by decide +kernel
theorem dX11_hasItem_31 : decode cX11_hasItem 31 = .ok (.iaload, 1) := by decide +kernel
theorem dX11_hasItem_32 : decode cX11_hasItem 32 = .ok (.aload_n 0, 1) := by decide +kernel
theorem dX11_hasItem_33 : decode cX11_hasItem 33 = .ok (.iload 4, 2) := by decide +kernel
theorem dX11_hasItem_35 : decode cX11_hasItem 35 = .ok (.invokevirtual 131, 3) := by decide +kernel
theorem dX11_hasItem_38 : decode cX11_hasItem 38 = .ok (.invokevirtual 264, 3) := by decide +kernel
theorem dX11_hasItem_41 : decode cX11_hasItem 41 = .ok (.ifCond .eq 33, 3) := by decide +kernel
theorem dX11_hasItem_44 : decode cX11_hasItem 44 = .ok (.goto 28, 3) := by decide +kernel
theorem dX11_hasItem_47 : decode cX11_hasItem 47 = .ok (.aload_n 0, 1) := by decide +kernel
theorem dX11_hasItem_48 : decode cX11_hasItem 48 = .ok (.getfield 7, 3) := by decide +kernel
theorem dX11_hasItem_51 : decode cX11_hasItem 51 = .ok (.iload 4, 2) := by decide +kernel
theorem dX11_hasItem_53 : decode cX11_hasItem 53 = .ok (.iaload, 1) := by decide +kernel
theorem dX11_hasItem_54 : decode cX11_hasItem 54 = .ok (.iconst 3, 1) := by decide +kernel
theorem dX11_hasItem_55 : decode cX11_hasItem 55 = .ok (.if_icmp .ne 19, 3) := by decide +kernel
theorem dX11_hasItem_58 : decode cX11_hasItem 58 = .ok (.aload_n 0, 1) := by decide +kernel
theorem dX11_hasItem_59 : decode cX11_hasItem 59 = .ok (.iload_n 2, 1) := by decide +kernel
theorem dX11_hasItem_60 : decode cX11_hasItem 60 = .ok (.aload_n 0, 1) := by decide +kernel
theorem dX11_hasItem_61 : decode cX11_hasItem 61 = .ok (.iload 4, 2) := by decide +kernel
theorem dX11_hasItem_63 : decode cX11_hasItem 63 = .ok (.invokevirtual 131, 3) := by decide +kernel
theorem dX11_hasItem_66 : decode cX11_hasItem 66 = .ok (.invokevirtual 268, 3) := by decide +kernel
theorem dX11_hasItem_69 : decode cX11_hasItem 69 = .ok (.ifCond .eq 5, 3) := by decide +kernel
theorem dX11_hasItem_72 : decode cX11_hasItem 72 = .ok (.iconst 1, 1) := by decide +kernel
theorem dX11_hasItem_73 : decode cX11_hasItem 73 = .ok (.ireturn, 1) := by decide +kernel
theorem dX11_hasItem_74 : decode cX11_hasItem 74 = .ok (.aload_n 0, 1) := by decide +kernel
theorem dX11_hasItem_75 : decode cX11_hasItem 75 = .ok (.iload 4, 2) := by decide +kernel
theorem dX11_hasItem_77 : decode cX11_hasItem 77 = .ok (.invokevirtual 140, 3) := by decide +kernel
theorem dX11_hasItem_80 : decode cX11_hasItem 80 = .ok (.istore 4, 2) := by decide +kernel
theorem dX11_hasItem_82 : decode cX11_hasItem 82 = .ok (.goto (-69), 3) := by decide +kernel
theorem dX11_hasItem_85 : decode cX11_hasItem 85 = .ok (.iconst 0, 1) := by decide +kernel
theorem dX11_hasItem_86 : decode cX11_hasItem 86 = .ok (.ireturn, 1) := by decide +kernel
theorem dX11_does_0 : decode cX11_does 0 = .ok (.aload_n 0, 1) := by decide +kernel
theorem dX11_does_1 : decode cX11_does 1 = .ok (.iload_n 1, 1) := by decide +kernel
theorem dX11_does_2 : decode cX11_does 2 = .ok (.invokevirtual 234, 3) := by decide +kernel
theorem dX11_does_5 : decode cX11_does 5 = .ok (.istore 4, 2) := by decide +kernel
theorem dX11_does_7 : decode cX11_does 7 = .ok (.aload_n 0, 1) := by decide +kernel
theorem dX11_does_8 : decode cX11_does 8 = .ok (.getfield 7, 3) := by decide +kernel
theorem dX11_does_11 : decode cX11_does 11 = .ok (.iload_n 1, 1) := by decide +kernel
theorem dX11_does_12 : decode cX11_does 12 = .ok (.iaload, 1) := by decide +kernel
theorem dX11_does_13 : decode cX11_does 13 = .ok (.istore 5, 2) := by decide +kernel
theorem dX11_does_15 : decode cX11_does 15 = .ok (.aload_n 0, 1) := by decide +kernel
theorem dX11_does_16 : decode cX11_does 16 = .ok (.iload_n 1, 1) := by decide +kernel
theorem dX11_does_17 : decode cX11_does 17 = .ok (.invokevirtual 131, 3) := by decide +kernel
theorem dX11_does_20 : decode cX11_does 20 = .ok (.istore 6, 2) := by decide +kernel
theorem dX11_does_22 : decode cX11_does 22 = .ok (.iload 4, 2) := by decide +kernel
theorem dX11_does_24 : decode cX11_does 24 = .ok (.iconst 3, 1) := by decide +kernel
theorem dX11_does_25 : decode cX11_does 25 = .ok (.if_icmp .ge 14, 3) := by decide +kernel
theorem dX11_does_28 : decode cX11_does 28 = .ok (.aload_n 0, 1) := by decide +kernel
theorem dX11_does_29 : decode cX11_does 29 = .ok (.iload_n 2, 1) := by decide +kernel
theorem dX11_does_30 : decode cX11_does 30 = .ok (.iload_n 3, 1) := by decide +kernel
theorem dX11_does_31 : decode cX11_does 31 = .ok (.iload 5, 2) := by decide +kernel
theorem dX11_does_33 : decode cX11_does 33 = .ok (.iload 6, 2) := by decide +kernel
theorem dX11_does_35 : decode cX11_does 35 = .ok (.invokevirtual 271, 3) := by decide +kernel
theorem dX11_does_38 : decode cX11_does 38 = .ok (.ireturn, 1) := by decide +kernel
theorem dX11_does_39 : decode cX11_does 39 = .ok (.iload 4, 2) := by decide +kernel
theorem dX11_does_41 : decode cX11_does 41 = .ok (.iconst 5, 1) := by decide +kernel
theorem dX11_does_42 : decode cX11_does 42 = .ok (.if_icmp .ge 59, 3) := by decide +kernel
theorem dX11_does_45 : decode cX11_does 45 = .ok (.iconst 0, 1) := by decide +kernel
theorem dX11_does_46 : decode cX11_does 46 = .ok (.istore 7, 2) := by decide +kernel
theorem dX11_does_48 : decode cX11_does 48 = .ok (.aload_n 0, 1) := by decide +kernel
theorem dX11_does_49 : decode cX11_does 49 = .ok (.iload 6, 2) := by decide +kernel
theorem dX11_does_51 : decode cX11_does 51 = .ok (.invokevirtual 137, 3) := by decide +kernel
theorem dX11_does_54 : decode cX11_does 54 = .ok (.istore 8, 2) := by decide +kernel
theorem dX11_does_56 : decode cX11_does 56 = .ok (.iload 8, 2) := by decide +kernel
theorem dX11_does_58 : decode cX11_does 58 = .ok (.ifCond .le 40, 3) := by decide +kernel
theorem dX11_does_61 : decode cX11_does 61 = .ok (.iload 7, 2) := by decide +kernel
theorem dX11_does_63 : decode cX11_does 63 = .ok (.ifCond .ne 35, 3) := by decide +kernel
theorem dX11_does_66 : decode cX11_does 66 = .ok (.aload_n 0, 1) := by decide +kernel
theorem dX11_does_67 : decode cX11_does 67 = .ok (.iload_n 2, 1) := by decide +kernel
theorem dX11_does_68 : decode cX11_does 68 = .ok (.iload_n 3, 1) := by decide +kernel
theorem dX11_does_69 : decode cX11_does 69 = .ok (.aload_n 0, 1) := by decide +kernel
theorem dX11_does_70 : decode cX11_does 70 = .ok (.getfield 7, 3) := by decide +kernel
theorem dX11_does_73 : decode cX11_does 73 = .ok (.iload 8, 2) := by decide +kernel
theorem dX11_does_75 : decode cX11_does 75 = .ok (.iaload, 1) := by decide +kernel
theorem dX11_does_76 : decode cX11_does 76 = .ok (.aload_n 0, 1) := by decide +kernel
theorem dX11_does_77 : decode cX11_does 77 = .ok (.iload 8, 2) := by decide +kernel
theorem dX11_does_79 : decode cX11_does 79 = .ok (.invokevirtual 131, 3) := by decide +kernel
theorem dX11_does_82 : decode cX11_does 82 = .ok (.invokevirtual 271, 3) := by decide +kernel
theorem dX11_does_85 : decode cX11_does 85 = .ok (.istore 7, 2) := by decide +kernel
theorem dX11_does_87 : decode cX11_does 87 = .ok (.aload_n 0, 1) := by decide +kernel
theorem dX11_does_88 : decode cX11_does 88 = .ok (.iload 8, 2) := by decide +kernel
theorem dX11_does_90 : decode cX11_does 90 = .ok (.invokevirtual 140, 3) := by decide +kernel
theorem dX11_does_93 : decode cX11_does 93 = .ok (.istore 8, 2) := by decide +kernel
theorem dX11_does_95 : decode cX11_does 95 = .ok (.goto (-39), 3) := by decide +kernel
theorem dX11_does_98 : decode cX11_does 98 = .ok (.iload 7, 2) := by decide +kernel
theorem dX11_does_100 : decode cX11_does 100 = .ok (.ireturn, 1) := by decide +kernel
theorem dX11_does_101 : decode cX11_does 101 = .ok (.iload 4, 2) := by decide +kernel
theorem dX11_does_103 : decode cX11_does 103 = .ok (.bipush 9, 2) := by decide +kernel
theorem dX11_does_105 : decode cX11_does 105 = .ok (.if_icmp .ge 16, 3) := by decide +kernel
theorem dX11_does_108 : decode cX11_does 108 = .ok (.aload_n 0, 1) := by decide +kernel
theorem dX11_does_109 : decode cX11_does 109 = .ok (.iload 4, 2) := by decide +kernel
theorem dX11_does_111 : decode cX11_does 111 = .ok (.iload_n 2, 1) := by decide +kernel
theorem dX11_does_112 : decode cX11_does 112 = .ok (.iload_n 3, 1) := by decide +kernel
theorem dX11_does_113 : decode cX11_does 113 = .ok (.iload 5, 2) := by decide +kernel
theorem dX11_does_115 : decode cX11_does 115 = .ok (.iload 6, 2) := by decide +kernel
theorem dX11_does_117 : decode cX11_does 117 = .ok (.invokevirtual 274, 3) := by decide +kernel
theorem dX11_does_120 : decode cX11_does 120 = .ok (.ireturn, 1) := by decide +kernel
theorem dX11_does_121 : decode cX11_does 121 = .ok (.iload 4, 2) := by decide +kernel
theorem dX11_does_123 : decode cX11_does 123 = .ok (.bipush 9, 2) := by decide +kernel
theorem dX11_does_125 : decode cX11_does 125 = .ok (.if_icmp .ne 13, 3) := by decide +kernel
theorem dX11_does_128 : decode cX11_does 128 = .ok (.iload_n 2, 1) := by decide +kernel
theorem dX11_does_129 : decode cX11_does 129 = .ok (.ifCond .eq 7, 3) := by decide +kernel
theorem dX11_does_132 : decode cX11_does 132 = .ok (.iconst 1, 1) := by decide +kernel
theorem dX11_does_133 : decode cX11_does 133 = .ok (.goto 4, 3) := by decide +kernel
theorem dX11_does_136 : decode cX11_does 136 = .ok (.iconst 0, 1) := by decide +kernel
theorem dX11_does_137 : decode cX11_does 137 = .ok (.ireturn, 1) := by decide +kernel
theorem dX11_does_138 : decode cX11_does 138 = .ok (.iload_n 2, 1) := by decide +kernel
theorem dX11_does_139 : decode cX11_does 139 = .ok (.iconst 4, 1) := by decide +kernel
theorem dX11_does_140 : decode cX11_does 140 = .ok (.if_icmp .ne 45, 3) := by decide +kernel
theorem dX11_does_143 : decode cX11_does 143 = .ok (.iload 4, 2) := by decide +kernel
theorem dX11_does_145 : decode cX11_does 145 = .ok (.bipush 10, 2) := by decide +kernel
theorem dX11_does_147 : decode cX11_does 147 = .ok (.if_icmp .ne 24, 3) := by decide +kernel
theorem dX11_does_150 : decode cX11_does 150 = .ok (.aload_n 0, 1) := by decide +kernel
theorem dX11_does_151 : decode cX11_does 151 = .ok (.iload_n 3, 1) := by decide +kernel
theorem dX11_does_152 : decode cX11_does 152 = .ok (.invokevirtual 277, 3) := by decide +kernel
theorem dX11_does_155 : decode cX11_does 155 = .ok (.i2l, 1) := by decide +kernel
theorem dX11_does_156 : decode cX11_does 156 = .ok (.aload_n 0, 1) := by decide +kernel
theorem dX11_does_157 : decode cX11_does 157 = .ok (.iload 5, 2) := by decide +kernel
theorem dX11_does_159 : decode cX11_does 159 = .ok (.iload 6, 2) := by decide +kernel
theorem dX11_does_161 : decode cX11_does 161 = .ok (.invokevirtual 243, 3) := by decide +kernel
theorem dX11_does_164 : decode cX11_does 164 = .ok (.lcmp, 1) := by decide +kernel
theorem dX11_does_165 : decode cX11_does 165 = .ok (.ifCond .ne 20, 3) := by decide +kernel
theorem dX11_does_168 : decode cX11_does 168 = .ok (.goto 13, 3) := by decide +kernel
theorem dX11_does_171 : decode cX11_does 171 = .ok (.aload_n 0, 1) := by decide +kernel
theorem dX11_does_172 : decode cX11_does 172 = .ok (.iload_n 3, 1) := by decide +kernel
theorem dX11_does_173 : decode cX11_does 173 = .ok (.iload 6, 2) := by decide +kernel
theorem dX11_does_175 : decode cX11_does 175 = .ok (.invokevirtual 280, 3) := by decide +kernel
theorem dX11_does_178 : decode cX11_does 178 = .ok (.ifCond .eq 7, 3) := by decide +kernel
theorem dX11_does_181 : decode cX11_does 181 = .ok (.iconst 1, 1) := by decide +kernel
theorem dX11_does_182 : decode cX11_does 182 = .ok (.goto 4, 3) := by decide +kernel
theorem dX11_does_185 : decode cX11_does 185 = .ok (.iconst 0, 1) := by decide +kernel
theorem dX11_does_186 : decode cX11_does 186 = .ok (.ireturn, 1) := by decide +kernel
theorem dX11_some_0 : decode cX11_some 0 = .ok (.iload_n 3, 1) := by decide +kernel
theorem dX11_some_1 : decode cX11_some 1 = .ok (.ifCond .ne 44, 3) := by decide +kernel
theorem dX11_some_4 : decode cX11_some 4 = .ok (.aload_n 0, 1) := by decide +kernel
theorem dX11_some_5 : decode cX11_some 5 = .ok (.iconst 1, 1) := by decide +kernel
theorem dX11_some_6 : decode cX11_some 6 = .ok (.putfield 283, 3) := by decide +kernel
theorem dX11_some_9 : decode cX11_some 9 = .ok (.iload_n 1, 1) := by decide +kernel
theorem dX11_some_10 : decode cX11_some 10 = .ok (.ifCond .le 15, 3) := by decide +kernel
theorem dX11_some_13 : decode cX11_some 13 = .ok (.aload_n 0, 1) := by decide +kernel
theorem dX11_some_14 : decode cX11_some 14 = .ok (.iload_n 1, 1) := by decide +kernel
theorem dX11_some_15 : decode cX11_some 15 = .ok (.iload 4, 2) := by decide +kernel
theorem dX11_some_17 : decode cX11_some 17 = .ok (.iload 5, 2) := by decide +kernel
theorem dX11_some_19 : decode cX11_some 19 = .ok (.invokevirtual 287, 3) := by decide +kernel
theorem dX11_some_22 : decode cX11_some 22 = .ok (.goto 22, 3) := by decide +kernel
theorem dX11_some_25 : decode cX11_some 25 = .ok (.aload_n 0, 1) := by decide +kernel
theorem dX11_some_26 : decode cX11_some 26 = .ok (.iload 4, 2) := by decide +kernel
theorem dX11_some_28 : decode cX11_some 28 = .ok (.iload 5, 2) := by decide +kernel
theorem dX11_some_30 : decode cX11_some 30 = .ok (.aload_n 0, 1) := by decide +kernel
theorem dX11_some_31 : decode cX11_some 31 = .ok (.getfield 7, 3) := by decide +kernel
theorem dX11_some_34 : decode cX11_some 34 = .ok (.iload_n 2, 1) := by decide +kernel
theorem dX11_some_35 : decode cX11_some 35 = .ok (.iaload, 1) := by decide +kernel
theorem dX11_some_36 : decode cX11_some 36 = .ok (.aload_n 0, 1) := by decide +kernel
theorem dX11_some_37 : decode cX11_some 37 = .ok (.iload_n 2, 1) := by decide +kernel
theorem dX11_some_38 : decode cX11_some 38 = .ok (.invokevirtual 131, 3) := by decide +kernel
theorem dX11_some_41 : decode cX11_some 41 = .ok (.invokevirtual 271, 3) := by decide +kernel
theorem dX11_some_44 : decode cX11_some 44 = .ok (.ireturn, 1) := by decide +kernel
theorem dX11_some_45 : decode cX11_some 45 = .ok (.iload 4, 2) := by decide +kernel
theorem dX11_some_47 : decode cX11_some 47 = .ok (.iconst 3, 1) := by decide +kernel
theorem dX11_some_48 : decode cX11_some 48 = .ok (.if_icmp .eq 19, 3) := by decide +kernel
theorem dX11_some_51 : decode cX11_some 51 = .ok (.iload 4, 2) := by decide +kernel
theorem dX11_some_53 : decode cX11_some 53 = .ok (.iconst 4, 1) := by decide +kernel
theorem dX11_some_54 : decode cX11_some 54 = .ok (.if_icmp .eq 13, 3) := by decide +kernel
theorem dX11_some_57 : decode cX11_some 57 = .ok (.aload_n 0, 1) := by decide +kernel
theorem dX11_some_58 : decode cX11_some 58 = .ok (.iload_n 1, 1) := by decide +kernel
theorem dX11_some_59 : decode cX11_some 59 = .ok (.iload_n 2, 1) := by decide +kernel
theorem dX11_some_60 : decode cX11_some 60 = .ok (.iconst 0, 1) := by decide +kernel
theorem dX11_some_61 : decode cX11_some 61 = .ok (.iconst 0, 1) := by decide +kernel
theorem dX11_some_62 : decode cX11_some 62 = .ok (.iconst 0, 1) := by decide +kernel
theorem dX11_some_63 : decode cX11_some 63 = .ok (.invokevirtual 290, 3) := by decide +kernel
theorem dX11_some_66 : decode cX11_some 66 = .ok (.ireturn, 1) := by decide +kernel
theorem dX11_some_67 : decode cX11_some 67 = .ok (.iconst 0, 1) := by decide +kernel
theorem dX11_some_68 : decode cX11_some 68 = .ok (.istore 6, 2) := by decide +kernel
theorem dX11_some_70 : decode cX11_some 70 = .ok (.aload_n 0, 1) := by decide +kernel
theorem dX11_some_71 : decode cX11_some 71 = .ok (.iload 5, 2) := by decide +kernel
theorem dX11_some_73 : decode cX11_some 73 = .ok (.invokevirtual 137, 3) := by decide +kernel
theorem dX11_some_76 : decode cX11_some 76 = .ok (.istore 7, 2) := by decide +kernel
theorem dX11_some_78 : decode cX11_some 78 = .ok (.iload 7, 2) := by decide +kernel
theorem dX11_some_80 : decode cX11_some 80 = .ok (.ifCond .le 37, 3) := by decide +kernel
theorem dX11_some_83 : decode cX11_some 83 = .ok (.iload 6, 2) := by decide +kernel
theorem dX11_some_85 : decode cX11_some 85 = .ok (.ifCond .ne 32, 3) := by decide +kernel
theorem dX11_some_88 : decode cX11_some 88 = .ok (.aload_n 0, 1) := by decide +kernel
theorem dX11_some_89 : decode cX11_some 89 = .ok (.iload_n 3, 1) := by decide +kernel
theorem dX11_some_90 : decode cX11_some 90 = .ok (.iload 7, 2) := by decide +kernel
theorem dX11_some_92 : decode cX11_some 92 = .ok (.invokevirtual 293, 3) := by decide +kernel
theorem dX11_some_95 : decode cX11_some 95 = .ok (.ifCond .eq 8, 3) := by decide +kernel
theorem dX11_some_98 : decode cX11_some 98 = .ok (.iload 7, 2) := by decide +kernel
theorem dX11_some_100 : decode cX11_some 100 = .ok (.goto 4, 3) := by decide +kernel
theorem dX11_some_103 : decode cX11_some 103 = .ok (.iconst 0, 1) := by decide +kernel
theorem dX11_some_104 : decode cX11_some 104 = .ok (.istore 6, 2) := by decide +kernel
theorem dX11_some_106 : decode cX11_some 106 = .ok (.aload_n 0, 1) := by decide +kernel
theorem dX11_some_107 : decode cX11_some 107 = .ok (.iload 7, 2) := by decide +kernel
theorem dX11_some_109 : decode cX11_some 109 = .ok (.invokevirtual 140, 3) := by decide +kernel
theorem dX11_some_112 : decode cX11_some 112 = .ok (.istore 7, 2) := by decide +kernel
theorem dX11_some_114 : decode cX11_some 114 = .ok (.goto (-36), 3) := by decide +kernel
theorem dX11_some_117 : decode cX11_some 117 = .ok (.iload 4, 2) := by decide +kernel
theorem dX11_some_119 : decode cX11_some 119 = .ok (.iconst 3, 1) := by decide +kernel
theorem dX11_some_120 : decode cX11_some 120 = .ok (.if_icmp .ne 45, 3) := by decide +kernel
theorem dX11_some_123 : decode cX11_some 123 = .ok (.iload 6, 2) := by decide +kernel
theorem dX11_some_125 : decode cX11_some 125 = .ok (.ifCond .le 30, 3) := by decide +kernel
theorem dX11_some_128 : decode cX11_some 128 = .ok (.aload_n 0, 1) := by decide +kernel
theorem dX11_some_129 : decode cX11_some 129 = .ok (.iload_n 1, 1) := by decide +kernel
theorem dX11_some_130 : decode cX11_some 130 = .ok (.iload_n 2, 1) := by decide +kernel
theorem dX11_some_131 : decode cX11_some 131 = .ok (.aload_n 0, 1) := by decide +kernel
theorem dX11_some_132 : decode cX11_some 132 = .ok (.iload_n 3, 1) := by decide +kernel
theorem dX11_some_133 : decode cX11_some 133 = .ok (.invokevirtual 296, 3) := by decide +kernel
theorem dX11_some_136 : decode cX11_some 136 = .ok (.aload_n 0, 1) := by decide +kernel
theorem dX11_some_137 : decode cX11_some 137 = .ok (.getfield 7, 3) := by decide +kernel
theorem dX11_some_140 : decode cX11_some 140 = .ok (.iload 6, 2) := by decide +kernel
theorem dX11_some_142 : decode cX11_some 142 = .ok (.iaload, 1) := by decide +kernel
theorem dX11_some_143 : decode cX11_some 143 = .ok (.aload_n 0, 1) := by decide +kernel
theorem dX11_some_144 : decode cX11_some 144 = .ok (.iload 6, 2) := by decide +kernel
theorem dX11_some_146 : decode cX11_some 146 = .ok (.invokevirtual 131, 3) := by decide +kernel
theorem dX11_some_149 : decode cX11_some 149 = .ok (.invokevirtual 290, 3) := by decide +kernel
theorem dX11_some_152 : decode cX11_some 152 = .ok (.goto 12, 3) := by decide +kernel
theorem dX11_some_155 : decode cX11_some 155 = .ok (.aload_n 0, 1) := by decide +kernel
theorem dX11_some_156 : decode cX11_some 156 = .ok (.iload_n 1, 1) := by decide +kernel
theorem dX11_some_157 : decode cX11_some 157 = .ok (.iload_n 2, 1) := by decide +kernel
theorem dX11_some_158 : decode cX11_some 158 = .ok (.iconst 0, 1) := by decide +kernel
theorem dX11_some_159 : decode cX11_some 159 = .ok (.iconst 0, 1) := by decide +kernel
theorem dX11_some_160 : decode cX11_some 160 = .ok (.iconst 0, 1) := by decide +kernel
theorem dX11_some_161 : decode cX11_some 161 = .ok (.invokevirtual 290, 3) := by decide +kernel
theorem dX11_some_164 : decode cX11_some 164 = .ok (.ireturn, 1) := by decide +kernel
theorem dX11_some_165 : decode cX11_some 165 = .ok (.iload 6, 2) := by decide +kernel
theorem dX11_some_167 : decode cX11_some 167 = .ok (.ifCond .le 32, 3) := by decide +kernel
theorem dX11_some_170 : decode cX11_some 170 = .ok (.aload_n 0, 1) := by decide +kernel
theorem dX11_some_171 : decode cX11_some 171 = .ok (.iload_n 1, 1) := by decide +kernel
theorem dX11_some_172 : decode cX11_some 172 = .ok (.iload_n 2, 1) := by decide +kernel
theorem dX11_some_173 : decode cX11_some 173 = .ok (.aload_n 0, 1) := by decide +kernel
theorem dX11_some_174 : decode cX11_some 174 = .ok (.iload_n 3, 1) := by decide +kernel
theorem dX11_some_175 : decode cX11_some 175 = .ok (.invokevirtual 296, 3) := by decide +kernel
theorem dX11_some_178 : decode cX11_some 178 = .ok (.aload_n 0, 1) := by decide +kernel
theorem dX11_some_179 : decode cX11_some 179 = .ok (.getfield 7, 3) := by decide +kernel
theorem dX11_some_182 : decode cX11_some 182 = .ok (.iload 6, 2) := by decide +kernel
theorem dX11_some_184 : decode cX11_some 184 = .ok (.iaload, 1) := by decide +kernel
theorem dX11_some_185 : decode cX11_some 185 = .ok (.aload_n 0, 1) := by decide +kernel
theorem dX11_some_186 : decode cX11_some 186 = .ok (.iload 6, 2) := by decide +kernel
theorem dX11_some_188 : decode cX11_some 188 = .ok (.invokevirtual 131, 3) := by decide +kernel
theorem dX11_some_191 : decode cX11_some 191 = .ok (.invokevirtual 290, 3) := by decide +kernel
theorem dX11_some_194 : decode cX11_some 194 = .ok (.ifCond .eq 5, 3) := by decide +kernel
theorem dX11_some_197 : decode cX11_some 197 = .ok (.iconst 1, 1) := by decide +kernel
theorem dX11_some_198 : decode cX11_some 198 = .ok (.ireturn, 1) := by decide +kernel
theorem dX11_some_199 : decode cX11_some 199 = .ok (.aload_n 0, 1) := by decide +kernel
theorem dX11_some_200 : decode cX11_some 200 = .ok (.iload 5, 2) := by decide +kernel
theorem dX11_some_202 : decode cX11_some 202 = .ok (.invokevirtual 137, 3) := by decide +kernel
theorem dX11_some_205 : decode cX11_some 205 = .ok (.istore 7, 2) := by decide +kernel
theorem dX11_some_207 : decode cX11_some 207 = .ok (.iload 7, 2) := by decide +kernel
theorem dX11_some_209 : decode cX11_some 209 = .ok (.ifCond .le 44, 3) := by decide +kernel
theorem dX11_some_212 : decode cX11_some 212 = .ok (.aload_n 0, 1) := by decide +kernel
theorem dX11_some_213 : decode cX11_some 213 = .ok (.getfield 7, 3) := by decide +kernel
theorem dX11_some_216 : decode cX11_some 216 = .ok (.iload 7, 2) := by decide +kernel
theorem dX11_some_218 : decode cX11_some 218 = .ok (.iaload, 1) := by decide +kernel
theorem dX11_some_219 : decode cX11_some 219 = .ok (.iconst 3, 1) := by decide +kernel
theorem dX11_some_220 : decode cX11_some 220 = .ok (.if_icmp .ne 22, 3) := by decide +kernel
theorem dX11_some_223 : decode cX11_some 223 = .ok (.aload_n 0, 1) := by decide +kernel
theorem dX11_some_224 : decode cX11_some 224 = .ok (.iload_n 1, 1) := by decide +kernel
theorem dX11_some_225 : decode cX11_some 225 = .ok (.iload_n 2, 1) := by decide +kernel
theorem dX11_some_226 : decode cX11_some 226 = .ok (.iload_n 3, 1) := by decide +kernel
theorem dX11_some_227 : decode cX11_some 227 = .ok (.iconst 3, 1) := by decide +kernel
theorem dX11_some_228 : decode cX11_some 228 = .ok (.aload_n 0, 1) := by decide +kernel
theorem dX11_some_229 : decode cX11_some 229 = .ok (.iload 7, 2) := by decide +kernel
theorem dX11_some_231 : decode cX11_some 231 = .ok (.invokevirtual 131, 3) := by decide +kernel
theorem dX11_some_234 : decode cX11_some 234 = .ok (.invokevirtual 290, 3) := by decide +kernel
theorem dX11_some_237 : decode cX11_some 237 = .ok (.ifCond .eq 5, 3) := by decide +kernel
theorem dX11_some_240 : decode cX11_some 240 = .ok (.iconst 1, 1) := by decide +kernel
theorem dX11_some_241 : decode cX11_some 241 = .ok (.ireturn, 1) := by decide +kernel
theorem dX11_some_242 : decode cX11_some 242 = .ok (.aload_n 0, 1) := by decide +kernel
theorem dX11_some_243 : decode cX11_some 243 = .ok (.iload 7, 2) := by decide +kernel
theorem dX11_some_245 : decode cX11_some 245 = .ok (.invokevirtual 140, 3) := by decide +kernel
theorem dX11_some_248 : decode cX11_some 248 = .ok (.istore 7, 2) := by decide +kernel
theorem dX11_some_250 : decode cX11_some 250 = .ok (.goto (-43), 3) := by decide +kernel
theorem dX11_some_253 : decode cX11_some 253 = .ok (.iconst 0, 1) := by decide +kernel
theorem dX11_some_254 : decode cX11_some 254 = .ok (.ireturn, 1) := by decide +kernel
theorem dX11_isStep_0 : decode cX11_isStep 0 = .ok (.iconst 0, 1) := by decide +kernel
theorem dX11_isStep_1 : decode cX11_isStep 1 = .ok (.istore_n 3, 1) := by decide +kernel
theorem dX11_isStep_2 : decode cX11_isStep 2 = .ok (.aload_n 0, 1) := by decide +kernel
theorem dX11_isStep_3 : decode cX11_isStep 3 = .ok (.getfield 7, 3) := by decide +kernel
theorem dX11_isStep_6 : decode cX11_isStep 6 = .ok (.iload_n 2, 1) := by decide +kernel
theorem dX11_isStep_7 : decode cX11_isStep 7 = .ok (.iconst 1, 1) := by decide +kernel
theorem dX11_isStep_8 : decode cX11_isStep 8 = .ok (.iadd, 1) := by decide +kernel
theorem dX11_isStep_9 : decode cX11_isStep 9 = .ok (.iload_n 3, 1) := by decide +kernel
theorem dX11_isStep_10 : decode cX11_isStep 10 = .ok (.iadd, 1) := by decide +kernel
theorem dX11_isStep_11 : decode cX11_isStep 11 = .ok (.iaload, 1) := by decide +kernel
theorem dX11_isStep_12 : decode cX11_isStep 12 = .ok (.ifCond .eq 43, 3) := by decide +kernel
theorem dX11_isStep_15 : decode cX11_isStep 15 = .ok (.aload_n 0, 1) := by decide +kernel
theorem dX11_isStep_16 : decode cX11_isStep 16 = .ok (.getfield 7, 3) := by decide +kernel
theorem dX11_isStep_19 : decode cX11_isStep 19 = .ok (.iload_n 2, 1) := by decide +kernel
theorem dX11_isStep_20 : decode cX11_isStep 20 = .ok (.iconst 1, 1) := by decide +kernel
theorem dX11_isStep_21 : decode cX11_isStep 21 = .ok (.iadd, 1) := by decide +kernel
theorem dX11_isStep_22 : decode cX11_isStep 22 = .ok (.iload_n 3, 1) := by decide +kernel
theorem dX11_isStep_23 : decode cX11_isStep 23 = .ok (.iadd, 1) := by decide +kernel
theorem dX11_isStep_24 : decode cX11_isStep 24 = .ok (.iaload, 1) := by decide +kernel
theorem dX11_isStep_25 : decode cX11_isStep 25 = .ok (.aload_n 0, 1) := by decide +kernel
theorem dX11_isStep_26 : decode cX11_isStep 26 = .ok (.getfield 7, 3) := by decide +kernel
theorem dX11_isStep_29 : decode cX11_isStep 29 = .ok (.iload_n 1, 1) := by decide +kernel
theorem dX11_isStep_30 : decode cX11_isStep 30 = .ok (.iload_n 3, 1) := by decide +kernel
theorem dX11_isStep_31 : decode cX11_isStep 31 = .ok (.iadd, 1) := by decide +kernel
theorem dX11_isStep_32 : decode cX11_isStep 32 = .ok (.iaload, 1) := by decide +kernel
theorem dX11_isStep_33 : decode cX11_isStep 33 = .ok (.if_icmp .ne 22, 3) := by decide +kernel
theorem dX11_isStep_36 : decode cX11_isStep 36 = .ok (.aload_n 0, 1) := by decide +kernel
theorem dX11_isStep_37 : decode cX11_isStep 37 = .ok (.getfield 7, 3) := by decide +kernel
theorem dX11_isStep_40 : decode cX11_isStep 40 = .ok (.iload_n 1, 1) := by decide +kernel
theorem dX11_isStep_41 : decode cX11_isStep 41 = .ok (.iload_n 3, 1) := by decide +kernel
theorem dX11_isStep_42 : decode cX11_isStep 42 = .ok (.iadd, 1) := by decide +kernel
theorem dX11_isStep_43 : decode cX11_isStep 43 = .ok (.iaload, 1) := by decide +kernel
theorem dX11_isStep_44 : decode cX11_isStep 44 = .ok (.bipush 46, 2) := by decide +kernel
theorem dX11_isStep_46 : decode cX11_isStep 46 = .ok (.if_icmp .eq 9, 3) := by decide +kernel
theorem dX11_isStep_49 : decode cX11_isStep 49 = .ok (.iinc 3 1, 3) := by decide +kernel
theorem dX11_isStep_52 : decode cX11_isStep 52 = .ok (.goto (-50), 3) := by decide +kernel
theorem dX11_isStep_55 : decode cX11_isStep 55 = .ok (.aload_n 0, 1) := by decide +kernel
theorem dX11_isStep_56 : decode cX11_isStep 56 = .ok (.getfield 7, 3) := by decide +kernel
theorem dX11_isStep_59 : decode cX11_isStep 59 = .ok (.iload_n 2, 1) := by decide +kernel
theorem dX11_isStep_60 : decode cX11_isStep 60 = .ok (.iconst 1, 1) := by decide +kernel
theorem dX11_isStep_61 : decode cX11_isStep 61 = .ok (.iadd, 1) := by decide +kernel
theorem dX11_isStep_62 : decode cX11_isStep 62 = .ok (.iload_n 3, 1) := by decide +kernel
theorem dX11_isStep_63 : decode cX11_isStep 63 = .ok (.iadd, 1) := by decide +kernel
theorem dX11_isStep_64 : decode cX11_isStep 64 = .ok (.iaload, 1) := by decide +kernel
theorem dX11_isStep_65 : decode cX11_isStep 65 = .ok (.ifCond .ne 31, 3) := by decide +kernel
theorem dX11_isStep_68 : decode cX11_isStep 68 = .ok (.aload_n 0, 1) := by decide +kernel
theorem dX11_isStep_69 : decode cX11_isStep 69 = .ok (.getfield 7, 3) := by decide +kernel
theorem dX11_isStep_72 : decode cX11_isStep 72 = .ok (.iload_n 1, 1) := by decide +kernel
theorem dX11_isStep_73 : decode cX11_isStep 73 = .ok (.iload_n 3, 1) := by decide +kernel
theorem dX11_isStep_74 : decode cX11_isStep 74 = .ok (.iadd, 1) := by decide +kernel
theorem dX11_isStep_75 : decode cX11_isStep 75 = .ok (.iaload, 1) := by decide +kernel
theorem dX11_isStep_76 : decode cX11_isStep 76 = .ok (.ifCond .eq 16, 3) := by decide +kernel
theorem dX11_isStep_79 : decode cX11_isStep 79 = .ok (.aload_n 0, 1) := by decide +kernel
theorem dX11_isStep_80 : decode cX11_isStep 80 = .ok (.getfield 7, 3) := by decide +kernel
theorem dX11_isStep_83 : decode cX11_isStep 83 = .ok (.iload_n 1, 1) := by decide +kernel
theorem dX11_isStep_84 : decode cX11_isStep 84 = .ok (.iload_n 3, 1) := by decide +kernel
theorem dX11_isStep_85 : decode cX11_isStep 85 = .ok (.iadd, 1) := by decide +kernel
theorem dX11_isStep_86 : decode cX11_isStep 86 = .ok (.iaload, 1) := by decide +kernel
theorem dX11_isStep_87 : decode cX11_isStep 87 = .ok (.bipush 46, 2) := by decide +kernel
theorem dX11_isStep_89 : decode cX11_isStep 89 = .ok (.if_icmp .ne 7, 3) := by decide +kernel
theorem dX11_isStep_92 : decode cX11_isStep 92 = .ok (.iconst 1, 1) := by decide +kernel
theorem dX11_isStep_93 : decode cX11_isStep 93 = .ok (.goto 4, 3) := by decide +kernel
theorem dX11_isStep_96 : decode cX11_isStep 96 = .ok (.iconst 0, 1) := by decide +kernel
theorem dX11_isStep_97 : decode cX11_isStep 97 = .ok (.ireturn, 1) := by decide +kernel
theorem dX11_nextStep_0 : decode cX11_nextStep 0 = .ok (.iload_n 1, 1) := by decide +kernel
theorem dX11_nextStep_1 : decode cX11_nextStep 1 = .ok (.istore_n 2, 1) := by decide +kernel
theorem dX11_nextStep_2 : decode cX11_nextStep 2 = .ok (.aload_n 0, 1) := by decide +kernel
theorem dX11_nextStep_3 : decode cX11_nextStep 3 = .ok (.getfield 7, 3) := by decide +kernel
theorem dX11_nextStep_6 : decode cX11_nextStep 6 = .ok (.iload_n 2, 1) := by decide +kernel
theorem dX11_nextStep_7 : decode cX11_nextStep 7 = .ok (.iaload, 1) := by decide +kernel
theorem dX11_nextStep_8 : decode cX11_nextStep 8 = .ok (.ifCond .eq 20, 3) := by decide +kernel
theorem dX11_nextStep_11 : decode cX11_nextStep 11 = .ok (.aload_n 0, 1) := by decide +kernel
theorem dX11_nextStep_12 : decode cX11_nextStep 12 = .ok (.getfield 7, 3) := by decide +kernel
theorem dX11_nextStep_15 : decode cX11_nextStep 15 = .ok (.iload_n 2, 1) := by decide +kernel
theorem dX11_nextStep_16 : decode cX11_nextStep 16 = .ok (.iaload, 1) := by decide +kernel
theorem dX11_nextStep_17 : decode cX11_nextStep 17 = .ok (.bipush 46, 2) := by decide +kernel
theorem dX11_nextStep_19 : decode cX11_nextStep 19 = .ok (.if_icmp .eq 9, 3) := by decide +kernel
theorem dX11_nextStep_22 : decode cX11_nextStep 22 = .ok (.iinc 2 1, 3) := by decide +kernel
theorem dX11_nextStep_25 : decode cX11_nextStep 25 = .ok (.goto (-23), 3) := by decide +kernel
theorem dX11_nextStep_28 : decode cX11_nextStep 28 = .ok (.aload_n 0, 1) := by decide +kernel
theorem dX11_nextStep_29 : decode cX11_nextStep 29 = .ok (.getfield 7, 3) := by decide +kernel
theorem dX11_nextStep_32 : decode cX11_nextStep 32 = .ok (.iload_n 2, 1) := by decide +kernel
theorem dX11_nextStep_33 : decode cX11_nextStep 33 = .ok (.iaload, 1) := by decide +kernel
theorem dX11_nextStep_34 : decode cX11_nextStep 34 = .ok (.ifCond .ne 7, 3) := by decide +kernel
theorem dX11_nextStep_37 : decode cX11_nextStep 37 = .ok (.iconst 0, 1) := by decide +kernel
theorem dX11_nextStep_38 : decode cX11_nextStep 38 = .ok (.goto 6, 3) := by decide +kernel
theorem dX11_nextStep_41 : decode cX11_nextStep 41 = .ok (.iload_n 2, 1) := by decide +kernel
theorem dX11_nextStep_42 : decode cX11_nextStep 42 = .ok (.iconst 1, 1) := by decide +kernel
theorem dX11_nextStep_43 : decode cX11_nextStep 43 = .ok (.iadd, 1) := by decide +kernel
theorem dX11_nextStep_44 : decode cX11_nextStep 44 = .ok (.ireturn, 1) := by decide +kernel
theorem dX11_any_0 : decode cX11_any 0 = .ok (.aload_n 0, 1) := by decide +kernel
theorem dX11_any_1 : decode cX11_any 1 = .ok (.getfield 283, 3) := by decide +kernel
theorem dX11_any_4 : decode cX11_any 4 = .ok (.istore 6, 2) := by decide +kernel
theorem dX11_any_6 : decode cX11_any 6 = .ok (.aload_n 0, 1) := by decide +kernel
theorem dX11_any_7 : decode cX11_any 7 = .ok (.iconst 0, 1) := by decide +kernel
theorem dX11_any_8 : decode cX11_any 8 = .ok (.putfield 283, 3) := by decide +kernel
theorem dX11_any_11 : decode cX11_any 11 = .ok (.aload_n 0, 1) := by decide +kernel
theorem dX11_any_12 : decode cX11_any 12 = .ok (.iload_n 1, 1) := by decide +kernel
theorem dX11_any_13 : decode cX11_any 13 = .ok (.iload_n 2, 1) := by decide +kernel
theorem dX11_any_14 : decode cX11_any 14 = .ok (.iload_n 3, 1) := by decide +kernel
theorem dX11_any_15 : decode cX11_any 15 = .ok (.iload 4, 2) := by decide +kernel
theorem dX11_any_17 : decode cX11_any 17 = .ok (.iload 5, 2) := by decide +kernel
theorem dX11_any_19 : decode cX11_any 19 = .ok (.invokevirtual 290, 3) := by decide +kernel
theorem dX11_any_22 : decode cX11_any 22 = .ok (.istore 7, 2) := by decide +kernel
theorem dX11_any_24 : decode cX11_any 24 = .ok (.iload 7, 2) := by decide +kernel
theorem dX11_any_26 : decode cX11_any 26 = .ok (.ifCond .ne 21, 3) := by decide +kernel
theorem dX11_any_29 : decode cX11_any 29 = .ok (.aload_n 0, 1) := by decide +kernel
theorem dX11_any_30 : decode cX11_any 30 = .ok (.getfield 283, 3) := by decide +kernel
theorem dX11_any_33 : decode cX11_any 33 = .ok (.ifCond .ne 14, 3) := by decide +kernel
theorem dX11_any_36 : decode cX11_any 36 = .ok (.aload_n 0, 1) := by decide +kernel
theorem dX11_any_37 : decode cX11_any 37 = .ok (.iload_n 1, 1) := by decide +kernel
theorem dX11_any_38 : decode cX11_any 38 = .ok (.iload_n 2, 1) := by decide +kernel
theorem dX11_any_39 : decode cX11_any 39 = .ok (.iconst 0, 1) := by decide +kernel
theorem dX11_any_40 : decode cX11_any 40 = .ok (.iconst 0, 1) := by decide +kernel
theorem dX11_any_41 : decode cX11_any 41 = .ok (.iconst 0, 1) := by decide +kernel
theorem dX11_any_42 : decode cX11_any 42 = .ok (.invokevirtual 290, 3) := by decide +kernel
theorem dX11_any_45 : decode cX11_any 45 = .ok (.istore 7, 2) := by decide +kernel
theorem dX11_any_47 : decode cX11_any 47 = .ok (.aload_n 0, 1) := by decide +kernel
theorem dX11_any_48 : decode cX11_any 48 = .ok (.iload 6, 2) := by decide +kernel
theorem dX11_any_50 : decode cX11_any 50 = .ok (.putfield 283, 3) := by decide +kernel
theorem dX11_any_53 : decode cX11_any 53 = .ok (.iload 7, 2) := by decide +kernel
theorem dX11_any_55 : decode cX11_any 55 = .ok (.ireturn, 1) := by decide +kernel
theorem dX11_holdsOne_0 : decode cX11_holdsOne 0 = .ok (.aload_n 0, 1) := by decide +kernel
theorem dX11_holdsOne_1 : decode cX11_holdsOne 1 = .ok (.iload_n 1, 1) := by decide +kernel
theorem dX11_holdsOne_2 : decode cX11_holdsOne 2 = .ok (.invokevirtual 234, 3) := by decide +kernel
theorem dX11_holdsOne_5 : decode cX11_holdsOne 5 = .ok (.istore 5, 2) := by decide +kernel
theorem dX11_holdsOne_7 : decode cX11_holdsOne 7 = .ok (.iload 5, 2) := by decide +kernel
theorem dX11_holdsOne_9 : decode cX11_holdsOne 9 = .ok (.bipush 12, 2) := by decide +kernel
theorem dX11_holdsOne_11 : decode cX11_holdsOne 11 = .ok (.if_icmp .ne 25, 3) := by decide +kernel
theorem dX11_holdsOne_14 : decode cX11_holdsOne 14 = .ok (.aload_n 0, 1) := by decide +kernel
theorem dX11_holdsOne_15 : decode cX11_holdsOne 15 = .ok (.aload_n 0, 1) := by decide +kernel
theorem dX11_holdsOne_16 : decode cX11_holdsOne 16 = .ok (.iload_n 1, 1) := by decide +kernel
theorem dX11_holdsOne_17 : decode cX11_holdsOne 17 = .ok (.invokevirtual 131, 3) := by decide +kernel
theorem dX11_holdsOne_20 : decode cX11_holdsOne 20 = .ok (.iload_n 2, 1) := by decide +kernel
theorem dX11_holdsOne_21 : decode cX11_holdsOne 21 = .ok (.iload_n 3, 1) := by decide +kernel
theorem dX11_holdsOne_22 : decode cX11_holdsOne 22 = .ok (.iload 4, 2) := by decide +kernel
theorem dX11_holdsOne_24 : decode cX11_holdsOne 24 = .ok (.invokevirtual 264, 3) := by decide +kernel
theorem dX11_holdsOne_27 : decode cX11_holdsOne 27 = .ok (.ifCond .ne 7, 3) := by decide +kernel
theorem dX11_holdsOne_30 : decode cX11_holdsOne 30 = .ok (.iconst 1, 1) := by decide +kernel
theorem dX11_holdsOne_31 : decode cX11_holdsOne 31 = .ok (.goto 4, 3) := by decide +kernel
theorem dX11_holdsOne_34 : decode cX11_holdsOne 34 = .ok (.iconst 0, 1) := by decide +kernel
theorem dX11_holdsOne_35 : decode cX11_holdsOne 35 = .ok (.ireturn, 1) := by decide +kernel
theorem dX11_holdsOne_36 : decode cX11_holdsOne 36 = .ok (.iload 5, 2) := by decide +kernel
theorem dX11_holdsOne_38 : decode cX11_holdsOne 38 = .ok (.bipush 9, 2) := by decide +kernel
theorem dX11_holdsOne_40 : decode cX11_holdsOne 40 = .ok (.if_icmp .ne 41, 3) := by decide +kernel
theorem dX11_holdsOne_43 : decode cX11_holdsOne 43 = .ok (.aload_n 0, 1) := by decide +kernel
theorem dX11_holdsOne_44 : decode cX11_holdsOne 44 = .ok (.iload_n 1, 1) := by decide +kernel
theorem dX11_holdsOne_45 : decode cX11_holdsOne 45 = .ok (.iconst 0, 1) := by decide +kernel
theorem dX11_holdsOne_46 : decode cX11_holdsOne 46 = .ok (.iload_n 2, 1) := by decide +kernel
theorem dX11_holdsOne_47 : decode cX11_holdsOne 47 = .ok (.iload_n 3, 1) := by decide +kernel
theorem dX11_holdsOne_48 : decode cX11_holdsOne 48 = .ok (.iload 4, 2) := by decide +kernel
theorem dX11_holdsOne_50 : decode cX11_holdsOne 50 = .ok (.invokevirtual 299, 3) := by decide +kernel
theorem dX11_holdsOne_53 : decode cX11_holdsOne 53 = .ok (.aload_n 0, 1) := by decide +kernel
theorem dX11_holdsOne_54 : decode cX11_holdsOne 54 = .ok (.getfield 7, 3) := by decide +kernel
theorem dX11_holdsOne_57 : decode cX11_holdsOne 57 = .ok (.aload_n 0, 1) := by decide +kernel
theorem dX11_holdsOne_58 : decode cX11_holdsOne 58 = .ok (.iload_n 1, 1) := by decide +kernel
theorem dX11_holdsOne_59 : decode cX11_holdsOne 59 = .ok (.invokevirtual 131, 3) := by decide +kernel
theorem dX11_holdsOne_62 : decode cX11_holdsOne 62 = .ok (.iaload, 1) := by decide +kernel
theorem dX11_holdsOne_63 : decode cX11_holdsOne 63 = .ok (.iconst 1, 1) := by decide +kernel
theorem dX11_holdsOne_64 : decode cX11_holdsOne 64 = .ok (.if_icmp .ne 7, 3) := by decide +kernel
theorem dX11_holdsOne_67 : decode cX11_holdsOne 67 = .ok (.iconst 1, 1) := by decide +kernel
theorem dX11_holdsOne_68 : decode cX11_holdsOne 68 = .ok (.goto 4, 3) := by decide +kernel
theorem dX11_holdsOne_71 : decode cX11_holdsOne 71 = .ok (.iconst 0, 1) := by decide +kernel
theorem dX11_holdsOne_72 : decode cX11_holdsOne 72 = .ok (.if_icmp .ne 7, 3) := by decide +kernel
theorem dX11_holdsOne_75 : decode cX11_holdsOne 75 = .ok (.iconst 1, 1) := by decide +kernel
theorem dX11_holdsOne_76 : decode cX11_holdsOne 76 = .ok (.goto 4, 3) := by decide +kernel
theorem dX11_holdsOne_79 : decode cX11_holdsOne 79 = .ok (.iconst 0, 1) := by decide +kernel
theorem dX11_holdsOne_80 : decode cX11_holdsOne 80 = .ok (.ireturn, 1) := by decide +kernel
theorem dX11_holdsOne_81 : decode cX11_holdsOne 81 = .ok (.aload_n 0, 1) := by decide +kernel
theorem dX11_holdsOne_82 : decode cX11_holdsOne 82 = .ok (.iload_n 1, 1) := by decide +kernel
theorem dX11_holdsOne_83 : decode cX11_holdsOne 83 = .ok (.iconst 0, 1) := by decide +kernel
theorem dX11_holdsOne_84 : decode cX11_holdsOne 84 = .ok (.iload_n 2, 1) := by decide +kernel
theorem dX11_holdsOne_85 : decode cX11_holdsOne 85 = .ok (.iload_n 3, 1) := by decide +kernel
theorem dX11_holdsOne_86 : decode cX11_holdsOne 86 = .ok (.iload 4, 2) := by decide +kernel
theorem dX11_holdsOne_88 : decode cX11_holdsOne 88 = .ok (.invokevirtual 299, 3) := by decide +kernel
theorem dX11_holdsOne_91 : decode cX11_holdsOne 91 = .ok (.iload 5, 2) := by decide +kernel
theorem dX11_holdsOne_93 : decode cX11_holdsOne 93 = .ok (.iconst 2, 1) := by decide +kernel
theorem dX11_holdsOne_94 : decode cX11_holdsOne 94 = .ok (.if_icmp .eq 9, 3) := by decide +kernel
theorem dX11_holdsOne_97 : decode cX11_holdsOne 97 = .ok (.iload 5, 2) := by decide +kernel
theorem dX11_holdsOne_99 : decode cX11_holdsOne 99 = .ok (.iconst 4, 1) := by decide +kernel
theorem dX11_holdsOne_100 : decode cX11_holdsOne 100 = .ok (.if_icmp .ne 7, 3) := by decide +kernel
theorem dX11_holdsOne_103 : decode cX11_holdsOne 103 = .ok (.iconst 1, 1) := by decide +kernel
theorem dX11_holdsOne_104 : decode cX11_holdsOne 104 = .ok (.goto 4, 3) := by decide +kernel
theorem dX11_holdsOne_107 : decode cX11_holdsOne 107 = .ok (.iconst 0, 1) := by decide +kernel
theorem dX11_holdsOne_108 : decode cX11_holdsOne 108 = .ok (.if_icmp .eq 7, 3) := by decide +kernel
theorem dX11_holdsOne_111 : decode cX11_holdsOne 111 = .ok (.iconst 1, 1) := by decide +kernel
theorem dX11_holdsOne_112 : decode cX11_holdsOne 112 = .ok (.goto 4, 3) := by decide +kernel
theorem dX11_holdsOne_115 : decode cX11_holdsOne 115 = .ok (.iconst 0, 1) := by decide +kernel
theorem dX11_holdsOne_116 : decode cX11_holdsOne 116 = .ok (.ireturn, 1) := by decide +kernel
theorem dX11_all_0 : decode cX11_all 0 = .ok (.aload_n 0, 1) := by decide +kernel
theorem dX11_all_1 : decode cX11_all 1 = .ok (.iload_n 1, 1) := by decide +kernel
theorem dX11_all_2 : decode cX11_all 2 = .ok (.invokevirtual 137, 3) := by decide +kernel
theorem dX11_all_5 : decode cX11_all 5 = .ok (.istore 5, 2) := by decide +kernel
theorem dX11_all_7 : decode cX11_all 7 = .ok (.iload 5, 2) := by decide +kernel
theorem dX11_all_9 : decode cX11_all 9 = .ok (.ifCond .le 29, 3) := by decide +kernel
theorem dX11_all_12 : decode cX11_all 12 = .ok (.aload_n 0, 1) := by decide +kernel
theorem dX11_all_13 : decode cX11_all 13 = .ok (.iload 5, 2) := by decide +kernel
theorem dX11_all_15 : decode cX11_all 15 = .ok (.iload_n 2, 1) := by decide +kernel
theorem dX11_all_16 : decode cX11_all 16 = .ok (.iload_n 3, 1) := by decide +kernel
theorem dX11_all_17 : decode cX11_all 17 = .ok (.iload 4, 2) := by decide +kernel
theorem dX11_all_19 : decode cX11_all 19 = .ok (.invokevirtual 302, 3) := by decide +kernel
theorem dX11_all_22 : decode cX11_all 22 = .ok (.ifCond .ne 5, 3) := by decide +kernel
theorem dX11_all_25 : decode cX11_all 25 = .ok (.iconst 0, 1) := by decide +kernel
theorem dX11_all_26 : decode cX11_all 26 = .ok (.ireturn, 1) := by decide +kernel
theorem dX11_all_27 : decode cX11_all 27 = .ok (.aload_n 0, 1) := by decide +kernel
theorem dX11_all_28 : decode cX11_all 28 = .ok (.iload 5, 2) := by decide +kernel
theorem dX11_all_30 : decode cX11_all 30 = .ok (.invokevirtual 140, 3) := by decide +kernel
theorem dX11_all_33 : decode cX11_all 33 = .ok (.istore 5, 2) := by decide +kernel
theorem dX11_all_35 : decode cX11_all 35 = .ok (.goto (-28), 3) := by decide +kernel
theorem dX11_all_38 : decode cX11_all 38 = .ok (.iconst 1, 1) := by decide +kernel
theorem dX11_all_39 : decode cX11_all 39 = .ok (.ireturn, 1) := by decide +kernel
theorem dX11_elementHolds_0 : decode cX11_elementHolds 0 = .ok (.aload_n 0, 1) := by decide +kernel
theorem dX11_elementHolds_1 : decode cX11_elementHolds 1 = .ok (.iload_n 1, 1) := by decide +kernel
theorem dX11_elementHolds_2 : decode cX11_elementHolds 2 = .ok (.invokevirtual 145, 3) := by decide +kernel
theorem dX11_elementHolds_5 : decode cX11_elementHolds 5 = .ok (.ifCond .eq 79, 3) := by decide +kernel
theorem dX11_elementHolds_8 : decode cX11_elementHolds 8 = .ok (.aload_n 0, 1) := by decide +kernel
theorem dX11_elementHolds_9 : decode cX11_elementHolds 9 = .ok (.iload_n 1, 1) := by decide +kernel
theorem dX11_elementHolds_10 : decode cX11_elementHolds 10 = .ok (.invokevirtual 158, 3) := by decide +kernel
theorem dX11_elementHolds_13 : decode cX11_elementHolds 13 = .ok (.ifCond .ne 7, 3) := by decide +kernel
theorem dX11_elementHolds_16 : decode cX11_elementHolds 16 = .ok (.iconst 1, 1) := by decide +kernel
theorem dX11_elementHolds_17 : decode cX11_elementHolds 17 = .ok (.goto 4, 3) := by decide +kernel
theorem dX11_elementHolds_20 : decode cX11_elementHolds 20 = .ok (.iconst 0, 1) := by decide +kernel
theorem dX11_elementHolds_21 : decode cX11_elementHolds 21 = .ok (.istore_n 3, 1) := by decide +kernel
theorem dX11_elementHolds_22 : decode cX11_elementHolds 22 = .ok (.aload_n 0, 1) := by decide +kernel
theorem dX11_elementHolds_23 : decode cX11_elementHolds 23 = .ok (.aload_n 0, 1) := by decide +kernel
theorem dX11_elementHolds_24 : decode cX11_elementHolds 24 = .ok (.iload_n 1, 1) := by decide +kernel
theorem dX11_elementHolds_25 : decode cX11_elementHolds 25 = .ok (.invokevirtual 131, 3) := by decide +kernel
theorem dX11_elementHolds_28 : decode cX11_elementHolds 28 = .ok (.invokevirtual 137, 3) := by decide +kernel
theorem dX11_elementHolds_31 : decode cX11_elementHolds 31 = .ok (.istore 4, 2) := by decide +kernel
theorem dX11_elementHolds_33 : decode cX11_elementHolds 33 = .ok (.iload 4, 2) := by decide +kernel
theorem dX11_elementHolds_35 : decode cX11_elementHolds 35 = .ok (.ifCond .le 35, 3) := by decide +kernel
theorem dX11_elementHolds_38 : decode cX11_elementHolds 38 = .ok (.aload_n 0, 1) := by decide +kernel
theorem dX11_elementHolds_39 : decode cX11_elementHolds 39 = .ok (.aload_n 0, 1) := by decide +kernel
theorem dX11_elementHolds_40 : decode cX11_elementHolds 40 = .ok (.iload 4, 2) := by decide +kernel
theorem dX11_elementHolds_42 : decode cX11_elementHolds 42 = .ok (.invokevirtual 131, 3) := by decide +kernel
theorem dX11_elementHolds_45 : decode cX11_elementHolds 45 = .ok (.iload_n 2, 1) := by decide +kernel
theorem dX11_elementHolds_46 : decode cX11_elementHolds 46 = .ok (.invokevirtual 268, 3) := by decide +kernel
theorem dX11_elementHolds_49 : decode cX11_elementHolds 49 = .ok (.iload_n 3, 1) := by decide +kernel
theorem dX11_elementHolds_50 : decode cX11_elementHolds 50 = .ok (.if_icmp .ne 9, 3) := by decide +kernel
theorem dX11_elementHolds_53 : decode cX11_elementHolds 53 = .ok (.aload_n 0, 1) := by decide +kernel
theorem dX11_elementHolds_54 : decode cX11_elementHolds 54 = .ok (.iload_n 1, 1) := by decide +kernel
theorem dX11_elementHolds_55 : decode cX11_elementHolds 55 = .ok (.invokevirtual 161, 3) := by decide +kernel
theorem dX11_elementHolds_58 : decode cX11_elementHolds 58 = .ok (.ireturn, 1) := by decide +kernel
theorem dX11_elementHolds_59 : decode cX11_elementHolds 59 = .ok (.aload_n 0, 1) := by decide +kernel
theorem dX11_elementHolds_60 : decode cX11_elementHolds 60 = .ok (.iload 4, 2) := by decide +kernel
theorem dX11_elementHolds_62 : decode cX11_elementHolds 62 = .ok (.invokevirtual 140, 3) := by decide +kernel
theorem dX11_elementHolds_65 : decode cX11_elementHolds 65 = .ok (.istore 4, 2) := by decide +kernel
theorem dX11_elementHolds_67 : decode cX11_elementHolds 67 = .ok (.goto (-34), 3) := by decide +kernel
theorem dX11_elementHolds_70 : decode cX11_elementHolds 70 = .ok (.aload_n 0, 1) := by decide +kernel
theorem dX11_elementHolds_71 : decode cX11_elementHolds 71 = .ok (.iload_n 1, 1) := by decide +kernel
theorem dX11_elementHolds_72 : decode cX11_elementHolds 72 = .ok (.invokevirtual 161, 3) := by decide +kernel
theorem dX11_elementHolds_75 : decode cX11_elementHolds 75 = .ok (.ifCond .ne 7, 3) := by decide +kernel
theorem dX11_elementHolds_78 : decode cX11_elementHolds 78 = .ok (.iconst 1, 1) := by decide +kernel
theorem dX11_elementHolds_79 : decode cX11_elementHolds 79 = .ok (.goto 4, 3) := by decide +kernel
theorem dX11_elementHolds_82 : decode cX11_elementHolds 82 = .ok (.iconst 0, 1) := by decide +kernel
theorem dX11_elementHolds_83 : decode cX11_elementHolds 83 = .ok (.ireturn, 1) := by decide +kernel
theorem dX11_elementHolds_84 : decode cX11_elementHolds 84 = .ok (.aload_n 0, 1) := by decide +kernel
theorem dX11_elementHolds_85 : decode cX11_elementHolds 85 = .ok (.aload_n 0, 1) := by decide +kernel
theorem dX11_elementHolds_86 : decode cX11_elementHolds 86 = .ok (.getfield 7, 3) := by decide +kernel
theorem dX11_elementHolds_89 : decode cX11_elementHolds 89 = .ok (.iload_n 1, 1) := by decide +kernel
theorem dX11_elementHolds_90 : decode cX11_elementHolds 90 = .ok (.iaload, 1) := by decide +kernel
theorem dX11_elementHolds_91 : decode cX11_elementHolds 91 = .ok (.aload_n 0, 1) := by decide +kernel
theorem dX11_elementHolds_92 : decode cX11_elementHolds 92 = .ok (.iload_n 1, 1) := by decide +kernel
theorem dX11_elementHolds_93 : decode cX11_elementHolds 93 = .ok (.invokevirtual 131, 3) := by decide +kernel
theorem dX11_elementHolds_96 : decode cX11_elementHolds 96 = .ok (.invokevirtual 227, 3) := by decide +kernel
theorem dX11_elementHolds_99 : decode cX11_elementHolds 99 = .ok (.ifCond .eq 18, 3) := by decide +kernel
theorem dX11_elementHolds_102 : decode cX11_elementHolds 102 = .ok (.aload_n 0, 1) := by decide +kernel
theorem dX11_elementHolds_103 : decode cX11_elementHolds 103 = .ok (.aload_n 0, 1) := by decide +kernel
theorem dX11_elementHolds_104 : decode cX11_elementHolds 104 = .ok (.iload_n 1, 1) := by decide +kernel
theorem dX11_elementHolds_105 : decode cX11_elementHolds 105 = .ok (.invokevirtual 131, 3) := by decide +kernel
theorem dX11_elementHolds_108 : decode cX11_elementHolds 108 = .ok (.iload_n 1, 1) := by decide +kernel
theorem dX11_elementHolds_109 : decode cX11_elementHolds 109 = .ok (.iconst 1, 1) := by decide +kernel
theorem dX11_elementHolds_110 : decode cX11_elementHolds 110 = .ok (.iadd, 1) := by decide +kernel
theorem dX11_elementHolds_111 : decode cX11_elementHolds 111 = .ok (.iconst 3, 1) := by decide +kernel
theorem dX11_elementHolds_112 : decode cX11_elementHolds 112 = .ok (.iload_n 2, 1) := by decide +kernel
theorem dX11_elementHolds_113 : decode cX11_elementHolds 113 = .ok (.invokevirtual 264, 3) := by decide +kernel
theorem dX11_elementHolds_116 : decode cX11_elementHolds 116 = .ok (.ireturn, 1) := by decide +kernel
theorem dX11_elementHolds_117 : decode cX11_elementHolds 117 = .ok (.aload_n 0, 1) := by decide +kernel
theorem dX11_elementHolds_118 : decode cX11_elementHolds 118 = .ok (.iconst 0, 1) := by decide +kernel
theorem dX11_elementHolds_119 : decode cX11_elementHolds 119 = .ok (.iload_n 1, 1) := by decide +kernel
theorem dX11_elementHolds_120 : decode cX11_elementHolds 120 = .ok (.iload_n 1, 1) := by decide +kernel
theorem dX11_elementHolds_121 : decode cX11_elementHolds 121 = .ok (.iconst 1, 1) := by decide +kernel
theorem dX11_elementHolds_122 : decode cX11_elementHolds 122 = .ok (.iadd, 1) := by decide +kernel
theorem dX11_elementHolds_123 : decode cX11_elementHolds 123 = .ok (.iconst 3, 1) := by decide +kernel
theorem dX11_elementHolds_124 : decode cX11_elementHolds 124 = .ok (.iload_n 2, 1) := by decide +kernel
theorem dX11_elementHolds_125 : decode cX11_elementHolds 125 = .ok (.invokevirtual 299, 3) := by decide +kernel
theorem dX11_elementHolds_128 : decode cX11_elementHolds 128 = .ok (.ireturn, 1) := by decide +kernel
theorem dX11_filterHolds_0 : decode cX11_filterHolds 0 = .ok (.aload_n 0, 1) := by decide +kernel
theorem dX11_filterHolds_1 : decode cX11_filterHolds 1 = .ok (.iload_n 1, 1) := by decide +kernel
theorem dX11_filterHolds_2 : decode cX11_filterHolds 2 = .ok (.invokevirtual 137, 3) := by decide +kernel
theorem dX11_filterHolds_5 : decode cX11_filterHolds 5 = .ok (.istore_n 3, 1) := by decide +kernel
theorem dX11_filterHolds_6 : decode cX11_filterHolds 6 = .ok (.iload_n 3, 1) := by decide +kernel
theorem dX11_filterHolds_7 : decode cX11_filterHolds 7 = .ok (.ifCond .le 23, 3) := by decide +kernel
theorem dX11_filterHolds_10 : decode cX11_filterHolds 10 = .ok (.aload_n 0, 1) := by decide +kernel
theorem dX11_filterHolds_11 : decode cX11_filterHolds 11 = .ok (.iload_n 3, 1) := by decide +kernel
theorem dX11_filterHolds_12 : decode cX11_filterHolds 12 = .ok (.iload_n 2, 1) := by decide +kernel
theorem dX11_filterHolds_13 : decode cX11_filterHolds 13 = .ok (.invokevirtual 305, 3) := by decide +kernel
theorem dX11_filterHolds_16 : decode cX11_filterHolds 16 = .ok (.ifCond .ne 5, 3) := by decide +kernel
theorem dX11_filterHolds_19 : decode cX11_filterHolds 19 = .ok (.iconst 0, 1) := by decide +kernel
theorem dX11_filterHolds_20 : decode cX11_filterHolds 20 = .ok (.ireturn, 1) := by decide +kernel
theorem dX11_filterHolds_21 : decode cX11_filterHolds 21 = .ok (.aload_n 0, 1) := by decide +kernel
theorem dX11_filterHolds_22 : decode cX11_filterHolds 22 = .ok (.iload_n 3, 1) := by decide +kernel
theorem dX11_filterHolds_23 : decode cX11_filterHolds 23 = .ok (.invokevirtual 140, 3) := by decide +kernel
theorem dX11_filterHolds_26 : decode cX11_filterHolds 26 = .ok (.istore_n 3, 1) := by decide +kernel
theorem dX11_filterHolds_27 : decode cX11_filterHolds 27 = .ok (.goto (-21), 3) := by decide +kernel
theorem dX11_filterHolds_30 : decode cX11_filterHolds 30 = .ok (.iconst 1, 1) := by decide +kernel
theorem dX11_filterHolds_31 : decode cX11_filterHolds 31 = .ok (.ireturn, 1) := by decide +kernel
theorem dX11_isFour_0 : decode cX11_isFour 0 = .ok (.iload_n 0, 1) := by decide +kernel
theorem dX11_isFour_1 : decode cX11_isFour 1 = .ok (.ifCond .lt 12, 3) := by decide +kernel
theorem dX11_isFour_4 : decode cX11_isFour 4 = .ok (.iload_n 0, 1) := by decide +kernel
theorem dX11_isFour_5 : decode cX11_isFour 5 = .ok (.iconst 4, 1) := by decide +kernel
theorem dX11_isFour_6 : decode cX11_isFour 6 = .ok (.if_icmp .ge 7, 3) := by decide +kernel
theorem dX11_isFour_9 : decode cX11_isFour 9 = .ok (.iconst 1, 1) := by decide +kernel
theorem dX11_isFour_10 : decode cX11_isFour 10 = .ok (.goto 4, 3) := by decide +kernel
theorem dX11_isFour_13 : decode cX11_isFour 13 = .ok (.iconst 0, 1) := by decide +kernel
theorem dX11_isFour_14 : decode cX11_isFour 14 = .ok (.ireturn, 1) := by decide +kernel
theorem dX11_read_0 : decode cX11_read 0 = .ok (.iload_n 1, 1) := by decide +kernel
theorem dX11_read_1 : decode cX11_read 1 = .ok (.invokestatic 308, 3) := by decide +kernel
theorem dX11_read_4 : decode cX11_read 4 = .ok (.ifCond .eq 15, 3) := by decide +kernel
theorem dX11_read_7 : decode cX11_read 7 = .ok (.iload_n 2, 1) := by decide +kernel
theorem dX11_read_8 : decode cX11_read 8 = .ok (.ifCond .lt 11, 3) := by decide +kernel
theorem dX11_read_11 : decode cX11_read 11 = .ok (.iload_n 2, 1) := by decide +kernel
theorem dX11_read_12 : decode cX11_read 12 = .ok (.aload_n 0, 1) := by decide +kernel
theorem dX11_read_13 : decode cX11_read 13 = .ok (.getfield 53, 3) := by decide +kernel
theorem dX11_read_16 : decode cX11_read 16 = .ok (.if_icmp .le 6, 3) := by decide +kernel
theorem dX11_read_19 : decode cX11_read 19 = .ok (.bipush (-2), 2) := by decide +kernel
theorem dX11_read_21 : decode cX11_read 21 = .ok (.ireturn, 1) := by decide +kernel
theorem dX11_read_22 : decode cX11_read 22 = .ok (.aload_n 0, 1) := by decide +kernel
theorem dX11_read_23 : decode cX11_read 23 = .ok (.iconst 0, 1) := by decide +kernel
theorem dX11_read_24 : decode cX11_read 24 = .ok (.putfield 53, 3) := by decide +kernel
theorem dX11_read_27 : decode cX11_read 27 = .ok (.aload_n 0, 1) := by decide +kernel
theorem dX11_read_28 : decode cX11_read 28 = .ok (.iload_n 2, 1) := by decide +kernel
theorem dX11_read_29 : decode cX11_read 29 = .ok (.invokevirtual 311, 3) := by decide +kernel
theorem dX11_read_32 : decode cX11_read 32 = .ok (.ifCond .ne 5, 3) := by decide +kernel
theorem dX11_read_35 : decode cX11_read 35 = .ok (.iconst (-1), 1) := by decide +kernel
theorem dX11_read_36 : decode cX11_read 36 = .ok (.ireturn, 1) := by decide +kernel
theorem dX11_read_37 : decode cX11_read 37 = .ok (.iconst 0, 1) := by decide +kernel
theorem dX11_read_38 : decode cX11_read 38 = .ok (.istore_n 3, 1) := by decide +kernel
theorem dX11_read_39 : decode cX11_read 39 = .ok (.iload_n 3, 1) := by decide +kernel
theorem dX11_read_40 : decode cX11_read 40 = .ok (.iload_n 2, 1) := by decide +kernel
theorem dX11_read_41 : decode cX11_read 41 = .ok (.if_icmp .ge 27, 3) := by decide +kernel
theorem dX11_read_44 : decode cX11_read 44 = .ok (.aload_n 0, 1) := by decide +kernel
theorem dX11_read_45 : decode cX11_read 45 = .ok (.getfield 7, 3) := by decide +kernel
theorem dX11_read_48 : decode cX11_read 48 = .ok (.sipush 2000, 3) := by decide +kernel
theorem dX11_read_51 : decode cX11_read 51 = .ok (.iload_n 1, 1) := by decide +kernel
theorem dX11_read_52 : decode cX11_read 52 = .ok (.imul, 1) := by decide +kernel
theorem dX11_read_53 : decode cX11_read 53 = .ok (.iload_n 3, 1) := by decide +kernel
theorem dX11_read_54 : decode cX11_read 54 = .ok (.iadd, 1) := by decide +kernel
theorem dX11_read_55 : decode cX11_read 55 = .ok (.aload_n 0, 1) := by decide +kernel
theorem dX11_read_56 : decode cX11_read 56 = .ok (.getfield 26, 3) := by decide +kernel
theorem dX11_read_59 : decode cX11_read 59 = .ok (.iload_n 3, 1) := by decide +kernel
theorem dX11_read_60 : decode cX11_read 60 = .ok (.iaload, 1) := by decide +kernel
theorem dX11_read_61 : decode cX11_read 61 = .ok (.iastore, 1) := by decide +kernel
theorem dX11_read_62 : decode cX11_read 62 = .ok (.iinc 3 1, 3) := by decide +kernel
theorem dX11_read_65 : decode cX11_read 65 = .ok (.goto (-26), 3) := by decide +kernel
theorem dX11_read_68 : decode cX11_read 68 = .ok (.iconst 0, 1) := by decide +kernel
theorem dX11_read_69 : decode cX11_read 69 = .ok (.ireturn, 1) := by decide +kernel
theorem dX11_filter_0 : decode cX11_filter 0 = .ok (.iload_n 1, 1) := by decide +kernel
theorem dX11_filter_1 : decode cX11_filter 1 = .ok (.invokestatic 308, 3) := by decide +kernel
theorem dX11_filter_4 : decode cX11_filter 4 = .ok (.ifCond .eq 15, 3) := by decide +kernel
theorem dX11_filter_7 : decode cX11_filter 7 = .ok (.iload_n 2, 1) := by decide +kernel
theorem dX11_filter_8 : decode cX11_filter 8 = .ok (.ifCond .lt 11, 3) := by decide +kernel
theorem dX11_filter_11 : decode cX11_filter 11 = .ok (.iload_n 2, 1) := by decide +kernel
theorem dX11_filter_12 : decode cX11_filter 12 = .ok (.aload_n 0, 1) := by decide +kernel
theorem dX11_filter_13 : decode cX11_filter 13 = .ok (.getfield 53, 3) := by decide +kernel
theorem dX11_filter_16 : decode cX11_filter 16 = .ok (.if_icmp .le 6, 3) := by decide +kernel
theorem dX11_filter_19 : decode cX11_filter 19 = .ok (.bipush (-2), 2) := by decide +kernel
theorem dX11_filter_21 : decode cX11_filter 21 = .ok (.ireturn, 1) := by decide +kernel
theorem dX11_filter_22 : decode cX11_filter 22 = .ok (.aload_n 0, 1) := by decide +kernel
theorem dX11_filter_23 : decode cX11_filter 23 = .ok (.iconst 0, 1) := by decide +kernel
theorem dX11_filter_24 : decode cX11_filter 24 = .ok (.putfield 53, 3) := by decide +kernel
theorem dX11_filter_27 : decode cX11_filter 27 = .ok (.aload_n 0, 1) := by decide +kernel
theorem dX11_filter_28 : decode cX11_filter 28 = .ok (.iconst (-1), 1) := by decide +kernel
theorem dX11_filter_29 : decode cX11_filter 29 = .ok (.putfield 13, 3) := by decide +kernel
theorem dX11_filter_32 : decode cX11_filter 32 = .ok (.aload_n 0, 1) := by decide +kernel
theorem dX11_filter_33 : decode cX11_filter 33 = .ok (.iload_n 2, 1) := by decide +kernel
theorem dX11_filter_34 : decode cX11_filter 34 = .ok (.invokevirtual 311, 3) := by decide +kernel
theorem dX11_filter_37 : decode cX11_filter 37 = .ok (.ifCond .ne 5, 3) := by decide +kernel
theorem dX11_filter_40 : decode cX11_filter 40 = .ok (.iconst (-1), 1) := by decide +kernel
theorem dX11_filter_41 : decode cX11_filter 41 = .ok (.ireturn, 1) := by decide +kernel
theorem dX11_filter_42 : decode cX11_filter 42 = .ok (.aload_n 0, 1) := by decide +kernel
theorem dX11_filter_43 : decode cX11_filter 43 = .ok (.iconst 0, 1) := by decide +kernel
theorem dX11_filter_44 : decode cX11_filter 44 = .ok (.putfield 191, 3) := by decide +kernel
theorem dX11_filter_47 : decode cX11_filter 47 = .ok (.aload_n 0, 1) := by decide +kernel
theorem dX11_filter_48 : decode cX11_filter 48 = .ok (.iconst 0, 1) := by decide +kernel
theorem dX11_filter_49 : decode cX11_filter 49 = .ok (.putfield 197, 3) := by decide +kernel
theorem dX11_filter_52 : decode cX11_filter 52 = .ok (.aload_n 0, 1) := by decide +kernel
theorem dX11_filter_53 : decode cX11_filter 53 = .ok (.iconst 0, 1) := by decide +kernel
theorem dX11_filter_54 : decode cX11_filter 54 = .ok (.putfield 221, 3) := by decide +kernel
theorem dX11_filter_57 : decode cX11_filter 57 = .ok (.aload_n 0, 1) := by decide +kernel
theorem dX11_filter_58 : decode cX11_filter 58 = .ok (.iconst 0, 1) := by decide +kernel
theorem dX11_filter_59 : decode cX11_filter 59 = .ok (.putfield 224, 3) := by decide +kernel
theorem dX11_filter_62 : decode cX11_filter 62 = .ok (.aload_n 0, 1) := by decide +kernel
theorem dX11_filter_63 : decode cX11_filter 63 = .ok (.sipush 16000, 3) := by decide +kernel
theorem dX11_filter_66 : decode cX11_filter 66 = .ok (.invokevirtual 215, 3) := by decide +kernel
theorem dX11_filter_69 : decode cX11_filter 69 = .ok (.aload_n 0, 1) := by decide +kernel
theorem dX11_filter_70 : decode cX11_filter 70 = .ok (.getfield 191, 3) := by decide +kernel
theorem dX11_filter_73 : decode cX11_filter 73 = .ok (.ifCond .le 20, 3) := by decide +kernel
theorem dX11_filter_76 : decode cX11_filter 76 = .ok (.aload_n 0, 1) := by decide +kernel
theorem dX11_filter_77 : decode cX11_filter 77 = .ok (.aload_n 0, 1) := by decide +kernel
theorem dX11_filter_78 : decode cX11_filter 78 = .ok (.getfield 194, 3) := by decide +kernel
theorem dX11_filter_81 : decode cX11_filter 81 = .ok (.sipush 16000, 3) := by decide +kernel
theorem dX11_filter_84 : decode cX11_filter 84 = .ok (.isub, 1) := by decide +kernel
theorem dX11_filter_85 : decode cX11_filter 85 = .ok (.putfield 13, 3) := by decide +kernel
theorem dX11_filter_88 : decode cX11_filter 88 = .ok (.aload_n 0, 1) := by decide +kernel
theorem dX11_filter_89 : decode cX11_filter 89 = .ok (.getfield 191, 3) := by decide +kernel
theorem dX11_filter_92 : decode cX11_filter 92 = .ok (.ireturn, 1) := by decide +kernel
theorem dX11_filter_93 : decode cX11_filter 93 = .ok (.iconst 0, 1) := by decide +kernel
theorem dX11_filter_94 : decode cX11_filter 94 = .ok (.istore_n 3, 1) := by decide +kernel
theorem dX11_filter_95 : decode cX11_filter 95 = .ok (.iload_n 3, 1) := by decide +kernel
theorem dX11_filter_96 : decode cX11_filter 96 = .ok (.iload_n 2, 1) := by decide +kernel
theorem dX11_filter_97 : decode cX11_filter 97 = .ok (.if_icmp .ge 31, 3) := by decide +kernel
theorem dX11_filter_100 : decode cX11_filter 100 = .ok (.aload_n 0, 1) := by decide +kernel
theorem dX11_filter_101 : decode cX11_filter 101 = .ok (.getfield 7, 3) := by decide +kernel
theorem dX11_filter_104 : decode cX11_filter 104 = .ok (.sipush 8000, 3) := by decide +kernel
theorem dX11_filter_107 : decode cX11_filter 107 = .ok (.sipush 2000, 3) := by decide +kernel
theorem dX11_filter_110 : decode cX11_filter 110 = .ok (.iload_n 1, 1) := by decide +kernel
theorem dX11_filter_111 : decode cX11_filter 111 = .ok (.imul, 1) := by decide +kernel
theorem dX11_filter_112 : decode cX11_filter 112 = .ok (.iadd, 1) := by decide +kernel
theorem dX11_filter_113 : decode cX11_filter 113 = .ok (.iload_n 3, 1) := by decide +kernel
theorem dX11_filter_114 : decode cX11_filter 114 = .ok (.iadd, 1) := by decide +kernel
theorem dX11_filter_115 : decode cX11_filter 115 = .ok (.aload_n 0, 1) := by decide +kernel
theorem dX11_filter_116 : decode cX11_filter 116 = .ok (.getfield 26, 3) := by decide +kernel
theorem dX11_filter_119 : decode cX11_filter 119 = .ok (.iload_n 3, 1) := by decide +kernel
theorem dX11_filter_120 : decode cX11_filter 120 = .ok (.iaload, 1) := by decide +kernel
theorem dX11_filter_121 : decode cX11_filter 121 = .ok (.iastore, 1) := by decide +kernel
theorem dX11_filter_122 : decode cX11_filter 122 = .ok (.iinc 3 1, 3) := by decide +kernel
theorem dX11_filter_125 : decode cX11_filter 125 = .ok (.goto (-30), 3) := by decide +kernel
theorem dX11_filter_128 : decode cX11_filter 128 = .ok (.aload_n 0, 1) := by decide +kernel
theorem dX11_filter_129 : decode cX11_filter 129 = .ok (.getfield 17, 3) := by decide +kernel
theorem dX11_filter_132 : decode cX11_filter 132 = .ok (.iload_n 1, 1) := by decide +kernel
theorem dX11_filter_133 : decode cX11_filter 133 = .ok (.aload_n 0, 1) := by decide +kernel
theorem dX11_filter_134 : decode cX11_filter 134 = .ok (.getfield 197, 3) := by decide +kernel
theorem dX11_filter_137 : decode cX11_filter 137 = .ok (.iastore, 1) := by decide +kernel
theorem dX11_filter_138 : decode cX11_filter 138 = .ok (.aload_n 0, 1) := by decide +kernel
theorem dX11_filter_139 : decode cX11_filter 139 = .ok (.getfield 20, 3) := by decide +kernel
theorem dX11_filter_142 : decode cX11_filter 142 = .ok (.iload_n 1, 1) := by decide +kernel
theorem dX11_filter_143 : decode cX11_filter 143 = .ok (.aload_n 0, 1) := by decide +kernel
theorem dX11_filter_144 : decode cX11_filter 144 = .ok (.getfield 221, 3) := by decide +kernel
theorem dX11_filter_147 : decode cX11_filter 147 = .ok (.iastore, 1) := by decide +kernel
theorem dX11_filter_148 : decode cX11_filter 148 = .ok (.aload_n 0, 1) := by decide +kernel
theorem dX11_filter_149 : decode cX11_filter 149 = .ok (.getfield 23, 3) := by decide +kernel
theorem dX11_filter_152 : decode cX11_filter 152 = .ok (.iload_n 1, 1) := by decide +kernel
theorem dX11_filter_153 : decode cX11_filter 153 = .ok (.aload_n 0, 1) := by decide +kernel
theorem dX11_filter_154 : decode cX11_filter 154 = .ok (.getfield 224, 3) := by decide +kernel
theorem dX11_filter_157 : decode cX11_filter 157 = .ok (.iastore, 1) := by decide +kernel
theorem dX11_filter_158 : decode cX11_filter 158 = .ok (.iconst 0, 1) := by decide +kernel
theorem dX11_filter_159 : decode cX11_filter 159 = .ok (.ireturn, 1) := by decide +kernel
theorem dX11_place_0 : decode cX11_place 0 = .ok (.aload_n 0, 1) := by decide +kernel
theorem dX11_place_1 : decode cX11_place 1 = .ok (.getfield 13, 3) := by decide +kernel
theorem dX11_place_4 : decode cX11_place 4 = .ok (.ireturn, 1) := by decide +kernel
theorem dX11_many_0 : decode cX11_many 0 = .ok (.iload_n 1, 1) := by decide +kernel
theorem dX11_many_1 : decode cX11_many 1 = .ok (.invokestatic 308, 3) := by decide +kernel
theorem dX11_many_4 : decode cX11_many 4 = .ok (.ifCond .eq 12, 3) := by decide +kernel
theorem dX11_many_7 : decode cX11_many 7 = .ok (.iload_n 2, 1) := by decide +kernel
theorem dX11_many_8 : decode cX11_many 8 = .ok (.ifCond .lt 8, 3) := by decide +kernel
theorem dX11_many_11 : decode cX11_many 11 = .ok (.iload_n 2, 1) := by decide +kernel
theorem dX11_many_12 : decode cX11_many 12 = .ok (.iconst 3, 1) := by decide +kernel
theorem dX11_many_13 : decode cX11_many 13 = .ok (.if_icmp .le 5, 3) := by decide +kernel
theorem dX11_many_16 : decode cX11_many 16 = .ok (.iconst (-1), 1) := by decide +kernel
theorem dX11_many_17 : decode cX11_many 17 = .ok (.ireturn, 1) := by decide +kernel
theorem dX11_many_18 : decode cX11_many 18 = .ok (.iload_n 2, 1) := by decide +kernel
theorem dX11_many_19 : decode cX11_many 19 = .ok (.ifCond .ne 19, 3) := by decide +kernel
theorem dX11_many_22 : decode cX11_many 22 = .ok (.aload_n 0, 1) := by decide +kernel
theorem dX11_many_23 : decode cX11_many 23 = .ok (.sipush 8000, 3) := by decide +kernel
theorem dX11_many_26 : decode cX11_many 26 = .ok (.sipush 2000, 3) := by decide +kernel
theorem dX11_many_29 : decode cX11_many 29 = .ok (.iload_n 1, 1) := by decide +kernel
theorem dX11_many_30 : decode cX11_many 30 = .ok (.imul, 1) := by decide +kernel
theorem dX11_many_31 : decode cX11_many 31 = .ok (.iadd, 1) := by decide +kernel
theorem dX11_many_32 : decode cX11_many 32 = .ok (.invokevirtual 277, 3) := by decide +kernel
theorem dX11_many_35 : decode cX11_many 35 = .ok (.goto 37, 3) := by decide +kernel
theorem dX11_many_38 : decode cX11_many 38 = .ok (.iload_n 2, 1) := by decide +kernel
theorem dX11_many_39 : decode cX11_many 39 = .ok (.iconst 1, 1) := by decide +kernel
theorem dX11_many_40 : decode cX11_many 40 = .ok (.if_icmp .ne 12, 3) := by decide +kernel
theorem dX11_many_43 : decode cX11_many 43 = .ok (.aload_n 0, 1) := by decide +kernel
theorem dX11_many_44 : decode cX11_many 44 = .ok (.getfield 17, 3) := by decide +kernel
theorem dX11_many_47 : decode cX11_many 47 = .ok (.iload_n 1, 1) := by decide +kernel
theorem dX11_many_48 : decode cX11_many 48 = .ok (.iaload, 1) := by decide +kernel
theorem dX11_many_49 : decode cX11_many 49 = .ok (.goto 23, 3) := by decide +kernel
theorem dX11_many_52 : decode cX11_many 52 = .ok (.iload_n 2, 1) := by decide +kernel
theorem dX11_many_53 : decode cX11_many 53 = .ok (.iconst 2, 1) := by decide +kernel
theorem dX11_many_54 : decode cX11_many 54 = .ok (.if_icmp .ne 12, 3) := by decide +kernel
theorem dX11_many_57 : decode cX11_many 57 = .ok (.aload_n 0, 1) := by decide +kernel
theorem dX11_many_58 : decode cX11_many 58 = .ok (.getfield 20, 3) := by decide +kernel
theorem dX11_many_61 : decode cX11_many 61 = .ok (.iload_n 1, 1) := by decide +kernel
theorem dX11_many_62 : decode cX11_many 62 = .ok (.iaload, 1) := by decide +kernel
theorem dX11_many_63 : decode cX11_many 63 = .ok (.goto 9, 3) := by decide +kernel
theorem dX11_many_66 : decode cX11_many 66 = .ok (.aload_n 0, 1) := by decide +kernel
theorem dX11_many_67 : decode cX11_many 67 = .ok (.getfield 23, 3) := by decide +kernel
theorem dX11_many_70 : decode cX11_many 70 = .ok (.iload_n 1, 1) := by decide +kernel
theorem dX11_many_71 : decode cX11_many 71 = .ok (.iaload, 1) := by decide +kernel
theorem dX11_many_72 : decode cX11_many 72 = .ok (.ireturn, 1) := by decide +kernel
theorem dX11_holds_0 : decode cX11_holds 0 = .ok (.iload_n 1, 1) := by decide +kernel
theorem dX11_holds_1 : decode cX11_holds 1 = .ok (.invokestatic 308, 3) := by decide +kernel
theorem dX11_holds_4 : decode cX11_holds 4 = .ok (.ifCond .eq 10, 3) := by decide +kernel
theorem dX11_holds_7 : decode cX11_holds 7 = .ok (.iload_n 2, 1) := by decide +kernel
theorem dX11_holds_8 : decode cX11_holds 8 = .ok (.invokestatic 308, 3) := by decide +kernel
theorem dX11_holds_11 : decode cX11_holds 11 = .ok (.ifCond .ne 7, 3) := by decide +kernel
theorem dX11_holds_14 : decode cX11_holds 14 = .ok (.iconst (-1), 1) := by decide +kernel
theorem dX11_holds_15 : decode cX11_holds 15 = .ok (.goto 29, 3) := by decide +kernel
theorem dX11_holds_18 : decode cX11_holds 18 = .ok (.aload_n 0, 1) := by decide +kernel
theorem dX11_holds_19 : decode cX11_holds 19 = .ok (.sipush 8000, 3) := by decide +kernel
theorem dX11_holds_22 : decode cX11_holds 22 = .ok (.sipush 2000, 3) := by decide +kernel
theorem dX11_holds_25 : decode cX11_holds 25 = .ok (.iload_n 1, 1) := by decide +kernel
theorem dX11_holds_26 : decode cX11_holds 26 = .ok (.imul, 1) := by decide +kernel
theorem dX11_holds_27 : decode cX11_holds 27 = .ok (.iadd, 1) := by decide +kernel
theorem dX11_holds_28 : decode cX11_holds 28 = .ok (.sipush 2000, 3) := by decide +kernel
theorem dX11_holds_31 : decode cX11_holds 31 = .ok (.iload_n 2, 1) := by decide +kernel
theorem dX11_holds_32 : decode cX11_holds 32 = .ok (.imul, 1) := by decide +kernel
theorem dX11_holds_33 : decode cX11_holds 33 = .ok (.invokevirtual 268, 3) := by decide +kernel
theorem dX11_holds_36 : decode cX11_holds 36 = .ok (.ifCond .eq 7, 3) := by decide +kernel
theorem dX11_holds_39 : decode cX11_holds 39 = .ok (.iconst 1, 1) := by decide +kernel
theorem dX11_holds_40 : decode cX11_holds 40 = .ok (.goto 4, 3) := by decide +kernel
theorem dX11_holds_43 : decode cX11_holds 43 = .ok (.iconst 0, 1) := by decide +kernel
theorem dX11_holds_44 : decode cX11_holds 44 = .ok (.ireturn, 1) := by decide +kernel
theorem dX11_fails_0 : decode cX11_fails 0 = .ok (.iload_n 1, 1) := by decide +kernel
theorem dX11_fails_1 : decode cX11_fails 1 = .ok (.invokestatic 308, 3) := by decide +kernel
theorem dX11_fails_4 : decode cX11_fails 4 = .ok (.ifCond .eq 10, 3) := by decide +kernel
theorem dX11_fails_7 : decode cX11_fails 7 = .ok (.iload_n 2, 1) := by decide +kernel
theorem dX11_fails_8 : decode cX11_fails 8 = .ok (.invokestatic 308, 3) := by decide +kernel
theorem dX11_fails_11 : decode cX11_fails 11 = .ok (.ifCond .ne 6, 3) := by decide +kernel
theorem dX11_fails_14 : decode cX11_fails 14 = .ok (.bipush (-2), 2) := by decide +kernel
theorem dX11_fails_16 : decode cX11_fails 16 = .ok (.ireturn, 1) := by decide +kernel
theorem dX11_fails_17 : decode cX11_fails 17 = .ok (.iconst 0, 1) := by decide +kernel
theorem dX11_fails_18 : decode cX11_fails 18 = .ok (.istore_n 3, 1) := by decide +kernel
theorem dX11_fails_19 : decode cX11_fails 19 = .ok (.aload_n 0, 1) := by decide +kernel
theorem dX11_fails_20 : decode cX11_fails 20 = .ok (.sipush 8000, 3) := by decide +kernel
theorem dX11_fails_23 : decode cX11_fails 23 = .ok (.sipush 2000, 3) := by decide +kernel
theorem dX11_fails_26 : decode cX11_fails 26 = .ok (.iload_n 1, 1) := by decide +kernel
theorem dX11_fails_27 : decode cX11_fails 27 = .ok (.imul, 1) := by decide +kernel
theorem dX11_fails_28 : decode cX11_fails 28 = .ok (.iadd, 1) := by decide +kernel
theorem dX11_fails_29 : decode cX11_fails 29 = .ok (.invokevirtual 137, 3) := by decide +kernel
theorem dX11_fails_32 : decode cX11_fails 32 = .ok (.istore 4, 2) := by decide +kernel
theorem dX11_fails_34 : decode cX11_fails 34 = .ok (.iload 4, 2) := by decide +kernel
theorem dX11_fails_36 : decode cX11_fails 36 = .ok (.ifCond .le 33, 3) := by decide +kernel
theorem dX11_fails_39 : decode cX11_fails 39 = .ok (.aload_n 0, 1) := by decide +kernel
theorem dX11_fails_40 : decode cX11_fails 40 = .ok (.iload 4, 2) := by decide +kernel
theorem dX11_fails_42 : decode cX11_fails 42 = .ok (.sipush 2000, 3) := by decide +kernel
theorem dX11_fails_45 : decode cX11_fails 45 = .ok (.iload_n 2, 1) := by decide +kernel
theorem dX11_fails_46 : decode cX11_fails 46 = .ok (.imul, 1) := by decide +kernel
theorem dX11_fails_47 : decode cX11_fails 47 = .ok (.invokevirtual 305, 3) := by decide +kernel
theorem dX11_fails_50 : decode cX11_fails 50 = .ok (.ifCond .ne 5, 3) := by decide +kernel
theorem dX11_fails_53 : decode cX11_fails 53 = .ok (.iload_n 3, 1) := by decide +kernel
theorem dX11_fails_54 : decode cX11_fails 54 = .ok (.ireturn, 1) := by decide +kernel
theorem dX11_fails_55 : decode cX11_fails 55 = .ok (.iinc 3 1, 3) := by decide +kernel
theorem dX11_fails_58 : decode cX11_fails 58 = .ok (.aload_n 0, 1) := by decide +kernel
theorem dX11_fails_59 : decode cX11_fails 59 = .ok (.iload 4, 2) := by decide +kernel
theorem dX11_fails_61 : decode cX11_fails 61 = .ok (.invokevirtual 140, 3) := by decide +kernel
theorem dX11_fails_64 : decode cX11_fails 64 = .ok (.istore 4, 2) := by decide +kernel
theorem dX11_fails_66 : decode cX11_fails 66 = .ok (.goto (-32), 3) := by decide +kernel
theorem dX11_fails_69 : decode cX11_fails 69 = .ok (.iconst (-1), 1) := by decide +kernel
theorem dX11_fails_70 : decode cX11_fails 70 = .ok (.ireturn, 1) := by decide +kernel
theorem dX11_which_0 : decode cX11_which 0 = .ok (.iload_n 1, 1) := by decide +kernel
theorem dX11_which_1 : decode cX11_which 1 = .ok (.invokestatic 308, 3) := by decide +kernel
theorem dX11_which_4 : decode cX11_which 4 = .ok (.ifCond .ne 5, 3) := by decide +kernel
theorem dX11_which_7 : decode cX11_which 7 = .ok (.iconst (-1), 1) := by decide +kernel
theorem dX11_which_8 : decode cX11_which 8 = .ok (.ireturn, 1) := by decide +kernel
theorem dX11_which_9 : decode cX11_which 9 = .ok (.iconst 0, 1) := by decide +kernel
theorem dX11_which_10 : decode cX11_which 10 = .ok (.istore_n 2, 1) := by decide +kernel
theorem dX11_which_11 : decode cX11_which 11 = .ok (.iconst 0, 1) := by decide +kernel
theorem dX11_which_12 : decode cX11_which 12 = .ok (.istore_n 3, 1) := by decide +kernel
theorem dX11_which_13 : decode cX11_which 13 = .ok (.iload_n 3, 1) := by decide +kernel
theorem dX11_which_14 : decode cX11_which 14 = .ok (.iconst 4, 1) := by decide +kernel
theorem dX11_which_15 : decode cX11_which 15 = .ok (.if_icmp .ge 40, 3) := by decide +kernel
theorem dX11_which_18 : decode cX11_which 18 = .ok (.iload_n 2, 1) := by decide +kernel
theorem dX11_which_19 : decode cX11_which 19 = .ok (.aload_n 0, 1) := by decide +kernel
theorem dX11_which_20 : decode cX11_which 20 = .ok (.sipush 8000, 3) := by decide +kernel
theorem dX11_which_23 : decode cX11_which 23 = .ok (.sipush 2000, 3) := by decide +kernel
theorem dX11_which_26 : decode cX11_which 26 = .ok (.iload_n 1, 1) := by decide +kernel
theorem dX11_which_27 : decode cX11_which 27 = .ok (.imul, 1) := by decide +kernel
theorem dX11_which_28 : decode cX11_which 28 = .ok (.iadd, 1) := by decide +kernel
theorem dX11_which_29 : decode cX11_which 29 = .ok (.sipush 2000, 3) := by decide +kernel
theorem dX11_which_32 : decode cX11_which 32 = .ok (.iload_n 3, 1) := by decide +kernel
theorem dX11_which_33 : decode cX11_which 33 = .ok (.imul, 1) := by decide +kernel
theorem dX11_which_34 : decode cX11_which 34 = .ok (.invokevirtual 268, 3) := by decide +kernel
theorem dX11_which_37 : decode cX11_which 37 = .ok (.ifCond .eq 9, 3) := by decide +kernel
theorem dX11_which_40 : decode cX11_which 40 = .ok (.iconst 1, 1) := by decide +kernel
theorem dX11_which_41 : decode cX11_which 41 = .ok (.iload_n 3, 1) := by decide +kernel
theorem dX11_which_42 : decode cX11_which 42 = .ok (.ishl, 1) := by decide +kernel
theorem dX11_which_43 : decode cX11_which 43 = .ok (.goto 4, 3) := by decide +kernel
theorem dX11_which_46 : decode cX11_which 46 = .ok (.iconst 0, 1) := by decide +kernel
theorem dX11_which_47 : decode cX11_which 47 = .ok (.ior, 1) := by decide +kernel
theorem dX11_which_48 : decode cX11_which 48 = .ok (.istore_n 2, 1) := by decide +kernel
theorem dX11_which_49 : decode cX11_which 49 = .ok (.iinc 3 1, 3) := by decide +kernel
theorem dX11_which_52 : decode cX11_which 52 = .ok (.goto (-39), 3) := by decide +kernel
theorem dX11_which_55 : decode cX11_which 55 = .ok (.iload_n 2, 1) := by decide +kernel
theorem dX11_which_56 : decode cX11_which 56 = .ok (.ireturn, 1) := by decide +kernel
