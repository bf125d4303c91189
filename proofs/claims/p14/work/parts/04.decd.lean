theorem dX11_misleads_59 : decode cX11_misleads 59 = .ok (.invokevirtual 153, 3) := by decide +kernel
theorem dX11_misleads_62 : decode cX11_misleads 62 = .ok (.aload_n 0, 1) := by decide +kernel
theorem dX11_misleads_63 : decode cX11_misleads 63 = .ok (.getfield 30, 3) := by decide +kernel
theorem dX11_misleads_66 : decode cX11_misleads 66 = .ok (.iload 4, 2) := by decide +kernel
theorem dX11_misleads_68 : decode cX11_misleads 68 = .ok (.invokevirtual 432, 3) := by decide +kernel
theorem dX11_misleads_71 : decode cX11_misleads 71 = .ok (.aload_n 0, 1) := by decide +kernel
theorem dX11_misleads_72 : decode cX11_misleads 72 = .ok (.aload_n 0, 1) := by decide +kernel
theorem dX11_misleads_73 : decode cX11_misleads 73 = .ok (.getfield 105, 3) := by decide +kernel
theorem dX11_misleads_76 : decode cX11_misleads 76 = .ok (.invokevirtual 382, 3) := by decide +kernel
theorem dX11_misleads_79 : decode cX11_misleads 79 = .ok (.aload_n 0, 1) := by decide +kernel
theorem dX11_misleads_80 : decode cX11_misleads 80 = .ok (.getfield 26, 3) := by decide +kernel
theorem dX11_misleads_83 : decode cX11_misleads 83 = .ok (.aload_n 0, 1) := by decide +kernel
theorem dX11_misleads_84 : decode cX11_misleads 84 = .ok (.getfield 26, 3) := by decide +kernel
theorem dX11_misleads_87 : decode cX11_misleads 87 = .ok (.getfield 250, 3) := by decide +kernel
theorem dX11_misleads_90 : decode cX11_misleads 90 = .ok (.iload 4, 2) := by decide +kernel
theorem dX11_misleads_92 : decode cX11_misleads 92 = .ok (.invokevirtual 243, 3) := by decide +kernel
theorem dX11_misleads_95 : decode cX11_misleads 95 = .ok (.iconst (-1), 1) := by decide +kernel
theorem dX11_misleads_96 : decode cX11_misleads 96 = .ok (.ixor, 1) := by decide +kernel
theorem dX11_misleads_97 : decode cX11_misleads 97 = .ok (.iand, 1) := by decide +kernel
theorem dX11_misleads_98 : decode cX11_misleads 98 = .ok (.invokestatic 389, 3) := by decide +kernel
theorem dX11_misleads_101 : decode cX11_misleads 101 = .ok (.istore 5, 2) := by decide +kernel
theorem dX11_misleads_103 : decode cX11_misleads 103 = .ok (.iload 5, 2) := by decide +kernel
theorem dX11_misleads_105 : decode cX11_misleads 105 = .ok (.iload_n 3, 1) := by decide +kernel
theorem dX11_misleads_106 : decode cX11_misleads 106 = .ok (.if_icmp .le 8, 3) := by decide +kernel
theorem dX11_misleads_109 : decode cX11_misleads 109 = .ok (.iload 4, 2) := by decide +kernel
theorem dX11_misleads_111 : decode cX11_misleads 111 = .ok (.goto 4, 3) := by decide +kernel
theorem dX11_misleads_114 : decode cX11_misleads 114 = .ok (.iload_n 2, 1) := by decide +kernel
theorem dX11_misleads_115 : decode cX11_misleads 115 = .ok (.istore_n 2, 1) := by decide +kernel
theorem dX11_misleads_116 : decode cX11_misleads 116 = .ok (.iload_n 3, 1) := by decide +kernel
theorem dX11_misleads_117 : decode cX11_misleads 117 = .ok (.iload 5, 2) := by decide +kernel
theorem dX11_misleads_119 : decode cX11_misleads 119 = .ok (.invokestatic 435, 3) := by decide +kernel
theorem dX11_misleads_122 : decode cX11_misleads 122 = .ok (.istore_n 3, 1) := by decide +kernel
theorem dX11_misleads_123 : decode cX11_misleads 123 = .ok (.iinc 4 1, 3) := by decide +kernel
theorem dX11_misleads_126 : decode cX11_misleads 126 = .ok (.goto (-99), 3) := by decide +kernel
theorem dX11_misleads_129 : decode cX11_misleads 129 = .ok (.iload_n 2, 1) := by decide +kernel
theorem dX11_misleads_130 : decode cX11_misleads 130 = .ok (.iconst (-1), 1) := by decide +kernel
theorem dX11_misleads_131 : decode cX11_misleads 131 = .ok (.if_icmp .ne 6, 3) := by decide +kernel
theorem dX11_misleads_134 : decode cX11_misleads 134 = .ok (.bipush (-2), 2) := by decide +kernel
theorem dX11_misleads_136 : decode cX11_misleads 136 = .ok (.ireturn, 1) := by decide +kernel
theorem dX11_misleads_137 : decode cX11_misleads 137 = .ok (.aload_n 0, 1) := by decide +kernel
theorem dX11_misleads_138 : decode cX11_misleads 138 = .ok (.getfield 66, 3) := by decide +kernel
theorem dX11_misleads_141 : decode cX11_misleads 141 = .ok (.iload_n 3, 1) := by decide +kernel
theorem dX11_misleads_142 : decode cX11_misleads 142 = .ok (.i2l, 1) := by decide +kernel
theorem dX11_misleads_143 : decode cX11_misleads 143 = .ok (.iload_n 1, 1) := by decide +kernel
theorem dX11_misleads_144 : decode cX11_misleads 144 = .ok (.aload_n 0, 1) := by decide +kernel
theorem dX11_misleads_145 : decode cX11_misleads 145 = .ok (.getfield 26, 3) := by decide +kernel
theorem dX11_misleads_148 : decode cX11_misleads 148 = .ok (.aload_n 0, 1) := by decide +kernel
theorem dX11_misleads_149 : decode cX11_misleads 149 = .ok (.getfield 26, 3) := by decide +kernel
theorem dX11_misleads_152 : decode cX11_misleads 152 = .ok (.getfield 250, 3) := by decide +kernel
theorem dX11_misleads_155 : decode cX11_misleads 155 = .ok (.iload_n 2, 1) := by decide +kernel
theorem dX11_misleads_156 : decode cX11_misleads 156 = .ok (.invokevirtual 243, 3) := by decide +kernel
theorem dX11_misleads_159 : decode cX11_misleads 159 = .ok (.iconst (-1), 1) := by decide +kernel
theorem dX11_misleads_160 : decode cX11_misleads 160 = .ok (.ixor, 1) := by decide +kernel
theorem dX11_misleads_161 : decode cX11_misleads 161 = .ok (.iand, 1) := by decide +kernel
theorem dX11_misleads_162 : decode cX11_misleads 162 = .ok (.invokestatic 389, 3) := by decide +kernel
theorem dX11_misleads_165 : decode cX11_misleads 165 = .ok (.i2l, 1) := by decide +kernel
theorem dX11_misleads_166 : decode cX11_misleads 166 = .ok (.invokevirtual 298, 3) := by decide +kernel
theorem dX11_misleads_169 : decode cX11_misleads 169 = .ok (.iload_n 2, 1) := by decide +kernel
theorem dX11_misleads_170 : decode cX11_misleads 170 = .ok (.ireturn, 1) := by decide +kernel
theorem dX11_crowd_0 : decode cX11_crowd 0 = .ok (.aload_n 0, 1) := by decide +kernel
theorem dX11_crowd_1 : decode cX11_crowd 1 = .ok (.getfield 26, 3) := by decide +kernel
theorem dX11_crowd_4 : decode cX11_crowd 4 = .ok (.getfield 176, 3) := by decide +kernel
theorem dX11_crowd_7 : decode cX11_crowd 7 = .ok (.ifCond .ne 6, 3) := by decide +kernel
theorem dX11_crowd_10 : decode cX11_crowd 10 = .ok (.bipush (-2), 2) := by decide +kernel
theorem dX11_crowd_12 : decode cX11_crowd 12 = .ok (.ireturn, 1) := by decide +kernel
theorem dX11_crowd_13 : decode cX11_crowd 13 = .ok (.aload_n 0, 1) := by decide +kernel
theorem dX11_crowd_14 : decode cX11_crowd 14 = .ok (.getfield 30, 3) := by decide +kernel
theorem dX11_crowd_17 : decode cX11_crowd 17 = .ok (.aload_n 0, 1) := by decide +kernel
theorem dX11_crowd_18 : decode cX11_crowd 18 = .ok (.getfield 26, 3) := by decide +kernel
theorem dX11_crowd_21 : decode cX11_crowd 21 = .ok (.invokevirtual 153, 3) := by decide +kernel
theorem dX11_crowd_24 : decode cX11_crowd 24 = .ok (.aload_n 0, 1) := by decide +kernel
theorem dX11_crowd_25 : decode cX11_crowd 25 = .ok (.getfield 44, 3) := by decide +kernel
theorem dX11_crowd_28 : decode cX11_crowd 28 = .ok (.aload_n 0, 1) := by decide +kernel
theorem dX11_crowd_29 : decode cX11_crowd 29 = .ok (.getfield 30, 3) := by decide +kernel
theorem dX11_crowd_32 : decode cX11_crowd 32 = .ok (.aload_n 0, 1) := by decide +kernel
theorem dX11_crowd_33 : decode cX11_crowd 33 = .ok (.getfield 105, 3) := by decide +kernel
theorem dX11_crowd_36 : decode cX11_crowd 36 = .ok (.invokevirtual 394, 3) := by decide +kernel
theorem dX11_crowd_39 : decode cX11_crowd 39 = .ok (.iconst 0, 1) := by decide +kernel
theorem dX11_crowd_40 : decode cX11_crowd 40 = .ok (.istore_n 1, 1) := by decide +kernel
theorem dX11_crowd_41 : decode cX11_crowd 41 = .ok (.iconst (-1), 1) := by decide +kernel
theorem dX11_crowd_42 : decode cX11_crowd 42 = .ok (.istore_n 2, 1) := by decide +kernel
theorem dX11_crowd_43 : decode cX11_crowd 43 = .ok (.iconst 0, 1) := by decide +kernel
theorem dX11_crowd_44 : decode cX11_crowd 44 = .ok (.istore_n 3, 1) := by decide +kernel
theorem dX11_crowd_45 : decode cX11_crowd 45 = .ok (.iload_n 3, 1) := by decide +kernel
theorem dX11_crowd_46 : decode cX11_crowd 46 = .ok (.aload_n 0, 1) := by decide +kernel
theorem dX11_crowd_47 : decode cX11_crowd 47 = .ok (.getfield 30, 3) := by decide +kernel
theorem dX11_crowd_50 : decode cX11_crowd 50 = .ok (.getfield 176, 3) := by decide +kernel
theorem dX11_crowd_53 : decode cX11_crowd 53 = .ok (.if_icmp .ge 48, 3) := by decide +kernel
theorem dX11_crowd_56 : decode cX11_crowd 56 = .ok (.aload_n 0, 1) := by decide +kernel
theorem dX11_crowd_57 : decode cX11_crowd 57 = .ok (.getfield 30, 3) := by decide +kernel
theorem dX11_crowd_60 : decode cX11_crowd 60 = .ok (.aload_n 0, 1) := by decide +kernel
theorem dX11_crowd_61 : decode cX11_crowd 61 = .ok (.getfield 30, 3) := by decide +kernel
theorem dX11_crowd_64 : decode cX11_crowd 64 = .ok (.getfield 247, 3) := by decide +kernel
theorem dX11_crowd_67 : decode cX11_crowd 67 = .ok (.iload_n 3, 1) := by decide +kernel
theorem dX11_crowd_68 : decode cX11_crowd 68 = .ok (.invokevirtual 243, 3) := by decide +kernel
theorem dX11_crowd_71 : decode cX11_crowd 71 = .ok (.invokestatic 389, 3) := by decide +kernel
theorem dX11_crowd_74 : decode cX11_crowd 74 = .ok (.istore 4, 2) := by decide +kernel
theorem dX11_crowd_76 : decode cX11_crowd 76 = .ok (.iload 4, 2) := by decide +kernel
theorem dX11_crowd_78 : decode cX11_crowd 78 = .ok (.iload_n 2, 1) := by decide +kernel
theorem dX11_crowd_79 : decode cX11_crowd 79 = .ok (.if_icmp .le 7, 3) := by decide +kernel
theorem dX11_crowd_82 : decode cX11_crowd 82 = .ok (.iload_n 3, 1) := by decide +kernel
theorem dX11_crowd_83 : decode cX11_crowd 83 = .ok (.goto 4, 3) := by decide +kernel
theorem dX11_crowd_86 : decode cX11_crowd 86 = .ok (.iload_n 1, 1) := by decide +kernel
theorem dX11_crowd_87 : decode cX11_crowd 87 = .ok (.istore_n 1, 1) := by decide +kernel
theorem dX11_crowd_88 : decode cX11_crowd 88 = .ok (.iload_n 2, 1) := by decide +kernel
theorem dX11_crowd_89 : decode cX11_crowd 89 = .ok (.iload 4, 2) := by decide +kernel
theorem dX11_crowd_91 : decode cX11_crowd 91 = .ok (.invokestatic 435, 3) := by decide +kernel
theorem dX11_crowd_94 : decode cX11_crowd 94 = .ok (.istore_n 2, 1) := by decide +kernel
theorem dX11_crowd_95 : decode cX11_crowd 95 = .ok (.iinc 3 1, 3) := by decide +kernel
theorem dX11_crowd_98 : decode cX11_crowd 98 = .ok (.goto (-53), 3) := by decide +kernel
theorem dX11_crowd_101 : decode cX11_crowd 101 = .ok (.aload_n 0, 1) := by decide +kernel
theorem dX11_crowd_102 : decode cX11_crowd 102 = .ok (.getfield 66, 3) := by decide +kernel
theorem dX11_crowd_105 : decode cX11_crowd 105 = .ok (.iload_n 2, 1) := by decide +kernel
theorem dX11_crowd_106 : decode cX11_crowd 106 = .ok (.i2l, 1) := by decide +kernel
theorem dX11_crowd_107 : decode cX11_crowd 107 = .ok (.aload_n 0, 1) := by decide +kernel
theorem dX11_crowd_108 : decode cX11_crowd 108 = .ok (.getfield 30, 3) := by decide +kernel
theorem dX11_crowd_111 : decode cX11_crowd 111 = .ok (.invokevirtual 397, 3) := by decide +kernel
theorem dX11_crowd_114 : decode cX11_crowd 114 = .ok (.aload_n 0, 1) := by decide +kernel
theorem dX11_crowd_115 : decode cX11_crowd 115 = .ok (.getfield 30, 3) := by decide +kernel
theorem dX11_crowd_118 : decode cX11_crowd 118 = .ok (.aload_n 0, 1) := by decide +kernel
theorem dX11_crowd_119 : decode cX11_crowd 119 = .ok (.getfield 30, 3) := by decide +kernel
theorem dX11_crowd_122 : decode cX11_crowd 122 = .ok (.getfield 250, 3) := by decide +kernel
theorem dX11_crowd_125 : decode cX11_crowd 125 = .ok (.iload_n 1, 1) := by decide +kernel
theorem dX11_crowd_126 : decode cX11_crowd 126 = .ok (.invokevirtual 243, 3) := by decide +kernel
theorem dX11_crowd_129 : decode cX11_crowd 129 = .ok (.iand, 1) := by decide +kernel
theorem dX11_crowd_130 : decode cX11_crowd 130 = .ok (.invokestatic 389, 3) := by decide +kernel
theorem dX11_crowd_133 : decode cX11_crowd 133 = .ok (.i2l, 1) := by decide +kernel
theorem dX11_crowd_134 : decode cX11_crowd 134 = .ok (.invokevirtual 298, 3) := by decide +kernel
theorem dX11_crowd_137 : decode cX11_crowd 137 = .ok (.iload_n 1, 1) := by decide +kernel
theorem dX11_crowd_138 : decode cX11_crowd 138 = .ok (.ireturn, 1) := by decide +kernel
theorem dX11_shares_0 : decode cX11_shares 0 = .ok (.iload_n 1, 1) := by decide +kernel
theorem dX11_shares_1 : decode cX11_shares 1 = .ok (.ifCond .lt 9, 3) := by decide +kernel
theorem dX11_shares_4 : decode cX11_shares 4 = .ok (.iload_n 1, 1) := by decide +kernel
theorem dX11_shares_5 : decode cX11_shares 5 = .ok (.bipush 30, 2) := by decide +kernel
theorem dX11_shares_7 : decode cX11_shares 7 = .ok (.if_icmp .le 5, 3) := by decide +kernel
theorem dX11_shares_10 : decode cX11_shares 10 = .ok (.iconst (-1), 1) := by decide +kernel
theorem dX11_shares_11 : decode cX11_shares 11 = .ok (.ireturn, 1) := by decide +kernel
theorem dX11_shares_12 : decode cX11_shares 12 = .ok (.aload_n 0, 1) := by decide +kernel
theorem dX11_shares_13 : decode cX11_shares 13 = .ok (.getfield 73, 3) := by decide +kernel
theorem dX11_shares_16 : decode cX11_shares 16 = .ok (.aload_n 0, 1) := by decide +kernel
theorem dX11_shares_17 : decode cX11_shares 17 = .ok (.getfield 26, 3) := by decide +kernel
theorem dX11_shares_20 : decode cX11_shares 20 = .ok (.iload_n 1, 1) := by decide +kernel
theorem dX11_shares_21 : decode cX11_shares 21 = .ok (.invokevirtual 440, 3) := by decide +kernel
theorem dX11_shares_24 : decode cX11_shares 24 = .ok (.istore_n 2, 1) := by decide +kernel
theorem dX11_shares_25 : decode cX11_shares 25 = .ok (.aload_n 0, 1) := by decide +kernel
theorem dX11_shares_26 : decode cX11_shares 26 = .ok (.getfield 66, 3) := by decide +kernel
theorem dX11_shares_29 : decode cX11_shares 29 = .ok (.invokevirtual 349, 3) := by decide +kernel
theorem dX11_shares_32 : decode cX11_shares 32 = .ok (.iconst 0, 1) := by decide +kernel
theorem dX11_shares_33 : decode cX11_shares 33 = .ok (.istore_n 3, 1) := by decide +kernel
theorem dX11_shares_34 : decode cX11_shares 34 = .ok (.iconst 0, 1) := by decide +kernel
theorem dX11_shares_35 : decode cX11_shares 35 = .ok (.istore 4, 2) := by decide +kernel
theorem dX11_shares_37 : decode cX11_shares 37 = .ok (.iload 4, 2) := by decide +kernel
theorem dX11_shares_39 : decode cX11_shares 39 = .ok (.aload_n 0, 1) := by decide +kernel
theorem dX11_shares_40 : decode cX11_shares 40 = .ok (.getfield 26, 3) := by decide +kernel
theorem dX11_shares_43 : decode cX11_shares 43 = .ok (.getfield 191, 3) := by decide +kernel
theorem dX11_shares_46 : decode cX11_shares 46 = .ok (.if_icmp .ge 52, 3) := by decide +kernel
theorem dX11_shares_49 : decode cX11_shares 49 = .ok (.aload_n 0, 1) := by decide +kernel
theorem dX11_shares_50 : decode cX11_shares 50 = .ok (.getfield 73, 3) := by decide +kernel
theorem dX11_shares_53 : decode cX11_shares 53 = .ok (.aload_n 0, 1) := by decide +kernel
theorem dX11_shares_54 : decode cX11_shares 54 = .ok (.getfield 26, 3) := by decide +kernel
theorem dX11_shares_57 : decode cX11_shares 57 = .ok (.iload 4, 2) := by decide +kernel
theorem dX11_shares_59 : decode cX11_shares 59 = .ok (.iload_n 3, 1) := by decide +kernel
theorem dX11_shares_60 : decode cX11_shares 60 = .ok (.invokevirtual 444, 3) := by decide +kernel
theorem dX11_shares_63 : decode cX11_shares 63 = .ok (.istore 5, 2) := by decide +kernel
theorem dX11_shares_65 : decode cX11_shares 65 = .ok (.iload_n 3, 1) := by decide +kernel
theorem dX11_shares_66 : decode cX11_shares 66 = .ok (.iload 5, 2) := by decide +kernel
theorem dX11_shares_68 : decode cX11_shares 68 = .ok (.iconst (-1), 1) := by decide +kernel
theorem dX11_shares_69 : decode cX11_shares 69 = .ok (.if_icmp .ne 7, 3) := by decide +kernel
theorem dX11_shares_72 : decode cX11_shares 72 = .ok (.iconst 0, 1) := by decide +kernel
theorem dX11_shares_73 : decode cX11_shares 73 = .ok (.goto 7, 3) := by decide +kernel
theorem dX11_shares_76 : decode cX11_shares 76 = .ok (.iconst 1, 1) := by decide +kernel
theorem dX11_shares_77 : decode cX11_shares 77 = .ok (.iload 5, 2) := by decide +kernel
theorem dX11_shares_79 : decode cX11_shares 79 = .ok (.ishl, 1) := by decide +kernel
theorem dX11_shares_80 : decode cX11_shares 80 = .ok (.ior, 1) := by decide +kernel
theorem dX11_shares_81 : decode cX11_shares 81 = .ok (.istore_n 3, 1) := by decide +kernel
theorem dX11_shares_82 : decode cX11_shares 82 = .ok (.aload_n 0, 1) := by decide +kernel
theorem dX11_shares_83 : decode cX11_shares 83 = .ok (.getfield 66, 3) := by decide +kernel
theorem dX11_shares_86 : decode cX11_shares 86 = .ok (.iload 5, 2) := by decide +kernel
theorem dX11_shares_88 : decode cX11_shares 88 = .ok (.i2l, 1) := by decide +kernel
theorem dX11_shares_89 : decode cX11_shares 89 = .ok (.invokevirtual 356, 3) := by decide +kernel
theorem dX11_shares_92 : decode cX11_shares 92 = .ok (.iinc 4 1, 3) := by decide +kernel
theorem dX11_shares_95 : decode cX11_shares 95 = .ok (.goto (-58), 3) := by decide +kernel
theorem dX11_shares_98 : decode cX11_shares 98 = .ok (.iload_n 2, 1) := by decide +kernel
theorem dX11_shares_99 : decode cX11_shares 99 = .ok (.ireturn, 1) := by decide +kernel
theorem dX11_strangers_0 : decode cX11_strangers 0 = .ok (.bipush 30, 2) := by decide +kernel
theorem dX11_strangers_2 : decode cX11_strangers 2 = .ok (.istore_n 1, 1) := by decide +kernel
theorem dX11_strangers_3 : decode cX11_strangers 3 = .ok (.iconst 0, 1) := by decide +kernel
theorem dX11_strangers_4 : decode cX11_strangers 4 = .ok (.istore_n 2, 1) := by decide +kernel
theorem dX11_strangers_5 : decode cX11_strangers 5 = .ok (.iload_n 2, 1) := by decide +kernel
theorem dX11_strangers_6 : decode cX11_strangers 6 = .ok (.aload_n 0, 1) := by decide +kernel
theorem dX11_strangers_7 : decode cX11_strangers 7 = .ok (.getfield 26, 3) := by decide +kernel
theorem dX11_strangers_10 : decode cX11_strangers 10 = .ok (.getfield 191, 3) := by decide +kernel
theorem dX11_strangers_13 : decode cX11_strangers 13 = .ok (.if_icmp .ge 129, 3) := by decide +kernel
theorem dX11_strangers_16 : decode cX11_strangers 16 = .ok (.iload_n 2, 1) := by decide +kernel
theorem dX11_strangers_17 : decode cX11_strangers 17 = .ok (.iconst 1, 1) := by decide +kernel
theorem dX11_strangers_18 : decode cX11_strangers 18 = .ok (.iadd, 1) := by decide +kernel
theorem dX11_strangers_19 : decode cX11_strangers 19 = .ok (.istore_n 3, 1) := by decide +kernel
theorem dX11_strangers_20 : decode cX11_strangers 20 = .ok (.iload_n 3, 1) := by decide +kernel
theorem dX11_strangers_21 : decode cX11_strangers 21 = .ok (.aload_n 0, 1) := by decide +kernel
theorem dX11_strangers_22 : decode cX11_strangers 22 = .ok (.getfield 26, 3) := by decide +kernel
theorem dX11_strangers_25 : decode cX11_strangers 25 = .ok (.getfield 191, 3) := by decide +kernel
theorem dX11_strangers_28 : decode cX11_strangers 28 = .ok (.if_icmp .ge 108, 3) := by decide +kernel
theorem dX11_strangers_31 : decode cX11_strangers 31 = .ok (.aload_n 0, 1) := by decide +kernel
theorem dX11_strangers_32 : decode cX11_strangers 32 = .ok (.getfield 26, 3) := by decide +kernel
theorem dX11_strangers_35 : decode cX11_strangers 35 = .ok (.iload_n 2, 1) := by decide +kernel
theorem dX11_strangers_36 : decode cX11_strangers 36 = .ok (.invokevirtual 278, 3) := by decide +kernel
theorem dX11_strangers_39 : decode cX11_strangers 39 = .ok (.ifCond .ne 39, 3) := by decide +kernel
theorem dX11_strangers_42 : decode cX11_strangers 42 = .ok (.aload_n 0, 1) := by decide +kernel
theorem dX11_strangers_43 : decode cX11_strangers 43 = .ok (.getfield 26, 3) := by decide +kernel
theorem dX11_strangers_46 : decode cX11_strangers 46 = .ok (.iload_n 3, 1) := by decide +kernel
theorem dX11_strangers_47 : decode cX11_strangers 47 = .ok (.invokevirtual 278, 3) := by decide +kernel
theorem dX11_strangers_50 : decode cX11_strangers 50 = .ok (.ifCond .ne 28, 3) := by decide +kernel
theorem dX11_strangers_53 : decode cX11_strangers 53 = .ok (.aload_n 0, 1) := by decide +kernel
theorem dX11_strangers_54 : decode cX11_strangers 54 = .ok (.getfield 26, 3) := by decide +kernel
theorem dX11_strangers_57 : decode cX11_strangers 57 = .ok (.getfield 250, 3) := by decide +kernel
theorem dX11_strangers_60 : decode cX11_strangers 60 = .ok (.iload_n 2, 1) := by decide +kernel
theorem dX11_strangers_61 : decode cX11_strangers 61 = .ok (.iaload, 1) := by decide +kernel
theorem dX11_strangers_62 : decode cX11_strangers 62 = .ok (.aload_n 0, 1) := by decide +kernel
theorem dX11_strangers_63 : decode cX11_strangers 63 = .ok (.getfield 26, 3) := by decide +kernel
theorem dX11_strangers_66 : decode cX11_strangers 66 = .ok (.getfield 250, 3) := by decide +kernel
theorem dX11_strangers_69 : decode cX11_strangers 69 = .ok (.iload_n 3, 1) := by decide +kernel
theorem dX11_strangers_70 : decode cX11_strangers 70 = .ok (.iaload, 1) := by decide +kernel
theorem dX11_strangers_71 : decode cX11_strangers 71 = .ok (.if_icmp .eq 7, 3) := by decide +kernel
theorem dX11_strangers_74 : decode cX11_strangers 74 = .ok (.iconst 1, 1) := by decide +kernel
theorem dX11_strangers_75 : decode cX11_strangers 75 = .ok (.goto 4, 3) := by decide +kernel
theorem dX11_strangers_78 : decode cX11_strangers 78 = .ok (.iconst 0, 1) := by decide +kernel
theorem dX11_strangers_79 : decode cX11_strangers 79 = .ok (.istore 4, 2) := by decide +kernel
theorem dX11_strangers_81 : decode cX11_strangers 81 = .ok (.aload_n 0, 1) := by decide +kernel
theorem dX11_strangers_82 : decode cX11_strangers 82 = .ok (.getfield 26, 3) := by decide +kernel
theorem dX11_strangers_85 : decode cX11_strangers 85 = .ok (.getfield 270, 3) := by decide +kernel
theorem dX11_strangers_88 : decode cX11_strangers 88 = .ok (.iload_n 2, 1) := by decide +kernel
theorem dX11_strangers_89 : decode cX11_strangers 89 = .ok (.iaload, 1) := by decide +kernel
theorem dX11_strangers_90 : decode cX11_strangers 90 = .ok (.aload_n 0, 1) := by decide +kernel
theorem dX11_strangers_91 : decode cX11_strangers 91 = .ok (.getfield 26, 3) := by decide +kernel
theorem dX11_strangers_94 : decode cX11_strangers 94 = .ok (.getfield 270, 3) := by decide +kernel
theorem dX11_strangers_97 : decode cX11_strangers 97 = .ok (.iload_n 3, 1) := by decide +kernel
theorem dX11_strangers_98 : decode cX11_strangers 98 = .ok (.iaload, 1) := by decide +kernel
theorem dX11_strangers_99 : decode cX11_strangers 99 = .ok (.isub, 1) := by decide +kernel
theorem dX11_strangers_100 : decode cX11_strangers 100 = .ok (.invokestatic 448, 3) := by decide +kernel
theorem dX11_strangers_103 : decode cX11_strangers 103 = .ok (.istore 5, 2) := by decide +kernel
theorem dX11_strangers_105 : decode cX11_strangers 105 = .ok (.iload 4, 2) := by decide +kernel
theorem dX11_strangers_107 : decode cX11_strangers 107 = .ok (.ifCond .eq 23, 3) := by decide +kernel
theorem dX11_strangers_110 : decode cX11_strangers 110 = .ok (.iload 5, 2) := by decide +kernel
theorem dX11_strangers_112 : decode cX11_strangers 112 = .ok (.iload_n 1, 1) := by decide +kernel
theorem dX11_strangers_113 : decode cX11_strangers 113 = .ok (.if_icmp .ge 17, 3) := by decide +kernel
theorem dX11_strangers_116 : decode cX11_strangers 116 = .ok (.iload 5, 2) := by decide +kernel
theorem dX11_strangers_118 : decode cX11_strangers 118 = .ok (.istore_n 1, 1) := by decide +kernel
theorem dX11_strangers_119 : decode cX11_strangers 119 = .ok (.aload_n 0, 1) := by decide +kernel
theorem dX11_strangers_120 : decode cX11_strangers 120 = .ok (.getfield 66, 3) := by decide +kernel
theorem dX11_strangers_123 : decode cX11_strangers 123 = .ok (.iload_n 2, 1) := by decide +kernel
theorem dX11_strangers_124 : decode cX11_strangers 124 = .ok (.i2l, 1) := by decide +kernel
theorem dX11_strangers_125 : decode cX11_strangers 125 = .ok (.iload_n 3, 1) := by decide +kernel
theorem dX11_strangers_126 : decode cX11_strangers 126 = .ok (.i2l, 1) := by decide +kernel
theorem dX11_strangers_127 : decode cX11_strangers 127 = .ok (.invokevirtual 298, 3) := by decide +kernel
theorem dX11_strangers_130 : decode cX11_strangers 130 = .ok (.iinc 3 1, 3) := by decide +kernel
theorem dX11_strangers_133 : decode cX11_strangers 133 = .ok (.goto (-113), 3) := by decide +kernel
theorem dX11_strangers_136 : decode cX11_strangers 136 = .ok (.iinc 2 1, 3) := by decide +kernel
theorem dX11_strangers_139 : decode cX11_strangers 139 = .ok (.goto (-134), 3) := by decide +kernel
theorem dX11_strangers_142 : decode cX11_strangers 142 = .ok (.iload_n 1, 1) := by decide +kernel
theorem dX11_strangers_143 : decode cX11_strangers 143 = .ok (.bipush 30, 2) := by decide +kernel
theorem dX11_strangers_145 : decode cX11_strangers 145 = .ok (.if_icmp .ge 7, 3) := by decide +kernel
theorem dX11_strangers_148 : decode cX11_strangers 148 = .ok (.iload_n 1, 1) := by decide +kernel
theorem dX11_strangers_149 : decode cX11_strangers 149 = .ok (.goto 5, 3) := by decide +kernel
theorem dX11_strangers_152 : decode cX11_strangers 152 = .ok (.bipush (-2), 2) := by decide +kernel
theorem dX11_strangers_154 : decode cX11_strangers 154 = .ok (.ireturn, 1) := by decide +kernel
theorem dX11_doubts_0 : decode cX11_doubts 0 = .ok (.iconst 0, 1) := by decide +kernel
theorem dX11_doubts_1 : decode cX11_doubts 1 = .ok (.istore_n 1, 1) := by decide +kernel
theorem dX11_doubts_2 : decode cX11_doubts 2 = .ok (.iconst 0, 1) := by decide +kernel
theorem dX11_doubts_3 : decode cX11_doubts 3 = .ok (.istore_n 2, 1) := by decide +kernel
theorem dX11_doubts_4 : decode cX11_doubts 4 = .ok (.iload_n 2, 1) := by decide +kernel
theorem dX11_doubts_5 : decode cX11_doubts 5 = .ok (.aload_n 0, 1) := by decide +kernel
theorem dX11_doubts_6 : decode cX11_doubts 6 = .ok (.getfield 26, 3) := by decide +kernel
theorem dX11_doubts_9 : decode cX11_doubts 9 = .ok (.getfield 191, 3) := by decide +kernel
theorem dX11_doubts_12 : decode cX11_doubts 12 = .ok (.if_icmp .ge 30, 3) := by decide +kernel
theorem dX11_doubts_15 : decode cX11_doubts 15 = .ok (.iload_n 1, 1) := by decide +kernel
theorem dX11_doubts_16 : decode cX11_doubts 16 = .ok (.aload_n 0, 1) := by decide +kernel
theorem dX11_doubts_17 : decode cX11_doubts 17 = .ok (.getfield 26, 3) := by decide +kernel
theorem dX11_doubts_20 : decode cX11_doubts 20 = .ok (.iload_n 2, 1) := by decide +kernel
theorem dX11_doubts_21 : decode cX11_doubts 21 = .ok (.invokevirtual 451, 3) := by decide +kernel
theorem dX11_doubts_24 : decode cX11_doubts 24 = .ok (.ifCond .eq 9, 3) := by decide +kernel
theorem dX11_doubts_27 : decode cX11_doubts 27 = .ok (.iconst 1, 1) := by decide +kernel
theorem dX11_doubts_28 : decode cX11_doubts 28 = .ok (.iload_n 2, 1) := by decide +kernel
theorem dX11_doubts_29 : decode cX11_doubts 29 = .ok (.ishl, 1) := by decide +kernel
theorem dX11_doubts_30 : decode cX11_doubts 30 = .ok (.goto 4, 3) := by decide +kernel
theorem dX11_doubts_33 : decode cX11_doubts 33 = .ok (.iconst 0, 1) := by decide +kernel
theorem dX11_doubts_34 : decode cX11_doubts 34 = .ok (.ior, 1) := by decide +kernel
theorem dX11_doubts_35 : decode cX11_doubts 35 = .ok (.istore_n 1, 1) := by decide +kernel
theorem dX11_doubts_36 : decode cX11_doubts 36 = .ok (.iinc 2 1, 3) := by decide +kernel
theorem dX11_doubts_39 : decode cX11_doubts 39 = .ok (.goto (-35), 3) := by decide +kernel
theorem dX11_doubts_42 : decode cX11_doubts 42 = .ok (.aload_n 0, 1) := by decide +kernel
theorem dX11_doubts_43 : decode cX11_doubts 43 = .ok (.getfield 66, 3) := by decide +kernel
theorem dX11_doubts_46 : decode cX11_doubts 46 = .ok (.iload_n 1, 1) := by decide +kernel
theorem dX11_doubts_47 : decode cX11_doubts 47 = .ok (.invokestatic 389, 3) := by decide +kernel
theorem dX11_doubts_50 : decode cX11_doubts 50 = .ok (.i2l, 1) := by decide +kernel
theorem dX11_doubts_51 : decode cX11_doubts 51 = .ok (.invokevirtual 366, 3) := by decide +kernel
theorem dX11_doubts_54 : decode cX11_doubts 54 = .ok (.iload_n 1, 1) := by decide +kernel
theorem dX11_doubts_55 : decode cX11_doubts 55 = .ok (.ireturn, 1) := by decide +kernel
theorem dX11_heard_0 : decode cX11_heard 0 = .ok (.aload_n 0, 1) := by decide +kernel
theorem dX11_heard_1 : decode cX11_heard 1 = .ok (.getfield 87, 3) := by decide +kernel
theorem dX11_heard_4 : decode cX11_heard 4 = .ok (.iload_n 1, 1) := by decide +kernel
theorem dX11_heard_5 : decode cX11_heard 5 = .ok (.iload_n 2, 1) := by decide +kernel
theorem dX11_heard_6 : decode cX11_heard 6 = .ok (.invokevirtual 454, 3) := by decide +kernel
theorem dX11_heard_9 : decode cX11_heard 9 = .ok (.ifCond .eq 13, 3) := by decide +kernel
theorem dX11_heard_12 : decode cX11_heard 12 = .ok (.aload_n 0, 1) := by decide +kernel
theorem dX11_heard_13 : decode cX11_heard 13 = .ok (.getfield 87, 3) := by decide +kernel
theorem dX11_heard_16 : decode cX11_heard 16 = .ok (.getfield 456, 3) := by decide +kernel
theorem dX11_heard_19 : decode cX11_heard 19 = .ok (.goto 4, 3) := by decide +kernel
theorem dX11_heard_22 : decode cX11_heard 22 = .ok (.iconst (-1), 1) := by decide +kernel
theorem dX11_heard_23 : decode cX11_heard 23 = .ok (.ireturn, 1) := by decide +kernel
theorem dX11_forget_0 : decode cX11_forget 0 = .ok (.aload_n 0, 1) := by decide +kernel
theorem dX11_forget_1 : decode cX11_forget 1 = .ok (.getfield 87, 3) := by decide +kernel
theorem dX11_forget_4 : decode cX11_forget 4 = .ok (.getfield 456, 3) := by decide +kernel
theorem dX11_forget_7 : decode cX11_forget 7 = .ok (.istore_n 1, 1) := by decide +kernel
theorem dX11_forget_8 : decode cX11_forget 8 = .ok (.aload_n 0, 1) := by decide +kernel
theorem dX11_forget_9 : decode cX11_forget 9 = .ok (.getfield 87, 3) := by decide +kernel
theorem dX11_forget_12 : decode cX11_forget 12 = .ok (.iconst 0, 1) := by decide +kernel
theorem dX11_forget_13 : decode cX11_forget 13 = .ok (.putfield 456, 3) := by decide +kernel
theorem dX11_forget_16 : decode cX11_forget 16 = .ok (.iload_n 1, 1) := by decide +kernel
theorem dX11_forget_17 : decode cX11_forget 17 = .ok (.ireturn, 1) := by decide +kernel
theorem dX11_fits_0 : decode cX11_fits 0 = .ok (.aload_n 0, 1) := by decide +kernel
theorem dX11_fits_1 : decode cX11_fits 1 = .ok (.getfield 30, 3) := by decide +kernel
theorem dX11_fits_4 : decode cX11_fits 4 = .ok (.aload_n 0, 1) := by decide +kernel
theorem dX11_fits_5 : decode cX11_fits 5 = .ok (.getfield 26, 3) := by decide +kernel
theorem dX11_fits_8 : decode cX11_fits 8 = .ok (.invokevirtual 153, 3) := by decide +kernel
theorem dX11_fits_11 : decode cX11_fits 11 = .ok (.aload_n 0, 1) := by decide +kernel
theorem dX11_fits_12 : decode cX11_fits 12 = .ok (.getfield 44, 3) := by decide +kernel
theorem dX11_fits_15 : decode cX11_fits 15 = .ok (.aload_n 0, 1) := by decide +kernel
theorem dX11_fits_16 : decode cX11_fits 16 = .ok (.getfield 30, 3) := by decide +kernel
theorem dX11_fits_19 : decode cX11_fits 19 = .ok (.aload_n 0, 1) := by decide +kernel
theorem dX11_fits_20 : decode cX11_fits 20 = .ok (.getfield 105, 3) := by decide +kernel
theorem dX11_fits_23 : decode cX11_fits 23 = .ok (.sipush 200, 3) := by decide +kernel
theorem dX11_fits_26 : decode cX11_fits 26 = .ok (.invokevirtual 288, 3) := by decide +kernel
theorem dX11_fits_29 : decode cX11_fits 29 = .ok (.iconst 0, 1) := by decide +kernel
theorem dX11_fits_30 : decode cX11_fits 30 = .ok (.istore_n 1, 1) := by decide +kernel
theorem dX11_fits_31 : decode cX11_fits 31 = .ok (.iconst 0, 1) := by decide +kernel
theorem dX11_fits_32 : decode cX11_fits 32 = .ok (.istore_n 2, 1) := by decide +kernel
theorem dX11_fits_33 : decode cX11_fits 33 = .ok (.iload_n 2, 1) := by decide +kernel
theorem dX11_fits_34 : decode cX11_fits 34 = .ok (.aload_n 0, 1) := by decide +kernel
theorem dX11_fits_35 : decode cX11_fits 35 = .ok (.getfield 30, 3) := by decide +kernel
theorem dX11_fits_38 : decode cX11_fits 38 = .ok (.getfield 176, 3) := by decide +kernel
theorem dX11_fits_41 : decode cX11_fits 41 = .ok (.if_icmp .ge 34, 3) := by decide +kernel
theorem dX11_fits_44 : decode cX11_fits 44 = .ok (.iload_n 1, 1) := by decide +kernel
theorem dX11_fits_45 : decode cX11_fits 45 = .ok (.aload_n 0, 1) := by decide +kernel
theorem dX11_fits_46 : decode cX11_fits 46 = .ok (.getfield 87, 3) := by decide +kernel
theorem dX11_fits_49 : decode cX11_fits 49 = .ok (.aload_n 0, 1) := by decide +kernel
theorem dX11_fits_50 : decode cX11_fits 50 = .ok (.getfield 30, 3) := by decide +kernel
theorem dX11_fits_53 : decode cX11_fits 53 = .ok (.iload_n 2, 1) := by decide +kernel
theorem dX11_fits_54 : decode cX11_fits 54 = .ok (.invokevirtual 457, 3) := by decide +kernel
theorem dX11_fits_57 : decode cX11_fits 57 = .ok (.ifCond .eq 9, 3) := by decide +kernel
theorem dX11_fits_60 : decode cX11_fits 60 = .ok (.iconst 1, 1) := by decide +kernel
theorem dX11_fits_61 : decode cX11_fits 61 = .ok (.iload_n 2, 1) := by decide +kernel
theorem dX11_fits_62 : decode cX11_fits 62 = .ok (.ishl, 1) := by decide +kernel
theorem dX11_fits_63 : decode cX11_fits 63 = .ok (.goto 4, 3) := by decide +kernel
theorem dX11_fits_66 : decode cX11_fits 66 = .ok (.iconst 0, 1) := by decide +kernel
theorem dX11_fits_67 : decode cX11_fits 67 = .ok (.ior, 1) := by decide +kernel
theorem dX11_fits_68 : decode cX11_fits 68 = .ok (.istore_n 1, 1) := by decide +kernel
theorem dX11_fits_69 : decode cX11_fits 69 = .ok (.iinc 2 1, 3) := by decide +kernel
theorem dX11_fits_72 : decode cX11_fits 72 = .ok (.goto (-39), 3) := by decide +kernel
theorem dX11_fits_75 : decode cX11_fits 75 = .ok (.aload_n 0, 1) := by decide +kernel
theorem dX11_fits_76 : decode cX11_fits 76 = .ok (.getfield 66, 3) := by decide +kernel
theorem dX11_fits_79 : decode cX11_fits 79 = .ok (.iload_n 1, 1) := by decide +kernel
theorem dX11_fits_80 : decode cX11_fits 80 = .ok (.invokestatic 389, 3) := by decide +kernel
theorem dX11_fits_83 : decode cX11_fits 83 = .ok (.i2l, 1) := by decide +kernel
theorem dX11_fits_84 : decode cX11_fits 84 = .ok (.invokevirtual 366, 3) := by decide +kernel
theorem dX11_fits_87 : decode cX11_fits 87 = .ok (.iload_n 1, 1) := by decide +kernel
theorem dX11_fits_88 : decode cX11_fits 88 = .ok (.ireturn, 1) := by decide +kernel
theorem dX11_rains_0 : decode cX11_rains 0 = .ok (.iload_n 1, 1) := by decide +kernel
theorem dX11_rains_1 : decode cX11_rains 1 = .ok (.iconst 1, 1) := by decide +kernel
theorem dX11_rains_2 : decode cX11_rains 2 = .ok (.if_icmp .lt 29, 3) := by decide +kernel
theorem dX11_rains_5 : decode cX11_rains 5 = .ok (.iload_n 1, 1) := by decide +kernel
theorem dX11_rains_6 : decode cX11_rains 6 = .ok (.bipush 12, 2) := by decide +kernel
theorem dX11_rains_8 : decode cX11_rains 8 = .ok (.if_icmp .gt 23, 3) := by decide +kernel
theorem dX11_rains_11 : decode cX11_rains 11 = .ok (.iload_n 2, 1) := by decide +kernel
theorem dX11_rains_12 : decode cX11_rains 12 = .ok (.ifCond .lt 19, 3) := by decide +kernel
theorem dX11_rains_15 : decode cX11_rains 15 = .ok (.iload_n 2, 1) := by decide +kernel
theorem dX11_rains_16 : decode cX11_rains 16 = .ok (.bipush 12, 2) := by decide +kernel
theorem dX11_rains_18 : decode cX11_rains 18 = .ok (.if_icmp .gt 13, 3) := by decide +kernel
theorem dX11_rains_21 : decode cX11_rains 21 = .ok (.iload_n 3, 1) := by decide +kernel
theorem dX11_rains_22 : decode cX11_rains 22 = .ok (.ifCond .lt 9, 3) := by decide +kernel
theorem dX11_rains_25 : decode cX11_rains 25 = .ok (.iload_n 3, 1) := by decide +kernel
theorem dX11_rains_26 : decode cX11_rains 26 = .ok (.bipush 10, 2) := by decide +kernel
theorem dX11_rains_28 : decode cX11_rains 28 = .ok (.if_icmp .le 5, 3) := by decide +kernel
theorem dX11_rains_31 : decode cX11_rains 31 = .ok (.iconst (-1), 1) := by decide +kernel
theorem dX11_rains_32 : decode cX11_rains 32 = .ok (.ireturn, 1) := by decide +kernel
theorem dX11_rains_33 : decode cX11_rains 33 = .ok (.lconst 0, 1) := by decide +kernel
theorem dX11_rains_34 : decode cX11_rains 34 = .ok (.lstore 4, 2) := by decide +kernel
theorem dX11_rains_36 : decode cX11_rains 36 = .ok (.lconst 1, 1) := by decide +kernel
theorem dX11_rains_37 : decode cX11_rains 37 = .ok (.lstore 6, 2) := by decide +kernel
theorem dX11_rains_39 : decode cX11_rains 39 = .ok (.iconst 0, 1) := by decide +kernel
theorem dX11_rains_40 : decode cX11_rains 40 = .ok (.istore 8, 2) := by decide +kernel
theorem dX11_rains_42 : decode cX11_rains 42 = .ok (.iload 8, 2) := by decide +kernel
theorem dX11_rains_44 : decode cX11_rains 44 = .ok (.iload_n 1, 1) := by decide +kernel
theorem dX11_rains_45 : decode cX11_rains 45 = .ok (.if_icmp .ge 67, 3) := by decide +kernel
theorem dX11_rains_48 : decode cX11_rains 48 = .ok (.iload 8, 2) := by decide +kernel
theorem dX11_rains_50 : decode cX11_rains 50 = .ok (.iconst 1, 1) := by decide +kernel
theorem dX11_rains_51 : decode cX11_rains 51 = .ok (.iadd, 1) := by decide +kernel
theorem dX11_rains_52 : decode cX11_rains 52 = .ok (.iload_n 2, 1) := by decide +kernel
theorem dX11_rains_53 : decode cX11_rains 53 = .ok (.if_icmp .lt 35, 3) := by decide +kernel
theorem dX11_rains_56 : decode cX11_rains 56 = .ok (.lload 4, 2) := by decide +kernel
theorem dX11_rains_58 : decode cX11_rains 58 = .ok (.lload 6, 2) := by decide +kernel
theorem dX11_rains_60 : decode cX11_rains 60 = .ok (.iload_n 3, 1) := by decide +kernel
theorem dX11_rains_61 : decode cX11_rains 61 = .ok (.i2l, 1) := by decide +kernel
theorem dX11_rains_62 : decode cX11_rains 62 = .ok (.iload 8, 2) := by decide +kernel
theorem dX11_rains_64 : decode cX11_rains 64 = .ok (.iconst 1, 1) := by decide +kernel
theorem dX11_rains_65 : decode cX11_rains 65 = .ok (.iadd, 1) := by decide +kernel
theorem dX11_rains_66 : decode cX11_rains 66 = .ok (.invokestatic 461, 3) := by decide +kernel
theorem dX11_rains_69 : decode cX11_rains 69 = .ok (.lmul, 1) := by decide +kernel
theorem dX11_rains_70 : decode cX11_rains 70 = .ok (.bipush 10, 2) := by decide +kernel
theorem dX11_rains_72 : decode cX11_rains 72 = .ok (.iload_n 3, 1) := by decide +kernel
theorem dX11_rains_73 : decode cX11_rains 73 = .ok (.isub, 1) := by decide +kernel
theorem dX11_rains_74 : decode cX11_rains 74 = .ok (.i2l, 1) := by decide +kernel
theorem dX11_rains_75 : decode cX11_rains 75 = .ok (.iload_n 1, 1) := by decide +kernel
theorem dX11_rains_76 : decode cX11_rains 76 = .ok (.iconst 1, 1) := by decide +kernel
theorem dX11_rains_77 : decode cX11_rains 77 = .ok (.isub, 1) := by decide +kernel
theorem dX11_rains_78 : decode cX11_rains 78 = .ok (.iload 8, 2) := by decide +kernel
theorem dX11_rains_80 : decode cX11_rains 80 = .ok (.isub, 1) := by decide +kernel
theorem dX11_rains_81 : decode cX11_rains 81 = .ok (.invokestatic 461, 3) := by decide +kernel
theorem dX11_rains_84 : decode cX11_rains 84 = .ok (.lmul, 1) := by decide +kernel
theorem dX11_rains_85 : decode cX11_rains 85 = .ok (.ladd, 1) := by decide +kernel
theorem dX11_rains_86 : decode cX11_rains 86 = .ok (.lstore 4, 2) := by decide +kernel
theorem dX11_rains_88 : decode cX11_rains 88 = .ok (.lload 6, 2) := by decide +kernel
theorem dX11_rains_90 : decode cX11_rains 90 = .ok (.iload_n 1, 1) := by decide +kernel
theorem dX11_rains_91 : decode cX11_rains 91 = .ok (.iconst 1, 1) := by decide +kernel
theorem dX11_rains_92 : decode cX11_rains 92 = .ok (.isub, 1) := by decide +kernel
theorem dX11_rains_93 : decode cX11_rains 93 = .ok (.iload 8, 2) := by decide +kernel
theorem dX11_rains_95 : decode cX11_rains 95 = .ok (.isub, 1) := by decide +kernel
theorem dX11_rains_96 : decode cX11_rains 96 = .ok (.i2l, 1) := by decide +kernel
theorem dX11_rains_97 : decode cX11_rains 97 = .ok (.lmul, 1) := by decide +kernel
theorem dX11_rains_98 : decode cX11_rains 98 = .ok (.iload 8, 2) := by decide +kernel
theorem dX11_rains_100 : decode cX11_rains 100 = .ok (.iconst 1, 1) := by decide +kernel
theorem dX11_rains_101 : decode cX11_rains 101 = .ok (.iadd, 1) := by decide +kernel
theorem dX11_rains_102 : decode cX11_rains 102 = .ok (.i2l, 1) := by decide +kernel
theorem dX11_rains_103 : decode cX11_rains 103 = .ok (.ldiv, 1) := by decide +kernel
theorem dX11_rains_104 : decode cX11_rains 104 = .ok (.lstore 6, 2) := by decide +kernel
theorem dX11_rains_106 : decode cX11_rains 106 = .ok (.iinc 8 1, 3) := by decide +kernel
theorem dX11_rains_109 : decode cX11_rains 109 = .ok (.goto (-67), 3) := by decide +kernel
theorem dX11_rains_112 : decode cX11_rains 112 = .ok (.ldc2_w 465, 3) := by decide +kernel
theorem dX11_rains_115 : decode cX11_rains 115 = .ok (.iload_n 1, 1) := by decide +kernel
theorem dX11_rains_116 : decode cX11_rains 116 = .ok (.invokestatic 461, 3) := by decide +kernel
theorem dX11_rains_119 : decode cX11_rains 119 = .ok (.lstore 8, 2) := by decide +kernel
theorem dX11_rains_121 : decode cX11_rains 121 = .ok (.lload 4, 2) := by decide +kernel
theorem dX11_rains_123 : decode cX11_rains 123 = .ok (.lload 8, 2) := by decide +kernel
theorem dX11_rains_125 : decode cX11_rains 125 = .ok (.invokestatic 467, 3) := by decide +kernel
theorem dX11_rains_128 : decode cX11_rains 128 = .ok (.lstore 10, 2) := by decide +kernel
theorem dX11_rains_130 : decode cX11_rains 130 = .ok (.lload 10, 2) := by decide +kernel
theorem dX11_rains_132 : decode cX11_rains 132 = .ok (.lconst 1, 1) := by decide +kernel
theorem dX11_rains_133 : decode cX11_rains 133 = .ok (.lcmp, 1) := by decide +kernel
theorem dX11_rains_134 : decode cX11_rains 134 = .ok (.ifCond .ge 5, 3) := by decide +kernel
theorem dX11_rains_137 : decode cX11_rains 137 = .ok (.iconst (-1), 1) := by decide +kernel
theorem dX11_rains_138 : decode cX11_rains 138 = .ok (.ireturn, 1) := by decide +kernel
theorem dX11_rains_139 : decode cX11_rains 139 = .ok (.aload_n 0, 1) := by decide +kernel
theorem dX11_rains_140 : decode cX11_rains 140 = .ok (.getfield 66, 3) := by decide +kernel
theorem dX11_rains_143 : decode cX11_rains 143 = .ok (.lload 4, 2) := by decide +kernel
theorem dX11_rains_145 : decode cX11_rains 145 = .ok (.lload 10, 2) := by decide +kernel
theorem dX11_rains_147 : decode cX11_rains 147 = .ok (.ldiv, 1) := by decide +kernel
theorem dX11_rains_148 : decode cX11_rains 148 = .ok (.lload 8, 2) := by decide +kernel
theorem dX11_rains_150 : decode cX11_rains 150 = .ok (.lload 10, 2) := by decide +kernel
theorem dX11_rains_152 : decode cX11_rains 152 = .ok (.ldiv, 1) := by decide +kernel
theorem dX11_rains_153 : decode cX11_rains 153 = .ok (.invokevirtual 298, 3) := by decide +kernel
theorem dX11_rains_156 : decode cX11_rains 156 = .ok (.iconst 0, 1) := by decide +kernel
theorem dX11_rains_157 : decode cX11_rains 157 = .ok (.ireturn, 1) := by decide +kernel
theorem dX11_power_0 : decode cX11_power 0 = .ok (.lconst 1, 1) := by decide +kernel
theorem dX11_power_1 : decode cX11_power 1 = .ok (.lstore_n 3, 1) := by decide +kernel
theorem dX11_power_2 : decode cX11_power 2 = .ok (.iconst 0, 1) := by decide +kernel
theorem dX11_power_3 : decode cX11_power 3 = .ok (.istore 5, 2) := by decide +kernel
theorem dX11_power_5 : decode cX11_power 5 = .ok (.iload 5, 2) := by decide +kernel
theorem dX11_power_7 : decode cX11_power 7 = .ok (.iload_n 2, 1) := by decide +kernel
theorem dX11_power_8 : decode cX11_power 8 = .ok (.if_icmp .ge 13, 3) := by decide +kernel
theorem dX11_power_11 : decode cX11_power 11 = .ok (.lload_n 3, 1) := by decide +kernel
theorem dX11_power_12 : decode cX11_power 12 = .ok (.lload_n 0, 1) := by decide +kernel
theorem dX11_power_13 : decode cX11_power 13 = .ok (.lmul, 1) := by decide +kernel
theorem dX11_power_14 : decode cX11_power 14 = .ok (.lstore_n 3, 1) := by decide +kernel
theorem dX11_power_15 : decode cX11_power 15 = .ok (.iinc 5 1, 3) := by decide +kernel
theorem dX11_power_18 : decode cX11_power 18 = .ok (.goto (-13), 3) := by decide +kernel
theorem dX11_power_21 : decode cX11_power 21 = .ok (.lload_n 3, 1) := by decide +kernel
theorem dX11_power_22 : decode cX11_power 22 = .ok (.lreturn, 1) := by decide +kernel
theorem dX11_commonDivisor_0 : decode cX11_commonDivisor 0 = .ok (.lload_n 0, 1) := by decide +kernel
theorem dX11_commonDivisor_1 : decode cX11_commonDivisor 1 = .ok (.lstore 4, 2) := by decide +kernel
theorem dX11_commonDivisor_3 : decode cX11_commonDivisor 3 = .ok (.lload_n 2, 1) := by decide +kernel
theorem dX11_commonDivisor_4 : decode cX11_commonDivisor 4 = .ok (.lstore 6, 2) := by decide +kernel
theorem dX11_commonDivisor_6 : decode cX11_commonDivisor 6 = .ok (.iconst 0, 1) := by decide +kernel
theorem dX11_commonDivisor_7 : decode cX11_commonDivisor 7 = .ok (.istore 8, 2) := by decide +kernel
theorem dX11_commonDivisor_9 : decode cX11_commonDivisor 9 = .ok (.iload 8, 2) := by decide +kernel
theorem dX11_commonDivisor_11 : decode cX11_commonDivisor 11 = .ok (.bipush 100, 2) := by decide +kernel
theorem dX11_commonDivisor_13 : decode cX11_commonDivisor 13 = .ok (.if_icmp .ge 31, 3) := by decide +kernel
theorem dX11_commonDivisor_16 : decode cX11_commonDivisor 16 = .ok (.lload 6, 2) := by decide +kernel
theorem dX11_commonDivisor_18 : decode cX11_commonDivisor 18 = .ok (.lconst 0, 1) := by decide +kernel
theorem dX11_commonDivisor_19 : decode cX11_commonDivisor 19 = .ok (.lcmp, 1) := by decide +kernel
theorem dX11_commonDivisor_20 : decode cX11_commonDivisor 20 = .ok (.ifCond .le 24, 3) := by decide +kernel
theorem dX11_commonDivisor_23 : decode cX11_commonDivisor 23 = .ok (.lload 4, 2) := by decide +kernel
theorem dX11_commonDivisor_25 : decode cX11_commonDivisor 25 = .ok (.lload 6, 2) := by decide +kernel
theorem dX11_commonDivisor_27 : decode cX11_commonDivisor 27 = .ok (.lrem, 1) := by decide +kernel
theorem dX11_commonDivisor_28 : decode cX11_commonDivisor 28 = .ok (.lstore 9, 2) := by decide +kernel
theorem dX11_commonDivisor_30 : decode cX11_commonDivisor 30 = .ok (.lload 6, 2) := by decide +kernel
theorem dX11_commonDivisor_32 : decode cX11_commonDivisor 32 = .ok (.lstore 4, 2) := by decide +kernel
theorem dX11_commonDivisor_34 : decode cX11_commonDivisor 34 = .ok (.lload 9, 2) := by decide +kernel
theorem dX11_commonDivisor_36 : decode cX11_commonDivisor 36 = .ok (.lstore 6, 2) := by decide +kernel
theorem dX11_commonDivisor_38 : decode cX11_commonDivisor 38 = .ok (.iinc 8 1, 3) := by decide +kernel
theorem dX11_commonDivisor_41 : decode cX11_commonDivisor 41 = .ok (.goto (-32), 3) := by decide +kernel
theorem dX11_commonDivisor_44 : decode cX11_commonDivisor 44 = .ok (.lload 4, 2) := by decide +kernel
theorem dX11_commonDivisor_46 : decode cX11_commonDivisor 46 = .ok (.lreturn, 1) := by decide +kernel
theorem dX11_law_0 : decode cX11_law 0 = .ok (.aload_n 0, 1) := by decide +kernel
theorem dX11_law_1 : decode cX11_law 1 = .ok (.getfield 94, 3) := by decide +kernel
theorem dX11_law_4 : decode cX11_law 4 = .ok (.aload_n 0, 1) := by decide +kernel
theorem dX11_law_5 : decode cX11_law 5 = .ok (.getfield 10, 3) := by decide +kernel
theorem dX11_law_8 : decode cX11_law 8 = .ok (.aload_n 0, 1) := by decide +kernel
theorem dX11_law_9 : decode cX11_law 9 = .ok (.getfield 109, 3) := by decide +kernel
theorem dX11_law_12 : decode cX11_law 12 = .ok (.invokevirtual 216, 3) := by decide +kernel
theorem dX11_law_15 : decode cX11_law 15 = .ok (.istore_n 1, 1) := by decide +kernel
theorem dX11_law_16 : decode cX11_law 16 = .ok (.aload_n 0, 1) := by decide +kernel
theorem dX11_law_17 : decode cX11_law 17 = .ok (.getfield 10, 3) := by decide +kernel
theorem dX11_law_20 : decode cX11_law 20 = .ok (.invokevirtual 140, 3) := by decide +kernel
theorem dX11_law_23 : decode cX11_law 23 = .ok (.iload_n 1, 1) := by decide +kernel
theorem dX11_law_24 : decode cX11_law 24 = .ok (.iconst (-1), 1) := by decide +kernel
theorem dX11_law_25 : decode cX11_law 25 = .ok (.if_icmp .eq 9, 3) := by decide +kernel
theorem dX11_law_28 : decode cX11_law 28 = .ok (.sipush (-10000), 3) := by decide +kernel
theorem dX11_law_31 : decode cX11_law 31 = .ok (.iload_n 1, 1) := by decide +kernel
theorem dX11_law_32 : decode cX11_law 32 = .ok (.isub, 1) := by decide +kernel
theorem dX11_law_33 : decode cX11_law 33 = .ok (.ireturn, 1) := by decide +kernel
theorem dX11_law_34 : decode cX11_law 34 = .ok (.aload_n 0, 1) := by decide +kernel
theorem dX11_law_35 : decode cX11_law 35 = .ok (.getfield 30, 3) := by decide +kernel
theorem dX11_law_38 : decode cX11_law 38 = .ok (.aload_n 0, 1) := by decide +kernel
theorem dX11_law_39 : decode cX11_law 39 = .ok (.getfield 26, 3) := by decide +kernel
theorem dX11_law_42 : decode cX11_law 42 = .ok (.invokevirtual 153, 3) := by decide +kernel
theorem dX11_law_45 : decode cX11_law 45 = .ok (.aload_n 0, 1) := by decide +kernel
theorem dX11_law_46 : decode cX11_law 46 = .ok (.aload_n 0, 1) := by decide +kernel
theorem dX11_law_47 : decode cX11_law 47 = .ok (.getfield 109, 3) := by decide +kernel
theorem dX11_law_50 : decode cX11_law 50 = .ok (.invokevirtual 382, 3) := by decide +kernel
theorem dX11_law_53 : decode cX11_law 53 = .ok (.invokestatic 389, 3) := by decide +kernel
theorem dX11_law_56 : decode cX11_law 56 = .ok (.istore_n 2, 1) := by decide +kernel
theorem dX11_law_57 : decode cX11_law 57 = .ok (.aload_n 0, 1) := by decide +kernel
theorem dX11_law_58 : decode cX11_law 58 = .ok (.getfield 30, 3) := by decide +kernel
theorem dX11_law_61 : decode cX11_law 61 = .ok (.aload_n 0, 1) := by decide +kernel
theorem dX11_law_62 : decode cX11_law 62 = .ok (.getfield 26, 3) := by decide +kernel
theorem dX11_law_65 : decode cX11_law 65 = .ok (.invokevirtual 153, 3) := by decide +kernel
theorem dX11_law_68 : decode cX11_law 68 = .ok (.aload_n 0, 1) := by decide +kernel
theorem dX11_law_69 : decode cX11_law 69 = .ok (.aload_n 0, 1) := by decide +kernel
theorem dX11_law_70 : decode cX11_law 70 = .ok (.getfield 105, 3) := by decide +kernel
theorem dX11_law_73 : decode cX11_law 73 = .ok (.invokevirtual 382, 3) := by decide +kernel
theorem dX11_law_76 : decode cX11_law 76 = .ok (.invokestatic 389, 3) := by decide +kernel
theorem dX11_law_79 : decode cX11_law 79 = .ok (.istore_n 3, 1) := by decide +kernel
theorem dX11_law_80 : decode cX11_law 80 = .ok (.aload_n 0, 1) := by decide +kernel
theorem dX11_law_81 : decode cX11_law 81 = .ok (.getfield 66, 3) := by decide +kernel
theorem dX11_law_84 : decode cX11_law 84 = .ok (.iload_n 2, 1) := by decide +kernel
theorem dX11_law_85 : decode cX11_law 85 = .ok (.i2l, 1) := by decide +kernel
theorem dX11_law_86 : decode cX11_law 86 = .ok (.iload_n 3, 1) := by decide +kernel
theorem dX11_law_87 : decode cX11_law 87 = .ok (.i2l, 1) := by decide +kernel
theorem dX11_law_88 : decode cX11_law 88 = .ok (.invokevirtual 298, 3) := by decide +kernel
theorem dX11_law_91 : decode cX11_law 91 = .ok (.iload_n 2, 1) := by decide +kernel
theorem dX11_law_92 : decode cX11_law 92 = .ok (.iload_n 3, 1) := by decide +kernel
theorem dX11_law_93 : decode cX11_law 93 = .ok (.isub, 1) := by decide +kernel
theorem dX11_law_94 : decode cX11_law 94 = .ok (.ireturn, 1) := by decide +kernel
theorem dX11_rests_0 : decode cX11_rests 0 = .ok (.iload_n 1, 1) := by decide +kernel
theorem dX11_rests_1 : decode cX11_rests 1 = .ok (.ifCond .lt 9, 3) := by decide +kernel
theorem dX11_rests_4 : decode cX11_rests 4 = .ok (.iload_n 1, 1) := by decide +kernel
theorem dX11_rests_5 : decode cX11_rests 5 = .ok (.bipush 20, 2) := by decide +kernel
theorem dX11_rests_7 : decode cX11_rests 7 = .ok (.if_icmp .le 5, 3) := by decide +kernel
theorem dX11_rests_10 : decode cX11_rests 10 = .ok (.iconst (-1), 1) := by decide +kernel
theorem dX11_rests_11 : decode cX11_rests 11 = .ok (.ireturn, 1) := by decide +kernel
theorem dX11_rests_12 : decode cX11_rests 12 = .ok (.aload_n 0, 1) := by decide +kernel
theorem dX11_rests_13 : decode cX11_rests 13 = .ok (.getfield 66, 3) := by decide +kernel
theorem dX11_rests_16 : decode cX11_rests 16 = .ok (.invokevirtual 349, 3) := by decide +kernel
theorem dX11_rests_19 : decode cX11_rests 19 = .ok (.iconst 0, 1) := by decide +kernel
theorem dX11_rests_20 : decode cX11_rests 20 = .ok (.istore_n 2, 1) := by decide +kernel
theorem dX11_rests_21 : decode cX11_rests 21 = .ok (.iconst 0, 1) := by decide +kernel
theorem dX11_rests_22 : decode cX11_rests 22 = .ok (.istore_n 3, 1) := by decide +kernel
theorem dX11_rests_23 : decode cX11_rests 23 = .ok (.iload_n 3, 1) := by decide +kernel
theorem dX11_rests_24 : decode cX11_rests 24 = .ok (.bipush 9, 2) := by decide +kernel
theorem dX11_rests_26 : decode cX11_rests 26 = .ok (.if_icmp .gt 65, 3) := by decide +kernel
theorem dX11_rests_29 : decode cX11_rests 29 = .ok (.iconst 0, 1) := by decide +kernel
theorem dX11_rests_30 : decode cX11_rests 30 = .ok (.istore 4, 2) := by decide +kernel
theorem dX11_rests_32 : decode cX11_rests 32 = .ok (.iload 4, 2) := by decide +kernel
theorem dX11_rests_34 : decode cX11_rests 34 = .ok (.bipush 9, 2) := by decide +kernel
theorem dX11_rests_36 : decode cX11_rests 36 = .ok (.if_icmp .gt 49, 3) := by decide +kernel
theorem dX11_rests_39 : decode cX11_rests 39 = .ok (.iload_n 3, 1) := by decide +kernel
theorem dX11_rests_40 : decode cX11_rests 40 = .ok (.iload 4, 2) := by decide +kernel
theorem dX11_rests_42 : decode cX11_rests 42 = .ok (.iload_n 1, 1) := by decide +kernel
theorem dX11_rests_43 : decode cX11_rests 43 = .ok (.invokestatic 471, 3) := by decide +kernel
theorem dX11_rests_46 : decode cX11_rests 46 = .ok (.ifCond .eq 33, 3) := by decide +kernel
theorem dX11_rests_49 : decode cX11_rests 49 = .ok (.iload 4, 2) := by decide +kernel
theorem dX11_rests_51 : decode cX11_rests 51 = .ok (.iload_n 3, 1) := by decide +kernel
theorem dX11_rests_52 : decode cX11_rests 52 = .ok (.iload_n 1, 1) := by decide +kernel
theorem dX11_rests_53 : decode cX11_rests 53 = .ok (.invokestatic 471, 3) := by decide +kernel
theorem dX11_rests_56 : decode cX11_rests 56 = .ok (.ifCond .eq 23, 3) := by decide +kernel
theorem dX11_rests_59 : decode cX11_rests 59 = .ok (.iinc 2 1, 3) := by decide +kernel
theorem dX11_rests_62 : decode cX11_rests 62 = .ok (.iload_n 2, 1) := by decide +kernel
theorem dX11_rests_63 : decode cX11_rests 63 = .ok (.iconst 1, 1) := by decide +kernel
theorem dX11_rests_64 : decode cX11_rests 64 = .ok (.if_icmp .ne 15, 3) := by decide +kernel
theorem dX11_rests_67 : decode cX11_rests 67 = .ok (.aload_n 0, 1) := by decide +kernel
theorem dX11_rests_68 : decode cX11_rests 68 = .ok (.getfield 66, 3) := by decide +kernel
theorem dX11_rests_71 : decode cX11_rests 71 = .ok (.iload_n 3, 1) := by decide +kernel
theorem dX11_rests_72 : decode cX11_rests 72 = .ok (.i2l, 1) := by decide +kernel
theorem dX11_rests_73 : decode cX11_rests 73 = .ok (.iload 4, 2) := by decide +kernel
theorem dX11_rests_75 : decode cX11_rests 75 = .ok (.i2l, 1) := by decide +kernel
theorem dX11_rests_76 : decode cX11_rests 76 = .ok (.invokevirtual 298, 3) := by decide +kernel
theorem dX11_rests_79 : decode cX11_rests 79 = .ok (.iinc 4 1, 3) := by decide +kernel
theorem dX11_rests_82 : decode cX11_rests 82 = .ok (.goto (-50), 3) := by decide +kernel
theorem dX11_rests_85 : decode cX11_rests 85 = .ok (.iinc 3 1, 3) := by decide +kernel
theorem dX11_rests_88 : decode cX11_rests 88 = .ok (.goto (-65), 3) := by decide +kernel
theorem dX11_rests_91 : decode cX11_rests 91 = .ok (.iload_n 2, 1) := by decide +kernel
theorem dX11_rests_92 : decode cX11_rests 92 = .ok (.ireturn, 1) := by decide +kernel
theorem dX11_isBestAnswer_0 : decode cX11_isBestAnswer 0 = .ok (.iload_n 0, 1) := by decide +kernel
theorem dX11_isBestAnswer_1 : decode cX11_isBestAnswer 1 = .ok (.iload_n 1, 1) := by decide +kernel
theorem dX11_isBestAnswer_2 : decode cX11_isBestAnswer 2 = .ok (.iload_n 2, 1) := by decide +kernel
theorem dX11_isBestAnswer_3 : decode cX11_isBestAnswer 3 = .ok (.invokestatic 475, 3) := by decide +kernel
theorem dX11_isBestAnswer_6 : decode cX11_isBestAnswer 6 = .ok (.istore_n 3, 1) := by decide +kernel
theorem dX11_isBestAnswer_7 : decode cX11_isBestAnswer 7 = .ok (.iconst 0, 1) := by decide +kernel
theorem dX11_isBestAnswer_8 : decode cX11_isBestAnswer 8 = .ok (.istore 4, 2) := by decide +kernel
theorem dX11_isBestAnswer_10 : decode cX11_isBestAnswer 10 = .ok (.iload 4, 2) := by decide +kernel
theorem dX11_isBestAnswer_12 : decode cX11_isBestAnswer 12 = .ok (.bipush 9, 2) := by decide +kernel
theorem dX11_isBestAnswer_14 : decode cX11_isBestAnswer 14 = .ok (.if_icmp .gt 22, 3) := by decide +kernel
theorem dX11_isBestAnswer_17 : decode cX11_isBestAnswer 17 = .ok (.iload 4, 2) := by decide +kernel
theorem dX11_isBestAnswer_19 : decode cX11_isBestAnswer 19 = .ok (.iload_n 1, 1) := by decide +kernel
theorem dX11_isBestAnswer_20 : decode cX11_isBestAnswer 20 = .ok (.iload_n 2, 1) := by decide +kernel
theorem dX11_isBestAnswer_21 : decode cX11_isBestAnswer 21 = .ok (.invokestatic 475, 3) := by decide +kernel
theorem dX11_isBestAnswer_24 : decode cX11_isBestAnswer 24 = .ok (.iload_n 3, 1) := by decide +kernel
theorem dX11_isBestAnswer_25 : decode cX11_isBestAnswer 25 = .ok (.if_icmp .le 5, 3) := by decide +kernel
theorem dX11_isBestAnswer_28 : decode cX11_isBestAnswer 28 = .ok (.iconst 0, 1) := by decide +kernel
theorem dX11_isBestAnswer_29 : decode cX11_isBestAnswer 29 = .ok (.ireturn, 1) := by decide +kernel
theorem dX11_isBestAnswer_30 : decode cX11_isBestAnswer 30 = .ok (.iinc 4 1, 3) := by decide +kernel
theorem dX11_isBestAnswer_33 : decode cX11_isBestAnswer 33 = .ok (.goto (-23), 3) := by decide +kernel
theorem dX11_isBestAnswer_36 : decode cX11_isBestAnswer 36 = .ok (.iconst 1, 1) := by decide +kernel
theorem dX11_isBestAnswer_37 : decode cX11_isBestAnswer 37 = .ok (.ireturn, 1) := by decide +kernel
theorem dX11_gain_0 : decode cX11_gain 0 = .ok (.iconst 0, 1) := by decide +kernel
theorem dX11_gain_1 : decode cX11_gain 1 = .ok (.istore_n 3, 1) := by decide +kernel
theorem dX11_gain_2 : decode cX11_gain 2 = .ok (.iload_n 0, 1) := by decide +kernel
theorem dX11_gain_3 : decode cX11_gain 3 = .ok (.iload_n 1, 1) := by decide +kernel
theorem dX11_gain_4 : decode cX11_gain 4 = .ok (.if_icmp .le 8, 3) := by decide +kernel
theorem dX11_gain_7 : decode cX11_gain 7 = .ok (.iload_n 2, 1) := by decide +kernel
theorem dX11_gain_8 : decode cX11_gain 8 = .ok (.istore_n 3, 1) := by decide +kernel
theorem dX11_gain_9 : decode cX11_gain 9 = .ok (.goto 12, 3) := by decide +kernel
theorem dX11_gain_12 : decode cX11_gain 12 = .ok (.iload_n 0, 1) := by decide +kernel
theorem dX11_gain_13 : decode cX11_gain 13 = .ok (.iload_n 1, 1) := by decide +kernel
theorem dX11_gain_14 : decode cX11_gain 14 = .ok (.if_icmp .ne 7, 3) := by decide +kernel
theorem dX11_gain_17 : decode cX11_gain 17 = .ok (.iload_n 2, 1) := by decide +kernel
theorem dX11_gain_18 : decode cX11_gain 18 = .ok (.iconst 2, 1) := by decide +kernel
theorem dX11_gain_19 : decode cX11_gain 19 = .ok (.idiv, 1) := by decide +kernel
theorem dX11_gain_20 : decode cX11_gain 20 = .ok (.istore_n 3, 1) := by decide +kernel
theorem dX11_gain_21 : decode cX11_gain 21 = .ok (.iload_n 3, 1) := by decide +kernel
theorem dX11_gain_22 : decode cX11_gain 22 = .ok (.iload_n 0, 1) := by decide +kernel
theorem dX11_gain_23 : decode cX11_gain 23 = .ok (.isub, 1) := by decide +kernel
theorem dX11_gain_24 : decode cX11_gain 24 = .ok (.iload_n 0, 1) := by decide +kernel
theorem dX11_gain_25 : decode cX11_gain 25 = .ok (.iconst 2, 1) := by decide +kernel
theorem dX11_gain_26 : decode cX11_gain 26 = .ok (.iload_n 1, 1) := by decide +kernel
theorem dX11_gain_27 : decode cX11_gain 27 = .ok (.imul, 1) := by decide +kernel
theorem dX11_gain_28 : decode cX11_gain 28 = .ok (.if_icmp .le 7, 3) := by decide +kernel
theorem dX11_gain_31 : decode cX11_gain 31 = .ok (.iconst 3, 1) := by decide +kernel
theorem dX11_gain_32 : decode cX11_gain 32 = .ok (.goto 4, 3) := by decide +kernel
theorem dX11_gain_35 : decode cX11_gain 35 = .ok (.iconst 0, 1) := by decide +kernel
theorem dX11_gain_36 : decode cX11_gain 36 = .ok (.isub, 1) := by decide +kernel
theorem dX11_gain_37 : decode cX11_gain 37 = .ok (.ireturn, 1) := by decide +kernel
theorem dX11_years_0 : decode cX11_years 0 = .ok (.iload_n 2, 1) := by decide +kernel
theorem dX11_years_1 : decode cX11_years 1 = .ok (.iconst 1, 1) := by decide +kernel
theorem dX11_years_2 : decode cX11_years 2 = .ok (.if_icmp .lt 9, 3) := by decide +kernel
theorem dX11_years_5 : decode cX11_years 5 = .ok (.iload_n 2, 1) := by decide +kernel
theorem dX11_years_6 : decode cX11_years 6 = .ok (.bipush 60, 2) := by decide +kernel
theorem dX11_years_8 : decode cX11_years 8 = .ok (.if_icmp .le 5, 3) := by decide +kernel
theorem dX11_years_11 : decode cX11_years 11 = .ok (.iconst (-1), 1) := by decide +kernel
theorem dX11_years_12 : decode cX11_years 12 = .ok (.ireturn, 1) := by decide +kernel
theorem dX11_years_13 : decode cX11_years 13 = .ok (.aload_n 0, 1) := by decide +kernel
theorem dX11_years_14 : decode cX11_years 14 = .ok (.getfield 30, 3) := by decide +kernel
theorem dX11_years_17 : decode cX11_years 17 = .ok (.aload_n 0, 1) := by decide +kernel
theorem dX11_years_18 : decode cX11_years 18 = .ok (.getfield 26, 3) := by decide +kernel
theorem dX11_years_21 : decode cX11_years 21 = .ok (.invokevirtual 153, 3) := by decide +kernel
theorem dX11_years_24 : decode cX11_years 24 = .ok (.aload_n 0, 1) := by decide +kernel
theorem dX11_years_25 : decode cX11_years 25 = .ok (.iload_n 1, 1) := by decide +kernel
theorem dX11_years_26 : decode cX11_years 26 = .ok (.putfield 98, 3) := by decide +kernel
theorem dX11_years_29 : decode cX11_years 29 = .ok (.iconst 0, 1) := by decide +kernel
theorem dX11_years_30 : decode cX11_years 30 = .ok (.istore_n 3, 1) := by decide +kernel
theorem dX11_years_31 : decode cX11_years 31 = .ok (.iload_n 3, 1) := by decide +kernel
theorem dX11_years_32 : decode cX11_years 32 = .ok (.iload_n 2, 1) := by decide +kernel
theorem dX11_years_33 : decode cX11_years 33 = .ok (.if_icmp .ge 122, 3) := by decide +kernel
theorem dX11_years_36 : decode cX11_years 36 = .ok (.aload_n 0, 1) := by decide +kernel
theorem dX11_years_37 : decode cX11_years 37 = .ok (.iconst 4, 1) := by decide +kernel
theorem dX11_years_38 : decode cX11_years 38 = .ok (.invokevirtual 479, 3) := by decide +kernel
theorem dX11_years_41 : decode cX11_years 41 = .ok (.istore 4, 2) := by decide +kernel
theorem dX11_years_43 : decode cX11_years 43 = .ok (.iload 4, 2) := by decide +kernel
theorem dX11_years_45 : decode cX11_years 45 = .ok (.iconst 2, 1) := by decide +kernel
theorem dX11_years_46 : decode cX11_years 46 = .ok (.if_icmp .ge 21, 3) := by decide +kernel
theorem dX11_years_49 : decode cX11_years 49 = .ok (.aload_n 0, 1) := by decide +kernel
theorem dX11_years_50 : decode cX11_years 50 = .ok (.getfield 44, 3) := by decide +kernel
theorem dX11_years_53 : decode cX11_years 53 = .ok (.aload_n 0, 1) := by decide +kernel
theorem dX11_years_54 : decode cX11_years 54 = .ok (.getfield 30, 3) := by decide +kernel
theorem dX11_years_57 : decode cX11_years 57 = .ok (.aload_n 0, 1) := by decide +kernel
theorem dX11_years_58 : decode cX11_years 58 = .ok (.getfield 105, 3) := by decide +kernel
theorem dX11_years_61 : decode cX11_years 61 = .ok (.invokevirtual 362, 3) := by decide +kernel
theorem dX11_years_64 : decode cX11_years 64 = .ok (.goto 85, 3) := by decide +kernel
theorem dX11_years_67 : decode cX11_years 67 = .ok (.iload 4, 2) := by decide +kernel
theorem dX11_years_69 : decode cX11_years 69 = .ok (.iconst 2, 1) := by decide +kernel
theorem dX11_years_70 : decode cX11_years 70 = .ok (.if_icmp .ne 35, 3) := by decide +kernel
theorem dX11_years_73 : decode cX11_years 73 = .ok (.aload_n 0, 1) := by decide +kernel
theorem dX11_years_74 : decode cX11_years 74 = .ok (.getfield 30, 3) := by decide +kernel
theorem dX11_years_77 : decode cX11_years 77 = .ok (.getfield 191, 3) := by decide +kernel
theorem dX11_years_80 : decode cX11_years 80 = .ok (.ifCond .le 69, 3) := by decide +kernel
theorem dX11_years_83 : decode cX11_years 83 = .ok (.aload_n 0, 1) := by decide +kernel
theorem dX11_years_84 : decode cX11_years 84 = .ok (.getfield 30, 3) := by decide +kernel
theorem dX11_years_87 : decode cX11_years 87 = .ok (.aload_n 0, 1) := by decide +kernel
theorem dX11_years_88 : decode cX11_years 88 = .ok (.aload_n 0, 1) := by decide +kernel
theorem dX11_years_89 : decode cX11_years 89 = .ok (.getfield 30, 3) := by decide +kernel
theorem dX11_years_92 : decode cX11_years 92 = .ok (.getfield 191, 3) := by decide +kernel
theorem dX11_years_95 : decode cX11_years 95 = .ok (.invokevirtual 479, 3) := by decide +kernel
theorem dX11_years_98 : decode cX11_years 98 = .ok (.invokevirtual 308, 3) := by decide +kernel
theorem dX11_years_101 : decode cX11_years 101 = .ok (.pop, 1) := by decide +kernel
theorem dX11_years_102 : decode cX11_years 102 = .ok (.goto 47, 3) := by decide +kernel
theorem dX11_years_105 : decode cX11_years 105 = .ok (.aload_n 0, 1) := by decide +kernel
theorem dX11_years_106 : decode cX11_years 106 = .ok (.getfield 30, 3) := by decide +kernel
theorem dX11_years_109 : decode cX11_years 109 = .ok (.getfield 191, 3) := by decide +kernel
theorem dX11_years_112 : decode cX11_years 112 = .ok (.ifCond .le 37, 3) := by decide +kernel
theorem dX11_years_115 : decode cX11_years 115 = .ok (.aload_n 0, 1) := by decide +kernel
theorem dX11_years_116 : decode cX11_years 116 = .ok (.aload_n 0, 1) := by decide +kernel
theorem dX11_years_117 : decode cX11_years 117 = .ok (.getfield 30, 3) := by decide +kernel
theorem dX11_years_120 : decode cX11_years 120 = .ok (.getfield 191, 3) := by decide +kernel
theorem dX11_years_123 : decode cX11_years 123 = .ok (.invokevirtual 479, 3) := by decide +kernel
theorem dX11_years_126 : decode cX11_years 126 = .ok (.istore 5, 2) := by decide +kernel
theorem dX11_years_128 : decode cX11_years 128 = .ok (.aload_n 0, 1) := by decide +kernel
theorem dX11_years_129 : decode cX11_years 129 = .ok (.getfield 30, 3) := by decide +kernel
theorem dX11_years_132 : decode cX11_years 132 = .ok (.iload 5, 2) := by decide +kernel
theorem dX11_years_134 : decode cX11_years 134 = .ok (.aload_n 0, 1) := by decide +kernel
theorem dX11_years_135 : decode cX11_years 135 = .ok (.iconst 5, 1) := by decide +kernel
theorem dX11_years_136 : decode cX11_years 136 = .ok (.invokevirtual 479, 3) := by decide +kernel
theorem dX11_years_139 : decode cX11_years 139 = .ok (.iconst 2, 1) := by decide +kernel
theorem dX11_years_140 : decode cX11_years 140 = .ok (.isub, 1) := by decide +kernel
theorem dX11_years_141 : decode cX11_years 141 = .ok (.aload_n 0, 1) := by decide +kernel
theorem dX11_years_142 : decode cX11_years 142 = .ok (.getfield 19, 3) := by decide +kernel
theorem dX11_years_145 : decode cX11_years 145 = .ok (.invokevirtual 311, 3) := by decide +kernel
theorem dX11_years_148 : decode cX11_years 148 = .ok (.pop, 1) := by decide +kernel
theorem dX11_years_149 : decode cX11_years 149 = .ok (.iinc 3 1, 3) := by decide +kernel
theorem dX11_years_152 : decode cX11_years 152 = .ok (.goto (-121), 3) := by decide +kernel
theorem dX11_years_155 : decode cX11_years 155 = .ok (.aload_n 0, 1) := by decide +kernel
theorem dX11_years_156 : decode cX11_years 156 = .ok (.getfield 66, 3) := by decide +kernel
theorem dX11_years_159 : decode cX11_years 159 = .ok (.aload_n 0, 1) := by decide +kernel
theorem dX11_years_160 : decode cX11_years 160 = .ok (.getfield 30, 3) := by decide +kernel
theorem dX11_years_163 : decode cX11_years 163 = .ok (.getfield 482, 3) := by decide +kernel
theorem dX11_years_166 : decode cX11_years 166 = .ok (.i2l, 1) := by decide +kernel
theorem dX11_years_167 : decode cX11_years 167 = .ok (.aload_n 0, 1) := by decide +kernel
theorem dX11_years_168 : decode cX11_years 168 = .ok (.getfield 30, 3) := by decide +kernel
theorem dX11_years_171 : decode cX11_years 171 = .ok (.invokevirtual 397, 3) := by decide +kernel
theorem dX11_years_174 : decode cX11_years 174 = .ok (.invokestatic 389, 3) := by decide +kernel
theorem dX11_years_177 : decode cX11_years 177 = .ok (.i2l, 1) := by decide +kernel
theorem dX11_years_178 : decode cX11_years 178 = .ok (.invokevirtual 298, 3) := by decide +kernel
theorem dX11_years_181 : decode cX11_years 181 = .ok (.aload_n 0, 1) := by decide +kernel
theorem dX11_years_182 : decode cX11_years 182 = .ok (.getfield 30, 3) := by decide +kernel
theorem dX11_years_185 : decode cX11_years 185 = .ok (.getfield 302, 3) := by decide +kernel
theorem dX11_years_188 : decode cX11_years 188 = .ok (.ireturn, 1) := by decide +kernel
theorem dX11_draw_0 : decode cX11_draw 0 = .ok (.aload_n 0, 1) := by decide +kernel
theorem dX11_draw_1 : decode cX11_draw 1 = .ok (.aload_n 0, 1) := by decide +kernel
theorem dX11_draw_2 : decode cX11_draw 2 = .ok (.getfield 98, 3) := by decide +kernel
theorem dX11_draw_5 : decode cX11_draw 5 = .ok (.ldc_w 485, 3) := by decide +kernel
theorem dX11_draw_8 : decode cX11_draw 8 = .ok (.imul, 1) := by decide +kernel
theorem dX11_draw_9 : decode cX11_draw 9 = .ok (.sipush 12345, 3) := by decide +kernel
theorem dX11_draw_12 : decode cX11_draw 12 = .ok (.iadd, 1) := by decide +kernel
theorem dX11_draw_13 : decode cX11_draw 13 = .ok (.putfield 98, 3) := by decide +kernel
theorem dX11_draw_16 : decode cX11_draw 16 = .ok (.iload_n 1, 1) := by decide +kernel
theorem dX11_draw_17 : decode cX11_draw 17 = .ok (.iconst 1, 1) := by decide +kernel
theorem dX11_draw_18 : decode cX11_draw 18 = .ok (.if_icmp .ge 7, 3) := by decide +kernel
theorem dX11_draw_21 : decode cX11_draw 21 = .ok (.iconst 0, 1) := by decide +kernel
theorem dX11_draw_22 : decode cX11_draw 22 = .ok (.goto 12, 3) := by decide +kernel
theorem dX11_draw_25 : decode cX11_draw 25 = .ok (.aload_n 0, 1) := by decide +kernel
theorem dX11_draw_26 : decode cX11_draw 26 = .ok (.getfield 98, 3) := by decide +kernel
theorem dX11_draw_29 : decode cX11_draw 29 = .ok (.bipush 16, 2) := by decide +kernel
theorem dX11_draw_31 : decode cX11_draw 31 = .ok (.iushr, 1) := by decide +kernel
theorem dX11_draw_32 : decode cX11_draw 32 = .ok (.iload_n 1, 1) := by decide +kernel
theorem dX11_draw_33 : decode cX11_draw 33 = .ok (.irem, 1) := by decide +kernel
theorem dX11_draw_34 : decode cX11_draw 34 = .ok (.ireturn, 1) := by decide +kernel
theorem dX11_keep_0 : decode cX11_keep 0 = .ok (.iload_n 1, 1) := by decide +kernel
theorem dX11_keep_1 : decode cX11_keep 1 = .ok (.ifCond .lt 8, 3) := by decide +kernel
theorem dX11_keep_4 : decode cX11_keep 4 = .ok (.iload_n 1, 1) := by decide +kernel
theorem dX11_keep_5 : decode cX11_keep 5 = .ok (.iconst 3, 1) := by decide +kernel
theorem dX11_keep_6 : decode cX11_keep 6 = .ok (.if_icmp .lt 5, 3) := by decide +kernel
theorem dX11_keep_9 : decode cX11_keep 9 = .ok (.iconst 0, 1) := by decide +kernel
theorem dX11_keep_10 : decode cX11_keep 10 = .ok (.ireturn, 1) := by decide +kernel
theorem dX11_keep_11 : decode cX11_keep 11 = .ok (.aload_n 0, 1) := by decide +kernel
theorem dX11_keep_12 : decode cX11_keep 12 = .ok (.getfield 55, 3) := by decide +kernel
theorem dX11_keep_15 : decode cX11_keep 15 = .ok (.iload_n 1, 1) := by decide +kernel
theorem dX11_keep_16 : decode cX11_keep 16 = .ok (.aaload, 1) := by decide +kernel
theorem dX11_keep_17 : decode cX11_keep 17 = .ok (.aload_n 0, 1) := by decide +kernel
theorem dX11_keep_18 : decode cX11_keep 18 = .ok (.getfield 26, 3) := by decide +kernel
theorem dX11_keep_21 : decode cX11_keep 21 = .ok (.invokevirtual 153, 3) := by decide +kernel
theorem dX11_keep_24 : decode cX11_keep 24 = .ok (.aload_n 0, 1) := by decide +kernel
theorem dX11_keep_25 : decode cX11_keep 25 = .ok (.getfield 59, 3) := by decide +kernel
theorem dX11_keep_28 : decode cX11_keep 28 = .ok (.iload_n 1, 1) := by decide +kernel
theorem dX11_keep_29 : decode cX11_keep 29 = .ok (.iconst 1, 1) := by decide +kernel
theorem dX11_keep_30 : decode cX11_keep 30 = .ok (.bastore, 1) := by decide +kernel
theorem dX11_keep_31 : decode cX11_keep 31 = .ok (.iconst 1, 1) := by decide +kernel
theorem dX11_keep_32 : decode cX11_keep 32 = .ok (.ireturn, 1) := by decide +kernel
theorem dX11_again_0 : decode cX11_again 0 = .ok (.iload_n 1, 1) := by decide +kernel
theorem dX11_again_1 : decode cX11_again 1 = .ok (.ifCond .lt 17, 3) := by decide +kernel
theorem dX11_again_4 : decode cX11_again 4 = .ok (.iload_n 1, 1) := by decide +kernel
theorem dX11_again_5 : decode cX11_again 5 = .ok (.iconst 3, 1) := by decide +kernel
theorem dX11_again_6 : decode cX11_again 6 = .ok (.if_icmp .ge 12, 3) := by decide +kernel
theorem dX11_again_9 : decode cX11_again 9 = .ok (.aload_n 0, 1) := by decide +kernel
theorem dX11_again_10 : decode cX11_again 10 = .ok (.getfield 59, 3) := by decide +kernel
theorem dX11_again_13 : decode cX11_again 13 = .ok (.iload_n 1, 1) := by decide +kernel
theorem dX11_again_14 : decode cX11_again 14 = .ok (.baload, 1) := by decide +kernel
theorem dX11_again_15 : decode cX11_again 15 = .ok (.ifCond .ne 5, 3) := by decide +kernel
theorem dX11_again_18 : decode cX11_again 18 = .ok (.iconst 0, 1) := by decide +kernel
theorem dX11_again_19 : decode cX11_again 19 = .ok (.ireturn, 1) := by decide +kernel
theorem dX11_again_20 : decode cX11_again 20 = .ok (.aload_n 0, 1) := by decide +kernel
theorem dX11_again_21 : decode cX11_again 21 = .ok (.getfield 55, 3) := by decide +kernel
theorem dX11_again_24 : decode cX11_again 24 = .ok (.iload_n 1, 1) := by decide +kernel
theorem dX11_again_25 : decode cX11_again 25 = .ok (.aaload, 1) := by decide +kernel
theorem dX11_again_26 : decode cX11_again 26 = .ok (.getfield 176, 3) := by decide +kernel
theorem dX11_again_29 : decode cX11_again 29 = .ok (.aload_n 0, 1) := by decide +kernel
theorem dX11_again_30 : decode cX11_again 30 = .ok (.getfield 26, 3) := by decide +kernel
theorem dX11_again_33 : decode cX11_again 33 = .ok (.getfield 176, 3) := by decide +kernel
theorem dX11_again_36 : decode cX11_again 36 = .ok (.if_icmp .ne 22, 3) := by decide +kernel
theorem dX11_again_39 : decode cX11_again 39 = .ok (.aload_n 0, 1) := by decide +kernel
theorem dX11_again_40 : decode cX11_again 40 = .ok (.getfield 55, 3) := by decide +kernel
theorem dX11_again_43 : decode cX11_again 43 = .ok (.iload_n 1, 1) := by decide +kernel
theorem dX11_again_44 : decode cX11_again 44 = .ok (.aaload, 1) := by decide +kernel
theorem dX11_again_45 : decode cX11_again 45 = .ok (.getfield 191, 3) := by decide +kernel
theorem dX11_again_48 : decode cX11_again 48 = .ok (.aload_n 0, 1) := by decide +kernel
theorem dX11_again_49 : decode cX11_again 49 = .ok (.getfield 26, 3) := by decide +kernel
theorem dX11_again_52 : decode cX11_again 52 = .ok (.getfield 191, 3) := by decide +kernel
theorem dX11_again_55 : decode cX11_again 55 = .ok (.if_icmp .eq 5, 3) := by decide +kernel
theorem dX11_again_58 : decode cX11_again 58 = .ok (.iconst 0, 1) := by decide +kernel
theorem dX11_again_59 : decode cX11_again 59 = .ok (.ireturn, 1) := by decide +kernel
theorem dX11_again_60 : decode cX11_again 60 = .ok (.aload_n 0, 1) := by decide +kernel
theorem dX11_again_61 : decode cX11_again 61 = .ok (.getfield 26, 3) := by decide +kernel
theorem dX11_again_64 : decode cX11_again 64 = .ok (.aload_n 0, 1) := by decide +kernel
theorem dX11_again_65 : decode cX11_again 65 = .ok (.getfield 55, 3) := by decide +kernel
theorem dX11_again_68 : decode cX11_again 68 = .ok (.iload_n 1, 1) := by decide +kernel
theorem dX11_again_69 : decode cX11_again 69 = .ok (.aaload, 1) := by decide +kernel
theorem dX11_again_70 : decode cX11_again 70 = .ok (.invokevirtual 153, 3) := by decide +kernel
theorem dX11_again_73 : decode cX11_again 73 = .ok (.aload_n 0, 1) := by decide +kernel
theorem dX11_again_74 : decode cX11_again 74 = .ok (.getfield 51, 3) := by decide +kernel
theorem dX11_again_77 : decode cX11_again 77 = .ok (.invokevirtual 136, 3) := by decide +kernel
theorem dX11_again_80 : decode cX11_again 80 = .ok (.iconst 1, 1) := by decide +kernel
theorem dX11_again_81 : decode cX11_again 81 = .ok (.ireturn, 1) := by decide +kernel
theorem dX11_count_0 : decode cX11_count 0 = .ok (.iload_n 1, 1) := by decide +kernel
theorem dX11_count_1 : decode cX11_count 1 = .ok (.tableswitch 184 0 12 #[67, 75, 83, 91, 99, 107, 115, 126, 137, 152, 160, 168, 176], 67) := by decide +kernel
theorem dX11_count_68 : decode cX11_count 68 = .ok (.aload_n 0, 1) := by decide +kernel
theorem dX11_count_69 : decode cX11_count 69 = .ok (.getfield 19, 3) := by decide +kernel
theorem dX11_count_72 : decode cX11_count 72 = .ok (.getfield 350, 3) := by decide +kernel
theorem dX11_count_75 : decode cX11_count 75 = .ok (.ireturn, 1) := by decide +kernel
theorem dX11_count_76 : decode cX11_count 76 = .ok (.aload_n 0, 1) := by decide +kernel
theorem dX11_count_77 : decode cX11_count 77 = .ok (.getfield 26, 3) := by decide +kernel
theorem dX11_count_80 : decode cX11_count 80 = .ok (.getfield 176, 3) := by decide +kernel
theorem dX11_count_83 : decode cX11_count 83 = .ok (.ireturn, 1) := by decide +kernel
theorem dX11_count_84 : decode cX11_count 84 = .ok (.aload_n 0, 1) := by decide +kernel
theorem dX11_count_85 : decode cX11_count 85 = .ok (.getfield 26, 3) := by decide +kernel
theorem dX11_count_88 : decode cX11_count 88 = .ok (.getfield 191, 3) := by decide +kernel
theorem dX11_count_91 : decode cX11_count 91 = .ok (.ireturn, 1) := by decide +kernel
theorem dX11_count_92 : decode cX11_count 92 = .ok (.aload_n 0, 1) := by decide +kernel
theorem dX11_count_93 : decode cX11_count 93 = .ok (.getfield 26, 3) := by decide +kernel
theorem dX11_count_96 : decode cX11_count 96 = .ok (.getfield 333, 3) := by decide +kernel
theorem dX11_count_99 : decode cX11_count 99 = .ok (.ireturn, 1) := by decide +kernel
theorem dX11_count_100 : decode cX11_count 100 = .ok (.aload_n 0, 1) := by decide +kernel
theorem dX11_count_101 : decode cX11_count 101 = .ok (.getfield 26, 3) := by decide +kernel
theorem dX11_count_104 : decode cX11_count 104 = .ok (.getfield 302, 3) := by decide +kernel
theorem dX11_count_107 : decode cX11_count 107 = .ok (.ireturn, 1) := by decide +kernel
theorem dX11_count_108 : decode cX11_count 108 = .ok (.aload_n 0, 1) := by decide +kernel
theorem dX11_count_109 : decode cX11_count 109 = .ok (.getfield 26, 3) := by decide +kernel
theorem dX11_count_112 : decode cX11_count 112 = .ok (.getfield 482, 3) := by decide +kernel
theorem dX11_count_115 : decode cX11_count 115 = .ok (.ireturn, 1) := by decide +kernel
theorem dX11_count_116 : decode cX11_count 116 = .ok (.aload_n 0, 1) := by decide +kernel
theorem dX11_count_117 : decode cX11_count 117 = .ok (.getfield 26, 3) := by decide +kernel
theorem dX11_count_120 : decode cX11_count 120 = .ok (.invokevirtual 397, 3) := by decide +kernel
theorem dX11_count_123 : decode cX11_count 123 = .ok (.invokestatic 389, 3) := by decide +kernel
theorem dX11_count_126 : decode cX11_count 126 = .ok (.ireturn, 1) := by decide +kernel
theorem dX11_count_127 : decode cX11_count 127 = .ok (.aload_n 0, 1) := by decide +kernel
theorem dX11_count_128 : decode cX11_count 128 = .ok (.getfield 19, 3) := by decide +kernel
theorem dX11_count_131 : decode cX11_count 131 = .ok (.getfield 486, 3) := by decide +kernel
theorem dX11_count_134 : decode cX11_count 134 = .ok (.invokestatic 389, 3) := by decide +kernel
theorem dX11_count_137 : decode cX11_count 137 = .ok (.ireturn, 1) := by decide +kernel
theorem dX11_count_138 : decode cX11_count 138 = .ok (.aload_n 0, 1) := by decide +kernel
theorem dX11_count_139 : decode cX11_count 139 = .ok (.getfield 19, 3) := by decide +kernel
theorem dX11_count_142 : decode cX11_count 142 = .ok (.aload_n 0, 1) := by decide +kernel
theorem dX11_count_143 : decode cX11_count 143 = .ok (.getfield 26, 3) := by decide +kernel
theorem dX11_count_146 : decode cX11_count 146 = .ok (.getfield 333, 3) := by decide +kernel
theorem dX11_count_149 : decode cX11_count 149 = .ok (.invokevirtual 489, 3) := by decide +kernel
theorem dX11_count_152 : decode cX11_count 152 = .ok (.ireturn, 1) := by decide +kernel
theorem dX11_count_153 : decode cX11_count 153 = .ok (.aload_n 0, 1) := by decide +kernel
theorem dX11_count_154 : decode cX11_count 154 = .ok (.getfield 87, 3) := by decide +kernel
theorem dX11_count_157 : decode cX11_count 157 = .ok (.getfield 456, 3) := by decide +kernel
theorem dX11_count_160 : decode cX11_count 160 = .ok (.ireturn, 1) := by decide +kernel
theorem dX11_count_161 : decode cX11_count 161 = .ok (.aload_n 0, 1) := by decide +kernel
theorem dX11_count_162 : decode cX11_count 162 = .ok (.getfield 51, 3) := by decide +kernel
theorem dX11_count_165 : decode cX11_count 165 = .ok (.getfield 346, 3) := by decide +kernel
theorem dX11_count_168 : decode cX11_count 168 = .ok (.ireturn, 1) := by decide +kernel
theorem dX11_count_169 : decode cX11_count 169 = .ok (.aload_n 0, 1) := by decide +kernel
theorem dX11_count_170 : decode cX11_count 170 = .ok (.getfield 66, 3) := by decide +kernel
theorem dX11_count_173 : decode cX11_count 173 = .ok (.getfield 359, 3) := by decide +kernel
theorem dX11_count_176 : decode cX11_count 176 = .ok (.ireturn, 1) := by decide +kernel
theorem dX11_count_177 : decode cX11_count 177 = .ok (.aload_n 0, 1) := by decide +kernel
theorem dX11_count_178 : decode cX11_count 178 = .ok (.getfield 10, 3) := by decide +kernel
theorem dX11_count_181 : decode cX11_count 181 = .ok (.getfield 119, 3) := by decide +kernel
theorem dX11_count_184 : decode cX11_count 184 = .ok (.ireturn, 1) := by decide +kernel
theorem dX11_count_185 : decode cX11_count 185 = .ok (.bipush (-100), 2) := by decide +kernel
theorem dX11_count_187 : decode cX11_count 187 = .ok (.ireturn, 1) := by decide +kernel
theorem dX11_row_0 : decode cX11_row 0 = .ok (.iload_n 1, 1) := by decide +kernel
theorem dX11_row_1 : decode cX11_row 1 = .ok (.ifCond .lt 14, 3) := by decide +kernel
theorem dX11_row_4 : decode cX11_row 4 = .ok (.iload_n 1, 1) := by decide +kernel
theorem dX11_row_5 : decode cX11_row 5 = .ok (.aload_n 0, 1) := by decide +kernel
theorem dX11_row_6 : decode cX11_row 6 = .ok (.getfield 66, 3) := by decide +kernel
theorem dX11_row_9 : decode cX11_row 9 = .ok (.getfield 359, 3) := by decide +kernel
theorem dX11_row_12 : decode cX11_row 12 = .ok (.if_icmp .lt 14, 3) := by decide +kernel
theorem dX11_row_15 : decode cX11_row 15 = .ok (.new 223, 3) := by decide +kernel
theorem dX11_row_18 : decode cX11_row 18 = .ok (.dup, 1) := by decide +kernel
theorem dX11_row_19 : decode cX11_row 19 = .ok (.ldc_w 492, 3) := by decide +kernel
theorem dX11_row_22 : decode cX11_row 22 = .ok (.invokespecial 227, 3) := by decide +kernel
theorem dX11_row_25 : decode cX11_row 25 = .ok (.athrow, 1) := by decide +kernel
theorem dX11_row_26 : decode cX11_row 26 = .ok (.aload_n 0, 1) := by decide +kernel
theorem dX11_row_27 : decode cX11_row 27 = .ok (.getfield 66, 3) := by decide +kernel
theorem dX11_row_30 : decode cX11_row 30 = .ok (.getfield 494, 3) := by decide +kernel
theorem dX11_row_33 : decode cX11_row 33 = .ok (.iload_n 1, 1) := by decide +kernel
theorem dX11_row_34 : decode cX11_row 34 = .ok (.laload, 1) := by decide +kernel
theorem dX11_row_35 : decode cX11_row 35 = .ok (.lreturn, 1) := by decide +kernel
theorem dX12_init_0 : decode cX12_init 0 = .ok (.aload_n 0, 1) := by decide +kernel
theorem dX12_init_1 : decode cX12_init 1 = .ok (.invokespecial 3, 3) := by decide +kernel
theorem dX12_init_4 : decode cX12_init 4 = .ok (.aload_n 0, 1) := by decide +kernel
theorem dX12_init_5 : decode cX12_init 5 = .ok (.bipush 24, 2) := by decide +kernel
theorem dX12_init_7 : decode cX12_init 7 = .ok (.newarray .long, 2) := by decide +kernel
theorem dX12_init_9 : decode cX12_init 9 = .ok (.putfield 9, 3) := by decide +kernel
theorem dX12_init_12 : decode cX12_init 12 = .ok (.aload_n 0, 1) := by decide +kernel
theorem dX12_init_13 : decode cX12_init 13 = .ok (.iconst 4, 1) := by decide +kernel
theorem dX12_init_14 : decode cX12_init 14 = .ok (.putfield 13, 3) := by decide +kernel
theorem dX12_init_17 : decode cX12_init 17 = .ok (.aload_n 0, 1) := by decide +kernel
theorem dX12_init_18 : decode cX12_init 18 = .ok (.iconst 1, 1) := by decide +kernel
theorem dX12_init_19 : decode cX12_init 19 = .ok (.putfield 17, 3) := by decide +kernel
theorem dX12_init_22 : decode cX12_init 22 = .ok (.aload_n 0, 1) := by decide +kernel
theorem dX12_init_23 : decode cX12_init 23 = .ok (.bipush 30, 2) := by decide +kernel
theorem dX12_init_25 : decode cX12_init 25 = .ok (.newarray .boolean, 2) := by decide +kernel
theorem dX12_init_27 : decode cX12_init 27 = .ok (.putfield 20, 3) := by decide +kernel
theorem dX12_init_30 : decode cX12_init 30 = .ok (.aload_n 0, 1) := by decide +kernel
theorem dX12_init_31 : decode cX12_init 31 = .ok (.bipush 8, 2) := by decide +kernel
theorem dX12_init_33 : decode cX12_init 33 = .ok (.newarray .int, 2) := by decide +kernel
theorem dX12_init_35 : decode cX12_init 35 = .ok (.putfield 24, 3) := by decide +kernel
theorem dX12_init_38 : decode cX12_init 38 = .ok (.aload_n 0, 1) := by decide +kernel
theorem dX12_init_39 : decode cX12_init 39 = .ok (.bipush 20, 2) := by decide +kernel
theorem dX12_init_41 : decode cX12_init 41 = .ok (.newarray .int, 2) := by decide +kernel
theorem dX12_init_43 : decode cX12_init 43 = .ok (.putfield 28, 3) := by decide +kernel
theorem dX12_init_46 : decode cX12_init 46 = .ok (.aload_n 0, 1) := by decide +kernel
theorem dX12_init_47 : decode cX12_init 47 = .ok (.bipush 38, 2) := by decide +kernel
theorem dX12_init_49 : decode cX12_init 49 = .ok (.newarray .int, 2) := by decide +kernel
theorem dX12_init_51 : decode cX12_init 51 = .ok (.putfield 31, 3) := by decide +kernel
theorem dX12_init_54 : decode cX12_init 54 = .ok (.aload_n 0, 1) := by decide +kernel
theorem dX12_init_55 : decode cX12_init 55 = .ok (.bipush 38, 2) := by decide +kernel
theorem dX12_init_57 : decode cX12_init 57 = .ok (.newarray .int, 2) := by decide +kernel
theorem dX12_init_59 : decode cX12_init 59 = .ok (.putfield 34, 3) := by decide +kernel
theorem dX12_init_62 : decode cX12_init 62 = .ok (.aload_n 0, 1) := by decide +kernel
theorem dX12_init_63 : decode cX12_init 63 = .ok (.bipush 80, 2) := by decide +kernel
theorem dX12_init_65 : decode cX12_init 65 = .ok (.newarray .int, 2) := by decide +kernel
theorem dX12_init_67 : decode cX12_init 67 = .ok (.putfield 37, 3) := by decide +kernel
theorem dX12_init_70 : decode cX12_init 70 = .ok (.aload_n 0, 1) := by decide +kernel
theorem dX12_init_71 : decode cX12_init 71 = .ok (.bipush 30, 2) := by decide +kernel
theorem dX12_init_73 : decode cX12_init 73 = .ok (.newarray .boolean, 2) := by decide +kernel
theorem dX12_init_75 : decode cX12_init 75 = .ok (.putfield 40, 3) := by decide +kernel
theorem dX12_init_78 : decode cX12_init 78 = .ok (.aload_n 0, 1) := by decide +kernel
theorem dX12_init_79 : decode cX12_init 79 = .ok (.bipush 16, 2) := by decide +kernel
theorem dX12_init_81 : decode cX12_init 81 = .ok (.newarray .int, 2) := by decide +kernel
theorem dX12_init_83 : decode cX12_init 83 = .ok (.putfield 43, 3) := by decide +kernel
theorem dX12_init_86 : decode cX12_init 86 = .ok (.aload_n 0, 1) := by decide +kernel
theorem dX12_init_87 : decode cX12_init 87 = .ok (.bipush 20, 2) := by decide +kernel
theorem dX12_init_89 : decode cX12_init 89 = .ok (.newarray .int, 2) := by decide +kernel
theorem dX12_init_91 : decode cX12_init 91 = .ok (.putfield 46, 3) := by decide +kernel
theorem dX12_init_94 : decode cX12_init 94 = .ok (.aload_n 0, 1) := by decide +kernel
theorem dX12_init_95 : decode cX12_init 95 = .ok (.bipush 80, 2) := by decide +kernel
theorem dX12_init_97 : decode cX12_init 97 = .ok (.newarray .int, 2) := by decide +kernel
theorem dX12_init_99 : decode cX12_init 99 = .ok (.putfield 49, 3) := by decide +kernel
theorem dX12_init_102 : decode cX12_init 102 = .ok (.aload_n 0, 1) := by decide +kernel
theorem dX12_init_103 : decode cX12_init 103 = .ok (.bipush 80, 2) := by decide +kernel
theorem dX12_init_105 : decode cX12_init 105 = .ok (.newarray .int, 2) := by decide +kernel
theorem dX12_init_107 : decode cX12_init 107 = .ok (.putfield 52, 3) := by decide +kernel
theorem dX12_init_110 : decode cX12_init 110 = .ok (.aload_n 0, 1) := by decide +kernel
theorem dX12_init_111 : decode cX12_init 111 = .ok (.bipush 80, 2) := by decide +kernel
theorem dX12_init_113 : decode cX12_init 113 = .ok (.newarray .int, 2) := by decide +kernel
theorem dX12_init_115 : decode cX12_init 115 = .ok (.putfield 55, 3) := by decide +kernel
theorem dX12_init_118 : decode cX12_init 118 = .ok (.aload_n 0, 1) := by decide +kernel
theorem dX12_init_119 : decode cX12_init 119 = .ok (.bipush 7, 2) := by decide +kernel
theorem dX12_init_121 : decode cX12_init 121 = .ok (.newarray .int, 2) := by decide +kernel
theorem dX12_init_123 : decode cX12_init 123 = .ok (.putfield 58, 3) := by decide +kernel
theorem dX12_init_126 : decode cX12_init 126 = .ok (.aload_n 0, 1) := by decide +kernel
theorem dX12_init_127 : decode cX12_init 127 = .ok (.sipush 608, 3) := by decide +kernel
theorem dX12_init_130 : decode cX12_init 130 = .ok (.newarray .int, 2) := by decide +kernel
theorem dX12_init_132 : decode cX12_init 132 = .ok (.putfield 61, 3) := by decide +kernel
theorem dX12_init_135 : decode cX12_init 135 = .ok (.aload_n 0, 1) := by decide +kernel
theorem dX12_init_136 : decode cX12_init 136 = .ok (.bipush 30, 2) := by decide +kernel
theorem dX12_init_138 : decode cX12_init 138 = .ok (.newarray .int, 2) := by decide +kernel
theorem dX12_init_140 : decode cX12_init 140 = .ok (.putfield 64, 3) := by decide +kernel
theorem dX12_init_143 : decode cX12_init 143 = .ok (.aload_n 0, 1) := by decide +kernel
theorem dX12_init_144 : decode cX12_init 144 = .ok (.bipush 8, 2) := by decide +kernel
theorem dX12_init_146 : decode cX12_init 146 = .ok (.newarray .int, 2) := by decide +kernel
theorem dX12_init_148 : decode cX12_init 148 = .ok (.putfield 67, 3) := by decide +kernel
theorem dX12_init_151 : decode cX12_init 151 = .ok (.aload_n 0, 1) := by decide +kernel
theorem dX12_init_152 : decode cX12_init 152 = .ok (.bipush 6, 2) := by decide +kernel
theorem dX12_init_154 : decode cX12_init 154 = .ok (.newarray .int, 2) := by decide +kernel
theorem dX12_init_156 : decode cX12_init 156 = .ok (.putfield 70, 3) := by decide +kernel
theorem dX12_init_159 : decode cX12_init 159 = .ok (.aload_n 0, 1) := by decide +kernel
theorem dX12_init_160 : decode cX12_init 160 = .ok (.bipush 60, 2) := by decide +kernel
theorem dX12_init_162 : decode cX12_init 162 = .ok (.newarray .int, 2) := by decide +kernel
theorem dX12_init_164 : decode cX12_init 164 = .ok (.putfield 73, 3) := by decide +kernel
theorem dX12_init_167 : decode cX12_init 167 = .ok (.aload_n 0, 1) := by decide +kernel
theorem dX12_init_168 : decode cX12_init 168 = .ok (.bipush 60, 2) := by decide +kernel
theorem dX12_init_170 : decode cX12_init 170 = .ok (.newarray .int, 2) := by decide +kernel
theorem dX12_init_172 : decode cX12_init 172 = .ok (.putfield 76, 3) := by decide +kernel
theorem dX12_init_175 : decode cX12_init 175 = .ok (.aload_n 0, 1) := by decide +kernel
theorem dX12_init_176 : decode cX12_init 176 = .ok (.bipush 60, 2) := by decide +kernel
theorem dX12_init_178 : decode cX12_init 178 = .ok (.newarray .int, 2) := by decide +kernel
theorem dX12_init_180 : decode cX12_init 180 = .ok (.putfield 79, 3) := by decide +kernel
theorem dX12_init_183 : decode cX12_init 183 = .ok (.aload_n 0, 1) := by decide +kernel
theorem dX12_init_184 : decode cX12_init 184 = .ok (.bipush 6, 2) := by decide +kernel
theorem dX12_init_186 : decode cX12_init 186 = .ok (.newarray .int, 2) := by decide +kernel
theorem dX12_init_188 : decode cX12_init 188 = .ok (.putfield 82, 3) := by decide +kernel
theorem dX12_init_191 : decode cX12_init 191 = .ok (.aload_n 0, 1) := by decide +kernel
theorem dX12_init_192 : decode cX12_init 192 = .ok (.bipush 6, 2) := by decide +kernel
theorem dX12_init_194 : decode cX12_init 194 = .ok (.newarray .int, 2) := by decide +kernel
theorem dX12_init_196 : decode cX12_init 196 = .ok (.putfield 85, 3) := by decide +kernel
theorem dX12_init_199 : decode cX12_init 199 = .ok (.aload_n 0, 1) := by decide +kernel
theorem dX12_init_200 : decode cX12_init 200 = .ok (.bipush 8, 2) := by decide +kernel
theorem dX12_init_202 : decode cX12_init 202 = .ok (.newarray .int, 2) := by decide +kernel
theorem dX12_init_204 : decode cX12_init 204 = .ok (.putfield 88, 3) := by decide +kernel
theorem dX12_init_207 : decode cX12_init 207 = .ok (.aload_n 0, 1) := by decide +kernel
theorem dX12_init_208 : decode cX12_init 208 = .ok (.bipush 8, 2) := by decide +kernel
theorem dX12_init_210 : decode cX12_init 210 = .ok (.newarray .int, 2) := by decide +kernel
theorem dX12_init_212 : decode cX12_init 212 = .ok (.putfield 91, 3) := by decide +kernel
theorem dX12_init_215 : decode cX12_init 215 = .ok (.aload_n 0, 1) := by decide +kernel
theorem dX12_init_216 : decode cX12_init 216 = .ok (.bipush 8, 2) := by decide +kernel
theorem dX12_init_218 : decode cX12_init 218 = .ok (.newarray .int, 2) := by decide +kernel
theorem dX12_init_220 : decode cX12_init 220 = .ok (.putfield 94, 3) := by decide +kernel
theorem dX12_init_223 : decode cX12_init 223 = .ok (.aload_n 0, 1) := by decide +kernel
theorem dX12_init_224 : decode cX12_init 224 = .ok (.bipush 8, 2) := by decide +kernel
theorem dX12_init_226 : decode cX12_init 226 = .ok (.newarray .int, 2) := by decide +kernel
theorem dX12_init_228 : decode cX12_init 228 = .ok (.putfield 97, 3) := by decide +kernel
theorem dX12_init_231 : decode cX12_init 231 = .ok (.aload_n 0, 1) := by decide +kernel
theorem dX12_init_232 : decode cX12_init 232 = .ok (.bipush 80, 2) := by decide +kernel
theorem dX12_init_234 : decode cX12_init 234 = .ok (.newarray .int, 2) := by decide +kernel
theorem dX12_init_236 : decode cX12_init 236 = .ok (.putfield 100, 3) := by decide +kernel
theorem dX12_init_239 : decode cX12_init 239 = .ok (.aload_n 0, 1) := by decide +kernel
theorem dX12_init_240 : decode cX12_init 240 = .ok (.iconst 3, 1) := by decide +kernel
theorem dX12_init_241 : decode cX12_init 241 = .ok (.newarray .boolean, 2) := by decide +kernel
theorem dX12_init_243 : decode cX12_init 243 = .ok (.putfield 103, 3) := by decide +kernel
theorem dX12_init_246 : decode cX12_init 246 = .ok (.aload_n 0, 1) := by decide +kernel
theorem dX12_init_247 : decode cX12_init 247 = .ok (.iconst 3, 1) := by decide +kernel
theorem dX12_init_248 : decode cX12_init 248 = .ok (.newarray .int, 2) := by decide +kernel
theorem dX12_init_250 : decode cX12_init 250 = .ok (.putfield 106, 3) := by decide +kernel
theorem dX12_init_253 : decode cX12_init 253 = .ok (.aload_n 0, 1) := by decide +kernel
theorem dX12_init_254 : decode cX12_init 254 = .ok (.bipush 114, 2) := by decide +kernel
theorem dX12_init_256 : decode cX12_init 256 = .ok (.newarray .int, 2) := by decide +kernel
theorem dX12_init_258 : decode cX12_init 258 = .ok (.putfield 109, 3) := by decide +kernel
theorem dX12_init_261 : decode cX12_init 261 = .ok (.return_, 1) := by decide +kernel
theorem dX12_refuse_0 : decode cX12_refuse 0 = .ok (.aload_n 0, 1) := by decide +kernel
theorem dX12_refuse_1 : decode cX12_refuse 1 = .ok (.iconst 1, 1) := by decide +kernel
theorem dX12_refuse_2 : decode cX12_refuse 2 = .ok (.putfield 112, 3) := by decide +kernel
theorem dX12_refuse_5 : decode cX12_refuse 5 = .ok (.iconst 0, 1) := by decide +kernel
theorem dX12_refuse_6 : decode cX12_refuse 6 = .ok (.ireturn, 1) := by decide +kernel
theorem dX12_in_0 : decode cX12_in 0 = .ok (.lload_n 0, 1) := by decide +kernel
theorem dX12_in_1 : decode cX12_in 1 = .ok (.lload_n 2, 1) := by decide +kernel
theorem dX12_in_2 : decode cX12_in 2 = .ok (.lcmp, 1) := by decide +kernel
theorem dX12_in_3 : decode cX12_in 3 = .ok (.ifCond .lt 14, 3) := by decide +kernel
theorem dX12_in_6 : decode cX12_in 6 = .ok (.lload_n 0, 1) := by decide +kernel
theorem dX12_in_7 : decode cX12_in 7 = .ok (.lload 4, 2) := by decide +kernel
theorem dX12_in_9 : decode cX12_in 9 = .ok (.lcmp, 1) := by decide +kernel
theorem dX12_in_10 : decode cX12_in 10 = .ok (.ifCond .gt 7, 3) := by decide +kernel
theorem dX12_in_13 : decode cX12_in 13 = .ok (.iconst 1, 1) := by decide +kernel
theorem dX12_in_14 : decode cX12_in 14 = .ok (.goto 4, 3) := by decide +kernel
theorem dX12_in_17 : decode cX12_in 17 = .ok (.iconst 0, 1) := by decide +kernel
theorem dX12_in_18 : decode cX12_in 18 = .ok (.ireturn, 1) := by decide +kernel
theorem dX12_has_0 : decode cX12_has 0 = .ok (.iload_n 0, 1) := by decide +kernel
theorem dX12_has_1 : decode cX12_has 1 = .ok (.iload_n 1, 1) := by decide +kernel
theorem dX12_has_2 : decode cX12_has 2 = .ok (.ishr, 1) := by decide +kernel
theorem dX12_has_3 : decode cX12_has 3 = .ok (.iconst 1, 1) := by decide +kernel
theorem dX12_has_4 : decode cX12_has 4 = .ok (.iand, 1) := by decide +kernel
theorem dX12_has_5 : decode cX12_has 5 = .ok (.iconst 1, 1) := by decide +kernel
theorem dX12_has_6 : decode cX12_has 6 = .ok (.if_icmp .ne 7, 3) := by decide +kernel
theorem dX12_has_9 : decode cX12_has 9 = .ok (.iconst 1, 1) := by decide +kernel
theorem dX12_has_10 : decode cX12_has 10 = .ok (.goto 4, 3) := by decide +kernel
theorem dX12_has_13 : decode cX12_has 13 = .ok (.iconst 0, 1) := by decide +kernel
theorem dX12_has_14 : decode cX12_has 14 = .ok (.ireturn, 1) := by decide +kernel
theorem dX12_flag_0 : decode cX12_flag 0 = .ok (.iload_n 0, 1) := by decide +kernel
theorem dX12_flag_1 : decode cX12_flag 1 = .ok (.ifCond .eq 7, 3) := by decide +kernel
theorem dX12_flag_4 : decode cX12_flag 4 = .ok (.iconst 1, 1) := by decide +kernel
theorem dX12_flag_5 : decode cX12_flag 5 = .ok (.goto 4, 3) := by decide +kernel
theorem dX12_flag_8 : decode cX12_flag 8 = .ok (.iconst 0, 1) := by decide +kernel
theorem dX12_flag_9 : decode cX12_flag 9 = .ok (.ireturn, 1) := by decide +kernel
theorem dX12_common_0 : decode cX12_common 0 = .ok (.lload_n 2, 1) := by decide +kernel
theorem dX12_common_1 : decode cX12_common 1 = .ok (.lconst 0, 1) := by decide +kernel
theorem dX12_common_2 : decode cX12_common 2 = .ok (.lcmp, 1) := by decide +kernel
theorem dX12_common_3 : decode cX12_common 3 = .ok (.ifCond .ne 7, 3) := by decide +kernel
theorem dX12_common_6 : decode cX12_common 6 = .ok (.lload_n 0, 1) := by decide +kernel
theorem dX12_common_7 : decode cX12_common 7 = .ok (.goto 10, 3) := by decide +kernel
theorem dX12_common_10 : decode cX12_common 10 = .ok (.lload_n 2, 1) := by decide +kernel
theorem dX12_common_11 : decode cX12_common 11 = .ok (.lload_n 0, 1) := by decide +kernel
theorem dX12_common_12 : decode cX12_common 12 = .ok (.lload_n 2, 1) := by decide +kernel
theorem dX12_common_13 : decode cX12_common 13 = .ok (.lrem, 1) := by decide +kernel
theorem dX12_common_14 : decode cX12_common 14 = .ok (.invokestatic 115, 3) := by decide +kernel
theorem dX12_common_17 : decode cX12_common 17 = .ok (.lreturn, 1) := by decide +kernel
theorem dX12_enters_0 : decode cX12_enters 0 = .ok (.aload_n 0, 1) := by decide +kernel
theorem dX12_enters_1 : decode cX12_enters 1 = .ok (.getfield 9, 3) := by decide +kernel
theorem dX12_enters_4 : decode cX12_enters 4 = .ok (.aload_n 0, 1) := by decide +kernel
theorem dX12_enters_5 : decode cX12_enters 5 = .ok (.getfield 119, 3) := by decide +kernel
theorem dX12_enters_8 : decode cX12_enters 8 = .ok (.lload_n 1, 1) := by decide +kernel
theorem dX12_enters_9 : decode cX12_enters 9 = .ok (.lastore, 1) := by decide +kernel
theorem dX12_enters_10 : decode cX12_enters 10 = .ok (.aload_n 0, 1) := by decide +kernel
theorem dX12_enters_11 : decode cX12_enters 11 = .ok (.dup, 1) := by decide +kernel
theorem dX12_enters_12 : decode cX12_enters 12 = .ok (.getfield 119, 3) := by decide +kernel
theorem dX12_enters_15 : decode cX12_enters 15 = .ok (.iconst 1, 1) := by decide +kernel
theorem dX12_enters_16 : decode cX12_enters 16 = .ok (.iadd, 1) := by decide +kernel
theorem dX12_enters_17 : decode cX12_enters 17 = .ok (.putfield 119, 3) := by decide +kernel
theorem dX12_enters_20 : decode cX12_enters 20 = .ok (.return_, 1) := by decide +kernel
theorem dX12_gate_0 : decode cX12_gate 0 = .ok (.aload_n 0, 1) := by decide +kernel
theorem dX12_gate_1 : decode cX12_gate 1 = .ok (.getfield 13, 3) := by decide +kernel
theorem dX12_gate_4 : decode cX12_gate 4 = .ok (.iconst 1, 1) := by decide +kernel
theorem dX12_gate_5 : decode cX12_gate 5 = .ok (.isub, 1) := by decide +kernel
theorem dX12_gate_6 : decode cX12_gate 6 = .ok (.ireturn, 1) := by decide +kernel
theorem dX12_isHearse_0 : decode cX12_isHearse 0 = .ok (.iload_n 1, 1) := by decide +kernel
theorem dX12_isHearse_1 : decode cX12_isHearse 1 = .ok (.i2l, 1) := by decide +kernel
theorem dX12_isHearse_2 : decode cX12_isHearse 2 = .ok (.lconst 0, 1) := by decide +kernel
theorem dX12_isHearse_3 : decode cX12_isHearse 3 = .ok (.aload_n 0, 1) := by decide +kernel
theorem dX12_isHearse_4 : decode cX12_isHearse 4 = .ok (.getfield 122, 3) := by decide +kernel
theorem dX12_isHearse_7 : decode cX12_isHearse 7 = .ok (.iconst 1, 1) := by decide +kernel
theorem dX12_isHearse_8 : decode cX12_isHearse 8 = .ok (.isub, 1) := by decide +kernel
theorem dX12_isHearse_9 : decode cX12_isHearse 9 = .ok (.i2l, 1) := by decide +kernel
theorem dX12_isHearse_10 : decode cX12_isHearse 10 = .ok (.invokestatic 125, 3) := by decide +kernel
theorem dX12_isHearse_13 : decode cX12_isHearse 13 = .ok (.ireturn, 1) := by decide +kernel
theorem dX12_isMourner_0 : decode cX12_isMourner 0 = .ok (.iload_n 1, 1) := by decide +kernel
theorem dX12_isMourner_1 : decode cX12_isMourner 1 = .ok (.i2l, 1) := by decide +kernel
theorem dX12_isMourner_2 : decode cX12_isMourner 2 = .ok (.lconst 0, 1) := by decide +kernel
theorem dX12_isMourner_3 : decode cX12_isMourner 3 = .ok (.aload_n 0, 1) := by decide +kernel
theorem dX12_isMourner_4 : decode cX12_isMourner 4 = .ok (.getfield 129, 3) := by decide +kernel
theorem dX12_isMourner_7 : decode cX12_isMourner 7 = .ok (.iconst 1, 1) := by decide +kernel
theorem dX12_isMourner_8 : decode cX12_isMourner 8 = .ok (.isub, 1) := by decide +kernel
theorem dX12_isMourner_9 : decode cX12_isMourner 9 = .ok (.i2l, 1) := by decide +kernel
theorem dX12_isMourner_10 : decode cX12_isMourner 10 = .ok (.invokestatic 125, 3) := by decide +kernel
theorem dX12_isMourner_13 : decode cX12_isMourner 13 = .ok (.ireturn, 1) := by decide +kernel
theorem dX12_isOn_0 : decode cX12_isOn 0 = .ok (.aload_n 0, 1) := by decide +kernel
theorem dX12_isOn_1 : decode cX12_isOn 1 = .ok (.iload_n 1, 1) := by decide +kernel
theorem dX12_isOn_2 : decode cX12_isOn 2 = .ok (.iaload, 1) := by decide +kernel
theorem dX12_isOn_3 : decode cX12_isOn 3 = .ok (.ifCond .lt 7, 3) := by decide +kernel
theorem dX12_isOn_6 : decode cX12_isOn 6 = .ok (.iconst 1, 1) := by decide +kernel
theorem dX12_isOn_7 : decode cX12_isOn 7 = .ok (.goto 4, 3) := by decide +kernel
theorem dX12_isOn_10 : decode cX12_isOn 10 = .ok (.iconst 0, 1) := by decide +kernel
theorem dX12_isOn_11 : decode cX12_isOn 11 = .ok (.ireturn, 1) := by decide +kernel
theorem dX12_isEnded_0 : decode cX12_isEnded 0 = .ok (.aload_n 0, 1) := by decide +kernel
theorem dX12_isEnded_1 : decode cX12_isEnded 1 = .ok (.bipush 29, 2) := by decide +kernel
theorem dX12_isEnded_3 : decode cX12_isEnded 3 = .ok (.iload_n 1, 1) := by decide +kernel
theorem dX12_isEnded_4 : decode cX12_isEnded 4 = .ok (.iadd, 1) := by decide +kernel
theorem dX12_isEnded_5 : decode cX12_isEnded 5 = .ok (.iaload, 1) := by decide +kernel
theorem dX12_isEnded_6 : decode cX12_isEnded 6 = .ok (.ifCond .lt 7, 3) := by decide +kernel
theorem dX12_isEnded_9 : decode cX12_isEnded 9 = .ok (.iconst 1, 1) := by decide +kernel
theorem dX12_isEnded_10 : decode cX12_isEnded 10 = .ok (.goto 4, 3) := by decide +kernel
theorem dX12_isEnded_13 : decode cX12_isEnded 13 = .ok (.iconst 0, 1) := by decide +kernel
theorem dX12_isEnded_14 : decode cX12_isEnded 14 = .ok (.ireturn, 1) := by decide +kernel
theorem dX12_onCell_0 : decode cX12_onCell 0 = .ok (.iconst (-1), 1) := by decide +kernel
theorem dX12_onCell_1 : decode cX12_onCell 1 = .ok (.istore_n 3, 1) := by decide +kernel
theorem dX12_onCell_2 : decode cX12_onCell 2 = .ok (.iconst 0, 1) := by decide +kernel
theorem dX12_onCell_3 : decode cX12_onCell 3 = .ok (.istore 4, 2) := by decide +kernel
theorem dX12_onCell_5 : decode cX12_onCell 5 = .ok (.iload 4, 2) := by decide +kernel
theorem dX12_onCell_7 : decode cX12_onCell 7 = .ok (.aload_n 0, 1) := by decide +kernel
theorem dX12_onCell_8 : decode cX12_onCell 8 = .ok (.getfield 122, 3) := by decide +kernel
theorem dX12_onCell_11 : decode cX12_onCell 11 = .ok (.if_icmp .ge 24, 3) := by decide +kernel
theorem dX12_onCell_14 : decode cX12_onCell 14 = .ok (.aload_n 1, 1) := by decide +kernel
theorem dX12_onCell_15 : decode cX12_onCell 15 = .ok (.iload 4, 2) := by decide +kernel
theorem dX12_onCell_17 : decode cX12_onCell 17 = .ok (.iaload, 1) := by decide +kernel
theorem dX12_onCell_18 : decode cX12_onCell 18 = .ok (.iload_n 2, 1) := by decide +kernel
theorem dX12_onCell_19 : decode cX12_onCell 19 = .ok (.if_icmp .ne 8, 3) := by decide +kernel
theorem dX12_onCell_22 : decode cX12_onCell 22 = .ok (.iload 4, 2) := by decide +kernel
theorem dX12_onCell_24 : decode cX12_onCell 24 = .ok (.goto 4, 3) := by decide +kernel
theorem dX12_onCell_27 : decode cX12_onCell 27 = .ok (.iload_n 3, 1) := by decide +kernel
theorem dX12_onCell_28 : decode cX12_onCell 28 = .ok (.istore_n 3, 1) := by decide +kernel
theorem dX12_onCell_29 : decode cX12_onCell 29 = .ok (.iinc 4 1, 3) := by decide +kernel
theorem dX12_onCell_32 : decode cX12_onCell 32 = .ok (.goto (-27), 3) := by decide +kernel
theorem dX12_onCell_35 : decode cX12_onCell 35 = .ok (.iload_n 3, 1) := by decide +kernel
theorem dX12_onCell_36 : decode cX12_onCell 36 = .ok (.ireturn, 1) := by decide +kernel
theorem dX12_bitsBy_0 : decode cX12_bitsBy 0 = .ok (.iconst 0, 1) := by decide +kernel
theorem dX12_bitsBy_1 : decode cX12_bitsBy 1 = .ok (.istore 4, 2) := by decide +kernel
theorem dX12_bitsBy_3 : decode cX12_bitsBy 3 = .ok (.iconst 0, 1) := by decide +kernel
theorem dX12_bitsBy_4 : decode cX12_bitsBy 4 = .ok (.istore 5, 2) := by decide +kernel
theorem dX12_bitsBy_6 : decode cX12_bitsBy 6 = .ok (.iload 5, 2) := by decide +kernel
theorem dX12_bitsBy_8 : decode cX12_bitsBy 8 = .ok (.aload_n 0, 1) := by decide +kernel
theorem dX12_bitsBy_9 : decode cX12_bitsBy 9 = .ok (.getfield 129, 3) := by decide +kernel
theorem dX12_bitsBy_12 : decode cX12_bitsBy 12 = .ok (.if_icmp .ge 32, 3) := by decide +kernel
theorem dX12_bitsBy_15 : decode cX12_bitsBy 15 = .ok (.iload 4, 2) := by decide +kernel
theorem dX12_bitsBy_17 : decode cX12_bitsBy 17 = .ok (.aload_n 1, 1) := by decide +kernel
theorem dX12_bitsBy_18 : decode cX12_bitsBy 18 = .ok (.iload_n 2, 1) := by decide +kernel
theorem dX12_bitsBy_19 : decode cX12_bitsBy 19 = .ok (.iload 5, 2) := by decide +kernel
theorem dX12_bitsBy_21 : decode cX12_bitsBy 21 = .ok (.iadd, 1) := by decide +kernel
theorem dX12_bitsBy_22 : decode cX12_bitsBy 22 = .ok (.iaload, 1) := by decide +kernel
theorem dX12_bitsBy_23 : decode cX12_bitsBy 23 = .ok (.iload_n 3, 1) := by decide +kernel
theorem dX12_bitsBy_24 : decode cX12_bitsBy 24 = .ok (.if_icmp .ne 10, 3) := by decide +kernel
theorem dX12_bitsBy_27 : decode cX12_bitsBy 27 = .ok (.iconst 1, 1) := by decide +kernel
theorem dX12_bitsBy_28 : decode cX12_bitsBy 28 = .ok (.iload 5, 2) := by decide +kernel
theorem dX12_bitsBy_30 : decode cX12_bitsBy 30 = .ok (.ishl, 1) := by decide +kernel
theorem dX12_bitsBy_31 : decode cX12_bitsBy 31 = .ok (.goto 4, 3) := by decide +kernel
theorem dX12_bitsBy_34 : decode cX12_bitsBy 34 = .ok (.iconst 0, 1) := by decide +kernel
theorem dX12_bitsBy_35 : decode cX12_bitsBy 35 = .ok (.ior, 1) := by decide +kernel
theorem dX12_bitsBy_36 : decode cX12_bitsBy 36 = .ok (.istore 4, 2) := by decide +kernel
theorem dX12_bitsBy_38 : decode cX12_bitsBy 38 = .ok (.iinc 5 1, 3) := by decide +kernel
theorem dX12_bitsBy_41 : decode cX12_bitsBy 41 = .ok (.goto (-35), 3) := by decide +kernel
theorem dX12_bitsBy_44 : decode cX12_bitsBy 44 = .ok (.iload 4, 2) := by decide +kernel
theorem dX12_bitsBy_46 : decode cX12_bitsBy 46 = .ok (.ireturn, 1) := by decide +kernel
theorem dX12_owners_0 : decode cX12_owners 0 = .ok (.iconst 0, 1) := by decide +kernel
theorem dX12_owners_1 : decode cX12_owners 1 = .ok (.istore_n 2, 1) := by decide +kernel
theorem dX12_owners_2 : decode cX12_owners 2 = .ok (.iconst 0, 1) := by decide +kernel
theorem dX12_owners_3 : decode cX12_owners 3 = .ok (.istore_n 3, 1) := by decide +kernel
theorem dX12_owners_4 : decode cX12_owners 4 = .ok (.iload_n 3, 1) := by decide +kernel
theorem dX12_owners_5 : decode cX12_owners 5 = .ok (.aload_n 0, 1) := by decide +kernel
theorem dX12_owners_6 : decode cX12_owners 6 = .ok (.getfield 129, 3) := by decide +kernel
theorem dX12_owners_9 : decode cX12_owners 9 = .ok (.if_icmp .ge 29, 3) := by decide +kernel
theorem dX12_owners_12 : decode cX12_owners 12 = .ok (.iload_n 2, 1) := by decide +kernel
theorem dX12_owners_13 : decode cX12_owners 13 = .ok (.aload_n 0, 1) := by decide +kernel
theorem dX12_owners_14 : decode cX12_owners 14 = .ok (.getfield 24, 3) := by decide +kernel
theorem dX12_owners_17 : decode cX12_owners 17 = .ok (.iload_n 3, 1) := by decide +kernel
theorem dX12_owners_18 : decode cX12_owners 18 = .ok (.iaload, 1) := by decide +kernel
theorem dX12_owners_19 : decode cX12_owners 19 = .ok (.iload_n 1, 1) := by decide +kernel
theorem dX12_owners_20 : decode cX12_owners 20 = .ok (.if_icmp .ne 9, 3) := by decide +kernel
theorem dX12_owners_23 : decode cX12_owners 23 = .ok (.iconst 1, 1) := by decide +kernel
theorem dX12_owners_24 : decode cX12_owners 24 = .ok (.iload_n 3, 1) := by decide +kernel
theorem dX12_owners_25 : decode cX12_owners 25 = .ok (.ishl, 1) := by decide +kernel
theorem dX12_owners_26 : decode cX12_owners 26 = .ok (.goto 4, 3) := by decide +kernel
theorem dX12_owners_29 : decode cX12_owners 29 = .ok (.iconst 0, 1) := by decide +kernel
theorem dX12_owners_30 : decode cX12_owners 30 = .ok (.ior, 1) := by decide +kernel
theorem dX12_owners_31 : decode cX12_owners 31 = .ok (.istore_n 2, 1) := by decide +kernel
theorem dX12_owners_32 : decode cX12_owners 32 = .ok (.iinc 3 1, 3) := by decide +kernel
theorem dX12_owners_35 : decode cX12_owners 35 = .ok (.goto (-31), 3) := by decide +kernel
theorem dX12_owners_38 : decode cX12_owners 38 = .ok (.iload_n 2, 1) := by decide +kernel
theorem dX12_owners_39 : decode cX12_owners 39 = .ok (.ireturn, 1) := by decide +kernel
theorem dX12_endedBy_0 : decode cX12_endedBy 0 = .ok (.iconst 0, 1) := by decide +kernel
theorem dX12_endedBy_1 : decode cX12_endedBy 1 = .ok (.istore_n 3, 1) := by decide +kernel
theorem dX12_endedBy_2 : decode cX12_endedBy 2 = .ok (.iconst 0, 1) := by decide +kernel
theorem dX12_endedBy_3 : decode cX12_endedBy 3 = .ok (.istore 4, 2) := by decide +kernel
theorem dX12_endedBy_5 : decode cX12_endedBy 5 = .ok (.iload 4, 2) := by decide +kernel
theorem dX12_endedBy_7 : decode cX12_endedBy 7 = .ok (.aload_n 0, 1) := by decide +kernel
theorem dX12_endedBy_8 : decode cX12_endedBy 8 = .ok (.getfield 129, 3) := by decide +kernel
theorem dX12_endedBy_11 : decode cX12_endedBy 11 = .ok (.if_icmp .ge 55, 3) := by decide +kernel
theorem dX12_endedBy_14 : decode cX12_endedBy 14 = .ok (.iload_n 3, 1) := by decide +kernel
theorem dX12_endedBy_15 : decode cX12_endedBy 15 = .ok (.aload_n 1, 1) := by decide +kernel
theorem dX12_endedBy_16 : decode cX12_endedBy 16 = .ok (.iload 4, 2) := by decide +kernel
theorem dX12_endedBy_18 : decode cX12_endedBy 18 = .ok (.invokestatic 132, 3) := by decide +kernel
theorem dX12_endedBy_21 : decode cX12_endedBy 21 = .ok (.ifCond .eq 36, 3) := by decide +kernel
theorem dX12_endedBy_24 : decode cX12_endedBy 24 = .ok (.aload_n 1, 1) := by decide +kernel
theorem dX12_endedBy_25 : decode cX12_endedBy 25 = .ok (.bipush 29, 2) := by decide +kernel
theorem dX12_endedBy_27 : decode cX12_endedBy 27 = .ok (.iload 4, 2) := by decide +kernel
theorem dX12_endedBy_29 : decode cX12_endedBy 29 = .ok (.iadd, 1) := by decide +kernel
theorem dX12_endedBy_30 : decode cX12_endedBy 30 = .ok (.iaload, 1) := by decide +kernel
theorem dX12_endedBy_31 : decode cX12_endedBy 31 = .ok (.aload_n 0, 1) := by decide +kernel
theorem dX12_endedBy_32 : decode cX12_endedBy 32 = .ok (.getfield 24, 3) := by decide +kernel
theorem dX12_endedBy_35 : decode cX12_endedBy 35 = .ok (.iload 4, 2) := by decide +kernel
theorem dX12_endedBy_37 : decode cX12_endedBy 37 = .ok (.iaload, 1) := by decide +kernel
theorem dX12_endedBy_38 : decode cX12_endedBy 38 = .ok (.if_icmp .ne 7, 3) := by decide +kernel
theorem dX12_endedBy_41 : decode cX12_endedBy 41 = .ok (.iconst 1, 1) := by decide +kernel
theorem dX12_endedBy_42 : decode cX12_endedBy 42 = .ok (.goto 4, 3) := by decide +kernel
theorem dX12_endedBy_45 : decode cX12_endedBy 45 = .ok (.iconst 0, 1) := by decide +kernel
theorem dX12_endedBy_46 : decode cX12_endedBy 46 = .ok (.iload_n 2, 1) := by decide +kernel
theorem dX12_endedBy_47 : decode cX12_endedBy 47 = .ok (.if_icmp .ne 10, 3) := by decide +kernel
theorem dX12_endedBy_50 : decode cX12_endedBy 50 = .ok (.iconst 1, 1) := by decide +kernel
theorem dX12_endedBy_51 : decode cX12_endedBy 51 = .ok (.iload 4, 2) := by decide +kernel
theorem dX12_endedBy_53 : decode cX12_endedBy 53 = .ok (.ishl, 1) := by decide +kernel
theorem dX12_endedBy_54 : decode cX12_endedBy 54 = .ok (.goto 4, 3) := by decide +kernel
theorem dX12_endedBy_57 : decode cX12_endedBy 57 = .ok (.iconst 0, 1) := by decide +kernel
theorem dX12_endedBy_58 : decode cX12_endedBy 58 = .ok (.ior, 1) := by decide +kernel
theorem dX12_endedBy_59 : decode cX12_endedBy 59 = .ok (.istore_n 3, 1) := by decide +kernel
theorem dX12_endedBy_60 : decode cX12_endedBy 60 = .ok (.iinc 4 1, 3) := by decide +kernel
theorem dX12_endedBy_63 : decode cX12_endedBy 63 = .ok (.goto (-58), 3) := by decide +kernel
theorem dX12_endedBy_66 : decode cX12_endedBy 66 = .ok (.iload_n 3, 1) := by decide +kernel
theorem dX12_endedBy_67 : decode cX12_endedBy 67 = .ok (.ireturn, 1) := by decide +kernel
theorem dX12_sign_0 : decode cX12_sign 0 = .ok (.aload_n 0, 1) := by decide +kernel
theorem dX12_sign_1 : decode cX12_sign 1 = .ok (.iconst 0, 1) := by decide +kernel
theorem dX12_sign_2 : decode cX12_sign 2 = .ok (.putfield 112, 3) := by decide +kernel
theorem dX12_sign_5 : decode cX12_sign 5 = .ok (.aload_n 0, 1) := by decide +kernel
theorem dX12_sign_6 : decode cX12_sign 6 = .ok (.getfield 136, 3) := by decide +kernel
theorem dX12_sign_9 : decode cX12_sign 9 = .ok (.bipush 76, 2) := by decide +kernel
theorem dX12_sign_11 : decode cX12_sign 11 = .ok (.if_icmp .le 5, 3) := by decide +kernel
theorem dX12_sign_14 : decode cX12_sign 14 = .ok (.iconst (-1), 1) := by decide +kernel
theorem dX12_sign_15 : decode cX12_sign 15 = .ok (.ireturn, 1) := by decide +kernel
theorem dX12_sign_16 : decode cX12_sign 16 = .ok (.iconst 0, 1) := by decide +kernel
theorem dX12_sign_17 : decode cX12_sign 17 = .ok (.istore_n 2, 1) := by decide +kernel
theorem dX12_sign_18 : decode cX12_sign 18 = .ok (.iload_n 2, 1) := by decide +kernel
theorem dX12_sign_19 : decode cX12_sign 19 = .ok (.iconst 4, 1) := by decide +kernel
theorem dX12_sign_20 : decode cX12_sign 20 = .ok (.if_icmp .ge 33, 3) := by decide +kernel
theorem dX12_sign_23 : decode cX12_sign 23 = .ok (.aload_n 0, 1) := by decide +kernel
theorem dX12_sign_24 : decode cX12_sign 24 = .ok (.getfield 37, 3) := by decide +kernel
theorem dX12_sign_27 : decode cX12_sign 27 = .ok (.aload_n 0, 1) := by decide +kernel
theorem dX12_sign_28 : decode cX12_sign 28 = .ok (.getfield 136, 3) := by decide +kernel
theorem dX12_sign_31 : decode cX12_sign 31 = .ok (.iload_n 2, 1) := by decide +kernel
theorem dX12_sign_32 : decode cX12_sign 32 = .ok (.iadd, 1) := by decide +kernel
theorem dX12_sign_33 : decode cX12_sign 33 = .ok (.iload_n 1, 1) := by decide +kernel
theorem dX12_sign_34 : decode cX12_sign 34 = .ok (.bipush 24, 2) := by decide +kernel
theorem dX12_sign_36 : decode cX12_sign 36 = .ok (.bipush 8, 2) := by decide +kernel
theorem dX12_sign_38 : decode cX12_sign 38 = .ok (.iload_n 2, 1) := by decide +kernel
theorem dX12_sign_39 : decode cX12_sign 39 = .ok (.imul, 1) := by decide +kernel
theorem dX12_sign_40 : decode cX12_sign 40 = .ok (.isub, 1) := by decide +kernel
theorem dX12_sign_41 : decode cX12_sign 41 = .ok (.ishr, 1) := by decide +kernel
theorem dX12_sign_42 : decode cX12_sign 42 = .ok (.sipush 255, 3) := by decide +kernel
theorem dX12_sign_45 : decode cX12_sign 45 = .ok (.iand, 1) := by decide +kernel
theorem dX12_sign_46 : decode cX12_sign 46 = .ok (.iastore, 1) := by decide +kernel
theorem dX12_sign_47 : decode cX12_sign 47 = .ok (.iinc 2 1, 3) := by decide +kernel
theorem dX12_sign_50 : decode cX12_sign 50 = .ok (.goto (-32), 3) := by decide +kernel
theorem dX12_sign_53 : decode cX12_sign 53 = .ok (.aload_n 0, 1) := by decide +kernel
theorem dX12_sign_54 : decode cX12_sign 54 = .ok (.dup, 1) := by decide +kernel
theorem dX12_sign_55 : decode cX12_sign 55 = .ok (.getfield 136, 3) := by decide +kernel
theorem dX12_sign_58 : decode cX12_sign 58 = .ok (.iconst 4, 1) := by decide +kernel
theorem dX12_sign_59 : decode cX12_sign 59 = .ok (.iadd, 1) := by decide +kernel
theorem dX12_sign_60 : decode cX12_sign 60 = .ok (.putfield 136, 3) := by decide +kernel
theorem dX12_sign_63 : decode cX12_sign 63 = .ok (.aload_n 0, 1) := by decide +kernel
theorem dX12_sign_64 : decode cX12_sign 64 = .ok (.getfield 136, 3) := by decide +kernel
theorem dX12_sign_67 : decode cX12_sign 67 = .ok (.ireturn, 1) := by decide +kernel
theorem dX12_end_0 : decode cX12_end 0 = .ok (.aload_n 0, 1) := by decide +kernel
theorem dX12_end_1 : decode cX12_end 1 = .ok (.iconst 0, 1) := by decide +kernel
theorem dX12_end_2 : decode cX12_end 2 = .ok (.putfield 112, 3) := by decide +kernel
theorem dX12_end_5 : decode cX12_end 5 = .ok (.iload_n 1, 1) := by decide +kernel
theorem dX12_end_6 : decode cX12_end 6 = .ok (.i2l, 1) := by decide +kernel
theorem dX12_end_7 : decode cX12_end 7 = .ok (.lconst 0, 1) := by decide +kernel
theorem dX12_end_8 : decode cX12_end 8 = .ok (.aload_n 0, 1) := by decide +kernel
theorem dX12_end_9 : decode cX12_end 9 = .ok (.getfield 136, 3) := by decide +kernel
theorem dX12_end_12 : decode cX12_end 12 = .ok (.i2l, 1) := by decide +kernel
theorem dX12_end_13 : decode cX12_end 13 = .ok (.invokestatic 125, 3) := by decide +kernel
theorem dX12_end_16 : decode cX12_end 16 = .ok (.ifCond .ne 5, 3) := by decide +kernel
theorem dX12_end_19 : decode cX12_end 19 = .ok (.iconst 0, 1) := by decide +kernel
theorem dX12_end_20 : decode cX12_end 20 = .ok (.ireturn, 1) := by decide +kernel
theorem dX12_end_21 : decode cX12_end 21 = .ok (.aload_n 0, 1) := by decide +kernel
theorem dX12_end_22 : decode cX12_end 22 = .ok (.iload_n 1, 1) := by decide +kernel
theorem dX12_end_23 : decode cX12_end 23 = .ok (.putfield 136, 3) := by decide +kernel
theorem dX12_end_26 : decode cX12_end 26 = .ok (.iconst 1, 1) := by decide +kernel
theorem dX12_end_27 : decode cX12_end 27 = .ok (.ireturn, 1) := by decide +kernel
theorem dX12_begins_0 : decode cX12_begins 0 = .ok (.aload_n 0, 1) := by decide +kernel
theorem dX12_begins_1 : decode cX12_begins 1 = .ok (.getfield 136, 3) := by decide +kernel
theorem dX12_begins_4 : decode cX12_begins 4 = .ok (.istore_n 2, 1) := by decide +kernel
theorem dX12_begins_5 : decode cX12_begins 5 = .ok (.aload_n 0, 1) := by decide +kernel
theorem dX12_begins_6 : decode cX12_begins 6 = .ok (.iconst 0, 1) := by decide +kernel
theorem dX12_begins_7 : decode cX12_begins 7 = .ok (.putfield 136, 3) := by decide +kernel
theorem dX12_begins_10 : decode cX12_begins 10 = .ok (.aload_n 0, 1) := by decide +kernel
theorem dX12_begins_11 : decode cX12_begins 11 = .ok (.iconst 0, 1) := by decide +kernel
theorem dX12_begins_12 : decode cX12_begins 12 = .ok (.putfield 139, 3) := by decide +kernel
theorem dX12_begins_15 : decode cX12_begins 15 = .ok (.aload_n 0, 1) := by decide +kernel
theorem dX12_begins_16 : decode cX12_begins 16 = .ok (.iconst 0, 1) := by decide +kernel
theorem dX12_begins_17 : decode cX12_begins 17 = .ok (.putfield 142, 3) := by decide +kernel
theorem dX12_begins_20 : decode cX12_begins 20 = .ok (.aload_n 0, 1) := by decide +kernel
theorem dX12_begins_21 : decode cX12_begins 21 = .ok (.iload_n 2, 1) := by decide +kernel
theorem dX12_begins_22 : decode cX12_begins 22 = .ok (.iload_n 1, 1) := by decide +kernel
theorem dX12_begins_23 : decode cX12_begins 23 = .ok (.invokestatic 145, 3) := by decide +kernel
theorem dX12_begins_26 : decode cX12_begins 26 = .ok (.putfield 151, 3) := by decide +kernel
theorem dX12_begins_29 : decode cX12_begins 29 = .ok (.iload_n 2, 1) := by decide +kernel
theorem dX12_begins_30 : decode cX12_begins 30 = .ok (.ireturn, 1) := by decide +kernel
theorem dX12_takes_0 : decode cX12_takes 0 = .ok (.aload_n 0, 1) := by decide +kernel
theorem dX12_takes_1 : decode cX12_takes 1 = .ok (.getfield 139, 3) := by decide +kernel
theorem dX12_takes_4 : decode cX12_takes 4 = .ok (.aload_n 0, 1) := by decide +kernel
theorem dX12_takes_5 : decode cX12_takes 5 = .ok (.getfield 151, 3) := by decide +kernel
theorem dX12_takes_8 : decode cX12_takes 8 = .ok (.if_icmp .ge 20, 3) := by decide +kernel
theorem dX12_takes_11 : decode cX12_takes 11 = .ok (.aload_n 0, 1) := by decide +kernel
theorem dX12_takes_12 : decode cX12_takes 12 = .ok (.getfield 37, 3) := by decide +kernel
theorem dX12_takes_15 : decode cX12_takes 15 = .ok (.aload_n 0, 1) := by decide +kernel
theorem dX12_takes_16 : decode cX12_takes 16 = .ok (.getfield 139, 3) := by decide +kernel
theorem dX12_takes_19 : decode cX12_takes 19 = .ok (.iaload, 1) := by decide +kernel
theorem dX12_takes_20 : decode cX12_takes 20 = .ok (.iload_n 1, 1) := by decide +kernel
theorem dX12_takes_21 : decode cX12_takes 21 = .ok (.if_icmp .ne 7, 3) := by decide +kernel
theorem dX12_takes_24 : decode cX12_takes 24 = .ok (.iconst 1, 1) := by decide +kernel
theorem dX12_takes_25 : decode cX12_takes 25 = .ok (.goto 4, 3) := by decide +kernel
theorem dX12_takes_28 : decode cX12_takes 28 = .ok (.iconst 0, 1) := by decide +kernel
theorem dX12_takes_29 : decode cX12_takes 29 = .ok (.istore_n 2, 1) := by decide +kernel
theorem dX12_takes_30 : decode cX12_takes 30 = .ok (.aload_n 0, 1) := by decide +kernel
theorem dX12_takes_31 : decode cX12_takes 31 = .ok (.dup, 1) := by decide +kernel
theorem dX12_takes_32 : decode cX12_takes 32 = .ok (.getfield 139, 3) := by decide +kernel
theorem dX12_takes_35 : decode cX12_takes 35 = .ok (.iload_n 2, 1) := by decide +kernel
theorem dX12_takes_36 : decode cX12_takes 36 = .ok (.invokestatic 154, 3) := by decide +kernel
theorem dX12_takes_39 : decode cX12_takes 39 = .ok (.iadd, 1) := by decide +kernel
theorem dX12_takes_40 : decode cX12_takes 40 = .ok (.putfield 139, 3) := by decide +kernel
theorem dX12_takes_43 : decode cX12_takes 43 = .ok (.iload_n 2, 1) := by decide +kernel
theorem dX12_takes_44 : decode cX12_takes 44 = .ok (.ireturn, 1) := by decide +kernel
theorem dX12_isDigit_0 : decode cX12_isDigit 0 = .ok (.aload_n 0, 1) := by decide +kernel
theorem dX12_isDigit_1 : decode cX12_isDigit 1 = .ok (.getfield 139, 3) := by decide +kernel
theorem dX12_isDigit_4 : decode cX12_isDigit 4 = .ok (.aload_n 0, 1) := by decide +kernel
theorem dX12_isDigit_5 : decode cX12_isDigit 5 = .ok (.getfield 151, 3) := by decide +kernel
theorem dX12_isDigit_8 : decode cX12_isDigit 8 = .ok (.if_icmp .ge 29, 3) := by decide +kernel
theorem dX12_isDigit_11 : decode cX12_isDigit 11 = .ok (.aload_n 0, 1) := by decide +kernel
theorem dX12_isDigit_12 : decode cX12_isDigit 12 = .ok (.getfield 37, 3) := by decide +kernel
theorem dX12_isDigit_15 : decode cX12_isDigit 15 = .ok (.aload_n 0, 1) := by decide +kernel
theorem dX12_isDigit_16 : decode cX12_isDigit 16 = .ok (.getfield 139, 3) := by decide +kernel
theorem dX12_isDigit_19 : decode cX12_isDigit 19 = .ok (.iaload, 1) := by decide +kernel
theorem dX12_isDigit_20 : decode cX12_isDigit 20 = .ok (.i2l, 1) := by decide +kernel
theorem dX12_isDigit_21 : decode cX12_isDigit 21 = .ok (.ldc2_w 158, 3) := by decide +kernel
theorem dX12_isDigit_24 : decode cX12_isDigit 24 = .ok (.ldc2_w 160, 3) := by decide +kernel
theorem dX12_isDigit_27 : decode cX12_isDigit 27 = .ok (.invokestatic 125, 3) := by decide +kernel
theorem dX12_isDigit_30 : decode cX12_isDigit 30 = .ok (.ifCond .eq 7, 3) := by decide +kernel
theorem dX12_isDigit_33 : decode cX12_isDigit 33 = .ok (.iconst 1, 1) := by decide +kernel
theorem dX12_isDigit_34 : decode cX12_isDigit 34 = .ok (.goto 4, 3) := by decide +kernel
theorem dX12_isDigit_37 : decode cX12_isDigit 37 = .ok (.iconst 0, 1) := by decide +kernel
theorem dX12_isDigit_38 : decode cX12_isDigit 38 = .ok (.ireturn, 1) := by decide +kernel
theorem dX12_takesOf_0 : decode cX12_takesOf 0 = .ok (.iconst 0, 1) := by decide +kernel
theorem dX12_takesOf_1 : decode cX12_takesOf 1 = .ok (.istore_n 2, 1) := by decide +kernel
theorem dX12_takesOf_2 : decode cX12_takesOf 2 = .ok (.iload_n 2, 1) := by decide +kernel
theorem dX12_takesOf_3 : decode cX12_takesOf 3 = .ok (.aload_n 1, 1) := by decide +kernel
theorem dX12_takesOf_4 : decode cX12_takesOf 4 = .ok (.invokevirtual 162, 3) := by decide +kernel
theorem dX12_takesOf_7 : decode cX12_takesOf 7 = .ok (.if_icmp .ge 49, 3) := by decide +kernel
theorem dX12_takesOf_10 : decode cX12_takesOf 10 = .ok (.aload_n 0, 1) := by decide +kernel
theorem dX12_takesOf_11 : decode cX12_takesOf 11 = .ok (.getfield 139, 3) := by decide +kernel
theorem dX12_takesOf_14 : decode cX12_takesOf 14 = .ok (.aload_n 0, 1) := by decide +kernel
theorem dX12_takesOf_15 : decode cX12_takesOf 15 = .ok (.getfield 151, 3) := by decide +kernel
theorem dX12_takesOf_18 : decode cX12_takesOf 18 = .ok (.if_icmp .ge 38, 3) := by decide +kernel
theorem dX12_takesOf_21 : decode cX12_takesOf 21 = .ok (.aload_n 1, 1) := by decide +kernel
theorem dX12_takesOf_22 : decode cX12_takesOf 22 = .ok (.iload_n 2, 1) := by decide +kernel
theorem dX12_takesOf_23 : decode cX12_takesOf 23 = .ok (.invokevirtual 168, 3) := by decide +kernel
theorem dX12_takesOf_26 : decode cX12_takesOf 26 = .ok (.aload_n 0, 1) := by decide +kernel
theorem dX12_takesOf_27 : decode cX12_takesOf 27 = .ok (.getfield 37, 3) := by decide +kernel
theorem dX12_takesOf_30 : decode cX12_takesOf 30 = .ok (.aload_n 0, 1) := by decide +kernel
theorem dX12_takesOf_31 : decode cX12_takesOf 31 = .ok (.getfield 139, 3) := by decide +kernel
theorem dX12_takesOf_34 : decode cX12_takesOf 34 = .ok (.iaload, 1) := by decide +kernel
theorem dX12_takesOf_35 : decode cX12_takesOf 35 = .ok (.if_icmp .ne 15, 3) := by decide +kernel
theorem dX12_takesOf_38 : decode cX12_takesOf 38 = .ok (.aload_n 0, 1) := by decide +kernel
theorem dX12_takesOf_39 : decode cX12_takesOf 39 = .ok (.dup, 1) := by decide +kernel
theorem dX12_takesOf_40 : decode cX12_takesOf 40 = .ok (.getfield 139, 3) := by decide +kernel
theorem dX12_takesOf_43 : decode cX12_takesOf 43 = .ok (.iconst 1, 1) := by decide +kernel
theorem dX12_takesOf_44 : decode cX12_takesOf 44 = .ok (.iadd, 1) := by decide +kernel
theorem dX12_takesOf_45 : decode cX12_takesOf 45 = .ok (.putfield 139, 3) := by decide +kernel
theorem dX12_takesOf_48 : decode cX12_takesOf 48 = .ok (.iload_n 2, 1) := by decide +kernel
theorem dX12_takesOf_49 : decode cX12_takesOf 49 = .ok (.ireturn, 1) := by decide +kernel
theorem dX12_takesOf_50 : decode cX12_takesOf 50 = .ok (.iinc 2 1, 3) := by decide +kernel
theorem dX12_takesOf_53 : decode cX12_takesOf 53 = .ok (.goto (-51), 3) := by decide +kernel
theorem dX12_takesOf_56 : decode cX12_takesOf 56 = .ok (.iconst (-1), 1) := by decide +kernel
theorem dX12_takesOf_57 : decode cX12_takesOf 57 = .ok (.ireturn, 1) := by decide +kernel
theorem dX12_number_0 : decode cX12_number 0 = .ok (.aload_n 0, 1) := by decide +kernel
theorem dX12_number_1 : decode cX12_number 1 = .ok (.invokevirtual 172, 3) := by decide +kernel
theorem dX12_number_4 : decode cX12_number 4 = .ok (.ifCond .ne 5, 3) := by decide +kernel
theorem dX12_number_7 : decode cX12_number 7 = .ok (.iconst (-1), 1) := by decide +kernel
theorem dX12_number_8 : decode cX12_number 8 = .ok (.ireturn, 1) := by decide +kernel
theorem dX12_number_9 : decode cX12_number 9 = .ok (.iconst 0, 1) := by decide +kernel
theorem dX12_number_10 : decode cX12_number 10 = .ok (.istore_n 2, 1) := by decide +kernel
theorem dX12_number_11 : decode cX12_number 11 = .ok (.iconst 0, 1) := by decide +kernel
theorem dX12_number_12 : decode cX12_number 12 = .ok (.istore_n 3, 1) := by decide +kernel
theorem dX12_number_13 : decode cX12_number 13 = .ok (.iload_n 3, 1) := by decide +kernel
theorem dX12_number_14 : decode cX12_number 14 = .ok (.iload_n 1, 1) := by decide +kernel
theorem dX12_number_15 : decode cX12_number 15 = .ok (.if_icmp .ge 44, 3) := by decide +kernel
theorem dX12_number_18 : decode cX12_number 18 = .ok (.aload_n 0, 1) := by decide +kernel
theorem dX12_number_19 : decode cX12_number 19 = .ok (.invokevirtual 172, 3) := by decide +kernel
theorem dX12_number_22 : decode cX12_number 22 = .ok (.ifCond .eq 37, 3) := by decide +kernel
theorem dX12_number_25 : decode cX12_number 25 = .ok (.bipush 10, 2) := by decide +kernel
theorem dX12_number_27 : decode cX12_number 27 = .ok (.iload_n 2, 1) := by decide +kernel
theorem dX12_number_28 : decode cX12_number 28 = .ok (.imul, 1) := by decide +kernel
theorem dX12_number_29 : decode cX12_number 29 = .ok (.aload_n 0, 1) := by decide +kernel
theorem dX12_number_30 : decode cX12_number 30 = .ok (.getfield 37, 3) := by decide +kernel
theorem dX12_number_33 : decode cX12_number 33 = .ok (.aload_n 0, 1) := by decide +kernel
theorem dX12_number_34 : decode cX12_number 34 = .ok (.getfield 139, 3) := by decide +kernel
theorem dX12_number_37 : decode cX12_number 37 = .ok (.iaload, 1) := by decide +kernel
theorem dX12_number_38 : decode cX12_number 38 = .ok (.iadd, 1) := by decide +kernel
theorem dX12_number_39 : decode cX12_number 39 = .ok (.bipush 48, 2) := by decide +kernel
theorem dX12_number_41 : decode cX12_number 41 = .ok (.isub, 1) := by decide +kernel
theorem dX12_number_42 : decode cX12_number 42 = .ok (.istore_n 2, 1) := by decide +kernel
theorem dX12_number_43 : decode cX12_number 43 = .ok (.aload_n 0, 1) := by decide +kernel
theorem dX12_number_44 : decode cX12_number 44 = .ok (.dup, 1) := by decide +kernel
theorem dX12_number_45 : decode cX12_number 45 = .ok (.getfield 139, 3) := by decide +kernel
theorem dX12_number_48 : decode cX12_number 48 = .ok (.iconst 1, 1) := by decide +kernel
theorem dX12_number_49 : decode cX12_number 49 = .ok (.iadd, 1) := by decide +kernel
theorem dX12_number_50 : decode cX12_number 50 = .ok (.putfield 139, 3) := by decide +kernel
theorem dX12_number_53 : decode cX12_number 53 = .ok (.iinc 3 1, 3) := by decide +kernel
theorem dX12_number_56 : decode cX12_number 56 = .ok (.goto (-43), 3) := by decide +kernel
theorem dX12_number_59 : decode cX12_number 59 = .ok (.iload_n 2, 1) := by decide +kernel
theorem dX12_number_60 : decode cX12_number 60 = .ok (.ireturn, 1) := by decide +kernel
theorem dX12_digitIn_0 : decode cX12_digitIn 0 = .ok (.aload_n 0, 1) := by decide +kernel
theorem dX12_digitIn_1 : decode cX12_digitIn 1 = .ok (.getfield 139, 3) := by decide +kernel
theorem dX12_digitIn_4 : decode cX12_digitIn 4 = .ok (.aload_n 0, 1) := by decide +kernel
theorem dX12_digitIn_5 : decode cX12_digitIn 5 = .ok (.getfield 151, 3) := by decide +kernel
theorem dX12_digitIn_8 : decode cX12_digitIn 8 = .ok (.if_icmp .ge 26, 3) := by decide +kernel
theorem dX12_digitIn_11 : decode cX12_digitIn 11 = .ok (.aload_n 0, 1) := by decide +kernel
theorem dX12_digitIn_12 : decode cX12_digitIn 12 = .ok (.getfield 37, 3) := by decide +kernel
theorem dX12_digitIn_15 : decode cX12_digitIn 15 = .ok (.aload_n 0, 1) := by decide +kernel
theorem dX12_digitIn_16 : decode cX12_digitIn 16 = .ok (.getfield 139, 3) := by decide +kernel
theorem dX12_digitIn_19 : decode cX12_digitIn 19 = .ok (.iaload, 1) := by decide +kernel
theorem dX12_digitIn_20 : decode cX12_digitIn 20 = .ok (.bipush 48, 2) := by decide +kernel
theorem dX12_digitIn_22 : decode cX12_digitIn 22 = .ok (.isub, 1) := by decide +kernel
theorem dX12_digitIn_23 : decode cX12_digitIn 23 = .ok (.i2l, 1) := by decide +kernel
theorem dX12_digitIn_24 : decode cX12_digitIn 24 = .ok (.iload_n 1, 1) := by decide +kernel
theorem dX12_digitIn_25 : decode cX12_digitIn 25 = .ok (.i2l, 1) := by decide +kernel
theorem dX12_digitIn_26 : decode cX12_digitIn 26 = .ok (.iload_n 2, 1) := by decide +kernel
theorem dX12_digitIn_27 : decode cX12_digitIn 27 = .ok (.i2l, 1) := by decide +kernel
theorem dX12_digitIn_28 : decode cX12_digitIn 28 = .ok (.invokestatic 125, 3) := by decide +kernel
theorem dX12_digitIn_31 : decode cX12_digitIn 31 = .ok (.ifCond .ne 5, 3) := by decide +kernel
theorem dX12_digitIn_34 : decode cX12_digitIn 34 = .ok (.iconst (-1), 1) := by decide +kernel
theorem dX12_digitIn_35 : decode cX12_digitIn 35 = .ok (.ireturn, 1) := by decide +kernel
theorem dX12_digitIn_36 : decode cX12_digitIn 36 = .ok (.aload_n 0, 1) := by decide +kernel
theorem dX12_digitIn_37 : decode cX12_digitIn 37 = .ok (.dup, 1) := by decide +kernel
theorem dX12_digitIn_38 : decode cX12_digitIn 38 = .ok (.getfield 139, 3) := by decide +kernel
theorem dX12_digitIn_41 : decode cX12_digitIn 41 = .ok (.iconst 1, 1) := by decide +kernel
theorem dX12_digitIn_42 : decode cX12_digitIn 42 = .ok (.iadd, 1) := by decide +kernel
theorem dX12_digitIn_43 : decode cX12_digitIn 43 = .ok (.putfield 139, 3) := by decide +kernel
theorem dX12_digitIn_46 : decode cX12_digitIn 46 = .ok (.aload_n 0, 1) := by decide +kernel
theorem dX12_digitIn_47 : decode cX12_digitIn 47 = .ok (.getfield 37, 3) := by decide +kernel
theorem dX12_digitIn_50 : decode cX12_digitIn 50 = .ok (.aload_n 0, 1) := by decide +kernel
theorem dX12_digitIn_51 : decode cX12_digitIn 51 = .ok (.getfield 139, 3) := by decide +kernel
theorem dX12_digitIn_54 : decode cX12_digitIn 54 = .ok (.iconst 1, 1) := by decide +kernel
theorem dX12_digitIn_55 : decode cX12_digitIn 55 = .ok (.isub, 1) := by decide +kernel
theorem dX12_digitIn_56 : decode cX12_digitIn 56 = .ok (.iaload, 1) := by decide +kernel
theorem dX12_digitIn_57 : decode cX12_digitIn 57 = .ok (.bipush 48, 2) := by decide +kernel
theorem dX12_digitIn_59 : decode cX12_digitIn 59 = .ok (.isub, 1) := by decide +kernel
theorem dX12_digitIn_60 : decode cX12_digitIn 60 = .ok (.ireturn, 1) := by decide +kernel
theorem dX12_faultOf_0 : decode cX12_faultOf 0 = .ok (.iload_n 3, 1) := by decide +kernel
theorem dX12_faultOf_1 : decode cX12_faultOf 1 = .ok (.ifCond .eq 18, 3) := by decide +kernel
theorem dX12_faultOf_4 : decode cX12_faultOf 4 = .ok (.aload_n 0, 1) := by decide +kernel
theorem dX12_faultOf_5 : decode cX12_faultOf 5 = .ok (.getfield 139, 3) := by decide +kernel
theorem dX12_faultOf_8 : decode cX12_faultOf 8 = .ok (.aload_n 0, 1) := by decide +kernel
theorem dX12_faultOf_9 : decode cX12_faultOf 9 = .ok (.getfield 151, 3) := by decide +kernel
theorem dX12_faultOf_12 : decode cX12_faultOf 12 = .ok (.if_icmp .ne 7, 3) := by decide +kernel
theorem dX12_faultOf_15 : decode cX12_faultOf 15 = .ok (.iconst 1, 1) := by decide +kernel
theorem dX12_faultOf_16 : decode cX12_faultOf 16 = .ok (.goto 4, 3) := by decide +kernel
theorem dX12_faultOf_19 : decode cX12_faultOf 19 = .ok (.iconst 0, 1) := by decide +kernel
theorem dX12_faultOf_20 : decode cX12_faultOf 20 = .ok (.istore 4, 2) := by decide +kernel
theorem dX12_faultOf_22 : decode cX12_faultOf 22 = .ok (.iload_n 1, 1) := by decide +kernel
theorem dX12_faultOf_23 : decode cX12_faultOf 23 = .ok (.iload_n 2, 1) := by decide +kernel
theorem dX12_faultOf_24 : decode cX12_faultOf 24 = .ok (.if_icmp .le 20, 3) := by decide +kernel
theorem dX12_faultOf_27 : decode cX12_faultOf 27 = .ok (.iload 4, 2) := by decide +kernel
theorem dX12_faultOf_29 : decode cX12_faultOf 29 = .ok (.ifCond .ne 11, 3) := by decide +kernel
