theorem dX12_misleads_115 : decode cX12_misleads 115 = .ok (.iadd, 1) := by decide +kernel
theorem dX12_misleads_116 : decode cX12_misleads 116 = .ok (.iaload, 1) := by decide +kernel
theorem dX12_misleads_117 : decode cX12_misleads 117 = .ok (.iastore, 1) := by decide +kernel
theorem dX12_misleads_118 : decode cX12_misleads 118 = .ok (.iinc 5 1, 3) := by decide +kernel
theorem dX12_misleads_121 : decode cX12_misleads 121 = .ok (.goto (-63), 3) := by decide +kernel
theorem dX12_misleads_124 : decode cX12_misleads 124 = .ok (.aload_n 0, 1) := by decide +kernel
theorem dX12_misleads_125 : decode cX12_misleads 125 = .ok (.invokevirtual 401, 3) := by decide +kernel
theorem dX12_misleads_128 : decode cX12_misleads 128 = .ok (.aload_n 0, 1) := by decide +kernel
theorem dX12_misleads_129 : decode cX12_misleads 129 = .ok (.iload 4, 2) := by decide +kernel
theorem dX12_misleads_131 : decode cX12_misleads 131 = .ok (.invokevirtual 305, 3) := by decide +kernel
theorem dX12_misleads_134 : decode cX12_misleads 134 = .ok (.iconst (-1), 1) := by decide +kernel
theorem dX12_misleads_135 : decode cX12_misleads 135 = .ok (.ixor, 1) := by decide +kernel
theorem dX12_misleads_136 : decode cX12_misleads 136 = .ok (.iand, 1) := by decide +kernel
theorem dX12_misleads_137 : decode cX12_misleads 137 = .ok (.invokestatic 279, 3) := by decide +kernel
theorem dX12_misleads_140 : decode cX12_misleads 140 = .ok (.istore 5, 2) := by decide +kernel
theorem dX12_misleads_142 : decode cX12_misleads 142 = .ok (.iload 5, 2) := by decide +kernel
theorem dX12_misleads_144 : decode cX12_misleads 144 = .ok (.iload_n 3, 1) := by decide +kernel
theorem dX12_misleads_145 : decode cX12_misleads 145 = .ok (.if_icmp .le 8, 3) := by decide +kernel
theorem dX12_misleads_148 : decode cX12_misleads 148 = .ok (.iload 4, 2) := by decide +kernel
theorem dX12_misleads_150 : decode cX12_misleads 150 = .ok (.goto 4, 3) := by decide +kernel
theorem dX12_misleads_153 : decode cX12_misleads 153 = .ok (.iload_n 2, 1) := by decide +kernel
theorem dX12_misleads_154 : decode cX12_misleads 154 = .ok (.istore_n 2, 1) := by decide +kernel
theorem dX12_misleads_155 : decode cX12_misleads 155 = .ok (.iload_n 3, 1) := by decide +kernel
theorem dX12_misleads_156 : decode cX12_misleads 156 = .ok (.iload 5, 2) := by decide +kernel
theorem dX12_misleads_158 : decode cX12_misleads 158 = .ok (.invokestatic 287, 3) := by decide +kernel
theorem dX12_misleads_161 : decode cX12_misleads 161 = .ok (.istore_n 3, 1) := by decide +kernel
theorem dX12_misleads_162 : decode cX12_misleads 162 = .ok (.iinc 4 1, 3) := by decide +kernel
theorem dX12_misleads_165 : decode cX12_misleads 165 = .ok (.goto (-143), 3) := by decide +kernel
theorem dX12_misleads_168 : decode cX12_misleads 168 = .ok (.iload_n 2, 1) := by decide +kernel
theorem dX12_misleads_169 : decode cX12_misleads 169 = .ok (.ifCond .lt 31, 3) := by decide +kernel
theorem dX12_misleads_172 : decode cX12_misleads 172 = .ok (.aload_n 0, 1) := by decide +kernel
theorem dX12_misleads_173 : decode cX12_misleads 173 = .ok (.iconst 0, 1) := by decide +kernel
theorem dX12_misleads_174 : decode cX12_misleads 174 = .ok (.putfield 119, 3) := by decide +kernel
theorem dX12_misleads_177 : decode cX12_misleads 177 = .ok (.aload_n 0, 1) := by decide +kernel
theorem dX12_misleads_178 : decode cX12_misleads 178 = .ok (.iload_n 3, 1) := by decide +kernel
theorem dX12_misleads_179 : decode cX12_misleads 179 = .ok (.i2l, 1) := by decide +kernel
theorem dX12_misleads_180 : decode cX12_misleads 180 = .ok (.invokevirtual 358, 3) := by decide +kernel
theorem dX12_misleads_183 : decode cX12_misleads 183 = .ok (.aload_n 0, 1) := by decide +kernel
theorem dX12_misleads_184 : decode cX12_misleads 184 = .ok (.iload_n 1, 1) := by decide +kernel
theorem dX12_misleads_185 : decode cX12_misleads 185 = .ok (.aload_n 0, 1) := by decide +kernel
theorem dX12_misleads_186 : decode cX12_misleads 186 = .ok (.iload_n 2, 1) := by decide +kernel
theorem dX12_misleads_187 : decode cX12_misleads 187 = .ok (.invokevirtual 305, 3) := by decide +kernel
theorem dX12_misleads_190 : decode cX12_misleads 190 = .ok (.iconst (-1), 1) := by decide +kernel
theorem dX12_misleads_191 : decode cX12_misleads 191 = .ok (.ixor, 1) := by decide +kernel
theorem dX12_misleads_192 : decode cX12_misleads 192 = .ok (.iand, 1) := by decide +kernel
theorem dX12_misleads_193 : decode cX12_misleads 193 = .ok (.invokestatic 279, 3) := by decide +kernel
theorem dX12_misleads_196 : decode cX12_misleads 196 = .ok (.i2l, 1) := by decide +kernel
theorem dX12_misleads_197 : decode cX12_misleads 197 = .ok (.invokevirtual 358, 3) := by decide +kernel
theorem dX12_misleads_200 : decode cX12_misleads 200 = .ok (.iload_n 2, 1) := by decide +kernel
theorem dX12_misleads_201 : decode cX12_misleads 201 = .ok (.ireturn, 1) := by decide +kernel
theorem dX12_crowd_0 : decode cX12_crowd 0 = .ok (.aload_n 0, 1) := by decide +kernel
theorem dX12_crowd_1 : decode cX12_crowd 1 = .ok (.iconst 0, 1) := by decide +kernel
theorem dX12_crowd_2 : decode cX12_crowd 2 = .ok (.putfield 112, 3) := by decide +kernel
theorem dX12_crowd_5 : decode cX12_crowd 5 = .ok (.aload_n 0, 1) := by decide +kernel
theorem dX12_crowd_6 : decode cX12_crowd 6 = .ok (.getfield 122, 3) := by decide +kernel
theorem dX12_crowd_9 : decode cX12_crowd 9 = .ok (.ifCond .ne 6, 3) := by decide +kernel
theorem dX12_crowd_12 : decode cX12_crowd 12 = .ok (.bipush (-2), 2) := by decide +kernel
theorem dX12_crowd_14 : decode cX12_crowd 14 = .ok (.ireturn, 1) := by decide +kernel
theorem dX12_crowd_15 : decode cX12_crowd 15 = .ok (.aload_n 0, 1) := by decide +kernel
theorem dX12_crowd_16 : decode cX12_crowd 16 = .ok (.invokevirtual 390, 3) := by decide +kernel
theorem dX12_crowd_19 : decode cX12_crowd 19 = .ok (.aload_n 0, 1) := by decide +kernel
theorem dX12_crowd_20 : decode cX12_crowd 20 = .ok (.aload_n 0, 1) := by decide +kernel
theorem dX12_crowd_21 : decode cX12_crowd 21 = .ok (.getfield 34, 3) := by decide +kernel
theorem dX12_crowd_24 : decode cX12_crowd 24 = .ok (.sipush 200, 3) := by decide +kernel
theorem dX12_crowd_27 : decode cX12_crowd 27 = .ok (.invokevirtual 355, 3) := by decide +kernel
theorem dX12_crowd_30 : decode cX12_crowd 30 = .ok (.iconst 0, 1) := by decide +kernel
theorem dX12_crowd_31 : decode cX12_crowd 31 = .ok (.istore_n 1, 1) := by decide +kernel
theorem dX12_crowd_32 : decode cX12_crowd 32 = .ok (.iconst 1, 1) := by decide +kernel
theorem dX12_crowd_33 : decode cX12_crowd 33 = .ok (.istore_n 2, 1) := by decide +kernel
theorem dX12_crowd_34 : decode cX12_crowd 34 = .ok (.iload_n 2, 1) := by decide +kernel
theorem dX12_crowd_35 : decode cX12_crowd 35 = .ok (.aload_n 0, 1) := by decide +kernel
theorem dX12_crowd_36 : decode cX12_crowd 36 = .ok (.getfield 122, 3) := by decide +kernel
theorem dX12_crowd_39 : decode cX12_crowd 39 = .ok (.if_icmp .ge 46, 3) := by decide +kernel
theorem dX12_crowd_42 : decode cX12_crowd 42 = .ok (.aload_n 0, 1) := by decide +kernel
theorem dX12_crowd_43 : decode cX12_crowd 43 = .ok (.aload_n 0, 1) := by decide +kernel
theorem dX12_crowd_44 : decode cX12_crowd 44 = .ok (.getfield 34, 3) := by decide +kernel
theorem dX12_crowd_47 : decode cX12_crowd 47 = .ok (.bipush 29, 2) := by decide +kernel
theorem dX12_crowd_49 : decode cX12_crowd 49 = .ok (.iload_n 2, 1) := by decide +kernel
theorem dX12_crowd_50 : decode cX12_crowd 50 = .ok (.invokevirtual 275, 3) := by decide +kernel
theorem dX12_crowd_53 : decode cX12_crowd 53 = .ok (.invokestatic 279, 3) := by decide +kernel
theorem dX12_crowd_56 : decode cX12_crowd 56 = .ok (.aload_n 0, 1) := by decide +kernel
theorem dX12_crowd_57 : decode cX12_crowd 57 = .ok (.aload_n 0, 1) := by decide +kernel
theorem dX12_crowd_58 : decode cX12_crowd 58 = .ok (.getfield 34, 3) := by decide +kernel
theorem dX12_crowd_61 : decode cX12_crowd 61 = .ok (.bipush 29, 2) := by decide +kernel
theorem dX12_crowd_63 : decode cX12_crowd 63 = .ok (.iload_n 1, 1) := by decide +kernel
theorem dX12_crowd_64 : decode cX12_crowd 64 = .ok (.invokevirtual 275, 3) := by decide +kernel
theorem dX12_crowd_67 : decode cX12_crowd 67 = .ok (.invokestatic 279, 3) := by decide +kernel
theorem dX12_crowd_70 : decode cX12_crowd 70 = .ok (.if_icmp .le 7, 3) := by decide +kernel
theorem dX12_crowd_73 : decode cX12_crowd 73 = .ok (.iload_n 2, 1) := by decide +kernel
theorem dX12_crowd_74 : decode cX12_crowd 74 = .ok (.goto 4, 3) := by decide +kernel
theorem dX12_crowd_77 : decode cX12_crowd 77 = .ok (.iload_n 1, 1) := by decide +kernel
theorem dX12_crowd_78 : decode cX12_crowd 78 = .ok (.istore_n 1, 1) := by decide +kernel
theorem dX12_crowd_79 : decode cX12_crowd 79 = .ok (.iinc 2 1, 3) := by decide +kernel
theorem dX12_crowd_82 : decode cX12_crowd 82 = .ok (.goto (-48), 3) := by decide +kernel
theorem dX12_crowd_85 : decode cX12_crowd 85 = .ok (.aload_n 0, 1) := by decide +kernel
theorem dX12_crowd_86 : decode cX12_crowd 86 = .ok (.aload_n 0, 1) := by decide +kernel
theorem dX12_crowd_87 : decode cX12_crowd 87 = .ok (.getfield 34, 3) := by decide +kernel
theorem dX12_crowd_90 : decode cX12_crowd 90 = .ok (.bipush 29, 2) := by decide +kernel
theorem dX12_crowd_92 : decode cX12_crowd 92 = .ok (.iload_n 1, 1) := by decide +kernel
theorem dX12_crowd_93 : decode cX12_crowd 93 = .ok (.invokevirtual 275, 3) := by decide +kernel
theorem dX12_crowd_96 : decode cX12_crowd 96 = .ok (.istore_n 2, 1) := by decide +kernel
theorem dX12_crowd_97 : decode cX12_crowd 97 = .ok (.aload_n 0, 1) := by decide +kernel
theorem dX12_crowd_98 : decode cX12_crowd 98 = .ok (.iconst 0, 1) := by decide +kernel
theorem dX12_crowd_99 : decode cX12_crowd 99 = .ok (.putfield 119, 3) := by decide +kernel
theorem dX12_crowd_102 : decode cX12_crowd 102 = .ok (.aload_n 0, 1) := by decide +kernel
theorem dX12_crowd_103 : decode cX12_crowd 103 = .ok (.iload_n 2, 1) := by decide +kernel
theorem dX12_crowd_104 : decode cX12_crowd 104 = .ok (.invokestatic 279, 3) := by decide +kernel
theorem dX12_crowd_107 : decode cX12_crowd 107 = .ok (.i2l, 1) := by decide +kernel
theorem dX12_crowd_108 : decode cX12_crowd 108 = .ok (.invokevirtual 358, 3) := by decide +kernel
theorem dX12_crowd_111 : decode cX12_crowd 111 = .ok (.aload_n 0, 1) := by decide +kernel
theorem dX12_crowd_112 : decode cX12_crowd 112 = .ok (.iload_n 2, 1) := by decide +kernel
theorem dX12_crowd_113 : decode cX12_crowd 113 = .ok (.aload_n 0, 1) := by decide +kernel
theorem dX12_crowd_114 : decode cX12_crowd 114 = .ok (.iload_n 1, 1) := by decide +kernel
theorem dX12_crowd_115 : decode cX12_crowd 115 = .ok (.invokevirtual 305, 3) := by decide +kernel
theorem dX12_crowd_118 : decode cX12_crowd 118 = .ok (.iand, 1) := by decide +kernel
theorem dX12_crowd_119 : decode cX12_crowd 119 = .ok (.invokestatic 279, 3) := by decide +kernel
theorem dX12_crowd_122 : decode cX12_crowd 122 = .ok (.i2l, 1) := by decide +kernel
theorem dX12_crowd_123 : decode cX12_crowd 123 = .ok (.invokevirtual 358, 3) := by decide +kernel
theorem dX12_crowd_126 : decode cX12_crowd 126 = .ok (.iload_n 1, 1) := by decide +kernel
theorem dX12_crowd_127 : decode cX12_crowd 127 = .ok (.ireturn, 1) := by decide +kernel
theorem dX12_sharesFrom_0 : decode cX12_sharesFrom 0 = .ok (.iload_n 1, 1) := by decide +kernel
theorem dX12_sharesFrom_1 : decode cX12_sharesFrom 1 = .ok (.aload_n 0, 1) := by decide +kernel
theorem dX12_sharesFrom_2 : decode cX12_sharesFrom 2 = .ok (.getfield 129, 3) := by decide +kernel
theorem dX12_sharesFrom_5 : decode cX12_sharesFrom 5 = .ok (.if_icmp .ne 49, 3) := by decide +kernel
theorem dX12_sharesFrom_8 : decode cX12_sharesFrom 8 = .ok (.iload_n 3, 1) := by decide +kernel
theorem dX12_sharesFrom_9 : decode cX12_sharesFrom 9 = .ok (.aload_n 0, 1) := by decide +kernel
theorem dX12_sharesFrom_10 : decode cX12_sharesFrom 10 = .ok (.getfield 404, 3) := by decide +kernel
theorem dX12_sharesFrom_13 : decode cX12_sharesFrom 13 = .ok (.if_icmp .le 40, 3) := by decide +kernel
theorem dX12_sharesFrom_16 : decode cX12_sharesFrom 16 = .ok (.aload_n 0, 1) := by decide +kernel
theorem dX12_sharesFrom_17 : decode cX12_sharesFrom 17 = .ok (.iload_n 3, 1) := by decide +kernel
theorem dX12_sharesFrom_18 : decode cX12_sharesFrom 18 = .ok (.putfield 404, 3) := by decide +kernel
theorem dX12_sharesFrom_21 : decode cX12_sharesFrom 21 = .ok (.iconst 0, 1) := by decide +kernel
theorem dX12_sharesFrom_22 : decode cX12_sharesFrom 22 = .ok (.istore 5, 2) := by decide +kernel
theorem dX12_sharesFrom_24 : decode cX12_sharesFrom 24 = .ok (.iload 5, 2) := by decide +kernel
theorem dX12_sharesFrom_26 : decode cX12_sharesFrom 26 = .ok (.aload_n 0, 1) := by decide +kernel
theorem dX12_sharesFrom_27 : decode cX12_sharesFrom 27 = .ok (.getfield 129, 3) := by decide +kernel
theorem dX12_sharesFrom_30 : decode cX12_sharesFrom 30 = .ok (.if_icmp .ge 23, 3) := by decide +kernel
theorem dX12_sharesFrom_33 : decode cX12_sharesFrom 33 = .ok (.aload_n 0, 1) := by decide +kernel
theorem dX12_sharesFrom_34 : decode cX12_sharesFrom 34 = .ok (.getfield 91, 3) := by decide +kernel
theorem dX12_sharesFrom_37 : decode cX12_sharesFrom 37 = .ok (.iload 5, 2) := by decide +kernel
theorem dX12_sharesFrom_39 : decode cX12_sharesFrom 39 = .ok (.aload_n 0, 1) := by decide +kernel
theorem dX12_sharesFrom_40 : decode cX12_sharesFrom 40 = .ok (.getfield 88, 3) := by decide +kernel
theorem dX12_sharesFrom_43 : decode cX12_sharesFrom 43 = .ok (.iload 5, 2) := by decide +kernel
theorem dX12_sharesFrom_45 : decode cX12_sharesFrom 45 = .ok (.iaload, 1) := by decide +kernel
theorem dX12_sharesFrom_46 : decode cX12_sharesFrom 46 = .ok (.iastore, 1) := by decide +kernel
theorem dX12_sharesFrom_47 : decode cX12_sharesFrom 47 = .ok (.iinc 5 1, 3) := by decide +kernel
theorem dX12_sharesFrom_50 : decode cX12_sharesFrom 50 = .ok (.goto (-26), 3) := by decide +kernel
theorem dX12_sharesFrom_53 : decode cX12_sharesFrom 53 = .ok (.return_, 1) := by decide +kernel
theorem dX12_sharesFrom_54 : decode cX12_sharesFrom 54 = .ok (.iload_n 3, 1) := by decide +kernel
theorem dX12_sharesFrom_55 : decode cX12_sharesFrom 55 = .ok (.aload_n 0, 1) := by decide +kernel
theorem dX12_sharesFrom_56 : decode cX12_sharesFrom 56 = .ok (.getfield 129, 3) := by decide +kernel
theorem dX12_sharesFrom_59 : decode cX12_sharesFrom 59 = .ok (.iadd, 1) := by decide +kernel
theorem dX12_sharesFrom_60 : decode cX12_sharesFrom 60 = .ok (.iload_n 1, 1) := by decide +kernel
theorem dX12_sharesFrom_61 : decode cX12_sharesFrom 61 = .ok (.isub, 1) := by decide +kernel
theorem dX12_sharesFrom_62 : decode cX12_sharesFrom 62 = .ok (.aload_n 0, 1) := by decide +kernel
theorem dX12_sharesFrom_63 : decode cX12_sharesFrom 63 = .ok (.getfield 404, 3) := by decide +kernel
theorem dX12_sharesFrom_66 : decode cX12_sharesFrom 66 = .ok (.if_icmp .gt 4, 3) := by decide +kernel
theorem dX12_sharesFrom_69 : decode cX12_sharesFrom 69 = .ok (.return_, 1) := by decide +kernel
theorem dX12_sharesFrom_70 : decode cX12_sharesFrom 70 = .ok (.aload_n 0, 1) := by decide +kernel
theorem dX12_sharesFrom_71 : decode cX12_sharesFrom 71 = .ok (.getfield 88, 3) := by decide +kernel
theorem dX12_sharesFrom_74 : decode cX12_sharesFrom 74 = .ok (.iload_n 1, 1) := by decide +kernel
theorem dX12_sharesFrom_75 : decode cX12_sharesFrom 75 = .ok (.iconst (-1), 1) := by decide +kernel
theorem dX12_sharesFrom_76 : decode cX12_sharesFrom 76 = .ok (.iastore, 1) := by decide +kernel
theorem dX12_sharesFrom_77 : decode cX12_sharesFrom 77 = .ok (.aload_n 0, 1) := by decide +kernel
theorem dX12_sharesFrom_78 : decode cX12_sharesFrom 78 = .ok (.iload_n 1, 1) := by decide +kernel
theorem dX12_sharesFrom_79 : decode cX12_sharesFrom 79 = .ok (.iconst 1, 1) := by decide +kernel
theorem dX12_sharesFrom_80 : decode cX12_sharesFrom 80 = .ok (.iadd, 1) := by decide +kernel
theorem dX12_sharesFrom_81 : decode cX12_sharesFrom 81 = .ok (.iload_n 2, 1) := by decide +kernel
theorem dX12_sharesFrom_82 : decode cX12_sharesFrom 82 = .ok (.iload_n 3, 1) := by decide +kernel
theorem dX12_sharesFrom_83 : decode cX12_sharesFrom 83 = .ok (.iload 4, 2) := by decide +kernel
theorem dX12_sharesFrom_85 : decode cX12_sharesFrom 85 = .ok (.invokevirtual 417, 3) := by decide +kernel
theorem dX12_sharesFrom_88 : decode cX12_sharesFrom 88 = .ok (.iconst 0, 1) := by decide +kernel
theorem dX12_sharesFrom_89 : decode cX12_sharesFrom 89 = .ok (.istore 5, 2) := by decide +kernel
theorem dX12_sharesFrom_91 : decode cX12_sharesFrom 91 = .ok (.iload 5, 2) := by decide +kernel
theorem dX12_sharesFrom_93 : decode cX12_sharesFrom 93 = .ok (.aload_n 0, 1) := by decide +kernel
theorem dX12_sharesFrom_94 : decode cX12_sharesFrom 94 = .ok (.getfield 122, 3) := by decide +kernel
theorem dX12_sharesFrom_97 : decode cX12_sharesFrom 97 = .ok (.if_icmp .ge 92, 3) := by decide +kernel
theorem dX12_sharesFrom_100 : decode cX12_sharesFrom 100 = .ok (.aload_n 0, 1) := by decide +kernel
theorem dX12_sharesFrom_101 : decode cX12_sharesFrom 101 = .ok (.getfield 31, 3) := by decide +kernel
theorem dX12_sharesFrom_104 : decode cX12_sharesFrom 104 = .ok (.iload_n 1, 1) := by decide +kernel
theorem dX12_sharesFrom_105 : decode cX12_sharesFrom 105 = .ok (.invokestatic 132, 3) := by decide +kernel
theorem dX12_sharesFrom_108 : decode cX12_sharesFrom 108 = .ok (.ifCond .ne 81, 3) := by decide +kernel
theorem dX12_sharesFrom_111 : decode cX12_sharesFrom 111 = .ok (.iload_n 2, 1) := by decide +kernel
theorem dX12_sharesFrom_112 : decode cX12_sharesFrom 112 = .ok (.iload 5, 2) := by decide +kernel
theorem dX12_sharesFrom_114 : decode cX12_sharesFrom 114 = .ok (.invokestatic 411, 3) := by decide +kernel
theorem dX12_sharesFrom_117 : decode cX12_sharesFrom 117 = .ok (.ifCond .ne 66, 3) := by decide +kernel
theorem dX12_sharesFrom_120 : decode cX12_sharesFrom 120 = .ok (.aload_n 0, 1) := by decide +kernel
theorem dX12_sharesFrom_121 : decode cX12_sharesFrom 121 = .ok (.getfield 31, 3) := by decide +kernel
theorem dX12_sharesFrom_124 : decode cX12_sharesFrom 124 = .ok (.iload 5, 2) := by decide +kernel
theorem dX12_sharesFrom_126 : decode cX12_sharesFrom 126 = .ok (.invokestatic 266, 3) := by decide +kernel
theorem dX12_sharesFrom_129 : decode cX12_sharesFrom 129 = .ok (.ifCond .eq 54, 3) := by decide +kernel
theorem dX12_sharesFrom_132 : decode cX12_sharesFrom 132 = .ok (.aload_n 0, 1) := by decide +kernel
theorem dX12_sharesFrom_133 : decode cX12_sharesFrom 133 = .ok (.getfield 31, 3) := by decide +kernel
theorem dX12_sharesFrom_136 : decode cX12_sharesFrom 136 = .ok (.iload 5, 2) := by decide +kernel
theorem dX12_sharesFrom_138 : decode cX12_sharesFrom 138 = .ok (.iaload, 1) := by decide +kernel
theorem dX12_sharesFrom_139 : decode cX12_sharesFrom 139 = .ok (.aload_n 0, 1) := by decide +kernel
theorem dX12_sharesFrom_140 : decode cX12_sharesFrom 140 = .ok (.getfield 31, 3) := by decide +kernel
theorem dX12_sharesFrom_143 : decode cX12_sharesFrom 143 = .ok (.bipush 13, 2) := by decide +kernel
theorem dX12_sharesFrom_145 : decode cX12_sharesFrom 145 = .ok (.iload_n 1, 1) := by decide +kernel
theorem dX12_sharesFrom_146 : decode cX12_sharesFrom 146 = .ok (.iadd, 1) := by decide +kernel
theorem dX12_sharesFrom_147 : decode cX12_sharesFrom 147 = .ok (.iaload, 1) := by decide +kernel
theorem dX12_sharesFrom_148 : decode cX12_sharesFrom 148 = .ok (.isub, 1) := by decide +kernel
theorem dX12_sharesFrom_149 : decode cX12_sharesFrom 149 = .ok (.invokestatic 290, 3) := by decide +kernel
theorem dX12_sharesFrom_152 : decode cX12_sharesFrom 152 = .ok (.iload 4, 2) := by decide +kernel
theorem dX12_sharesFrom_154 : decode cX12_sharesFrom 154 = .ok (.if_icmp .gt 29, 3) := by decide +kernel
theorem dX12_sharesFrom_157 : decode cX12_sharesFrom 157 = .ok (.aload_n 0, 1) := by decide +kernel
theorem dX12_sharesFrom_158 : decode cX12_sharesFrom 158 = .ok (.getfield 88, 3) := by decide +kernel
theorem dX12_sharesFrom_161 : decode cX12_sharesFrom 161 = .ok (.iload_n 1, 1) := by decide +kernel
theorem dX12_sharesFrom_162 : decode cX12_sharesFrom 162 = .ok (.iload 5, 2) := by decide +kernel
theorem dX12_sharesFrom_164 : decode cX12_sharesFrom 164 = .ok (.iastore, 1) := by decide +kernel
theorem dX12_sharesFrom_165 : decode cX12_sharesFrom 165 = .ok (.aload_n 0, 1) := by decide +kernel
theorem dX12_sharesFrom_166 : decode cX12_sharesFrom 166 = .ok (.iload_n 1, 1) := by decide +kernel
theorem dX12_sharesFrom_167 : decode cX12_sharesFrom 167 = .ok (.iconst 1, 1) := by decide +kernel
theorem dX12_sharesFrom_168 : decode cX12_sharesFrom 168 = .ok (.iadd, 1) := by decide +kernel
theorem dX12_sharesFrom_169 : decode cX12_sharesFrom 169 = .ok (.iload_n 2, 1) := by decide +kernel
theorem dX12_sharesFrom_170 : decode cX12_sharesFrom 170 = .ok (.iconst 1, 1) := by decide +kernel
theorem dX12_sharesFrom_171 : decode cX12_sharesFrom 171 = .ok (.iload 5, 2) := by decide +kernel
theorem dX12_sharesFrom_173 : decode cX12_sharesFrom 173 = .ok (.ishl, 1) := by decide +kernel
theorem dX12_sharesFrom_174 : decode cX12_sharesFrom 174 = .ok (.ior, 1) := by decide +kernel
theorem dX12_sharesFrom_175 : decode cX12_sharesFrom 175 = .ok (.iload_n 3, 1) := by decide +kernel
theorem dX12_sharesFrom_176 : decode cX12_sharesFrom 176 = .ok (.iconst 1, 1) := by decide +kernel
theorem dX12_sharesFrom_177 : decode cX12_sharesFrom 177 = .ok (.iadd, 1) := by decide +kernel
theorem dX12_sharesFrom_178 : decode cX12_sharesFrom 178 = .ok (.iload 4, 2) := by decide +kernel
theorem dX12_sharesFrom_180 : decode cX12_sharesFrom 180 = .ok (.invokevirtual 417, 3) := by decide +kernel
theorem dX12_sharesFrom_183 : decode cX12_sharesFrom 183 = .ok (.iinc 5 1, 3) := by decide +kernel
theorem dX12_sharesFrom_186 : decode cX12_sharesFrom 186 = .ok (.goto (-95), 3) := by decide +kernel
theorem dX12_sharesFrom_189 : decode cX12_sharesFrom 189 = .ok (.return_, 1) := by decide +kernel
theorem dX12_shares_0 : decode cX12_shares 0 = .ok (.aload_n 0, 1) := by decide +kernel
theorem dX12_shares_1 : decode cX12_shares 1 = .ok (.iconst 0, 1) := by decide +kernel
theorem dX12_shares_2 : decode cX12_shares 2 = .ok (.putfield 112, 3) := by decide +kernel
theorem dX12_shares_5 : decode cX12_shares 5 = .ok (.iload_n 1, 1) := by decide +kernel
theorem dX12_shares_6 : decode cX12_shares 6 = .ok (.i2l, 1) := by decide +kernel
theorem dX12_shares_7 : decode cX12_shares 7 = .ok (.lconst 0, 1) := by decide +kernel
theorem dX12_shares_8 : decode cX12_shares 8 = .ok (.ldc2_w 421, 3) := by decide +kernel
theorem dX12_shares_11 : decode cX12_shares 11 = .ok (.invokestatic 125, 3) := by decide +kernel
theorem dX12_shares_14 : decode cX12_shares 14 = .ok (.ifCond .ne 5, 3) := by decide +kernel
theorem dX12_shares_17 : decode cX12_shares 17 = .ok (.iconst (-1), 1) := by decide +kernel
theorem dX12_shares_18 : decode cX12_shares 18 = .ok (.ireturn, 1) := by decide +kernel
theorem dX12_shares_19 : decode cX12_shares 19 = .ok (.aload_n 0, 1) := by decide +kernel
theorem dX12_shares_20 : decode cX12_shares 20 = .ok (.iconst (-1), 1) := by decide +kernel
theorem dX12_shares_21 : decode cX12_shares 21 = .ok (.putfield 404, 3) := by decide +kernel
theorem dX12_shares_24 : decode cX12_shares 24 = .ok (.aload_n 0, 1) := by decide +kernel
theorem dX12_shares_25 : decode cX12_shares 25 = .ok (.iconst 0, 1) := by decide +kernel
theorem dX12_shares_26 : decode cX12_shares 26 = .ok (.iconst 0, 1) := by decide +kernel
theorem dX12_shares_27 : decode cX12_shares 27 = .ok (.iconst 0, 1) := by decide +kernel
theorem dX12_shares_28 : decode cX12_shares 28 = .ok (.iload_n 1, 1) := by decide +kernel
theorem dX12_shares_29 : decode cX12_shares 29 = .ok (.invokevirtual 417, 3) := by decide +kernel
theorem dX12_shares_32 : decode cX12_shares 32 = .ok (.aload_n 0, 1) := by decide +kernel
theorem dX12_shares_33 : decode cX12_shares 33 = .ok (.iconst 0, 1) := by decide +kernel
theorem dX12_shares_34 : decode cX12_shares 34 = .ok (.putfield 119, 3) := by decide +kernel
theorem dX12_shares_37 : decode cX12_shares 37 = .ok (.iconst 0, 1) := by decide +kernel
theorem dX12_shares_38 : decode cX12_shares 38 = .ok (.istore_n 2, 1) := by decide +kernel
theorem dX12_shares_39 : decode cX12_shares 39 = .ok (.iload_n 2, 1) := by decide +kernel
theorem dX12_shares_40 : decode cX12_shares 40 = .ok (.aload_n 0, 1) := by decide +kernel
theorem dX12_shares_41 : decode cX12_shares 41 = .ok (.getfield 129, 3) := by decide +kernel
theorem dX12_shares_44 : decode cX12_shares 44 = .ok (.if_icmp .ge 20, 3) := by decide +kernel
theorem dX12_shares_47 : decode cX12_shares 47 = .ok (.aload_n 0, 1) := by decide +kernel
theorem dX12_shares_48 : decode cX12_shares 48 = .ok (.aload_n 0, 1) := by decide +kernel
theorem dX12_shares_49 : decode cX12_shares 49 = .ok (.getfield 91, 3) := by decide +kernel
theorem dX12_shares_52 : decode cX12_shares 52 = .ok (.iload_n 2, 1) := by decide +kernel
theorem dX12_shares_53 : decode cX12_shares 53 = .ok (.iaload, 1) := by decide +kernel
theorem dX12_shares_54 : decode cX12_shares 54 = .ok (.i2l, 1) := by decide +kernel
theorem dX12_shares_55 : decode cX12_shares 55 = .ok (.invokevirtual 358, 3) := by decide +kernel
theorem dX12_shares_58 : decode cX12_shares 58 = .ok (.iinc 2 1, 3) := by decide +kernel
theorem dX12_shares_61 : decode cX12_shares 61 = .ok (.goto (-22), 3) := by decide +kernel
theorem dX12_shares_64 : decode cX12_shares 64 = .ok (.aload_n 0, 1) := by decide +kernel
theorem dX12_shares_65 : decode cX12_shares 65 = .ok (.getfield 404, 3) := by decide +kernel
theorem dX12_shares_68 : decode cX12_shares 68 = .ok (.ireturn, 1) := by decide +kernel
theorem dX12_strangers_0 : decode cX12_strangers 0 = .ok (.aload_n 0, 1) := by decide +kernel
theorem dX12_strangers_1 : decode cX12_strangers 1 = .ok (.iconst 0, 1) := by decide +kernel
theorem dX12_strangers_2 : decode cX12_strangers 2 = .ok (.putfield 112, 3) := by decide +kernel
theorem dX12_strangers_5 : decode cX12_strangers 5 = .ok (.ldc_w 293, 3) := by decide +kernel
theorem dX12_strangers_8 : decode cX12_strangers 8 = .ok (.istore_n 1, 1) := by decide +kernel
theorem dX12_strangers_9 : decode cX12_strangers 9 = .ok (.iconst (-1), 1) := by decide +kernel
theorem dX12_strangers_10 : decode cX12_strangers 10 = .ok (.istore_n 2, 1) := by decide +kernel
theorem dX12_strangers_11 : decode cX12_strangers 11 = .ok (.iconst (-1), 1) := by decide +kernel
theorem dX12_strangers_12 : decode cX12_strangers 12 = .ok (.istore_n 3, 1) := by decide +kernel
theorem dX12_strangers_13 : decode cX12_strangers 13 = .ok (.iconst 0, 1) := by decide +kernel
theorem dX12_strangers_14 : decode cX12_strangers 14 = .ok (.istore 4, 2) := by decide +kernel
theorem dX12_strangers_16 : decode cX12_strangers 16 = .ok (.iload 4, 2) := by decide +kernel
theorem dX12_strangers_18 : decode cX12_strangers 18 = .ok (.aload_n 0, 1) := by decide +kernel
theorem dX12_strangers_19 : decode cX12_strangers 19 = .ok (.getfield 129, 3) := by decide +kernel
theorem dX12_strangers_22 : decode cX12_strangers 22 = .ok (.if_icmp .ge 112, 3) := by decide +kernel
theorem dX12_strangers_25 : decode cX12_strangers 25 = .ok (.iload 4, 2) := by decide +kernel
theorem dX12_strangers_27 : decode cX12_strangers 27 = .ok (.iconst 1, 1) := by decide +kernel
theorem dX12_strangers_28 : decode cX12_strangers 28 = .ok (.iadd, 1) := by decide +kernel
theorem dX12_strangers_29 : decode cX12_strangers 29 = .ok (.istore 5, 2) := by decide +kernel
theorem dX12_strangers_31 : decode cX12_strangers 31 = .ok (.iload 5, 2) := by decide +kernel
theorem dX12_strangers_33 : decode cX12_strangers 33 = .ok (.aload_n 0, 1) := by decide +kernel
theorem dX12_strangers_34 : decode cX12_strangers 34 = .ok (.getfield 129, 3) := by decide +kernel
theorem dX12_strangers_37 : decode cX12_strangers 37 = .ok (.if_icmp .ge 91, 3) := by decide +kernel
theorem dX12_strangers_40 : decode cX12_strangers 40 = .ok (.aload_n 0, 1) := by decide +kernel
theorem dX12_strangers_41 : decode cX12_strangers 41 = .ok (.getfield 31, 3) := by decide +kernel
theorem dX12_strangers_44 : decode cX12_strangers 44 = .ok (.bipush 13, 2) := by decide +kernel
theorem dX12_strangers_46 : decode cX12_strangers 46 = .ok (.iload 4, 2) := by decide +kernel
theorem dX12_strangers_48 : decode cX12_strangers 48 = .ok (.iadd, 1) := by decide +kernel
theorem dX12_strangers_49 : decode cX12_strangers 49 = .ok (.iaload, 1) := by decide +kernel
theorem dX12_strangers_50 : decode cX12_strangers 50 = .ok (.aload_n 0, 1) := by decide +kernel
theorem dX12_strangers_51 : decode cX12_strangers 51 = .ok (.getfield 31, 3) := by decide +kernel
theorem dX12_strangers_54 : decode cX12_strangers 54 = .ok (.bipush 13, 2) := by decide +kernel
theorem dX12_strangers_56 : decode cX12_strangers 56 = .ok (.iload 5, 2) := by decide +kernel
theorem dX12_strangers_58 : decode cX12_strangers 58 = .ok (.iadd, 1) := by decide +kernel
theorem dX12_strangers_59 : decode cX12_strangers 59 = .ok (.iaload, 1) := by decide +kernel
theorem dX12_strangers_60 : decode cX12_strangers 60 = .ok (.isub, 1) := by decide +kernel
theorem dX12_strangers_61 : decode cX12_strangers 61 = .ok (.invokestatic 290, 3) := by decide +kernel
theorem dX12_strangers_64 : decode cX12_strangers 64 = .ok (.istore 6, 2) := by decide +kernel
theorem dX12_strangers_66 : decode cX12_strangers 66 = .ok (.aload_n 0, 1) := by decide +kernel
theorem dX12_strangers_67 : decode cX12_strangers 67 = .ok (.getfield 24, 3) := by decide +kernel
theorem dX12_strangers_70 : decode cX12_strangers 70 = .ok (.iload 4, 2) := by decide +kernel
theorem dX12_strangers_72 : decode cX12_strangers 72 = .ok (.iaload, 1) := by decide +kernel
theorem dX12_strangers_73 : decode cX12_strangers 73 = .ok (.aload_n 0, 1) := by decide +kernel
theorem dX12_strangers_74 : decode cX12_strangers 74 = .ok (.getfield 24, 3) := by decide +kernel
theorem dX12_strangers_77 : decode cX12_strangers 77 = .ok (.iload 5, 2) := by decide +kernel
theorem dX12_strangers_79 : decode cX12_strangers 79 = .ok (.iaload, 1) := by decide +kernel
theorem dX12_strangers_80 : decode cX12_strangers 80 = .ok (.if_icmp .eq 42, 3) := by decide +kernel
theorem dX12_strangers_83 : decode cX12_strangers 83 = .ok (.aload_n 0, 1) := by decide +kernel
theorem dX12_strangers_84 : decode cX12_strangers 84 = .ok (.getfield 31, 3) := by decide +kernel
theorem dX12_strangers_87 : decode cX12_strangers 87 = .ok (.iload 4, 2) := by decide +kernel
theorem dX12_strangers_89 : decode cX12_strangers 89 = .ok (.invokestatic 132, 3) := by decide +kernel
theorem dX12_strangers_92 : decode cX12_strangers 92 = .ok (.ifCond .ne 30, 3) := by decide +kernel
theorem dX12_strangers_95 : decode cX12_strangers 95 = .ok (.aload_n 0, 1) := by decide +kernel
theorem dX12_strangers_96 : decode cX12_strangers 96 = .ok (.getfield 31, 3) := by decide +kernel
theorem dX12_strangers_99 : decode cX12_strangers 99 = .ok (.iload 5, 2) := by decide +kernel
theorem dX12_strangers_101 : decode cX12_strangers 101 = .ok (.invokestatic 132, 3) := by decide +kernel
theorem dX12_strangers_104 : decode cX12_strangers 104 = .ok (.ifCond .ne 18, 3) := by decide +kernel
theorem dX12_strangers_107 : decode cX12_strangers 107 = .ok (.iload 6, 2) := by decide +kernel
theorem dX12_strangers_109 : decode cX12_strangers 109 = .ok (.iload_n 1, 1) := by decide +kernel
theorem dX12_strangers_110 : decode cX12_strangers 110 = .ok (.if_icmp .ge 12, 3) := by decide +kernel
theorem dX12_strangers_113 : decode cX12_strangers 113 = .ok (.iload 6, 2) := by decide +kernel
theorem dX12_strangers_115 : decode cX12_strangers 115 = .ok (.istore_n 1, 1) := by decide +kernel
theorem dX12_strangers_116 : decode cX12_strangers 116 = .ok (.iload 4, 2) := by decide +kernel
theorem dX12_strangers_118 : decode cX12_strangers 118 = .ok (.istore_n 2, 1) := by decide +kernel
theorem dX12_strangers_119 : decode cX12_strangers 119 = .ok (.iload 5, 2) := by decide +kernel
theorem dX12_strangers_121 : decode cX12_strangers 121 = .ok (.istore_n 3, 1) := by decide +kernel
theorem dX12_strangers_122 : decode cX12_strangers 122 = .ok (.iinc 5 1, 3) := by decide +kernel
theorem dX12_strangers_125 : decode cX12_strangers 125 = .ok (.goto (-94), 3) := by decide +kernel
theorem dX12_strangers_128 : decode cX12_strangers 128 = .ok (.iinc 4 1, 3) := by decide +kernel
theorem dX12_strangers_131 : decode cX12_strangers 131 = .ok (.goto (-115), 3) := by decide +kernel
theorem dX12_strangers_134 : decode cX12_strangers 134 = .ok (.iload_n 2, 1) := by decide +kernel
theorem dX12_strangers_135 : decode cX12_strangers 135 = .ok (.ifCond .ge 6, 3) := by decide +kernel
theorem dX12_strangers_138 : decode cX12_strangers 138 = .ok (.bipush (-2), 2) := by decide +kernel
theorem dX12_strangers_140 : decode cX12_strangers 140 = .ok (.ireturn, 1) := by decide +kernel
theorem dX12_strangers_141 : decode cX12_strangers 141 = .ok (.aload_n 0, 1) := by decide +kernel
theorem dX12_strangers_142 : decode cX12_strangers 142 = .ok (.iconst 0, 1) := by decide +kernel
theorem dX12_strangers_143 : decode cX12_strangers 143 = .ok (.putfield 119, 3) := by decide +kernel
theorem dX12_strangers_146 : decode cX12_strangers 146 = .ok (.aload_n 0, 1) := by decide +kernel
theorem dX12_strangers_147 : decode cX12_strangers 147 = .ok (.iload_n 2, 1) := by decide +kernel
theorem dX12_strangers_148 : decode cX12_strangers 148 = .ok (.i2l, 1) := by decide +kernel
theorem dX12_strangers_149 : decode cX12_strangers 149 = .ok (.invokevirtual 358, 3) := by decide +kernel
theorem dX12_strangers_152 : decode cX12_strangers 152 = .ok (.aload_n 0, 1) := by decide +kernel
theorem dX12_strangers_153 : decode cX12_strangers 153 = .ok (.iload_n 3, 1) := by decide +kernel
theorem dX12_strangers_154 : decode cX12_strangers 154 = .ok (.i2l, 1) := by decide +kernel
theorem dX12_strangers_155 : decode cX12_strangers 155 = .ok (.invokevirtual 358, 3) := by decide +kernel
theorem dX12_strangers_158 : decode cX12_strangers 158 = .ok (.iload_n 1, 1) := by decide +kernel
theorem dX12_strangers_159 : decode cX12_strangers 159 = .ok (.ireturn, 1) := by decide +kernel
theorem dX12_doubts_0 : decode cX12_doubts 0 = .ok (.aload_n 0, 1) := by decide +kernel
theorem dX12_doubts_1 : decode cX12_doubts 1 = .ok (.iconst 0, 1) := by decide +kernel
theorem dX12_doubts_2 : decode cX12_doubts 2 = .ok (.putfield 112, 3) := by decide +kernel
theorem dX12_doubts_5 : decode cX12_doubts 5 = .ok (.iconst 0, 1) := by decide +kernel
theorem dX12_doubts_6 : decode cX12_doubts 6 = .ok (.istore_n 1, 1) := by decide +kernel
theorem dX12_doubts_7 : decode cX12_doubts 7 = .ok (.iconst 0, 1) := by decide +kernel
theorem dX12_doubts_8 : decode cX12_doubts 8 = .ok (.istore_n 2, 1) := by decide +kernel
theorem dX12_doubts_9 : decode cX12_doubts 9 = .ok (.iload_n 2, 1) := by decide +kernel
theorem dX12_doubts_10 : decode cX12_doubts 10 = .ok (.aload_n 0, 1) := by decide +kernel
theorem dX12_doubts_11 : decode cX12_doubts 11 = .ok (.getfield 129, 3) := by decide +kernel
theorem dX12_doubts_14 : decode cX12_doubts 14 = .ok (.if_icmp .ge 146, 3) := by decide +kernel
theorem dX12_doubts_17 : decode cX12_doubts 17 = .ok (.aload_n 0, 1) := by decide +kernel
theorem dX12_doubts_18 : decode cX12_doubts 18 = .ok (.aload_n 0, 1) := by decide +kernel
theorem dX12_doubts_19 : decode cX12_doubts 19 = .ok (.getfield 31, 3) := by decide +kernel
theorem dX12_doubts_22 : decode cX12_doubts 22 = .ok (.aload_n 0, 1) := by decide +kernel
theorem dX12_doubts_23 : decode cX12_doubts 23 = .ok (.getfield 31, 3) := by decide +kernel
theorem dX12_doubts_26 : decode cX12_doubts 26 = .ok (.bipush 13, 2) := by decide +kernel
theorem dX12_doubts_28 : decode cX12_doubts 28 = .ok (.iload_n 2, 1) := by decide +kernel
theorem dX12_doubts_29 : decode cX12_doubts 29 = .ok (.iadd, 1) := by decide +kernel
theorem dX12_doubts_30 : decode cX12_doubts 30 = .ok (.iaload, 1) := by decide +kernel
theorem dX12_doubts_31 : decode cX12_doubts 31 = .ok (.invokevirtual 313, 3) := by decide +kernel
theorem dX12_doubts_34 : decode cX12_doubts 34 = .ok (.istore_n 3, 1) := by decide +kernel
theorem dX12_doubts_35 : decode cX12_doubts 35 = .ok (.iconst 0, 1) := by decide +kernel
theorem dX12_doubts_36 : decode cX12_doubts 36 = .ok (.istore 4, 2) := by decide +kernel
theorem dX12_doubts_38 : decode cX12_doubts 38 = .ok (.iconst 0, 1) := by decide +kernel
theorem dX12_doubts_39 : decode cX12_doubts 39 = .ok (.istore 5, 2) := by decide +kernel
theorem dX12_doubts_41 : decode cX12_doubts 41 = .ok (.iload 5, 2) := by decide +kernel
theorem dX12_doubts_43 : decode cX12_doubts 43 = .ok (.aload_n 0, 1) := by decide +kernel
theorem dX12_doubts_44 : decode cX12_doubts 44 = .ok (.getfield 122, 3) := by decide +kernel
theorem dX12_doubts_47 : decode cX12_doubts 47 = .ok (.if_icmp .ge 80, 3) := by decide +kernel
theorem dX12_doubts_50 : decode cX12_doubts 50 = .ok (.iload_n 3, 1) := by decide +kernel
theorem dX12_doubts_51 : decode cX12_doubts 51 = .ok (.ifCond .lt 76, 3) := by decide +kernel
theorem dX12_doubts_54 : decode cX12_doubts 54 = .ok (.iload 4, 2) := by decide +kernel
theorem dX12_doubts_56 : decode cX12_doubts 56 = .ok (.aload_n 0, 1) := by decide +kernel
theorem dX12_doubts_57 : decode cX12_doubts 57 = .ok (.getfield 31, 3) := by decide +kernel
theorem dX12_doubts_60 : decode cX12_doubts 60 = .ok (.iload 5, 2) := by decide +kernel
theorem dX12_doubts_62 : decode cX12_doubts 62 = .ok (.invokestatic 266, 3) := by decide +kernel
theorem dX12_doubts_65 : decode cX12_doubts 65 = .ok (.ifCond .eq 49, 3) := by decide +kernel
theorem dX12_doubts_68 : decode cX12_doubts 68 = .ok (.aload_n 0, 1) := by decide +kernel
theorem dX12_doubts_69 : decode cX12_doubts 69 = .ok (.getfield 31, 3) := by decide +kernel
theorem dX12_doubts_72 : decode cX12_doubts 72 = .ok (.iload 5, 2) := by decide +kernel
theorem dX12_doubts_74 : decode cX12_doubts 74 = .ok (.iaload, 1) := by decide +kernel
theorem dX12_doubts_75 : decode cX12_doubts 75 = .ok (.aload_n 0, 1) := by decide +kernel
theorem dX12_doubts_76 : decode cX12_doubts 76 = .ok (.getfield 31, 3) := by decide +kernel
theorem dX12_doubts_79 : decode cX12_doubts 79 = .ok (.bipush 13, 2) := by decide +kernel
theorem dX12_doubts_81 : decode cX12_doubts 81 = .ok (.iload_n 2, 1) := by decide +kernel
theorem dX12_doubts_82 : decode cX12_doubts 82 = .ok (.iadd, 1) := by decide +kernel
theorem dX12_doubts_83 : decode cX12_doubts 83 = .ok (.iaload, 1) := by decide +kernel
theorem dX12_doubts_84 : decode cX12_doubts 84 = .ok (.isub, 1) := by decide +kernel
theorem dX12_doubts_85 : decode cX12_doubts 85 = .ok (.invokestatic 290, 3) := by decide +kernel
theorem dX12_doubts_88 : decode cX12_doubts 88 = .ok (.aload_n 0, 1) := by decide +kernel
theorem dX12_doubts_89 : decode cX12_doubts 89 = .ok (.getfield 31, 3) := by decide +kernel
theorem dX12_doubts_92 : decode cX12_doubts 92 = .ok (.iload_n 3, 1) := by decide +kernel
theorem dX12_doubts_93 : decode cX12_doubts 93 = .ok (.iaload, 1) := by decide +kernel
theorem dX12_doubts_94 : decode cX12_doubts 94 = .ok (.aload_n 0, 1) := by decide +kernel
theorem dX12_doubts_95 : decode cX12_doubts 95 = .ok (.getfield 31, 3) := by decide +kernel
theorem dX12_doubts_98 : decode cX12_doubts 98 = .ok (.bipush 13, 2) := by decide +kernel
theorem dX12_doubts_100 : decode cX12_doubts 100 = .ok (.iload_n 2, 1) := by decide +kernel
theorem dX12_doubts_101 : decode cX12_doubts 101 = .ok (.iadd, 1) := by decide +kernel
theorem dX12_doubts_102 : decode cX12_doubts 102 = .ok (.iaload, 1) := by decide +kernel
theorem dX12_doubts_103 : decode cX12_doubts 103 = .ok (.isub, 1) := by decide +kernel
theorem dX12_doubts_104 : decode cX12_doubts 104 = .ok (.invokestatic 290, 3) := by decide +kernel
theorem dX12_doubts_107 : decode cX12_doubts 107 = .ok (.if_icmp .ne 7, 3) := by decide +kernel
theorem dX12_doubts_110 : decode cX12_doubts 110 = .ok (.iconst 1, 1) := by decide +kernel
theorem dX12_doubts_111 : decode cX12_doubts 111 = .ok (.goto 4, 3) := by decide +kernel
theorem dX12_doubts_114 : decode cX12_doubts 114 = .ok (.iconst 0, 1) := by decide +kernel
theorem dX12_doubts_115 : decode cX12_doubts 115 = .ok (.invokestatic 154, 3) := by decide +kernel
theorem dX12_doubts_118 : decode cX12_doubts 118 = .ok (.iadd, 1) := by decide +kernel
theorem dX12_doubts_119 : decode cX12_doubts 119 = .ok (.istore 4, 2) := by decide +kernel
theorem dX12_doubts_121 : decode cX12_doubts 121 = .ok (.iinc 5 1, 3) := by decide +kernel
theorem dX12_doubts_124 : decode cX12_doubts 124 = .ok (.goto (-83), 3) := by decide +kernel
theorem dX12_doubts_127 : decode cX12_doubts 127 = .ok (.iload_n 1, 1) := by decide +kernel
theorem dX12_doubts_128 : decode cX12_doubts 128 = .ok (.iload 4, 2) := by decide +kernel
theorem dX12_doubts_130 : decode cX12_doubts 130 = .ok (.iconst 1, 1) := by decide +kernel
theorem dX12_doubts_131 : decode cX12_doubts 131 = .ok (.if_icmp .le 20, 3) := by decide +kernel
theorem dX12_doubts_134 : decode cX12_doubts 134 = .ok (.aload_n 0, 1) := by decide +kernel
theorem dX12_doubts_135 : decode cX12_doubts 135 = .ok (.getfield 31, 3) := by decide +kernel
theorem dX12_doubts_138 : decode cX12_doubts 138 = .ok (.iload_n 2, 1) := by decide +kernel
theorem dX12_doubts_139 : decode cX12_doubts 139 = .ok (.invokestatic 132, 3) := by decide +kernel
theorem dX12_doubts_142 : decode cX12_doubts 142 = .ok (.ifCond .ne 9, 3) := by decide +kernel
theorem dX12_doubts_145 : decode cX12_doubts 145 = .ok (.iconst 1, 1) := by decide +kernel
theorem dX12_doubts_146 : decode cX12_doubts 146 = .ok (.iload_n 2, 1) := by decide +kernel
theorem dX12_doubts_147 : decode cX12_doubts 147 = .ok (.ishl, 1) := by decide +kernel
theorem dX12_doubts_148 : decode cX12_doubts 148 = .ok (.goto 4, 3) := by decide +kernel
theorem dX12_doubts_151 : decode cX12_doubts 151 = .ok (.iconst 0, 1) := by decide +kernel
theorem dX12_doubts_152 : decode cX12_doubts 152 = .ok (.ior, 1) := by decide +kernel
theorem dX12_doubts_153 : decode cX12_doubts 153 = .ok (.istore_n 1, 1) := by decide +kernel
theorem dX12_doubts_154 : decode cX12_doubts 154 = .ok (.iinc 2 1, 3) := by decide +kernel
theorem dX12_doubts_157 : decode cX12_doubts 157 = .ok (.goto (-148), 3) := by decide +kernel
theorem dX12_doubts_160 : decode cX12_doubts 160 = .ok (.aload_n 0, 1) := by decide +kernel
theorem dX12_doubts_161 : decode cX12_doubts 161 = .ok (.iconst 0, 1) := by decide +kernel
theorem dX12_doubts_162 : decode cX12_doubts 162 = .ok (.putfield 119, 3) := by decide +kernel
theorem dX12_doubts_165 : decode cX12_doubts 165 = .ok (.aload_n 0, 1) := by decide +kernel
theorem dX12_doubts_166 : decode cX12_doubts 166 = .ok (.iload_n 1, 1) := by decide +kernel
theorem dX12_doubts_167 : decode cX12_doubts 167 = .ok (.invokestatic 279, 3) := by decide +kernel
theorem dX12_doubts_170 : decode cX12_doubts 170 = .ok (.i2l, 1) := by decide +kernel
theorem dX12_doubts_171 : decode cX12_doubts 171 = .ok (.invokevirtual 358, 3) := by decide +kernel
theorem dX12_doubts_174 : decode cX12_doubts 174 = .ok (.iload_n 1, 1) := by decide +kernel
theorem dX12_doubts_175 : decode cX12_doubts 175 = .ok (.ireturn, 1) := by decide +kernel
theorem dX12_heard_0 : decode cX12_heard 0 = .ok (.aload_n 0, 1) := by decide +kernel
theorem dX12_heard_1 : decode cX12_heard 1 = .ok (.iconst 0, 1) := by decide +kernel
theorem dX12_heard_2 : decode cX12_heard 2 = .ok (.putfield 112, 3) := by decide +kernel
theorem dX12_heard_5 : decode cX12_heard 5 = .ok (.iload_n 1, 1) := by decide +kernel
theorem dX12_heard_6 : decode cX12_heard 6 = .ok (.iconst 1, 1) := by decide +kernel
theorem dX12_heard_7 : decode cX12_heard 7 = .ok (.if_icmp .ne 8, 3) := by decide +kernel
theorem dX12_heard_10 : decode cX12_heard 10 = .ok (.bipush 6, 2) := by decide +kernel
theorem dX12_heard_12 : decode cX12_heard 12 = .ok (.goto 14, 3) := by decide +kernel
theorem dX12_heard_15 : decode cX12_heard 15 = .ok (.iload_n 1, 1) := by decide +kernel
theorem dX12_heard_16 : decode cX12_heard 16 = .ok (.iconst 3, 1) := by decide +kernel
theorem dX12_heard_17 : decode cX12_heard 17 = .ok (.if_icmp .ne 7, 3) := by decide +kernel
theorem dX12_heard_20 : decode cX12_heard 20 = .ok (.iconst 1, 1) := by decide +kernel
theorem dX12_heard_21 : decode cX12_heard 21 = .ok (.goto 5, 3) := by decide +kernel
theorem dX12_heard_24 : decode cX12_heard 24 = .ok (.bipush 8, 2) := by decide +kernel
theorem dX12_heard_26 : decode cX12_heard 26 = .ok (.istore_n 3, 1) := by decide +kernel
theorem dX12_heard_27 : decode cX12_heard 27 = .ok (.iload_n 1, 1) := by decide +kernel
theorem dX12_heard_28 : decode cX12_heard 28 = .ok (.i2l, 1) := by decide +kernel
theorem dX12_heard_29 : decode cX12_heard 29 = .ok (.lconst 0, 1) := by decide +kernel
theorem dX12_heard_30 : decode cX12_heard 30 = .ok (.ldc2_w 316, 3) := by decide +kernel
theorem dX12_heard_33 : decode cX12_heard 33 = .ok (.invokestatic 125, 3) := by decide +kernel
theorem dX12_heard_36 : decode cX12_heard 36 = .ok (.ifCond .eq 36, 3) := by decide +kernel
theorem dX12_heard_39 : decode cX12_heard 39 = .ok (.iload_n 2, 1) := by decide +kernel
theorem dX12_heard_40 : decode cX12_heard 40 = .ok (.i2l, 1) := by decide +kernel
theorem dX12_heard_41 : decode cX12_heard 41 = .ok (.iload_n 1, 1) := by decide +kernel
theorem dX12_heard_42 : decode cX12_heard 42 = .ok (.iconst 1, 1) := by decide +kernel
theorem dX12_heard_43 : decode cX12_heard 43 = .ok (.if_icmp .ne 7, 3) := by decide +kernel
theorem dX12_heard_46 : decode cX12_heard 46 = .ok (.iconst 1, 1) := by decide +kernel
theorem dX12_heard_47 : decode cX12_heard 47 = .ok (.goto 4, 3) := by decide +kernel
theorem dX12_heard_50 : decode cX12_heard 50 = .ok (.iconst 0, 1) := by decide +kernel
theorem dX12_heard_51 : decode cX12_heard 51 = .ok (.invokestatic 154, 3) := by decide +kernel
theorem dX12_heard_54 : decode cX12_heard 54 = .ok (.i2l, 1) := by decide +kernel
theorem dX12_heard_55 : decode cX12_heard 55 = .ok (.iload_n 3, 1) := by decide +kernel
theorem dX12_heard_56 : decode cX12_heard 56 = .ok (.i2l, 1) := by decide +kernel
theorem dX12_heard_57 : decode cX12_heard 57 = .ok (.invokestatic 125, 3) := by decide +kernel
theorem dX12_heard_60 : decode cX12_heard 60 = .ok (.ifCond .eq 12, 3) := by decide +kernel
theorem dX12_heard_63 : decode cX12_heard 63 = .ok (.aload_n 0, 1) := by decide +kernel
theorem dX12_heard_64 : decode cX12_heard 64 = .ok (.getfield 423, 3) := by decide +kernel
theorem dX12_heard_67 : decode cX12_heard 67 = .ok (.bipush 8, 2) := by decide +kernel
theorem dX12_heard_69 : decode cX12_heard 69 = .ok (.if_icmp .ne 5, 3) := by decide +kernel
theorem dX12_heard_72 : decode cX12_heard 72 = .ok (.iconst (-1), 1) := by decide +kernel
theorem dX12_heard_73 : decode cX12_heard 73 = .ok (.ireturn, 1) := by decide +kernel
theorem dX12_heard_74 : decode cX12_heard 74 = .ok (.aload_n 0, 1) := by decide +kernel
theorem dX12_heard_75 : decode cX12_heard 75 = .ok (.getfield 94, 3) := by decide +kernel
theorem dX12_heard_78 : decode cX12_heard 78 = .ok (.aload_n 0, 1) := by decide +kernel
theorem dX12_heard_79 : decode cX12_heard 79 = .ok (.getfield 423, 3) := by decide +kernel
theorem dX12_heard_82 : decode cX12_heard 82 = .ok (.iload_n 1, 1) := by decide +kernel
theorem dX12_heard_83 : decode cX12_heard 83 = .ok (.iastore, 1) := by decide +kernel
theorem dX12_heard_84 : decode cX12_heard 84 = .ok (.aload_n 0, 1) := by decide +kernel
theorem dX12_heard_85 : decode cX12_heard 85 = .ok (.getfield 97, 3) := by decide +kernel
theorem dX12_heard_88 : decode cX12_heard 88 = .ok (.aload_n 0, 1) := by decide +kernel
theorem dX12_heard_89 : decode cX12_heard 89 = .ok (.getfield 423, 3) := by decide +kernel
theorem dX12_heard_92 : decode cX12_heard 92 = .ok (.iload_n 2, 1) := by decide +kernel
theorem dX12_heard_93 : decode cX12_heard 93 = .ok (.iastore, 1) := by decide +kernel
theorem dX12_heard_94 : decode cX12_heard 94 = .ok (.aload_n 0, 1) := by decide +kernel
theorem dX12_heard_95 : decode cX12_heard 95 = .ok (.dup, 1) := by decide +kernel
theorem dX12_heard_96 : decode cX12_heard 96 = .ok (.getfield 423, 3) := by decide +kernel
theorem dX12_heard_99 : decode cX12_heard 99 = .ok (.iconst 1, 1) := by decide +kernel
theorem dX12_heard_100 : decode cX12_heard 100 = .ok (.iadd, 1) := by decide +kernel
theorem dX12_heard_101 : decode cX12_heard 101 = .ok (.putfield 423, 3) := by decide +kernel
theorem dX12_heard_104 : decode cX12_heard 104 = .ok (.aload_n 0, 1) := by decide +kernel
theorem dX12_heard_105 : decode cX12_heard 105 = .ok (.getfield 423, 3) := by decide +kernel
theorem dX12_heard_108 : decode cX12_heard 108 = .ok (.ireturn, 1) := by decide +kernel
theorem dX12_forget_0 : decode cX12_forget 0 = .ok (.aload_n 0, 1) := by decide +kernel
theorem dX12_forget_1 : decode cX12_forget 1 = .ok (.iconst 0, 1) := by decide +kernel
theorem dX12_forget_2 : decode cX12_forget 2 = .ok (.putfield 112, 3) := by decide +kernel
theorem dX12_forget_5 : decode cX12_forget 5 = .ok (.aload_n 0, 1) := by decide +kernel
theorem dX12_forget_6 : decode cX12_forget 6 = .ok (.getfield 423, 3) := by decide +kernel
theorem dX12_forget_9 : decode cX12_forget 9 = .ok (.istore_n 1, 1) := by decide +kernel
theorem dX12_forget_10 : decode cX12_forget 10 = .ok (.aload_n 0, 1) := by decide +kernel
theorem dX12_forget_11 : decode cX12_forget 11 = .ok (.iconst 0, 1) := by decide +kernel
theorem dX12_forget_12 : decode cX12_forget 12 = .ok (.putfield 423, 3) := by decide +kernel
theorem dX12_forget_15 : decode cX12_forget 15 = .ok (.iload_n 1, 1) := by decide +kernel
theorem dX12_forget_16 : decode cX12_forget 16 = .ok (.ireturn, 1) := by decide +kernel
theorem dX12_isSo_0 : decode cX12_isSo 0 = .ok (.iload_n 2, 1) := by decide +kernel
theorem dX12_isSo_1 : decode cX12_isSo 1 = .ok (.tableswitch 99 0 2 #[27, 45, 75], 27) := by decide +kernel
theorem dX12_isSo_28 : decode cX12_isSo 28 = .ok (.aload_n 0, 1) := by decide +kernel
theorem dX12_isSo_29 : decode cX12_isSo 29 = .ok (.iload_n 1, 1) := by decide +kernel
theorem dX12_isSo_30 : decode cX12_isSo 30 = .ok (.invokevirtual 305, 3) := by decide +kernel
theorem dX12_isSo_33 : decode cX12_isSo 33 = .ok (.invokestatic 279, 3) := by decide +kernel
theorem dX12_isSo_36 : decode cX12_isSo 36 = .ok (.iload_n 3, 1) := by decide +kernel
theorem dX12_isSo_37 : decode cX12_isSo 37 = .ok (.if_icmp .lt 7, 3) := by decide +kernel
theorem dX12_isSo_40 : decode cX12_isSo 40 = .ok (.iconst 1, 1) := by decide +kernel
theorem dX12_isSo_41 : decode cX12_isSo 41 = .ok (.goto 4, 3) := by decide +kernel
theorem dX12_isSo_44 : decode cX12_isSo 44 = .ok (.iconst 0, 1) := by decide +kernel
theorem dX12_isSo_45 : decode cX12_isSo 45 = .ok (.ireturn, 1) := by decide +kernel
theorem dX12_isSo_46 : decode cX12_isSo 46 = .ok (.aload_n 0, 1) := by decide +kernel
theorem dX12_isSo_47 : decode cX12_isSo 47 = .ok (.getfield 34, 3) := by decide +kernel
theorem dX12_isSo_50 : decode cX12_isSo 50 = .ok (.iload_n 1, 1) := by decide +kernel
theorem dX12_isSo_51 : decode cX12_isSo 51 = .ok (.invokestatic 266, 3) := by decide +kernel
theorem dX12_isSo_54 : decode cX12_isSo 54 = .ok (.ifCond .ne 20, 3) := by decide +kernel
theorem dX12_isSo_57 : decode cX12_isSo 57 = .ok (.aload_n 0, 1) := by decide +kernel
theorem dX12_isSo_58 : decode cX12_isSo 58 = .ok (.getfield 34, 3) := by decide +kernel
theorem dX12_isSo_61 : decode cX12_isSo 61 = .ok (.bipush 6, 2) := by decide +kernel
theorem dX12_isSo_63 : decode cX12_isSo 63 = .ok (.iload_n 1, 1) := by decide +kernel
theorem dX12_isSo_64 : decode cX12_isSo 64 = .ok (.iadd, 1) := by decide +kernel
theorem dX12_isSo_65 : decode cX12_isSo 65 = .ok (.iaload, 1) := by decide +kernel
theorem dX12_isSo_66 : decode cX12_isSo 66 = .ok (.iload_n 3, 1) := by decide +kernel
theorem dX12_isSo_67 : decode cX12_isSo 67 = .ok (.if_icmp .ne 7, 3) := by decide +kernel
theorem dX12_isSo_70 : decode cX12_isSo 70 = .ok (.iconst 1, 1) := by decide +kernel
theorem dX12_isSo_71 : decode cX12_isSo 71 = .ok (.goto 4, 3) := by decide +kernel
theorem dX12_isSo_74 : decode cX12_isSo 74 = .ok (.iconst 0, 1) := by decide +kernel
theorem dX12_isSo_75 : decode cX12_isSo 75 = .ok (.ireturn, 1) := by decide +kernel
theorem dX12_isSo_76 : decode cX12_isSo 76 = .ok (.aload_n 0, 1) := by decide +kernel
theorem dX12_isSo_77 : decode cX12_isSo 77 = .ok (.aload_n 0, 1) := by decide +kernel
theorem dX12_isSo_78 : decode cX12_isSo 78 = .ok (.getfield 34, 3) := by decide +kernel
theorem dX12_isSo_81 : decode cX12_isSo 81 = .ok (.bipush 29, 2) := by decide +kernel
theorem dX12_isSo_83 : decode cX12_isSo 83 = .ok (.iload_n 1, 1) := by decide +kernel
theorem dX12_isSo_84 : decode cX12_isSo 84 = .ok (.invokevirtual 275, 3) := by decide +kernel
theorem dX12_isSo_87 : decode cX12_isSo 87 = .ok (.invokestatic 279, 3) := by decide +kernel
theorem dX12_isSo_90 : decode cX12_isSo 90 = .ok (.iload_n 3, 1) := by decide +kernel
theorem dX12_isSo_91 : decode cX12_isSo 91 = .ok (.if_icmp .lt 7, 3) := by decide +kernel
theorem dX12_isSo_94 : decode cX12_isSo 94 = .ok (.iconst 1, 1) := by decide +kernel
theorem dX12_isSo_95 : decode cX12_isSo 95 = .ok (.goto 4, 3) := by decide +kernel
theorem dX12_isSo_98 : decode cX12_isSo 98 = .ok (.iconst 0, 1) := by decide +kernel
theorem dX12_isSo_99 : decode cX12_isSo 99 = .ok (.ireturn, 1) := by decide +kernel
theorem dX12_isSo_100 : decode cX12_isSo 100 = .ok (.iload_n 1, 1) := by decide +kernel
theorem dX12_isSo_101 : decode cX12_isSo 101 = .ok (.iconst 2, 1) := by decide +kernel
theorem dX12_isSo_102 : decode cX12_isSo 102 = .ok (.irem, 1) := by decide +kernel
theorem dX12_isSo_103 : decode cX12_isSo 103 = .ok (.iload_n 3, 1) := by decide +kernel
theorem dX12_isSo_104 : decode cX12_isSo 104 = .ok (.if_icmp .ne 7, 3) := by decide +kernel
theorem dX12_isSo_107 : decode cX12_isSo 107 = .ok (.iconst 1, 1) := by decide +kernel
theorem dX12_isSo_108 : decode cX12_isSo 108 = .ok (.goto 4, 3) := by decide +kernel
theorem dX12_isSo_111 : decode cX12_isSo 111 = .ok (.iconst 0, 1) := by decide +kernel
theorem dX12_isSo_112 : decode cX12_isSo 112 = .ok (.ireturn, 1) := by decide +kernel
theorem dX12_fits_0 : decode cX12_fits 0 = .ok (.aload_n 0, 1) := by decide +kernel
theorem dX12_fits_1 : decode cX12_fits 1 = .ok (.iconst 0, 1) := by decide +kernel
theorem dX12_fits_2 : decode cX12_fits 2 = .ok (.putfield 112, 3) := by decide +kernel
theorem dX12_fits_5 : decode cX12_fits 5 = .ok (.aload_n 0, 1) := by decide +kernel
theorem dX12_fits_6 : decode cX12_fits 6 = .ok (.invokevirtual 390, 3) := by decide +kernel
theorem dX12_fits_9 : decode cX12_fits 9 = .ok (.aload_n 0, 1) := by decide +kernel
theorem dX12_fits_10 : decode cX12_fits 10 = .ok (.aload_n 0, 1) := by decide +kernel
theorem dX12_fits_11 : decode cX12_fits 11 = .ok (.getfield 34, 3) := by decide +kernel
theorem dX12_fits_14 : decode cX12_fits 14 = .ok (.sipush 200, 3) := by decide +kernel
theorem dX12_fits_17 : decode cX12_fits 17 = .ok (.invokevirtual 355, 3) := by decide +kernel
theorem dX12_fits_20 : decode cX12_fits 20 = .ok (.iconst 0, 1) := by decide +kernel
theorem dX12_fits_21 : decode cX12_fits 21 = .ok (.istore_n 1, 1) := by decide +kernel
theorem dX12_fits_22 : decode cX12_fits 22 = .ok (.iconst 0, 1) := by decide +kernel
theorem dX12_fits_23 : decode cX12_fits 23 = .ok (.istore_n 2, 1) := by decide +kernel
theorem dX12_fits_24 : decode cX12_fits 24 = .ok (.iload_n 2, 1) := by decide +kernel
theorem dX12_fits_25 : decode cX12_fits 25 = .ok (.aload_n 0, 1) := by decide +kernel
theorem dX12_fits_26 : decode cX12_fits 26 = .ok (.getfield 122, 3) := by decide +kernel
theorem dX12_fits_29 : decode cX12_fits 29 = .ok (.if_icmp .ge 75, 3) := by decide +kernel
theorem dX12_fits_32 : decode cX12_fits 32 = .ok (.iconst 1, 1) := by decide +kernel
theorem dX12_fits_33 : decode cX12_fits 33 = .ok (.istore_n 3, 1) := by decide +kernel
theorem dX12_fits_34 : decode cX12_fits 34 = .ok (.iconst 0, 1) := by decide +kernel
theorem dX12_fits_35 : decode cX12_fits 35 = .ok (.istore 4, 2) := by decide +kernel
theorem dX12_fits_37 : decode cX12_fits 37 = .ok (.iload 4, 2) := by decide +kernel
theorem dX12_fits_39 : decode cX12_fits 39 = .ok (.aload_n 0, 1) := by decide +kernel
theorem dX12_fits_40 : decode cX12_fits 40 = .ok (.getfield 423, 3) := by decide +kernel
theorem dX12_fits_43 : decode cX12_fits 43 = .ok (.if_icmp .ge 41, 3) := by decide +kernel
theorem dX12_fits_46 : decode cX12_fits 46 = .ok (.iload_n 3, 1) := by decide +kernel
theorem dX12_fits_47 : decode cX12_fits 47 = .ok (.ifCond .eq 29, 3) := by decide +kernel
theorem dX12_fits_50 : decode cX12_fits 50 = .ok (.aload_n 0, 1) := by decide +kernel
theorem dX12_fits_51 : decode cX12_fits 51 = .ok (.iload_n 2, 1) := by decide +kernel
theorem dX12_fits_52 : decode cX12_fits 52 = .ok (.aload_n 0, 1) := by decide +kernel
theorem dX12_fits_53 : decode cX12_fits 53 = .ok (.getfield 94, 3) := by decide +kernel
theorem dX12_fits_56 : decode cX12_fits 56 = .ok (.iload 4, 2) := by decide +kernel
theorem dX12_fits_58 : decode cX12_fits 58 = .ok (.iaload, 1) := by decide +kernel
theorem dX12_fits_59 : decode cX12_fits 59 = .ok (.aload_n 0, 1) := by decide +kernel
theorem dX12_fits_60 : decode cX12_fits 60 = .ok (.getfield 97, 3) := by decide +kernel
theorem dX12_fits_63 : decode cX12_fits 63 = .ok (.iload 4, 2) := by decide +kernel
theorem dX12_fits_65 : decode cX12_fits 65 = .ok (.iaload, 1) := by decide +kernel
theorem dX12_fits_66 : decode cX12_fits 66 = .ok (.invokevirtual 426, 3) := by decide +kernel
theorem dX12_fits_69 : decode cX12_fits 69 = .ok (.ifCond .eq 7, 3) := by decide +kernel
theorem dX12_fits_72 : decode cX12_fits 72 = .ok (.iconst 1, 1) := by decide +kernel
theorem dX12_fits_73 : decode cX12_fits 73 = .ok (.goto 4, 3) := by decide +kernel
theorem dX12_fits_76 : decode cX12_fits 76 = .ok (.iconst 0, 1) := by decide +kernel
theorem dX12_fits_77 : decode cX12_fits 77 = .ok (.istore_n 3, 1) := by decide +kernel
theorem dX12_fits_78 : decode cX12_fits 78 = .ok (.iinc 4 1, 3) := by decide +kernel
theorem dX12_fits_81 : decode cX12_fits 81 = .ok (.goto (-44), 3) := by decide +kernel
theorem dX12_fits_84 : decode cX12_fits 84 = .ok (.iload_n 1, 1) := by decide +kernel
theorem dX12_fits_85 : decode cX12_fits 85 = .ok (.iload_n 3, 1) := by decide +kernel
theorem dX12_fits_86 : decode cX12_fits 86 = .ok (.ifCond .eq 9, 3) := by decide +kernel
theorem dX12_fits_89 : decode cX12_fits 89 = .ok (.iconst 1, 1) := by decide +kernel
theorem dX12_fits_90 : decode cX12_fits 90 = .ok (.iload_n 2, 1) := by decide +kernel
theorem dX12_fits_91 : decode cX12_fits 91 = .ok (.ishl, 1) := by decide +kernel
theorem dX12_fits_92 : decode cX12_fits 92 = .ok (.goto 4, 3) := by decide +kernel
theorem dX12_fits_95 : decode cX12_fits 95 = .ok (.iconst 0, 1) := by decide +kernel
theorem dX12_fits_96 : decode cX12_fits 96 = .ok (.ior, 1) := by decide +kernel
theorem dX12_fits_97 : decode cX12_fits 97 = .ok (.istore_n 1, 1) := by decide +kernel
theorem dX12_fits_98 : decode cX12_fits 98 = .ok (.iinc 2 1, 3) := by decide +kernel
theorem dX12_fits_101 : decode cX12_fits 101 = .ok (.goto (-77), 3) := by decide +kernel
theorem dX12_fits_104 : decode cX12_fits 104 = .ok (.aload_n 0, 1) := by decide +kernel
theorem dX12_fits_105 : decode cX12_fits 105 = .ok (.iconst 0, 1) := by decide +kernel
theorem dX12_fits_106 : decode cX12_fits 106 = .ok (.putfield 119, 3) := by decide +kernel
theorem dX12_fits_109 : decode cX12_fits 109 = .ok (.aload_n 0, 1) := by decide +kernel
theorem dX12_fits_110 : decode cX12_fits 110 = .ok (.iload_n 1, 1) := by decide +kernel
theorem dX12_fits_111 : decode cX12_fits 111 = .ok (.invokestatic 279, 3) := by decide +kernel
theorem dX12_fits_114 : decode cX12_fits 114 = .ok (.i2l, 1) := by decide +kernel
theorem dX12_fits_115 : decode cX12_fits 115 = .ok (.invokevirtual 358, 3) := by decide +kernel
theorem dX12_fits_118 : decode cX12_fits 118 = .ok (.iload_n 1, 1) := by decide +kernel
theorem dX12_fits_119 : decode cX12_fits 119 = .ok (.ireturn, 1) := by decide +kernel
theorem dX12_rains_0 : decode cX12_rains 0 = .ok (.aload_n 0, 1) := by decide +kernel
theorem dX12_rains_1 : decode cX12_rains 1 = .ok (.iconst 0, 1) := by decide +kernel
theorem dX12_rains_2 : decode cX12_rains 2 = .ok (.putfield 112, 3) := by decide +kernel
theorem dX12_rains_5 : decode cX12_rains 5 = .ok (.iload_n 1, 1) := by decide +kernel
theorem dX12_rains_6 : decode cX12_rains 6 = .ok (.i2l, 1) := by decide +kernel
theorem dX12_rains_7 : decode cX12_rains 7 = .ok (.lconst 1, 1) := by decide +kernel
theorem dX12_rains_8 : decode cX12_rains 8 = .ok (.ldc2_w 430, 3) := by decide +kernel
theorem dX12_rains_11 : decode cX12_rains 11 = .ok (.invokestatic 125, 3) := by decide +kernel
theorem dX12_rains_14 : decode cX12_rains 14 = .ok (.ifCond .eq 27, 3) := by decide +kernel
theorem dX12_rains_17 : decode cX12_rains 17 = .ok (.iload_n 2, 1) := by decide +kernel
theorem dX12_rains_18 : decode cX12_rains 18 = .ok (.i2l, 1) := by decide +kernel
theorem dX12_rains_19 : decode cX12_rains 19 = .ok (.lconst 0, 1) := by decide +kernel
theorem dX12_rains_20 : decode cX12_rains 20 = .ok (.ldc2_w 430, 3) := by decide +kernel
theorem dX12_rains_23 : decode cX12_rains 23 = .ok (.invokestatic 125, 3) := by decide +kernel
theorem dX12_rains_26 : decode cX12_rains 26 = .ok (.ifCond .eq 15, 3) := by decide +kernel
theorem dX12_rains_29 : decode cX12_rains 29 = .ok (.iload_n 3, 1) := by decide +kernel
theorem dX12_rains_30 : decode cX12_rains 30 = .ok (.i2l, 1) := by decide +kernel
theorem dX12_rains_31 : decode cX12_rains 31 = .ok (.lconst 0, 1) := by decide +kernel
theorem dX12_rains_32 : decode cX12_rains 32 = .ok (.ldc2_w 432, 3) := by decide +kernel
theorem dX12_rains_35 : decode cX12_rains 35 = .ok (.invokestatic 125, 3) := by decide +kernel
theorem dX12_rains_38 : decode cX12_rains 38 = .ok (.ifCond .ne 5, 3) := by decide +kernel
theorem dX12_rains_41 : decode cX12_rains 41 = .ok (.iconst (-1), 1) := by decide +kernel
theorem dX12_rains_42 : decode cX12_rains 42 = .ok (.ireturn, 1) := by decide +kernel
theorem dX12_rains_43 : decode cX12_rains 43 = .ok (.lconst 0, 1) := by decide +kernel
theorem dX12_rains_44 : decode cX12_rains 44 = .ok (.lstore 4, 2) := by decide +kernel
theorem dX12_rains_46 : decode cX12_rains 46 = .ok (.lconst 1, 1) := by decide +kernel
theorem dX12_rains_47 : decode cX12_rains 47 = .ok (.lstore 6, 2) := by decide +kernel
theorem dX12_rains_49 : decode cX12_rains 49 = .ok (.iconst 0, 1) := by decide +kernel
theorem dX12_rains_50 : decode cX12_rains 50 = .ok (.istore 8, 2) := by decide +kernel
theorem dX12_rains_52 : decode cX12_rains 52 = .ok (.iload 8, 2) := by decide +kernel
theorem dX12_rains_54 : decode cX12_rains 54 = .ok (.iload_n 1, 1) := by decide +kernel
theorem dX12_rains_55 : decode cX12_rains 55 = .ok (.if_icmp .ge 17, 3) := by decide +kernel
theorem dX12_rains_58 : decode cX12_rains 58 = .ok (.lload 6, 2) := by decide +kernel
theorem dX12_rains_60 : decode cX12_rains 60 = .ok (.ldc2_w 432, 3) := by decide +kernel
theorem dX12_rains_63 : decode cX12_rains 63 = .ok (.lmul, 1) := by decide +kernel
theorem dX12_rains_64 : decode cX12_rains 64 = .ok (.lstore 6, 2) := by decide +kernel
theorem dX12_rains_66 : decode cX12_rains 66 = .ok (.iinc 8 1, 3) := by decide +kernel
theorem dX12_rains_69 : decode cX12_rains 69 = .ok (.goto (-17), 3) := by decide +kernel
theorem dX12_rains_72 : decode cX12_rains 72 = .ok (.iconst 0, 1) := by decide +kernel
theorem dX12_rains_73 : decode cX12_rains 73 = .ok (.istore 8, 2) := by decide +kernel
theorem dX12_rains_75 : decode cX12_rains 75 = .ok (.iload 8, 2) := by decide +kernel
theorem dX12_rains_77 : decode cX12_rains 77 = .ok (.iconst 1, 1) := by decide +kernel
theorem dX12_rains_78 : decode cX12_rains 78 = .ok (.iload_n 1, 1) := by decide +kernel
theorem dX12_rains_79 : decode cX12_rains 79 = .ok (.ishl, 1) := by decide +kernel
theorem dX12_rains_80 : decode cX12_rains 80 = .ok (.if_icmp .ge 81, 3) := by decide +kernel
theorem dX12_rains_83 : decode cX12_rains 83 = .ok (.lconst 1, 1) := by decide +kernel
theorem dX12_rains_84 : decode cX12_rains 84 = .ok (.lstore 9, 2) := by decide +kernel
theorem dX12_rains_86 : decode cX12_rains 86 = .ok (.iconst 0, 1) := by decide +kernel
theorem dX12_rains_87 : decode cX12_rains 87 = .ok (.istore 11, 2) := by decide +kernel
theorem dX12_rains_89 : decode cX12_rains 89 = .ok (.iload 11, 2) := by decide +kernel
theorem dX12_rains_91 : decode cX12_rains 91 = .ok (.iload_n 1, 1) := by decide +kernel
theorem dX12_rains_92 : decode cX12_rains 92 = .ok (.if_icmp .ge 34, 3) := by decide +kernel
theorem dX12_rains_95 : decode cX12_rains 95 = .ok (.lload 9, 2) := by decide +kernel
theorem dX12_rains_97 : decode cX12_rains 97 = .ok (.iload 8, 2) := by decide +kernel
theorem dX12_rains_99 : decode cX12_rains 99 = .ok (.iload 11, 2) := by decide +kernel
theorem dX12_rains_101 : decode cX12_rains 101 = .ok (.invokestatic 411, 3) := by decide +kernel
theorem dX12_rains_104 : decode cX12_rains 104 = .ok (.ifCond .eq 8, 3) := by decide +kernel
theorem dX12_rains_107 : decode cX12_rains 107 = .ok (.iload_n 3, 1) := by decide +kernel
theorem dX12_rains_108 : decode cX12_rains 108 = .ok (.i2l, 1) := by decide +kernel
theorem dX12_rains_109 : decode cX12_rains 109 = .ok (.goto 8, 3) := by decide +kernel
theorem dX12_rains_112 : decode cX12_rains 112 = .ok (.bipush 10, 2) := by decide +kernel
theorem dX12_rains_114 : decode cX12_rains 114 = .ok (.iload_n 3, 1) := by decide +kernel
theorem dX12_rains_115 : decode cX12_rains 115 = .ok (.isub, 1) := by decide +kernel
theorem dX12_rains_116 : decode cX12_rains 116 = .ok (.i2l, 1) := by decide +kernel
theorem dX12_rains_117 : decode cX12_rains 117 = .ok (.lmul, 1) := by decide +kernel
theorem dX12_rains_118 : decode cX12_rains 118 = .ok (.lstore 9, 2) := by decide +kernel
theorem dX12_rains_120 : decode cX12_rains 120 = .ok (.iinc 11 1, 3) := by decide +kernel
theorem dX12_rains_123 : decode cX12_rains 123 = .ok (.goto (-34), 3) := by decide +kernel
theorem dX12_rains_126 : decode cX12_rains 126 = .ok (.lload 4, 2) := by decide +kernel
theorem dX12_rains_128 : decode cX12_rains 128 = .ok (.iload 8, 2) := by decide +kernel
theorem dX12_rains_130 : decode cX12_rains 130 = .ok (.iconst 0, 1) := by decide +kernel
theorem dX12_rains_131 : decode cX12_rains 131 = .ok (.invokestatic 411, 3) := by decide +kernel
theorem dX12_rains_134 : decode cX12_rains 134 = .ok (.ifCond .eq 17, 3) := by decide +kernel
theorem dX12_rains_137 : decode cX12_rains 137 = .ok (.iload 8, 2) := by decide +kernel
theorem dX12_rains_139 : decode cX12_rains 139 = .ok (.invokestatic 279, 3) := by decide +kernel
theorem dX12_rains_142 : decode cX12_rains 142 = .ok (.iload_n 2, 1) := by decide +kernel
theorem dX12_rains_143 : decode cX12_rains 143 = .ok (.if_icmp .lt 8, 3) := by decide +kernel
theorem dX12_rains_146 : decode cX12_rains 146 = .ok (.lload 9, 2) := by decide +kernel
theorem dX12_rains_148 : decode cX12_rains 148 = .ok (.goto 4, 3) := by decide +kernel
theorem dX12_rains_151 : decode cX12_rains 151 = .ok (.lconst 0, 1) := by decide +kernel
theorem dX12_rains_152 : decode cX12_rains 152 = .ok (.ladd, 1) := by decide +kernel
theorem dX12_rains_153 : decode cX12_rains 153 = .ok (.lstore 4, 2) := by decide +kernel
theorem dX12_rains_155 : decode cX12_rains 155 = .ok (.iinc 8 1, 3) := by decide +kernel
theorem dX12_rains_158 : decode cX12_rains 158 = .ok (.goto (-83), 3) := by decide +kernel
theorem dX12_rains_161 : decode cX12_rains 161 = .ok (.lload 4, 2) := by decide +kernel
theorem dX12_rains_163 : decode cX12_rains 163 = .ok (.lload 6, 2) := by decide +kernel
theorem dX12_rains_165 : decode cX12_rains 165 = .ok (.invokestatic 115, 3) := by decide +kernel
theorem dX12_rains_168 : decode cX12_rains 168 = .ok (.lstore 8, 2) := by decide +kernel
theorem dX12_rains_170 : decode cX12_rains 170 = .ok (.aload_n 0, 1) := by decide +kernel
theorem dX12_rains_171 : decode cX12_rains 171 = .ok (.iconst 0, 1) := by decide +kernel
theorem dX12_rains_172 : decode cX12_rains 172 = .ok (.putfield 119, 3) := by decide +kernel
theorem dX12_rains_175 : decode cX12_rains 175 = .ok (.aload_n 0, 1) := by decide +kernel
theorem dX12_rains_176 : decode cX12_rains 176 = .ok (.lload 4, 2) := by decide +kernel
theorem dX12_rains_178 : decode cX12_rains 178 = .ok (.lload 8, 2) := by decide +kernel
theorem dX12_rains_180 : decode cX12_rains 180 = .ok (.ldiv, 1) := by decide +kernel
theorem dX12_rains_181 : decode cX12_rains 181 = .ok (.invokevirtual 358, 3) := by decide +kernel
theorem dX12_rains_184 : decode cX12_rains 184 = .ok (.aload_n 0, 1) := by decide +kernel
theorem dX12_rains_185 : decode cX12_rains 185 = .ok (.lload 6, 2) := by decide +kernel
theorem dX12_rains_187 : decode cX12_rains 187 = .ok (.lload 8, 2) := by decide +kernel
theorem dX12_rains_189 : decode cX12_rains 189 = .ok (.ldiv, 1) := by decide +kernel
theorem dX12_rains_190 : decode cX12_rains 190 = .ok (.invokevirtual 358, 3) := by decide +kernel
theorem dX12_rains_193 : decode cX12_rains 193 = .ok (.iconst 0, 1) := by decide +kernel
theorem dX12_rains_194 : decode cX12_rains 194 = .ok (.ireturn, 1) := by decide +kernel
theorem dX12_law_0 : decode cX12_law 0 = .ok (.aload_n 0, 1) := by decide +kernel
theorem dX12_law_1 : decode cX12_law 1 = .ok (.iconst 0, 1) := by decide +kernel
theorem dX12_law_2 : decode cX12_law 2 = .ok (.putfield 112, 3) := by decide +kernel
theorem dX12_law_5 : decode cX12_law 5 = .ok (.aload_n 0, 1) := by decide +kernel
theorem dX12_law_6 : decode cX12_law 6 = .ok (.invokevirtual 255, 3) := by decide +kernel
theorem dX12_law_9 : decode cX12_law 9 = .ok (.istore_n 1, 1) := by decide +kernel
theorem dX12_law_10 : decode cX12_law 10 = .ok (.iload_n 1, 1) := by decide +kernel
theorem dX12_law_11 : decode cX12_law 11 = .ok (.ifCond .ge 11, 3) := by decide +kernel
theorem dX12_law_14 : decode cX12_law 14 = .ok (.iload_n 1, 1) := by decide +kernel
theorem dX12_law_15 : decode cX12_law 15 = .ok (.iconst 1, 1) := by decide +kernel
theorem dX12_law_16 : decode cX12_law 16 = .ok (.iadd, 1) := by decide +kernel
theorem dX12_law_17 : decode cX12_law 17 = .ok (.sipush 10000, 3) := by decide +kernel
theorem dX12_law_20 : decode cX12_law 20 = .ok (.isub, 1) := by decide +kernel
theorem dX12_law_21 : decode cX12_law 21 = .ok (.ireturn, 1) := by decide +kernel
theorem dX12_law_22 : decode cX12_law 22 = .ok (.aload_n 0, 1) := by decide +kernel
theorem dX12_law_23 : decode cX12_law 23 = .ok (.invokevirtual 390, 3) := by decide +kernel
theorem dX12_law_26 : decode cX12_law 26 = .ok (.aload_n 0, 1) := by decide +kernel
theorem dX12_law_27 : decode cX12_law 27 = .ok (.invokevirtual 401, 3) := by decide +kernel
theorem dX12_law_30 : decode cX12_law 30 = .ok (.invokestatic 279, 3) := by decide +kernel
theorem dX12_law_33 : decode cX12_law 33 = .ok (.istore_n 2, 1) := by decide +kernel
theorem dX12_law_34 : decode cX12_law 34 = .ok (.aload_n 0, 1) := by decide +kernel
theorem dX12_law_35 : decode cX12_law 35 = .ok (.getfield 252, 3) := by decide +kernel
theorem dX12_law_38 : decode cX12_law 38 = .ok (.istore_n 3, 1) := by decide +kernel
theorem dX12_law_39 : decode cX12_law 39 = .ok (.iconst 0, 1) := by decide +kernel
theorem dX12_law_40 : decode cX12_law 40 = .ok (.istore 4, 2) := by decide +kernel
theorem dX12_law_42 : decode cX12_law 42 = .ok (.iload 4, 2) := by decide +kernel
theorem dX12_law_44 : decode cX12_law 44 = .ok (.aload_n 0, 1) := by decide +kernel
theorem dX12_law_45 : decode cX12_law 45 = .ok (.getfield 252, 3) := by decide +kernel
theorem dX12_law_48 : decode cX12_law 48 = .ok (.if_icmp .ge 23, 3) := by decide +kernel
theorem dX12_law_51 : decode cX12_law 51 = .ok (.aload_n 0, 1) := by decide +kernel
theorem dX12_law_52 : decode cX12_law 52 = .ok (.getfield 100, 3) := by decide +kernel
theorem dX12_law_55 : decode cX12_law 55 = .ok (.iload 4, 2) := by decide +kernel
theorem dX12_law_57 : decode cX12_law 57 = .ok (.aload_n 0, 1) := by decide +kernel
theorem dX12_law_58 : decode cX12_law 58 = .ok (.getfield 49, 3) := by decide +kernel
theorem dX12_law_61 : decode cX12_law 61 = .ok (.iload 4, 2) := by decide +kernel
theorem dX12_law_63 : decode cX12_law 63 = .ok (.iaload, 1) := by decide +kernel
theorem dX12_law_64 : decode cX12_law 64 = .ok (.iastore, 1) := by decide +kernel
theorem dX12_law_65 : decode cX12_law 65 = .ok (.iinc 4 1, 3) := by decide +kernel
theorem dX12_law_68 : decode cX12_law 68 = .ok (.goto (-26), 3) := by decide +kernel
theorem dX12_law_71 : decode cX12_law 71 = .ok (.aload_n 0, 1) := by decide +kernel
theorem dX12_law_72 : decode cX12_law 72 = .ok (.aload_n 0, 1) := by decide +kernel
theorem dX12_law_73 : decode cX12_law 73 = .ok (.getfield 52, 3) := by decide +kernel
theorem dX12_law_76 : decode cX12_law 76 = .ok (.aload_n 0, 1) := by decide +kernel
theorem dX12_law_77 : decode cX12_law 77 = .ok (.getfield 231, 3) := by decide +kernel
theorem dX12_law_80 : decode cX12_law 80 = .ok (.invokevirtual 258, 3) := by decide +kernel
theorem dX12_law_83 : decode cX12_law 83 = .ok (.aload_n 0, 1) := by decide +kernel
theorem dX12_law_84 : decode cX12_law 84 = .ok (.invokevirtual 390, 3) := by decide +kernel
theorem dX12_law_87 : decode cX12_law 87 = .ok (.aload_n 0, 1) := by decide +kernel
theorem dX12_law_88 : decode cX12_law 88 = .ok (.invokevirtual 401, 3) := by decide +kernel
theorem dX12_law_91 : decode cX12_law 91 = .ok (.invokestatic 279, 3) := by decide +kernel
theorem dX12_law_94 : decode cX12_law 94 = .ok (.istore 4, 2) := by decide +kernel
theorem dX12_law_96 : decode cX12_law 96 = .ok (.aload_n 0, 1) := by decide +kernel
theorem dX12_law_97 : decode cX12_law 97 = .ok (.aload_n 0, 1) := by decide +kernel
theorem dX12_law_98 : decode cX12_law 98 = .ok (.getfield 100, 3) := by decide +kernel
theorem dX12_law_101 : decode cX12_law 101 = .ok (.iload_n 3, 1) := by decide +kernel
theorem dX12_law_102 : decode cX12_law 102 = .ok (.invokevirtual 258, 3) := by decide +kernel
theorem dX12_law_105 : decode cX12_law 105 = .ok (.aload_n 0, 1) := by decide +kernel
theorem dX12_law_106 : decode cX12_law 106 = .ok (.iconst 0, 1) := by decide +kernel
theorem dX12_law_107 : decode cX12_law 107 = .ok (.putfield 119, 3) := by decide +kernel
theorem dX12_law_110 : decode cX12_law 110 = .ok (.aload_n 0, 1) := by decide +kernel
theorem dX12_law_111 : decode cX12_law 111 = .ok (.iload 4, 2) := by decide +kernel
theorem dX12_law_113 : decode cX12_law 113 = .ok (.i2l, 1) := by decide +kernel
theorem dX12_law_114 : decode cX12_law 114 = .ok (.invokevirtual 358, 3) := by decide +kernel
theorem dX12_law_117 : decode cX12_law 117 = .ok (.aload_n 0, 1) := by decide +kernel
theorem dX12_law_118 : decode cX12_law 118 = .ok (.iload_n 2, 1) := by decide +kernel
theorem dX12_law_119 : decode cX12_law 119 = .ok (.i2l, 1) := by decide +kernel
theorem dX12_law_120 : decode cX12_law 120 = .ok (.invokevirtual 358, 3) := by decide +kernel
theorem dX12_law_123 : decode cX12_law 123 = .ok (.iload 4, 2) := by decide +kernel
theorem dX12_law_125 : decode cX12_law 125 = .ok (.iload_n 2, 1) := by decide +kernel
theorem dX12_law_126 : decode cX12_law 126 = .ok (.isub, 1) := by decide +kernel
theorem dX12_law_127 : decode cX12_law 127 = .ok (.ireturn, 1) := by decide +kernel
theorem dX12_gets_0 : decode cX12_gets 0 = .ok (.iload_n 0, 1) := by decide +kernel
theorem dX12_gets_1 : decode cX12_gets 1 = .ok (.iload_n 1, 1) := by decide +kernel
theorem dX12_gets_2 : decode cX12_gets 2 = .ok (.if_icmp .le 7, 3) := by decide +kernel
theorem dX12_gets_5 : decode cX12_gets 5 = .ok (.iload_n 2, 1) := by decide +kernel
theorem dX12_gets_6 : decode cX12_gets 6 = .ok (.goto 15, 3) := by decide +kernel
theorem dX12_gets_9 : decode cX12_gets 9 = .ok (.iload_n 0, 1) := by decide +kernel
theorem dX12_gets_10 : decode cX12_gets 10 = .ok (.iload_n 1, 1) := by decide +kernel
theorem dX12_gets_11 : decode cX12_gets 11 = .ok (.if_icmp .ne 9, 3) := by decide +kernel
theorem dX12_gets_14 : decode cX12_gets 14 = .ok (.iload_n 2, 1) := by decide +kernel
theorem dX12_gets_15 : decode cX12_gets 15 = .ok (.iconst 2, 1) := by decide +kernel
theorem dX12_gets_16 : decode cX12_gets 16 = .ok (.idiv, 1) := by decide +kernel
theorem dX12_gets_17 : decode cX12_gets 17 = .ok (.goto 4, 3) := by decide +kernel
theorem dX12_gets_20 : decode cX12_gets 20 = .ok (.iconst 0, 1) := by decide +kernel
theorem dX12_gets_21 : decode cX12_gets 21 = .ok (.iload_n 0, 1) := by decide +kernel
theorem dX12_gets_22 : decode cX12_gets 22 = .ok (.isub, 1) := by decide +kernel
theorem dX12_gets_23 : decode cX12_gets 23 = .ok (.iconst 3, 1) := by decide +kernel
theorem dX12_gets_24 : decode cX12_gets 24 = .ok (.iload_n 0, 1) := by decide +kernel
theorem dX12_gets_25 : decode cX12_gets 25 = .ok (.iconst 2, 1) := by decide +kernel
theorem dX12_gets_26 : decode cX12_gets 26 = .ok (.iload_n 1, 1) := by decide +kernel
theorem dX12_gets_27 : decode cX12_gets 27 = .ok (.imul, 1) := by decide +kernel
theorem dX12_gets_28 : decode cX12_gets 28 = .ok (.if_icmp .le 7, 3) := by decide +kernel
theorem dX12_gets_31 : decode cX12_gets 31 = .ok (.iconst 1, 1) := by decide +kernel
theorem dX12_gets_32 : decode cX12_gets 32 = .ok (.goto 4, 3) := by decide +kernel
theorem dX12_gets_35 : decode cX12_gets 35 = .ok (.iconst 0, 1) := by decide +kernel
theorem dX12_gets_36 : decode cX12_gets 36 = .ok (.invokestatic 154, 3) := by decide +kernel
theorem dX12_gets_39 : decode cX12_gets 39 = .ok (.imul, 1) := by decide +kernel
theorem dX12_gets_40 : decode cX12_gets 40 = .ok (.isub, 1) := by decide +kernel
theorem dX12_gets_41 : decode cX12_gets 41 = .ok (.ireturn, 1) := by decide +kernel
theorem dX12_isRest_0 : decode cX12_isRest 0 = .ok (.iconst 1, 1) := by decide +kernel
theorem dX12_isRest_1 : decode cX12_isRest 1 = .ok (.istore_n 3, 1) := by decide +kernel
theorem dX12_isRest_2 : decode cX12_isRest 2 = .ok (.iconst 0, 1) := by decide +kernel
theorem dX12_isRest_3 : decode cX12_isRest 3 = .ok (.istore 4, 2) := by decide +kernel
theorem dX12_isRest_5 : decode cX12_isRest 5 = .ok (.iload 4, 2) := by decide +kernel
theorem dX12_isRest_7 : decode cX12_isRest 7 = .ok (.bipush 9, 2) := by decide +kernel
theorem dX12_isRest_9 : decode cX12_isRest 9 = .ok (.if_icmp .gt 35, 3) := by decide +kernel
theorem dX12_isRest_12 : decode cX12_isRest 12 = .ok (.iload_n 3, 1) := by decide +kernel
theorem dX12_isRest_13 : decode cX12_isRest 13 = .ok (.ifCond .eq 23, 3) := by decide +kernel
theorem dX12_isRest_16 : decode cX12_isRest 16 = .ok (.iload 4, 2) := by decide +kernel
theorem dX12_isRest_18 : decode cX12_isRest 18 = .ok (.iload_n 1, 1) := by decide +kernel
theorem dX12_isRest_19 : decode cX12_isRest 19 = .ok (.iload_n 2, 1) := by decide +kernel
theorem dX12_isRest_20 : decode cX12_isRest 20 = .ok (.invokestatic 434, 3) := by decide +kernel
theorem dX12_isRest_23 : decode cX12_isRest 23 = .ok (.iload_n 0, 1) := by decide +kernel
theorem dX12_isRest_24 : decode cX12_isRest 24 = .ok (.iload_n 1, 1) := by decide +kernel
theorem dX12_isRest_25 : decode cX12_isRest 25 = .ok (.iload_n 2, 1) := by decide +kernel
theorem dX12_isRest_26 : decode cX12_isRest 26 = .ok (.invokestatic 434, 3) := by decide +kernel
theorem dX12_isRest_29 : decode cX12_isRest 29 = .ok (.if_icmp .gt 7, 3) := by decide +kernel
theorem dX12_isRest_32 : decode cX12_isRest 32 = .ok (.iconst 1, 1) := by decide +kernel
theorem dX12_isRest_33 : decode cX12_isRest 33 = .ok (.goto 4, 3) := by decide +kernel
theorem dX12_isRest_36 : decode cX12_isRest 36 = .ok (.iconst 0, 1) := by decide +kernel
theorem dX12_isRest_37 : decode cX12_isRest 37 = .ok (.istore_n 3, 1) := by decide +kernel
theorem dX12_isRest_38 : decode cX12_isRest 38 = .ok (.iinc 4 1, 3) := by decide +kernel
theorem dX12_isRest_41 : decode cX12_isRest 41 = .ok (.goto (-36), 3) := by decide +kernel
theorem dX12_isRest_44 : decode cX12_isRest 44 = .ok (.iload_n 3, 1) := by decide +kernel
theorem dX12_isRest_45 : decode cX12_isRest 45 = .ok (.ireturn, 1) := by decide +kernel
theorem dX12_rests_0 : decode cX12_rests 0 = .ok (.aload_n 0, 1) := by decide +kernel
theorem dX12_rests_1 : decode cX12_rests 1 = .ok (.iconst 0, 1) := by decide +kernel
theorem dX12_rests_2 : decode cX12_rests 2 = .ok (.putfield 112, 3) := by decide +kernel
theorem dX12_rests_5 : decode cX12_rests 5 = .ok (.iload_n 1, 1) := by decide +kernel
theorem dX12_rests_6 : decode cX12_rests 6 = .ok (.i2l, 1) := by decide +kernel
theorem dX12_rests_7 : decode cX12_rests 7 = .ok (.lconst 0, 1) := by decide +kernel
theorem dX12_rests_8 : decode cX12_rests 8 = .ok (.ldc2_w 437, 3) := by decide +kernel
theorem dX12_rests_11 : decode cX12_rests 11 = .ok (.invokestatic 125, 3) := by decide +kernel
theorem dX12_rests_14 : decode cX12_rests 14 = .ok (.ifCond .ne 5, 3) := by decide +kernel
theorem dX12_rests_17 : decode cX12_rests 17 = .ok (.iconst (-1), 1) := by decide +kernel
theorem dX12_rests_18 : decode cX12_rests 18 = .ok (.ireturn, 1) := by decide +kernel
theorem dX12_rests_19 : decode cX12_rests 19 = .ok (.iconst 0, 1) := by decide +kernel
theorem dX12_rests_20 : decode cX12_rests 20 = .ok (.istore_n 2, 1) := by decide +kernel
theorem dX12_rests_21 : decode cX12_rests 21 = .ok (.aload_n 0, 1) := by decide +kernel
theorem dX12_rests_22 : decode cX12_rests 22 = .ok (.iconst 0, 1) := by decide +kernel
theorem dX12_rests_23 : decode cX12_rests 23 = .ok (.putfield 119, 3) := by decide +kernel
theorem dX12_rests_26 : decode cX12_rests 26 = .ok (.iconst 0, 1) := by decide +kernel
theorem dX12_rests_27 : decode cX12_rests 27 = .ok (.istore_n 3, 1) := by decide +kernel
theorem dX12_rests_28 : decode cX12_rests 28 = .ok (.iload_n 3, 1) := by decide +kernel
theorem dX12_rests_29 : decode cX12_rests 29 = .ok (.bipush 9, 2) := by decide +kernel
theorem dX12_rests_31 : decode cX12_rests 31 = .ok (.if_icmp .gt 65, 3) := by decide +kernel
theorem dX12_rests_34 : decode cX12_rests 34 = .ok (.iconst 0, 1) := by decide +kernel
theorem dX12_rests_35 : decode cX12_rests 35 = .ok (.istore 4, 2) := by decide +kernel
theorem dX12_rests_37 : decode cX12_rests 37 = .ok (.iload 4, 2) := by decide +kernel
theorem dX12_rests_39 : decode cX12_rests 39 = .ok (.bipush 9, 2) := by decide +kernel
theorem dX12_rests_41 : decode cX12_rests 41 = .ok (.if_icmp .gt 49, 3) := by decide +kernel
theorem dX12_rests_44 : decode cX12_rests 44 = .ok (.iload_n 3, 1) := by decide +kernel
theorem dX12_rests_45 : decode cX12_rests 45 = .ok (.iload 4, 2) := by decide +kernel
theorem dX12_rests_47 : decode cX12_rests 47 = .ok (.iload_n 1, 1) := by decide +kernel
theorem dX12_rests_48 : decode cX12_rests 48 = .ok (.invokestatic 439, 3) := by decide +kernel
theorem dX12_rests_51 : decode cX12_rests 51 = .ok (.ifCond .eq 33, 3) := by decide +kernel
theorem dX12_rests_54 : decode cX12_rests 54 = .ok (.iload 4, 2) := by decide +kernel
theorem dX12_rests_56 : decode cX12_rests 56 = .ok (.iload_n 3, 1) := by decide +kernel
theorem dX12_rests_57 : decode cX12_rests 57 = .ok (.iload_n 1, 1) := by decide +kernel
theorem dX12_rests_58 : decode cX12_rests 58 = .ok (.invokestatic 439, 3) := by decide +kernel
theorem dX12_rests_61 : decode cX12_rests 61 = .ok (.ifCond .eq 23, 3) := by decide +kernel
theorem dX12_rests_64 : decode cX12_rests 64 = .ok (.iload_n 2, 1) := by decide +kernel
theorem dX12_rests_65 : decode cX12_rests 65 = .ok (.ifCond .ne 16, 3) := by decide +kernel
theorem dX12_rests_68 : decode cX12_rests 68 = .ok (.aload_n 0, 1) := by decide +kernel
theorem dX12_rests_69 : decode cX12_rests 69 = .ok (.iload_n 3, 1) := by decide +kernel
theorem dX12_rests_70 : decode cX12_rests 70 = .ok (.i2l, 1) := by decide +kernel
theorem dX12_rests_71 : decode cX12_rests 71 = .ok (.invokevirtual 358, 3) := by decide +kernel
theorem dX12_rests_74 : decode cX12_rests 74 = .ok (.aload_n 0, 1) := by decide +kernel
theorem dX12_rests_75 : decode cX12_rests 75 = .ok (.iload 4, 2) := by decide +kernel
theorem dX12_rests_77 : decode cX12_rests 77 = .ok (.i2l, 1) := by decide +kernel
theorem dX12_rests_78 : decode cX12_rests 78 = .ok (.invokevirtual 358, 3) := by decide +kernel
theorem dX12_rests_81 : decode cX12_rests 81 = .ok (.iinc 2 1, 3) := by decide +kernel
theorem dX12_rests_84 : decode cX12_rests 84 = .ok (.iinc 4 1, 3) := by decide +kernel
theorem dX12_rests_87 : decode cX12_rests 87 = .ok (.goto (-50), 3) := by decide +kernel
theorem dX12_rests_90 : decode cX12_rests 90 = .ok (.iinc 3 1, 3) := by decide +kernel
theorem dX12_rests_93 : decode cX12_rests 93 = .ok (.goto (-65), 3) := by decide +kernel
theorem dX12_rests_96 : decode cX12_rests 96 = .ok (.iload_n 2, 1) := by decide +kernel
theorem dX12_rests_97 : decode cX12_rests 97 = .ok (.ireturn, 1) := by decide +kernel
theorem dX12_draws_0 : decode cX12_draws 0 = .ok (.aload_n 0, 1) := by decide +kernel
theorem dX12_draws_1 : decode cX12_draws 1 = .ok (.aload_n 0, 1) := by decide +kernel
theorem dX12_draws_2 : decode cX12_draws 2 = .ok (.getfield 442, 3) := by decide +kernel
theorem dX12_draws_5 : decode cX12_draws 5 = .ok (.ldc_w 445, 3) := by decide +kernel
theorem dX12_draws_8 : decode cX12_draws 8 = .ok (.imul, 1) := by decide +kernel
theorem dX12_draws_9 : decode cX12_draws 9 = .ok (.sipush 12345, 3) := by decide +kernel
theorem dX12_draws_12 : decode cX12_draws 12 = .ok (.iadd, 1) := by decide +kernel
theorem dX12_draws_13 : decode cX12_draws 13 = .ok (.putfield 442, 3) := by decide +kernel
theorem dX12_draws_16 : decode cX12_draws 16 = .ok (.aload_n 0, 1) := by decide +kernel
theorem dX12_draws_17 : decode cX12_draws 17 = .ok (.getfield 442, 3) := by decide +kernel
theorem dX12_draws_20 : decode cX12_draws 20 = .ok (.bipush 16, 2) := by decide +kernel
theorem dX12_draws_22 : decode cX12_draws 22 = .ok (.iushr, 1) := by decide +kernel
theorem dX12_draws_23 : decode cX12_draws 23 = .ok (.iload_n 1, 1) := by decide +kernel
theorem dX12_draws_24 : decode cX12_draws 24 = .ok (.irem, 1) := by decide +kernel
theorem dX12_draws_25 : decode cX12_draws 25 = .ok (.ireturn, 1) := by decide +kernel
theorem dX12_years_0 : decode cX12_years 0 = .ok (.aload_n 0, 1) := by decide +kernel
theorem dX12_years_1 : decode cX12_years 1 = .ok (.iconst 0, 1) := by decide +kernel
theorem dX12_years_2 : decode cX12_years 2 = .ok (.putfield 112, 3) := by decide +kernel
theorem dX12_years_5 : decode cX12_years 5 = .ok (.iload_n 2, 1) := by decide +kernel
theorem dX12_years_6 : decode cX12_years 6 = .ok (.i2l, 1) := by decide +kernel
theorem dX12_years_7 : decode cX12_years 7 = .ok (.lconst 1, 1) := by decide +kernel
theorem dX12_years_8 : decode cX12_years 8 = .ok (.ldc2_w 350, 3) := by decide +kernel
theorem dX12_years_11 : decode cX12_years 11 = .ok (.invokestatic 125, 3) := by decide +kernel
theorem dX12_years_14 : decode cX12_years 14 = .ok (.ifCond .ne 5, 3) := by decide +kernel
theorem dX12_years_17 : decode cX12_years 17 = .ok (.iconst (-1), 1) := by decide +kernel
theorem dX12_years_18 : decode cX12_years 18 = .ok (.ireturn, 1) := by decide +kernel
theorem dX12_years_19 : decode cX12_years 19 = .ok (.aload_n 0, 1) := by decide +kernel
theorem dX12_years_20 : decode cX12_years 20 = .ok (.iload_n 1, 1) := by decide +kernel
theorem dX12_years_21 : decode cX12_years 21 = .ok (.putfield 442, 3) := by decide +kernel
theorem dX12_years_24 : decode cX12_years 24 = .ok (.aload_n 0, 1) := by decide +kernel
theorem dX12_years_25 : decode cX12_years 25 = .ok (.invokevirtual 390, 3) := by decide +kernel
theorem dX12_years_28 : decode cX12_years 28 = .ok (.iconst 0, 1) := by decide +kernel
theorem dX12_years_29 : decode cX12_years 29 = .ok (.istore_n 3, 1) := by decide +kernel
theorem dX12_years_30 : decode cX12_years 30 = .ok (.iload_n 3, 1) := by decide +kernel
theorem dX12_years_31 : decode cX12_years 31 = .ok (.iload_n 2, 1) := by decide +kernel
theorem dX12_years_32 : decode cX12_years 32 = .ok (.if_icmp .ge 88, 3) := by decide +kernel
theorem dX12_years_35 : decode cX12_years 35 = .ok (.aload_n 0, 1) := by decide +kernel
theorem dX12_years_36 : decode cX12_years 36 = .ok (.iconst 4, 1) := by decide +kernel
theorem dX12_years_37 : decode cX12_years 37 = .ok (.invokevirtual 446, 3) := by decide +kernel
theorem dX12_years_40 : decode cX12_years 40 = .ok (.istore 4, 2) := by decide +kernel
theorem dX12_years_42 : decode cX12_years 42 = .ok (.iload 4, 2) := by decide +kernel
theorem dX12_years_44 : decode cX12_years 44 = .ok (.iconst 2, 1) := by decide +kernel
theorem dX12_years_45 : decode cX12_years 45 = .ok (.if_icmp .ge 14, 3) := by decide +kernel
theorem dX12_years_48 : decode cX12_years 48 = .ok (.aload_n 0, 1) := by decide +kernel
theorem dX12_years_49 : decode cX12_years 49 = .ok (.aload_n 0, 1) := by decide +kernel
theorem dX12_years_50 : decode cX12_years 50 = .ok (.getfield 34, 3) := by decide +kernel
theorem dX12_years_53 : decode cX12_years 53 = .ok (.invokevirtual 343, 3) := by decide +kernel
theorem dX12_years_56 : decode cX12_years 56 = .ok (.goto 58, 3) := by decide +kernel
theorem dX12_years_59 : decode cX12_years 59 = .ok (.aload_n 0, 1) := by decide +kernel
theorem dX12_years_60 : decode cX12_years 60 = .ok (.getfield 129, 3) := by decide +kernel
theorem dX12_years_63 : decode cX12_years 63 = .ok (.ifCond .le 51, 3) := by decide +kernel
theorem dX12_years_66 : decode cX12_years 66 = .ok (.aload_n 0, 1) := by decide +kernel
theorem dX12_years_67 : decode cX12_years 67 = .ok (.aload_n 0, 1) := by decide +kernel
theorem dX12_years_68 : decode cX12_years 68 = .ok (.getfield 129, 3) := by decide +kernel
theorem dX12_years_71 : decode cX12_years 71 = .ok (.invokevirtual 446, 3) := by decide +kernel
theorem dX12_years_74 : decode cX12_years 74 = .ok (.istore 5, 2) := by decide +kernel
theorem dX12_years_76 : decode cX12_years 76 = .ok (.iload 4, 2) := by decide +kernel
theorem dX12_years_78 : decode cX12_years 78 = .ok (.iconst 2, 1) := by decide +kernel
theorem dX12_years_79 : decode cX12_years 79 = .ok (.if_icmp .ne 17, 3) := by decide +kernel
theorem dX12_years_82 : decode cX12_years 82 = .ok (.aload_n 0, 1) := by decide +kernel
theorem dX12_years_83 : decode cX12_years 83 = .ok (.aload_n 0, 1) := by decide +kernel
theorem dX12_years_84 : decode cX12_years 84 = .ok (.getfield 34, 3) := by decide +kernel
theorem dX12_years_87 : decode cX12_years 87 = .ok (.iload 5, 2) := by decide +kernel
theorem dX12_years_89 : decode cX12_years 89 = .ok (.invokevirtual 362, 3) := by decide +kernel
theorem dX12_years_92 : decode cX12_years 92 = .ok (.pop, 1) := by decide +kernel
theorem dX12_years_93 : decode cX12_years 93 = .ok (.goto 21, 3) := by decide +kernel
theorem dX12_years_96 : decode cX12_years 96 = .ok (.aload_n 0, 1) := by decide +kernel
theorem dX12_years_97 : decode cX12_years 97 = .ok (.aload_n 0, 1) := by decide +kernel
theorem dX12_years_98 : decode cX12_years 98 = .ok (.getfield 34, 3) := by decide +kernel
theorem dX12_years_101 : decode cX12_years 101 = .ok (.iload 5, 2) := by decide +kernel
theorem dX12_years_103 : decode cX12_years 103 = .ok (.aload_n 0, 1) := by decide +kernel
theorem dX12_years_104 : decode cX12_years 104 = .ok (.iconst 5, 1) := by decide +kernel
theorem dX12_years_105 : decode cX12_years 105 = .ok (.invokevirtual 446, 3) := by decide +kernel
theorem dX12_years_108 : decode cX12_years 108 = .ok (.iconst 2, 1) := by decide +kernel
theorem dX12_years_109 : decode cX12_years 109 = .ok (.isub, 1) := by decide +kernel
theorem dX12_years_110 : decode cX12_years 110 = .ok (.invokevirtual 368, 3) := by decide +kernel
theorem dX12_years_113 : decode cX12_years 113 = .ok (.pop, 1) := by decide +kernel
theorem dX12_years_114 : decode cX12_years 114 = .ok (.iinc 3 1, 3) := by decide +kernel
theorem dX12_years_117 : decode cX12_years 117 = .ok (.goto (-87), 3) := by decide +kernel
theorem dX12_years_120 : decode cX12_years 120 = .ok (.aload_n 0, 1) := by decide +kernel
theorem dX12_years_121 : decode cX12_years 121 = .ok (.aload_n 0, 1) := by decide +kernel
theorem dX12_years_122 : decode cX12_years 122 = .ok (.getfield 34, 3) := by decide +kernel
theorem dX12_years_125 : decode cX12_years 125 = .ok (.iconst 1, 1) := by decide +kernel
theorem dX12_years_126 : decode cX12_years 126 = .ok (.invokevirtual 397, 3) := by decide +kernel
theorem dX12_years_129 : decode cX12_years 129 = .ok (.aload_n 0, 1) := by decide +kernel
theorem dX12_years_130 : decode cX12_years 130 = .ok (.aload_n 0, 1) := by decide +kernel
theorem dX12_years_131 : decode cX12_years 131 = .ok (.getfield 34, 3) := by decide +kernel
theorem dX12_years_134 : decode cX12_years 134 = .ok (.iconst 0, 1) := by decide +kernel
theorem dX12_years_135 : decode cX12_years 135 = .ok (.invokevirtual 397, 3) := by decide +kernel
theorem dX12_years_138 : decode cX12_years 138 = .ok (.ior, 1) := by decide +kernel
theorem dX12_years_139 : decode cX12_years 139 = .ok (.istore_n 3, 1) := by decide +kernel
theorem dX12_years_140 : decode cX12_years 140 = .ok (.aload_n 0, 1) := by decide +kernel
theorem dX12_years_141 : decode cX12_years 141 = .ok (.iconst 0, 1) := by decide +kernel
theorem dX12_years_142 : decode cX12_years 142 = .ok (.putfield 119, 3) := by decide +kernel
theorem dX12_years_145 : decode cX12_years 145 = .ok (.aload_n 0, 1) := by decide +kernel
theorem dX12_years_146 : decode cX12_years 146 = .ok (.iload_n 3, 1) := by decide +kernel
theorem dX12_years_147 : decode cX12_years 147 = .ok (.invokestatic 279, 3) := by decide +kernel
theorem dX12_years_150 : decode cX12_years 150 = .ok (.i2l, 1) := by decide +kernel
theorem dX12_years_151 : decode cX12_years 151 = .ok (.invokevirtual 358, 3) := by decide +kernel
theorem dX12_years_154 : decode cX12_years 154 = .ok (.aload_n 0, 1) := by decide +kernel
theorem dX12_years_155 : decode cX12_years 155 = .ok (.aload_n 0, 1) := by decide +kernel
theorem dX12_years_156 : decode cX12_years 156 = .ok (.aload_n 0, 1) := by decide +kernel
theorem dX12_years_157 : decode cX12_years 157 = .ok (.getfield 34, 3) := by decide +kernel
theorem dX12_years_160 : decode cX12_years 160 = .ok (.iconst 1, 1) := by decide +kernel
theorem dX12_years_161 : decode cX12_years 161 = .ok (.invokevirtual 397, 3) := by decide +kernel
theorem dX12_years_164 : decode cX12_years 164 = .ok (.invokestatic 279, 3) := by decide +kernel
theorem dX12_years_167 : decode cX12_years 167 = .ok (.i2l, 1) := by decide +kernel
theorem dX12_years_168 : decode cX12_years 168 = .ok (.invokevirtual 358, 3) := by decide +kernel
theorem dX12_years_171 : decode cX12_years 171 = .ok (.aload_n 0, 1) := by decide +kernel
theorem dX12_years_172 : decode cX12_years 172 = .ok (.getfield 34, 3) := by decide +kernel
theorem dX12_years_175 : decode cX12_years 175 = .ok (.bipush 12, 2) := by decide +kernel
theorem dX12_years_177 : decode cX12_years 177 = .ok (.iaload, 1) := by decide +kernel
theorem dX12_years_178 : decode cX12_years 178 = .ok (.ireturn, 1) := by decide +kernel
theorem dX12_keep_0 : decode cX12_keep 0 = .ok (.aload_n 0, 1) := by decide +kernel
theorem dX12_keep_1 : decode cX12_keep 1 = .ok (.iconst 0, 1) := by decide +kernel
theorem dX12_keep_2 : decode cX12_keep 2 = .ok (.putfield 112, 3) := by decide +kernel
theorem dX12_keep_5 : decode cX12_keep 5 = .ok (.iload_n 1, 1) := by decide +kernel
theorem dX12_keep_6 : decode cX12_keep 6 = .ok (.i2l, 1) := by decide +kernel
theorem dX12_keep_7 : decode cX12_keep 7 = .ok (.lconst 0, 1) := by decide +kernel
theorem dX12_keep_8 : decode cX12_keep 8 = .ok (.ldc2_w 449, 3) := by decide +kernel
theorem dX12_keep_11 : decode cX12_keep 11 = .ok (.invokestatic 125, 3) := by decide +kernel
theorem dX12_keep_14 : decode cX12_keep 14 = .ok (.ifCond .ne 5, 3) := by decide +kernel
theorem dX12_keep_17 : decode cX12_keep 17 = .ok (.iconst 0, 1) := by decide +kernel
theorem dX12_keep_18 : decode cX12_keep 18 = .ok (.ireturn, 1) := by decide +kernel
theorem dX12_keep_19 : decode cX12_keep 19 = .ok (.aload_n 0, 1) := by decide +kernel
theorem dX12_keep_20 : decode cX12_keep 20 = .ok (.getfield 103, 3) := by decide +kernel
theorem dX12_keep_23 : decode cX12_keep 23 = .ok (.iload_n 1, 1) := by decide +kernel
theorem dX12_keep_24 : decode cX12_keep 24 = .ok (.iconst 1, 1) := by decide +kernel
theorem dX12_keep_25 : decode cX12_keep 25 = .ok (.bastore, 1) := by decide +kernel
theorem dX12_keep_26 : decode cX12_keep 26 = .ok (.aload_n 0, 1) := by decide +kernel
theorem dX12_keep_27 : decode cX12_keep 27 = .ok (.getfield 106, 3) := by decide +kernel
theorem dX12_keep_30 : decode cX12_keep 30 = .ok (.iload_n 1, 1) := by decide +kernel
theorem dX12_keep_31 : decode cX12_keep 31 = .ok (.aload_n 0, 1) := by decide +kernel
theorem dX12_keep_32 : decode cX12_keep 32 = .ok (.getfield 211, 3) := by decide +kernel
theorem dX12_keep_35 : decode cX12_keep 35 = .ok (.iastore, 1) := by decide +kernel
theorem dX12_keep_36 : decode cX12_keep 36 = .ok (.iconst 0, 1) := by decide +kernel
theorem dX12_keep_37 : decode cX12_keep 37 = .ok (.istore_n 2, 1) := by decide +kernel
theorem dX12_keep_38 : decode cX12_keep 38 = .ok (.iload_n 2, 1) := by decide +kernel
theorem dX12_keep_39 : decode cX12_keep 39 = .ok (.bipush 38, 2) := by decide +kernel
theorem dX12_keep_41 : decode cX12_keep 41 = .ok (.if_icmp .ge 26, 3) := by decide +kernel
theorem dX12_keep_44 : decode cX12_keep 44 = .ok (.aload_n 0, 1) := by decide +kernel
theorem dX12_keep_45 : decode cX12_keep 45 = .ok (.getfield 109, 3) := by decide +kernel
theorem dX12_keep_48 : decode cX12_keep 48 = .ok (.bipush 38, 2) := by decide +kernel
theorem dX12_keep_50 : decode cX12_keep 50 = .ok (.iload_n 1, 1) := by decide +kernel
theorem dX12_keep_51 : decode cX12_keep 51 = .ok (.imul, 1) := by decide +kernel
theorem dX12_keep_52 : decode cX12_keep 52 = .ok (.iload_n 2, 1) := by decide +kernel
theorem dX12_keep_53 : decode cX12_keep 53 = .ok (.iadd, 1) := by decide +kernel
theorem dX12_keep_54 : decode cX12_keep 54 = .ok (.aload_n 0, 1) := by decide +kernel
theorem dX12_keep_55 : decode cX12_keep 55 = .ok (.getfield 31, 3) := by decide +kernel
theorem dX12_keep_58 : decode cX12_keep 58 = .ok (.iload_n 2, 1) := by decide +kernel
theorem dX12_keep_59 : decode cX12_keep 59 = .ok (.iaload, 1) := by decide +kernel
theorem dX12_keep_60 : decode cX12_keep 60 = .ok (.iastore, 1) := by decide +kernel
theorem dX12_keep_61 : decode cX12_keep 61 = .ok (.iinc 2 1, 3) := by decide +kernel
theorem dX12_keep_64 : decode cX12_keep 64 = .ok (.goto (-26), 3) := by decide +kernel
theorem dX12_keep_67 : decode cX12_keep 67 = .ok (.iconst 1, 1) := by decide +kernel
theorem dX12_keep_68 : decode cX12_keep 68 = .ok (.ireturn, 1) := by decide +kernel
theorem dX12_again_0 : decode cX12_again 0 = .ok (.aload_n 0, 1) := by decide +kernel
theorem dX12_again_1 : decode cX12_again 1 = .ok (.iconst 0, 1) := by decide +kernel
theorem dX12_again_2 : decode cX12_again 2 = .ok (.putfield 112, 3) := by decide +kernel
theorem dX12_again_5 : decode cX12_again 5 = .ok (.iload_n 1, 1) := by decide +kernel
theorem dX12_again_6 : decode cX12_again 6 = .ok (.i2l, 1) := by decide +kernel
theorem dX12_again_7 : decode cX12_again 7 = .ok (.lconst 0, 1) := by decide +kernel
theorem dX12_again_8 : decode cX12_again 8 = .ok (.ldc2_w 449, 3) := by decide +kernel
theorem dX12_again_11 : decode cX12_again 11 = .ok (.invokestatic 125, 3) := by decide +kernel
theorem dX12_again_14 : decode cX12_again 14 = .ok (.ifCond .eq 25, 3) := by decide +kernel
theorem dX12_again_17 : decode cX12_again 17 = .ok (.aload_n 0, 1) := by decide +kernel
theorem dX12_again_18 : decode cX12_again 18 = .ok (.getfield 103, 3) := by decide +kernel
theorem dX12_again_21 : decode cX12_again 21 = .ok (.iload_n 1, 1) := by decide +kernel
theorem dX12_again_22 : decode cX12_again 22 = .ok (.baload, 1) := by decide +kernel
theorem dX12_again_23 : decode cX12_again 23 = .ok (.ifCond .eq 16, 3) := by decide +kernel
theorem dX12_again_26 : decode cX12_again 26 = .ok (.aload_n 0, 1) := by decide +kernel
theorem dX12_again_27 : decode cX12_again 27 = .ok (.getfield 106, 3) := by decide +kernel
theorem dX12_again_30 : decode cX12_again 30 = .ok (.iload_n 1, 1) := by decide +kernel
theorem dX12_again_31 : decode cX12_again 31 = .ok (.iaload, 1) := by decide +kernel
theorem dX12_again_32 : decode cX12_again 32 = .ok (.aload_n 0, 1) := by decide +kernel
theorem dX12_again_33 : decode cX12_again 33 = .ok (.getfield 211, 3) := by decide +kernel
theorem dX12_again_36 : decode cX12_again 36 = .ok (.if_icmp .eq 5, 3) := by decide +kernel
theorem dX12_again_39 : decode cX12_again 39 = .ok (.iconst 0, 1) := by decide +kernel
theorem dX12_again_40 : decode cX12_again 40 = .ok (.ireturn, 1) := by decide +kernel
theorem dX12_again_41 : decode cX12_again 41 = .ok (.iconst 0, 1) := by decide +kernel
theorem dX12_again_42 : decode cX12_again 42 = .ok (.istore_n 2, 1) := by decide +kernel
theorem dX12_again_43 : decode cX12_again 43 = .ok (.iload_n 2, 1) := by decide +kernel
theorem dX12_again_44 : decode cX12_again 44 = .ok (.bipush 38, 2) := by decide +kernel
theorem dX12_again_46 : decode cX12_again 46 = .ok (.if_icmp .ge 26, 3) := by decide +kernel
theorem dX12_again_49 : decode cX12_again 49 = .ok (.aload_n 0, 1) := by decide +kernel
theorem dX12_again_50 : decode cX12_again 50 = .ok (.getfield 31, 3) := by decide +kernel
theorem dX12_again_53 : decode cX12_again 53 = .ok (.iload_n 2, 1) := by decide +kernel
theorem dX12_again_54 : decode cX12_again 54 = .ok (.aload_n 0, 1) := by decide +kernel
theorem dX12_again_55 : decode cX12_again 55 = .ok (.getfield 109, 3) := by decide +kernel
theorem dX12_again_58 : decode cX12_again 58 = .ok (.bipush 38, 2) := by decide +kernel
theorem dX12_again_60 : decode cX12_again 60 = .ok (.iload_n 1, 1) := by decide +kernel
theorem dX12_again_61 : decode cX12_again 61 = .ok (.imul, 1) := by decide +kernel
theorem dX12_again_62 : decode cX12_again 62 = .ok (.iload_n 2, 1) := by decide +kernel
theorem dX12_again_63 : decode cX12_again 63 = .ok (.iadd, 1) := by decide +kernel
theorem dX12_again_64 : decode cX12_again 64 = .ok (.iaload, 1) := by decide +kernel
theorem dX12_again_65 : decode cX12_again 65 = .ok (.iastore, 1) := by decide +kernel
theorem dX12_again_66 : decode cX12_again 66 = .ok (.iinc 2 1, 3) := by decide +kernel
theorem dX12_again_69 : decode cX12_again 69 = .ok (.goto (-26), 3) := by decide +kernel
theorem dX12_again_72 : decode cX12_again 72 = .ok (.aload_n 0, 1) := by decide +kernel
theorem dX12_again_73 : decode cX12_again 73 = .ok (.iconst 0, 1) := by decide +kernel
theorem dX12_again_74 : decode cX12_again 74 = .ok (.putfield 186, 3) := by decide +kernel
theorem dX12_again_77 : decode cX12_again 77 = .ok (.iconst 1, 1) := by decide +kernel
theorem dX12_again_78 : decode cX12_again 78 = .ok (.ireturn, 1) := by decide +kernel
theorem dX12_count_0 : decode cX12_count 0 = .ok (.aload_n 0, 1) := by decide +kernel
theorem dX12_count_1 : decode cX12_count 1 = .ok (.iconst 0, 1) := by decide +kernel
theorem dX12_count_2 : decode cX12_count 2 = .ok (.putfield 112, 3) := by decide +kernel
theorem dX12_count_5 : decode cX12_count 5 = .ok (.iconst 0, 1) := by decide +kernel
theorem dX12_count_6 : decode cX12_count 6 = .ok (.istore_n 2, 1) := by decide +kernel
theorem dX12_count_7 : decode cX12_count 7 = .ok (.iconst 0, 1) := by decide +kernel
theorem dX12_count_8 : decode cX12_count 8 = .ok (.istore_n 3, 1) := by decide +kernel
theorem dX12_count_9 : decode cX12_count 9 = .ok (.iload_n 3, 1) := by decide +kernel
theorem dX12_count_10 : decode cX12_count 10 = .ok (.aload_n 0, 1) := by decide +kernel
theorem dX12_count_11 : decode cX12_count 11 = .ok (.getfield 13, 3) := by decide +kernel
theorem dX12_count_14 : decode cX12_count 14 = .ok (.if_icmp .ge 21, 3) := by decide +kernel
theorem dX12_count_17 : decode cX12_count 17 = .ok (.iload_n 2, 1) := by decide +kernel
theorem dX12_count_18 : decode cX12_count 18 = .ok (.aload_n 0, 1) := by decide +kernel
theorem dX12_count_19 : decode cX12_count 19 = .ok (.getfield 20, 3) := by decide +kernel
theorem dX12_count_22 : decode cX12_count 22 = .ok (.iload_n 3, 1) := by decide +kernel
theorem dX12_count_23 : decode cX12_count 23 = .ok (.baload, 1) := by decide +kernel
theorem dX12_count_24 : decode cX12_count 24 = .ok (.invokestatic 154, 3) := by decide +kernel
theorem dX12_count_27 : decode cX12_count 27 = .ok (.iadd, 1) := by decide +kernel
theorem dX12_count_28 : decode cX12_count 28 = .ok (.istore_n 2, 1) := by decide +kernel
theorem dX12_count_29 : decode cX12_count 29 = .ok (.iinc 3 1, 3) := by decide +kernel
theorem dX12_count_32 : decode cX12_count 32 = .ok (.goto (-23), 3) := by decide +kernel
theorem dX12_count_35 : decode cX12_count 35 = .ok (.iload_n 1, 1) := by decide +kernel
theorem dX12_count_36 : decode cX12_count 36 = .ok (.tableswitch 169 0 12 #[68, 73, 78, 83, 91, 99, 122, 135, 137, 149, 154, 159, 164], 68) := by decide +kernel
theorem dX12_count_104 : decode cX12_count 104 = .ok (.aload_n 0, 1) := by decide +kernel
theorem dX12_count_105 : decode cX12_count 105 = .ok (.getfield 13, 3) := by decide +kernel
theorem dX12_count_108 : decode cX12_count 108 = .ok (.ireturn, 1) := by decide +kernel
theorem dX12_count_109 : decode cX12_count 109 = .ok (.aload_n 0, 1) := by decide +kernel
theorem dX12_count_110 : decode cX12_count 110 = .ok (.getfield 122, 3) := by decide +kernel
theorem dX12_count_113 : decode cX12_count 113 = .ok (.ireturn, 1) := by decide +kernel
theorem dX12_count_114 : decode cX12_count 114 = .ok (.aload_n 0, 1) := by decide +kernel
theorem dX12_count_115 : decode cX12_count 115 = .ok (.getfield 129, 3) := by decide +kernel
theorem dX12_count_118 : decode cX12_count 118 = .ok (.ireturn, 1) := by decide +kernel
theorem dX12_count_119 : decode cX12_count 119 = .ok (.aload_n 0, 1) := by decide +kernel
theorem dX12_count_120 : decode cX12_count 120 = .ok (.getfield 31, 3) := by decide +kernel
theorem dX12_count_123 : decode cX12_count 123 = .ok (.bipush 37, 2) := by decide +kernel
theorem dX12_count_125 : decode cX12_count 125 = .ok (.iaload, 1) := by decide +kernel
theorem dX12_count_126 : decode cX12_count 126 = .ok (.ireturn, 1) := by decide +kernel
theorem dX12_count_127 : decode cX12_count 127 = .ok (.aload_n 0, 1) := by decide +kernel
theorem dX12_count_128 : decode cX12_count 128 = .ok (.getfield 31, 3) := by decide +kernel
theorem dX12_count_131 : decode cX12_count 131 = .ok (.bipush 12, 2) := by decide +kernel
theorem dX12_count_133 : decode cX12_count 133 = .ok (.iaload, 1) := by decide +kernel
theorem dX12_count_134 : decode cX12_count 134 = .ok (.ireturn, 1) := by decide +kernel
theorem dX12_count_135 : decode cX12_count 135 = .ok (.aload_n 0, 1) := by decide +kernel
theorem dX12_count_136 : decode cX12_count 136 = .ok (.aload_n 0, 1) := by decide +kernel
theorem dX12_count_137 : decode cX12_count 137 = .ok (.getfield 31, 3) := by decide +kernel
theorem dX12_count_140 : decode cX12_count 140 = .ok (.iconst 1, 1) := by decide +kernel
theorem dX12_count_141 : decode cX12_count 141 = .ok (.invokevirtual 397, 3) := by decide +kernel
theorem dX12_count_144 : decode cX12_count 144 = .ok (.aload_n 0, 1) := by decide +kernel
theorem dX12_count_145 : decode cX12_count 145 = .ok (.aload_n 0, 1) := by decide +kernel
theorem dX12_count_146 : decode cX12_count 146 = .ok (.getfield 31, 3) := by decide +kernel
theorem dX12_count_149 : decode cX12_count 149 = .ok (.iconst 0, 1) := by decide +kernel
theorem dX12_count_150 : decode cX12_count 150 = .ok (.invokevirtual 397, 3) := by decide +kernel
theorem dX12_count_153 : decode cX12_count 153 = .ok (.ior, 1) := by decide +kernel
theorem dX12_count_154 : decode cX12_count 154 = .ok (.invokestatic 279, 3) := by decide +kernel
theorem dX12_count_157 : decode cX12_count 157 = .ok (.ireturn, 1) := by decide +kernel
theorem dX12_count_158 : decode cX12_count 158 = .ok (.aload_n 0, 1) := by decide +kernel
theorem dX12_count_159 : decode cX12_count 159 = .ok (.aload_n 0, 1) := by decide +kernel
theorem dX12_count_160 : decode cX12_count 160 = .ok (.getfield 31, 3) := by decide +kernel
theorem dX12_count_163 : decode cX12_count 163 = .ok (.iconst 1, 1) := by decide +kernel
theorem dX12_count_164 : decode cX12_count 164 = .ok (.invokevirtual 397, 3) := by decide +kernel
theorem dX12_count_167 : decode cX12_count 167 = .ok (.invokestatic 279, 3) := by decide +kernel
theorem dX12_count_170 : decode cX12_count 170 = .ok (.ireturn, 1) := by decide +kernel
theorem dX12_count_171 : decode cX12_count 171 = .ok (.iload_n 2, 1) := by decide +kernel
theorem dX12_count_172 : decode cX12_count 172 = .ok (.ireturn, 1) := by decide +kernel
theorem dX12_count_173 : decode cX12_count 173 = .ok (.aload_n 0, 1) := by decide +kernel
theorem dX12_count_174 : decode cX12_count 174 = .ok (.aload_n 0, 1) := by decide +kernel
theorem dX12_count_175 : decode cX12_count 175 = .ok (.getfield 31, 3) := by decide +kernel
theorem dX12_count_178 : decode cX12_count 178 = .ok (.bipush 37, 2) := by decide +kernel
theorem dX12_count_180 : decode cX12_count 180 = .ok (.iaload, 1) := by decide +kernel
theorem dX12_count_181 : decode cX12_count 181 = .ok (.invokevirtual 272, 3) := by decide +kernel
theorem dX12_count_184 : decode cX12_count 184 = .ok (.ireturn, 1) := by decide +kernel
theorem dX12_count_185 : decode cX12_count 185 = .ok (.aload_n 0, 1) := by decide +kernel
theorem dX12_count_186 : decode cX12_count 186 = .ok (.getfield 423, 3) := by decide +kernel
theorem dX12_count_189 : decode cX12_count 189 = .ok (.ireturn, 1) := by decide +kernel
theorem dX12_count_190 : decode cX12_count 190 = .ok (.aload_n 0, 1) := by decide +kernel
theorem dX12_count_191 : decode cX12_count 191 = .ok (.getfield 186, 3) := by decide +kernel
theorem dX12_count_194 : decode cX12_count 194 = .ok (.ireturn, 1) := by decide +kernel
theorem dX12_count_195 : decode cX12_count 195 = .ok (.aload_n 0, 1) := by decide +kernel
theorem dX12_count_196 : decode cX12_count 196 = .ok (.getfield 119, 3) := by decide +kernel
theorem dX12_count_199 : decode cX12_count 199 = .ok (.ireturn, 1) := by decide +kernel
theorem dX12_count_200 : decode cX12_count 200 = .ok (.aload_n 0, 1) := by decide +kernel
theorem dX12_count_201 : decode cX12_count 201 = .ok (.getfield 136, 3) := by decide +kernel
theorem dX12_count_204 : decode cX12_count 204 = .ok (.ireturn, 1) := by decide +kernel
theorem dX12_count_205 : decode cX12_count 205 = .ok (.bipush (-100), 2) := by decide +kernel
theorem dX12_count_207 : decode cX12_count 207 = .ok (.ireturn, 1) := by decide +kernel
theorem dX12_row_0 : decode cX12_row 0 = .ok (.aload_n 0, 1) := by decide +kernel
theorem dX12_row_1 : decode cX12_row 1 = .ok (.iconst 0, 1) := by decide +kernel
theorem dX12_row_2 : decode cX12_row 2 = .ok (.putfield 112, 3) := by decide +kernel
theorem dX12_row_5 : decode cX12_row 5 = .ok (.iload_n 1, 1) := by decide +kernel
theorem dX12_row_6 : decode cX12_row 6 = .ok (.i2l, 1) := by decide +kernel
theorem dX12_row_7 : decode cX12_row 7 = .ok (.lconst 0, 1) := by decide +kernel
theorem dX12_row_8 : decode cX12_row 8 = .ok (.aload_n 0, 1) := by decide +kernel
theorem dX12_row_9 : decode cX12_row 9 = .ok (.getfield 119, 3) := by decide +kernel
theorem dX12_row_12 : decode cX12_row 12 = .ok (.iconst 1, 1) := by decide +kernel
theorem dX12_row_13 : decode cX12_row 13 = .ok (.isub, 1) := by decide +kernel
theorem dX12_row_14 : decode cX12_row 14 = .ok (.i2l, 1) := by decide +kernel
theorem dX12_row_15 : decode cX12_row 15 = .ok (.invokestatic 125, 3) := by decide +kernel
theorem dX12_row_18 : decode cX12_row 18 = .ok (.ifCond .ne 10, 3) := by decide +kernel
theorem dX12_row_21 : decode cX12_row 21 = .ok (.aload_n 0, 1) := by decide +kernel
theorem dX12_row_22 : decode cX12_row 22 = .ok (.iconst 1, 1) := by decide +kernel
theorem dX12_row_23 : decode cX12_row 23 = .ok (.putfield 112, 3) := by decide +kernel
theorem dX12_row_26 : decode cX12_row 26 = .ok (.lconst 0, 1) := by decide +kernel
theorem dX12_row_27 : decode cX12_row 27 = .ok (.lreturn, 1) := by decide +kernel
theorem dX12_row_28 : decode cX12_row 28 = .ok (.aload_n 0, 1) := by decide +kernel
theorem dX12_row_29 : decode cX12_row 29 = .ok (.getfield 9, 3) := by decide +kernel
theorem dX12_row_32 : decode cX12_row 32 = .ok (.iload_n 1, 1) := by decide +kernel
theorem dX12_row_33 : decode cX12_row 33 = .ok (.laload, 1) := by decide +kernel
theorem dX12_row_34 : decode cX12_row 34 = .ok (.lreturn, 1) := by decide +kernel
theorem dJ11_isValidCodePoint_9a6ad_0 : decode cJ11_isValidCodePoint_9a6ad 0 = .ok (.iload_n 0, 1) := by decide +kernel
theorem dJ11_isValidCodePoint_9a6ad_1 : decode cJ11_isValidCodePoint_9a6ad 1 = .ok (.bipush 16, 2) := by decide +kernel
theorem dJ11_isValidCodePoint_9a6ad_3 : decode cJ11_isValidCodePoint_9a6ad 3 = .ok (.iushr, 1) := by decide +kernel
theorem dJ11_isValidCodePoint_9a6ad_4 : decode cJ11_isValidCodePoint_9a6ad 4 = .ok (.istore_n 1, 1) := by decide +kernel
theorem dJ11_isValidCodePoint_9a6ad_5 : decode cJ11_isValidCodePoint_9a6ad 5 = .ok (.iload_n 1, 1) := by decide +kernel
theorem dJ11_isValidCodePoint_9a6ad_6 : decode cJ11_isValidCodePoint_9a6ad 6 = .ok (.bipush 17, 2) := by decide +kernel
theorem dJ11_isValidCodePoint_9a6ad_8 : decode cJ11_isValidCodePoint_9a6ad 8 = .ok (.if_icmp .ge 7, 3) := by decide +kernel
theorem dJ11_isValidCodePoint_9a6ad_11 : decode cJ11_isValidCodePoint_9a6ad 11 = .ok (.iconst 1, 1) := by decide +kernel
theorem dJ11_isValidCodePoint_9a6ad_12 : decode cJ11_isValidCodePoint_9a6ad 12 = .ok (.goto 4, 3) := by decide +kernel
theorem dJ11_isValidCodePoint_9a6ad_15 : decode cJ11_isValidCodePoint_9a6ad 15 = .ok (.iconst 0, 1) := by decide +kernel
theorem dJ11_isValidCodePoint_9a6ad_16 : decode cJ11_isValidCodePoint_9a6ad 16 = .ok (.ireturn, 1) := by decide +kernel
theorem dJ11_highSurrogate_5068e_0 : decode cJ11_highSurrogate_5068e 0 = .ok (.iload_n 0, 1) := by decide +kernel
theorem dJ11_highSurrogate_5068e_1 : decode cJ11_highSurrogate_5068e 1 = .ok (.bipush 10, 2) := by decide +kernel
theorem dJ11_highSurrogate_5068e_3 : decode cJ11_highSurrogate_5068e 3 = .ok (.iushr, 1) := by decide +kernel
theorem dJ11_highSurrogate_5068e_4 : decode cJ11_highSurrogate_5068e 4 = .ok (.ldc 110, 2) := by decide +kernel
theorem dJ11_highSurrogate_5068e_6 : decode cJ11_highSurrogate_5068e 6 = .ok (.iadd, 1) := by decide +kernel
theorem dJ11_highSurrogate_5068e_7 : decode cJ11_highSurrogate_5068e 7 = .ok (.i2c, 1) := by decide +kernel
theorem dJ11_highSurrogate_5068e_8 : decode cJ11_highSurrogate_5068e 8 = .ok (.ireturn, 1) := by decide +kernel
theorem dJ11_lowSurrogate_5068e_0 : decode cJ11_lowSurrogate_5068e 0 = .ok (.iload_n 0, 1) := by decide +kernel
theorem dJ11_lowSurrogate_5068e_1 : decode cJ11_lowSurrogate_5068e 1 = .ok (.sipush 1023, 3) := by decide +kernel
theorem dJ11_lowSurrogate_5068e_4 : decode cJ11_lowSurrogate_5068e 4 = .ok (.iand, 1) := by decide +kernel
theorem dJ11_lowSurrogate_5068e_5 : decode cJ11_lowSurrogate_5068e 5 = .ok (.ldc 76, 2) := by decide +kernel
theorem dJ11_lowSurrogate_5068e_7 : decode cJ11_lowSurrogate_5068e 7 = .ok (.iadd, 1) := by decide +kernel
theorem dJ11_lowSurrogate_5068e_8 : decode cJ11_lowSurrogate_5068e 8 = .ok (.i2c, 1) := by decide +kernel
theorem dJ11_lowSurrogate_5068e_9 : decode cJ11_lowSurrogate_5068e 9 = .ok (.ireturn, 1) := by decide +kernel
theorem dJ6_bitCount_0f7a4_0 : decode cJ6_bitCount_0f7a4 0 = .ok (.iload_n 0, 1) := by decide +kernel
theorem dJ6_bitCount_0f7a4_1 : decode cJ6_bitCount_0f7a4 1 = .ok (.iload_n 0, 1) := by decide +kernel
theorem dJ6_bitCount_0f7a4_2 : decode cJ6_bitCount_0f7a4 2 = .ok (.iconst 1, 1) := by decide +kernel
theorem dJ6_bitCount_0f7a4_3 : decode cJ6_bitCount_0f7a4 3 = .ok (.iushr, 1) := by decide +kernel
theorem dJ6_bitCount_0f7a4_4 : decode cJ6_bitCount_0f7a4 4 = .ok (.ldc_w 265, 3) := by decide +kernel
theorem dJ6_bitCount_0f7a4_7 : decode cJ6_bitCount_0f7a4 7 = .ok (.iand, 1) := by decide +kernel
theorem dJ6_bitCount_0f7a4_8 : decode cJ6_bitCount_0f7a4 8 = .ok (.isub, 1) := by decide +kernel
theorem dJ6_bitCount_0f7a4_9 : decode cJ6_bitCount_0f7a4 9 = .ok (.istore_n 0, 1) := by decide +kernel
theorem dJ6_bitCount_0f7a4_10 : decode cJ6_bitCount_0f7a4 10 = .ok (.iload_n 0, 1) := by decide +kernel
theorem dJ6_bitCount_0f7a4_11 : decode cJ6_bitCount_0f7a4 11 = .ok (.ldc_w 266, 3) := by decide +kernel
theorem dJ6_bitCount_0f7a4_14 : decode cJ6_bitCount_0f7a4 14 = .ok (.iand, 1) := by decide +kernel
theorem dJ6_bitCount_0f7a4_15 : decode cJ6_bitCount_0f7a4 15 = .ok (.iload_n 0, 1) := by decide +kernel
theorem dJ6_bitCount_0f7a4_16 : decode cJ6_bitCount_0f7a4 16 = .ok (.iconst 2, 1) := by decide +kernel
theorem dJ6_bitCount_0f7a4_17 : decode cJ6_bitCount_0f7a4 17 = .ok (.iushr, 1) := by decide +kernel
theorem dJ6_bitCount_0f7a4_18 : decode cJ6_bitCount_0f7a4 18 = .ok (.ldc_w 266, 3) := by decide +kernel
theorem dJ6_bitCount_0f7a4_21 : decode cJ6_bitCount_0f7a4 21 = .ok (.iand, 1) := by decide +kernel
theorem dJ6_bitCount_0f7a4_22 : decode cJ6_bitCount_0f7a4 22 = .ok (.iadd, 1) := by decide +kernel
theorem dJ6_bitCount_0f7a4_23 : decode cJ6_bitCount_0f7a4 23 = .ok (.istore_n 0, 1) := by decide +kernel
theorem dJ6_bitCount_0f7a4_24 : decode cJ6_bitCount_0f7a4 24 = .ok (.iload_n 0, 1) := by decide +kernel
theorem dJ6_bitCount_0f7a4_25 : decode cJ6_bitCount_0f7a4 25 = .ok (.iload_n 0, 1) := by decide +kernel
theorem dJ6_bitCount_0f7a4_26 : decode cJ6_bitCount_0f7a4 26 = .ok (.iconst 4, 1) := by decide +kernel
theorem dJ6_bitCount_0f7a4_27 : decode cJ6_bitCount_0f7a4 27 = .ok (.iushr, 1) := by decide +kernel
theorem dJ6_bitCount_0f7a4_28 : decode cJ6_bitCount_0f7a4 28 = .ok (.iadd, 1) := by decide +kernel
theorem dJ6_bitCount_0f7a4_29 : decode cJ6_bitCount_0f7a4 29 = .ok (.ldc_w 267, 3) := by decide +kernel
theorem dJ6_bitCount_0f7a4_32 : decode cJ6_bitCount_0f7a4 32 = .ok (.iand, 1) := by decide +kernel
theorem dJ6_bitCount_0f7a4_33 : decode cJ6_bitCount_0f7a4 33 = .ok (.istore_n 0, 1) := by decide +kernel
theorem dJ6_bitCount_0f7a4_34 : decode cJ6_bitCount_0f7a4 34 = .ok (.iload_n 0, 1) := by decide +kernel
theorem dJ6_bitCount_0f7a4_35 : decode cJ6_bitCount_0f7a4 35 = .ok (.iload_n 0, 1) := by decide +kernel
theorem dJ6_bitCount_0f7a4_36 : decode cJ6_bitCount_0f7a4 36 = .ok (.bipush 8, 2) := by decide +kernel
theorem dJ6_bitCount_0f7a4_38 : decode cJ6_bitCount_0f7a4 38 = .ok (.iushr, 1) := by decide +kernel
theorem dJ6_bitCount_0f7a4_39 : decode cJ6_bitCount_0f7a4 39 = .ok (.iadd, 1) := by decide +kernel
theorem dJ6_bitCount_0f7a4_40 : decode cJ6_bitCount_0f7a4 40 = .ok (.istore_n 0, 1) := by decide +kernel
theorem dJ6_bitCount_0f7a4_41 : decode cJ6_bitCount_0f7a4 41 = .ok (.iload_n 0, 1) := by decide +kernel
theorem dJ6_bitCount_0f7a4_42 : decode cJ6_bitCount_0f7a4 42 = .ok (.iload_n 0, 1) := by decide +kernel
theorem dJ6_bitCount_0f7a4_43 : decode cJ6_bitCount_0f7a4 43 = .ok (.bipush 16, 2) := by decide +kernel
theorem dJ6_bitCount_0f7a4_45 : decode cJ6_bitCount_0f7a4 45 = .ok (.iushr, 1) := by decide +kernel
theorem dJ6_bitCount_0f7a4_46 : decode cJ6_bitCount_0f7a4 46 = .ok (.iadd, 1) := by decide +kernel
theorem dJ6_bitCount_0f7a4_47 : decode cJ6_bitCount_0f7a4 47 = .ok (.istore_n 0, 1) := by decide +kernel
theorem dJ6_bitCount_0f7a4_48 : decode cJ6_bitCount_0f7a4 48 = .ok (.iload_n 0, 1) := by decide +kernel
theorem dJ6_bitCount_0f7a4_49 : decode cJ6_bitCount_0f7a4 49 = .ok (.bipush 63, 2) := by decide +kernel
theorem dJ6_bitCount_0f7a4_51 : decode cJ6_bitCount_0f7a4 51 = .ok (.iand, 1) := by decide +kernel
theorem dJ6_bitCount_0f7a4_52 : decode cJ6_bitCount_0f7a4 52 = .ok (.ireturn, 1) := by decide +kernel
theorem dJ9_abs_0f7a4_0 : decode cJ9_abs_0f7a4 0 = .ok (.iload_n 0, 1) := by decide +kernel
theorem dJ9_abs_0f7a4_1 : decode cJ9_abs_0f7a4 1 = .ok (.ifCond .ge 8, 3) := by decide +kernel
theorem dJ9_abs_0f7a4_4 : decode cJ9_abs_0f7a4 4 = .ok (.iload_n 0, 1) := by decide +kernel
theorem dJ9_abs_0f7a4_5 : decode cJ9_abs_0f7a4 5 = .ok (.ineg, 1) := by decide +kernel
theorem dJ9_abs_0f7a4_6 : decode cJ9_abs_0f7a4 6 = .ok (.goto 4, 3) := by decide +kernel
theorem dJ9_abs_0f7a4_9 : decode cJ9_abs_0f7a4 9 = .ok (.iload_n 0, 1) := by decide +kernel
theorem dJ9_abs_0f7a4_10 : decode cJ9_abs_0f7a4 10 = .ok (.ireturn, 1) := by decide +kernel
theorem dJ9_max_7cf53_0 : decode cJ9_max_7cf53 0 = .ok (.iload_n 0, 1) := by decide +kernel
theorem dJ9_max_7cf53_1 : decode cJ9_max_7cf53 1 = .ok (.iload_n 1, 1) := by decide +kernel
theorem dJ9_max_7cf53_2 : decode cJ9_max_7cf53 2 = .ok (.if_icmp .lt 7, 3) := by decide +kernel
theorem dJ9_max_7cf53_5 : decode cJ9_max_7cf53 5 = .ok (.iload_n 0, 1) := by decide +kernel
theorem dJ9_max_7cf53_6 : decode cJ9_max_7cf53 6 = .ok (.goto 4, 3) := by decide +kernel
theorem dJ9_max_7cf53_9 : decode cJ9_max_7cf53 9 = .ok (.iload_n 1, 1) := by decide +kernel
theorem dJ9_max_7cf53_10 : decode cJ9_max_7cf53 10 = .ok (.ireturn, 1) := by decide +kernel
theorem dJ9_min_7cf53_0 : decode cJ9_min_7cf53 0 = .ok (.iload_n 0, 1) := by decide +kernel
theorem dJ9_min_7cf53_1 : decode cJ9_min_7cf53 1 = .ok (.iload_n 1, 1) := by decide +kernel
theorem dJ9_min_7cf53_2 : decode cJ9_min_7cf53 2 = .ok (.if_icmp .gt 7, 3) := by decide +kernel
theorem dJ9_min_7cf53_5 : decode cJ9_min_7cf53 5 = .ok (.iload_n 0, 1) := by decide +kernel
theorem dJ9_min_7cf53_6 : decode cJ9_min_7cf53 6 = .ok (.goto 4, 3) := by decide +kernel
theorem dJ9_min_7cf53_9 : decode cJ9_min_7cf53 9 = .ok (.iload_n 1, 1) := by decide +kernel
theorem dJ9_min_7cf53_10 : decode cJ9_min_7cf53 10 = .ok (.ireturn, 1) := by decide +kernel
theorem dJ0_length_8abf5_0 : decode cJ0_length_8abf5 0 = .ok (.aload_n 0, 1) := by decide +kernel
theorem dJ0_length_8abf5_1 : decode cJ0_length_8abf5 1 = .ok (.getfield 9, 3) := by decide +kernel
theorem dJ0_length_8abf5_4 : decode cJ0_length_8abf5 4 = .ok (.arraylength, 1) := by decide +kernel
theorem dJ0_length_8abf5_5 : decode cJ0_length_8abf5 5 = .ok (.aload_n 0, 1) := by decide +kernel
theorem dJ0_length_8abf5_6 : decode cJ0_length_8abf5 6 = .ok (.invokevirtual 335, 3) := by decide +kernel
theorem dJ0_length_8abf5_9 : decode cJ0_length_8abf5 9 = .ok (.ishr, 1) := by decide +kernel
theorem dJ0_length_8abf5_10 : decode cJ0_length_8abf5 10 = .ok (.ireturn, 1) := by decide +kernel
theorem dJ0_charAt_5068e_0 : decode cJ0_charAt_5068e 0 = .ok (.aload_n 0, 1) := by decide +kernel
theorem dJ0_charAt_5068e_1 : decode cJ0_charAt_5068e 1 = .ok (.invokevirtual 492, 3) := by decide +kernel
theorem dJ0_charAt_5068e_4 : decode cJ0_charAt_5068e 4 = .ok (.ifCond .eq 12, 3) := by decide +kernel
theorem dJ0_charAt_5068e_7 : decode cJ0_charAt_5068e 7 = .ok (.aload_n 0, 1) := by decide +kernel
theorem dJ0_charAt_5068e_8 : decode cJ0_charAt_5068e 8 = .ok (.getfield 9, 3) := by decide +kernel
theorem dJ0_charAt_5068e_11 : decode cJ0_charAt_5068e 11 = .ok (.iload_n 1, 1) := by decide +kernel
theorem dJ0_charAt_5068e_12 : decode cJ0_charAt_5068e 12 = .ok (.invokestatic 495, 3) := by decide +kernel
theorem dJ0_charAt_5068e_15 : decode cJ0_charAt_5068e 15 = .ok (.ireturn, 1) := by decide +kernel
theorem dJ0_charAt_5068e_16 : decode cJ0_charAt_5068e 16 = .ok (.aload_n 0, 1) := by decide +kernel
theorem dJ0_charAt_5068e_17 : decode cJ0_charAt_5068e 17 = .ok (.getfield 9, 3) := by decide +kernel
theorem dJ0_charAt_5068e_20 : decode cJ0_charAt_5068e 20 = .ok (.iload_n 1, 1) := by decide +kernel
theorem dJ0_charAt_5068e_21 : decode cJ0_charAt_5068e 21 = .ok (.invokestatic 498, 3) := by decide +kernel
theorem dJ0_charAt_5068e_24 : decode cJ0_charAt_5068e 24 = .ok (.ireturn, 1) := by decide +kernel
theorem dJ0_indexOf_0f7a4_0 : decode cJ0_indexOf_0f7a4 0 = .ok (.aload_n 0, 1) := by decide +kernel
theorem dJ0_indexOf_0f7a4_1 : decode cJ0_indexOf_0f7a4 1 = .ok (.iload_n 1, 1) := by decide +kernel
theorem dJ0_indexOf_0f7a4_2 : decode cJ0_indexOf_0f7a4 2 = .ok (.iconst 0, 1) := by decide +kernel
theorem dJ0_indexOf_0f7a4_3 : decode cJ0_indexOf_0f7a4 3 = .ok (.invokevirtual 633, 3) := by decide +kernel
theorem dJ0_indexOf_0f7a4_6 : decode cJ0_indexOf_0f7a4 6 = .ok (.ireturn, 1) := by decide +kernel
theorem dJ0_indexOf_7cf53_0 : decode cJ0_indexOf_7cf53 0 = .ok (.aload_n 0, 1) := by decide +kernel
theorem dJ0_indexOf_7cf53_1 : decode cJ0_indexOf_7cf53 1 = .ok (.invokevirtual 492, 3) := by decide +kernel
theorem dJ0_indexOf_7cf53_4 : decode cJ0_indexOf_7cf53 4 = .ok (.ifCond .eq 19, 3) := by decide +kernel
theorem dJ0_indexOf_7cf53_7 : decode cJ0_indexOf_7cf53 7 = .ok (.aload_n 0, 1) := by decide +kernel
theorem dJ0_indexOf_7cf53_8 : decode cJ0_indexOf_7cf53 8 = .ok (.getfield 9, 3) := by decide +kernel
theorem dJ0_indexOf_7cf53_11 : decode cJ0_indexOf_7cf53 11 = .ok (.iload_n 1, 1) := by decide +kernel
theorem dJ0_indexOf_7cf53_12 : decode cJ0_indexOf_7cf53 12 = .ok (.iload_n 2, 1) := by decide +kernel
theorem dJ0_indexOf_7cf53_13 : decode cJ0_indexOf_7cf53 13 = .ok (.aload_n 0, 1) := by decide +kernel
theorem dJ0_indexOf_7cf53_14 : decode cJ0_indexOf_7cf53 14 = .ok (.invokevirtual 505, 3) := by decide +kernel
theorem dJ0_indexOf_7cf53_17 : decode cJ0_indexOf_7cf53 17 = .ok (.invokestatic 637, 3) := by decide +kernel
theorem dJ0_indexOf_7cf53_20 : decode cJ0_indexOf_7cf53 20 = .ok (.goto 16, 3) := by decide +kernel
theorem dJ0_indexOf_7cf53_23 : decode cJ0_indexOf_7cf53 23 = .ok (.aload_n 0, 1) := by decide +kernel
theorem dJ0_indexOf_7cf53_24 : decode cJ0_indexOf_7cf53 24 = .ok (.getfield 9, 3) := by decide +kernel
theorem dJ0_indexOf_7cf53_27 : decode cJ0_indexOf_7cf53 27 = .ok (.iload_n 1, 1) := by decide +kernel
theorem dJ0_indexOf_7cf53_28 : decode cJ0_indexOf_7cf53 28 = .ok (.iload_n 2, 1) := by decide +kernel
theorem dJ0_indexOf_7cf53_29 : decode cJ0_indexOf_7cf53 29 = .ok (.aload_n 0, 1) := by decide +kernel
theorem dJ0_indexOf_7cf53_30 : decode cJ0_indexOf_7cf53 30 = .ok (.invokevirtual 505, 3) := by decide +kernel
theorem dJ0_indexOf_7cf53_33 : decode cJ0_indexOf_7cf53 33 = .ok (.invokestatic 640, 3) := by decide +kernel
theorem dJ0_indexOf_7cf53_36 : decode cJ0_indexOf_7cf53 36 = .ok (.ireturn, 1) := by decide +kernel
theorem dJ0_substring_37a41_0 : decode cJ0_substring_37a41 0 = .ok (.aload_n 0, 1) := by decide +kernel
theorem dJ0_substring_37a41_1 : decode cJ0_substring_37a41 1 = .ok (.invokevirtual 505, 3) := by decide +kernel
theorem dJ0_substring_37a41_4 : decode cJ0_substring_37a41 4 = .ok (.istore_n 3, 1) := by decide +kernel
theorem dJ0_substring_37a41_5 : decode cJ0_substring_37a41 5 = .ok (.iload_n 1, 1) := by decide +kernel
theorem dJ0_substring_37a41_6 : decode cJ0_substring_37a41 6 = .ok (.iload_n 2, 1) := by decide +kernel
theorem dJ0_substring_37a41_7 : decode cJ0_substring_37a41 7 = .ok (.iload_n 3, 1) := by decide +kernel
theorem dJ0_substring_37a41_8 : decode cJ0_substring_37a41 8 = .ok (.invokestatic 521, 3) := by decide +kernel
theorem dJ0_substring_37a41_11 : decode cJ0_substring_37a41 11 = .ok (.iload_n 1, 1) := by decide +kernel
theorem dJ0_substring_37a41_12 : decode cJ0_substring_37a41 12 = .ok (.ifCond .ne 10, 3) := by decide +kernel
theorem dJ0_substring_37a41_15 : decode cJ0_substring_37a41 15 = .ok (.iload_n 2, 1) := by decide +kernel
theorem dJ0_substring_37a41_16 : decode cJ0_substring_37a41 16 = .ok (.iload_n 3, 1) := by decide +kernel
theorem dJ0_substring_37a41_17 : decode cJ0_substring_37a41 17 = .ok (.if_icmp .ne 5, 3) := by decide +kernel
theorem dJ0_substring_37a41_20 : decode cJ0_substring_37a41 20 = .ok (.aload_n 0, 1) := by decide +kernel
theorem dJ0_substring_37a41_21 : decode cJ0_substring_37a41 21 = .ok (.areturn, 1) := by decide +kernel
theorem dJ0_substring_37a41_22 : decode cJ0_substring_37a41 22 = .ok (.iload_n 2, 1) := by decide +kernel
theorem dJ0_substring_37a41_23 : decode cJ0_substring_37a41 23 = .ok (.iload_n 1, 1) := by decide +kernel
theorem dJ0_substring_37a41_24 : decode cJ0_substring_37a41 24 = .ok (.isub, 1) := by decide +kernel
theorem dJ0_substring_37a41_25 : decode cJ0_substring_37a41 25 = .ok (.istore 4, 2) := by decide +kernel
theorem dJ0_substring_37a41_27 : decode cJ0_substring_37a41 27 = .ok (.aload_n 0, 1) := by decide +kernel
theorem dJ0_substring_37a41_28 : decode cJ0_substring_37a41 28 = .ok (.invokevirtual 492, 3) := by decide +kernel
theorem dJ0_substring_37a41_31 : decode cJ0_substring_37a41 31 = .ok (.ifCond .eq 16, 3) := by decide +kernel
theorem dJ0_substring_37a41_34 : decode cJ0_substring_37a41 34 = .ok (.aload_n 0, 1) := by decide +kernel
theorem dJ0_substring_37a41_35 : decode cJ0_substring_37a41 35 = .ok (.getfield 9, 3) := by decide +kernel
theorem dJ0_substring_37a41_38 : decode cJ0_substring_37a41 38 = .ok (.iload_n 1, 1) := by decide +kernel
theorem dJ0_substring_37a41_39 : decode cJ0_substring_37a41 39 = .ok (.iload 4, 2) := by decide +kernel
theorem dJ0_substring_37a41_41 : decode cJ0_substring_37a41 41 = .ok (.invokestatic 685, 3) := by decide +kernel
theorem dJ0_substring_37a41_44 : decode cJ0_substring_37a41 44 = .ok (.goto 13, 3) := by decide +kernel
theorem dJ0_substring_37a41_47 : decode cJ0_substring_37a41 47 = .ok (.aload_n 0, 1) := by decide +kernel
theorem dJ0_substring_37a41_48 : decode cJ0_substring_37a41 48 = .ok (.getfield 9, 3) := by decide +kernel
theorem dJ0_substring_37a41_51 : decode cJ0_substring_37a41 51 = .ok (.iload_n 1, 1) := by decide +kernel
theorem dJ0_substring_37a41_52 : decode cJ0_substring_37a41 52 = .ok (.iload 4, 2) := by decide +kernel
theorem dJ0_substring_37a41_54 : decode cJ0_substring_37a41 54 = .ok (.invokestatic 689, 3) := by decide +kernel
theorem dJ0_substring_37a41_57 : decode cJ0_substring_37a41 57 = .ok (.areturn, 1) := by decide +kernel
theorem dJ0_init_031fb_0 : decode cJ0_init_031fb 0 = .ok (.aload_n 0, 1) := by decide +kernel
theorem dJ0_init_031fb_1 : decode cJ0_init_031fb 1 = .ok (.invokespecial 1, 3) := by decide +kernel
theorem dJ0_init_031fb_4 : decode cJ0_init_031fb 4 = .ok (.aload_n 0, 1) := by decide +kernel
theorem dJ0_init_031fb_5 : decode cJ0_init_031fb 5 = .ok (.aload_n 1, 1) := by decide +kernel
theorem dJ0_init_031fb_6 : decode cJ0_init_031fb 6 = .ok (.putfield 9, 3) := by decide +kernel
theorem dJ0_init_031fb_9 : decode cJ0_init_031fb 9 = .ok (.aload_n 0, 1) := by decide +kernel
theorem dJ0_init_031fb_10 : decode cJ0_init_031fb 10 = .ok (.iload_n 2, 1) := by decide +kernel
theorem dJ0_init_031fb_11 : decode cJ0_init_031fb 11 = .ok (.putfield 15, 3) := by decide +kernel
theorem dJ0_init_031fb_14 : decode cJ0_init_031fb 14 = .ok (.return_, 1) := by decide +kernel
theorem dJ0_coder_7d493_0 : decode cJ0_coder_7d493 0 = .ok (.getstatic 38, 3) := by decide +kernel
theorem dJ0_coder_7d493_3 : decode cJ0_coder_7d493 3 = .ok (.ifCond .eq 10, 3) := by decide +kernel
theorem dJ0_coder_7d493_6 : decode cJ0_coder_7d493 6 = .ok (.aload_n 0, 1) := by decide +kernel
theorem dJ0_coder_7d493_7 : decode cJ0_coder_7d493 7 = .ok (.getfield 15, 3) := by decide +kernel
theorem dJ0_coder_7d493_10 : decode cJ0_coder_7d493 10 = .ok (.goto 4, 3) := by decide +kernel
theorem dJ0_coder_7d493_13 : decode cJ0_coder_7d493 13 = .ok (.iconst 1, 1) := by decide +kernel
theorem dJ0_coder_7d493_14 : decode cJ0_coder_7d493 14 = .ok (.ireturn, 1) := by decide +kernel
theorem dJ0_isLatin1_aae02_0 : decode cJ0_isLatin1_aae02 0 = .ok (.getstatic 38, 3) := by decide +kernel
theorem dJ0_isLatin1_aae02_3 : decode cJ0_isLatin1_aae02 3 = .ok (.ifCond .eq 14, 3) := by decide +kernel
theorem dJ0_isLatin1_aae02_6 : decode cJ0_isLatin1_aae02 6 = .ok (.aload_n 0, 1) := by decide +kernel
theorem dJ0_isLatin1_aae02_7 : decode cJ0_isLatin1_aae02 7 = .ok (.getfield 15, 3) := by decide +kernel
theorem dJ0_isLatin1_aae02_10 : decode cJ0_isLatin1_aae02 10 = .ok (.ifCond .ne 7, 3) := by decide +kernel
theorem dJ0_isLatin1_aae02_13 : decode cJ0_isLatin1_aae02 13 = .ok (.iconst 1, 1) := by decide +kernel
theorem dJ0_isLatin1_aae02_14 : decode cJ0_isLatin1_aae02 14 = .ok (.goto 4, 3) := by decide +kernel
theorem dJ0_isLatin1_aae02_17 : decode cJ0_isLatin1_aae02 17 = .ok (.iconst 0, 1) := by decide +kernel
theorem dJ0_isLatin1_aae02_18 : decode cJ0_isLatin1_aae02 18 = .ok (.ireturn, 1) := by decide +kernel
theorem dJ0_checkIndex_df160_0 : decode cJ0_checkIndex_df160 0 = .ok (.iload_n 0, 1) := by decide +kernel
theorem dJ0_checkIndex_df160_1 : decode cJ0_checkIndex_df160 1 = .ok (.iload_n 1, 1) := by decide +kernel
theorem dJ0_checkIndex_df160_2 : decode cJ0_checkIndex_df160 2 = .ok (.getstatic 1053, 3) := by decide +kernel
theorem dJ0_checkIndex_df160_5 : decode cJ0_checkIndex_df160 5 = .ok (.invokestatic 1059, 3) := by decide +kernel
theorem dJ0_checkIndex_df160_8 : decode cJ0_checkIndex_df160 8 = .ok (.pop, 1) := by decide +kernel
theorem dJ0_checkIndex_df160_9 : decode cJ0_checkIndex_df160 9 = .ok (.return_, 1) := by decide +kernel
theorem dJ0_checkBoundsOffCount_cabcc_0 : decode cJ0_checkBoundsOffCount_cabcc 0 = .ok (.iload_n 0, 1) := by decide +kernel
theorem dJ0_checkBoundsOffCount_cabcc_1 : decode cJ0_checkBoundsOffCount_cabcc 1 = .ok (.iload_n 1, 1) := by decide +kernel
theorem dJ0_checkBoundsOffCount_cabcc_2 : decode cJ0_checkBoundsOffCount_cabcc 2 = .ok (.iload_n 2, 1) := by decide +kernel
theorem dJ0_checkBoundsOffCount_cabcc_3 : decode cJ0_checkBoundsOffCount_cabcc 3 = .ok (.getstatic 1053, 3) := by decide +kernel
theorem dJ0_checkBoundsOffCount_cabcc_6 : decode cJ0_checkBoundsOffCount_cabcc 6 = .ok (.invokestatic 1065, 3) := by decide +kernel
theorem dJ0_checkBoundsOffCount_cabcc_9 : decode cJ0_checkBoundsOffCount_cabcc 9 = .ok (.ireturn, 1) := by decide +kernel
theorem dJ0_checkBoundsBeginEnd_23922_0 : decode cJ0_checkBoundsBeginEnd_23922 0 = .ok (.iload_n 0, 1) := by decide +kernel
theorem dJ0_checkBoundsBeginEnd_23922_1 : decode cJ0_checkBoundsBeginEnd_23922 1 = .ok (.iload_n 1, 1) := by decide +kernel
theorem dJ0_checkBoundsBeginEnd_23922_2 : decode cJ0_checkBoundsBeginEnd_23922 2 = .ok (.iload_n 2, 1) := by decide +kernel
theorem dJ0_checkBoundsBeginEnd_23922_3 : decode cJ0_checkBoundsBeginEnd_23922 3 = .ok (.getstatic 1053, 3) := by decide +kernel
theorem dJ0_checkBoundsBeginEnd_23922_6 : decode cJ0_checkBoundsBeginEnd_23922 6 = .ok (.invokestatic 1062, 3) := by decide +kernel
theorem dJ0_checkBoundsBeginEnd_23922_9 : decode cJ0_checkBoundsBeginEnd_23922 9 = .ok (.pop, 1) := by decide +kernel
theorem dJ0_checkBoundsBeginEnd_23922_10 : decode cJ0_checkBoundsBeginEnd_23922 10 = .ok (.return_, 1) := by decide +kernel
theorem dJ1_charAt_3b067_0 : decode cJ1_charAt_3b067 0 = .ok (.iload_n 1, 1) := by decide +kernel
theorem dJ1_charAt_3b067_1 : decode cJ1_charAt_3b067 1 = .ok (.aload_n 0, 1) := by decide +kernel
theorem dJ1_charAt_3b067_2 : decode cJ1_charAt_3b067 2 = .ok (.arraylength, 1) := by decide +kernel
theorem dJ1_charAt_3b067_3 : decode cJ1_charAt_3b067 3 = .ok (.invokestatic 9, 3) := by decide +kernel
theorem dJ1_charAt_3b067_6 : decode cJ1_charAt_3b067 6 = .ok (.aload_n 0, 1) := by decide +kernel
theorem dJ1_charAt_3b067_7 : decode cJ1_charAt_3b067 7 = .ok (.iload_n 1, 1) := by decide +kernel
theorem dJ1_charAt_3b067_8 : decode cJ1_charAt_3b067 8 = .ok (.baload, 1) := by decide +kernel
theorem dJ1_charAt_3b067_9 : decode cJ1_charAt_3b067 9 = .ok (.sipush 255, 3) := by decide +kernel
theorem dJ1_charAt_3b067_12 : decode cJ1_charAt_3b067 12 = .ok (.iand, 1) := by decide +kernel
theorem dJ1_charAt_3b067_13 : decode cJ1_charAt_3b067 13 = .ok (.i2c, 1) := by decide +kernel
theorem dJ1_charAt_3b067_14 : decode cJ1_charAt_3b067 14 = .ok (.ireturn, 1) := by decide +kernel
theorem dJ1_canEncode_9a6ad_0 : decode cJ1_canEncode_9a6ad 0 = .ok (.iload_n 0, 1) := by decide +kernel
theorem dJ1_canEncode_9a6ad_1 : decode cJ1_canEncode_9a6ad 1 = .ok (.ifCond .lt 14, 3) := by decide +kernel
theorem dJ1_canEncode_9a6ad_4 : decode cJ1_canEncode_9a6ad 4 = .ok (.iload_n 0, 1) := by decide +kernel
theorem dJ1_canEncode_9a6ad_5 : decode cJ1_canEncode_9a6ad 5 = .ok (.sipush 255, 3) := by decide +kernel
theorem dJ1_canEncode_9a6ad_8 : decode cJ1_canEncode_9a6ad 8 = .ok (.if_icmp .gt 7, 3) := by decide +kernel
theorem dJ1_canEncode_9a6ad_11 : decode cJ1_canEncode_9a6ad 11 = .ok (.iconst 1, 1) := by decide +kernel
theorem dJ1_canEncode_9a6ad_12 : decode cJ1_canEncode_9a6ad 12 = .ok (.goto 4, 3) := by decide +kernel
theorem dJ1_canEncode_9a6ad_15 : decode cJ1_canEncode_9a6ad 15 = .ok (.iconst 0, 1) := by decide +kernel
theorem dJ1_canEncode_9a6ad_16 : decode cJ1_canEncode_9a6ad 16 = .ok (.ireturn, 1) := by decide +kernel
theorem dJ1_indexOf_4cfef_0 : decode cJ1_indexOf_4cfef 0 = .ok (.iload_n 1, 1) := by decide +kernel
theorem dJ1_indexOf_4cfef_1 : decode cJ1_indexOf_4cfef 1 = .ok (.invokestatic 88, 3) := by decide +kernel
theorem dJ1_indexOf_4cfef_4 : decode cJ1_indexOf_4cfef 4 = .ok (.ifCond .ne 5, 3) := by decide +kernel
theorem dJ1_indexOf_4cfef_7 : decode cJ1_indexOf_4cfef 7 = .ok (.iconst (-1), 1) := by decide +kernel
theorem dJ1_indexOf_4cfef_8 : decode cJ1_indexOf_4cfef 8 = .ok (.ireturn, 1) := by decide +kernel
theorem dJ1_indexOf_4cfef_9 : decode cJ1_indexOf_4cfef 9 = .ok (.iload_n 2, 1) := by decide +kernel
theorem dJ1_indexOf_4cfef_10 : decode cJ1_indexOf_4cfef 10 = .ok (.iconst 0, 1) := by decide +kernel
theorem dJ1_indexOf_4cfef_11 : decode cJ1_indexOf_4cfef 11 = .ok (.invokestatic 92, 3) := by decide +kernel
theorem dJ1_indexOf_4cfef_14 : decode cJ1_indexOf_4cfef 14 = .ok (.istore_n 2, 1) := by decide +kernel
theorem dJ1_indexOf_4cfef_15 : decode cJ1_indexOf_4cfef 15 = .ok (.iload_n 3, 1) := by decide +kernel
theorem dJ1_indexOf_4cfef_16 : decode cJ1_indexOf_4cfef 16 = .ok (.aload_n 0, 1) := by decide +kernel
theorem dJ1_indexOf_4cfef_17 : decode cJ1_indexOf_4cfef 17 = .ok (.arraylength, 1) := by decide +kernel
theorem dJ1_indexOf_4cfef_18 : decode cJ1_indexOf_4cfef 18 = .ok (.invokestatic 38, 3) := by decide +kernel
theorem dJ1_indexOf_4cfef_21 : decode cJ1_indexOf_4cfef 21 = .ok (.istore_n 3, 1) := by decide +kernel
theorem dJ1_indexOf_4cfef_22 : decode cJ1_indexOf_4cfef 22 = .ok (.iload_n 2, 1) := by decide +kernel
theorem dJ1_indexOf_4cfef_23 : decode cJ1_indexOf_4cfef 23 = .ok (.iload_n 3, 1) := by decide +kernel
theorem dJ1_indexOf_4cfef_24 : decode cJ1_indexOf_4cfef 24 = .ok (.if_icmp .lt 5, 3) := by decide +kernel
theorem dJ1_indexOf_4cfef_27 : decode cJ1_indexOf_4cfef 27 = .ok (.iconst (-1), 1) := by decide +kernel
theorem dJ1_indexOf_4cfef_28 : decode cJ1_indexOf_4cfef 28 = .ok (.ireturn, 1) := by decide +kernel
theorem dJ1_indexOf_4cfef_29 : decode cJ1_indexOf_4cfef 29 = .ok (.aload_n 0, 1) := by decide +kernel
theorem dJ1_indexOf_4cfef_30 : decode cJ1_indexOf_4cfef 30 = .ok (.iload_n 1, 1) := by decide +kernel
theorem dJ1_indexOf_4cfef_31 : decode cJ1_indexOf_4cfef 31 = .ok (.iload_n 2, 1) := by decide +kernel
theorem dJ1_indexOf_4cfef_32 : decode cJ1_indexOf_4cfef 32 = .ok (.iload_n 3, 1) := by decide +kernel
theorem dJ1_indexOf_4cfef_33 : decode cJ1_indexOf_4cfef 33 = .ok (.invokestatic 95, 3) := by decide +kernel
theorem dJ1_indexOf_4cfef_36 : decode cJ1_indexOf_4cfef 36 = .ok (.ireturn, 1) := by decide +kernel
theorem dJ1_indexOfChar_4cfef_0 : decode cJ1_indexOfChar_4cfef 0 = .ok (.iload_n 1, 1) := by decide +kernel
theorem dJ1_indexOfChar_4cfef_1 : decode cJ1_indexOfChar_4cfef 1 = .ok (.i2b, 1) := by decide +kernel
theorem dJ1_indexOfChar_4cfef_2 : decode cJ1_indexOfChar_4cfef 2 = .ok (.istore 4, 2) := by decide +kernel
theorem dJ1_indexOfChar_4cfef_4 : decode cJ1_indexOfChar_4cfef 4 = .ok (.iload_n 2, 1) := by decide +kernel
theorem dJ1_indexOfChar_4cfef_5 : decode cJ1_indexOfChar_4cfef 5 = .ok (.istore 5, 2) := by decide +kernel
theorem dJ1_indexOfChar_4cfef_7 : decode cJ1_indexOfChar_4cfef 7 = .ok (.iload 5, 2) := by decide +kernel
theorem dJ1_indexOfChar_4cfef_9 : decode cJ1_indexOfChar_4cfef 9 = .ok (.iload_n 3, 1) := by decide +kernel
theorem dJ1_indexOfChar_4cfef_10 : decode cJ1_indexOfChar_4cfef 10 = .ok (.if_icmp .ge 21, 3) := by decide +kernel
