theorem dX12_misleads_115 : decode cX12_misleads 115 = .ok (.iadd, 1) := o_96 BX12_misleads rfl rfl
theorem dX12_misleads_116 : decode cX12_misleads 116 = .ok (.iaload, 1) := o_46 BX12_misleads rfl rfl
theorem dX12_misleads_117 : decode cX12_misleads 117 = .ok (.iastore, 1) := o_79 BX12_misleads rfl rfl
theorem dX12_misleads_118 : decode cX12_misleads 118 = .ok (.iinc 5 1, 3) := o_132 BX12_misleads rfl rfl rfl rfl
theorem dX12_misleads_121 : decode cX12_misleads 121 = .ok (.goto (-63), 3) := o_167 BX12_misleads rfl rfl rfl
theorem dX12_misleads_124 : decode cX12_misleads 124 = .ok (.aload_n 0, 1) := o_42 BX12_misleads rfl rfl
theorem dX12_misleads_125 : decode cX12_misleads 125 = .ok (.invokevirtual 401, 3) := o_182 BX12_misleads rfl rfl rfl
theorem dX12_misleads_128 : decode cX12_misleads 128 = .ok (.aload_n 0, 1) := o_42 BX12_misleads rfl rfl
theorem dX12_misleads_129 : decode cX12_misleads 129 = .ok (.iload 4, 2) := o_21 BX12_misleads rfl rfl rfl
theorem dX12_misleads_131 : decode cX12_misleads 131 = .ok (.invokevirtual 305, 3) := o_182 BX12_misleads rfl rfl rfl
theorem dX12_misleads_134 : decode cX12_misleads 134 = .ok (.iconst (-1), 1) := o_2 BX12_misleads rfl rfl
theorem dX12_misleads_135 : decode cX12_misleads 135 = .ok (.ixor, 1) := o_130 BX12_misleads rfl rfl
theorem dX12_misleads_136 : decode cX12_misleads 136 = .ok (.iand, 1) := o_126 BX12_misleads rfl rfl
theorem dX12_misleads_137 : decode cX12_misleads 137 = .ok (.invokestatic 279, 3) := o_184 BX12_misleads rfl rfl rfl
theorem dX12_misleads_140 : decode cX12_misleads 140 = .ok (.istore 5, 2) := o_54 BX12_misleads rfl rfl rfl
theorem dX12_misleads_142 : decode cX12_misleads 142 = .ok (.iload 5, 2) := o_21 BX12_misleads rfl rfl rfl
theorem dX12_misleads_144 : decode cX12_misleads 144 = .ok (.iload_n 3, 1) := o_29 BX12_misleads rfl rfl
theorem dX12_misleads_145 : decode cX12_misleads 145 = .ok (.if_icmp .le 8, 3) := o_164 BX12_misleads rfl rfl rfl
theorem dX12_misleads_148 : decode cX12_misleads 148 = .ok (.iload 4, 2) := o_21 BX12_misleads rfl rfl rfl
theorem dX12_misleads_150 : decode cX12_misleads 150 = .ok (.goto 4, 3) := o_167 BX12_misleads rfl rfl rfl
theorem dX12_misleads_153 : decode cX12_misleads 153 = .ok (.iload_n 2, 1) := o_28 BX12_misleads rfl rfl
theorem dX12_misleads_154 : decode cX12_misleads 154 = .ok (.istore_n 2, 1) := o_61 BX12_misleads rfl rfl
theorem dX12_misleads_155 : decode cX12_misleads 155 = .ok (.iload_n 3, 1) := o_29 BX12_misleads rfl rfl
theorem dX12_misleads_156 : decode cX12_misleads 156 = .ok (.iload 5, 2) := o_21 BX12_misleads rfl rfl rfl
theorem dX12_misleads_158 : decode cX12_misleads 158 = .ok (.invokestatic 287, 3) := o_184 BX12_misleads rfl rfl rfl
theorem dX12_misleads_161 : decode cX12_misleads 161 = .ok (.istore_n 3, 1) := o_62 BX12_misleads rfl rfl
theorem dX12_misleads_162 : decode cX12_misleads 162 = .ok (.iinc 4 1, 3) := o_132 BX12_misleads rfl rfl rfl rfl
theorem dX12_misleads_165 : decode cX12_misleads 165 = .ok (.goto (-143), 3) := o_167 BX12_misleads rfl rfl rfl
theorem dX12_misleads_168 : decode cX12_misleads 168 = .ok (.iload_n 2, 1) := o_28 BX12_misleads rfl rfl
theorem dX12_misleads_169 : decode cX12_misleads 169 = .ok (.ifCond .lt 31, 3) := o_155 BX12_misleads rfl rfl rfl
theorem dX12_misleads_172 : decode cX12_misleads 172 = .ok (.aload_n 0, 1) := o_42 BX12_misleads rfl rfl
theorem dX12_misleads_173 : decode cX12_misleads 173 = .ok (.iconst 0, 1) := o_3 BX12_misleads rfl rfl
theorem dX12_misleads_174 : decode cX12_misleads 174 = .ok (.putfield 119, 3) := o_181 BX12_misleads rfl rfl rfl
theorem dX12_misleads_177 : decode cX12_misleads 177 = .ok (.aload_n 0, 1) := o_42 BX12_misleads rfl rfl
theorem dX12_misleads_178 : decode cX12_misleads 178 = .ok (.iload_n 3, 1) := o_29 BX12_misleads rfl rfl
theorem dX12_misleads_179 : decode cX12_misleads 179 = .ok (.i2l, 1) := o_133 BX12_misleads rfl rfl
theorem dX12_misleads_180 : decode cX12_misleads 180 = .ok (.invokevirtual 358, 3) := o_182 BX12_misleads rfl rfl rfl
theorem dX12_misleads_183 : decode cX12_misleads 183 = .ok (.aload_n 0, 1) := o_42 BX12_misleads rfl rfl
theorem dX12_misleads_184 : decode cX12_misleads 184 = .ok (.iload_n 1, 1) := o_27 BX12_misleads rfl rfl
theorem dX12_misleads_185 : decode cX12_misleads 185 = .ok (.aload_n 0, 1) := o_42 BX12_misleads rfl rfl
theorem dX12_misleads_186 : decode cX12_misleads 186 = .ok (.iload_n 2, 1) := o_28 BX12_misleads rfl rfl
theorem dX12_misleads_187 : decode cX12_misleads 187 = .ok (.invokevirtual 305, 3) := o_182 BX12_misleads rfl rfl rfl
theorem dX12_misleads_190 : decode cX12_misleads 190 = .ok (.iconst (-1), 1) := o_2 BX12_misleads rfl rfl
theorem dX12_misleads_191 : decode cX12_misleads 191 = .ok (.ixor, 1) := o_130 BX12_misleads rfl rfl
theorem dX12_misleads_192 : decode cX12_misleads 192 = .ok (.iand, 1) := o_126 BX12_misleads rfl rfl
theorem dX12_misleads_193 : decode cX12_misleads 193 = .ok (.invokestatic 279, 3) := o_184 BX12_misleads rfl rfl rfl
theorem dX12_misleads_196 : decode cX12_misleads 196 = .ok (.i2l, 1) := o_133 BX12_misleads rfl rfl
theorem dX12_misleads_197 : decode cX12_misleads 197 = .ok (.invokevirtual 358, 3) := o_182 BX12_misleads rfl rfl rfl
theorem dX12_misleads_200 : decode cX12_misleads 200 = .ok (.iload_n 2, 1) := o_28 BX12_misleads rfl rfl
theorem dX12_misleads_201 : decode cX12_misleads 201 = .ok (.ireturn, 1) := o_172 BX12_misleads rfl rfl
theorem dX12_crowd_0 : decode cX12_crowd 0 = .ok (.aload_n 0, 1) := o_42 BX12_crowd rfl rfl
theorem dX12_crowd_1 : decode cX12_crowd 1 = .ok (.iconst 0, 1) := o_3 BX12_crowd rfl rfl
theorem dX12_crowd_2 : decode cX12_crowd 2 = .ok (.putfield 112, 3) := o_181 BX12_crowd rfl rfl rfl
theorem dX12_crowd_5 : decode cX12_crowd 5 = .ok (.aload_n 0, 1) := o_42 BX12_crowd rfl rfl
theorem dX12_crowd_6 : decode cX12_crowd 6 = .ok (.getfield 122, 3) := o_180 BX12_crowd rfl rfl rfl
theorem dX12_crowd_9 : decode cX12_crowd 9 = .ok (.ifCond .ne 6, 3) := o_154 BX12_crowd rfl rfl rfl
theorem dX12_crowd_12 : decode cX12_crowd 12 = .ok (.bipush (-2), 2) := o_16 BX12_crowd rfl rfl rfl
theorem dX12_crowd_14 : decode cX12_crowd 14 = .ok (.ireturn, 1) := o_172 BX12_crowd rfl rfl
theorem dX12_crowd_15 : decode cX12_crowd 15 = .ok (.aload_n 0, 1) := o_42 BX12_crowd rfl rfl
theorem dX12_crowd_16 : decode cX12_crowd 16 = .ok (.invokevirtual 390, 3) := o_182 BX12_crowd rfl rfl rfl
theorem dX12_crowd_19 : decode cX12_crowd 19 = .ok (.aload_n 0, 1) := o_42 BX12_crowd rfl rfl
theorem dX12_crowd_20 : decode cX12_crowd 20 = .ok (.aload_n 0, 1) := o_42 BX12_crowd rfl rfl
theorem dX12_crowd_21 : decode cX12_crowd 21 = .ok (.getfield 34, 3) := o_180 BX12_crowd rfl rfl rfl
theorem dX12_crowd_24 : decode cX12_crowd 24 = .ok (.sipush 200, 3) := o_17 BX12_crowd rfl rfl rfl
theorem dX12_crowd_27 : decode cX12_crowd 27 = .ok (.invokevirtual 355, 3) := o_182 BX12_crowd rfl rfl rfl
theorem dX12_crowd_30 : decode cX12_crowd 30 = .ok (.iconst 0, 1) := o_3 BX12_crowd rfl rfl
theorem dX12_crowd_31 : decode cX12_crowd 31 = .ok (.istore_n 1, 1) := o_60 BX12_crowd rfl rfl
theorem dX12_crowd_32 : decode cX12_crowd 32 = .ok (.iconst 1, 1) := o_4 BX12_crowd rfl rfl
theorem dX12_crowd_33 : decode cX12_crowd 33 = .ok (.istore_n 2, 1) := o_61 BX12_crowd rfl rfl
theorem dX12_crowd_34 : decode cX12_crowd 34 = .ok (.iload_n 2, 1) := o_28 BX12_crowd rfl rfl
theorem dX12_crowd_35 : decode cX12_crowd 35 = .ok (.aload_n 0, 1) := o_42 BX12_crowd rfl rfl
theorem dX12_crowd_36 : decode cX12_crowd 36 = .ok (.getfield 122, 3) := o_180 BX12_crowd rfl rfl rfl
theorem dX12_crowd_39 : decode cX12_crowd 39 = .ok (.if_icmp .ge 46, 3) := o_162 BX12_crowd rfl rfl rfl
theorem dX12_crowd_42 : decode cX12_crowd 42 = .ok (.aload_n 0, 1) := o_42 BX12_crowd rfl rfl
theorem dX12_crowd_43 : decode cX12_crowd 43 = .ok (.aload_n 0, 1) := o_42 BX12_crowd rfl rfl
theorem dX12_crowd_44 : decode cX12_crowd 44 = .ok (.getfield 34, 3) := o_180 BX12_crowd rfl rfl rfl
theorem dX12_crowd_47 : decode cX12_crowd 47 = .ok (.bipush 29, 2) := o_16 BX12_crowd rfl rfl rfl
theorem dX12_crowd_49 : decode cX12_crowd 49 = .ok (.iload_n 2, 1) := o_28 BX12_crowd rfl rfl
theorem dX12_crowd_50 : decode cX12_crowd 50 = .ok (.invokevirtual 275, 3) := o_182 BX12_crowd rfl rfl rfl
theorem dX12_crowd_53 : decode cX12_crowd 53 = .ok (.invokestatic 279, 3) := o_184 BX12_crowd rfl rfl rfl
theorem dX12_crowd_56 : decode cX12_crowd 56 = .ok (.aload_n 0, 1) := o_42 BX12_crowd rfl rfl
theorem dX12_crowd_57 : decode cX12_crowd 57 = .ok (.aload_n 0, 1) := o_42 BX12_crowd rfl rfl
theorem dX12_crowd_58 : decode cX12_crowd 58 = .ok (.getfield 34, 3) := o_180 BX12_crowd rfl rfl rfl
theorem dX12_crowd_61 : decode cX12_crowd 61 = .ok (.bipush 29, 2) := o_16 BX12_crowd rfl rfl rfl
theorem dX12_crowd_63 : decode cX12_crowd 63 = .ok (.iload_n 1, 1) := o_27 BX12_crowd rfl rfl
theorem dX12_crowd_64 : decode cX12_crowd 64 = .ok (.invokevirtual 275, 3) := o_182 BX12_crowd rfl rfl rfl
theorem dX12_crowd_67 : decode cX12_crowd 67 = .ok (.invokestatic 279, 3) := o_184 BX12_crowd rfl rfl rfl
theorem dX12_crowd_70 : decode cX12_crowd 70 = .ok (.if_icmp .le 7, 3) := o_164 BX12_crowd rfl rfl rfl
theorem dX12_crowd_73 : decode cX12_crowd 73 = .ok (.iload_n 2, 1) := o_28 BX12_crowd rfl rfl
theorem dX12_crowd_74 : decode cX12_crowd 74 = .ok (.goto 4, 3) := o_167 BX12_crowd rfl rfl rfl
theorem dX12_crowd_77 : decode cX12_crowd 77 = .ok (.iload_n 1, 1) := o_27 BX12_crowd rfl rfl
theorem dX12_crowd_78 : decode cX12_crowd 78 = .ok (.istore_n 1, 1) := o_60 BX12_crowd rfl rfl
theorem dX12_crowd_79 : decode cX12_crowd 79 = .ok (.iinc 2 1, 3) := o_132 BX12_crowd rfl rfl rfl rfl
theorem dX12_crowd_82 : decode cX12_crowd 82 = .ok (.goto (-48), 3) := o_167 BX12_crowd rfl rfl rfl
theorem dX12_crowd_85 : decode cX12_crowd 85 = .ok (.aload_n 0, 1) := o_42 BX12_crowd rfl rfl
theorem dX12_crowd_86 : decode cX12_crowd 86 = .ok (.aload_n 0, 1) := o_42 BX12_crowd rfl rfl
theorem dX12_crowd_87 : decode cX12_crowd 87 = .ok (.getfield 34, 3) := o_180 BX12_crowd rfl rfl rfl
theorem dX12_crowd_90 : decode cX12_crowd 90 = .ok (.bipush 29, 2) := o_16 BX12_crowd rfl rfl rfl
theorem dX12_crowd_92 : decode cX12_crowd 92 = .ok (.iload_n 1, 1) := o_27 BX12_crowd rfl rfl
theorem dX12_crowd_93 : decode cX12_crowd 93 = .ok (.invokevirtual 275, 3) := o_182 BX12_crowd rfl rfl rfl
theorem dX12_crowd_96 : decode cX12_crowd 96 = .ok (.istore_n 2, 1) := o_61 BX12_crowd rfl rfl
theorem dX12_crowd_97 : decode cX12_crowd 97 = .ok (.aload_n 0, 1) := o_42 BX12_crowd rfl rfl
theorem dX12_crowd_98 : decode cX12_crowd 98 = .ok (.iconst 0, 1) := o_3 BX12_crowd rfl rfl
theorem dX12_crowd_99 : decode cX12_crowd 99 = .ok (.putfield 119, 3) := o_181 BX12_crowd rfl rfl rfl
theorem dX12_crowd_102 : decode cX12_crowd 102 = .ok (.aload_n 0, 1) := o_42 BX12_crowd rfl rfl
theorem dX12_crowd_103 : decode cX12_crowd 103 = .ok (.iload_n 2, 1) := o_28 BX12_crowd rfl rfl
theorem dX12_crowd_104 : decode cX12_crowd 104 = .ok (.invokestatic 279, 3) := o_184 BX12_crowd rfl rfl rfl
theorem dX12_crowd_107 : decode cX12_crowd 107 = .ok (.i2l, 1) := o_133 BX12_crowd rfl rfl
theorem dX12_crowd_108 : decode cX12_crowd 108 = .ok (.invokevirtual 358, 3) := o_182 BX12_crowd rfl rfl rfl
theorem dX12_crowd_111 : decode cX12_crowd 111 = .ok (.aload_n 0, 1) := o_42 BX12_crowd rfl rfl
theorem dX12_crowd_112 : decode cX12_crowd 112 = .ok (.iload_n 2, 1) := o_28 BX12_crowd rfl rfl
theorem dX12_crowd_113 : decode cX12_crowd 113 = .ok (.aload_n 0, 1) := o_42 BX12_crowd rfl rfl
theorem dX12_crowd_114 : decode cX12_crowd 114 = .ok (.iload_n 1, 1) := o_27 BX12_crowd rfl rfl
theorem dX12_crowd_115 : decode cX12_crowd 115 = .ok (.invokevirtual 305, 3) := o_182 BX12_crowd rfl rfl rfl
theorem dX12_crowd_118 : decode cX12_crowd 118 = .ok (.iand, 1) := o_126 BX12_crowd rfl rfl
theorem dX12_crowd_119 : decode cX12_crowd 119 = .ok (.invokestatic 279, 3) := o_184 BX12_crowd rfl rfl rfl
theorem dX12_crowd_122 : decode cX12_crowd 122 = .ok (.i2l, 1) := o_133 BX12_crowd rfl rfl
theorem dX12_crowd_123 : decode cX12_crowd 123 = .ok (.invokevirtual 358, 3) := o_182 BX12_crowd rfl rfl rfl
theorem dX12_crowd_126 : decode cX12_crowd 126 = .ok (.iload_n 1, 1) := o_27 BX12_crowd rfl rfl
theorem dX12_crowd_127 : decode cX12_crowd 127 = .ok (.ireturn, 1) := o_172 BX12_crowd rfl rfl
theorem dX12_sharesFrom_0 : decode cX12_sharesFrom 0 = .ok (.iload_n 1, 1) := o_27 BX12_sharesFrom rfl rfl
theorem dX12_sharesFrom_1 : decode cX12_sharesFrom 1 = .ok (.aload_n 0, 1) := o_42 BX12_sharesFrom rfl rfl
theorem dX12_sharesFrom_2 : decode cX12_sharesFrom 2 = .ok (.getfield 129, 3) := o_180 BX12_sharesFrom rfl rfl rfl
theorem dX12_sharesFrom_5 : decode cX12_sharesFrom 5 = .ok (.if_icmp .ne 49, 3) := o_160 BX12_sharesFrom rfl rfl rfl
theorem dX12_sharesFrom_8 : decode cX12_sharesFrom 8 = .ok (.iload_n 3, 1) := o_29 BX12_sharesFrom rfl rfl
theorem dX12_sharesFrom_9 : decode cX12_sharesFrom 9 = .ok (.aload_n 0, 1) := o_42 BX12_sharesFrom rfl rfl
theorem dX12_sharesFrom_10 : decode cX12_sharesFrom 10 = .ok (.getfield 404, 3) := o_180 BX12_sharesFrom rfl rfl rfl
theorem dX12_sharesFrom_13 : decode cX12_sharesFrom 13 = .ok (.if_icmp .le 40, 3) := o_164 BX12_sharesFrom rfl rfl rfl
theorem dX12_sharesFrom_16 : decode cX12_sharesFrom 16 = .ok (.aload_n 0, 1) := o_42 BX12_sharesFrom rfl rfl
theorem dX12_sharesFrom_17 : decode cX12_sharesFrom 17 = .ok (.iload_n 3, 1) := o_29 BX12_sharesFrom rfl rfl
theorem dX12_sharesFrom_18 : decode cX12_sharesFrom 18 = .ok (.putfield 404, 3) := o_181 BX12_sharesFrom rfl rfl rfl
theorem dX12_sharesFrom_21 : decode cX12_sharesFrom 21 = .ok (.iconst 0, 1) := o_3 BX12_sharesFrom rfl rfl
theorem dX12_sharesFrom_22 : decode cX12_sharesFrom 22 = .ok (.istore 5, 2) := o_54 BX12_sharesFrom rfl rfl rfl
theorem dX12_sharesFrom_24 : decode cX12_sharesFrom 24 = .ok (.iload 5, 2) := o_21 BX12_sharesFrom rfl rfl rfl
theorem dX12_sharesFrom_26 : decode cX12_sharesFrom 26 = .ok (.aload_n 0, 1) := o_42 BX12_sharesFrom rfl rfl
theorem dX12_sharesFrom_27 : decode cX12_sharesFrom 27 = .ok (.getfield 129, 3) := o_180 BX12_sharesFrom rfl rfl rfl
theorem dX12_sharesFrom_30 : decode cX12_sharesFrom 30 = .ok (.if_icmp .ge 23, 3) := o_162 BX12_sharesFrom rfl rfl rfl
theorem dX12_sharesFrom_33 : decode cX12_sharesFrom 33 = .ok (.aload_n 0, 1) := o_42 BX12_sharesFrom rfl rfl
theorem dX12_sharesFrom_34 : decode cX12_sharesFrom 34 = .ok (.getfield 91, 3) := o_180 BX12_sharesFrom rfl rfl rfl
theorem dX12_sharesFrom_37 : decode cX12_sharesFrom 37 = .ok (.iload 5, 2) := o_21 BX12_sharesFrom rfl rfl rfl
theorem dX12_sharesFrom_39 : decode cX12_sharesFrom 39 = .ok (.aload_n 0, 1) := o_42 BX12_sharesFrom rfl rfl
theorem dX12_sharesFrom_40 : decode cX12_sharesFrom 40 = .ok (.getfield 88, 3) := o_180 BX12_sharesFrom rfl rfl rfl
theorem dX12_sharesFrom_43 : decode cX12_sharesFrom 43 = .ok (.iload 5, 2) := o_21 BX12_sharesFrom rfl rfl rfl
theorem dX12_sharesFrom_45 : decode cX12_sharesFrom 45 = .ok (.iaload, 1) := o_46 BX12_sharesFrom rfl rfl
theorem dX12_sharesFrom_46 : decode cX12_sharesFrom 46 = .ok (.iastore, 1) := o_79 BX12_sharesFrom rfl rfl
theorem dX12_sharesFrom_47 : decode cX12_sharesFrom 47 = .ok (.iinc 5 1, 3) := o_132 BX12_sharesFrom rfl rfl rfl rfl
theorem dX12_sharesFrom_50 : decode cX12_sharesFrom 50 = .ok (.goto (-26), 3) := o_167 BX12_sharesFrom rfl rfl rfl
theorem dX12_sharesFrom_53 : decode cX12_sharesFrom 53 = .ok (.return_, 1) := o_177 BX12_sharesFrom rfl rfl
theorem dX12_sharesFrom_54 : decode cX12_sharesFrom 54 = .ok (.iload_n 3, 1) := o_29 BX12_sharesFrom rfl rfl
theorem dX12_sharesFrom_55 : decode cX12_sharesFrom 55 = .ok (.aload_n 0, 1) := o_42 BX12_sharesFrom rfl rfl
theorem dX12_sharesFrom_56 : decode cX12_sharesFrom 56 = .ok (.getfield 129, 3) := o_180 BX12_sharesFrom rfl rfl rfl
theorem dX12_sharesFrom_59 : decode cX12_sharesFrom 59 = .ok (.iadd, 1) := o_96 BX12_sharesFrom rfl rfl
theorem dX12_sharesFrom_60 : decode cX12_sharesFrom 60 = .ok (.iload_n 1, 1) := o_27 BX12_sharesFrom rfl rfl
theorem dX12_sharesFrom_61 : decode cX12_sharesFrom 61 = .ok (.isub, 1) := o_100 BX12_sharesFrom rfl rfl
theorem dX12_sharesFrom_62 : decode cX12_sharesFrom 62 = .ok (.aload_n 0, 1) := o_42 BX12_sharesFrom rfl rfl
theorem dX12_sharesFrom_63 : decode cX12_sharesFrom 63 = .ok (.getfield 404, 3) := o_180 BX12_sharesFrom rfl rfl rfl
theorem dX12_sharesFrom_66 : decode cX12_sharesFrom 66 = .ok (.if_icmp .gt 4, 3) := o_163 BX12_sharesFrom rfl rfl rfl
theorem dX12_sharesFrom_69 : decode cX12_sharesFrom 69 = .ok (.return_, 1) := o_177 BX12_sharesFrom rfl rfl
theorem dX12_sharesFrom_70 : decode cX12_sharesFrom 70 = .ok (.aload_n 0, 1) := o_42 BX12_sharesFrom rfl rfl
theorem dX12_sharesFrom_71 : decode cX12_sharesFrom 71 = .ok (.getfield 88, 3) := o_180 BX12_sharesFrom rfl rfl rfl
theorem dX12_sharesFrom_74 : decode cX12_sharesFrom 74 = .ok (.iload_n 1, 1) := o_27 BX12_sharesFrom rfl rfl
theorem dX12_sharesFrom_75 : decode cX12_sharesFrom 75 = .ok (.iconst (-1), 1) := o_2 BX12_sharesFrom rfl rfl
theorem dX12_sharesFrom_76 : decode cX12_sharesFrom 76 = .ok (.iastore, 1) := o_79 BX12_sharesFrom rfl rfl
theorem dX12_sharesFrom_77 : decode cX12_sharesFrom 77 = .ok (.aload_n 0, 1) := o_42 BX12_sharesFrom rfl rfl
theorem dX12_sharesFrom_78 : decode cX12_sharesFrom 78 = .ok (.iload_n 1, 1) := o_27 BX12_sharesFrom rfl rfl
theorem dX12_sharesFrom_79 : decode cX12_sharesFrom 79 = .ok (.iconst 1, 1) := o_4 BX12_sharesFrom rfl rfl
theorem dX12_sharesFrom_80 : decode cX12_sharesFrom 80 = .ok (.iadd, 1) := o_96 BX12_sharesFrom rfl rfl
theorem dX12_sharesFrom_81 : decode cX12_sharesFrom 81 = .ok (.iload_n 2, 1) := o_28 BX12_sharesFrom rfl rfl
theorem dX12_sharesFrom_82 : decode cX12_sharesFrom 82 = .ok (.iload_n 3, 1) := o_29 BX12_sharesFrom rfl rfl
theorem dX12_sharesFrom_83 : decode cX12_sharesFrom 83 = .ok (.iload 4, 2) := o_21 BX12_sharesFrom rfl rfl rfl
theorem dX12_sharesFrom_85 : decode cX12_sharesFrom 85 = .ok (.invokevirtual 417, 3) := o_182 BX12_sharesFrom rfl rfl rfl
theorem dX12_sharesFrom_88 : decode cX12_sharesFrom 88 = .ok (.iconst 0, 1) := o_3 BX12_sharesFrom rfl rfl
theorem dX12_sharesFrom_89 : decode cX12_sharesFrom 89 = .ok (.istore 5, 2) := o_54 BX12_sharesFrom rfl rfl rfl
theorem dX12_sharesFrom_91 : decode cX12_sharesFrom 91 = .ok (.iload 5, 2) := o_21 BX12_sharesFrom rfl rfl rfl
theorem dX12_sharesFrom_93 : decode cX12_sharesFrom 93 = .ok (.aload_n 0, 1) := o_42 BX12_sharesFrom rfl rfl
theorem dX12_sharesFrom_94 : decode cX12_sharesFrom 94 = .ok (.getfield 122, 3) := o_180 BX12_sharesFrom rfl rfl rfl
theorem dX12_sharesFrom_97 : decode cX12_sharesFrom 97 = .ok (.if_icmp .ge 92, 3) := o_162 BX12_sharesFrom rfl rfl rfl
theorem dX12_sharesFrom_100 : decode cX12_sharesFrom 100 = .ok (.aload_n 0, 1) := o_42 BX12_sharesFrom rfl rfl
theorem dX12_sharesFrom_101 : decode cX12_sharesFrom 101 = .ok (.getfield 31, 3) := o_180 BX12_sharesFrom rfl rfl rfl
theorem dX12_sharesFrom_104 : decode cX12_sharesFrom 104 = .ok (.iload_n 1, 1) := o_27 BX12_sharesFrom rfl rfl
theorem dX12_sharesFrom_105 : decode cX12_sharesFrom 105 = .ok (.invokestatic 132, 3) := o_184 BX12_sharesFrom rfl rfl rfl
theorem dX12_sharesFrom_108 : decode cX12_sharesFrom 108 = .ok (.ifCond .ne 81, 3) := o_154 BX12_sharesFrom rfl rfl rfl
theorem dX12_sharesFrom_111 : decode cX12_sharesFrom 111 = .ok (.iload_n 2, 1) := o_28 BX12_sharesFrom rfl rfl
theorem dX12_sharesFrom_112 : decode cX12_sharesFrom 112 = .ok (.iload 5, 2) := o_21 BX12_sharesFrom rfl rfl rfl
theorem dX12_sharesFrom_114 : decode cX12_sharesFrom 114 = .ok (.invokestatic 411, 3) := o_184 BX12_sharesFrom rfl rfl rfl
theorem dX12_sharesFrom_117 : decode cX12_sharesFrom 117 = .ok (.ifCond .ne 66, 3) := o_154 BX12_sharesFrom rfl rfl rfl
theorem dX12_sharesFrom_120 : decode cX12_sharesFrom 120 = .ok (.aload_n 0, 1) := o_42 BX12_sharesFrom rfl rfl
theorem dX12_sharesFrom_121 : decode cX12_sharesFrom 121 = .ok (.getfield 31, 3) := o_180 BX12_sharesFrom rfl rfl rfl
theorem dX12_sharesFrom_124 : decode cX12_sharesFrom 124 = .ok (.iload 5, 2) := o_21 BX12_sharesFrom rfl rfl rfl
theorem dX12_sharesFrom_126 : decode cX12_sharesFrom 126 = .ok (.invokestatic 266, 3) := o_184 BX12_sharesFrom rfl rfl rfl
theorem dX12_sharesFrom_129 : decode cX12_sharesFrom 129 = .ok (.ifCond .eq 54, 3) := o_153 BX12_sharesFrom rfl rfl rfl
theorem dX12_sharesFrom_132 : decode cX12_sharesFrom 132 = .ok (.aload_n 0, 1) := o_42 BX12_sharesFrom rfl rfl
theorem dX12_sharesFrom_133 : decode cX12_sharesFrom 133 = .ok (.getfield 31, 3) := o_180 BX12_sharesFrom rfl rfl rfl
theorem dX12_sharesFrom_136 : decode cX12_sharesFrom 136 = .ok (.iload 5, 2) := o_21 BX12_sharesFrom rfl rfl rfl
theorem dX12_sharesFrom_138 : decode cX12_sharesFrom 138 = .ok (.iaload, 1) := o_46 BX12_sharesFrom rfl rfl
theorem dX12_sharesFrom_139 : decode cX12_sharesFrom 139 = .ok (.aload_n 0, 1) := o_42 BX12_sharesFrom rfl rfl
theorem dX12_sharesFrom_140 : decode cX12_sharesFrom 140 = .ok (.getfield 31, 3) := o_180 BX12_sharesFrom rfl rfl rfl
theorem dX12_sharesFrom_143 : decode cX12_sharesFrom 143 = .ok (.bipush 13, 2) := o_16 BX12_sharesFrom rfl rfl rfl
theorem dX12_sharesFrom_145 : decode cX12_sharesFrom 145 = .ok (.iload_n 1, 1) := o_27 BX12_sharesFrom rfl rfl
theorem dX12_sharesFrom_146 : decode cX12_sharesFrom 146 = .ok (.iadd, 1) := o_96 BX12_sharesFrom rfl rfl
theorem dX12_sharesFrom_147 : decode cX12_sharesFrom 147 = .ok (.iaload, 1) := o_46 BX12_sharesFrom rfl rfl
theorem dX12_sharesFrom_148 : decode cX12_sharesFrom 148 = .ok (.isub, 1) := o_100 BX12_sharesFrom rfl rfl
theorem dX12_sharesFrom_149 : decode cX12_sharesFrom 149 = .ok (.invokestatic 290, 3) := o_184 BX12_sharesFrom rfl rfl rfl
theorem dX12_sharesFrom_152 : decode cX12_sharesFrom 152 = .ok (.iload 4, 2) := o_21 BX12_sharesFrom rfl rfl rfl
theorem dX12_sharesFrom_154 : decode cX12_sharesFrom 154 = .ok (.if_icmp .gt 29, 3) := o_163 BX12_sharesFrom rfl rfl rfl
theorem dX12_sharesFrom_157 : decode cX12_sharesFrom 157 = .ok (.aload_n 0, 1) := o_42 BX12_sharesFrom rfl rfl
theorem dX12_sharesFrom_158 : decode cX12_sharesFrom 158 = .ok (.getfield 88, 3) := o_180 BX12_sharesFrom rfl rfl rfl
theorem dX12_sharesFrom_161 : decode cX12_sharesFrom 161 = .ok (.iload_n 1, 1) := o_27 BX12_sharesFrom rfl rfl
theorem dX12_sharesFrom_162 : decode cX12_sharesFrom 162 = .ok (.iload 5, 2) := o_21 BX12_sharesFrom rfl rfl rfl
theorem dX12_sharesFrom_164 : decode cX12_sharesFrom 164 = .ok (.iastore, 1) := o_79 BX12_sharesFrom rfl rfl
theorem dX12_sharesFrom_165 : decode cX12_sharesFrom 165 = .ok (.aload_n 0, 1) := o_42 BX12_sharesFrom rfl rfl
theorem dX12_sharesFrom_166 : decode cX12_sharesFrom 166 = .ok (.iload_n 1, 1) := o_27 BX12_sharesFrom rfl rfl
theorem dX12_sharesFrom_167 : decode cX12_sharesFrom 167 = .ok (.iconst 1, 1) := o_4 BX12_sharesFrom rfl rfl
theorem dX12_sharesFrom_168 : decode cX12_sharesFrom 168 = .ok (.iadd, 1) := o_96 BX12_sharesFrom rfl rfl
theorem dX12_sharesFrom_169 : decode cX12_sharesFrom 169 = .ok (.iload_n 2, 1) := o_28 BX12_sharesFrom rfl rfl
theorem dX12_sharesFrom_170 : decode cX12_sharesFrom 170 = .ok (.iconst 1, 1) := o_4 BX12_sharesFrom rfl rfl
theorem dX12_sharesFrom_171 : decode cX12_sharesFrom 171 = .ok (.iload 5, 2) := o_21 BX12_sharesFrom rfl rfl rfl
theorem dX12_sharesFrom_173 : decode cX12_sharesFrom 173 = .ok (.ishl, 1) := o_120 BX12_sharesFrom rfl rfl
theorem dX12_sharesFrom_174 : decode cX12_sharesFrom 174 = .ok (.ior, 1) := o_128 BX12_sharesFrom rfl rfl
theorem dX12_sharesFrom_175 : decode cX12_sharesFrom 175 = .ok (.iload_n 3, 1) := o_29 BX12_sharesFrom rfl rfl
theorem dX12_sharesFrom_176 : decode cX12_sharesFrom 176 = .ok (.iconst 1, 1) := o_4 BX12_sharesFrom rfl rfl
theorem dX12_sharesFrom_177 : decode cX12_sharesFrom 177 = .ok (.iadd, 1) := o_96 BX12_sharesFrom rfl rfl
theorem dX12_sharesFrom_178 : decode cX12_sharesFrom 178 = .ok (.iload 4, 2) := o_21 BX12_sharesFrom rfl rfl rfl
theorem dX12_sharesFrom_180 : decode cX12_sharesFrom 180 = .ok (.invokevirtual 417, 3) := o_182 BX12_sharesFrom rfl rfl rfl
theorem dX12_sharesFrom_183 : decode cX12_sharesFrom 183 = .ok (.iinc 5 1, 3) := o_132 BX12_sharesFrom rfl rfl rfl rfl
theorem dX12_sharesFrom_186 : decode cX12_sharesFrom 186 = .ok (.goto (-95), 3) := o_167 BX12_sharesFrom rfl rfl rfl
theorem dX12_sharesFrom_189 : decode cX12_sharesFrom 189 = .ok (.return_, 1) := o_177 BX12_sharesFrom rfl rfl
theorem dX12_shares_0 : decode cX12_shares 0 = .ok (.aload_n 0, 1) := o_42 BX12_shares rfl rfl
theorem dX12_shares_1 : decode cX12_shares 1 = .ok (.iconst 0, 1) := o_3 BX12_shares rfl rfl
theorem dX12_shares_2 : decode cX12_shares 2 = .ok (.putfield 112, 3) := o_181 BX12_shares rfl rfl rfl
theorem dX12_shares_5 : decode cX12_shares 5 = .ok (.iload_n 1, 1) := o_27 BX12_shares rfl rfl
theorem dX12_shares_6 : decode cX12_shares 6 = .ok (.i2l, 1) := o_133 BX12_shares rfl rfl
theorem dX12_shares_7 : decode cX12_shares 7 = .ok (.lconst 0, 1) := o_9 BX12_shares rfl rfl
theorem dX12_shares_8 : decode cX12_shares 8 = .ok (.ldc2_w 421, 3) := o_20 BX12_shares rfl rfl rfl
theorem dX12_shares_11 : decode cX12_shares 11 = .ok (.invokestatic 125, 3) := o_184 BX12_shares rfl rfl rfl
theorem dX12_shares_14 : decode cX12_shares 14 = .ok (.ifCond .ne 5, 3) := o_154 BX12_shares rfl rfl rfl
theorem dX12_shares_17 : decode cX12_shares 17 = .ok (.iconst (-1), 1) := o_2 BX12_shares rfl rfl
theorem dX12_shares_18 : decode cX12_shares 18 = .ok (.ireturn, 1) := o_172 BX12_shares rfl rfl
theorem dX12_shares_19 : decode cX12_shares 19 = .ok (.aload_n 0, 1) := o_42 BX12_shares rfl rfl
theorem dX12_shares_20 : decode cX12_shares 20 = .ok (.iconst (-1), 1) := o_2 BX12_shares rfl rfl
theorem dX12_shares_21 : decode cX12_shares 21 = .ok (.putfield 404, 3) := o_181 BX12_shares rfl rfl rfl
theorem dX12_shares_24 : decode cX12_shares 24 = .ok (.aload_n 0, 1) := o_42 BX12_shares rfl rfl
theorem dX12_shares_25 : decode cX12_shares 25 = .ok (.iconst 0, 1) := o_3 BX12_shares rfl rfl
theorem dX12_shares_26 : decode cX12_shares 26 = .ok (.iconst 0, 1) := o_3 BX12_shares rfl rfl
theorem dX12_shares_27 : decode cX12_shares 27 = .ok (.iconst 0, 1) := o_3 BX12_shares rfl rfl
theorem dX12_shares_28 : decode cX12_shares 28 = .ok (.iload_n 1, 1) := o_27 BX12_shares rfl rfl
theorem dX12_shares_29 : decode cX12_shares 29 = .ok (.invokevirtual 417, 3) := o_182 BX12_shares rfl rfl rfl
theorem dX12_shares_32 : decode cX12_shares 32 = .ok (.aload_n 0, 1) := o_42 BX12_shares rfl rfl
theorem dX12_shares_33 : decode cX12_shares 33 = .ok (.iconst 0, 1) := o_3 BX12_shares rfl rfl
theorem dX12_shares_34 : decode cX12_shares 34 = .ok (.putfield 119, 3) := o_181 BX12_shares rfl rfl rfl
theorem dX12_shares_37 : decode cX12_shares 37 = .ok (.iconst 0, 1) := o_3 BX12_shares rfl rfl
theorem dX12_shares_38 : decode cX12_shares 38 = .ok (.istore_n 2, 1) := o_61 BX12_shares rfl rfl
theorem dX12_shares_39 : decode cX12_shares 39 = .ok (.iload_n 2, 1) := o_28 BX12_shares rfl rfl
theorem dX12_shares_40 : decode cX12_shares 40 = .ok (.aload_n 0, 1) := o_42 BX12_shares rfl rfl
theorem dX12_shares_41 : decode cX12_shares 41 = .ok (.getfield 129, 3) := o_180 BX12_shares rfl rfl rfl
theorem dX12_shares_44 : decode cX12_shares 44 = .ok (.if_icmp .ge 20, 3) := o_162 BX12_shares rfl rfl rfl
theorem dX12_shares_47 : decode cX12_shares 47 = .ok (.aload_n 0, 1) := o_42 BX12_shares rfl rfl
theorem dX12_shares_48 : decode cX12_shares 48 = .ok (.aload_n 0, 1) := o_42 BX12_shares rfl rfl
theorem dX12_shares_49 : decode cX12_shares 49 = .ok (.getfield 91, 3) := o_180 BX12_shares rfl rfl rfl
theorem dX12_shares_52 : decode cX12_shares 52 = .ok (.iload_n 2, 1) := o_28 BX12_shares rfl rfl
theorem dX12_shares_53 : decode cX12_shares 53 = .ok (.iaload, 1) := o_46 BX12_shares rfl rfl
theorem dX12_shares_54 : decode cX12_shares 54 = .ok (.i2l, 1) := o_133 BX12_shares rfl rfl
theorem dX12_shares_55 : decode cX12_shares 55 = .ok (.invokevirtual 358, 3) := o_182 BX12_shares rfl rfl rfl
theorem dX12_shares_58 : decode cX12_shares 58 = .ok (.iinc 2 1, 3) := o_132 BX12_shares rfl rfl rfl rfl
theorem dX12_shares_61 : decode cX12_shares 61 = .ok (.goto (-22), 3) := o_167 BX12_shares rfl rfl rfl
theorem dX12_shares_64 : decode cX12_shares 64 = .ok (.aload_n 0, 1) := o_42 BX12_shares rfl rfl
theorem dX12_shares_65 : decode cX12_shares 65 = .ok (.getfield 404, 3) := o_180 BX12_shares rfl rfl rfl
theorem dX12_shares_68 : decode cX12_shares 68 = .ok (.ireturn, 1) := o_172 BX12_shares rfl rfl
theorem dX12_strangers_0 : decode cX12_strangers 0 = .ok (.aload_n 0, 1) := o_42 BX12_strangers rfl rfl
theorem dX12_strangers_1 : decode cX12_strangers 1 = .ok (.iconst 0, 1) := o_3 BX12_strangers rfl rfl
theorem dX12_strangers_2 : decode cX12_strangers 2 = .ok (.putfield 112, 3) := o_181 BX12_strangers rfl rfl rfl
theorem dX12_strangers_5 : decode cX12_strangers 5 = .ok (.ldc_w 293, 3) := o_19 BX12_strangers rfl rfl rfl
theorem dX12_strangers_8 : decode cX12_strangers 8 = .ok (.istore_n 1, 1) := o_60 BX12_strangers rfl rfl
theorem dX12_strangers_9 : decode cX12_strangers 9 = .ok (.iconst (-1), 1) := o_2 BX12_strangers rfl rfl
theorem dX12_strangers_10 : decode cX12_strangers 10 = .ok (.istore_n 2, 1) := o_61 BX12_strangers rfl rfl
theorem dX12_strangers_11 : decode cX12_strangers 11 = .ok (.iconst (-1), 1) := o_2 BX12_strangers rfl rfl
theorem dX12_strangers_12 : decode cX12_strangers 12 = .ok (.istore_n 3, 1) := o_62 BX12_strangers rfl rfl
theorem dX12_strangers_13 : decode cX12_strangers 13 = .ok (.iconst 0, 1) := o_3 BX12_strangers rfl rfl
theorem dX12_strangers_14 : decode cX12_strangers 14 = .ok (.istore 4, 2) := o_54 BX12_strangers rfl rfl rfl
theorem dX12_strangers_16 : decode cX12_strangers 16 = .ok (.iload 4, 2) := o_21 BX12_strangers rfl rfl rfl
theorem dX12_strangers_18 : decode cX12_strangers 18 = .ok (.aload_n 0, 1) := o_42 BX12_strangers rfl rfl
theorem dX12_strangers_19 : decode cX12_strangers 19 = .ok (.getfield 129, 3) := o_180 BX12_strangers rfl rfl rfl
theorem dX12_strangers_22 : decode cX12_strangers 22 = .ok (.if_icmp .ge 112, 3) := o_162 BX12_strangers rfl rfl rfl
theorem dX12_strangers_25 : decode cX12_strangers 25 = .ok (.iload 4, 2) := o_21 BX12_strangers rfl rfl rfl
theorem dX12_strangers_27 : decode cX12_strangers 27 = .ok (.iconst 1, 1) := o_4 BX12_strangers rfl rfl
theorem dX12_strangers_28 : decode cX12_strangers 28 = .ok (.iadd, 1) := o_96 BX12_strangers rfl rfl
theorem dX12_strangers_29 : decode cX12_strangers 29 = .ok (.istore 5, 2) := o_54 BX12_strangers rfl rfl rfl
theorem dX12_strangers_31 : decode cX12_strangers 31 = .ok (.iload 5, 2) := o_21 BX12_strangers rfl rfl rfl
theorem dX12_strangers_33 : decode cX12_strangers 33 = .ok (.aload_n 0, 1) := o_42 BX12_strangers rfl rfl
theorem dX12_strangers_34 : decode cX12_strangers 34 = .ok (.getfield 129, 3) := o_180 BX12_strangers rfl rfl rfl
theorem dX12_strangers_37 : decode cX12_strangers 37 = .ok (.if_icmp .ge 91, 3) := o_162 BX12_strangers rfl rfl rfl
theorem dX12_strangers_40 : decode cX12_strangers 40 = .ok (.aload_n 0, 1) := o_42 BX12_strangers rfl rfl
theorem dX12_strangers_41 : decode cX12_strangers 41 = .ok (.getfield 31, 3) := o_180 BX12_strangers rfl rfl rfl
theorem dX12_strangers_44 : decode cX12_strangers 44 = .ok (.bipush 13, 2) := o_16 BX12_strangers rfl rfl rfl
theorem dX12_strangers_46 : decode cX12_strangers 46 = .ok (.iload 4, 2) := o_21 BX12_strangers rfl rfl rfl
theorem dX12_strangers_48 : decode cX12_strangers 48 = .ok (.iadd, 1) := o_96 BX12_strangers rfl rfl
theorem dX12_strangers_49 : decode cX12_strangers 49 = .ok (.iaload, 1) := o_46 BX12_strangers rfl rfl
theorem dX12_strangers_50 : decode cX12_strangers 50 = .ok (.aload_n 0, 1) := o_42 BX12_strangers rfl rfl
theorem dX12_strangers_51 : decode cX12_strangers 51 = .ok (.getfield 31, 3) := o_180 BX12_strangers rfl rfl rfl
theorem dX12_strangers_54 : decode cX12_strangers 54 = .ok (.bipush 13, 2) := o_16 BX12_strangers rfl rfl rfl
theorem dX12_strangers_56 : decode cX12_strangers 56 = .ok (.iload 5, 2) := o_21 BX12_strangers rfl rfl rfl
theorem dX12_strangers_58 : decode cX12_strangers 58 = .ok (.iadd, 1) := o_96 BX12_strangers rfl rfl
theorem dX12_strangers_59 : decode cX12_strangers 59 = .ok (.iaload, 1) := o_46 BX12_strangers rfl rfl
theorem dX12_strangers_60 : decode cX12_strangers 60 = .ok (.isub, 1) := o_100 BX12_strangers rfl rfl
theorem dX12_strangers_61 : decode cX12_strangers 61 = .ok (.invokestatic 290, 3) := o_184 BX12_strangers rfl rfl rfl
theorem dX12_strangers_64 : decode cX12_strangers 64 = .ok (.istore 6, 2) := o_54 BX12_strangers rfl rfl rfl
theorem dX12_strangers_66 : decode cX12_strangers 66 = .ok (.aload_n 0, 1) := o_42 BX12_strangers rfl rfl
theorem dX12_strangers_67 : decode cX12_strangers 67 = .ok (.getfield 24, 3) := o_180 BX12_strangers rfl rfl rfl
theorem dX12_strangers_70 : decode cX12_strangers 70 = .ok (.iload 4, 2) := o_21 BX12_strangers rfl rfl rfl
theorem dX12_strangers_72 : decode cX12_strangers 72 = .ok (.iaload, 1) := o_46 BX12_strangers rfl rfl
theorem dX12_strangers_73 : decode cX12_strangers 73 = .ok (.aload_n 0, 1) := o_42 BX12_strangers rfl rfl
theorem dX12_strangers_74 : decode cX12_strangers 74 = .ok (.getfield 24, 3) := o_180 BX12_strangers rfl rfl rfl
theorem dX12_strangers_77 : decode cX12_strangers 77 = .ok (.iload 5, 2) := o_21 BX12_strangers rfl rfl rfl
theorem dX12_strangers_79 : decode cX12_strangers 79 = .ok (.iaload, 1) := o_46 BX12_strangers rfl rfl
theorem dX12_strangers_80 : decode cX12_strangers 80 = .ok (.if_icmp .eq 42, 3) := o_159 BX12_strangers rfl rfl rfl
theorem dX12_strangers_83 : decode cX12_strangers 83 = .ok (.aload_n 0, 1) := o_42 BX12_strangers rfl rfl
theorem dX12_strangers_84 : decode cX12_strangers 84 = .ok (.getfield 31, 3) := o_180 BX12_strangers rfl rfl rfl
theorem dX12_strangers_87 : decode cX12_strangers 87 = .ok (.iload 4, 2) := o_21 BX12_strangers rfl rfl rfl
theorem dX12_strangers_89 : decode cX12_strangers 89 = .ok (.invokestatic 132, 3) := o_184 BX12_strangers rfl rfl rfl
theorem dX12_strangers_92 : decode cX12_strangers 92 = .ok (.ifCond .ne 30, 3) := o_154 BX12_strangers rfl rfl rfl
theorem dX12_strangers_95 : decode cX12_strangers 95 = .ok (.aload_n 0, 1) := o_42 BX12_strangers rfl rfl
theorem dX12_strangers_96 : decode cX12_strangers 96 = .ok (.getfield 31, 3) := o_180 BX12_strangers rfl rfl rfl
theorem dX12_strangers_99 : decode cX12_strangers 99 = .ok (.iload 5, 2) := o_21 BX12_strangers rfl rfl rfl
theorem dX12_strangers_101 : decode cX12_strangers 101 = .ok (.invokestatic 132, 3) := o_184 BX12_strangers rfl rfl rfl
theorem dX12_strangers_104 : decode cX12_strangers 104 = .ok (.ifCond .ne 18, 3) := o_154 BX12_strangers rfl rfl rfl
theorem dX12_strangers_107 : decode cX12_strangers 107 = .ok (.iload 6, 2) := o_21 BX12_strangers rfl rfl rfl
theorem dX12_strangers_109 : decode cX12_strangers 109 = .ok (.iload_n 1, 1) := o_27 BX12_strangers rfl rfl
theorem dX12_strangers_110 : decode cX12_strangers 110 = .ok (.if_icmp .ge 12, 3) := o_162 BX12_strangers rfl rfl rfl
theorem dX12_strangers_113 : decode cX12_strangers 113 = .ok (.iload 6, 2) := o_21 BX12_strangers rfl rfl rfl
theorem dX12_strangers_115 : decode cX12_strangers 115 = .ok (.istore_n 1, 1) := o_60 BX12_strangers rfl rfl
theorem dX12_strangers_116 : decode cX12_strangers 116 = .ok (.iload 4, 2) := o_21 BX12_strangers rfl rfl rfl
theorem dX12_strangers_118 : decode cX12_strangers 118 = .ok (.istore_n 2, 1) := o_61 BX12_strangers rfl rfl
theorem dX12_strangers_119 : decode cX12_strangers 119 = .ok (.iload 5, 2) := o_21 BX12_strangers rfl rfl rfl
theorem dX12_strangers_121 : decode cX12_strangers 121 = .ok (.istore_n 3, 1) := o_62 BX12_strangers rfl rfl
theorem dX12_strangers_122 : decode cX12_strangers 122 = .ok (.iinc 5 1, 3) := o_132 BX12_strangers rfl rfl rfl rfl
theorem dX12_strangers_125 : decode cX12_strangers 125 = .ok (.goto (-94), 3) := o_167 BX12_strangers rfl rfl rfl
theorem dX12_strangers_128 : decode cX12_strangers 128 = .ok (.iinc 4 1, 3) := o_132 BX12_strangers rfl rfl rfl rfl
theorem dX12_strangers_131 : decode cX12_strangers 131 = .ok (.goto (-115), 3) := o_167 BX12_strangers rfl rfl rfl
theorem dX12_strangers_134 : decode cX12_strangers 134 = .ok (.iload_n 2, 1) := o_28 BX12_strangers rfl rfl
theorem dX12_strangers_135 : decode cX12_strangers 135 = .ok (.ifCond .ge 6, 3) := o_156 BX12_strangers rfl rfl rfl
theorem dX12_strangers_138 : decode cX12_strangers 138 = .ok (.bipush (-2), 2) := o_16 BX12_strangers rfl rfl rfl
theorem dX12_strangers_140 : decode cX12_strangers 140 = .ok (.ireturn, 1) := o_172 BX12_strangers rfl rfl
theorem dX12_strangers_141 : decode cX12_strangers 141 = .ok (.aload_n 0, 1) := o_42 BX12_strangers rfl rfl
theorem dX12_strangers_142 : decode cX12_strangers 142 = .ok (.iconst 0, 1) := o_3 BX12_strangers rfl rfl
theorem dX12_strangers_143 : decode cX12_strangers 143 = .ok (.putfield 119, 3) := o_181 BX12_strangers rfl rfl rfl
theorem dX12_strangers_146 : decode cX12_strangers 146 = .ok (.aload_n 0, 1) := o_42 BX12_strangers rfl rfl
theorem dX12_strangers_147 : decode cX12_strangers 147 = .ok (.iload_n 2, 1) := o_28 BX12_strangers rfl rfl
theorem dX12_strangers_148 : decode cX12_strangers 148 = .ok (.i2l, 1) := o_133 BX12_strangers rfl rfl
theorem dX12_strangers_149 : decode cX12_strangers 149 = .ok (.invokevirtual 358, 3) := o_182 BX12_strangers rfl rfl rfl
theorem dX12_strangers_152 : decode cX12_strangers 152 = .ok (.aload_n 0, 1) := o_42 BX12_strangers rfl rfl
theorem dX12_strangers_153 : decode cX12_strangers 153 = .ok (.iload_n 3, 1) := o_29 BX12_strangers rfl rfl
theorem dX12_strangers_154 : decode cX12_strangers 154 = .ok (.i2l, 1) := o_133 BX12_strangers rfl rfl
theorem dX12_strangers_155 : decode cX12_strangers 155 = .ok (.invokevirtual 358, 3) := o_182 BX12_strangers rfl rfl rfl
theorem dX12_strangers_158 : decode cX12_strangers 158 = .ok (.iload_n 1, 1) := o_27 BX12_strangers rfl rfl
theorem dX12_strangers_159 : decode cX12_strangers 159 = .ok (.ireturn, 1) := o_172 BX12_strangers rfl rfl
theorem dX12_doubts_0 : decode cX12_doubts 0 = .ok (.aload_n 0, 1) := o_42 BX12_doubts rfl rfl
theorem dX12_doubts_1 : decode cX12_doubts 1 = .ok (.iconst 0, 1) := o_3 BX12_doubts rfl rfl
theorem dX12_doubts_2 : decode cX12_doubts 2 = .ok (.putfield 112, 3) := o_181 BX12_doubts rfl rfl rfl
theorem dX12_doubts_5 : decode cX12_doubts 5 = .ok (.iconst 0, 1) := o_3 BX12_doubts rfl rfl
theorem dX12_doubts_6 : decode cX12_doubts 6 = .ok (.istore_n 1, 1) := o_60 BX12_doubts rfl rfl
theorem dX12_doubts_7 : decode cX12_doubts 7 = .ok (.iconst 0, 1) := o_3 BX12_doubts rfl rfl
theorem dX12_doubts_8 : decode cX12_doubts 8 = .ok (.istore_n 2, 1) := o_61 BX12_doubts rfl rfl
theorem dX12_doubts_9 : decode cX12_doubts 9 = .ok (.iload_n 2, 1) := o_28 BX12_doubts rfl rfl
theorem dX12_doubts_10 : decode cX12_doubts 10 = .ok (.aload_n 0, 1) := o_42 BX12_doubts rfl rfl
theorem dX12_doubts_11 : decode cX12_doubts 11 = .ok (.getfield 129, 3) := o_180 BX12_doubts rfl rfl rfl
theorem dX12_doubts_14 : decode cX12_doubts 14 = .ok (.if_icmp .ge 146, 3) := o_162 BX12_doubts rfl rfl rfl
theorem dX12_doubts_17 : decode cX12_doubts 17 = .ok (.aload_n 0, 1) := o_42 BX12_doubts rfl rfl
theorem dX12_doubts_18 : decode cX12_doubts 18 = .ok (.aload_n 0, 1) := o_42 BX12_doubts rfl rfl
theorem dX12_doubts_19 : decode cX12_doubts 19 = .ok (.getfield 31, 3) := o_180 BX12_doubts rfl rfl rfl
theorem dX12_doubts_22 : decode cX12_doubts 22 = .ok (.aload_n 0, 1) := o_42 BX12_doubts rfl rfl
theorem dX12_doubts_23 : decode cX12_doubts 23 = .ok (.getfield 31, 3) := o_180 BX12_doubts rfl rfl rfl
theorem dX12_doubts_26 : decode cX12_doubts 26 = .ok (.bipush 13, 2) := o_16 BX12_doubts rfl rfl rfl
theorem dX12_doubts_28 : decode cX12_doubts 28 = .ok (.iload_n 2, 1) := o_28 BX12_doubts rfl rfl
theorem dX12_doubts_29 : decode cX12_doubts 29 = .ok (.iadd, 1) := o_96 BX12_doubts rfl rfl
theorem dX12_doubts_30 : decode cX12_doubts 30 = .ok (.iaload, 1) := o_46 BX12_doubts rfl rfl
theorem dX12_doubts_31 : decode cX12_doubts 31 = .ok (.invokevirtual 313, 3) := o_182 BX12_doubts rfl rfl rfl
theorem dX12_doubts_34 : decode cX12_doubts 34 = .ok (.istore_n 3, 1) := o_62 BX12_doubts rfl rfl
theorem dX12_doubts_35 : decode cX12_doubts 35 = .ok (.iconst 0, 1) := o_3 BX12_doubts rfl rfl
theorem dX12_doubts_36 : decode cX12_doubts 36 = .ok (.istore 4, 2) := o_54 BX12_doubts rfl rfl rfl
theorem dX12_doubts_38 : decode cX12_doubts 38 = .ok (.iconst 0, 1) := o_3 BX12_doubts rfl rfl
theorem dX12_doubts_39 : decode cX12_doubts 39 = .ok (.istore 5, 2) := o_54 BX12_doubts rfl rfl rfl
theorem dX12_doubts_41 : decode cX12_doubts 41 = .ok (.iload 5, 2) := o_21 BX12_doubts rfl rfl rfl
theorem dX12_doubts_43 : decode cX12_doubts 43 = .ok (.aload_n 0, 1) := o_42 BX12_doubts rfl rfl
theorem dX12_doubts_44 : decode cX12_doubts 44 = .ok (.getfield 122, 3) := o_180 BX12_doubts rfl rfl rfl
theorem dX12_doubts_47 : decode cX12_doubts 47 = .ok (.if_icmp .ge 80, 3) := o_162 BX12_doubts rfl rfl rfl
theorem dX12_doubts_50 : decode cX12_doubts 50 = .ok (.iload_n 3, 1) := o_29 BX12_doubts rfl rfl
theorem dX12_doubts_51 : decode cX12_doubts 51 = .ok (.ifCond .lt 76, 3) := o_155 BX12_doubts rfl rfl rfl
theorem dX12_doubts_54 : decode cX12_doubts 54 = .ok (.iload 4, 2) := o_21 BX12_doubts rfl rfl rfl
theorem dX12_doubts_56 : decode cX12_doubts 56 = .ok (.aload_n 0, 1) := o_42 BX12_doubts rfl rfl
theorem dX12_doubts_57 : decode cX12_doubts 57 = .ok (.getfield 31, 3) := o_180 BX12_doubts rfl rfl rfl
theorem dX12_doubts_60 : decode cX12_doubts 60 = .ok (.iload 5, 2) := o_21 BX12_doubts rfl rfl rfl
theorem dX12_doubts_62 : decode cX12_doubts 62 = .ok (.invokestatic 266, 3) := o_184 BX12_doubts rfl rfl rfl
theorem dX12_doubts_65 : decode cX12_doubts 65 = .ok (.ifCond .eq 49, 3) := o_153 BX12_doubts rfl rfl rfl
theorem dX12_doubts_68 : decode cX12_doubts 68 = .ok (.aload_n 0, 1) := o_42 BX12_doubts rfl rfl
theorem dX12_doubts_69 : decode cX12_doubts 69 = .ok (.getfield 31, 3) := o_180 BX12_doubts rfl rfl rfl
theorem dX12_doubts_72 : decode cX12_doubts 72 = .ok (.iload 5, 2) := o_21 BX12_doubts rfl rfl rfl
theorem dX12_doubts_74 : decode cX12_doubts 74 = .ok (.iaload, 1) := o_46 BX12_doubts rfl rfl
theorem dX12_doubts_75 : decode cX12_doubts 75 = .ok (.aload_n 0, 1) := o_42 BX12_doubts rfl rfl
theorem dX12_doubts_76 : decode cX12_doubts 76 = .ok (.getfield 31, 3) := o_180 BX12_doubts rfl rfl rfl
theorem dX12_doubts_79 : decode cX12_doubts 79 = .ok (.bipush 13, 2) := o_16 BX12_doubts rfl rfl rfl
theorem dX12_doubts_81 : decode cX12_doubts 81 = .ok (.iload_n 2, 1) := o_28 BX12_doubts rfl rfl
theorem dX12_doubts_82 : decode cX12_doubts 82 = .ok (.iadd, 1) := o_96 BX12_doubts rfl rfl
theorem dX12_doubts_83 : decode cX12_doubts 83 = .ok (.iaload, 1) := o_46 BX12_doubts rfl rfl
theorem dX12_doubts_84 : decode cX12_doubts 84 = .ok (.isub, 1) := o_100 BX12_doubts rfl rfl
theorem dX12_doubts_85 : decode cX12_doubts 85 = .ok (.invokestatic 290, 3) := o_184 BX12_doubts rfl rfl rfl
theorem dX12_doubts_88 : decode cX12_doubts 88 = .ok (.aload_n 0, 1) := o_42 BX12_doubts rfl rfl
theorem dX12_doubts_89 : decode cX12_doubts 89 = .ok (.getfield 31, 3) := o_180 BX12_doubts rfl rfl rfl
theorem dX12_doubts_92 : decode cX12_doubts 92 = .ok (.iload_n 3, 1) := o_29 BX12_doubts rfl rfl
theorem dX12_doubts_93 : decode cX12_doubts 93 = .ok (.iaload, 1) := o_46 BX12_doubts rfl rfl
theorem dX12_doubts_94 : decode cX12_doubts 94 = .ok (.aload_n 0, 1) := o_42 BX12_doubts rfl rfl
theorem dX12_doubts_95 : decode cX12_doubts 95 = .ok (.getfield 31, 3) := o_180 BX12_doubts rfl rfl rfl
theorem dX12_doubts_98 : decode cX12_doubts 98 = .ok (.bipush 13, 2) := o_16 BX12_doubts rfl rfl rfl
theorem dX12_doubts_100 : decode cX12_doubts 100 = .ok (.iload_n 2, 1) := o_28 BX12_doubts rfl rfl
theorem dX12_doubts_101 : decode cX12_doubts 101 = .ok (.iadd, 1) := o_96 BX12_doubts rfl rfl
theorem dX12_doubts_102 : decode cX12_doubts 102 = .ok (.iaload, 1) := o_46 BX12_doubts rfl rfl
theorem dX12_doubts_103 : decode cX12_doubts 103 = .ok (.isub, 1) := o_100 BX12_doubts rfl rfl
theorem dX12_doubts_104 : decode cX12_doubts 104 = .ok (.invokestatic 290, 3) := o_184 BX12_doubts rfl rfl rfl
theorem dX12_doubts_107 : decode cX12_doubts 107 = .ok (.if_icmp .ne 7, 3) := o_160 BX12_doubts rfl rfl rfl
theorem dX12_doubts_110 : decode cX12_doubts 110 = .ok (.iconst 1, 1) := o_4 BX12_doubts rfl rfl
theorem dX12_doubts_111 : decode cX12_doubts 111 = .ok (.goto 4, 3) := o_167 BX12_doubts rfl rfl rfl
theorem dX12_doubts_114 : decode cX12_doubts 114 = .ok (.iconst 0, 1) := o_3 BX12_doubts rfl rfl
theorem dX12_doubts_115 : decode cX12_doubts 115 = .ok (.invokestatic 154, 3) := o_184 BX12_doubts rfl rfl rfl
theorem dX12_doubts_118 : decode cX12_doubts 118 = .ok (.iadd, 1) := o_96 BX12_doubts rfl rfl
theorem dX12_doubts_119 : decode cX12_doubts 119 = .ok (.istore 4, 2) := o_54 BX12_doubts rfl rfl rfl
theorem dX12_doubts_121 : decode cX12_doubts 121 = .ok (.iinc 5 1, 3) := o_132 BX12_doubts rfl rfl rfl rfl
theorem dX12_doubts_124 : decode cX12_doubts 124 = .ok (.goto (-83), 3) := o_167 BX12_doubts rfl rfl rfl
theorem dX12_doubts_127 : decode cX12_doubts 127 = .ok (.iload_n 1, 1) := o_27 BX12_doubts rfl rfl
theorem dX12_doubts_128 : decode cX12_doubts 128 = .ok (.iload 4, 2) := o_21 BX12_doubts rfl rfl rfl
theorem dX12_doubts_130 : decode cX12_doubts 130 = .ok (.iconst 1, 1) := o_4 BX12_doubts rfl rfl
theorem dX12_doubts_131 : decode cX12_doubts 131 = .ok (.if_icmp .le 20, 3) := o_164 BX12_doubts rfl rfl rfl
theorem dX12_doubts_134 : decode cX12_doubts 134 = .ok (.aload_n 0, 1) := o_42 BX12_doubts rfl rfl
theorem dX12_doubts_135 : decode cX12_doubts 135 = .ok (.getfield 31, 3) := o_180 BX12_doubts rfl rfl rfl
theorem dX12_doubts_138 : decode cX12_doubts 138 = .ok (.iload_n 2, 1) := o_28 BX12_doubts rfl rfl
theorem dX12_doubts_139 : decode cX12_doubts 139 = .ok (.invokestatic 132, 3) := o_184 BX12_doubts rfl rfl rfl
theorem dX12_doubts_142 : decode cX12_doubts 142 = .ok (.ifCond .ne 9, 3) := o_154 BX12_doubts rfl rfl rfl
theorem dX12_doubts_145 : decode cX12_doubts 145 = .ok (.iconst 1, 1) := o_4 BX12_doubts rfl rfl
theorem dX12_doubts_146 : decode cX12_doubts 146 = .ok (.iload_n 2, 1) := o_28 BX12_doubts rfl rfl
theorem dX12_doubts_147 : decode cX12_doubts 147 = .ok (.ishl, 1) := o_120 BX12_doubts rfl rfl
theorem dX12_doubts_148 : decode cX12_doubts 148 = .ok (.goto 4, 3) := o_167 BX12_doubts rfl rfl rfl
theorem dX12_doubts_151 : decode cX12_doubts 151 = .ok (.iconst 0, 1) := o_3 BX12_doubts rfl rfl
theorem dX12_doubts_152 : decode cX12_doubts 152 = .ok (.ior, 1) := o_128 BX12_doubts rfl rfl
theorem dX12_doubts_153 : decode cX12_doubts 153 = .ok (.istore_n 1, 1) := o_60 BX12_doubts rfl rfl
theorem dX12_doubts_154 : decode cX12_doubts 154 = .ok (.iinc 2 1, 3) := o_132 BX12_doubts rfl rfl rfl rfl
theorem dX12_doubts_157 : decode cX12_doubts 157 = .ok (.goto (-148), 3) := o_167 BX12_doubts rfl rfl rfl
theorem dX12_doubts_160 : decode cX12_doubts 160 = .ok (.aload_n 0, 1) := o_42 BX12_doubts rfl rfl
theorem dX12_doubts_161 : decode cX12_doubts 161 = .ok (.iconst 0, 1) := o_3 BX12_doubts rfl rfl
theorem dX12_doubts_162 : decode cX12_doubts 162 = .ok (.putfield 119, 3) := o_181 BX12_doubts rfl rfl rfl
theorem dX12_doubts_165 : decode cX12_doubts 165 = .ok (.aload_n 0, 1) := o_42 BX12_doubts rfl rfl
theorem dX12_doubts_166 : decode cX12_doubts 166 = .ok (.iload_n 1, 1) := o_27 BX12_doubts rfl rfl
theorem dX12_doubts_167 : decode cX12_doubts 167 = .ok (.invokestatic 279, 3) := o_184 BX12_doubts rfl rfl rfl
theorem dX12_doubts_170 : decode cX12_doubts 170 = .ok (.i2l, 1) := o_133 BX12_doubts rfl rfl
theorem dX12_doubts_171 : decode cX12_doubts 171 = .ok (.invokevirtual 358, 3) := o_182 BX12_doubts rfl rfl rfl
theorem dX12_doubts_174 : decode cX12_doubts 174 = .ok (.iload_n 1, 1) := o_27 BX12_doubts rfl rfl
theorem dX12_doubts_175 : decode cX12_doubts 175 = .ok (.ireturn, 1) := o_172 BX12_doubts rfl rfl
theorem dX12_heard_0 : decode cX12_heard 0 = .ok (.aload_n 0, 1) := o_42 BX12_heard rfl rfl
theorem dX12_heard_1 : decode cX12_heard 1 = .ok (.iconst 0, 1) := o_3 BX12_heard rfl rfl
theorem dX12_heard_2 : decode cX12_heard 2 = .ok (.putfield 112, 3) := o_181 BX12_heard rfl rfl rfl
theorem dX12_heard_5 : decode cX12_heard 5 = .ok (.iload_n 1, 1) := o_27 BX12_heard rfl rfl
theorem dX12_heard_6 : decode cX12_heard 6 = .ok (.iconst 1, 1) := o_4 BX12_heard rfl rfl
theorem dX12_heard_7 : decode cX12_heard 7 = .ok (.if_icmp .ne 8, 3) := o_160 BX12_heard rfl rfl rfl
theorem dX12_heard_10 : decode cX12_heard 10 = .ok (.bipush 6, 2) := o_16 BX12_heard rfl rfl rfl
theorem dX12_heard_12 : decode cX12_heard 12 = .ok (.goto 14, 3) := o_167 BX12_heard rfl rfl rfl
theorem dX12_heard_15 : decode cX12_heard 15 = .ok (.iload_n 1, 1) := o_27 BX12_heard rfl rfl
theorem dX12_heard_16 : decode cX12_heard 16 = .ok (.iconst 3, 1) := o_6 BX12_heard rfl rfl
theorem dX12_heard_17 : decode cX12_heard 17 = .ok (.if_icmp .ne 7, 3) := o_160 BX12_heard rfl rfl rfl
theorem dX12_heard_20 : decode cX12_heard 20 = .ok (.iconst 1, 1) := o_4 BX12_heard rfl rfl
theorem dX12_heard_21 : decode cX12_heard 21 = .ok (.goto 5, 3) := o_167 BX12_heard rfl rfl rfl
theorem dX12_heard_24 : decode cX12_heard 24 = .ok (.bipush 8, 2) := o_16 BX12_heard rfl rfl rfl
theorem dX12_heard_26 : decode cX12_heard 26 = .ok (.istore_n 3, 1) := o_62 BX12_heard rfl rfl
theorem dX12_heard_27 : decode cX12_heard 27 = .ok (.iload_n 1, 1) := o_27 BX12_heard rfl rfl
theorem dX12_heard_28 : decode cX12_heard 28 = .ok (.i2l, 1) := o_133 BX12_heard rfl rfl
theorem dX12_heard_29 : decode cX12_heard 29 = .ok (.lconst 0, 1) := o_9 BX12_heard rfl rfl
theorem dX12_heard_30 : decode cX12_heard 30 = .ok (.ldc2_w 316, 3) := o_20 BX12_heard rfl rfl rfl
theorem dX12_heard_33 : decode cX12_heard 33 = .ok (.invokestatic 125, 3) := o_184 BX12_heard rfl rfl rfl
theorem dX12_heard_36 : decode cX12_heard 36 = .ok (.ifCond .eq 36, 3) := o_153 BX12_heard rfl rfl rfl
theorem dX12_heard_39 : decode cX12_heard 39 = .ok (.iload_n 2, 1) := o_28 BX12_heard rfl rfl
theorem dX12_heard_40 : decode cX12_heard 40 = .ok (.i2l, 1) := o_133 BX12_heard rfl rfl
theorem dX12_heard_41 : decode cX12_heard 41 = .ok (.iload_n 1, 1) := o_27 BX12_heard rfl rfl
theorem dX12_heard_42 : decode cX12_heard 42 = .ok (.iconst 1, 1) := o_4 BX12_heard rfl rfl
theorem dX12_heard_43 : decode cX12_heard 43 = .ok (.if_icmp .ne 7, 3) := o_160 BX12_heard rfl rfl rfl
theorem dX12_heard_46 : decode cX12_heard 46 = .ok (.iconst 1, 1) := o_4 BX12_heard rfl rfl
theorem dX12_heard_47 : decode cX12_heard 47 = .ok (.goto 4, 3) := o_167 BX12_heard rfl rfl rfl
theorem dX12_heard_50 : decode cX12_heard 50 = .ok (.iconst 0, 1) := o_3 BX12_heard rfl rfl
theorem dX12_heard_51 : decode cX12_heard 51 = .ok (.invokestatic 154, 3) := o_184 BX12_heard rfl rfl rfl
theorem dX12_heard_54 : decode cX12_heard 54 = .ok (.i2l, 1) := o_133 BX12_heard rfl rfl
theorem dX12_heard_55 : decode cX12_heard 55 = .ok (.iload_n 3, 1) := o_29 BX12_heard rfl rfl
theorem dX12_heard_56 : decode cX12_heard 56 = .ok (.i2l, 1) := o_133 BX12_heard rfl rfl
theorem dX12_heard_57 : decode cX12_heard 57 = .ok (.invokestatic 125, 3) := o_184 BX12_heard rfl rfl rfl
theorem dX12_heard_60 : decode cX12_heard 60 = .ok (.ifCond .eq 12, 3) := o_153 BX12_heard rfl rfl rfl
theorem dX12_heard_63 : decode cX12_heard 63 = .ok (.aload_n 0, 1) := o_42 BX12_heard rfl rfl
theorem dX12_heard_64 : decode cX12_heard 64 = .ok (.getfield 423, 3) := o_180 BX12_heard rfl rfl rfl
theorem dX12_heard_67 : decode cX12_heard 67 = .ok (.bipush 8, 2) := o_16 BX12_heard rfl rfl rfl
theorem dX12_heard_69 : decode cX12_heard 69 = .ok (.if_icmp .ne 5, 3) := o_160 BX12_heard rfl rfl rfl
theorem dX12_heard_72 : decode cX12_heard 72 = .ok (.iconst (-1), 1) := o_2 BX12_heard rfl rfl
theorem dX12_heard_73 : decode cX12_heard 73 = .ok (.ireturn, 1) := o_172 BX12_heard rfl rfl
theorem dX12_heard_74 : decode cX12_heard 74 = .ok (.aload_n 0, 1) := o_42 BX12_heard rfl rfl
theorem dX12_heard_75 : decode cX12_heard 75 = .ok (.getfield 94, 3) := o_180 BX12_heard rfl rfl rfl
theorem dX12_heard_78 : decode cX12_heard 78 = .ok (.aload_n 0, 1) := o_42 BX12_heard rfl rfl
theorem dX12_heard_79 : decode cX12_heard 79 = .ok (.getfield 423, 3) := o_180 BX12_heard rfl rfl rfl
theorem dX12_heard_82 : decode cX12_heard 82 = .ok (.iload_n 1, 1) := o_27 BX12_heard rfl rfl
theorem dX12_heard_83 : decode cX12_heard 83 = .ok (.iastore, 1) := o_79 BX12_heard rfl rfl
theorem dX12_heard_84 : decode cX12_heard 84 = .ok (.aload_n 0, 1) := o_42 BX12_heard rfl rfl
theorem dX12_heard_85 : decode cX12_heard 85 = .ok (.getfield 97, 3) := o_180 BX12_heard rfl rfl rfl
theorem dX12_heard_88 : decode cX12_heard 88 = .ok (.aload_n 0, 1) := o_42 BX12_heard rfl rfl
theorem dX12_heard_89 : decode cX12_heard 89 = .ok (.getfield 423, 3) := o_180 BX12_heard rfl rfl rfl
theorem dX12_heard_92 : decode cX12_heard 92 = .ok (.iload_n 2, 1) := o_28 BX12_heard rfl rfl
theorem dX12_heard_93 : decode cX12_heard 93 = .ok (.iastore, 1) := o_79 BX12_heard rfl rfl
theorem dX12_heard_94 : decode cX12_heard 94 = .ok (.aload_n 0, 1) := o_42 BX12_heard rfl rfl
theorem dX12_heard_95 : decode cX12_heard 95 = .ok (.dup, 1) := o_89 BX12_heard rfl rfl
theorem dX12_heard_96 : decode cX12_heard 96 = .ok (.getfield 423, 3) := o_180 BX12_heard rfl rfl rfl
theorem dX12_heard_99 : decode cX12_heard 99 = .ok (.iconst 1, 1) := o_4 BX12_heard rfl rfl
theorem dX12_heard_100 : decode cX12_heard 100 = .ok (.iadd, 1) := o_96 BX12_heard rfl rfl
theorem dX12_heard_101 : decode cX12_heard 101 = .ok (.putfield 423, 3) := o_181 BX12_heard rfl rfl rfl
theorem dX12_heard_104 : decode cX12_heard 104 = .ok (.aload_n 0, 1) := o_42 BX12_heard rfl rfl
theorem dX12_heard_105 : decode cX12_heard 105 = .ok (.getfield 423, 3) := o_180 BX12_heard rfl rfl rfl
theorem dX12_heard_108 : decode cX12_heard 108 = .ok (.ireturn, 1) := o_172 BX12_heard rfl rfl
theorem dX12_forget_0 : decode cX12_forget 0 = .ok (.aload_n 0, 1) := o_42 BX12_forget rfl rfl
theorem dX12_forget_1 : decode cX12_forget 1 = .ok (.iconst 0, 1) := o_3 BX12_forget rfl rfl
theorem dX12_forget_2 : decode cX12_forget 2 = .ok (.putfield 112, 3) := o_181 BX12_forget rfl rfl rfl
theorem dX12_forget_5 : decode cX12_forget 5 = .ok (.aload_n 0, 1) := o_42 BX12_forget rfl rfl
theorem dX12_forget_6 : decode cX12_forget 6 = .ok (.getfield 423, 3) := o_180 BX12_forget rfl rfl rfl
theorem dX12_forget_9 : decode cX12_forget 9 = .ok (.istore_n 1, 1) := o_60 BX12_forget rfl rfl
theorem dX12_forget_10 : decode cX12_forget 10 = .ok (.aload_n 0, 1) := o_42 BX12_forget rfl rfl
theorem dX12_forget_11 : decode cX12_forget 11 = .ok (.iconst 0, 1) := o_3 BX12_forget rfl rfl
theorem dX12_forget_12 : decode cX12_forget 12 = .ok (.putfield 423, 3) := o_181 BX12_forget rfl rfl rfl
theorem dX12_forget_15 : decode cX12_forget 15 = .ok (.iload_n 1, 1) := o_27 BX12_forget rfl rfl
theorem dX12_forget_16 : decode cX12_forget 16 = .ok (.ireturn, 1) := o_172 BX12_forget rfl rfl
theorem dX12_isSo_0 : decode cX12_isSo 0 = .ok (.iload_n 2, 1) := o_28 BX12_isSo rfl rfl
theorem dX12_isSo_1 : decode cX12_isSo 1 = .ok (.tableswitch 99 0 2 #[27, 45, 75], 27) := by decide +kernel
theorem dX12_isSo_28 : decode cX12_isSo 28 = .ok (.aload_n 0, 1) := o_42 BX12_isSo rfl rfl
theorem dX12_isSo_29 : decode cX12_isSo 29 = .ok (.iload_n 1, 1) := o_27 BX12_isSo rfl rfl
theorem dX12_isSo_30 : decode cX12_isSo 30 = .ok (.invokevirtual 305, 3) := o_182 BX12_isSo rfl rfl rfl
theorem dX12_isSo_33 : decode cX12_isSo 33 = .ok (.invokestatic 279, 3) := o_184 BX12_isSo rfl rfl rfl
theorem dX12_isSo_36 : decode cX12_isSo 36 = .ok (.iload_n 3, 1) := o_29 BX12_isSo rfl rfl
theorem dX12_isSo_37 : decode cX12_isSo 37 = .ok (.if_icmp .lt 7, 3) := o_161 BX12_isSo rfl rfl rfl
theorem dX12_isSo_40 : decode cX12_isSo 40 = .ok (.iconst 1, 1) := o_4 BX12_isSo rfl rfl
theorem dX12_isSo_41 : decode cX12_isSo 41 = .ok (.goto 4, 3) := o_167 BX12_isSo rfl rfl rfl
theorem dX12_isSo_44 : decode cX12_isSo 44 = .ok (.iconst 0, 1) := o_3 BX12_isSo rfl rfl
theorem dX12_isSo_45 : decode cX12_isSo 45 = .ok (.ireturn, 1) := o_172 BX12_isSo rfl rfl
theorem dX12_isSo_46 : decode cX12_isSo 46 = .ok (.aload_n 0, 1) := o_42 BX12_isSo rfl rfl
theorem dX12_isSo_47 : decode cX12_isSo 47 = .ok (.getfield 34, 3) := o_180 BX12_isSo rfl rfl rfl
theorem dX12_isSo_50 : decode cX12_isSo 50 = .ok (.iload_n 1, 1) := o_27 BX12_isSo rfl rfl
theorem dX12_isSo_51 : decode cX12_isSo 51 = .ok (.invokestatic 266, 3) := o_184 BX12_isSo rfl rfl rfl
theorem dX12_isSo_54 : decode cX12_isSo 54 = .ok (.ifCond .ne 20, 3) := o_154 BX12_isSo rfl rfl rfl
theorem dX12_isSo_57 : decode cX12_isSo 57 = .ok (.aload_n 0, 1) := o_42 BX12_isSo rfl rfl
theorem dX12_isSo_58 : decode cX12_isSo 58 = .ok (.getfield 34, 3) := o_180 BX12_isSo rfl rfl rfl
theorem dX12_isSo_61 : decode cX12_isSo 61 = .ok (.bipush 6, 2) := o_16 BX12_isSo rfl rfl rfl
theorem dX12_isSo_63 : decode cX12_isSo 63 = .ok (.iload_n 1, 1) := o_27 BX12_isSo rfl rfl
theorem dX12_isSo_64 : decode cX12_isSo 64 = .ok (.iadd, 1) := o_96 BX12_isSo rfl rfl
theorem dX12_isSo_65 : decode cX12_isSo 65 = .ok (.iaload, 1) := o_46 BX12_isSo rfl rfl
theorem dX12_isSo_66 : decode cX12_isSo 66 = .ok (.iload_n 3, 1) := o_29 BX12_isSo rfl rfl
theorem dX12_isSo_67 : decode cX12_isSo 67 = .ok (.if_icmp .ne 7, 3) := o_160 BX12_isSo rfl rfl rfl
theorem dX12_isSo_70 : decode cX12_isSo 70 = .ok (.iconst 1, 1) := o_4 BX12_isSo rfl rfl
theorem dX12_isSo_71 : decode cX12_isSo 71 = .ok (.goto 4, 3) := o_167 BX12_isSo rfl rfl rfl
theorem dX12_isSo_74 : decode cX12_isSo 74 = .ok (.iconst 0, 1) := o_3 BX12_isSo rfl rfl
theorem dX12_isSo_75 : decode cX12_isSo 75 = .ok (.ireturn, 1) := o_172 BX12_isSo rfl rfl
theorem dX12_isSo_76 : decode cX12_isSo 76 = .ok (.aload_n 0, 1) := o_42 BX12_isSo rfl rfl
theorem dX12_isSo_77 : decode cX12_isSo 77 = .ok (.aload_n 0, 1) := o_42 BX12_isSo rfl rfl
theorem dX12_isSo_78 : decode cX12_isSo 78 = .ok (.getfield 34, 3) := o_180 BX12_isSo rfl rfl rfl
theorem dX12_isSo_81 : decode cX12_isSo 81 = .ok (.bipush 29, 2) := o_16 BX12_isSo rfl rfl rfl
theorem dX12_isSo_83 : decode cX12_isSo 83 = .ok (.iload_n 1, 1) := o_27 BX12_isSo rfl rfl
theorem dX12_isSo_84 : decode cX12_isSo 84 = .ok (.invokevirtual 275, 3) := o_182 BX12_isSo rfl rfl rfl
theorem dX12_isSo_87 : decode cX12_isSo 87 = .ok (.invokestatic 279, 3) := o_184 BX12_isSo rfl rfl rfl
theorem dX12_isSo_90 : decode cX12_isSo 90 = .ok (.iload_n 3, 1) := o_29 BX12_isSo rfl rfl
theorem dX12_isSo_91 : decode cX12_isSo 91 = .ok (.if_icmp .lt 7, 3) := o_161 BX12_isSo rfl rfl rfl
theorem dX12_isSo_94 : decode cX12_isSo 94 = .ok (.iconst 1, 1) := o_4 BX12_isSo rfl rfl
theorem dX12_isSo_95 : decode cX12_isSo 95 = .ok (.goto 4, 3) := o_167 BX12_isSo rfl rfl rfl
theorem dX12_isSo_98 : decode cX12_isSo 98 = .ok (.iconst 0, 1) := o_3 BX12_isSo rfl rfl
theorem dX12_isSo_99 : decode cX12_isSo 99 = .ok (.ireturn, 1) := o_172 BX12_isSo rfl rfl
theorem dX12_isSo_100 : decode cX12_isSo 100 = .ok (.iload_n 1, 1) := o_27 BX12_isSo rfl rfl
theorem dX12_isSo_101 : decode cX12_isSo 101 = .ok (.iconst 2, 1) := o_5 BX12_isSo rfl rfl
theorem dX12_isSo_102 : decode cX12_isSo 102 = .ok (.irem, 1) := o_112 BX12_isSo rfl rfl
theorem dX12_isSo_103 : decode cX12_isSo 103 = .ok (.iload_n 3, 1) := o_29 BX12_isSo rfl rfl
theorem dX12_isSo_104 : decode cX12_isSo 104 = .ok (.if_icmp .ne 7, 3) := o_160 BX12_isSo rfl rfl rfl
theorem dX12_isSo_107 : decode cX12_isSo 107 = .ok (.iconst 1, 1) := o_4 BX12_isSo rfl rfl
theorem dX12_isSo_108 : decode cX12_isSo 108 = .ok (.goto 4, 3) := o_167 BX12_isSo rfl rfl rfl
theorem dX12_isSo_111 : decode cX12_isSo 111 = .ok (.iconst 0, 1) := o_3 BX12_isSo rfl rfl
theorem dX12_isSo_112 : decode cX12_isSo 112 = .ok (.ireturn, 1) := o_172 BX12_isSo rfl rfl
theorem dX12_fits_0 : decode cX12_fits 0 = .ok (.aload_n 0, 1) := o_42 BX12_fits rfl rfl
theorem dX12_fits_1 : decode cX12_fits 1 = .ok (.iconst 0, 1) := o_3 BX12_fits rfl rfl
theorem dX12_fits_2 : decode cX12_fits 2 = .ok (.putfield 112, 3) := o_181 BX12_fits rfl rfl rfl
theorem dX12_fits_5 : decode cX12_fits 5 = .ok (.aload_n 0, 1) := o_42 BX12_fits rfl rfl
theorem dX12_fits_6 : decode cX12_fits 6 = .ok (.invokevirtual 390, 3) := o_182 BX12_fits rfl rfl rfl
theorem dX12_fits_9 : decode cX12_fits 9 = .ok (.aload_n 0, 1) := o_42 BX12_fits rfl rfl
theorem dX12_fits_10 : decode cX12_fits 10 = .ok (.aload_n 0, 1) := o_42 BX12_fits rfl rfl
theorem dX12_fits_11 : decode cX12_fits 11 = .ok (.getfield 34, 3) := o_180 BX12_fits rfl rfl rfl
theorem dX12_fits_14 : decode cX12_fits 14 = .ok (.sipush 200, 3) := o_17 BX12_fits rfl rfl rfl
theorem dX12_fits_17 : decode cX12_fits 17 = .ok (.invokevirtual 355, 3) := o_182 BX12_fits rfl rfl rfl
theorem dX12_fits_20 : decode cX12_fits 20 = .ok (.iconst 0, 1) := o_3 BX12_fits rfl rfl
theorem dX12_fits_21 : decode cX12_fits 21 = .ok (.istore_n 1, 1) := o_60 BX12_fits rfl rfl
theorem dX12_fits_22 : decode cX12_fits 22 = .ok (.iconst 0, 1) := o_3 BX12_fits rfl rfl
theorem dX12_fits_23 : decode cX12_fits 23 = .ok (.istore_n 2, 1) := o_61 BX12_fits rfl rfl
theorem dX12_fits_24 : decode cX12_fits 24 = .ok (.iload_n 2, 1) := o_28 BX12_fits rfl rfl
theorem dX12_fits_25 : decode cX12_fits 25 = .ok (.aload_n 0, 1) := o_42 BX12_fits rfl rfl
theorem dX12_fits_26 : decode cX12_fits 26 = .ok (.getfield 122, 3) := o_180 BX12_fits rfl rfl rfl
theorem dX12_fits_29 : decode cX12_fits 29 = .ok (.if_icmp .ge 75, 3) := o_162 BX12_fits rfl rfl rfl
theorem dX12_fits_32 : decode cX12_fits 32 = .ok (.iconst 1, 1) := o_4 BX12_fits rfl rfl
theorem dX12_fits_33 : decode cX12_fits 33 = .ok (.istore_n 3, 1) := o_62 BX12_fits rfl rfl
theorem dX12_fits_34 : decode cX12_fits 34 = .ok (.iconst 0, 1) := o_3 BX12_fits rfl rfl
theorem dX12_fits_35 : decode cX12_fits 35 = .ok (.istore 4, 2) := o_54 BX12_fits rfl rfl rfl
theorem dX12_fits_37 : decode cX12_fits 37 = .ok (.iload 4, 2) := o_21 BX12_fits rfl rfl rfl
theorem dX12_fits_39 : decode cX12_fits 39 = .ok (.aload_n 0, 1) := o_42 BX12_fits rfl rfl
theorem dX12_fits_40 : decode cX12_fits 40 = .ok (.getfield 423, 3) := o_180 BX12_fits rfl rfl rfl
theorem dX12_fits_43 : decode cX12_fits 43 = .ok (.if_icmp .ge 41, 3) := o_162 BX12_fits rfl rfl rfl
theorem dX12_fits_46 : decode cX12_fits 46 = .ok (.iload_n 3, 1) := o_29 BX12_fits rfl rfl
theorem dX12_fits_47 : decode cX12_fits 47 = .ok (.ifCond .eq 29, 3) := o_153 BX12_fits rfl rfl rfl
theorem dX12_fits_50 : decode cX12_fits 50 = .ok (.aload_n 0, 1) := o_42 BX12_fits rfl rfl
theorem dX12_fits_51 : decode cX12_fits 51 = .ok (.iload_n 2, 1) := o_28 BX12_fits rfl rfl
theorem dX12_fits_52 : decode cX12_fits 52 = .ok (.aload_n 0, 1) := o_42 BX12_fits rfl rfl
theorem dX12_fits_53 : decode cX12_fits 53 = .ok (.getfield 94, 3) := o_180 BX12_fits rfl rfl rfl
theorem dX12_fits_56 : decode cX12_fits 56 = .ok (.iload 4, 2) := o_21 BX12_fits rfl rfl rfl
theorem dX12_fits_58 : decode cX12_fits 58 = .ok (.iaload, 1) := o_46 BX12_fits rfl rfl
theorem dX12_fits_59 : decode cX12_fits 59 = .ok (.aload_n 0, 1) := o_42 BX12_fits rfl rfl
theorem dX12_fits_60 : decode cX12_fits 60 = .ok (.getfield 97, 3) := o_180 BX12_fits rfl rfl rfl
theorem dX12_fits_63 : decode cX12_fits 63 = .ok (.iload 4, 2) := o_21 BX12_fits rfl rfl rfl
theorem dX12_fits_65 : decode cX12_fits 65 = .ok (.iaload, 1) := o_46 BX12_fits rfl rfl
theorem dX12_fits_66 : decode cX12_fits 66 = .ok (.invokevirtual 426, 3) := o_182 BX12_fits rfl rfl rfl
theorem dX12_fits_69 : decode cX12_fits 69 = .ok (.ifCond .eq 7, 3) := o_153 BX12_fits rfl rfl rfl
theorem dX12_fits_72 : decode cX12_fits 72 = .ok (.iconst 1, 1) := o_4 BX12_fits rfl rfl
theorem dX12_fits_73 : decode cX12_fits 73 = .ok (.goto 4, 3) := o_167 BX12_fits rfl rfl rfl
theorem dX12_fits_76 : decode cX12_fits 76 = .ok (.iconst 0, 1) := o_3 BX12_fits rfl rfl
theorem dX12_fits_77 : decode cX12_fits 77 = .ok (.istore_n 3, 1) := o_62 BX12_fits rfl rfl
theorem dX12_fits_78 : decode cX12_fits 78 = .ok (.iinc 4 1, 3) := o_132 BX12_fits rfl rfl rfl rfl
theorem dX12_fits_81 : decode cX12_fits 81 = .ok (.goto (-44), 3) := o_167 BX12_fits rfl rfl rfl
theorem dX12_fits_84 : decode cX12_fits 84 = .ok (.iload_n 1, 1) := o_27 BX12_fits rfl rfl
theorem dX12_fits_85 : decode cX12_fits 85 = .ok (.iload_n 3, 1) := o_29 BX12_fits rfl rfl
theorem dX12_fits_86 : decode cX12_fits 86 = .ok (.ifCond .eq 9, 3) := o_153 BX12_fits rfl rfl rfl
theorem dX12_fits_89 : decode cX12_fits 89 = .ok (.iconst 1, 1) := o_4 BX12_fits rfl rfl
theorem dX12_fits_90 : decode cX12_fits 90 = .ok (.iload_n 2, 1) := o_28 BX12_fits rfl rfl
theorem dX12_fits_91 : decode cX12_fits 91 = .ok (.ishl, 1) := o_120 BX12_fits rfl rfl
theorem dX12_fits_92 : decode cX12_fits 92 = .ok (.goto 4, 3) := o_167 BX12_fits rfl rfl rfl
theorem dX12_fits_95 : decode cX12_fits 95 = .ok (.iconst 0, 1) := o_3 BX12_fits rfl rfl
theorem dX12_fits_96 : decode cX12_fits 96 = .ok (.ior, 1) := o_128 BX12_fits rfl rfl
theorem dX12_fits_97 : decode cX12_fits 97 = .ok (.istore_n 1, 1) := o_60 BX12_fits rfl rfl
theorem dX12_fits_98 : decode cX12_fits 98 = .ok (.iinc 2 1, 3) := o_132 BX12_fits rfl rfl rfl rfl
theorem dX12_fits_101 : decode cX12_fits 101 = .ok (.goto (-77), 3) := o_167 BX12_fits rfl rfl rfl
theorem dX12_fits_104 : decode cX12_fits 104 = .ok (.aload_n 0, 1) := o_42 BX12_fits rfl rfl
theorem dX12_fits_105 : decode cX12_fits 105 = .ok (.iconst 0, 1) := o_3 BX12_fits rfl rfl
theorem dX12_fits_106 : decode cX12_fits 106 = .ok (.putfield 119, 3) := o_181 BX12_fits rfl rfl rfl
theorem dX12_fits_109 : decode cX12_fits 109 = .ok (.aload_n 0, 1) := o_42 BX12_fits rfl rfl
theorem dX12_fits_110 : decode cX12_fits 110 = .ok (.iload_n 1, 1) := o_27 BX12_fits rfl rfl
theorem dX12_fits_111 : decode cX12_fits 111 = .ok (.invokestatic 279, 3) := o_184 BX12_fits rfl rfl rfl
theorem dX12_fits_114 : decode cX12_fits 114 = .ok (.i2l, 1) := o_133 BX12_fits rfl rfl
theorem dX12_fits_115 : decode cX12_fits 115 = .ok (.invokevirtual 358, 3) := o_182 BX12_fits rfl rfl rfl
theorem dX12_fits_118 : decode cX12_fits 118 = .ok (.iload_n 1, 1) := o_27 BX12_fits rfl rfl
theorem dX12_fits_119 : decode cX12_fits 119 = .ok (.ireturn, 1) := o_172 BX12_fits rfl rfl
theorem dX12_rains_0 : decode cX12_rains 0 = .ok (.aload_n 0, 1) := o_42 BX12_rains rfl rfl
theorem dX12_rains_1 : decode cX12_rains 1 = .ok (.iconst 0, 1) := o_3 BX12_rains rfl rfl
theorem dX12_rains_2 : decode cX12_rains 2 = .ok (.putfield 112, 3) := o_181 BX12_rains rfl rfl rfl
theorem dX12_rains_5 : decode cX12_rains 5 = .ok (.iload_n 1, 1) := o_27 BX12_rains rfl rfl
theorem dX12_rains_6 : decode cX12_rains 6 = .ok (.i2l, 1) := o_133 BX12_rains rfl rfl
theorem dX12_rains_7 : decode cX12_rains 7 = .ok (.lconst 1, 1) := o_10 BX12_rains rfl rfl
theorem dX12_rains_8 : decode cX12_rains 8 = .ok (.ldc2_w 430, 3) := o_20 BX12_rains rfl rfl rfl
theorem dX12_rains_11 : decode cX12_rains 11 = .ok (.invokestatic 125, 3) := o_184 BX12_rains rfl rfl rfl
theorem dX12_rains_14 : decode cX12_rains 14 = .ok (.ifCond .eq 27, 3) := o_153 BX12_rains rfl rfl rfl
theorem dX12_rains_17 : decode cX12_rains 17 = .ok (.iload_n 2, 1) := o_28 BX12_rains rfl rfl
theorem dX12_rains_18 : decode cX12_rains 18 = .ok (.i2l, 1) := o_133 BX12_rains rfl rfl
theorem dX12_rains_19 : decode cX12_rains 19 = .ok (.lconst 0, 1) := o_9 BX12_rains rfl rfl
theorem dX12_rains_20 : decode cX12_rains 20 = .ok (.ldc2_w 430, 3) := o_20 BX12_rains rfl rfl rfl
theorem dX12_rains_23 : decode cX12_rains 23 = .ok (.invokestatic 125, 3) := o_184 BX12_rains rfl rfl rfl
theorem dX12_rains_26 : decode cX12_rains 26 = .ok (.ifCond .eq 15, 3) := o_153 BX12_rains rfl rfl rfl
theorem dX12_rains_29 : decode cX12_rains 29 = .ok (.iload_n 3, 1) := o_29 BX12_rains rfl rfl
theorem dX12_rains_30 : decode cX12_rains 30 = .ok (.i2l, 1) := o_133 BX12_rains rfl rfl
theorem dX12_rains_31 : decode cX12_rains 31 = .ok (.lconst 0, 1) := o_9 BX12_rains rfl rfl
theorem dX12_rains_32 : decode cX12_rains 32 = .ok (.ldc2_w 432, 3) := o_20 BX12_rains rfl rfl rfl
theorem dX12_rains_35 : decode cX12_rains 35 = .ok (.invokestatic 125, 3) := o_184 BX12_rains rfl rfl rfl
theorem dX12_rains_38 : decode cX12_rains 38 = .ok (.ifCond .ne 5, 3) := o_154 BX12_rains rfl rfl rfl
theorem dX12_rains_41 : decode cX12_rains 41 = .ok (.iconst (-1), 1) := o_2 BX12_rains rfl rfl
theorem dX12_rains_42 : decode cX12_rains 42 = .ok (.ireturn, 1) := o_172 BX12_rains rfl rfl
theorem dX12_rains_43 : decode cX12_rains 43 = .ok (.lconst 0, 1) := o_9 BX12_rains rfl rfl
theorem dX12_rains_44 : decode cX12_rains 44 = .ok (.lstore 4, 2) := o_55 BX12_rains rfl rfl rfl
theorem dX12_rains_46 : decode cX12_rains 46 = .ok (.lconst 1, 1) := o_10 BX12_rains rfl rfl
theorem dX12_rains_47 : decode cX12_rains 47 = .ok (.lstore 6, 2) := o_55 BX12_rains rfl rfl rfl
theorem dX12_rains_49 : decode cX12_rains 49 = .ok (.iconst 0, 1) := o_3 BX12_rains rfl rfl
theorem dX12_rains_50 : decode cX12_rains 50 = .ok (.istore 8, 2) := o_54 BX12_rains rfl rfl rfl
theorem dX12_rains_52 : decode cX12_rains 52 = .ok (.iload 8, 2) := o_21 BX12_rains rfl rfl rfl
theorem dX12_rains_54 : decode cX12_rains 54 = .ok (.iload_n 1, 1) := o_27 BX12_rains rfl rfl
theorem dX12_rains_55 : decode cX12_rains 55 = .ok (.if_icmp .ge 17, 3) := o_162 BX12_rains rfl rfl rfl
theorem dX12_rains_58 : decode cX12_rains 58 = .ok (.lload 6, 2) := o_22 BX12_rains rfl rfl rfl
theorem dX12_rains_60 : decode cX12_rains 60 = .ok (.ldc2_w 432, 3) := o_20 BX12_rains rfl rfl rfl
theorem dX12_rains_63 : decode cX12_rains 63 = .ok (.lmul, 1) := o_105 BX12_rains rfl rfl
theorem dX12_rains_64 : decode cX12_rains 64 = .ok (.lstore 6, 2) := o_55 BX12_rains rfl rfl rfl
theorem dX12_rains_66 : decode cX12_rains 66 = .ok (.iinc 8 1, 3) := o_132 BX12_rains rfl rfl rfl rfl
theorem dX12_rains_69 : decode cX12_rains 69 = .ok (.goto (-17), 3) := o_167 BX12_rains rfl rfl rfl
theorem dX12_rains_72 : decode cX12_rains 72 = .ok (.iconst 0, 1) := o_3 BX12_rains rfl rfl
theorem dX12_rains_73 : decode cX12_rains 73 = .ok (.istore 8, 2) := o_54 BX12_rains rfl rfl rfl
theorem dX12_rains_75 : decode cX12_rains 75 = .ok (.iload 8, 2) := o_21 BX12_rains rfl rfl rfl
theorem dX12_rains_77 : decode cX12_rains 77 = .ok (.iconst 1, 1) := o_4 BX12_rains rfl rfl
theorem dX12_rains_78 : decode cX12_rains 78 = .ok (.iload_n 1, 1) := o_27 BX12_rains rfl rfl
theorem dX12_rains_79 : decode cX12_rains 79 = .ok (.ishl, 1) := o_120 BX12_rains rfl rfl
theorem dX12_rains_80 : decode cX12_rains 80 = .ok (.if_icmp .ge 81, 3) := o_162 BX12_rains rfl rfl rfl
theorem dX12_rains_83 : decode cX12_rains 83 = .ok (.lconst 1, 1) := o_10 BX12_rains rfl rfl
theorem dX12_rains_84 : decode cX12_rains 84 = .ok (.lstore 9, 2) := o_55 BX12_rains rfl rfl rfl
theorem dX12_rains_86 : decode cX12_rains 86 = .ok (.iconst 0, 1) := o_3 BX12_rains rfl rfl
theorem dX12_rains_87 : decode cX12_rains 87 = .ok (.istore 11, 2) := o_54 BX12_rains rfl rfl rfl
theorem dX12_rains_89 : decode cX12_rains 89 = .ok (.iload 11, 2) := o_21 BX12_rains rfl rfl rfl
theorem dX12_rains_91 : decode cX12_rains 91 = .ok (.iload_n 1, 1) := o_27 BX12_rains rfl rfl
theorem dX12_rains_92 : decode cX12_rains 92 = .ok (.if_icmp .ge 34, 3) := o_162 BX12_rains rfl rfl rfl
theorem dX12_rains_95 : decode cX12_rains 95 = .ok (.lload 9, 2) := o_22 BX12_rains rfl rfl rfl
theorem dX12_rains_97 : decode cX12_rains 97 = .ok (.iload 8, 2) := o_21 BX12_rains rfl rfl rfl
theorem dX12_rains_99 : decode cX12_rains 99 = .ok (.iload 11, 2) := o_21 BX12_rains rfl rfl rfl
theorem dX12_rains_101 : decode cX12_rains 101 = .ok (.invokestatic 411, 3) := o_184 BX12_rains rfl rfl rfl
theorem dX12_rains_104 : decode cX12_rains 104 = .ok (.ifCond .eq 8, 3) := o_153 BX12_rains rfl rfl rfl
theorem dX12_rains_107 : decode cX12_rains 107 = .ok (.iload_n 3, 1) := o_29 BX12_rains rfl rfl
theorem dX12_rains_108 : decode cX12_rains 108 = .ok (.i2l, 1) := o_133 BX12_rains rfl rfl
theorem dX12_rains_109 : decode cX12_rains 109 = .ok (.goto 8, 3) := o_167 BX12_rains rfl rfl rfl
theorem dX12_rains_112 : decode cX12_rains 112 = .ok (.bipush 10, 2) := o_16 BX12_rains rfl rfl rfl
theorem dX12_rains_114 : decode cX12_rains 114 = .ok (.iload_n 3, 1) := o_29 BX12_rains rfl rfl
theorem dX12_rains_115 : decode cX12_rains 115 = .ok (.isub, 1) := o_100 BX12_rains rfl rfl
theorem dX12_rains_116 : decode cX12_rains 116 = .ok (.i2l, 1) := o_133 BX12_rains rfl rfl
theorem dX12_rains_117 : decode cX12_rains 117 = .ok (.lmul, 1) := o_105 BX12_rains rfl rfl
theorem dX12_rains_118 : decode cX12_rains 118 = .ok (.lstore 9, 2) := o_55 BX12_rains rfl rfl rfl
theorem dX12_rains_120 : decode cX12_rains 120 = .ok (.iinc 11 1, 3) := o_132 BX12_rains rfl rfl rfl rfl
theorem dX12_rains_123 : decode cX12_rains 123 = .ok (.goto (-34), 3) := o_167 BX12_rains rfl rfl rfl
theorem dX12_rains_126 : decode cX12_rains 126 = .ok (.lload 4, 2) := o_22 BX12_rains rfl rfl rfl
theorem dX12_rains_128 : decode cX12_rains 128 = .ok (.iload 8, 2) := o_21 BX12_rains rfl rfl rfl
theorem dX12_rains_130 : decode cX12_rains 130 = .ok (.iconst 0, 1) := o_3 BX12_rains rfl rfl
theorem dX12_rains_131 : decode cX12_rains 131 = .ok (.invokestatic 411, 3) := o_184 BX12_rains rfl rfl rfl
theorem dX12_rains_134 : decode cX12_rains 134 = .ok (.ifCond .eq 17, 3) := o_153 BX12_rains rfl rfl rfl
theorem dX12_rains_137 : decode cX12_rains 137 = .ok (.iload 8, 2) := o_21 BX12_rains rfl rfl rfl
theorem dX12_rains_139 : decode cX12_rains 139 = .ok (.invokestatic 279, 3) := o_184 BX12_rains rfl rfl rfl
theorem dX12_rains_142 : decode cX12_rains 142 = .ok (.iload_n 2, 1) := o_28 BX12_rains rfl rfl
theorem dX12_rains_143 : decode cX12_rains 143 = .ok (.if_icmp .lt 8, 3) := o_161 BX12_rains rfl rfl rfl
theorem dX12_rains_146 : decode cX12_rains 146 = .ok (.lload 9, 2) := o_22 BX12_rains rfl rfl rfl
theorem dX12_rains_148 : decode cX12_rains 148 = .ok (.goto 4, 3) := o_167 BX12_rains rfl rfl rfl
theorem dX12_rains_151 : decode cX12_rains 151 = .ok (.lconst 0, 1) := o_9 BX12_rains rfl rfl
theorem dX12_rains_152 : decode cX12_rains 152 = .ok (.ladd, 1) := o_97 BX12_rains rfl rfl
theorem dX12_rains_153 : decode cX12_rains 153 = .ok (.lstore 4, 2) := o_55 BX12_rains rfl rfl rfl
theorem dX12_rains_155 : decode cX12_rains 155 = .ok (.iinc 8 1, 3) := o_132 BX12_rains rfl rfl rfl rfl
theorem dX12_rains_158 : decode cX12_rains 158 = .ok (.goto (-83), 3) := o_167 BX12_rains rfl rfl rfl
theorem dX12_rains_161 : decode cX12_rains 161 = .ok (.lload 4, 2) := o_22 BX12_rains rfl rfl rfl
theorem dX12_rains_163 : decode cX12_rains 163 = .ok (.lload 6, 2) := o_22 BX12_rains rfl rfl rfl
theorem dX12_rains_165 : decode cX12_rains 165 = .ok (.invokestatic 115, 3) := o_184 BX12_rains rfl rfl rfl
theorem dX12_rains_168 : decode cX12_rains 168 = .ok (.lstore 8, 2) := o_55 BX12_rains rfl rfl rfl
theorem dX12_rains_170 : decode cX12_rains 170 = .ok (.aload_n 0, 1) := o_42 BX12_rains rfl rfl
theorem dX12_rains_171 : decode cX12_rains 171 = .ok (.iconst 0, 1) := o_3 BX12_rains rfl rfl
theorem dX12_rains_172 : decode cX12_rains 172 = .ok (.putfield 119, 3) := o_181 BX12_rains rfl rfl rfl
theorem dX12_rains_175 : decode cX12_rains 175 = .ok (.aload_n 0, 1) := o_42 BX12_rains rfl rfl
theorem dX12_rains_176 : decode cX12_rains 176 = .ok (.lload 4, 2) := o_22 BX12_rains rfl rfl rfl
theorem dX12_rains_178 : decode cX12_rains 178 = .ok (.lload 8, 2) := o_22 BX12_rains rfl rfl rfl
theorem dX12_rains_180 : decode cX12_rains 180 = .ok (.ldiv, 1) := o_109 BX12_rains rfl rfl
theorem dX12_rains_181 : decode cX12_rains 181 = .ok (.invokevirtual 358, 3) := o_182 BX12_rains rfl rfl rfl
theorem dX12_rains_184 : decode cX12_rains 184 = .ok (.aload_n 0, 1) := o_42 BX12_rains rfl rfl
theorem dX12_rains_185 : decode cX12_rains 185 = .ok (.lload 6, 2) := o_22 BX12_rains rfl rfl rfl
theorem dX12_rains_187 : decode cX12_rains 187 = .ok (.lload 8, 2) := o_22 BX12_rains rfl rfl rfl
theorem dX12_rains_189 : decode cX12_rains 189 = .ok (.ldiv, 1) := o_109 BX12_rains rfl rfl
theorem dX12_rains_190 : decode cX12_rains 190 = .ok (.invokevirtual 358, 3) := o_182 BX12_rains rfl rfl rfl
theorem dX12_rains_193 : decode cX12_rains 193 = .ok (.iconst 0, 1) := o_3 BX12_rains rfl rfl
theorem dX12_rains_194 : decode cX12_rains 194 = .ok (.ireturn, 1) := o_172 BX12_rains rfl rfl
theorem dX12_law_0 : decode cX12_law 0 = .ok (.aload_n 0, 1) := o_42 BX12_law rfl rfl
theorem dX12_law_1 : decode cX12_law 1 = .ok (.iconst 0, 1) := o_3 BX12_law rfl rfl
theorem dX12_law_2 : decode cX12_law 2 = .ok (.putfield 112, 3) := o_181 BX12_law rfl rfl rfl
theorem dX12_law_5 : decode cX12_law 5 = .ok (.aload_n 0, 1) := o_42 BX12_law rfl rfl
theorem dX12_law_6 : decode cX12_law 6 = .ok (.invokevirtual 255, 3) := o_182 BX12_law rfl rfl rfl
theorem dX12_law_9 : decode cX12_law 9 = .ok (.istore_n 1, 1) := o_60 BX12_law rfl rfl
theorem dX12_law_10 : decode cX12_law 10 = .ok (.iload_n 1, 1) := o_27 BX12_law rfl rfl
theorem dX12_law_11 : decode cX12_law 11 = .ok (.ifCond .ge 11, 3) := o_156 BX12_law rfl rfl rfl
theorem dX12_law_14 : decode cX12_law 14 = .ok (.iload_n 1, 1) := o_27 BX12_law rfl rfl
theorem dX12_law_15 : decode cX12_law 15 = .ok (.iconst 1, 1) := o_4 BX12_law rfl rfl
theorem dX12_law_16 : decode cX12_law 16 = .ok (.iadd, 1) := o_96 BX12_law rfl rfl
theorem dX12_law_17 : decode cX12_law 17 = .ok (.sipush 10000, 3) := o_17 BX12_law rfl rfl rfl
theorem dX12_law_20 : decode cX12_law 20 = .ok (.isub, 1) := o_100 BX12_law rfl rfl
theorem dX12_law_21 : decode cX12_law 21 = .ok (.ireturn, 1) := o_172 BX12_law rfl rfl
theorem dX12_law_22 : decode cX12_law 22 = .ok (.aload_n 0, 1) := o_42 BX12_law rfl rfl
theorem dX12_law_23 : decode cX12_law 23 = .ok (.invokevirtual 390, 3) := o_182 BX12_law rfl rfl rfl
theorem dX12_law_26 : decode cX12_law 26 = .ok (.aload_n 0, 1) := o_42 BX12_law rfl rfl
theorem dX12_law_27 : decode cX12_law 27 = .ok (.invokevirtual 401, 3) := o_182 BX12_law rfl rfl rfl
theorem dX12_law_30 : decode cX12_law 30 = .ok (.invokestatic 279, 3) := o_184 BX12_law rfl rfl rfl
theorem dX12_law_33 : decode cX12_law 33 = .ok (.istore_n 2, 1) := o_61 BX12_law rfl rfl
theorem dX12_law_34 : decode cX12_law 34 = .ok (.aload_n 0, 1) := o_42 BX12_law rfl rfl
theorem dX12_law_35 : decode cX12_law 35 = .ok (.getfield 252, 3) := o_180 BX12_law rfl rfl rfl
theorem dX12_law_38 : decode cX12_law 38 = .ok (.istore_n 3, 1) := o_62 BX12_law rfl rfl
theorem dX12_law_39 : decode cX12_law 39 = .ok (.iconst 0, 1) := o_3 BX12_law rfl rfl
theorem dX12_law_40 : decode cX12_law 40 = .ok (.istore 4, 2) := o_54 BX12_law rfl rfl rfl
theorem dX12_law_42 : decode cX12_law 42 = .ok (.iload 4, 2) := o_21 BX12_law rfl rfl rfl
theorem dX12_law_44 : decode cX12_law 44 = .ok (.aload_n 0, 1) := o_42 BX12_law rfl rfl
theorem dX12_law_45 : decode cX12_law 45 = .ok (.getfield 252, 3) := o_180 BX12_law rfl rfl rfl
theorem dX12_law_48 : decode cX12_law 48 = .ok (.if_icmp .ge 23, 3) := o_162 BX12_law rfl rfl rfl
theorem dX12_law_51 : decode cX12_law 51 = .ok (.aload_n 0, 1) := o_42 BX12_law rfl rfl
theorem dX12_law_52 : decode cX12_law 52 = .ok (.getfield 100, 3) := o_180 BX12_law rfl rfl rfl
theorem dX12_law_55 : decode cX12_law 55 = .ok (.iload 4, 2) := o_21 BX12_law rfl rfl rfl
theorem dX12_law_57 : decode cX12_law 57 = .ok (.aload_n 0, 1) := o_42 BX12_law rfl rfl
theorem dX12_law_58 : decode cX12_law 58 = .ok (.getfield 49, 3) := o_180 BX12_law rfl rfl rfl
theorem dX12_law_61 : decode cX12_law 61 = .ok (.iload 4, 2) := o_21 BX12_law rfl rfl rfl
theorem dX12_law_63 : decode cX12_law 63 = .ok (.iaload, 1) := o_46 BX12_law rfl rfl
theorem dX12_law_64 : decode cX12_law 64 = .ok (.iastore, 1) := o_79 BX12_law rfl rfl
theorem dX12_law_65 : decode cX12_law 65 = .ok (.iinc 4 1, 3) := o_132 BX12_law rfl rfl rfl rfl
theorem dX12_law_68 : decode cX12_law 68 = .ok (.goto (-26), 3) := o_167 BX12_law rfl rfl rfl
theorem dX12_law_71 : decode cX12_law 71 = .ok (.aload_n 0, 1) := o_42 BX12_law rfl rfl
theorem dX12_law_72 : decode cX12_law 72 = .ok (.aload_n 0, 1) := o_42 BX12_law rfl rfl
theorem dX12_law_73 : decode cX12_law 73 = .ok (.getfield 52, 3) := o_180 BX12_law rfl rfl rfl
theorem dX12_law_76 : decode cX12_law 76 = .ok (.aload_n 0, 1) := o_42 BX12_law rfl rfl
theorem dX12_law_77 : decode cX12_law 77 = .ok (.getfield 231, 3) := o_180 BX12_law rfl rfl rfl
theorem dX12_law_80 : decode cX12_law 80 = .ok (.invokevirtual 258, 3) := o_182 BX12_law rfl rfl rfl
theorem dX12_law_83 : decode cX12_law 83 = .ok (.aload_n 0, 1) := o_42 BX12_law rfl rfl
theorem dX12_law_84 : decode cX12_law 84 = .ok (.invokevirtual 390, 3) := o_182 BX12_law rfl rfl rfl
theorem dX12_law_87 : decode cX12_law 87 = .ok (.aload_n 0, 1) := o_42 BX12_law rfl rfl
theorem dX12_law_88 : decode cX12_law 88 = .ok (.invokevirtual 401, 3) := o_182 BX12_law rfl rfl rfl
theorem dX12_law_91 : decode cX12_law 91 = .ok (.invokestatic 279, 3) := o_184 BX12_law rfl rfl rfl
theorem dX12_law_94 : decode cX12_law 94 = .ok (.istore 4, 2) := o_54 BX12_law rfl rfl rfl
theorem dX12_law_96 : decode cX12_law 96 = .ok (.aload_n 0, 1) := o_42 BX12_law rfl rfl
theorem dX12_law_97 : decode cX12_law 97 = .ok (.aload_n 0, 1) := o_42 BX12_law rfl rfl
theorem dX12_law_98 : decode cX12_law 98 = .ok (.getfield 100, 3) := o_180 BX12_law rfl rfl rfl
theorem dX12_law_101 : decode cX12_law 101 = .ok (.iload_n 3, 1) := o_29 BX12_law rfl rfl
theorem dX12_law_102 : decode cX12_law 102 = .ok (.invokevirtual 258, 3) := o_182 BX12_law rfl rfl rfl
theorem dX12_law_105 : decode cX12_law 105 = .ok (.aload_n 0, 1) := o_42 BX12_law rfl rfl
theorem dX12_law_106 : decode cX12_law 106 = .ok (.iconst 0, 1) := o_3 BX12_law rfl rfl
theorem dX12_law_107 : decode cX12_law 107 = .ok (.putfield 119, 3) := o_181 BX12_law rfl rfl rfl
theorem dX12_law_110 : decode cX12_law 110 = .ok (.aload_n 0, 1) := o_42 BX12_law rfl rfl
theorem dX12_law_111 : decode cX12_law 111 = .ok (.iload 4, 2) := o_21 BX12_law rfl rfl rfl
theorem dX12_law_113 : decode cX12_law 113 = .ok (.i2l, 1) := o_133 BX12_law rfl rfl
theorem dX12_law_114 : decode cX12_law 114 = .ok (.invokevirtual 358, 3) := o_182 BX12_law rfl rfl rfl
theorem dX12_law_117 : decode cX12_law 117 = .ok (.aload_n 0, 1) := o_42 BX12_law rfl rfl
theorem dX12_law_118 : decode cX12_law 118 = .ok (.iload_n 2, 1) := o_28 BX12_law rfl rfl
theorem dX12_law_119 : decode cX12_law 119 = .ok (.i2l, 1) := o_133 BX12_law rfl rfl
theorem dX12_law_120 : decode cX12_law 120 = .ok (.invokevirtual 358, 3) := o_182 BX12_law rfl rfl rfl
theorem dX12_law_123 : decode cX12_law 123 = .ok (.iload 4, 2) := o_21 BX12_law rfl rfl rfl
theorem dX12_law_125 : decode cX12_law 125 = .ok (.iload_n 2, 1) := o_28 BX12_law rfl rfl
theorem dX12_law_126 : decode cX12_law 126 = .ok (.isub, 1) := o_100 BX12_law rfl rfl
theorem dX12_law_127 : decode cX12_law 127 = .ok (.ireturn, 1) := o_172 BX12_law rfl rfl
theorem dX12_gets_0 : decode cX12_gets 0 = .ok (.iload_n 0, 1) := o_26 BX12_gets rfl rfl
theorem dX12_gets_1 : decode cX12_gets 1 = .ok (.iload_n 1, 1) := o_27 BX12_gets rfl rfl
theorem dX12_gets_2 : decode cX12_gets 2 = .ok (.if_icmp .le 7, 3) := o_164 BX12_gets rfl rfl rfl
theorem dX12_gets_5 : decode cX12_gets 5 = .ok (.iload_n 2, 1) := o_28 BX12_gets rfl rfl
theorem dX12_gets_6 : decode cX12_gets 6 = .ok (.goto 15, 3) := o_167 BX12_gets rfl rfl rfl
theorem dX12_gets_9 : decode cX12_gets 9 = .ok (.iload_n 0, 1) := o_26 BX12_gets rfl rfl
theorem dX12_gets_10 : decode cX12_gets 10 = .ok (.iload_n 1, 1) := o_27 BX12_gets rfl rfl
theorem dX12_gets_11 : decode cX12_gets 11 = .ok (.if_icmp .ne 9, 3) := o_160 BX12_gets rfl rfl rfl
theorem dX12_gets_14 : decode cX12_gets 14 = .ok (.iload_n 2, 1) := o_28 BX12_gets rfl rfl
theorem dX12_gets_15 : decode cX12_gets 15 = .ok (.iconst 2, 1) := o_5 BX12_gets rfl rfl
theorem dX12_gets_16 : decode cX12_gets 16 = .ok (.idiv, 1) := o_108 BX12_gets rfl rfl
theorem dX12_gets_17 : decode cX12_gets 17 = .ok (.goto 4, 3) := o_167 BX12_gets rfl rfl rfl
theorem dX12_gets_20 : decode cX12_gets 20 = .ok (.iconst 0, 1) := o_3 BX12_gets rfl rfl
theorem dX12_gets_21 : decode cX12_gets 21 = .ok (.iload_n 0, 1) := o_26 BX12_gets rfl rfl
theorem dX12_gets_22 : decode cX12_gets 22 = .ok (.isub, 1) := o_100 BX12_gets rfl rfl
theorem dX12_gets_23 : decode cX12_gets 23 = .ok (.iconst 3, 1) := o_6 BX12_gets rfl rfl
theorem dX12_gets_24 : decode cX12_gets 24 = .ok (.iload_n 0, 1) := o_26 BX12_gets rfl rfl
theorem dX12_gets_25 : decode cX12_gets 25 = .ok (.iconst 2, 1) := o_5 BX12_gets rfl rfl
theorem dX12_gets_26 : decode cX12_gets 26 = .ok (.iload_n 1, 1) := o_27 BX12_gets rfl rfl
theorem dX12_gets_27 : decode cX12_gets 27 = .ok (.imul, 1) := o_104 BX12_gets rfl rfl
theorem dX12_gets_28 : decode cX12_gets 28 = .ok (.if_icmp .le 7, 3) := o_164 BX12_gets rfl rfl rfl
theorem dX12_gets_31 : decode cX12_gets 31 = .ok (.iconst 1, 1) := o_4 BX12_gets rfl rfl
theorem dX12_gets_32 : decode cX12_gets 32 = .ok (.goto 4, 3) := o_167 BX12_gets rfl rfl rfl
theorem dX12_gets_35 : decode cX12_gets 35 = .ok (.iconst 0, 1) := o_3 BX12_gets rfl rfl
theorem dX12_gets_36 : decode cX12_gets 36 = .ok (.invokestatic 154, 3) := o_184 BX12_gets rfl rfl rfl
theorem dX12_gets_39 : decode cX12_gets 39 = .ok (.imul, 1) := o_104 BX12_gets rfl rfl
theorem dX12_gets_40 : decode cX12_gets 40 = .ok (.isub, 1) := o_100 BX12_gets rfl rfl
theorem dX12_gets_41 : decode cX12_gets 41 = .ok (.ireturn, 1) := o_172 BX12_gets rfl rfl
theorem dX12_isRest_0 : decode cX12_isRest 0 = .ok (.iconst 1, 1) := o_4 BX12_isRest rfl rfl
theorem dX12_isRest_1 : decode cX12_isRest 1 = .ok (.istore_n 3, 1) := o_62 BX12_isRest rfl rfl
theorem dX12_isRest_2 : decode cX12_isRest 2 = .ok (.iconst 0, 1) := o_3 BX12_isRest rfl rfl
theorem dX12_isRest_3 : decode cX12_isRest 3 = .ok (.istore 4, 2) := o_54 BX12_isRest rfl rfl rfl
theorem dX12_isRest_5 : decode cX12_isRest 5 = .ok (.iload 4, 2) := o_21 BX12_isRest rfl rfl rfl
theorem dX12_isRest_7 : decode cX12_isRest 7 = .ok (.bipush 9, 2) := o_16 BX12_isRest rfl rfl rfl
theorem dX12_isRest_9 : decode cX12_isRest 9 = .ok (.if_icmp .gt 35, 3) := o_163 BX12_isRest rfl rfl rfl
theorem dX12_isRest_12 : decode cX12_isRest 12 = .ok (.iload_n 3, 1) := o_29 BX12_isRest rfl rfl
theorem dX12_isRest_13 : decode cX12_isRest 13 = .ok (.ifCond .eq 23, 3) := o_153 BX12_isRest rfl rfl rfl
theorem dX12_isRest_16 : decode cX12_isRest 16 = .ok (.iload 4, 2) := o_21 BX12_isRest rfl rfl rfl
theorem dX12_isRest_18 : decode cX12_isRest 18 = .ok (.iload_n 1, 1) := o_27 BX12_isRest rfl rfl
theorem dX12_isRest_19 : decode cX12_isRest 19 = .ok (.iload_n 2, 1) := o_28 BX12_isRest rfl rfl
theorem dX12_isRest_20 : decode cX12_isRest 20 = .ok (.invokestatic 434, 3) := o_184 BX12_isRest rfl rfl rfl
theorem dX12_isRest_23 : decode cX12_isRest 23 = .ok (.iload_n 0, 1) := o_26 BX12_isRest rfl rfl
theorem dX12_isRest_24 : decode cX12_isRest 24 = .ok (.iload_n 1, 1) := o_27 BX12_isRest rfl rfl
theorem dX12_isRest_25 : decode cX12_isRest 25 = .ok (.iload_n 2, 1) := o_28 BX12_isRest rfl rfl
theorem dX12_isRest_26 : decode cX12_isRest 26 = .ok (.invokestatic 434, 3) := o_184 BX12_isRest rfl rfl rfl
theorem dX12_isRest_29 : decode cX12_isRest 29 = .ok (.if_icmp .gt 7, 3) := o_163 BX12_isRest rfl rfl rfl
theorem dX12_isRest_32 : decode cX12_isRest 32 = .ok (.iconst 1, 1) := o_4 BX12_isRest rfl rfl
theorem dX12_isRest_33 : decode cX12_isRest 33 = .ok (.goto 4, 3) := o_167 BX12_isRest rfl rfl rfl
theorem dX12_isRest_36 : decode cX12_isRest 36 = .ok (.iconst 0, 1) := o_3 BX12_isRest rfl rfl
theorem dX12_isRest_37 : decode cX12_isRest 37 = .ok (.istore_n 3, 1) := o_62 BX12_isRest rfl rfl
theorem dX12_isRest_38 : decode cX12_isRest 38 = .ok (.iinc 4 1, 3) := o_132 BX12_isRest rfl rfl rfl rfl
theorem dX12_isRest_41 : decode cX12_isRest 41 = .ok (.goto (-36), 3) := o_167 BX12_isRest rfl rfl rfl
theorem dX12_isRest_44 : decode cX12_isRest 44 = .ok (.iload_n 3, 1) := o_29 BX12_isRest rfl rfl
theorem dX12_isRest_45 : decode cX12_isRest 45 = .ok (.ireturn, 1) := o_172 BX12_isRest rfl rfl
theorem dX12_rests_0 : decode cX12_rests 0 = .ok (.aload_n 0, 1) := o_42 BX12_rests rfl rfl
theorem dX12_rests_1 : decode cX12_rests 1 = .ok (.iconst 0, 1) := o_3 BX12_rests rfl rfl
theorem dX12_rests_2 : decode cX12_rests 2 = .ok (.putfield 112, 3) := o_181 BX12_rests rfl rfl rfl
theorem dX12_rests_5 : decode cX12_rests 5 = .ok (.iload_n 1, 1) := o_27 BX12_rests rfl rfl
theorem dX12_rests_6 : decode cX12_rests 6 = .ok (.i2l, 1) := o_133 BX12_rests rfl rfl
theorem dX12_rests_7 : decode cX12_rests 7 = .ok (.lconst 0, 1) := o_9 BX12_rests rfl rfl
theorem dX12_rests_8 : decode cX12_rests 8 = .ok (.ldc2_w 437, 3) := o_20 BX12_rests rfl rfl rfl
theorem dX12_rests_11 : decode cX12_rests 11 = .ok (.invokestatic 125, 3) := o_184 BX12_rests rfl rfl rfl
theorem dX12_rests_14 : decode cX12_rests 14 = .ok (.ifCond .ne 5, 3) := o_154 BX12_rests rfl rfl rfl
theorem dX12_rests_17 : decode cX12_rests 17 = .ok (.iconst (-1), 1) := o_2 BX12_rests rfl rfl
theorem dX12_rests_18 : decode cX12_rests 18 = .ok (.ireturn, 1) := o_172 BX12_rests rfl rfl
theorem dX12_rests_19 : decode cX12_rests 19 = .ok (.iconst 0, 1) := o_3 BX12_rests rfl rfl
theorem dX12_rests_20 : decode cX12_rests 20 = .ok (.istore_n 2, 1) := o_61 BX12_rests rfl rfl
theorem dX12_rests_21 : decode cX12_rests 21 = .ok (.aload_n 0, 1) := o_42 BX12_rests rfl rfl
theorem dX12_rests_22 : decode cX12_rests 22 = .ok (.iconst 0, 1) := o_3 BX12_rests rfl rfl
theorem dX12_rests_23 : decode cX12_rests 23 = .ok (.putfield 119, 3) := o_181 BX12_rests rfl rfl rfl
theorem dX12_rests_26 : decode cX12_rests 26 = .ok (.iconst 0, 1) := o_3 BX12_rests rfl rfl
theorem dX12_rests_27 : decode cX12_rests 27 = .ok (.istore_n 3, 1) := o_62 BX12_rests rfl rfl
theorem dX12_rests_28 : decode cX12_rests 28 = .ok (.iload_n 3, 1) := o_29 BX12_rests rfl rfl
theorem dX12_rests_29 : decode cX12_rests 29 = .ok (.bipush 9, 2) := o_16 BX12_rests rfl rfl rfl
theorem dX12_rests_31 : decode cX12_rests 31 = .ok (.if_icmp .gt 65, 3) := o_163 BX12_rests rfl rfl rfl
theorem dX12_rests_34 : decode cX12_rests 34 = .ok (.iconst 0, 1) := o_3 BX12_rests rfl rfl
theorem dX12_rests_35 : decode cX12_rests 35 = .ok (.istore 4, 2) := o_54 BX12_rests rfl rfl rfl
theorem dX12_rests_37 : decode cX12_rests 37 = .ok (.iload 4, 2) := o_21 BX12_rests rfl rfl rfl
theorem dX12_rests_39 : decode cX12_rests 39 = .ok (.bipush 9, 2) := o_16 BX12_rests rfl rfl rfl
theorem dX12_rests_41 : decode cX12_rests 41 = .ok (.if_icmp .gt 49, 3) := o_163 BX12_rests rfl rfl rfl
theorem dX12_rests_44 : decode cX12_rests 44 = .ok (.iload_n 3, 1) := o_29 BX12_rests rfl rfl
theorem dX12_rests_45 : decode cX12_rests 45 = .ok (.iload 4, 2) := o_21 BX12_rests rfl rfl rfl
theorem dX12_rests_47 : decode cX12_rests 47 = .ok (.iload_n 1, 1) := o_27 BX12_rests rfl rfl
theorem dX12_rests_48 : decode cX12_rests 48 = .ok (.invokestatic 439, 3) := o_184 BX12_rests rfl rfl rfl
theorem dX12_rests_51 : decode cX12_rests 51 = .ok (.ifCond .eq 33, 3) := o_153 BX12_rests rfl rfl rfl
theorem dX12_rests_54 : decode cX12_rests 54 = .ok (.iload 4, 2) := o_21 BX12_rests rfl rfl rfl
theorem dX12_rests_56 : decode cX12_rests 56 = .ok (.iload_n 3, 1) := o_29 BX12_rests rfl rfl
theorem dX12_rests_57 : decode cX12_rests 57 = .ok (.iload_n 1, 1) := o_27 BX12_rests rfl rfl
theorem dX12_rests_58 : decode cX12_rests 58 = .ok (.invokestatic 439, 3) := o_184 BX12_rests rfl rfl rfl
theorem dX12_rests_61 : decode cX12_rests 61 = .ok (.ifCond .eq 23, 3) := o_153 BX12_rests rfl rfl rfl
theorem dX12_rests_64 : decode cX12_rests 64 = .ok (.iload_n 2, 1) := o_28 BX12_rests rfl rfl
theorem dX12_rests_65 : decode cX12_rests 65 = .ok (.ifCond .ne 16, 3) := o_154 BX12_rests rfl rfl rfl
theorem dX12_rests_68 : decode cX12_rests 68 = .ok (.aload_n 0, 1) := o_42 BX12_rests rfl rfl
theorem dX12_rests_69 : decode cX12_rests 69 = .ok (.iload_n 3, 1) := o_29 BX12_rests rfl rfl
theorem dX12_rests_70 : decode cX12_rests 70 = .ok (.i2l, 1) := o_133 BX12_rests rfl rfl
theorem dX12_rests_71 : decode cX12_rests 71 = .ok (.invokevirtual 358, 3) := o_182 BX12_rests rfl rfl rfl
theorem dX12_rests_74 : decode cX12_rests 74 = .ok (.aload_n 0, 1) := o_42 BX12_rests rfl rfl
theorem dX12_rests_75 : decode cX12_rests 75 = .ok (.iload 4, 2) := o_21 BX12_rests rfl rfl rfl
theorem dX12_rests_77 : decode cX12_rests 77 = .ok (.i2l, 1) := o_133 BX12_rests rfl rfl
theorem dX12_rests_78 : decode cX12_rests 78 = .ok (.invokevirtual 358, 3) := o_182 BX12_rests rfl rfl rfl
theorem dX12_rests_81 : decode cX12_rests 81 = .ok (.iinc 2 1, 3) := o_132 BX12_rests rfl rfl rfl rfl
theorem dX12_rests_84 : decode cX12_rests 84 = .ok (.iinc 4 1, 3) := o_132 BX12_rests rfl rfl rfl rfl
theorem dX12_rests_87 : decode cX12_rests 87 = .ok (.goto (-50), 3) := o_167 BX12_rests rfl rfl rfl
theorem dX12_rests_90 : decode cX12_rests 90 = .ok (.iinc 3 1, 3) := o_132 BX12_rests rfl rfl rfl rfl
theorem dX12_rests_93 : decode cX12_rests 93 = .ok (.goto (-65), 3) := o_167 BX12_rests rfl rfl rfl
theorem dX12_rests_96 : decode cX12_rests 96 = .ok (.iload_n 2, 1) := o_28 BX12_rests rfl rfl
theorem dX12_rests_97 : decode cX12_rests 97 = .ok (.ireturn, 1) := o_172 BX12_rests rfl rfl
theorem dX12_draws_0 : decode cX12_draws 0 = .ok (.aload_n 0, 1) := o_42 BX12_draws rfl rfl
theorem dX12_draws_1 : decode cX12_draws 1 = .ok (.aload_n 0, 1) := o_42 BX12_draws rfl rfl
theorem dX12_draws_2 : decode cX12_draws 2 = .ok (.getfield 442, 3) := o_180 BX12_draws rfl rfl rfl
theorem dX12_draws_5 : decode cX12_draws 5 = .ok (.ldc_w 445, 3) := o_19 BX12_draws rfl rfl rfl
theorem dX12_draws_8 : decode cX12_draws 8 = .ok (.imul, 1) := o_104 BX12_draws rfl rfl
theorem dX12_draws_9 : decode cX12_draws 9 = .ok (.sipush 12345, 3) := o_17 BX12_draws rfl rfl rfl
theorem dX12_draws_12 : decode cX12_draws 12 = .ok (.iadd, 1) := o_96 BX12_draws rfl rfl
theorem dX12_draws_13 : decode cX12_draws 13 = .ok (.putfield 442, 3) := o_181 BX12_draws rfl rfl rfl
theorem dX12_draws_16 : decode cX12_draws 16 = .ok (.aload_n 0, 1) := o_42 BX12_draws rfl rfl
theorem dX12_draws_17 : decode cX12_draws 17 = .ok (.getfield 442, 3) := o_180 BX12_draws rfl rfl rfl
theorem dX12_draws_20 : decode cX12_draws 20 = .ok (.bipush 16, 2) := o_16 BX12_draws rfl rfl rfl
theorem dX12_draws_22 : decode cX12_draws 22 = .ok (.iushr, 1) := o_124 BX12_draws rfl rfl
theorem dX12_draws_23 : decode cX12_draws 23 = .ok (.iload_n 1, 1) := o_27 BX12_draws rfl rfl
theorem dX12_draws_24 : decode cX12_draws 24 = .ok (.irem, 1) := o_112 BX12_draws rfl rfl
theorem dX12_draws_25 : decode cX12_draws 25 = .ok (.ireturn, 1) := o_172 BX12_draws rfl rfl
theorem dX12_years_0 : decode cX12_years 0 = .ok (.aload_n 0, 1) := o_42 BX12_years rfl rfl
theorem dX12_years_1 : decode cX12_years 1 = .ok (.iconst 0, 1) := o_3 BX12_years rfl rfl
theorem dX12_years_2 : decode cX12_years 2 = .ok (.putfield 112, 3) := o_181 BX12_years rfl rfl rfl
theorem dX12_years_5 : decode cX12_years 5 = .ok (.iload_n 2, 1) := o_28 BX12_years rfl rfl
theorem dX12_years_6 : decode cX12_years 6 = .ok (.i2l, 1) := o_133 BX12_years rfl rfl
theorem dX12_years_7 : decode cX12_years 7 = .ok (.lconst 1, 1) := o_10 BX12_years rfl rfl
theorem dX12_years_8 : decode cX12_years 8 = .ok (.ldc2_w 350, 3) := o_20 BX12_years rfl rfl rfl
theorem dX12_years_11 : decode cX12_years 11 = .ok (.invokestatic 125, 3) := o_184 BX12_years rfl rfl rfl
theorem dX12_years_14 : decode cX12_years 14 = .ok (.ifCond .ne 5, 3) := o_154 BX12_years rfl rfl rfl
theorem dX12_years_17 : decode cX12_years 17 = .ok (.iconst (-1), 1) := o_2 BX12_years rfl rfl
theorem dX12_years_18 : decode cX12_years 18 = .ok (.ireturn, 1) := o_172 BX12_years rfl rfl
theorem dX12_years_19 : decode cX12_years 19 = .ok (.aload_n 0, 1) := o_42 BX12_years rfl rfl
theorem dX12_years_20 : decode cX12_years 20 = .ok (.iload_n 1, 1) := o_27 BX12_years rfl rfl
theorem dX12_years_21 : decode cX12_years 21 = .ok (.putfield 442, 3) := o_181 BX12_years rfl rfl rfl
theorem dX12_years_24 : decode cX12_years 24 = .ok (.aload_n 0, 1) := o_42 BX12_years rfl rfl
theorem dX12_years_25 : decode cX12_years 25 = .ok (.invokevirtual 390, 3) := o_182 BX12_years rfl rfl rfl
theorem dX12_years_28 : decode cX12_years 28 = .ok (.iconst 0, 1) := o_3 BX12_years rfl rfl
theorem dX12_years_29 : decode cX12_years 29 = .ok (.istore_n 3, 1) := o_62 BX12_years rfl rfl
theorem dX12_years_30 : decode cX12_years 30 = .ok (.iload_n 3, 1) := o_29 BX12_years rfl rfl
theorem dX12_years_31 : decode cX12_years 31 = .ok (.iload_n 2, 1) := o_28 BX12_years rfl rfl
theorem dX12_years_32 : decode cX12_years 32 = .ok (.if_icmp .ge 88, 3) := o_162 BX12_years rfl rfl rfl
theorem dX12_years_35 : decode cX12_years 35 = .ok (.aload_n 0, 1) := o_42 BX12_years rfl rfl
theorem dX12_years_36 : decode cX12_years 36 = .ok (.iconst 4, 1) := o_7 BX12_years rfl rfl
theorem dX12_years_37 : decode cX12_years 37 = .ok (.invokevirtual 446, 3) := o_182 BX12_years rfl rfl rfl
theorem dX12_years_40 : decode cX12_years 40 = .ok (.istore 4, 2) := o_54 BX12_years rfl rfl rfl
theorem dX12_years_42 : decode cX12_years 42 = .ok (.iload 4, 2) := o_21 BX12_years rfl rfl rfl
theorem dX12_years_44 : decode cX12_years 44 = .ok (.iconst 2, 1) := o_5 BX12_years rfl rfl
theorem dX12_years_45 : decode cX12_years 45 = .ok (.if_icmp .ge 14, 3) := o_162 BX12_years rfl rfl rfl
theorem dX12_years_48 : decode cX12_years 48 = .ok (.aload_n 0, 1) := o_42 BX12_years rfl rfl
theorem dX12_years_49 : decode cX12_years 49 = .ok (.aload_n 0, 1) := o_42 BX12_years rfl rfl
theorem dX12_years_50 : decode cX12_years 50 = .ok (.getfield 34, 3) := o_180 BX12_years rfl rfl rfl
theorem dX12_years_53 : decode cX12_years 53 = .ok (.invokevirtual 343, 3) := o_182 BX12_years rfl rfl rfl
theorem dX12_years_56 : decode cX12_years 56 = .ok (.goto 58, 3) := o_167 BX12_years rfl rfl rfl
theorem dX12_years_59 : decode cX12_years 59 = .ok (.aload_n 0, 1) := o_42 BX12_years rfl rfl
theorem dX12_years_60 : decode cX12_years 60 = .ok (.getfield 129, 3) := o_180 BX12_years rfl rfl rfl
theorem dX12_years_63 : decode cX12_years 63 = .ok (.ifCond .le 51, 3) := o_158 BX12_years rfl rfl rfl
theorem dX12_years_66 : decode cX12_years 66 = .ok (.aload_n 0, 1) := o_42 BX12_years rfl rfl
theorem dX12_years_67 : decode cX12_years 67 = .ok (.aload_n 0, 1) := o_42 BX12_years rfl rfl
theorem dX12_years_68 : decode cX12_years 68 = .ok (.getfield 129, 3) := o_180 BX12_years rfl rfl rfl
theorem dX12_years_71 : decode cX12_years 71 = .ok (.invokevirtual 446, 3) := o_182 BX12_years rfl rfl rfl
theorem dX12_years_74 : decode cX12_years 74 = .ok (.istore 5, 2) := o_54 BX12_years rfl rfl rfl
theorem dX12_years_76 : decode cX12_years 76 = .ok (.iload 4, 2) := o_21 BX12_years rfl rfl rfl
theorem dX12_years_78 : decode cX12_years 78 = .ok (.iconst 2, 1) := o_5 BX12_years rfl rfl
theorem dX12_years_79 : decode cX12_years 79 = .ok (.if_icmp .ne 17, 3) := o_160 BX12_years rfl rfl rfl
theorem dX12_years_82 : decode cX12_years 82 = .ok (.aload_n 0, 1) := o_42 BX12_years rfl rfl
theorem dX12_years_83 : decode cX12_years 83 = .ok (.aload_n 0, 1) := o_42 BX12_years rfl rfl
theorem dX12_years_84 : decode cX12_years 84 = .ok (.getfield 34, 3) := o_180 BX12_years rfl rfl rfl
theorem dX12_years_87 : decode cX12_years 87 = .ok (.iload 5, 2) := o_21 BX12_years rfl rfl rfl
theorem dX12_years_89 : decode cX12_years 89 = .ok (.invokevirtual 362, 3) := o_182 BX12_years rfl rfl rfl
theorem dX12_years_92 : decode cX12_years 92 = .ok (.pop, 1) := o_87 BX12_years rfl rfl
theorem dX12_years_93 : decode cX12_years 93 = .ok (.goto 21, 3) := o_167 BX12_years rfl rfl rfl
theorem dX12_years_96 : decode cX12_years 96 = .ok (.aload_n 0, 1) := o_42 BX12_years rfl rfl
theorem dX12_years_97 : decode cX12_years 97 = .ok (.aload_n 0, 1) := o_42 BX12_years rfl rfl
theorem dX12_years_98 : decode cX12_years 98 = .ok (.getfield 34, 3) := o_180 BX12_years rfl rfl rfl
theorem dX12_years_101 : decode cX12_years 101 = .ok (.iload 5, 2) := o_21 BX12_years rfl rfl rfl
theorem dX12_years_103 : decode cX12_years 103 = .ok (.aload_n 0, 1) := o_42 BX12_years rfl rfl
theorem dX12_years_104 : decode cX12_years 104 = .ok (.iconst 5, 1) := o_8 BX12_years rfl rfl
theorem dX12_years_105 : decode cX12_years 105 = .ok (.invokevirtual 446, 3) := o_182 BX12_years rfl rfl rfl
theorem dX12_years_108 : decode cX12_years 108 = .ok (.iconst 2, 1) := o_5 BX12_years rfl rfl
theorem dX12_years_109 : decode cX12_years 109 = .ok (.isub, 1) := o_100 BX12_years rfl rfl
theorem dX12_years_110 : decode cX12_years 110 = .ok (.invokevirtual 368, 3) := o_182 BX12_years rfl rfl rfl
theorem dX12_years_113 : decode cX12_years 113 = .ok (.pop, 1) := o_87 BX12_years rfl rfl
theorem dX12_years_114 : decode cX12_years 114 = .ok (.iinc 3 1, 3) := o_132 BX12_years rfl rfl rfl rfl
theorem dX12_years_117 : decode cX12_years 117 = .ok (.goto (-87), 3) := o_167 BX12_years rfl rfl rfl
theorem dX12_years_120 : decode cX12_years 120 = .ok (.aload_n 0, 1) := o_42 BX12_years rfl rfl
theorem dX12_years_121 : decode cX12_years 121 = .ok (.aload_n 0, 1) := o_42 BX12_years rfl rfl
theorem dX12_years_122 : decode cX12_years 122 = .ok (.getfield 34, 3) := o_180 BX12_years rfl rfl rfl
theorem dX12_years_125 : decode cX12_years 125 = .ok (.iconst 1, 1) := o_4 BX12_years rfl rfl
theorem dX12_years_126 : decode cX12_years 126 = .ok (.invokevirtual 397, 3) := o_182 BX12_years rfl rfl rfl
theorem dX12_years_129 : decode cX12_years 129 = .ok (.aload_n 0, 1) := o_42 BX12_years rfl rfl
theorem dX12_years_130 : decode cX12_years 130 = .ok (.aload_n 0, 1) := o_42 BX12_years rfl rfl
theorem dX12_years_131 : decode cX12_years 131 = .ok (.getfield 34, 3) := o_180 BX12_years rfl rfl rfl
theorem dX12_years_134 : decode cX12_years 134 = .ok (.iconst 0, 1) := o_3 BX12_years rfl rfl
theorem dX12_years_135 : decode cX12_years 135 = .ok (.invokevirtual 397, 3) := o_182 BX12_years rfl rfl rfl
theorem dX12_years_138 : decode cX12_years 138 = .ok (.ior, 1) := o_128 BX12_years rfl rfl
theorem dX12_years_139 : decode cX12_years 139 = .ok (.istore_n 3, 1) := o_62 BX12_years rfl rfl
theorem dX12_years_140 : decode cX12_years 140 = .ok (.aload_n 0, 1) := o_42 BX12_years rfl rfl
theorem dX12_years_141 : decode cX12_years 141 = .ok (.iconst 0, 1) := o_3 BX12_years rfl rfl
theorem dX12_years_142 : decode cX12_years 142 = .ok (.putfield 119, 3) := o_181 BX12_years rfl rfl rfl
theorem dX12_years_145 : decode cX12_years 145 = .ok (.aload_n 0, 1) := o_42 BX12_years rfl rfl
theorem dX12_years_146 : decode cX12_years 146 = .ok (.iload_n 3, 1) := o_29 BX12_years rfl rfl
theorem dX12_years_147 : decode cX12_years 147 = .ok (.invokestatic 279, 3) := o_184 BX12_years rfl rfl rfl
theorem dX12_years_150 : decode cX12_years 150 = .ok (.i2l, 1) := o_133 BX12_years rfl rfl
theorem dX12_years_151 : decode cX12_years 151 = .ok (.invokevirtual 358, 3) := o_182 BX12_years rfl rfl rfl
theorem dX12_years_154 : decode cX12_years 154 = .ok (.aload_n 0, 1) := o_42 BX12_years rfl rfl
theorem dX12_years_155 : decode cX12_years 155 = .ok (.aload_n 0, 1) := o_42 BX12_years rfl rfl
theorem dX12_years_156 : decode cX12_years 156 = .ok (.aload_n 0, 1) := o_42 BX12_years rfl rfl
theorem dX12_years_157 : decode cX12_years 157 = .ok (.getfield 34, 3) := o_180 BX12_years rfl rfl rfl
theorem dX12_years_160 : decode cX12_years 160 = .ok (.iconst 1, 1) := o_4 BX12_years rfl rfl
theorem dX12_years_161 : decode cX12_years 161 = .ok (.invokevirtual 397, 3) := o_182 BX12_years rfl rfl rfl
theorem dX12_years_164 : decode cX12_years 164 = .ok (.invokestatic 279, 3) := o_184 BX12_years rfl rfl rfl
theorem dX12_years_167 : decode cX12_years 167 = .ok (.i2l, 1) := o_133 BX12_years rfl rfl
theorem dX12_years_168 : decode cX12_years 168 = .ok (.invokevirtual 358, 3) := o_182 BX12_years rfl rfl rfl
theorem dX12_years_171 : decode cX12_years 171 = .ok (.aload_n 0, 1) := o_42 BX12_years rfl rfl
theorem dX12_years_172 : decode cX12_years 172 = .ok (.getfield 34, 3) := o_180 BX12_years rfl rfl rfl
theorem dX12_years_175 : decode cX12_years 175 = .ok (.bipush 12, 2) := o_16 BX12_years rfl rfl rfl
theorem dX12_years_177 : decode cX12_years 177 = .ok (.iaload, 1) := o_46 BX12_years rfl rfl
theorem dX12_years_178 : decode cX12_years 178 = .ok (.ireturn, 1) := o_172 BX12_years rfl rfl
theorem dX12_keep_0 : decode cX12_keep 0 = .ok (.aload_n 0, 1) := o_42 BX12_keep rfl rfl
theorem dX12_keep_1 : decode cX12_keep 1 = .ok (.iconst 0, 1) := o_3 BX12_keep rfl rfl
theorem dX12_keep_2 : decode cX12_keep 2 = .ok (.putfield 112, 3) := o_181 BX12_keep rfl rfl rfl
theorem dX12_keep_5 : decode cX12_keep 5 = .ok (.iload_n 1, 1) := o_27 BX12_keep rfl rfl
theorem dX12_keep_6 : decode cX12_keep 6 = .ok (.i2l, 1) := o_133 BX12_keep rfl rfl
theorem dX12_keep_7 : decode cX12_keep 7 = .ok (.lconst 0, 1) := o_9 BX12_keep rfl rfl
theorem dX12_keep_8 : decode cX12_keep 8 = .ok (.ldc2_w 449, 3) := o_20 BX12_keep rfl rfl rfl
theorem dX12_keep_11 : decode cX12_keep 11 = .ok (.invokestatic 125, 3) := o_184 BX12_keep rfl rfl rfl
theorem dX12_keep_14 : decode cX12_keep 14 = .ok (.ifCond .ne 5, 3) := o_154 BX12_keep rfl rfl rfl
theorem dX12_keep_17 : decode cX12_keep 17 = .ok (.iconst 0, 1) := o_3 BX12_keep rfl rfl
theorem dX12_keep_18 : decode cX12_keep 18 = .ok (.ireturn, 1) := o_172 BX12_keep rfl rfl
theorem dX12_keep_19 : decode cX12_keep 19 = .ok (.aload_n 0, 1) := o_42 BX12_keep rfl rfl
theorem dX12_keep_20 : decode cX12_keep 20 = .ok (.getfield 103, 3) := o_180 BX12_keep rfl rfl rfl
theorem dX12_keep_23 : decode cX12_keep 23 = .ok (.iload_n 1, 1) := o_27 BX12_keep rfl rfl
theorem dX12_keep_24 : decode cX12_keep 24 = .ok (.iconst 1, 1) := o_4 BX12_keep rfl rfl
theorem dX12_keep_25 : decode cX12_keep 25 = .ok (.bastore, 1) := o_84 BX12_keep rfl rfl
theorem dX12_keep_26 : decode cX12_keep 26 = .ok (.aload_n 0, 1) := o_42 BX12_keep rfl rfl
theorem dX12_keep_27 : decode cX12_keep 27 = .ok (.getfield 106, 3) := o_180 BX12_keep rfl rfl rfl
theorem dX12_keep_30 : decode cX12_keep 30 = .ok (.iload_n 1, 1) := o_27 BX12_keep rfl rfl
theorem dX12_keep_31 : decode cX12_keep 31 = .ok (.aload_n 0, 1) := o_42 BX12_keep rfl rfl
theorem dX12_keep_32 : decode cX12_keep 32 = .ok (.getfield 211, 3) := o_180 BX12_keep rfl rfl rfl
theorem dX12_keep_35 : decode cX12_keep 35 = .ok (.iastore, 1) := o_79 BX12_keep rfl rfl
theorem dX12_keep_36 : decode cX12_keep 36 = .ok (.iconst 0, 1) := o_3 BX12_keep rfl rfl
theorem dX12_keep_37 : decode cX12_keep 37 = .ok (.istore_n 2, 1) := o_61 BX12_keep rfl rfl
theorem dX12_keep_38 : decode cX12_keep 38 = .ok (.iload_n 2, 1) := o_28 BX12_keep rfl rfl
theorem dX12_keep_39 : decode cX12_keep 39 = .ok (.bipush 38, 2) := o_16 BX12_keep rfl rfl rfl
theorem dX12_keep_41 : decode cX12_keep 41 = .ok (.if_icmp .ge 26, 3) := o_162 BX12_keep rfl rfl rfl
theorem dX12_keep_44 : decode cX12_keep 44 = .ok (.aload_n 0, 1) := o_42 BX12_keep rfl rfl
theorem dX12_keep_45 : decode cX12_keep 45 = .ok (.getfield 109, 3) := o_180 BX12_keep rfl rfl rfl
theorem dX12_keep_48 : decode cX12_keep 48 = .ok (.bipush 38, 2) := o_16 BX12_keep rfl rfl rfl
theorem dX12_keep_50 : decode cX12_keep 50 = .ok (.iload_n 1, 1) := o_27 BX12_keep rfl rfl
theorem dX12_keep_51 : decode cX12_keep 51 = .ok (.imul, 1) := o_104 BX12_keep rfl rfl
theorem dX12_keep_52 : decode cX12_keep 52 = .ok (.iload_n 2, 1) := o_28 BX12_keep rfl rfl
theorem dX12_keep_53 : decode cX12_keep 53 = .ok (.iadd, 1) := o_96 BX12_keep rfl rfl
theorem dX12_keep_54 : decode cX12_keep 54 = .ok (.aload_n 0, 1) := o_42 BX12_keep rfl rfl
theorem dX12_keep_55 : decode cX12_keep 55 = .ok (.getfield 31, 3) := o_180 BX12_keep rfl rfl rfl
theorem dX12_keep_58 : decode cX12_keep 58 = .ok (.iload_n 2, 1) := o_28 BX12_keep rfl rfl
theorem dX12_keep_59 : decode cX12_keep 59 = .ok (.iaload, 1) := o_46 BX12_keep rfl rfl
theorem dX12_keep_60 : decode cX12_keep 60 = .ok (.iastore, 1) := o_79 BX12_keep rfl rfl
theorem dX12_keep_61 : decode cX12_keep 61 = .ok (.iinc 2 1, 3) := o_132 BX12_keep rfl rfl rfl rfl
theorem dX12_keep_64 : decode cX12_keep 64 = .ok (.goto (-26), 3) := o_167 BX12_keep rfl rfl rfl
theorem dX12_keep_67 : decode cX12_keep 67 = .ok (.iconst 1, 1) := o_4 BX12_keep rfl rfl
theorem dX12_keep_68 : decode cX12_keep 68 = .ok (.ireturn, 1) := o_172 BX12_keep rfl rfl
theorem dX12_again_0 : decode cX12_again 0 = .ok (.aload_n 0, 1) := o_42 BX12_again rfl rfl
theorem dX12_again_1 : decode cX12_again 1 = .ok (.iconst 0, 1) := o_3 BX12_again rfl rfl
theorem dX12_again_2 : decode cX12_again 2 = .ok (.putfield 112, 3) := o_181 BX12_again rfl rfl rfl
theorem dX12_again_5 : decode cX12_again 5 = .ok (.iload_n 1, 1) := o_27 BX12_again rfl rfl
theorem dX12_again_6 : decode cX12_again 6 = .ok (.i2l, 1) := o_133 BX12_again rfl rfl
theorem dX12_again_7 : decode cX12_again 7 = .ok (.lconst 0, 1) := o_9 BX12_again rfl rfl
theorem dX12_again_8 : decode cX12_again 8 = .ok (.ldc2_w 449, 3) := o_20 BX12_again rfl rfl rfl
theorem dX12_again_11 : decode cX12_again 11 = .ok (.invokestatic 125, 3) := o_184 BX12_again rfl rfl rfl
theorem dX12_again_14 : decode cX12_again 14 = .ok (.ifCond .eq 25, 3) := o_153 BX12_again rfl rfl rfl
theorem dX12_again_17 : decode cX12_again 17 = .ok (.aload_n 0, 1) := o_42 BX12_again rfl rfl
theorem dX12_again_18 : decode cX12_again 18 = .ok (.getfield 103, 3) := o_180 BX12_again rfl rfl rfl
theorem dX12_again_21 : decode cX12_again 21 = .ok (.iload_n 1, 1) := o_27 BX12_again rfl rfl
theorem dX12_again_22 : decode cX12_again 22 = .ok (.baload, 1) := o_51 BX12_again rfl rfl
theorem dX12_again_23 : decode cX12_again 23 = .ok (.ifCond .eq 16, 3) := o_153 BX12_again rfl rfl rfl
theorem dX12_again_26 : decode cX12_again 26 = .ok (.aload_n 0, 1) := o_42 BX12_again rfl rfl
theorem dX12_again_27 : decode cX12_again 27 = .ok (.getfield 106, 3) := o_180 BX12_again rfl rfl rfl
theorem dX12_again_30 : decode cX12_again 30 = .ok (.iload_n 1, 1) := o_27 BX12_again rfl rfl
theorem dX12_again_31 : decode cX12_again 31 = .ok (.iaload, 1) := o_46 BX12_again rfl rfl
theorem dX12_again_32 : decode cX12_again 32 = .ok (.aload_n 0, 1) := o_42 BX12_again rfl rfl
theorem dX12_again_33 : decode cX12_again 33 = .ok (.getfield 211, 3) := o_180 BX12_again rfl rfl rfl
theorem dX12_again_36 : decode cX12_again 36 = .ok (.if_icmp .eq 5, 3) := o_159 BX12_again rfl rfl rfl
theorem dX12_again_39 : decode cX12_again 39 = .ok (.iconst 0, 1) := o_3 BX12_again rfl rfl
theorem dX12_again_40 : decode cX12_again 40 = .ok (.ireturn, 1) := o_172 BX12_again rfl rfl
theorem dX12_again_41 : decode cX12_again 41 = .ok (.iconst 0, 1) := o_3 BX12_again rfl rfl
theorem dX12_again_42 : decode cX12_again 42 = .ok (.istore_n 2, 1) := o_61 BX12_again rfl rfl
theorem dX12_again_43 : decode cX12_again 43 = .ok (.iload_n 2, 1) := o_28 BX12_again rfl rfl
theorem dX12_again_44 : decode cX12_again 44 = .ok (.bipush 38, 2) := o_16 BX12_again rfl rfl rfl
theorem dX12_again_46 : decode cX12_again 46 = .ok (.if_icmp .ge 26, 3) := o_162 BX12_again rfl rfl rfl
theorem dX12_again_49 : decode cX12_again 49 = .ok (.aload_n 0, 1) := o_42 BX12_again rfl rfl
theorem dX12_again_50 : decode cX12_again 50 = .ok (.getfield 31, 3) := o_180 BX12_again rfl rfl rfl
theorem dX12_again_53 : decode cX12_again 53 = .ok (.iload_n 2, 1) := o_28 BX12_again rfl rfl
theorem dX12_again_54 : decode cX12_again 54 = .ok (.aload_n 0, 1) := o_42 BX12_again rfl rfl
theorem dX12_again_55 : decode cX12_again 55 = .ok (.getfield 109, 3) := o_180 BX12_again rfl rfl rfl
theorem dX12_again_58 : decode cX12_again 58 = .ok (.bipush 38, 2) := o_16 BX12_again rfl rfl rfl
theorem dX12_again_60 : decode cX12_again 60 = .ok (.iload_n 1, 1) := o_27 BX12_again rfl rfl
theorem dX12_again_61 : decode cX12_again 61 = .ok (.imul, 1) := o_104 BX12_again rfl rfl
theorem dX12_again_62 : decode cX12_again 62 = .ok (.iload_n 2, 1) := o_28 BX12_again rfl rfl
theorem dX12_again_63 : decode cX12_again 63 = .ok (.iadd, 1) := o_96 BX12_again rfl rfl
theorem dX12_again_64 : decode cX12_again 64 = .ok (.iaload, 1) := o_46 BX12_again rfl rfl
theorem dX12_again_65 : decode cX12_again 65 = .ok (.iastore, 1) := o_79 BX12_again rfl rfl
theorem dX12_again_66 : decode cX12_again 66 = .ok (.iinc 2 1, 3) := o_132 BX12_again rfl rfl rfl rfl
theorem dX12_again_69 : decode cX12_again 69 = .ok (.goto (-26), 3) := o_167 BX12_again rfl rfl rfl
theorem dX12_again_72 : decode cX12_again 72 = .ok (.aload_n 0, 1) := o_42 BX12_again rfl rfl
theorem dX12_again_73 : decode cX12_again 73 = .ok (.iconst 0, 1) := o_3 BX12_again rfl rfl
theorem dX12_again_74 : decode cX12_again 74 = .ok (.putfield 186, 3) := o_181 BX12_again rfl rfl rfl
theorem dX12_again_77 : decode cX12_again 77 = .ok (.iconst 1, 1) := o_4 BX12_again rfl rfl
theorem dX12_again_78 : decode cX12_again 78 = .ok (.ireturn, 1) := o_172 BX12_again rfl rfl
theorem dX12_count_0 : decode cX12_count 0 = .ok (.aload_n 0, 1) := o_42 BX12_count rfl rfl
theorem dX12_count_1 : decode cX12_count 1 = .ok (.iconst 0, 1) := o_3 BX12_count rfl rfl
theorem dX12_count_2 : decode cX12_count 2 = .ok (.putfield 112, 3) := o_181 BX12_count rfl rfl rfl
theorem dX12_count_5 : decode cX12_count 5 = .ok (.iconst 0, 1) := o_3 BX12_count rfl rfl
theorem dX12_count_6 : decode cX12_count 6 = .ok (.istore_n 2, 1) := o_61 BX12_count rfl rfl
theorem dX12_count_7 : decode cX12_count 7 = .ok (.iconst 0, 1) := o_3 BX12_count rfl rfl
theorem dX12_count_8 : decode cX12_count 8 = .ok (.istore_n 3, 1) := o_62 BX12_count rfl rfl
theorem dX12_count_9 : decode cX12_count 9 = .ok (.iload_n 3, 1) := o_29 BX12_count rfl rfl
theorem dX12_count_10 : decode cX12_count 10 = .ok (.aload_n 0, 1) := o_42 BX12_count rfl rfl
theorem dX12_count_11 : decode cX12_count 11 = .ok (.getfield 13, 3) := o_180 BX12_count rfl rfl rfl
theorem dX12_count_14 : decode cX12_count 14 = .ok (.if_icmp .ge 21, 3) := o_162 BX12_count rfl rfl rfl
theorem dX12_count_17 : decode cX12_count 17 = .ok (.iload_n 2, 1) := o_28 BX12_count rfl rfl
theorem dX12_count_18 : decode cX12_count 18 = .ok (.aload_n 0, 1) := o_42 BX12_count rfl rfl
theorem dX12_count_19 : decode cX12_count 19 = .ok (.getfield 20, 3) := o_180 BX12_count rfl rfl rfl
theorem dX12_count_22 : decode cX12_count 22 = .ok (.iload_n 3, 1) := o_29 BX12_count rfl rfl
theorem dX12_count_23 : decode cX12_count 23 = .ok (.baload, 1) := o_51 BX12_count rfl rfl
theorem dX12_count_24 : decode cX12_count 24 = .ok (.invokestatic 154, 3) := o_184 BX12_count rfl rfl rfl
theorem dX12_count_27 : decode cX12_count 27 = .ok (.iadd, 1) := o_96 BX12_count rfl rfl
theorem dX12_count_28 : decode cX12_count 28 = .ok (.istore_n 2, 1) := o_61 BX12_count rfl rfl
theorem dX12_count_29 : decode cX12_count 29 = .ok (.iinc 3 1, 3) := o_132 BX12_count rfl rfl rfl rfl
theorem dX12_count_32 : decode cX12_count 32 = .ok (.goto (-23), 3) := o_167 BX12_count rfl rfl rfl
theorem dX12_count_35 : decode cX12_count 35 = .ok (.iload_n 1, 1) := o_27 BX12_count rfl rfl
theorem dX12_count_36 : decode cX12_count 36 = .ok (.tableswitch 169 0 12 #[68, 73, 78, 83, 91, 99, 122, 135, 137, 149, 154, 159, 164], 68) := by decide +kernel
theorem dX12_count_104 : decode cX12_count 104 = .ok (.aload_n 0, 1) := o_42 BX12_count rfl rfl
theorem dX12_count_105 : decode cX12_count 105 = .ok (.getfield 13, 3) := o_180 BX12_count rfl rfl rfl
theorem dX12_count_108 : decode cX12_count 108 = .ok (.ireturn, 1) := o_172 BX12_count rfl rfl
theorem dX12_count_109 : decode cX12_count 109 = .ok (.aload_n 0, 1) := o_42 BX12_count rfl rfl
theorem dX12_count_110 : decode cX12_count 110 = .ok (.getfield 122, 3) := o_180 BX12_count rfl rfl rfl
theorem dX12_count_113 : decode cX12_count 113 = .ok (.ireturn, 1) := o_172 BX12_count rfl rfl
theorem dX12_count_114 : decode cX12_count 114 = .ok (.aload_n 0, 1) := o_42 BX12_count rfl rfl
theorem dX12_count_115 : decode cX12_count 115 = .ok (.getfield 129, 3) := o_180 BX12_count rfl rfl rfl
theorem dX12_count_118 : decode cX12_count 118 = .ok (.ireturn, 1) := o_172 BX12_count rfl rfl
theorem dX12_count_119 : decode cX12_count 119 = .ok (.aload_n 0, 1) := o_42 BX12_count rfl rfl
theorem dX12_count_120 : decode cX12_count 120 = .ok (.getfield 31, 3) := o_180 BX12_count rfl rfl rfl
theorem dX12_count_123 : decode cX12_count 123 = .ok (.bipush 37, 2) := o_16 BX12_count rfl rfl rfl
theorem dX12_count_125 : decode cX12_count 125 = .ok (.iaload, 1) := o_46 BX12_count rfl rfl
theorem dX12_count_126 : decode cX12_count 126 = .ok (.ireturn, 1) := o_172 BX12_count rfl rfl
theorem dX12_count_127 : decode cX12_count 127 = .ok (.aload_n 0, 1) := o_42 BX12_count rfl rfl
theorem dX12_count_128 : decode cX12_count 128 = .ok (.getfield 31, 3) := o_180 BX12_count rfl rfl rfl
theorem dX12_count_131 : decode cX12_count 131 = .ok (.bipush 12, 2) := o_16 BX12_count rfl rfl rfl
theorem dX12_count_133 : decode cX12_count 133 = .ok (.iaload, 1) := o_46 BX12_count rfl rfl
theorem dX12_count_134 : decode cX12_count 134 = .ok (.ireturn, 1) := o_172 BX12_count rfl rfl
theorem dX12_count_135 : decode cX12_count 135 = .ok (.aload_n 0, 1) := o_42 BX12_count rfl rfl
theorem dX12_count_136 : decode cX12_count 136 = .ok (.aload_n 0, 1) := o_42 BX12_count rfl rfl
theorem dX12_count_137 : decode cX12_count 137 = .ok (.getfield 31, 3) := o_180 BX12_count rfl rfl rfl
theorem dX12_count_140 : decode cX12_count 140 = .ok (.iconst 1, 1) := o_4 BX12_count rfl rfl
theorem dX12_count_141 : decode cX12_count 141 = .ok (.invokevirtual 397, 3) := o_182 BX12_count rfl rfl rfl
theorem dX12_count_144 : decode cX12_count 144 = .ok (.aload_n 0, 1) := o_42 BX12_count rfl rfl
theorem dX12_count_145 : decode cX12_count 145 = .ok (.aload_n 0, 1) := o_42 BX12_count rfl rfl
theorem dX12_count_146 : decode cX12_count 146 = .ok (.getfield 31, 3) := o_180 BX12_count rfl rfl rfl
theorem dX12_count_149 : decode cX12_count 149 = .ok (.iconst 0, 1) := o_3 BX12_count rfl rfl
theorem dX12_count_150 : decode cX12_count 150 = .ok (.invokevirtual 397, 3) := o_182 BX12_count rfl rfl rfl
theorem dX12_count_153 : decode cX12_count 153 = .ok (.ior, 1) := o_128 BX12_count rfl rfl
theorem dX12_count_154 : decode cX12_count 154 = .ok (.invokestatic 279, 3) := o_184 BX12_count rfl rfl rfl
theorem dX12_count_157 : decode cX12_count 157 = .ok (.ireturn, 1) := o_172 BX12_count rfl rfl
theorem dX12_count_158 : decode cX12_count 158 = .ok (.aload_n 0, 1) := o_42 BX12_count rfl rfl
theorem dX12_count_159 : decode cX12_count 159 = .ok (.aload_n 0, 1) := o_42 BX12_count rfl rfl
theorem dX12_count_160 : decode cX12_count 160 = .ok (.getfield 31, 3) := o_180 BX12_count rfl rfl rfl
theorem dX12_count_163 : decode cX12_count 163 = .ok (.iconst 1, 1) := o_4 BX12_count rfl rfl
theorem dX12_count_164 : decode cX12_count 164 = .ok (.invokevirtual 397, 3) := o_182 BX12_count rfl rfl rfl
theorem dX12_count_167 : decode cX12_count 167 = .ok (.invokestatic 279, 3) := o_184 BX12_count rfl rfl rfl
theorem dX12_count_170 : decode cX12_count 170 = .ok (.ireturn, 1) := o_172 BX12_count rfl rfl
theorem dX12_count_171 : decode cX12_count 171 = .ok (.iload_n 2, 1) := o_28 BX12_count rfl rfl
theorem dX12_count_172 : decode cX12_count 172 = .ok (.ireturn, 1) := o_172 BX12_count rfl rfl
theorem dX12_count_173 : decode cX12_count 173 = .ok (.aload_n 0, 1) := o_42 BX12_count rfl rfl
theorem dX12_count_174 : decode cX12_count 174 = .ok (.aload_n 0, 1) := o_42 BX12_count rfl rfl
theorem dX12_count_175 : decode cX12_count 175 = .ok (.getfield 31, 3) := o_180 BX12_count rfl rfl rfl
theorem dX12_count_178 : decode cX12_count 178 = .ok (.bipush 37, 2) := o_16 BX12_count rfl rfl rfl
theorem dX12_count_180 : decode cX12_count 180 = .ok (.iaload, 1) := o_46 BX12_count rfl rfl
theorem dX12_count_181 : decode cX12_count 181 = .ok (.invokevirtual 272, 3) := o_182 BX12_count rfl rfl rfl
theorem dX12_count_184 : decode cX12_count 184 = .ok (.ireturn, 1) := o_172 BX12_count rfl rfl
theorem dX12_count_185 : decode cX12_count 185 = .ok (.aload_n 0, 1) := o_42 BX12_count rfl rfl
theorem dX12_count_186 : decode cX12_count 186 = .ok (.getfield 423, 3) := o_180 BX12_count rfl rfl rfl
theorem dX12_count_189 : decode cX12_count 189 = .ok (.ireturn, 1) := o_172 BX12_count rfl rfl
theorem dX12_count_190 : decode cX12_count 190 = .ok (.aload_n 0, 1) := o_42 BX12_count rfl rfl
theorem dX12_count_191 : decode cX12_count 191 = .ok (.getfield 186, 3) := o_180 BX12_count rfl rfl rfl
theorem dX12_count_194 : decode cX12_count 194 = .ok (.ireturn, 1) := o_172 BX12_count rfl rfl
theorem dX12_count_195 : decode cX12_count 195 = .ok (.aload_n 0, 1) := o_42 BX12_count rfl rfl
theorem dX12_count_196 : decode cX12_count 196 = .ok (.getfield 119, 3) := o_180 BX12_count rfl rfl rfl
theorem dX12_count_199 : decode cX12_count 199 = .ok (.ireturn, 1) := o_172 BX12_count rfl rfl
theorem dX12_count_200 : decode cX12_count 200 = .ok (.aload_n 0, 1) := o_42 BX12_count rfl rfl
theorem dX12_count_201 : decode cX12_count 201 = .ok (.getfield 136, 3) := o_180 BX12_count rfl rfl rfl
theorem dX12_count_204 : decode cX12_count 204 = .ok (.ireturn, 1) := o_172 BX12_count rfl rfl
theorem dX12_count_205 : decode cX12_count 205 = .ok (.bipush (-100), 2) := o_16 BX12_count rfl rfl rfl
theorem dX12_count_207 : decode cX12_count 207 = .ok (.ireturn, 1) := o_172 BX12_count rfl rfl
theorem dX12_row_0 : decode cX12_row 0 = .ok (.aload_n 0, 1) := o_42 BX12_row rfl rfl
theorem dX12_row_1 : decode cX12_row 1 = .ok (.iconst 0, 1) := o_3 BX12_row rfl rfl
theorem dX12_row_2 : decode cX12_row 2 = .ok (.putfield 112, 3) := o_181 BX12_row rfl rfl rfl
theorem dX12_row_5 : decode cX12_row 5 = .ok (.iload_n 1, 1) := o_27 BX12_row rfl rfl
theorem dX12_row_6 : decode cX12_row 6 = .ok (.i2l, 1) := o_133 BX12_row rfl rfl
theorem dX12_row_7 : decode cX12_row 7 = .ok (.lconst 0, 1) := o_9 BX12_row rfl rfl
theorem dX12_row_8 : decode cX12_row 8 = .ok (.aload_n 0, 1) := o_42 BX12_row rfl rfl
theorem dX12_row_9 : decode cX12_row 9 = .ok (.getfield 119, 3) := o_180 BX12_row rfl rfl rfl
theorem dX12_row_12 : decode cX12_row 12 = .ok (.iconst 1, 1) := o_4 BX12_row rfl rfl
theorem dX12_row_13 : decode cX12_row 13 = .ok (.isub, 1) := o_100 BX12_row rfl rfl
theorem dX12_row_14 : decode cX12_row 14 = .ok (.i2l, 1) := o_133 BX12_row rfl rfl
theorem dX12_row_15 : decode cX12_row 15 = .ok (.invokestatic 125, 3) := o_184 BX12_row rfl rfl rfl
theorem dX12_row_18 : decode cX12_row 18 = .ok (.ifCond .ne 10, 3) := o_154 BX12_row rfl rfl rfl
theorem dX12_row_21 : decode cX12_row 21 = .ok (.aload_n 0, 1) := o_42 BX12_row rfl rfl
theorem dX12_row_22 : decode cX12_row 22 = .ok (.iconst 1, 1) := o_4 BX12_row rfl rfl
theorem dX12_row_23 : decode cX12_row 23 = .ok (.putfield 112, 3) := o_181 BX12_row rfl rfl rfl
theorem dX12_row_26 : decode cX12_row 26 = .ok (.lconst 0, 1) := o_9 BX12_row rfl rfl
theorem dX12_row_27 : decode cX12_row 27 = .ok (.lreturn, 1) := o_173 BX12_row rfl rfl
theorem dX12_row_28 : decode cX12_row 28 = .ok (.aload_n 0, 1) := o_42 BX12_row rfl rfl
theorem dX12_row_29 : decode cX12_row 29 = .ok (.getfield 9, 3) := o_180 BX12_row rfl rfl rfl
theorem dX12_row_32 : decode cX12_row 32 = .ok (.iload_n 1, 1) := o_27 BX12_row rfl rfl
theorem dX12_row_33 : decode cX12_row 33 = .ok (.laload, 1) := o_47 BX12_row rfl rfl
theorem dX12_row_34 : decode cX12_row 34 = .ok (.lreturn, 1) := o_173 BX12_row rfl rfl
theorem dJ6_bitCount_0f7a4_0 : decode cJ6_bitCount_0f7a4 0 = .ok (.iload_n 0, 1) := o_26 BJ6_bitCount_0f7a4 rfl rfl
theorem dJ6_bitCount_0f7a4_1 : decode cJ6_bitCount_0f7a4 1 = .ok (.iload_n 0, 1) := o_26 BJ6_bitCount_0f7a4 rfl rfl
theorem dJ6_bitCount_0f7a4_2 : decode cJ6_bitCount_0f7a4 2 = .ok (.iconst 1, 1) := o_4 BJ6_bitCount_0f7a4 rfl rfl
theorem dJ6_bitCount_0f7a4_3 : decode cJ6_bitCount_0f7a4 3 = .ok (.iushr, 1) := o_124 BJ6_bitCount_0f7a4 rfl rfl
theorem dJ6_bitCount_0f7a4_4 : decode cJ6_bitCount_0f7a4 4 = .ok (.ldc_w 265, 3) := o_19 BJ6_bitCount_0f7a4 rfl rfl rfl
theorem dJ6_bitCount_0f7a4_7 : decode cJ6_bitCount_0f7a4 7 = .ok (.iand, 1) := o_126 BJ6_bitCount_0f7a4 rfl rfl
theorem dJ6_bitCount_0f7a4_8 : decode cJ6_bitCount_0f7a4 8 = .ok (.isub, 1) := o_100 BJ6_bitCount_0f7a4 rfl rfl
theorem dJ6_bitCount_0f7a4_9 : decode cJ6_bitCount_0f7a4 9 = .ok (.istore_n 0, 1) := o_59 BJ6_bitCount_0f7a4 rfl rfl
theorem dJ6_bitCount_0f7a4_10 : decode cJ6_bitCount_0f7a4 10 = .ok (.iload_n 0, 1) := o_26 BJ6_bitCount_0f7a4 rfl rfl
theorem dJ6_bitCount_0f7a4_11 : decode cJ6_bitCount_0f7a4 11 = .ok (.ldc_w 266, 3) := o_19 BJ6_bitCount_0f7a4 rfl rfl rfl
theorem dJ6_bitCount_0f7a4_14 : decode cJ6_bitCount_0f7a4 14 = .ok (.iand, 1) := o_126 BJ6_bitCount_0f7a4 rfl rfl
theorem dJ6_bitCount_0f7a4_15 : decode cJ6_bitCount_0f7a4 15 = .ok (.iload_n 0, 1) := o_26 BJ6_bitCount_0f7a4 rfl rfl
theorem dJ6_bitCount_0f7a4_16 : decode cJ6_bitCount_0f7a4 16 = .ok (.iconst 2, 1) := o_5 BJ6_bitCount_0f7a4 rfl rfl
theorem dJ6_bitCount_0f7a4_17 : decode cJ6_bitCount_0f7a4 17 = .ok (.iushr, 1) := o_124 BJ6_bitCount_0f7a4 rfl rfl
theorem dJ6_bitCount_0f7a4_18 : decode cJ6_bitCount_0f7a4 18 = .ok (.ldc_w 266, 3) := o_19 BJ6_bitCount_0f7a4 rfl rfl rfl
theorem dJ6_bitCount_0f7a4_21 : decode cJ6_bitCount_0f7a4 21 = .ok (.iand, 1) := o_126 BJ6_bitCount_0f7a4 rfl rfl
theorem dJ6_bitCount_0f7a4_22 : decode cJ6_bitCount_0f7a4 22 = .ok (.iadd, 1) := o_96 BJ6_bitCount_0f7a4 rfl rfl
theorem dJ6_bitCount_0f7a4_23 : decode cJ6_bitCount_0f7a4 23 = .ok (.istore_n 0, 1) := o_59 BJ6_bitCount_0f7a4 rfl rfl
theorem dJ6_bitCount_0f7a4_24 : decode cJ6_bitCount_0f7a4 24 = .ok (.iload_n 0, 1) := o_26 BJ6_bitCount_0f7a4 rfl rfl
theorem dJ6_bitCount_0f7a4_25 : decode cJ6_bitCount_0f7a4 25 = .ok (.iload_n 0, 1) := o_26 BJ6_bitCount_0f7a4 rfl rfl
theorem dJ6_bitCount_0f7a4_26 : decode cJ6_bitCount_0f7a4 26 = .ok (.iconst 4, 1) := o_7 BJ6_bitCount_0f7a4 rfl rfl
theorem dJ6_bitCount_0f7a4_27 : decode cJ6_bitCount_0f7a4 27 = .ok (.iushr, 1) := o_124 BJ6_bitCount_0f7a4 rfl rfl
theorem dJ6_bitCount_0f7a4_28 : decode cJ6_bitCount_0f7a4 28 = .ok (.iadd, 1) := o_96 BJ6_bitCount_0f7a4 rfl rfl
theorem dJ6_bitCount_0f7a4_29 : decode cJ6_bitCount_0f7a4 29 = .ok (.ldc_w 267, 3) := o_19 BJ6_bitCount_0f7a4 rfl rfl rfl
theorem dJ6_bitCount_0f7a4_32 : decode cJ6_bitCount_0f7a4 32 = .ok (.iand, 1) := o_126 BJ6_bitCount_0f7a4 rfl rfl
theorem dJ6_bitCount_0f7a4_33 : decode cJ6_bitCount_0f7a4 33 = .ok (.istore_n 0, 1) := o_59 BJ6_bitCount_0f7a4 rfl rfl
theorem dJ6_bitCount_0f7a4_34 : decode cJ6_bitCount_0f7a4 34 = .ok (.iload_n 0, 1) := o_26 BJ6_bitCount_0f7a4 rfl rfl
theorem dJ6_bitCount_0f7a4_35 : decode cJ6_bitCount_0f7a4 35 = .ok (.iload_n 0, 1) := o_26 BJ6_bitCount_0f7a4 rfl rfl
theorem dJ6_bitCount_0f7a4_36 : decode cJ6_bitCount_0f7a4 36 = .ok (.bipush 8, 2) := o_16 BJ6_bitCount_0f7a4 rfl rfl rfl
theorem dJ6_bitCount_0f7a4_38 : decode cJ6_bitCount_0f7a4 38 = .ok (.iushr, 1) := o_124 BJ6_bitCount_0f7a4 rfl rfl
theorem dJ6_bitCount_0f7a4_39 : decode cJ6_bitCount_0f7a4 39 = .ok (.iadd, 1) := o_96 BJ6_bitCount_0f7a4 rfl rfl
theorem dJ6_bitCount_0f7a4_40 : decode cJ6_bitCount_0f7a4 40 = .ok (.istore_n 0, 1) := o_59 BJ6_bitCount_0f7a4 rfl rfl
theorem dJ6_bitCount_0f7a4_41 : decode cJ6_bitCount_0f7a4 41 = .ok (.iload_n 0, 1) := o_26 BJ6_bitCount_0f7a4 rfl rfl
theorem dJ6_bitCount_0f7a4_42 : decode cJ6_bitCount_0f7a4 42 = .ok (.iload_n 0, 1) := o_26 BJ6_bitCount_0f7a4 rfl rfl
theorem dJ6_bitCount_0f7a4_43 : decode cJ6_bitCount_0f7a4 43 = .ok (.bipush 16, 2) := o_16 BJ6_bitCount_0f7a4 rfl rfl rfl
theorem dJ6_bitCount_0f7a4_45 : decode cJ6_bitCount_0f7a4 45 = .ok (.iushr, 1) := o_124 BJ6_bitCount_0f7a4 rfl rfl
theorem dJ6_bitCount_0f7a4_46 : decode cJ6_bitCount_0f7a4 46 = .ok (.iadd, 1) := o_96 BJ6_bitCount_0f7a4 rfl rfl
theorem dJ6_bitCount_0f7a4_47 : decode cJ6_bitCount_0f7a4 47 = .ok (.istore_n 0, 1) := o_59 BJ6_bitCount_0f7a4 rfl rfl
theorem dJ6_bitCount_0f7a4_48 : decode cJ6_bitCount_0f7a4 48 = .ok (.iload_n 0, 1) := o_26 BJ6_bitCount_0f7a4 rfl rfl
theorem dJ6_bitCount_0f7a4_49 : decode cJ6_bitCount_0f7a4 49 = .ok (.bipush 63, 2) := o_16 BJ6_bitCount_0f7a4 rfl rfl rfl
theorem dJ6_bitCount_0f7a4_51 : decode cJ6_bitCount_0f7a4 51 = .ok (.iand, 1) := o_126 BJ6_bitCount_0f7a4 rfl rfl
theorem dJ6_bitCount_0f7a4_52 : decode cJ6_bitCount_0f7a4 52 = .ok (.ireturn, 1) := o_172 BJ6_bitCount_0f7a4 rfl rfl
theorem dJ0_length_8abf5_0 : decode cJ0_length_8abf5 0 = .ok (.aload_n 0, 1) := o_42 BJ0_length_8abf5 rfl rfl
theorem dJ0_length_8abf5_1 : decode cJ0_length_8abf5 1 = .ok (.getfield 9, 3) := o_180 BJ0_length_8abf5 rfl rfl rfl
theorem dJ0_length_8abf5_4 : decode cJ0_length_8abf5 4 = .ok (.arraylength, 1) := o_190 BJ0_length_8abf5 rfl rfl
theorem dJ0_length_8abf5_5 : decode cJ0_length_8abf5 5 = .ok (.aload_n 0, 1) := o_42 BJ0_length_8abf5 rfl rfl
theorem dJ0_length_8abf5_6 : decode cJ0_length_8abf5 6 = .ok (.invokevirtual 335, 3) := o_182 BJ0_length_8abf5 rfl rfl rfl
theorem dJ0_length_8abf5_9 : decode cJ0_length_8abf5 9 = .ok (.ishr, 1) := o_122 BJ0_length_8abf5 rfl rfl
theorem dJ0_length_8abf5_10 : decode cJ0_length_8abf5 10 = .ok (.ireturn, 1) := o_172 BJ0_length_8abf5 rfl rfl
theorem dJ0_charAt_5068e_0 : decode cJ0_charAt_5068e 0 = .ok (.aload_n 0, 1) := o_42 BJ0_charAt_5068e rfl rfl
theorem dJ0_charAt_5068e_1 : decode cJ0_charAt_5068e 1 = .ok (.invokevirtual 492, 3) := o_182 BJ0_charAt_5068e rfl rfl rfl
theorem dJ0_charAt_5068e_4 : decode cJ0_charAt_5068e 4 = .ok (.ifCond .eq 12, 3) := o_153 BJ0_charAt_5068e rfl rfl rfl
theorem dJ0_charAt_5068e_7 : decode cJ0_charAt_5068e 7 = .ok (.aload_n 0, 1) := o_42 BJ0_charAt_5068e rfl rfl
theorem dJ0_charAt_5068e_8 : decode cJ0_charAt_5068e 8 = .ok (.getfield 9, 3) := o_180 BJ0_charAt_5068e rfl rfl rfl
theorem dJ0_charAt_5068e_11 : decode cJ0_charAt_5068e 11 = .ok (.iload_n 1, 1) := o_27 BJ0_charAt_5068e rfl rfl
theorem dJ0_charAt_5068e_12 : decode cJ0_charAt_5068e 12 = .ok (.invokestatic 495, 3) := o_184 BJ0_charAt_5068e rfl rfl rfl
theorem dJ0_charAt_5068e_15 : decode cJ0_charAt_5068e 15 = .ok (.ireturn, 1) := o_172 BJ0_charAt_5068e rfl rfl
theorem dJ0_indexOf_0f7a4_0 : decode cJ0_indexOf_0f7a4 0 = .ok (.aload_n 0, 1) := o_42 BJ0_indexOf_0f7a4 rfl rfl
theorem dJ0_indexOf_0f7a4_1 : decode cJ0_indexOf_0f7a4 1 = .ok (.iload_n 1, 1) := o_27 BJ0_indexOf_0f7a4 rfl rfl
theorem dJ0_indexOf_0f7a4_2 : decode cJ0_indexOf_0f7a4 2 = .ok (.iconst 0, 1) := o_3 BJ0_indexOf_0f7a4 rfl rfl
theorem dJ0_indexOf_0f7a4_3 : decode cJ0_indexOf_0f7a4 3 = .ok (.invokevirtual 633, 3) := o_182 BJ0_indexOf_0f7a4 rfl rfl rfl
theorem dJ0_indexOf_0f7a4_6 : decode cJ0_indexOf_0f7a4 6 = .ok (.ireturn, 1) := o_172 BJ0_indexOf_0f7a4 rfl rfl
theorem dJ0_indexOf_7cf53_0 : decode cJ0_indexOf_7cf53 0 = .ok (.aload_n 0, 1) := o_42 BJ0_indexOf_7cf53 rfl rfl
theorem dJ0_indexOf_7cf53_1 : decode cJ0_indexOf_7cf53 1 = .ok (.invokevirtual 492, 3) := o_182 BJ0_indexOf_7cf53 rfl rfl rfl
theorem dJ0_indexOf_7cf53_4 : decode cJ0_indexOf_7cf53 4 = .ok (.ifCond .eq 19, 3) := o_153 BJ0_indexOf_7cf53 rfl rfl rfl
theorem dJ0_indexOf_7cf53_7 : decode cJ0_indexOf_7cf53 7 = .ok (.aload_n 0, 1) := o_42 BJ0_indexOf_7cf53 rfl rfl
theorem dJ0_indexOf_7cf53_8 : decode cJ0_indexOf_7cf53 8 = .ok (.getfield 9, 3) := o_180 BJ0_indexOf_7cf53 rfl rfl rfl
theorem dJ0_indexOf_7cf53_11 : decode cJ0_indexOf_7cf53 11 = .ok (.iload_n 1, 1) := o_27 BJ0_indexOf_7cf53 rfl rfl
theorem dJ0_indexOf_7cf53_12 : decode cJ0_indexOf_7cf53 12 = .ok (.iload_n 2, 1) := o_28 BJ0_indexOf_7cf53 rfl rfl
theorem dJ0_indexOf_7cf53_13 : decode cJ0_indexOf_7cf53 13 = .ok (.aload_n 0, 1) := o_42 BJ0_indexOf_7cf53 rfl rfl
theorem dJ0_indexOf_7cf53_14 : decode cJ0_indexOf_7cf53 14 = .ok (.invokevirtual 505, 3) := o_182 BJ0_indexOf_7cf53 rfl rfl rfl
theorem dJ0_indexOf_7cf53_17 : decode cJ0_indexOf_7cf53 17 = .ok (.invokestatic 637, 3) := o_184 BJ0_indexOf_7cf53 rfl rfl rfl
theorem dJ0_indexOf_7cf53_20 : decode cJ0_indexOf_7cf53 20 = .ok (.goto 16, 3) := o_167 BJ0_indexOf_7cf53 rfl rfl rfl
theorem dJ0_indexOf_7cf53_36 : decode cJ0_indexOf_7cf53 36 = .ok (.ireturn, 1) := o_172 BJ0_indexOf_7cf53 rfl rfl
theorem dJ0_substring_37a41_0 : decode cJ0_substring_37a41 0 = .ok (.aload_n 0, 1) := o_42 BJ0_substring_37a41 rfl rfl
theorem dJ0_substring_37a41_1 : decode cJ0_substring_37a41 1 = .ok (.invokevirtual 505, 3) := o_182 BJ0_substring_37a41 rfl rfl rfl
theorem dJ0_substring_37a41_4 : decode cJ0_substring_37a41 4 = .ok (.istore_n 3, 1) := o_62 BJ0_substring_37a41 rfl rfl
theorem dJ0_substring_37a41_5 : decode cJ0_substring_37a41 5 = .ok (.iload_n 1, 1) := o_27 BJ0_substring_37a41 rfl rfl
theorem dJ0_substring_37a41_6 : decode cJ0_substring_37a41 6 = .ok (.iload_n 2, 1) := o_28 BJ0_substring_37a41 rfl rfl
theorem dJ0_substring_37a41_7 : decode cJ0_substring_37a41 7 = .ok (.iload_n 3, 1) := o_29 BJ0_substring_37a41 rfl rfl
theorem dJ0_substring_37a41_8 : decode cJ0_substring_37a41 8 = .ok (.invokestatic 521, 3) := o_184 BJ0_substring_37a41 rfl rfl rfl
theorem dJ0_substring_37a41_11 : decode cJ0_substring_37a41 11 = .ok (.iload_n 1, 1) := o_27 BJ0_substring_37a41 rfl rfl
theorem dJ0_substring_37a41_12 : decode cJ0_substring_37a41 12 = .ok (.ifCond .ne 10, 3) := o_154 BJ0_substring_37a41 rfl rfl rfl
theorem dJ0_substring_37a41_15 : decode cJ0_substring_37a41 15 = .ok (.iload_n 2, 1) := o_28 BJ0_substring_37a41 rfl rfl
theorem dJ0_substring_37a41_16 : decode cJ0_substring_37a41 16 = .ok (.iload_n 3, 1) := o_29 BJ0_substring_37a41 rfl rfl
theorem dJ0_substring_37a41_17 : decode cJ0_substring_37a41 17 = .ok (.if_icmp .ne 5, 3) := o_160 BJ0_substring_37a41 rfl rfl rfl
theorem dJ0_substring_37a41_20 : decode cJ0_substring_37a41 20 = .ok (.aload_n 0, 1) := o_42 BJ0_substring_37a41 rfl rfl
theorem dJ0_substring_37a41_21 : decode cJ0_substring_37a41 21 = .ok (.areturn, 1) := o_176 BJ0_substring_37a41 rfl rfl
theorem dJ0_substring_37a41_22 : decode cJ0_substring_37a41 22 = .ok (.iload_n 2, 1) := o_28 BJ0_substring_37a41 rfl rfl
theorem dJ0_substring_37a41_23 : decode cJ0_substring_37a41 23 = .ok (.iload_n 1, 1) := o_27 BJ0_substring_37a41 rfl rfl
theorem dJ0_substring_37a41_24 : decode cJ0_substring_37a41 24 = .ok (.isub, 1) := o_100 BJ0_substring_37a41 rfl rfl
theorem dJ0_substring_37a41_25 : decode cJ0_substring_37a41 25 = .ok (.istore 4, 2) := o_54 BJ0_substring_37a41 rfl rfl rfl
theorem dJ0_substring_37a41_27 : decode cJ0_substring_37a41 27 = .ok (.aload_n 0, 1) := o_42 BJ0_substring_37a41 rfl rfl
theorem dJ0_substring_37a41_28 : decode cJ0_substring_37a41 28 = .ok (.invokevirtual 492, 3) := o_182 BJ0_substring_37a41 rfl rfl rfl
theorem dJ0_substring_37a41_31 : decode cJ0_substring_37a41 31 = .ok (.ifCond .eq 16, 3) := o_153 BJ0_substring_37a41 rfl rfl rfl
theorem dJ0_substring_37a41_34 : decode cJ0_substring_37a41 34 = .ok (.aload_n 0, 1) := o_42 BJ0_substring_37a41 rfl rfl
theorem dJ0_substring_37a41_35 : decode cJ0_substring_37a41 35 = .ok (.getfield 9, 3) := o_180 BJ0_substring_37a41 rfl rfl rfl
theorem dJ0_substring_37a41_38 : decode cJ0_substring_37a41 38 = .ok (.iload_n 1, 1) := o_27 BJ0_substring_37a41 rfl rfl
theorem dJ0_substring_37a41_39 : decode cJ0_substring_37a41 39 = .ok (.iload 4, 2) := o_21 BJ0_substring_37a41 rfl rfl rfl
theorem dJ0_substring_37a41_41 : decode cJ0_substring_37a41 41 = .ok (.invokestatic 685, 3) := o_184 BJ0_substring_37a41 rfl rfl rfl
theorem dJ0_substring_37a41_44 : decode cJ0_substring_37a41 44 = .ok (.goto 13, 3) := o_167 BJ0_substring_37a41 rfl rfl rfl
theorem dJ0_substring_37a41_57 : decode cJ0_substring_37a41 57 = .ok (.areturn, 1) := o_176 BJ0_substring_37a41 rfl rfl
theorem dJ0_init_031fb_0 : decode cJ0_init_031fb 0 = .ok (.aload_n 0, 1) := o_42 BJ0_init_031fb rfl rfl
theorem dJ0_init_031fb_1 : decode cJ0_init_031fb 1 = .ok (.invokespecial 1, 3) := o_183 BJ0_init_031fb rfl rfl rfl
theorem dJ0_init_031fb_4 : decode cJ0_init_031fb 4 = .ok (.aload_n 0, 1) := o_42 BJ0_init_031fb rfl rfl
theorem dJ0_init_031fb_5 : decode cJ0_init_031fb 5 = .ok (.aload_n 1, 1) := o_43 BJ0_init_031fb rfl rfl
theorem dJ0_init_031fb_6 : decode cJ0_init_031fb 6 = .ok (.putfield 9, 3) := o_181 BJ0_init_031fb rfl rfl rfl
theorem dJ0_init_031fb_9 : decode cJ0_init_031fb 9 = .ok (.aload_n 0, 1) := o_42 BJ0_init_031fb rfl rfl
theorem dJ0_init_031fb_10 : decode cJ0_init_031fb 10 = .ok (.iload_n 2, 1) := o_28 BJ0_init_031fb rfl rfl
theorem dJ0_init_031fb_11 : decode cJ0_init_031fb 11 = .ok (.putfield 15, 3) := o_181 BJ0_init_031fb rfl rfl rfl
theorem dJ0_init_031fb_14 : decode cJ0_init_031fb 14 = .ok (.return_, 1) := o_177 BJ0_init_031fb rfl rfl
theorem dJ0_coder_7d493_0 : decode cJ0_coder_7d493 0 = .ok (.getstatic 38, 3) := o_178 BJ0_coder_7d493 rfl rfl rfl
theorem dJ0_coder_7d493_3 : decode cJ0_coder_7d493 3 = .ok (.ifCond .eq 10, 3) := o_153 BJ0_coder_7d493 rfl rfl rfl
theorem dJ0_coder_7d493_6 : decode cJ0_coder_7d493 6 = .ok (.aload_n 0, 1) := o_42 BJ0_coder_7d493 rfl rfl
theorem dJ0_coder_7d493_7 : decode cJ0_coder_7d493 7 = .ok (.getfield 15, 3) := o_180 BJ0_coder_7d493 rfl rfl rfl
theorem dJ0_coder_7d493_10 : decode cJ0_coder_7d493 10 = .ok (.goto 4, 3) := o_167 BJ0_coder_7d493 rfl rfl rfl
theorem dJ0_coder_7d493_14 : decode cJ0_coder_7d493 14 = .ok (.ireturn, 1) := o_172 BJ0_coder_7d493 rfl rfl
theorem dJ0_isLatin1_aae02_0 : decode cJ0_isLatin1_aae02 0 = .ok (.getstatic 38, 3) := o_178 BJ0_isLatin1_aae02 rfl rfl rfl
theorem dJ0_isLatin1_aae02_3 : decode cJ0_isLatin1_aae02 3 = .ok (.ifCond .eq 14, 3) := o_153 BJ0_isLatin1_aae02 rfl rfl rfl
theorem dJ0_isLatin1_aae02_6 : decode cJ0_isLatin1_aae02 6 = .ok (.aload_n 0, 1) := o_42 BJ0_isLatin1_aae02 rfl rfl
theorem dJ0_isLatin1_aae02_7 : decode cJ0_isLatin1_aae02 7 = .ok (.getfield 15, 3) := o_180 BJ0_isLatin1_aae02 rfl rfl rfl
theorem dJ0_isLatin1_aae02_10 : decode cJ0_isLatin1_aae02 10 = .ok (.ifCond .ne 7, 3) := o_154 BJ0_isLatin1_aae02 rfl rfl rfl
theorem dJ0_isLatin1_aae02_13 : decode cJ0_isLatin1_aae02 13 = .ok (.iconst 1, 1) := o_4 BJ0_isLatin1_aae02 rfl rfl
theorem dJ0_isLatin1_aae02_14 : decode cJ0_isLatin1_aae02 14 = .ok (.goto 4, 3) := o_167 BJ0_isLatin1_aae02 rfl rfl rfl
theorem dJ0_isLatin1_aae02_18 : decode cJ0_isLatin1_aae02 18 = .ok (.ireturn, 1) := o_172 BJ0_isLatin1_aae02 rfl rfl
theorem dJ0_checkIndex_df160_0 : decode cJ0_checkIndex_df160 0 = .ok (.iload_n 0, 1) := o_26 BJ0_checkIndex_df160 rfl rfl
theorem dJ0_checkIndex_df160_1 : decode cJ0_checkIndex_df160 1 = .ok (.iload_n 1, 1) := o_27 BJ0_checkIndex_df160 rfl rfl
theorem dJ0_checkIndex_df160_2 : decode cJ0_checkIndex_df160 2 = .ok (.getstatic 1053, 3) := o_178 BJ0_checkIndex_df160 rfl rfl rfl
theorem dJ0_checkIndex_df160_5 : decode cJ0_checkIndex_df160 5 = .ok (.invokestatic 1059, 3) := o_184 BJ0_checkIndex_df160 rfl rfl rfl
theorem dJ0_checkIndex_df160_8 : decode cJ0_checkIndex_df160 8 = .ok (.pop, 1) := o_87 BJ0_checkIndex_df160 rfl rfl
theorem dJ0_checkIndex_df160_9 : decode cJ0_checkIndex_df160 9 = .ok (.return_, 1) := o_177 BJ0_checkIndex_df160 rfl rfl
theorem dJ0_checkBoundsBeginEnd_23922_0 : decode cJ0_checkBoundsBeginEnd_23922 0 = .ok (.iload_n 0, 1) := o_26 BJ0_checkBoundsBeginEnd_23922 rfl rfl
theorem dJ0_checkBoundsBeginEnd_23922_1 : decode cJ0_checkBoundsBeginEnd_23922 1 = .ok (.iload_n 1, 1) := o_27 BJ0_checkBoundsBeginEnd_23922 rfl rfl
theorem dJ0_checkBoundsBeginEnd_23922_2 : decode cJ0_checkBoundsBeginEnd_23922 2 = .ok (.iload_n 2, 1) := o_28 BJ0_checkBoundsBeginEnd_23922 rfl rfl
theorem dJ0_checkBoundsBeginEnd_23922_3 : decode cJ0_checkBoundsBeginEnd_23922 3 = .ok (.getstatic 1053, 3) := o_178 BJ0_checkBoundsBeginEnd_23922 rfl rfl rfl
theorem dJ0_checkBoundsBeginEnd_23922_6 : decode cJ0_checkBoundsBeginEnd_23922 6 = .ok (.invokestatic 1062, 3) := o_184 BJ0_checkBoundsBeginEnd_23922 rfl rfl rfl
theorem dJ0_checkBoundsBeginEnd_23922_9 : decode cJ0_checkBoundsBeginEnd_23922 9 = .ok (.pop, 1) := o_87 BJ0_checkBoundsBeginEnd_23922 rfl rfl
theorem dJ0_checkBoundsBeginEnd_23922_10 : decode cJ0_checkBoundsBeginEnd_23922 10 = .ok (.return_, 1) := o_177 BJ0_checkBoundsBeginEnd_23922 rfl rfl
theorem dJ1_charAt_3b067_0 : decode cJ1_charAt_3b067 0 = .ok (.iload_n 1, 1) := o_27 BJ1_charAt_3b067 rfl rfl
theorem dJ1_charAt_3b067_1 : decode cJ1_charAt_3b067 1 = .ok (.aload_n 0, 1) := o_42 BJ1_charAt_3b067 rfl rfl
theorem dJ1_charAt_3b067_2 : decode cJ1_charAt_3b067 2 = .ok (.arraylength, 1) := o_190 BJ1_charAt_3b067 rfl rfl
theorem dJ1_charAt_3b067_3 : decode cJ1_charAt_3b067 3 = .ok (.invokestatic 9, 3) := o_184 BJ1_charAt_3b067 rfl rfl rfl
theorem dJ1_charAt_3b067_6 : decode cJ1_charAt_3b067 6 = .ok (.aload_n 0, 1) := o_42 BJ1_charAt_3b067 rfl rfl
theorem dJ1_charAt_3b067_7 : decode cJ1_charAt_3b067 7 = .ok (.iload_n 1, 1) := o_27 BJ1_charAt_3b067 rfl rfl
theorem dJ1_charAt_3b067_8 : decode cJ1_charAt_3b067 8 = .ok (.baload, 1) := o_51 BJ1_charAt_3b067 rfl rfl
theorem dJ1_charAt_3b067_9 : decode cJ1_charAt_3b067 9 = .ok (.sipush 255, 3) := o_17 BJ1_charAt_3b067 rfl rfl rfl
theorem dJ1_charAt_3b067_12 : decode cJ1_charAt_3b067 12 = .ok (.iand, 1) := o_126 BJ1_charAt_3b067 rfl rfl
theorem dJ1_charAt_3b067_13 : decode cJ1_charAt_3b067 13 = .ok (.i2c, 1) := o_146 BJ1_charAt_3b067 rfl rfl
theorem dJ1_charAt_3b067_14 : decode cJ1_charAt_3b067 14 = .ok (.ireturn, 1) := o_172 BJ1_charAt_3b067 rfl rfl
theorem dJ1_canEncode_9a6ad_0 : decode cJ1_canEncode_9a6ad 0 = .ok (.iload_n 0, 1) := o_26 BJ1_canEncode_9a6ad rfl rfl
theorem dJ1_canEncode_9a6ad_1 : decode cJ1_canEncode_9a6ad 1 = .ok (.ifCond .lt 14, 3) := o_155 BJ1_canEncode_9a6ad rfl rfl rfl
theorem dJ1_canEncode_9a6ad_4 : decode cJ1_canEncode_9a6ad 4 = .ok (.iload_n 0, 1) := o_26 BJ1_canEncode_9a6ad rfl rfl
theorem dJ1_canEncode_9a6ad_5 : decode cJ1_canEncode_9a6ad 5 = .ok (.sipush 255, 3) := o_17 BJ1_canEncode_9a6ad rfl rfl rfl
theorem dJ1_canEncode_9a6ad_8 : decode cJ1_canEncode_9a6ad 8 = .ok (.if_icmp .gt 7, 3) := o_163 BJ1_canEncode_9a6ad rfl rfl rfl
theorem dJ1_canEncode_9a6ad_11 : decode cJ1_canEncode_9a6ad 11 = .ok (.iconst 1, 1) := o_4 BJ1_canEncode_9a6ad rfl rfl
theorem dJ1_canEncode_9a6ad_12 : decode cJ1_canEncode_9a6ad 12 = .ok (.goto 4, 3) := o_167 BJ1_canEncode_9a6ad rfl rfl rfl
theorem dJ1_canEncode_9a6ad_15 : decode cJ1_canEncode_9a6ad 15 = .ok (.iconst 0, 1) := o_3 BJ1_canEncode_9a6ad rfl rfl
theorem dJ1_canEncode_9a6ad_16 : decode cJ1_canEncode_9a6ad 16 = .ok (.ireturn, 1) := o_172 BJ1_canEncode_9a6ad rfl rfl
theorem dJ1_indexOf_4cfef_0 : decode cJ1_indexOf_4cfef 0 = .ok (.iload_n 1, 1) := o_27 BJ1_indexOf_4cfef rfl rfl
theorem dJ1_indexOf_4cfef_1 : decode cJ1_indexOf_4cfef 1 = .ok (.invokestatic 88, 3) := o_184 BJ1_indexOf_4cfef rfl rfl rfl
theorem dJ1_indexOf_4cfef_4 : decode cJ1_indexOf_4cfef 4 = .ok (.ifCond .ne 5, 3) := o_154 BJ1_indexOf_4cfef rfl rfl rfl
theorem dJ1_indexOf_4cfef_7 : decode cJ1_indexOf_4cfef 7 = .ok (.iconst (-1), 1) := o_2 BJ1_indexOf_4cfef rfl rfl
theorem dJ1_indexOf_4cfef_8 : decode cJ1_indexOf_4cfef 8 = .ok (.ireturn, 1) := o_172 BJ1_indexOf_4cfef rfl rfl
theorem dJ1_indexOf_4cfef_9 : decode cJ1_indexOf_4cfef 9 = .ok (.iload_n 2, 1) := o_28 BJ1_indexOf_4cfef rfl rfl
theorem dJ1_indexOf_4cfef_10 : decode cJ1_indexOf_4cfef 10 = .ok (.iconst 0, 1) := o_3 BJ1_indexOf_4cfef rfl rfl
theorem dJ1_indexOf_4cfef_11 : decode cJ1_indexOf_4cfef 11 = .ok (.invokestatic 92, 3) := o_184 BJ1_indexOf_4cfef rfl rfl rfl
theorem dJ1_indexOf_4cfef_14 : decode cJ1_indexOf_4cfef 14 = .ok (.istore_n 2, 1) := o_61 BJ1_indexOf_4cfef rfl rfl
theorem dJ1_indexOf_4cfef_15 : decode cJ1_indexOf_4cfef 15 = .ok (.iload_n 3, 1) := o_29 BJ1_indexOf_4cfef rfl rfl
theorem dJ1_indexOf_4cfef_16 : decode cJ1_indexOf_4cfef 16 = .ok (.aload_n 0, 1) := o_42 BJ1_indexOf_4cfef rfl rfl
theorem dJ1_indexOf_4cfef_17 : decode cJ1_indexOf_4cfef 17 = .ok (.arraylength, 1) := o_190 BJ1_indexOf_4cfef rfl rfl
theorem dJ1_indexOf_4cfef_18 : decode cJ1_indexOf_4cfef 18 = .ok (.invokestatic 38, 3) := o_184 BJ1_indexOf_4cfef rfl rfl rfl
theorem dJ1_indexOf_4cfef_21 : decode cJ1_indexOf_4cfef 21 = .ok (.istore_n 3, 1) := o_62 BJ1_indexOf_4cfef rfl rfl
theorem dJ1_indexOf_4cfef_22 : decode cJ1_indexOf_4cfef 22 = .ok (.iload_n 2, 1) := o_28 BJ1_indexOf_4cfef rfl rfl
theorem dJ1_indexOf_4cfef_23 : decode cJ1_indexOf_4cfef 23 = .ok (.iload_n 3, 1) := o_29 BJ1_indexOf_4cfef rfl rfl
theorem dJ1_indexOf_4cfef_24 : decode cJ1_indexOf_4cfef 24 = .ok (.if_icmp .lt 5, 3) := o_161 BJ1_indexOf_4cfef rfl rfl rfl
theorem dJ1_indexOf_4cfef_27 : decode cJ1_indexOf_4cfef 27 = .ok (.iconst (-1), 1) := o_2 BJ1_indexOf_4cfef rfl rfl
theorem dJ1_indexOf_4cfef_28 : decode cJ1_indexOf_4cfef 28 = .ok (.ireturn, 1) := o_172 BJ1_indexOf_4cfef rfl rfl
theorem dJ1_indexOf_4cfef_29 : decode cJ1_indexOf_4cfef 29 = .ok (.aload_n 0, 1) := o_42 BJ1_indexOf_4cfef rfl rfl
theorem dJ1_indexOf_4cfef_30 : decode cJ1_indexOf_4cfef 30 = .ok (.iload_n 1, 1) := o_27 BJ1_indexOf_4cfef rfl rfl
theorem dJ1_indexOf_4cfef_31 : decode cJ1_indexOf_4cfef 31 = .ok (.iload_n 2, 1) := o_28 BJ1_indexOf_4cfef rfl rfl
theorem dJ1_indexOf_4cfef_32 : decode cJ1_indexOf_4cfef 32 = .ok (.iload_n 3, 1) := o_29 BJ1_indexOf_4cfef rfl rfl
theorem dJ1_indexOf_4cfef_33 : decode cJ1_indexOf_4cfef 33 = .ok (.invokestatic 95, 3) := o_184 BJ1_indexOf_4cfef rfl rfl rfl
theorem dJ1_indexOf_4cfef_36 : decode cJ1_indexOf_4cfef 36 = .ok (.ireturn, 1) := o_172 BJ1_indexOf_4cfef rfl rfl
theorem dJ1_indexOfChar_4cfef_0 : decode cJ1_indexOfChar_4cfef 0 = .ok (.iload_n 1, 1) := o_27 BJ1_indexOfChar_4cfef rfl rfl
theorem dJ1_indexOfChar_4cfef_1 : decode cJ1_indexOfChar_4cfef 1 = .ok (.i2b, 1) := o_145 BJ1_indexOfChar_4cfef rfl rfl
theorem dJ1_indexOfChar_4cfef_2 : decode cJ1_indexOfChar_4cfef 2 = .ok (.istore 4, 2) := o_54 BJ1_indexOfChar_4cfef rfl rfl rfl
theorem dJ1_indexOfChar_4cfef_4 : decode cJ1_indexOfChar_4cfef 4 = .ok (.iload_n 2, 1) := o_28 BJ1_indexOfChar_4cfef rfl rfl
theorem dJ1_indexOfChar_4cfef_5 : decode cJ1_indexOfChar_4cfef 5 = .ok (.istore 5, 2) := o_54 BJ1_indexOfChar_4cfef rfl rfl rfl
theorem dJ1_indexOfChar_4cfef_7 : decode cJ1_indexOfChar_4cfef 7 = .ok (.iload 5, 2) := o_21 BJ1_indexOfChar_4cfef rfl rfl rfl
theorem dJ1_indexOfChar_4cfef_9 : decode cJ1_indexOfChar_4cfef 9 = .ok (.iload_n 3, 1) := o_29 BJ1_indexOfChar_4cfef rfl rfl
theorem dJ1_indexOfChar_4cfef_10 : decode cJ1_indexOfChar_4cfef 10 = .ok (.if_icmp .ge 21, 3) := o_162 BJ1_indexOfChar_4cfef rfl rfl rfl
theorem dJ1_indexOfChar_4cfef_13 : decode cJ1_indexOfChar_4cfef 13 = .ok (.aload_n 0, 1) := o_42 BJ1_indexOfChar_4cfef rfl rfl
theorem dJ1_indexOfChar_4cfef_14 : decode cJ1_indexOfChar_4cfef 14 = .ok (.iload 5, 2) := o_21 BJ1_indexOfChar_4cfef rfl rfl rfl
theorem dJ1_indexOfChar_4cfef_16 : decode cJ1_indexOfChar_4cfef 16 = .ok (.baload, 1) := o_51 BJ1_indexOfChar_4cfef rfl rfl
theorem dJ1_indexOfChar_4cfef_17 : decode cJ1_indexOfChar_4cfef 17 = .ok (.iload 4, 2) := o_21 BJ1_indexOfChar_4cfef rfl rfl rfl
theorem dJ1_indexOfChar_4cfef_19 : decode cJ1_indexOfChar_4cfef 19 = .ok (.if_icmp .ne 6, 3) := o_160 BJ1_indexOfChar_4cfef rfl rfl rfl
theorem dJ1_indexOfChar_4cfef_22 : decode cJ1_indexOfChar_4cfef 22 = .ok (.iload 5, 2) := o_21 BJ1_indexOfChar_4cfef rfl rfl rfl
theorem dJ1_indexOfChar_4cfef_24 : decode cJ1_indexOfChar_4cfef 24 = .ok (.ireturn, 1) := o_172 BJ1_indexOfChar_4cfef rfl rfl
theorem dJ1_indexOfChar_4cfef_25 : decode cJ1_indexOfChar_4cfef 25 = .ok (.iinc 5 1, 3) := o_132 BJ1_indexOfChar_4cfef rfl rfl rfl rfl
theorem dJ1_indexOfChar_4cfef_28 : decode cJ1_indexOfChar_4cfef 28 = .ok (.goto (-21), 3) := o_167 BJ1_indexOfChar_4cfef rfl rfl rfl
theorem dJ1_indexOfChar_4cfef_31 : decode cJ1_indexOfChar_4cfef 31 = .ok (.iconst (-1), 1) := o_2 BJ1_indexOfChar_4cfef rfl rfl
theorem dJ1_indexOfChar_4cfef_32 : decode cJ1_indexOfChar_4cfef 32 = .ok (.ireturn, 1) := o_172 BJ1_indexOfChar_4cfef rfl rfl
theorem dJ1_newString_b4f7a_0 : decode cJ1_newString_b4f7a 0 = .ok (.iload_n 2, 1) := o_28 BJ1_newString_b4f7a rfl rfl
theorem dJ1_newString_b4f7a_1 : decode cJ1_newString_b4f7a 1 = .ok (.ifCond .ne 6, 3) := o_154 BJ1_newString_b4f7a rfl rfl rfl
theorem dJ1_newString_b4f7a_4 : decode cJ1_newString_b4f7a 4 = .ok (.ldc 151, 2) := o_18 BJ1_newString_b4f7a rfl rfl rfl
theorem dJ1_newString_b4f7a_6 : decode cJ1_newString_b4f7a 6 = .ok (.areturn, 1) := o_176 BJ1_newString_b4f7a rfl rfl
theorem dJ1_newString_b4f7a_7 : decode cJ1_newString_b4f7a 7 = .ok (.new 1, 3) := o_187 BJ1_newString_b4f7a rfl rfl rfl
theorem dJ1_newString_b4f7a_10 : decode cJ1_newString_b4f7a 10 = .ok (.dup, 1) := o_89 BJ1_newString_b4f7a rfl rfl
theorem dJ1_newString_b4f7a_11 : decode cJ1_newString_b4f7a 11 = .ok (.aload_n 0, 1) := o_42 BJ1_newString_b4f7a rfl rfl
theorem dJ1_newString_b4f7a_12 : decode cJ1_newString_b4f7a 12 = .ok (.iload_n 1, 1) := o_27 BJ1_newString_b4f7a rfl rfl
theorem dJ1_newString_b4f7a_13 : decode cJ1_newString_b4f7a 13 = .ok (.iload_n 1, 1) := o_27 BJ1_newString_b4f7a rfl rfl
theorem dJ1_newString_b4f7a_14 : decode cJ1_newString_b4f7a 14 = .ok (.iload_n 2, 1) := o_28 BJ1_newString_b4f7a rfl rfl
theorem dJ1_newString_b4f7a_15 : decode cJ1_newString_b4f7a 15 = .ok (.iadd, 1) := o_96 BJ1_newString_b4f7a rfl rfl
theorem dJ1_newString_b4f7a_16 : decode cJ1_newString_b4f7a 16 = .ok (.invokestatic 232, 3) := o_184 BJ1_newString_b4f7a rfl rfl rfl
theorem dJ1_newString_b4f7a_19 : decode cJ1_newString_b4f7a 19 = .ok (.iconst 0, 1) := o_3 BJ1_newString_b4f7a rfl rfl
theorem dJ1_newString_b4f7a_20 : decode cJ1_newString_b4f7a 20 = .ok (.invokespecial 112, 3) := o_183 BJ1_newString_b4f7a rfl rfl rfl
theorem dJ1_newString_b4f7a_23 : decode cJ1_newString_b4f7a 23 = .ok (.areturn, 1) := o_176 BJ1_newString_b4f7a rfl rfl
theorem dJ7_checkLength_df160_0 : decode cJ7_checkLength_df160 0 = .ok (.iload_n 1, 1) := o_27 BJ7_checkLength_df160 rfl rfl
theorem dJ7_checkLength_df160_1 : decode cJ7_checkLength_df160 1 = .ok (.iload_n 0, 1) := o_26 BJ7_checkLength_df160 rfl rfl
theorem dJ7_checkLength_df160_2 : decode cJ7_checkLength_df160 2 = .ok (.if_icmp .ge 35, 3) := o_162 BJ7_checkLength_df160 rfl rfl rfl
theorem dJ7_checkLength_df160_37 : decode cJ7_checkLength_df160 37 = .ok (.return_, 1) := o_177 BJ7_checkLength_df160 rfl rfl
theorem dJ7_copyOfRange_39247_0 : decode cJ7_copyOfRange_39247 0 = .ok (.iload_n 1, 1) := o_27 BJ7_copyOfRange_39247 rfl rfl
theorem dJ7_copyOfRange_39247_1 : decode cJ7_copyOfRange_39247 1 = .ok (.ifCond .ne 9, 3) := o_154 BJ7_copyOfRange_39247 rfl rfl rfl
theorem dJ7_copyOfRange_39247_4 : decode cJ7_copyOfRange_39247 4 = .ok (.iload_n 2, 1) := o_28 BJ7_copyOfRange_39247 rfl rfl
theorem dJ7_copyOfRange_39247_5 : decode cJ7_copyOfRange_39247 5 = .ok (.aload_n 0, 1) := o_42 BJ7_copyOfRange_39247 rfl rfl
theorem dJ7_copyOfRange_39247_6 : decode cJ7_copyOfRange_39247 6 = .ok (.arraylength, 1) := o_190 BJ7_copyOfRange_39247 rfl rfl
theorem dJ7_copyOfRange_39247_7 : decode cJ7_copyOfRange_39247 7 = .ok (.if_icmp .eq 10, 3) := o_159 BJ7_copyOfRange_39247 rfl rfl rfl
theorem dJ7_copyOfRange_39247_10 : decode cJ7_copyOfRange_39247 10 = .ok (.aload_n 0, 1) := o_42 BJ7_copyOfRange_39247 rfl rfl
theorem dJ7_copyOfRange_39247_11 : decode cJ7_copyOfRange_39247 11 = .ok (.iload_n 1, 1) := o_27 BJ7_copyOfRange_39247 rfl rfl
theorem dJ7_copyOfRange_39247_12 : decode cJ7_copyOfRange_39247 12 = .ok (.iload_n 2, 1) := o_28 BJ7_copyOfRange_39247 rfl rfl
theorem dJ7_copyOfRange_39247_13 : decode cJ7_copyOfRange_39247 13 = .ok (.invokestatic 339, 3) := o_184 BJ7_copyOfRange_39247 rfl rfl rfl
theorem dJ7_copyOfRange_39247_16 : decode cJ7_copyOfRange_39247 16 = .ok (.areturn, 1) := o_176 BJ7_copyOfRange_39247 rfl rfl
theorem dJ7_copyOfRangeByte_39247_0 : decode cJ7_copyOfRangeByte_39247 0 = .ok (.iload_n 1, 1) := o_27 BJ7_copyOfRangeByte_39247 rfl rfl
theorem dJ7_copyOfRangeByte_39247_1 : decode cJ7_copyOfRangeByte_39247 1 = .ok (.iload_n 2, 1) := o_28 BJ7_copyOfRangeByte_39247 rfl rfl
theorem dJ7_copyOfRangeByte_39247_2 : decode cJ7_copyOfRangeByte_39247 2 = .ok (.invokestatic 343, 3) := o_184 BJ7_copyOfRangeByte_39247 rfl rfl rfl
theorem dJ7_copyOfRangeByte_39247_5 : decode cJ7_copyOfRangeByte_39247 5 = .ok (.iload_n 2, 1) := o_28 BJ7_copyOfRangeByte_39247 rfl rfl
theorem dJ7_copyOfRangeByte_39247_6 : decode cJ7_copyOfRangeByte_39247 6 = .ok (.iload_n 1, 1) := o_27 BJ7_copyOfRangeByte_39247 rfl rfl
theorem dJ7_copyOfRangeByte_39247_7 : decode cJ7_copyOfRangeByte_39247 7 = .ok (.isub, 1) := o_100 BJ7_copyOfRangeByte_39247 rfl rfl
theorem dJ7_copyOfRangeByte_39247_8 : decode cJ7_copyOfRangeByte_39247 8 = .ok (.istore_n 3, 1) := o_62 BJ7_copyOfRangeByte_39247 rfl rfl
theorem dJ7_copyOfRangeByte_39247_9 : decode cJ7_copyOfRangeByte_39247 9 = .ok (.iload_n 3, 1) := o_29 BJ7_copyOfRangeByte_39247 rfl rfl
theorem dJ7_copyOfRangeByte_39247_10 : decode cJ7_copyOfRangeByte_39247 10 = .ok (.newarray .byte, 2) := o_188_8 BJ7_copyOfRangeByte_39247 rfl rfl rfl
theorem dJ7_copyOfRangeByte_39247_12 : decode cJ7_copyOfRangeByte_39247 12 = .ok (.astore 4, 2) := o_58 BJ7_copyOfRangeByte_39247 rfl rfl rfl
theorem dJ7_copyOfRangeByte_39247_14 : decode cJ7_copyOfRangeByte_39247 14 = .ok (.aload_n 0, 1) := o_42 BJ7_copyOfRangeByte_39247 rfl rfl
theorem dJ7_copyOfRangeByte_39247_15 : decode cJ7_copyOfRangeByte_39247 15 = .ok (.iload_n 1, 1) := o_27 BJ7_copyOfRangeByte_39247 rfl rfl
theorem dJ7_copyOfRangeByte_39247_16 : decode cJ7_copyOfRangeByte_39247 16 = .ok (.aload 4, 2) := o_25 BJ7_copyOfRangeByte_39247 rfl rfl rfl
theorem dJ7_copyOfRangeByte_39247_18 : decode cJ7_copyOfRangeByte_39247 18 = .ok (.iconst 0, 1) := o_3 BJ7_copyOfRangeByte_39247 rfl rfl
theorem dJ7_copyOfRangeByte_39247_19 : decode cJ7_copyOfRangeByte_39247 19 = .ok (.aload_n 0, 1) := o_42 BJ7_copyOfRangeByte_39247 rfl rfl
theorem dJ7_copyOfRangeByte_39247_20 : decode cJ7_copyOfRangeByte_39247 20 = .ok (.arraylength, 1) := o_190 BJ7_copyOfRangeByte_39247 rfl rfl
theorem dJ7_copyOfRangeByte_39247_21 : decode cJ7_copyOfRangeByte_39247 21 = .ok (.iload_n 1, 1) := o_27 BJ7_copyOfRangeByte_39247 rfl rfl
theorem dJ7_copyOfRangeByte_39247_22 : decode cJ7_copyOfRangeByte_39247 22 = .ok (.isub, 1) := o_100 BJ7_copyOfRangeByte_39247 rfl rfl
theorem dJ7_copyOfRangeByte_39247_23 : decode cJ7_copyOfRangeByte_39247 23 = .ok (.iload_n 3, 1) := o_29 BJ7_copyOfRangeByte_39247 rfl rfl
theorem dJ7_copyOfRangeByte_39247_24 : decode cJ7_copyOfRangeByte_39247 24 = .ok (.invokestatic 304, 3) := o_184 BJ7_copyOfRangeByte_39247 rfl rfl rfl
theorem dJ7_copyOfRangeByte_39247_27 : decode cJ7_copyOfRangeByte_39247 27 = .ok (.invokestatic 150, 3) := o_184 BJ7_copyOfRangeByte_39247 rfl rfl rfl
theorem dJ7_copyOfRangeByte_39247_30 : decode cJ7_copyOfRangeByte_39247 30 = .ok (.aload 4, 2) := o_25 BJ7_copyOfRangeByte_39247 rfl rfl rfl
theorem dJ7_copyOfRangeByte_39247_32 : decode cJ7_copyOfRangeByte_39247 32 = .ok (.areturn, 1) := o_176 BJ7_copyOfRangeByte_39247 rfl rfl
theorem dJ3_checkIndex_8e157_0 : decode cJ3_checkIndex_8e157 0 = .ok (.iload_n 0, 1) := o_26 BJ3_checkIndex_8e157 rfl rfl
theorem dJ3_checkIndex_8e157_1 : decode cJ3_checkIndex_8e157 1 = .ok (.ifCond .lt 8, 3) := o_155 BJ3_checkIndex_8e157 rfl rfl rfl
theorem dJ3_checkIndex_8e157_4 : decode cJ3_checkIndex_8e157 4 = .ok (.iload_n 0, 1) := o_26 BJ3_checkIndex_8e157 rfl rfl
theorem dJ3_checkIndex_8e157_5 : decode cJ3_checkIndex_8e157 5 = .ok (.iload_n 1, 1) := o_27 BJ3_checkIndex_8e157 rfl rfl
theorem dJ3_checkIndex_8e157_6 : decode cJ3_checkIndex_8e157 6 = .ok (.if_icmp .lt 10, 3) := o_161 BJ3_checkIndex_8e157 rfl rfl rfl
theorem dJ3_checkIndex_8e157_16 : decode cJ3_checkIndex_8e157 16 = .ok (.iload_n 0, 1) := o_26 BJ3_checkIndex_8e157 rfl rfl
theorem dJ3_checkIndex_8e157_17 : decode cJ3_checkIndex_8e157 17 = .ok (.ireturn, 1) := o_172 BJ3_checkIndex_8e157 rfl rfl
theorem dJ3_checkFromToIndex_8c36e_0 : decode cJ3_checkFromToIndex_8c36e 0 = .ok (.iload_n 0, 1) := o_26 BJ3_checkFromToIndex_8c36e rfl rfl
theorem dJ3_checkFromToIndex_8c36e_1 : decode cJ3_checkFromToIndex_8c36e 1 = .ok (.ifCond .lt 13, 3) := o_155 BJ3_checkFromToIndex_8c36e rfl rfl rfl
theorem dJ3_checkFromToIndex_8c36e_4 : decode cJ3_checkFromToIndex_8c36e 4 = .ok (.iload_n 0, 1) := o_26 BJ3_checkFromToIndex_8c36e rfl rfl
theorem dJ3_checkFromToIndex_8c36e_5 : decode cJ3_checkFromToIndex_8c36e 5 = .ok (.iload_n 1, 1) := o_27 BJ3_checkFromToIndex_8c36e rfl rfl
theorem dJ3_checkFromToIndex_8c36e_6 : decode cJ3_checkFromToIndex_8c36e 6 = .ok (.if_icmp .gt 8, 3) := o_163 BJ3_checkFromToIndex_8c36e rfl rfl rfl
theorem dJ3_checkFromToIndex_8c36e_9 : decode cJ3_checkFromToIndex_8c36e 9 = .ok (.iload_n 1, 1) := o_27 BJ3_checkFromToIndex_8c36e rfl rfl
theorem dJ3_checkFromToIndex_8c36e_10 : decode cJ3_checkFromToIndex_8c36e 10 = .ok (.iload_n 2, 1) := o_28 BJ3_checkFromToIndex_8c36e rfl rfl
theorem dJ3_checkFromToIndex_8c36e_11 : decode cJ3_checkFromToIndex_8c36e 11 = .ok (.if_icmp .le 11, 3) := o_164 BJ3_checkFromToIndex_8c36e rfl rfl rfl
theorem dJ3_checkFromToIndex_8c36e_22 : decode cJ3_checkFromToIndex_8c36e 22 = .ok (.iload_n 0, 1) := o_26 BJ3_checkFromToIndex_8c36e rfl rfl
theorem dJ3_checkFromToIndex_8c36e_23 : decode cJ3_checkFromToIndex_8c36e 23 = .ok (.ireturn, 1) := o_172 BJ3_checkFromToIndex_8c36e rfl rfl
theorem dL_hearse_0 : decode cL_hearse 0 = .ok (.aload_n 3, 1) := o_45 BL_hearse rfl rfl
theorem dL_hearse_1 : decode cL_hearse 1 = .ok (.iconst 0, 1) := o_3 BL_hearse rfl rfl
theorem dL_hearse_2 : decode cL_hearse 2 = .ok (.aload_n 0, 1) := o_42 BL_hearse rfl rfl
theorem dL_hearse_3 : decode cL_hearse 3 = .ok (.iload_n 1, 1) := o_27 BL_hearse rfl rfl
theorem dL_hearse_4 : decode cL_hearse 4 = .ok (.iload_n 2, 1) := o_28 BL_hearse rfl rfl
theorem dL_hearse_5 : decode cL_hearse 5 = .ok (.invokevirtual 7, 3) := o_182 BL_hearse rfl rfl rfl
theorem dL_hearse_8 : decode cL_hearse 8 = .ok (.i2l, 1) := o_133 BL_hearse rfl rfl
theorem dL_hearse_9 : decode cL_hearse 9 = .ok (.lastore, 1) := o_80 BL_hearse rfl rfl
theorem dL_hearse_10 : decode cL_hearse 10 = .ok (.goto 7, 3) := o_167 BL_hearse rfl rfl rfl
theorem dL_hearse_13 : decode cL_hearse 13 = .ok (.astore 4, 2) := o_58 BL_hearse rfl rfl rfl
theorem dL_hearse_15 : decode cL_hearse 15 = .ok (.iconst 1, 1) := o_4 BL_hearse rfl rfl
theorem dL_hearse_16 : decode cL_hearse 16 = .ok (.ireturn, 1) := o_172 BL_hearse rfl rfl
theorem dL_hearse_17 : decode cL_hearse 17 = .ok (.iconst 0, 1) := o_3 BL_hearse rfl rfl
theorem dL_hearse_18 : decode cL_hearse 18 = .ok (.ireturn, 1) := o_172 BL_hearse rfl rfl
theorem dL_mourner_0 : decode cL_mourner 0 = .ok (.aload_n 3, 1) := o_45 BL_mourner rfl rfl
theorem dL_mourner_1 : decode cL_mourner 1 = .ok (.iconst 0, 1) := o_3 BL_mourner rfl rfl
theorem dL_mourner_2 : decode cL_mourner 2 = .ok (.aload_n 0, 1) := o_42 BL_mourner rfl rfl
theorem dL_mourner_3 : decode cL_mourner 3 = .ok (.iload_n 1, 1) := o_27 BL_mourner rfl rfl
theorem dL_mourner_4 : decode cL_mourner 4 = .ok (.iload_n 2, 1) := o_28 BL_mourner rfl rfl
theorem dL_mourner_5 : decode cL_mourner 5 = .ok (.invokevirtual 15, 3) := o_182 BL_mourner rfl rfl rfl
theorem dL_mourner_8 : decode cL_mourner 8 = .ok (.i2l, 1) := o_133 BL_mourner rfl rfl
theorem dL_mourner_9 : decode cL_mourner 9 = .ok (.lastore, 1) := o_80 BL_mourner rfl rfl
theorem dL_mourner_10 : decode cL_mourner 10 = .ok (.goto 7, 3) := o_167 BL_mourner rfl rfl rfl
theorem dL_mourner_13 : decode cL_mourner 13 = .ok (.astore 4, 2) := o_58 BL_mourner rfl rfl rfl
theorem dL_mourner_15 : decode cL_mourner 15 = .ok (.iconst 1, 1) := o_4 BL_mourner rfl rfl
theorem dL_mourner_16 : decode cL_mourner 16 = .ok (.ireturn, 1) := o_172 BL_mourner rfl rfl
theorem dL_mourner_17 : decode cL_mourner 17 = .ok (.iconst 0, 1) := o_3 BL_mourner rfl rfl
theorem dL_mourner_18 : decode cL_mourner 18 = .ok (.ireturn, 1) := o_172 BL_mourner rfl rfl
theorem dL_row_0 : decode cL_row 0 = .ok (.aload_n 2, 1) := o_44 BL_row rfl rfl
theorem dL_row_1 : decode cL_row 1 = .ok (.iconst 0, 1) := o_3 BL_row rfl rfl
theorem dL_row_2 : decode cL_row 2 = .ok (.aload_n 0, 1) := o_42 BL_row rfl rfl
theorem dL_row_3 : decode cL_row 3 = .ok (.iload_n 1, 1) := o_27 BL_row rfl rfl
theorem dL_row_4 : decode cL_row 4 = .ok (.invokevirtual 18, 3) := o_182 BL_row rfl rfl rfl
theorem dL_row_7 : decode cL_row 7 = .ok (.lastore, 1) := o_80 BL_row rfl rfl
theorem dL_row_8 : decode cL_row 8 = .ok (.goto 6, 3) := o_167 BL_row rfl rfl rfl
theorem dL_row_11 : decode cL_row 11 = .ok (.astore_n 3, 1) := o_78 BL_row rfl rfl
theorem dL_row_12 : decode cL_row 12 = .ok (.iconst 1, 1) := o_4 BL_row rfl rfl
theorem dL_row_13 : decode cL_row 13 = .ok (.ireturn, 1) := o_172 BL_row rfl rfl
theorem dL_row_14 : decode cL_row 14 = .ok (.iconst 0, 1) := o_3 BL_row rfl rfl
theorem dL_row_15 : decode cL_row 15 = .ok (.ireturn, 1) := o_172 BL_row rfl rfl
theorem dL_law_0 : decode cL_law 0 = .ok (.new 8, 3) := o_187 BL_law rfl rfl rfl
theorem dL_law_3 : decode cL_law 3 = .ok (.dup, 1) := o_89 BL_law rfl rfl
theorem dL_law_4 : decode cL_law 4 = .ok (.invokespecial 22, 3) := o_183 BL_law rfl rfl rfl
theorem dL_law_7 : decode cL_law 7 = .ok (.astore_n 1, 1) := o_76 BL_law rfl rfl
theorem dL_law_8 : decode cL_law 8 = .ok (.new 23, 3) := o_187 BL_law rfl rfl rfl
theorem dL_law_11 : decode cL_law 11 = .ok (.dup, 1) := o_89 BL_law rfl rfl
theorem dL_law_12 : decode cL_law 12 = .ok (.invokespecial 25, 3) := o_183 BL_law rfl rfl rfl
theorem dL_law_15 : decode cL_law 15 = .ok (.astore_n 2, 1) := o_77 BL_law rfl rfl
theorem dL_law_16 : decode cL_law 16 = .ok (.iconst 1, 1) := o_4 BL_law rfl rfl
theorem dL_law_17 : decode cL_law 17 = .ok (.newarray .long, 2) := o_188_11 BL_law rfl rfl rfl
theorem dL_law_19 : decode cL_law 19 = .ok (.astore_n 3, 1) := o_78 BL_law rfl rfl
theorem dL_law_20 : decode cL_law 20 = .ok (.iconst 0, 1) := o_3 BL_law rfl rfl
theorem dL_law_21 : decode cL_law 21 = .ok (.istore 4, 2) := o_54 BL_law rfl rfl rfl
theorem dL_law_23 : decode cL_law 23 = .ok (.iload 4, 2) := o_21 BL_law rfl rfl rfl
theorem dL_law_25 : decode cL_law 25 = .ok (.aload_n 0, 1) := o_42 BL_law rfl rfl
theorem dL_law_26 : decode cL_law 26 = .ok (.arraylength, 1) := o_190 BL_law rfl rfl
theorem dL_law_27 : decode cL_law 27 = .ok (.iconst 5, 1) := o_8 BL_law rfl rfl
theorem dL_law_28 : decode cL_law 28 = .ok (.isub, 1) := o_100 BL_law rfl rfl
theorem dL_law_29 : decode cL_law 29 = .ok (.if_icmp .gt 1225, 3) := o_163 BL_law rfl rfl rfl
theorem dL_law_32 : decode cL_law 32 = .ok (.aload_n 0, 1) := o_42 BL_law rfl rfl
theorem dL_law_33 : decode cL_law 33 = .ok (.iload 4, 2) := o_21 BL_law rfl rfl rfl
theorem dL_law_35 : decode cL_law 35 = .ok (.iaload, 1) := o_46 BL_law rfl rfl
theorem dL_law_36 : decode cL_law 36 = .ok (.bipush 63, 2) := o_16 BL_law rfl rfl rfl
theorem dL_law_38 : decode cL_law 38 = .ok (.iand, 1) := o_126 BL_law rfl rfl
theorem dL_law_39 : decode cL_law 39 = .ok (.tableswitch 1209 0 42 #[185, 210, 235, 248, 261, 274, 287, 300, 340, 380, 441, 466, 491, 528, 565, 578, 591, 604, 629, 654, 679, 716, 741, 754, 767, 792, 817, 842, 855, 868, 893, 906, 919, 956, 969, 982, 1031, 1044, 1069, 1106, 1131, 1156, 1181], 185) := by decide +kernel
theorem dL_law_224 : decode cL_law 224 = .ok (.aload_n 1, 1) := o_43 BL_law rfl rfl
theorem dL_law_225 : decode cL_law 225 = .ok (.aload_n 0, 1) := o_42 BL_law rfl rfl
theorem dL_law_226 : decode cL_law 226 = .ok (.iload 4, 2) := o_21 BL_law rfl rfl rfl
theorem dL_law_228 : decode cL_law 228 = .ok (.iconst 1, 1) := o_4 BL_law rfl rfl
theorem dL_law_229 : decode cL_law 229 = .ok (.iadd, 1) := o_96 BL_law rfl rfl
theorem dL_law_230 : decode cL_law 230 = .ok (.iaload, 1) := o_46 BL_law rfl rfl
theorem dL_law_231 : decode cL_law 231 = .ok (.invokevirtual 26, 3) := o_182 BL_law rfl rfl rfl
theorem dL_law_234 : decode cL_law 234 = .ok (.pop, 1) := o_87 BL_law rfl rfl
theorem dL_law_235 : decode cL_law 235 = .ok (.aload_n 2, 1) := o_44 BL_law rfl rfl
theorem dL_law_236 : decode cL_law 236 = .ok (.aload_n 0, 1) := o_42 BL_law rfl rfl
theorem dL_law_237 : decode cL_law 237 = .ok (.iload 4, 2) := o_21 BL_law rfl rfl rfl
theorem dL_law_239 : decode cL_law 239 = .ok (.iconst 1, 1) := o_4 BL_law rfl rfl
theorem dL_law_240 : decode cL_law 240 = .ok (.iadd, 1) := o_96 BL_law rfl rfl
theorem dL_law_241 : decode cL_law 241 = .ok (.iaload, 1) := o_46 BL_law rfl rfl
theorem dL_law_242 : decode cL_law 242 = .ok (.invokevirtual 30, 3) := o_182 BL_law rfl rfl rfl
theorem dL_law_245 : decode cL_law 245 = .ok (.pop, 1) := o_87 BL_law rfl rfl
theorem dL_law_246 : decode cL_law 246 = .ok (.goto 1002, 3) := o_167 BL_law rfl rfl rfl
theorem dL_law_249 : decode cL_law 249 = .ok (.aload_n 1, 1) := o_43 BL_law rfl rfl
theorem dL_law_250 : decode cL_law 250 = .ok (.aload_n 0, 1) := o_42 BL_law rfl rfl
theorem dL_law_251 : decode cL_law 251 = .ok (.iload 4, 2) := o_21 BL_law rfl rfl rfl
theorem dL_law_253 : decode cL_law 253 = .ok (.iconst 1, 1) := o_4 BL_law rfl rfl
theorem dL_law_254 : decode cL_law 254 = .ok (.iadd, 1) := o_96 BL_law rfl rfl
theorem dL_law_255 : decode cL_law 255 = .ok (.iaload, 1) := o_46 BL_law rfl rfl
theorem dL_law_256 : decode cL_law 256 = .ok (.invokevirtual 31, 3) := o_182 BL_law rfl rfl rfl
theorem dL_law_259 : decode cL_law 259 = .ok (.pop, 1) := o_87 BL_law rfl rfl
theorem dL_law_260 : decode cL_law 260 = .ok (.aload_n 2, 1) := o_44 BL_law rfl rfl
theorem dL_law_261 : decode cL_law 261 = .ok (.aload_n 0, 1) := o_42 BL_law rfl rfl
theorem dL_law_262 : decode cL_law 262 = .ok (.iload 4, 2) := o_21 BL_law rfl rfl rfl
theorem dL_law_264 : decode cL_law 264 = .ok (.iconst 1, 1) := o_4 BL_law rfl rfl
theorem dL_law_265 : decode cL_law 265 = .ok (.iadd, 1) := o_96 BL_law rfl rfl
theorem dL_law_266 : decode cL_law 266 = .ok (.iaload, 1) := o_46 BL_law rfl rfl
theorem dL_law_267 : decode cL_law 267 = .ok (.invokevirtual 35, 3) := o_182 BL_law rfl rfl rfl
theorem dL_law_270 : decode cL_law 270 = .ok (.pop, 1) := o_87 BL_law rfl rfl
theorem dL_law_271 : decode cL_law 271 = .ok (.goto 977, 3) := o_167 BL_law rfl rfl rfl
theorem dL_law_274 : decode cL_law 274 = .ok (.aload_n 1, 1) := o_43 BL_law rfl rfl
theorem dL_law_275 : decode cL_law 275 = .ok (.invokevirtual 36, 3) := o_182 BL_law rfl rfl rfl
theorem dL_law_278 : decode cL_law 278 = .ok (.pop, 1) := o_87 BL_law rfl rfl
theorem dL_law_279 : decode cL_law 279 = .ok (.aload_n 2, 1) := o_44 BL_law rfl rfl
theorem dL_law_280 : decode cL_law 280 = .ok (.invokevirtual 40, 3) := o_182 BL_law rfl rfl rfl
theorem dL_law_283 : decode cL_law 283 = .ok (.pop, 1) := o_87 BL_law rfl rfl
theorem dL_law_284 : decode cL_law 284 = .ok (.goto 964, 3) := o_167 BL_law rfl rfl rfl
theorem dL_law_287 : decode cL_law 287 = .ok (.aload_n 1, 1) := o_43 BL_law rfl rfl
theorem dL_law_288 : decode cL_law 288 = .ok (.invokevirtual 41, 3) := o_182 BL_law rfl rfl rfl
theorem dL_law_291 : decode cL_law 291 = .ok (.pop, 1) := o_87 BL_law rfl rfl
theorem dL_law_292 : decode cL_law 292 = .ok (.aload_n 2, 1) := o_44 BL_law rfl rfl
theorem dL_law_293 : decode cL_law 293 = .ok (.invokevirtual 44, 3) := o_182 BL_law rfl rfl rfl
theorem dL_law_296 : decode cL_law 296 = .ok (.pop, 1) := o_87 BL_law rfl rfl
theorem dL_law_297 : decode cL_law 297 = .ok (.goto 951, 3) := o_167 BL_law rfl rfl rfl
theorem dL_law_300 : decode cL_law 300 = .ok (.aload_n 1, 1) := o_43 BL_law rfl rfl
theorem dL_law_301 : decode cL_law 301 = .ok (.invokevirtual 45, 3) := o_182 BL_law rfl rfl rfl
theorem dL_law_304 : decode cL_law 304 = .ok (.pop, 1) := o_87 BL_law rfl rfl
theorem dL_law_305 : decode cL_law 305 = .ok (.aload_n 2, 1) := o_44 BL_law rfl rfl
theorem dL_law_306 : decode cL_law 306 = .ok (.invokevirtual 48, 3) := o_182 BL_law rfl rfl rfl
theorem dL_law_309 : decode cL_law 309 = .ok (.pop, 1) := o_87 BL_law rfl rfl
theorem dL_law_310 : decode cL_law 310 = .ok (.goto 938, 3) := o_167 BL_law rfl rfl rfl
theorem dL_law_313 : decode cL_law 313 = .ok (.aload_n 1, 1) := o_43 BL_law rfl rfl
theorem dL_law_314 : decode cL_law 314 = .ok (.invokevirtual 49, 3) := o_182 BL_law rfl rfl rfl
theorem dL_law_317 : decode cL_law 317 = .ok (.pop, 1) := o_87 BL_law rfl rfl
theorem dL_law_318 : decode cL_law 318 = .ok (.aload_n 2, 1) := o_44 BL_law rfl rfl
theorem dL_law_319 : decode cL_law 319 = .ok (.invokevirtual 52, 3) := o_182 BL_law rfl rfl rfl
theorem dL_law_322 : decode cL_law 322 = .ok (.pop, 1) := o_87 BL_law rfl rfl
theorem dL_law_323 : decode cL_law 323 = .ok (.goto 925, 3) := o_167 BL_law rfl rfl rfl
theorem dL_law_326 : decode cL_law 326 = .ok (.aload_n 1, 1) := o_43 BL_law rfl rfl
theorem dL_law_327 : decode cL_law 327 = .ok (.invokevirtual 53, 3) := o_182 BL_law rfl rfl rfl
theorem dL_law_330 : decode cL_law 330 = .ok (.pop, 1) := o_87 BL_law rfl rfl
theorem dL_law_331 : decode cL_law 331 = .ok (.aload_n 2, 1) := o_44 BL_law rfl rfl
theorem dL_law_332 : decode cL_law 332 = .ok (.invokevirtual 56, 3) := o_182 BL_law rfl rfl rfl
theorem dL_law_335 : decode cL_law 335 = .ok (.pop, 1) := o_87 BL_law rfl rfl
theorem dL_law_336 : decode cL_law 336 = .ok (.goto 912, 3) := o_167 BL_law rfl rfl rfl
theorem dL_law_339 : decode cL_law 339 = .ok (.aload_n 1, 1) := o_43 BL_law rfl rfl
theorem dL_law_340 : decode cL_law 340 = .ok (.aload_n 0, 1) := o_42 BL_law rfl rfl
theorem dL_law_341 : decode cL_law 341 = .ok (.iload 4, 2) := o_21 BL_law rfl rfl rfl
theorem dL_law_343 : decode cL_law 343 = .ok (.iconst 1, 1) := o_4 BL_law rfl rfl
theorem dL_law_344 : decode cL_law 344 = .ok (.iadd, 1) := o_96 BL_law rfl rfl
theorem dL_law_345 : decode cL_law 345 = .ok (.iaload, 1) := o_46 BL_law rfl rfl
theorem dL_law_346 : decode cL_law 346 = .ok (.aload_n 0, 1) := o_42 BL_law rfl rfl
theorem dL_law_347 : decode cL_law 347 = .ok (.iload 4, 2) := o_21 BL_law rfl rfl rfl
theorem dL_law_349 : decode cL_law 349 = .ok (.iconst 2, 1) := o_5 BL_law rfl rfl
theorem dL_law_350 : decode cL_law 350 = .ok (.iadd, 1) := o_96 BL_law rfl rfl
theorem dL_law_351 : decode cL_law 351 = .ok (.iaload, 1) := o_46 BL_law rfl rfl
theorem dL_law_352 : decode cL_law 352 = .ok (.aload_n 3, 1) := o_45 BL_law rfl rfl
theorem dL_law_353 : decode cL_law 353 = .ok (.invokestatic 57, 3) := o_184 BL_law rfl rfl rfl
theorem dL_law_356 : decode cL_law 356 = .ok (.istore 5, 2) := o_54 BL_law rfl rfl rfl
theorem dL_law_358 : decode cL_law 358 = .ok (.aload_n 2, 1) := o_44 BL_law rfl rfl
theorem dL_law_359 : decode cL_law 359 = .ok (.aload_n 0, 1) := o_42 BL_law rfl rfl
theorem dL_law_360 : decode cL_law 360 = .ok (.iload 4, 2) := o_21 BL_law rfl rfl rfl
theorem dL_law_362 : decode cL_law 362 = .ok (.iconst 1, 1) := o_4 BL_law rfl rfl
theorem dL_law_363 : decode cL_law 363 = .ok (.iadd, 1) := o_96 BL_law rfl rfl
theorem dL_law_364 : decode cL_law 364 = .ok (.iaload, 1) := o_46 BL_law rfl rfl
theorem dL_law_365 : decode cL_law 365 = .ok (.aload_n 0, 1) := o_42 BL_law rfl rfl
theorem dL_law_366 : decode cL_law 366 = .ok (.iload 4, 2) := o_21 BL_law rfl rfl rfl
theorem dL_law_368 : decode cL_law 368 = .ok (.iconst 2, 1) := o_5 BL_law rfl rfl
theorem dL_law_369 : decode cL_law 369 = .ok (.iadd, 1) := o_96 BL_law rfl rfl
theorem dL_law_370 : decode cL_law 370 = .ok (.iaload, 1) := o_46 BL_law rfl rfl
theorem dL_law_371 : decode cL_law 371 = .ok (.invokevirtual 62, 3) := o_182 BL_law rfl rfl rfl
theorem dL_law_374 : decode cL_law 374 = .ok (.istore 6, 2) := o_54 BL_law rfl rfl rfl
theorem dL_law_376 : decode cL_law 376 = .ok (.goto 872, 3) := o_167 BL_law rfl rfl rfl
theorem dL_law_379 : decode cL_law 379 = .ok (.aload_n 1, 1) := o_43 BL_law rfl rfl
theorem dL_law_380 : decode cL_law 380 = .ok (.aload_n 0, 1) := o_42 BL_law rfl rfl
theorem dL_law_381 : decode cL_law 381 = .ok (.iload 4, 2) := o_21 BL_law rfl rfl rfl
theorem dL_law_383 : decode cL_law 383 = .ok (.iconst 1, 1) := o_4 BL_law rfl rfl
theorem dL_law_384 : decode cL_law 384 = .ok (.iadd, 1) := o_96 BL_law rfl rfl
theorem dL_law_385 : decode cL_law 385 = .ok (.iaload, 1) := o_46 BL_law rfl rfl
theorem dL_law_386 : decode cL_law 386 = .ok (.aload_n 0, 1) := o_42 BL_law rfl rfl
theorem dL_law_387 : decode cL_law 387 = .ok (.iload 4, 2) := o_21 BL_law rfl rfl rfl
theorem dL_law_389 : decode cL_law 389 = .ok (.iconst 2, 1) := o_5 BL_law rfl rfl
theorem dL_law_390 : decode cL_law 390 = .ok (.iadd, 1) := o_96 BL_law rfl rfl
theorem dL_law_391 : decode cL_law 391 = .ok (.iaload, 1) := o_46 BL_law rfl rfl
theorem dL_law_392 : decode cL_law 392 = .ok (.aload_n 3, 1) := o_45 BL_law rfl rfl
theorem dL_law_393 : decode cL_law 393 = .ok (.invokestatic 63, 3) := o_184 BL_law rfl rfl rfl
theorem dL_law_396 : decode cL_law 396 = .ok (.istore 5, 2) := o_54 BL_law rfl rfl rfl
theorem dL_law_398 : decode cL_law 398 = .ok (.aload_n 2, 1) := o_44 BL_law rfl rfl
theorem dL_law_399 : decode cL_law 399 = .ok (.aload_n 0, 1) := o_42 BL_law rfl rfl
theorem dL_law_400 : decode cL_law 400 = .ok (.iload 4, 2) := o_21 BL_law rfl rfl rfl
theorem dL_law_402 : decode cL_law 402 = .ok (.iconst 1, 1) := o_4 BL_law rfl rfl
theorem dL_law_403 : decode cL_law 403 = .ok (.iadd, 1) := o_96 BL_law rfl rfl
theorem dL_law_404 : decode cL_law 404 = .ok (.iaload, 1) := o_46 BL_law rfl rfl
theorem dL_law_405 : decode cL_law 405 = .ok (.aload_n 0, 1) := o_42 BL_law rfl rfl
theorem dL_law_406 : decode cL_law 406 = .ok (.iload 4, 2) := o_21 BL_law rfl rfl rfl
theorem dL_law_408 : decode cL_law 408 = .ok (.iconst 2, 1) := o_5 BL_law rfl rfl
theorem dL_law_409 : decode cL_law 409 = .ok (.iadd, 1) := o_96 BL_law rfl rfl
theorem dL_law_410 : decode cL_law 410 = .ok (.iaload, 1) := o_46 BL_law rfl rfl
theorem dL_law_411 : decode cL_law 411 = .ok (.invokevirtual 65, 3) := o_182 BL_law rfl rfl rfl
theorem dL_law_414 : decode cL_law 414 = .ok (.istore 6, 2) := o_54 BL_law rfl rfl rfl
theorem dL_law_416 : decode cL_law 416 = .ok (.goto 832, 3) := o_167 BL_law rfl rfl rfl
theorem dL_law_419 : decode cL_law 419 = .ok (.aload_n 1, 1) := o_43 BL_law rfl rfl
theorem dL_law_420 : decode cL_law 420 = .ok (.aload_n 0, 1) := o_42 BL_law rfl rfl
theorem dL_law_421 : decode cL_law 421 = .ok (.iload 4, 2) := o_21 BL_law rfl rfl rfl
theorem dL_law_423 : decode cL_law 423 = .ok (.iconst 1, 1) := o_4 BL_law rfl rfl
theorem dL_law_424 : decode cL_law 424 = .ok (.iadd, 1) := o_96 BL_law rfl rfl
theorem dL_law_425 : decode cL_law 425 = .ok (.iaload, 1) := o_46 BL_law rfl rfl
theorem dL_law_426 : decode cL_law 426 = .ok (.aload_n 0, 1) := o_42 BL_law rfl rfl
theorem dL_law_427 : decode cL_law 427 = .ok (.iload 4, 2) := o_21 BL_law rfl rfl rfl
theorem dL_law_429 : decode cL_law 429 = .ok (.iconst 2, 1) := o_5 BL_law rfl rfl
theorem dL_law_430 : decode cL_law 430 = .ok (.iadd, 1) := o_96 BL_law rfl rfl
theorem dL_law_431 : decode cL_law 431 = .ok (.iaload, 1) := o_46 BL_law rfl rfl
theorem dL_law_432 : decode cL_law 432 = .ok (.aload_n 0, 1) := o_42 BL_law rfl rfl
theorem dL_law_433 : decode cL_law 433 = .ok (.iload 4, 2) := o_21 BL_law rfl rfl rfl
theorem dL_law_435 : decode cL_law 435 = .ok (.iconst 3, 1) := o_6 BL_law rfl rfl
theorem dL_law_436 : decode cL_law 436 = .ok (.iadd, 1) := o_96 BL_law rfl rfl
theorem dL_law_437 : decode cL_law 437 = .ok (.iaload, 1) := o_46 BL_law rfl rfl
theorem dL_law_438 : decode cL_law 438 = .ok (.aload_n 0, 1) := o_42 BL_law rfl rfl
theorem dL_law_439 : decode cL_law 439 = .ok (.iload 4, 2) := o_21 BL_law rfl rfl rfl
theorem dL_law_441 : decode cL_law 441 = .ok (.iconst 4, 1) := o_7 BL_law rfl rfl
theorem dL_law_442 : decode cL_law 442 = .ok (.iadd, 1) := o_96 BL_law rfl rfl
theorem dL_law_443 : decode cL_law 443 = .ok (.iaload, 1) := o_46 BL_law rfl rfl
theorem dL_law_444 : decode cL_law 444 = .ok (.invokevirtual 66, 3) := o_182 BL_law rfl rfl rfl
theorem dL_law_447 : decode cL_law 447 = .ok (.pop, 1) := o_87 BL_law rfl rfl
theorem dL_law_448 : decode cL_law 448 = .ok (.aload_n 2, 1) := o_44 BL_law rfl rfl
theorem dL_law_449 : decode cL_law 449 = .ok (.aload_n 0, 1) := o_42 BL_law rfl rfl
theorem dL_law_450 : decode cL_law 450 = .ok (.iload 4, 2) := o_21 BL_law rfl rfl rfl
theorem dL_law_452 : decode cL_law 452 = .ok (.iconst 1, 1) := o_4 BL_law rfl rfl
theorem dL_law_453 : decode cL_law 453 = .ok (.iadd, 1) := o_96 BL_law rfl rfl
theorem dL_law_454 : decode cL_law 454 = .ok (.iaload, 1) := o_46 BL_law rfl rfl
theorem dL_law_455 : decode cL_law 455 = .ok (.aload_n 0, 1) := o_42 BL_law rfl rfl
theorem dL_law_456 : decode cL_law 456 = .ok (.iload 4, 2) := o_21 BL_law rfl rfl rfl
theorem dL_law_458 : decode cL_law 458 = .ok (.iconst 2, 1) := o_5 BL_law rfl rfl
theorem dL_law_459 : decode cL_law 459 = .ok (.iadd, 1) := o_96 BL_law rfl rfl
theorem dL_law_460 : decode cL_law 460 = .ok (.iaload, 1) := o_46 BL_law rfl rfl
theorem dL_law_461 : decode cL_law 461 = .ok (.aload_n 0, 1) := o_42 BL_law rfl rfl
theorem dL_law_462 : decode cL_law 462 = .ok (.iload 4, 2) := o_21 BL_law rfl rfl rfl
theorem dL_law_464 : decode cL_law 464 = .ok (.iconst 3, 1) := o_6 BL_law rfl rfl
theorem dL_law_465 : decode cL_law 465 = .ok (.iadd, 1) := o_96 BL_law rfl rfl
theorem dL_law_466 : decode cL_law 466 = .ok (.iaload, 1) := o_46 BL_law rfl rfl
theorem dL_law_467 : decode cL_law 467 = .ok (.aload_n 0, 1) := o_42 BL_law rfl rfl
theorem dL_law_468 : decode cL_law 468 = .ok (.iload 4, 2) := o_21 BL_law rfl rfl rfl
theorem dL_law_470 : decode cL_law 470 = .ok (.iconst 4, 1) := o_7 BL_law rfl rfl
theorem dL_law_471 : decode cL_law 471 = .ok (.iadd, 1) := o_96 BL_law rfl rfl
theorem dL_law_472 : decode cL_law 472 = .ok (.iaload, 1) := o_46 BL_law rfl rfl
theorem dL_law_473 : decode cL_law 473 = .ok (.invokevirtual 70, 3) := o_182 BL_law rfl rfl rfl
theorem dL_law_476 : decode cL_law 476 = .ok (.pop, 1) := o_87 BL_law rfl rfl
theorem dL_law_477 : decode cL_law 477 = .ok (.goto 771, 3) := o_167 BL_law rfl rfl rfl
theorem dL_law_480 : decode cL_law 480 = .ok (.aload_n 1, 1) := o_43 BL_law rfl rfl
theorem dL_law_481 : decode cL_law 481 = .ok (.aload_n 0, 1) := o_42 BL_law rfl rfl
theorem dL_law_482 : decode cL_law 482 = .ok (.iload 4, 2) := o_21 BL_law rfl rfl rfl
theorem dL_law_484 : decode cL_law 484 = .ok (.iconst 1, 1) := o_4 BL_law rfl rfl
theorem dL_law_485 : decode cL_law 485 = .ok (.iadd, 1) := o_96 BL_law rfl rfl
theorem dL_law_486 : decode cL_law 486 = .ok (.iaload, 1) := o_46 BL_law rfl rfl
theorem dL_law_487 : decode cL_law 487 = .ok (.invokevirtual 71, 3) := o_182 BL_law rfl rfl rfl
theorem dL_law_490 : decode cL_law 490 = .ok (.pop, 1) := o_87 BL_law rfl rfl
theorem dL_law_491 : decode cL_law 491 = .ok (.aload_n 2, 1) := o_44 BL_law rfl rfl
theorem dL_law_492 : decode cL_law 492 = .ok (.aload_n 0, 1) := o_42 BL_law rfl rfl
theorem dL_law_493 : decode cL_law 493 = .ok (.iload 4, 2) := o_21 BL_law rfl rfl rfl
theorem dL_law_495 : decode cL_law 495 = .ok (.iconst 1, 1) := o_4 BL_law rfl rfl
theorem dL_law_496 : decode cL_law 496 = .ok (.iadd, 1) := o_96 BL_law rfl rfl
theorem dL_law_497 : decode cL_law 497 = .ok (.iaload, 1) := o_46 BL_law rfl rfl
theorem dL_law_498 : decode cL_law 498 = .ok (.invokevirtual 74, 3) := o_182 BL_law rfl rfl rfl
theorem dL_law_501 : decode cL_law 501 = .ok (.pop, 1) := o_87 BL_law rfl rfl
theorem dL_law_502 : decode cL_law 502 = .ok (.goto 746, 3) := o_167 BL_law rfl rfl rfl
theorem dL_law_505 : decode cL_law 505 = .ok (.aload_n 1, 1) := o_43 BL_law rfl rfl
theorem dL_law_506 : decode cL_law 506 = .ok (.aload_n 0, 1) := o_42 BL_law rfl rfl
theorem dL_law_507 : decode cL_law 507 = .ok (.iload 4, 2) := o_21 BL_law rfl rfl rfl
theorem dL_law_509 : decode cL_law 509 = .ok (.iconst 1, 1) := o_4 BL_law rfl rfl
theorem dL_law_510 : decode cL_law 510 = .ok (.iadd, 1) := o_96 BL_law rfl rfl
theorem dL_law_511 : decode cL_law 511 = .ok (.iaload, 1) := o_46 BL_law rfl rfl
theorem dL_law_512 : decode cL_law 512 = .ok (.invokevirtual 75, 3) := o_182 BL_law rfl rfl rfl
theorem dL_law_515 : decode cL_law 515 = .ok (.pop, 1) := o_87 BL_law rfl rfl
theorem dL_law_516 : decode cL_law 516 = .ok (.aload_n 2, 1) := o_44 BL_law rfl rfl
theorem dL_law_517 : decode cL_law 517 = .ok (.aload_n 0, 1) := o_42 BL_law rfl rfl
theorem dL_law_518 : decode cL_law 518 = .ok (.iload 4, 2) := o_21 BL_law rfl rfl rfl
theorem dL_law_520 : decode cL_law 520 = .ok (.iconst 1, 1) := o_4 BL_law rfl rfl
theorem dL_law_521 : decode cL_law 521 = .ok (.iadd, 1) := o_96 BL_law rfl rfl
theorem dL_law_522 : decode cL_law 522 = .ok (.iaload, 1) := o_46 BL_law rfl rfl
theorem dL_law_523 : decode cL_law 523 = .ok (.invokevirtual 78, 3) := o_182 BL_law rfl rfl rfl
theorem dL_law_526 : decode cL_law 526 = .ok (.pop, 1) := o_87 BL_law rfl rfl
theorem dL_law_527 : decode cL_law 527 = .ok (.goto 721, 3) := o_167 BL_law rfl rfl rfl
theorem dL_law_530 : decode cL_law 530 = .ok (.aload_n 1, 1) := o_43 BL_law rfl rfl
theorem dL_law_531 : decode cL_law 531 = .ok (.aload_n 0, 1) := o_42 BL_law rfl rfl
theorem dL_law_532 : decode cL_law 532 = .ok (.iload 4, 2) := o_21 BL_law rfl rfl rfl
theorem dL_law_534 : decode cL_law 534 = .ok (.iconst 1, 1) := o_4 BL_law rfl rfl
theorem dL_law_535 : decode cL_law 535 = .ok (.iadd, 1) := o_96 BL_law rfl rfl
theorem dL_law_536 : decode cL_law 536 = .ok (.iaload, 1) := o_46 BL_law rfl rfl
theorem dL_law_537 : decode cL_law 537 = .ok (.aload_n 0, 1) := o_42 BL_law rfl rfl
theorem dL_law_538 : decode cL_law 538 = .ok (.iload 4, 2) := o_21 BL_law rfl rfl rfl
theorem dL_law_540 : decode cL_law 540 = .ok (.iconst 2, 1) := o_5 BL_law rfl rfl
theorem dL_law_541 : decode cL_law 541 = .ok (.iadd, 1) := o_96 BL_law rfl rfl
theorem dL_law_542 : decode cL_law 542 = .ok (.iaload, 1) := o_46 BL_law rfl rfl
theorem dL_law_543 : decode cL_law 543 = .ok (.invokevirtual 79, 3) := o_182 BL_law rfl rfl rfl
theorem dL_law_546 : decode cL_law 546 = .ok (.pop, 1) := o_87 BL_law rfl rfl
theorem dL_law_547 : decode cL_law 547 = .ok (.aload_n 2, 1) := o_44 BL_law rfl rfl
theorem dL_law_548 : decode cL_law 548 = .ok (.aload_n 0, 1) := o_42 BL_law rfl rfl
theorem dL_law_549 : decode cL_law 549 = .ok (.iload 4, 2) := o_21 BL_law rfl rfl rfl
theorem dL_law_551 : decode cL_law 551 = .ok (.iconst 1, 1) := o_4 BL_law rfl rfl
theorem dL_law_552 : decode cL_law 552 = .ok (.iadd, 1) := o_96 BL_law rfl rfl
theorem dL_law_553 : decode cL_law 553 = .ok (.iaload, 1) := o_46 BL_law rfl rfl
theorem dL_law_554 : decode cL_law 554 = .ok (.aload_n 0, 1) := o_42 BL_law rfl rfl
theorem dL_law_555 : decode cL_law 555 = .ok (.iload 4, 2) := o_21 BL_law rfl rfl rfl
theorem dL_law_557 : decode cL_law 557 = .ok (.iconst 2, 1) := o_5 BL_law rfl rfl
theorem dL_law_558 : decode cL_law 558 = .ok (.iadd, 1) := o_96 BL_law rfl rfl
theorem dL_law_559 : decode cL_law 559 = .ok (.iaload, 1) := o_46 BL_law rfl rfl
theorem dL_law_560 : decode cL_law 560 = .ok (.invokevirtual 82, 3) := o_182 BL_law rfl rfl rfl
theorem dL_law_563 : decode cL_law 563 = .ok (.pop, 1) := o_87 BL_law rfl rfl
theorem dL_law_564 : decode cL_law 564 = .ok (.goto 684, 3) := o_167 BL_law rfl rfl rfl
theorem dL_law_567 : decode cL_law 567 = .ok (.aload_n 1, 1) := o_43 BL_law rfl rfl
theorem dL_law_568 : decode cL_law 568 = .ok (.aload_n 0, 1) := o_42 BL_law rfl rfl
theorem dL_law_569 : decode cL_law 569 = .ok (.iload 4, 2) := o_21 BL_law rfl rfl rfl
theorem dL_law_571 : decode cL_law 571 = .ok (.iconst 1, 1) := o_4 BL_law rfl rfl
theorem dL_law_572 : decode cL_law 572 = .ok (.iadd, 1) := o_96 BL_law rfl rfl
theorem dL_law_573 : decode cL_law 573 = .ok (.iaload, 1) := o_46 BL_law rfl rfl
theorem dL_law_574 : decode cL_law 574 = .ok (.aload_n 0, 1) := o_42 BL_law rfl rfl
theorem dL_law_575 : decode cL_law 575 = .ok (.iload 4, 2) := o_21 BL_law rfl rfl rfl
theorem dL_law_577 : decode cL_law 577 = .ok (.iconst 2, 1) := o_5 BL_law rfl rfl
theorem dL_law_578 : decode cL_law 578 = .ok (.iadd, 1) := o_96 BL_law rfl rfl
theorem dL_law_579 : decode cL_law 579 = .ok (.iaload, 1) := o_46 BL_law rfl rfl
theorem dL_law_580 : decode cL_law 580 = .ok (.invokevirtual 83, 3) := o_182 BL_law rfl rfl rfl
theorem dL_law_583 : decode cL_law 583 = .ok (.pop, 1) := o_87 BL_law rfl rfl
theorem dL_law_584 : decode cL_law 584 = .ok (.aload_n 2, 1) := o_44 BL_law rfl rfl
theorem dL_law_585 : decode cL_law 585 = .ok (.aload_n 0, 1) := o_42 BL_law rfl rfl
theorem dL_law_586 : decode cL_law 586 = .ok (.iload 4, 2) := o_21 BL_law rfl rfl rfl
theorem dL_law_588 : decode cL_law 588 = .ok (.iconst 1, 1) := o_4 BL_law rfl rfl
theorem dL_law_589 : decode cL_law 589 = .ok (.iadd, 1) := o_96 BL_law rfl rfl
theorem dL_law_590 : decode cL_law 590 = .ok (.iaload, 1) := o_46 BL_law rfl rfl
theorem dL_law_591 : decode cL_law 591 = .ok (.aload_n 0, 1) := o_42 BL_law rfl rfl
theorem dL_law_592 : decode cL_law 592 = .ok (.iload 4, 2) := o_21 BL_law rfl rfl rfl
theorem dL_law_594 : decode cL_law 594 = .ok (.iconst 2, 1) := o_5 BL_law rfl rfl
theorem dL_law_595 : decode cL_law 595 = .ok (.iadd, 1) := o_96 BL_law rfl rfl
theorem dL_law_596 : decode cL_law 596 = .ok (.iaload, 1) := o_46 BL_law rfl rfl
theorem dL_law_597 : decode cL_law 597 = .ok (.invokevirtual 86, 3) := o_182 BL_law rfl rfl rfl
theorem dL_law_600 : decode cL_law 600 = .ok (.pop, 1) := o_87 BL_law rfl rfl
theorem dL_law_601 : decode cL_law 601 = .ok (.goto 647, 3) := o_167 BL_law rfl rfl rfl
theorem dL_law_604 : decode cL_law 604 = .ok (.aload_n 1, 1) := o_43 BL_law rfl rfl
theorem dL_law_605 : decode cL_law 605 = .ok (.invokevirtual 87, 3) := o_182 BL_law rfl rfl rfl
theorem dL_law_608 : decode cL_law 608 = .ok (.pop, 1) := o_87 BL_law rfl rfl
theorem dL_law_609 : decode cL_law 609 = .ok (.aload_n 2, 1) := o_44 BL_law rfl rfl
theorem dL_law_610 : decode cL_law 610 = .ok (.invokevirtual 90, 3) := o_182 BL_law rfl rfl rfl
theorem dL_law_613 : decode cL_law 613 = .ok (.pop, 1) := o_87 BL_law rfl rfl
theorem dL_law_614 : decode cL_law 614 = .ok (.goto 634, 3) := o_167 BL_law rfl rfl rfl
theorem dL_law_617 : decode cL_law 617 = .ok (.aload_n 1, 1) := o_43 BL_law rfl rfl
theorem dL_law_618 : decode cL_law 618 = .ok (.invokevirtual 91, 3) := o_182 BL_law rfl rfl rfl
theorem dL_law_621 : decode cL_law 621 = .ok (.pop, 1) := o_87 BL_law rfl rfl
theorem dL_law_622 : decode cL_law 622 = .ok (.aload_n 2, 1) := o_44 BL_law rfl rfl
theorem dL_law_623 : decode cL_law 623 = .ok (.invokevirtual 94, 3) := o_182 BL_law rfl rfl rfl
theorem dL_law_626 : decode cL_law 626 = .ok (.pop, 1) := o_87 BL_law rfl rfl
theorem dL_law_627 : decode cL_law 627 = .ok (.goto 621, 3) := o_167 BL_law rfl rfl rfl
theorem dL_law_630 : decode cL_law 630 = .ok (.aload_n 1, 1) := o_43 BL_law rfl rfl
theorem dL_law_631 : decode cL_law 631 = .ok (.invokevirtual 95, 3) := o_182 BL_law rfl rfl rfl
theorem dL_law_634 : decode cL_law 634 = .ok (.pop, 1) := o_87 BL_law rfl rfl
theorem dL_law_635 : decode cL_law 635 = .ok (.aload_n 2, 1) := o_44 BL_law rfl rfl
theorem dL_law_636 : decode cL_law 636 = .ok (.invokevirtual 98, 3) := o_182 BL_law rfl rfl rfl
theorem dL_law_639 : decode cL_law 639 = .ok (.pop, 1) := o_87 BL_law rfl rfl
theorem dL_law_640 : decode cL_law 640 = .ok (.goto 608, 3) := o_167 BL_law rfl rfl rfl
theorem dL_law_643 : decode cL_law 643 = .ok (.aload_n 1, 1) := o_43 BL_law rfl rfl
theorem dL_law_644 : decode cL_law 644 = .ok (.aload_n 0, 1) := o_42 BL_law rfl rfl
theorem dL_law_645 : decode cL_law 645 = .ok (.iload 4, 2) := o_21 BL_law rfl rfl rfl
theorem dL_law_647 : decode cL_law 647 = .ok (.iconst 1, 1) := o_4 BL_law rfl rfl
theorem dL_law_648 : decode cL_law 648 = .ok (.iadd, 1) := o_96 BL_law rfl rfl
theorem dL_law_649 : decode cL_law 649 = .ok (.iaload, 1) := o_46 BL_law rfl rfl
theorem dL_law_650 : decode cL_law 650 = .ok (.invokevirtual 99, 3) := o_182 BL_law rfl rfl rfl
theorem dL_law_653 : decode cL_law 653 = .ok (.pop, 1) := o_87 BL_law rfl rfl
theorem dL_law_654 : decode cL_law 654 = .ok (.aload_n 2, 1) := o_44 BL_law rfl rfl
theorem dL_law_655 : decode cL_law 655 = .ok (.aload_n 0, 1) := o_42 BL_law rfl rfl
theorem dL_law_656 : decode cL_law 656 = .ok (.iload 4, 2) := o_21 BL_law rfl rfl rfl
theorem dL_law_658 : decode cL_law 658 = .ok (.iconst 1, 1) := o_4 BL_law rfl rfl
theorem dL_law_659 : decode cL_law 659 = .ok (.iadd, 1) := o_96 BL_law rfl rfl
theorem dL_law_660 : decode cL_law 660 = .ok (.iaload, 1) := o_46 BL_law rfl rfl
theorem dL_law_661 : decode cL_law 661 = .ok (.invokevirtual 102, 3) := o_182 BL_law rfl rfl rfl
theorem dL_law_664 : decode cL_law 664 = .ok (.pop, 1) := o_87 BL_law rfl rfl
theorem dL_law_665 : decode cL_law 665 = .ok (.goto 583, 3) := o_167 BL_law rfl rfl rfl
theorem dL_law_668 : decode cL_law 668 = .ok (.aload_n 1, 1) := o_43 BL_law rfl rfl
theorem dL_law_669 : decode cL_law 669 = .ok (.aload_n 0, 1) := o_42 BL_law rfl rfl
theorem dL_law_670 : decode cL_law 670 = .ok (.iload 4, 2) := o_21 BL_law rfl rfl rfl
theorem dL_law_672 : decode cL_law 672 = .ok (.iconst 1, 1) := o_4 BL_law rfl rfl
theorem dL_law_673 : decode cL_law 673 = .ok (.iadd, 1) := o_96 BL_law rfl rfl
theorem dL_law_674 : decode cL_law 674 = .ok (.iaload, 1) := o_46 BL_law rfl rfl
theorem dL_law_675 : decode cL_law 675 = .ok (.invokevirtual 103, 3) := o_182 BL_law rfl rfl rfl
theorem dL_law_678 : decode cL_law 678 = .ok (.pop, 1) := o_87 BL_law rfl rfl
theorem dL_law_679 : decode cL_law 679 = .ok (.aload_n 2, 1) := o_44 BL_law rfl rfl
theorem dL_law_680 : decode cL_law 680 = .ok (.aload_n 0, 1) := o_42 BL_law rfl rfl
theorem dL_law_681 : decode cL_law 681 = .ok (.iload 4, 2) := o_21 BL_law rfl rfl rfl
theorem dL_law_683 : decode cL_law 683 = .ok (.iconst 1, 1) := o_4 BL_law rfl rfl
theorem dL_law_684 : decode cL_law 684 = .ok (.iadd, 1) := o_96 BL_law rfl rfl
theorem dL_law_685 : decode cL_law 685 = .ok (.iaload, 1) := o_46 BL_law rfl rfl
theorem dL_law_686 : decode cL_law 686 = .ok (.invokevirtual 106, 3) := o_182 BL_law rfl rfl rfl
theorem dL_law_689 : decode cL_law 689 = .ok (.pop, 1) := o_87 BL_law rfl rfl
theorem dL_law_690 : decode cL_law 690 = .ok (.goto 558, 3) := o_167 BL_law rfl rfl rfl
theorem dL_law_693 : decode cL_law 693 = .ok (.aload_n 1, 1) := o_43 BL_law rfl rfl
theorem dL_law_694 : decode cL_law 694 = .ok (.aload_n 0, 1) := o_42 BL_law rfl rfl
theorem dL_law_695 : decode cL_law 695 = .ok (.iload 4, 2) := o_21 BL_law rfl rfl rfl
theorem dL_law_697 : decode cL_law 697 = .ok (.iconst 1, 1) := o_4 BL_law rfl rfl
theorem dL_law_698 : decode cL_law 698 = .ok (.iadd, 1) := o_96 BL_law rfl rfl
theorem dL_law_699 : decode cL_law 699 = .ok (.iaload, 1) := o_46 BL_law rfl rfl
theorem dL_law_700 : decode cL_law 700 = .ok (.invokevirtual 107, 3) := o_182 BL_law rfl rfl rfl
theorem dL_law_703 : decode cL_law 703 = .ok (.pop, 1) := o_87 BL_law rfl rfl
theorem dL_law_704 : decode cL_law 704 = .ok (.aload_n 2, 1) := o_44 BL_law rfl rfl
theorem dL_law_705 : decode cL_law 705 = .ok (.aload_n 0, 1) := o_42 BL_law rfl rfl
theorem dL_law_706 : decode cL_law 706 = .ok (.iload 4, 2) := o_21 BL_law rfl rfl rfl
theorem dL_law_708 : decode cL_law 708 = .ok (.iconst 1, 1) := o_4 BL_law rfl rfl
theorem dL_law_709 : decode cL_law 709 = .ok (.iadd, 1) := o_96 BL_law rfl rfl
theorem dL_law_710 : decode cL_law 710 = .ok (.iaload, 1) := o_46 BL_law rfl rfl
theorem dL_law_711 : decode cL_law 711 = .ok (.invokevirtual 110, 3) := o_182 BL_law rfl rfl rfl
theorem dL_law_714 : decode cL_law 714 = .ok (.pop, 1) := o_87 BL_law rfl rfl
theorem dL_law_715 : decode cL_law 715 = .ok (.goto 533, 3) := o_167 BL_law rfl rfl rfl
theorem dL_law_718 : decode cL_law 718 = .ok (.aload_n 1, 1) := o_43 BL_law rfl rfl
theorem dL_law_719 : decode cL_law 719 = .ok (.aload_n 0, 1) := o_42 BL_law rfl rfl
theorem dL_law_720 : decode cL_law 720 = .ok (.iload 4, 2) := o_21 BL_law rfl rfl rfl
theorem dL_law_722 : decode cL_law 722 = .ok (.iconst 1, 1) := o_4 BL_law rfl rfl
theorem dL_law_723 : decode cL_law 723 = .ok (.iadd, 1) := o_96 BL_law rfl rfl
theorem dL_law_724 : decode cL_law 724 = .ok (.iaload, 1) := o_46 BL_law rfl rfl
theorem dL_law_725 : decode cL_law 725 = .ok (.aload_n 0, 1) := o_42 BL_law rfl rfl
theorem dL_law_726 : decode cL_law 726 = .ok (.iload 4, 2) := o_21 BL_law rfl rfl rfl
theorem dL_law_728 : decode cL_law 728 = .ok (.iconst 2, 1) := o_5 BL_law rfl rfl
theorem dL_law_729 : decode cL_law 729 = .ok (.iadd, 1) := o_96 BL_law rfl rfl
theorem dL_law_730 : decode cL_law 730 = .ok (.iaload, 1) := o_46 BL_law rfl rfl
theorem dL_law_731 : decode cL_law 731 = .ok (.invokevirtual 111, 3) := o_182 BL_law rfl rfl rfl
theorem dL_law_734 : decode cL_law 734 = .ok (.pop, 1) := o_87 BL_law rfl rfl
theorem dL_law_735 : decode cL_law 735 = .ok (.aload_n 2, 1) := o_44 BL_law rfl rfl
theorem dL_law_736 : decode cL_law 736 = .ok (.aload_n 0, 1) := o_42 BL_law rfl rfl
theorem dL_law_737 : decode cL_law 737 = .ok (.iload 4, 2) := o_21 BL_law rfl rfl rfl
theorem dL_law_739 : decode cL_law 739 = .ok (.iconst 1, 1) := o_4 BL_law rfl rfl
theorem dL_law_740 : decode cL_law 740 = .ok (.iadd, 1) := o_96 BL_law rfl rfl
theorem dL_law_741 : decode cL_law 741 = .ok (.iaload, 1) := o_46 BL_law rfl rfl
theorem dL_law_742 : decode cL_law 742 = .ok (.aload_n 0, 1) := o_42 BL_law rfl rfl
theorem dL_law_743 : decode cL_law 743 = .ok (.iload 4, 2) := o_21 BL_law rfl rfl rfl
theorem dL_law_745 : decode cL_law 745 = .ok (.iconst 2, 1) := o_5 BL_law rfl rfl
theorem dL_law_746 : decode cL_law 746 = .ok (.iadd, 1) := o_96 BL_law rfl rfl
theorem dL_law_747 : decode cL_law 747 = .ok (.iaload, 1) := o_46 BL_law rfl rfl
theorem dL_law_748 : decode cL_law 748 = .ok (.invokevirtual 114, 3) := o_182 BL_law rfl rfl rfl
theorem dL_law_751 : decode cL_law 751 = .ok (.pop, 1) := o_87 BL_law rfl rfl
theorem dL_law_752 : decode cL_law 752 = .ok (.goto 496, 3) := o_167 BL_law rfl rfl rfl
theorem dL_law_755 : decode cL_law 755 = .ok (.aload_n 1, 1) := o_43 BL_law rfl rfl
theorem dL_law_756 : decode cL_law 756 = .ok (.aload_n 0, 1) := o_42 BL_law rfl rfl
theorem dL_law_757 : decode cL_law 757 = .ok (.iload 4, 2) := o_21 BL_law rfl rfl rfl
theorem dL_law_759 : decode cL_law 759 = .ok (.iconst 1, 1) := o_4 BL_law rfl rfl
theorem dL_law_760 : decode cL_law 760 = .ok (.iadd, 1) := o_96 BL_law rfl rfl
theorem dL_law_761 : decode cL_law 761 = .ok (.iaload, 1) := o_46 BL_law rfl rfl
theorem dL_law_762 : decode cL_law 762 = .ok (.invokevirtual 115, 3) := o_182 BL_law rfl rfl rfl
theorem dL_law_765 : decode cL_law 765 = .ok (.pop, 1) := o_87 BL_law rfl rfl
theorem dL_law_766 : decode cL_law 766 = .ok (.aload_n 2, 1) := o_44 BL_law rfl rfl
theorem dL_law_767 : decode cL_law 767 = .ok (.aload_n 0, 1) := o_42 BL_law rfl rfl
theorem dL_law_768 : decode cL_law 768 = .ok (.iload 4, 2) := o_21 BL_law rfl rfl rfl
theorem dL_law_770 : decode cL_law 770 = .ok (.iconst 1, 1) := o_4 BL_law rfl rfl
theorem dL_law_771 : decode cL_law 771 = .ok (.iadd, 1) := o_96 BL_law rfl rfl
theorem dL_law_772 : decode cL_law 772 = .ok (.iaload, 1) := o_46 BL_law rfl rfl
theorem dL_law_773 : decode cL_law 773 = .ok (.invokevirtual 118, 3) := o_182 BL_law rfl rfl rfl
theorem dL_law_776 : decode cL_law 776 = .ok (.pop, 1) := o_87 BL_law rfl rfl
theorem dL_law_777 : decode cL_law 777 = .ok (.goto 471, 3) := o_167 BL_law rfl rfl rfl
theorem dL_law_780 : decode cL_law 780 = .ok (.aload_n 1, 1) := o_43 BL_law rfl rfl
theorem dL_law_781 : decode cL_law 781 = .ok (.invokevirtual 119, 3) := o_182 BL_law rfl rfl rfl
theorem dL_law_784 : decode cL_law 784 = .ok (.pop, 1) := o_87 BL_law rfl rfl
theorem dL_law_785 : decode cL_law 785 = .ok (.aload_n 2, 1) := o_44 BL_law rfl rfl
theorem dL_law_786 : decode cL_law 786 = .ok (.invokevirtual 122, 3) := o_182 BL_law rfl rfl rfl
theorem dL_law_789 : decode cL_law 789 = .ok (.pop, 1) := o_87 BL_law rfl rfl
theorem dL_law_790 : decode cL_law 790 = .ok (.goto 458, 3) := o_167 BL_law rfl rfl rfl
theorem dL_law_793 : decode cL_law 793 = .ok (.aload_n 1, 1) := o_43 BL_law rfl rfl
theorem dL_law_794 : decode cL_law 794 = .ok (.invokevirtual 123, 3) := o_182 BL_law rfl rfl rfl
theorem dL_law_797 : decode cL_law 797 = .ok (.pop, 1) := o_87 BL_law rfl rfl
theorem dL_law_798 : decode cL_law 798 = .ok (.aload_n 2, 1) := o_44 BL_law rfl rfl
theorem dL_law_799 : decode cL_law 799 = .ok (.invokevirtual 126, 3) := o_182 BL_law rfl rfl rfl
theorem dL_law_802 : decode cL_law 802 = .ok (.pop, 1) := o_87 BL_law rfl rfl
theorem dL_law_803 : decode cL_law 803 = .ok (.goto 445, 3) := o_167 BL_law rfl rfl rfl
theorem dL_law_806 : decode cL_law 806 = .ok (.aload_n 1, 1) := o_43 BL_law rfl rfl
theorem dL_law_807 : decode cL_law 807 = .ok (.aload_n 0, 1) := o_42 BL_law rfl rfl
theorem dL_law_808 : decode cL_law 808 = .ok (.iload 4, 2) := o_21 BL_law rfl rfl rfl
theorem dL_law_810 : decode cL_law 810 = .ok (.iconst 1, 1) := o_4 BL_law rfl rfl
theorem dL_law_811 : decode cL_law 811 = .ok (.iadd, 1) := o_96 BL_law rfl rfl
theorem dL_law_812 : decode cL_law 812 = .ok (.iaload, 1) := o_46 BL_law rfl rfl
theorem dL_law_813 : decode cL_law 813 = .ok (.invokevirtual 127, 3) := o_182 BL_law rfl rfl rfl
theorem dL_law_816 : decode cL_law 816 = .ok (.pop, 1) := o_87 BL_law rfl rfl
theorem dL_law_817 : decode cL_law 817 = .ok (.aload_n 2, 1) := o_44 BL_law rfl rfl
theorem dL_law_818 : decode cL_law 818 = .ok (.aload_n 0, 1) := o_42 BL_law rfl rfl
theorem dL_law_819 : decode cL_law 819 = .ok (.iload 4, 2) := o_21 BL_law rfl rfl rfl
theorem dL_law_821 : decode cL_law 821 = .ok (.iconst 1, 1) := o_4 BL_law rfl rfl
theorem dL_law_822 : decode cL_law 822 = .ok (.iadd, 1) := o_96 BL_law rfl rfl
theorem dL_law_823 : decode cL_law 823 = .ok (.iaload, 1) := o_46 BL_law rfl rfl
theorem dL_law_824 : decode cL_law 824 = .ok (.invokevirtual 130, 3) := o_182 BL_law rfl rfl rfl
theorem dL_law_827 : decode cL_law 827 = .ok (.pop, 1) := o_87 BL_law rfl rfl
theorem dL_law_828 : decode cL_law 828 = .ok (.goto 420, 3) := o_167 BL_law rfl rfl rfl
theorem dL_law_831 : decode cL_law 831 = .ok (.aload_n 1, 1) := o_43 BL_law rfl rfl
theorem dL_law_832 : decode cL_law 832 = .ok (.aload_n 0, 1) := o_42 BL_law rfl rfl
theorem dL_law_833 : decode cL_law 833 = .ok (.iload 4, 2) := o_21 BL_law rfl rfl rfl
theorem dL_law_835 : decode cL_law 835 = .ok (.iconst 1, 1) := o_4 BL_law rfl rfl
theorem dL_law_836 : decode cL_law 836 = .ok (.iadd, 1) := o_96 BL_law rfl rfl
theorem dL_law_837 : decode cL_law 837 = .ok (.iaload, 1) := o_46 BL_law rfl rfl
theorem dL_law_838 : decode cL_law 838 = .ok (.invokevirtual 131, 3) := o_182 BL_law rfl rfl rfl
theorem dL_law_841 : decode cL_law 841 = .ok (.pop, 1) := o_87 BL_law rfl rfl
theorem dL_law_842 : decode cL_law 842 = .ok (.aload_n 2, 1) := o_44 BL_law rfl rfl
theorem dL_law_843 : decode cL_law 843 = .ok (.aload_n 0, 1) := o_42 BL_law rfl rfl
theorem dL_law_844 : decode cL_law 844 = .ok (.iload 4, 2) := o_21 BL_law rfl rfl rfl
theorem dL_law_846 : decode cL_law 846 = .ok (.iconst 1, 1) := o_4 BL_law rfl rfl
theorem dL_law_847 : decode cL_law 847 = .ok (.iadd, 1) := o_96 BL_law rfl rfl
theorem dL_law_848 : decode cL_law 848 = .ok (.iaload, 1) := o_46 BL_law rfl rfl
theorem dL_law_849 : decode cL_law 849 = .ok (.invokevirtual 134, 3) := o_182 BL_law rfl rfl rfl
theorem dL_law_852 : decode cL_law 852 = .ok (.pop, 1) := o_87 BL_law rfl rfl
theorem dL_law_853 : decode cL_law 853 = .ok (.goto 395, 3) := o_167 BL_law rfl rfl rfl
theorem dL_law_856 : decode cL_law 856 = .ok (.aload_n 1, 1) := o_43 BL_law rfl rfl
theorem dL_law_857 : decode cL_law 857 = .ok (.aload_n 0, 1) := o_42 BL_law rfl rfl
theorem dL_law_858 : decode cL_law 858 = .ok (.iload 4, 2) := o_21 BL_law rfl rfl rfl
theorem dL_law_860 : decode cL_law 860 = .ok (.iconst 1, 1) := o_4 BL_law rfl rfl
theorem dL_law_861 : decode cL_law 861 = .ok (.iadd, 1) := o_96 BL_law rfl rfl
theorem dL_law_862 : decode cL_law 862 = .ok (.iaload, 1) := o_46 BL_law rfl rfl
theorem dL_law_863 : decode cL_law 863 = .ok (.invokevirtual 135, 3) := o_182 BL_law rfl rfl rfl
theorem dL_law_866 : decode cL_law 866 = .ok (.pop, 1) := o_87 BL_law rfl rfl
theorem dL_law_867 : decode cL_law 867 = .ok (.aload_n 2, 1) := o_44 BL_law rfl rfl
theorem dL_law_868 : decode cL_law 868 = .ok (.aload_n 0, 1) := o_42 BL_law rfl rfl
theorem dL_law_869 : decode cL_law 869 = .ok (.iload 4, 2) := o_21 BL_law rfl rfl rfl
theorem dL_law_871 : decode cL_law 871 = .ok (.iconst 1, 1) := o_4 BL_law rfl rfl
theorem dL_law_872 : decode cL_law 872 = .ok (.iadd, 1) := o_96 BL_law rfl rfl
theorem dL_law_873 : decode cL_law 873 = .ok (.iaload, 1) := o_46 BL_law rfl rfl
theorem dL_law_874 : decode cL_law 874 = .ok (.invokevirtual 138, 3) := o_182 BL_law rfl rfl rfl
theorem dL_law_877 : decode cL_law 877 = .ok (.pop, 1) := o_87 BL_law rfl rfl
theorem dL_law_878 : decode cL_law 878 = .ok (.goto 370, 3) := o_167 BL_law rfl rfl rfl
theorem dL_law_881 : decode cL_law 881 = .ok (.aload_n 1, 1) := o_43 BL_law rfl rfl
theorem dL_law_882 : decode cL_law 882 = .ok (.invokevirtual 139, 3) := o_182 BL_law rfl rfl rfl
theorem dL_law_885 : decode cL_law 885 = .ok (.pop, 1) := o_87 BL_law rfl rfl
theorem dL_law_886 : decode cL_law 886 = .ok (.aload_n 2, 1) := o_44 BL_law rfl rfl
theorem dL_law_887 : decode cL_law 887 = .ok (.invokevirtual 142, 3) := o_182 BL_law rfl rfl rfl
theorem dL_law_890 : decode cL_law 890 = .ok (.pop, 1) := o_87 BL_law rfl rfl
theorem dL_law_891 : decode cL_law 891 = .ok (.goto 357, 3) := o_167 BL_law rfl rfl rfl
theorem dL_law_894 : decode cL_law 894 = .ok (.aload_n 1, 1) := o_43 BL_law rfl rfl
theorem dL_law_895 : decode cL_law 895 = .ok (.invokevirtual 143, 3) := o_182 BL_law rfl rfl rfl
theorem dL_law_898 : decode cL_law 898 = .ok (.pop, 1) := o_87 BL_law rfl rfl
theorem dL_law_899 : decode cL_law 899 = .ok (.aload_n 2, 1) := o_44 BL_law rfl rfl
theorem dL_law_900 : decode cL_law 900 = .ok (.invokevirtual 146, 3) := o_182 BL_law rfl rfl rfl
theorem dL_law_903 : decode cL_law 903 = .ok (.pop, 1) := o_87 BL_law rfl rfl
theorem dL_law_904 : decode cL_law 904 = .ok (.goto 344, 3) := o_167 BL_law rfl rfl rfl
theorem dL_law_907 : decode cL_law 907 = .ok (.aload_n 1, 1) := o_43 BL_law rfl rfl
theorem dL_law_908 : decode cL_law 908 = .ok (.aload_n 0, 1) := o_42 BL_law rfl rfl
theorem dL_law_909 : decode cL_law 909 = .ok (.iload 4, 2) := o_21 BL_law rfl rfl rfl
theorem dL_law_911 : decode cL_law 911 = .ok (.iconst 1, 1) := o_4 BL_law rfl rfl
theorem dL_law_912 : decode cL_law 912 = .ok (.iadd, 1) := o_96 BL_law rfl rfl
theorem dL_law_913 : decode cL_law 913 = .ok (.iaload, 1) := o_46 BL_law rfl rfl
theorem dL_law_914 : decode cL_law 914 = .ok (.invokevirtual 147, 3) := o_182 BL_law rfl rfl rfl
theorem dL_law_917 : decode cL_law 917 = .ok (.pop, 1) := o_87 BL_law rfl rfl
theorem dL_law_918 : decode cL_law 918 = .ok (.aload_n 2, 1) := o_44 BL_law rfl rfl
theorem dL_law_919 : decode cL_law 919 = .ok (.aload_n 0, 1) := o_42 BL_law rfl rfl
theorem dL_law_920 : decode cL_law 920 = .ok (.iload 4, 2) := o_21 BL_law rfl rfl rfl
theorem dL_law_922 : decode cL_law 922 = .ok (.iconst 1, 1) := o_4 BL_law rfl rfl
theorem dL_law_923 : decode cL_law 923 = .ok (.iadd, 1) := o_96 BL_law rfl rfl
theorem dL_law_924 : decode cL_law 924 = .ok (.iaload, 1) := o_46 BL_law rfl rfl
theorem dL_law_925 : decode cL_law 925 = .ok (.invokevirtual 150, 3) := o_182 BL_law rfl rfl rfl
theorem dL_law_928 : decode cL_law 928 = .ok (.pop, 1) := o_87 BL_law rfl rfl
theorem dL_law_929 : decode cL_law 929 = .ok (.goto 319, 3) := o_167 BL_law rfl rfl rfl
theorem dL_law_932 : decode cL_law 932 = .ok (.aload_n 1, 1) := o_43 BL_law rfl rfl
theorem dL_law_933 : decode cL_law 933 = .ok (.invokevirtual 151, 3) := o_182 BL_law rfl rfl rfl
theorem dL_law_936 : decode cL_law 936 = .ok (.pop, 1) := o_87 BL_law rfl rfl
theorem dL_law_937 : decode cL_law 937 = .ok (.aload_n 2, 1) := o_44 BL_law rfl rfl
theorem dL_law_938 : decode cL_law 938 = .ok (.invokevirtual 154, 3) := o_182 BL_law rfl rfl rfl
theorem dL_law_941 : decode cL_law 941 = .ok (.pop, 1) := o_87 BL_law rfl rfl
theorem dL_law_942 : decode cL_law 942 = .ok (.goto 306, 3) := o_167 BL_law rfl rfl rfl
theorem dL_law_945 : decode cL_law 945 = .ok (.aload_n 1, 1) := o_43 BL_law rfl rfl
theorem dL_law_946 : decode cL_law 946 = .ok (.invokevirtual 155, 3) := o_182 BL_law rfl rfl rfl
theorem dL_law_949 : decode cL_law 949 = .ok (.pop, 1) := o_87 BL_law rfl rfl
theorem dL_law_950 : decode cL_law 950 = .ok (.aload_n 2, 1) := o_44 BL_law rfl rfl
theorem dL_law_951 : decode cL_law 951 = .ok (.invokevirtual 158, 3) := o_182 BL_law rfl rfl rfl
theorem dL_law_954 : decode cL_law 954 = .ok (.pop, 1) := o_87 BL_law rfl rfl
theorem dL_law_955 : decode cL_law 955 = .ok (.goto 293, 3) := o_167 BL_law rfl rfl rfl
theorem dL_law_958 : decode cL_law 958 = .ok (.aload_n 1, 1) := o_43 BL_law rfl rfl
theorem dL_law_959 : decode cL_law 959 = .ok (.aload_n 0, 1) := o_42 BL_law rfl rfl
theorem dL_law_960 : decode cL_law 960 = .ok (.iload 4, 2) := o_21 BL_law rfl rfl rfl
theorem dL_law_962 : decode cL_law 962 = .ok (.iconst 1, 1) := o_4 BL_law rfl rfl
theorem dL_law_963 : decode cL_law 963 = .ok (.iadd, 1) := o_96 BL_law rfl rfl
theorem dL_law_964 : decode cL_law 964 = .ok (.iaload, 1) := o_46 BL_law rfl rfl
theorem dL_law_965 : decode cL_law 965 = .ok (.aload_n 0, 1) := o_42 BL_law rfl rfl
theorem dL_law_966 : decode cL_law 966 = .ok (.iload 4, 2) := o_21 BL_law rfl rfl rfl
theorem dL_law_968 : decode cL_law 968 = .ok (.iconst 2, 1) := o_5 BL_law rfl rfl
theorem dL_law_969 : decode cL_law 969 = .ok (.iadd, 1) := o_96 BL_law rfl rfl
theorem dL_law_970 : decode cL_law 970 = .ok (.iaload, 1) := o_46 BL_law rfl rfl
theorem dL_law_971 : decode cL_law 971 = .ok (.invokevirtual 159, 3) := o_182 BL_law rfl rfl rfl
theorem dL_law_974 : decode cL_law 974 = .ok (.pop, 1) := o_87 BL_law rfl rfl
theorem dL_law_975 : decode cL_law 975 = .ok (.aload_n 2, 1) := o_44 BL_law rfl rfl
theorem dL_law_976 : decode cL_law 976 = .ok (.aload_n 0, 1) := o_42 BL_law rfl rfl
theorem dL_law_977 : decode cL_law 977 = .ok (.iload 4, 2) := o_21 BL_law rfl rfl rfl
theorem dL_law_979 : decode cL_law 979 = .ok (.iconst 1, 1) := o_4 BL_law rfl rfl
theorem dL_law_980 : decode cL_law 980 = .ok (.iadd, 1) := o_96 BL_law rfl rfl
theorem dL_law_981 : decode cL_law 981 = .ok (.iaload, 1) := o_46 BL_law rfl rfl
theorem dL_law_982 : decode cL_law 982 = .ok (.aload_n 0, 1) := o_42 BL_law rfl rfl
theorem dL_law_983 : decode cL_law 983 = .ok (.iload 4, 2) := o_21 BL_law rfl rfl rfl
theorem dL_law_985 : decode cL_law 985 = .ok (.iconst 2, 1) := o_5 BL_law rfl rfl
theorem dL_law_986 : decode cL_law 986 = .ok (.iadd, 1) := o_96 BL_law rfl rfl
theorem dL_law_987 : decode cL_law 987 = .ok (.iaload, 1) := o_46 BL_law rfl rfl
theorem dL_law_988 : decode cL_law 988 = .ok (.invokevirtual 162, 3) := o_182 BL_law rfl rfl rfl
theorem dL_law_991 : decode cL_law 991 = .ok (.pop, 1) := o_87 BL_law rfl rfl
theorem dL_law_992 : decode cL_law 992 = .ok (.goto 256, 3) := o_167 BL_law rfl rfl rfl
theorem dL_law_995 : decode cL_law 995 = .ok (.aload_n 1, 1) := o_43 BL_law rfl rfl
theorem dL_law_996 : decode cL_law 996 = .ok (.invokevirtual 163, 3) := o_182 BL_law rfl rfl rfl
theorem dL_law_999 : decode cL_law 999 = .ok (.pop, 1) := o_87 BL_law rfl rfl
theorem dL_law_1000 : decode cL_law 1000 = .ok (.aload_n 2, 1) := o_44 BL_law rfl rfl
theorem dL_law_1001 : decode cL_law 1001 = .ok (.invokevirtual 166, 3) := o_182 BL_law rfl rfl rfl
theorem dL_law_1004 : decode cL_law 1004 = .ok (.pop, 1) := o_87 BL_law rfl rfl
theorem dL_law_1005 : decode cL_law 1005 = .ok (.goto 243, 3) := o_167 BL_law rfl rfl rfl
theorem dL_law_1008 : decode cL_law 1008 = .ok (.aload_n 1, 1) := o_43 BL_law rfl rfl
theorem dL_law_1009 : decode cL_law 1009 = .ok (.invokevirtual 167, 3) := o_182 BL_law rfl rfl rfl
theorem dL_law_1012 : decode cL_law 1012 = .ok (.pop, 1) := o_87 BL_law rfl rfl
theorem dL_law_1013 : decode cL_law 1013 = .ok (.aload_n 2, 1) := o_44 BL_law rfl rfl
theorem dL_law_1014 : decode cL_law 1014 = .ok (.invokevirtual 170, 3) := o_182 BL_law rfl rfl rfl
theorem dL_law_1017 : decode cL_law 1017 = .ok (.pop, 1) := o_87 BL_law rfl rfl
theorem dL_law_1018 : decode cL_law 1018 = .ok (.goto 230, 3) := o_167 BL_law rfl rfl rfl
theorem dL_law_1021 : decode cL_law 1021 = .ok (.aload_n 1, 1) := o_43 BL_law rfl rfl
theorem dL_law_1022 : decode cL_law 1022 = .ok (.aload_n 0, 1) := o_42 BL_law rfl rfl
theorem dL_law_1023 : decode cL_law 1023 = .ok (.iload 4, 2) := o_21 BL_law rfl rfl rfl
theorem dL_law_1025 : decode cL_law 1025 = .ok (.iconst 1, 1) := o_4 BL_law rfl rfl
theorem dL_law_1026 : decode cL_law 1026 = .ok (.iadd, 1) := o_96 BL_law rfl rfl
theorem dL_law_1027 : decode cL_law 1027 = .ok (.iaload, 1) := o_46 BL_law rfl rfl
theorem dL_law_1028 : decode cL_law 1028 = .ok (.aload_n 0, 1) := o_42 BL_law rfl rfl
theorem dL_law_1029 : decode cL_law 1029 = .ok (.iload 4, 2) := o_21 BL_law rfl rfl rfl
theorem dL_law_1031 : decode cL_law 1031 = .ok (.iconst 2, 1) := o_5 BL_law rfl rfl
theorem dL_law_1032 : decode cL_law 1032 = .ok (.iadd, 1) := o_96 BL_law rfl rfl
theorem dL_law_1033 : decode cL_law 1033 = .ok (.iaload, 1) := o_46 BL_law rfl rfl
theorem dL_law_1034 : decode cL_law 1034 = .ok (.aload_n 0, 1) := o_42 BL_law rfl rfl
theorem dL_law_1035 : decode cL_law 1035 = .ok (.iload 4, 2) := o_21 BL_law rfl rfl rfl
theorem dL_law_1037 : decode cL_law 1037 = .ok (.iconst 3, 1) := o_6 BL_law rfl rfl
theorem dL_law_1038 : decode cL_law 1038 = .ok (.iadd, 1) := o_96 BL_law rfl rfl
theorem dL_law_1039 : decode cL_law 1039 = .ok (.iaload, 1) := o_46 BL_law rfl rfl
theorem dL_law_1040 : decode cL_law 1040 = .ok (.invokevirtual 171, 3) := o_182 BL_law rfl rfl rfl
theorem dL_law_1043 : decode cL_law 1043 = .ok (.pop, 1) := o_87 BL_law rfl rfl
theorem dL_law_1044 : decode cL_law 1044 = .ok (.aload_n 2, 1) := o_44 BL_law rfl rfl
theorem dL_law_1045 : decode cL_law 1045 = .ok (.aload_n 0, 1) := o_42 BL_law rfl rfl
theorem dL_law_1046 : decode cL_law 1046 = .ok (.iload 4, 2) := o_21 BL_law rfl rfl rfl
theorem dL_law_1048 : decode cL_law 1048 = .ok (.iconst 1, 1) := o_4 BL_law rfl rfl
theorem dL_law_1049 : decode cL_law 1049 = .ok (.iadd, 1) := o_96 BL_law rfl rfl
theorem dL_law_1050 : decode cL_law 1050 = .ok (.iaload, 1) := o_46 BL_law rfl rfl
theorem dL_law_1051 : decode cL_law 1051 = .ok (.aload_n 0, 1) := o_42 BL_law rfl rfl
theorem dL_law_1052 : decode cL_law 1052 = .ok (.iload 4, 2) := o_21 BL_law rfl rfl rfl
theorem dL_law_1054 : decode cL_law 1054 = .ok (.iconst 2, 1) := o_5 BL_law rfl rfl
theorem dL_law_1055 : decode cL_law 1055 = .ok (.iadd, 1) := o_96 BL_law rfl rfl
theorem dL_law_1056 : decode cL_law 1056 = .ok (.iaload, 1) := o_46 BL_law rfl rfl
theorem dL_law_1057 : decode cL_law 1057 = .ok (.aload_n 0, 1) := o_42 BL_law rfl rfl
theorem dL_law_1058 : decode cL_law 1058 = .ok (.iload 4, 2) := o_21 BL_law rfl rfl rfl
theorem dL_law_1060 : decode cL_law 1060 = .ok (.iconst 3, 1) := o_6 BL_law rfl rfl
theorem dL_law_1061 : decode cL_law 1061 = .ok (.iadd, 1) := o_96 BL_law rfl rfl
theorem dL_law_1062 : decode cL_law 1062 = .ok (.iaload, 1) := o_46 BL_law rfl rfl
theorem dL_law_1063 : decode cL_law 1063 = .ok (.invokevirtual 175, 3) := o_182 BL_law rfl rfl rfl
theorem dL_law_1066 : decode cL_law 1066 = .ok (.pop, 1) := o_87 BL_law rfl rfl
theorem dL_law_1067 : decode cL_law 1067 = .ok (.goto 181, 3) := o_167 BL_law rfl rfl rfl
theorem dL_law_1070 : decode cL_law 1070 = .ok (.aload_n 1, 1) := o_43 BL_law rfl rfl
theorem dL_law_1071 : decode cL_law 1071 = .ok (.invokevirtual 176, 3) := o_182 BL_law rfl rfl rfl
theorem dL_law_1074 : decode cL_law 1074 = .ok (.pop, 1) := o_87 BL_law rfl rfl
theorem dL_law_1075 : decode cL_law 1075 = .ok (.aload_n 2, 1) := o_44 BL_law rfl rfl
theorem dL_law_1076 : decode cL_law 1076 = .ok (.invokevirtual 179, 3) := o_182 BL_law rfl rfl rfl
theorem dL_law_1079 : decode cL_law 1079 = .ok (.pop, 1) := o_87 BL_law rfl rfl
theorem dL_law_1080 : decode cL_law 1080 = .ok (.goto 168, 3) := o_167 BL_law rfl rfl rfl
theorem dL_law_1083 : decode cL_law 1083 = .ok (.aload_n 1, 1) := o_43 BL_law rfl rfl
theorem dL_law_1084 : decode cL_law 1084 = .ok (.aload_n 0, 1) := o_42 BL_law rfl rfl
theorem dL_law_1085 : decode cL_law 1085 = .ok (.iload 4, 2) := o_21 BL_law rfl rfl rfl
theorem dL_law_1087 : decode cL_law 1087 = .ok (.iconst 1, 1) := o_4 BL_law rfl rfl
theorem dL_law_1088 : decode cL_law 1088 = .ok (.iadd, 1) := o_96 BL_law rfl rfl
theorem dL_law_1089 : decode cL_law 1089 = .ok (.iaload, 1) := o_46 BL_law rfl rfl
theorem dL_law_1090 : decode cL_law 1090 = .ok (.invokevirtual 180, 3) := o_182 BL_law rfl rfl rfl
theorem dL_law_1093 : decode cL_law 1093 = .ok (.pop, 1) := o_87 BL_law rfl rfl
theorem dL_law_1094 : decode cL_law 1094 = .ok (.aload_n 2, 1) := o_44 BL_law rfl rfl
theorem dL_law_1095 : decode cL_law 1095 = .ok (.aload_n 0, 1) := o_42 BL_law rfl rfl
theorem dL_law_1096 : decode cL_law 1096 = .ok (.iload 4, 2) := o_21 BL_law rfl rfl rfl
theorem dL_law_1098 : decode cL_law 1098 = .ok (.iconst 1, 1) := o_4 BL_law rfl rfl
theorem dL_law_1099 : decode cL_law 1099 = .ok (.iadd, 1) := o_96 BL_law rfl rfl
theorem dL_law_1100 : decode cL_law 1100 = .ok (.iaload, 1) := o_46 BL_law rfl rfl
theorem dL_law_1101 : decode cL_law 1101 = .ok (.invokevirtual 183, 3) := o_182 BL_law rfl rfl rfl
theorem dL_law_1104 : decode cL_law 1104 = .ok (.pop, 1) := o_87 BL_law rfl rfl
theorem dL_law_1105 : decode cL_law 1105 = .ok (.goto 143, 3) := o_167 BL_law rfl rfl rfl
theorem dL_law_1108 : decode cL_law 1108 = .ok (.aload_n 1, 1) := o_43 BL_law rfl rfl
theorem dL_law_1109 : decode cL_law 1109 = .ok (.aload_n 0, 1) := o_42 BL_law rfl rfl
theorem dL_law_1110 : decode cL_law 1110 = .ok (.iload 4, 2) := o_21 BL_law rfl rfl rfl
theorem dL_law_1112 : decode cL_law 1112 = .ok (.iconst 1, 1) := o_4 BL_law rfl rfl
theorem dL_law_1113 : decode cL_law 1113 = .ok (.iadd, 1) := o_96 BL_law rfl rfl
theorem dL_law_1114 : decode cL_law 1114 = .ok (.iaload, 1) := o_46 BL_law rfl rfl
theorem dL_law_1115 : decode cL_law 1115 = .ok (.aload_n 0, 1) := o_42 BL_law rfl rfl
theorem dL_law_1116 : decode cL_law 1116 = .ok (.iload 4, 2) := o_21 BL_law rfl rfl rfl
theorem dL_law_1118 : decode cL_law 1118 = .ok (.iconst 2, 1) := o_5 BL_law rfl rfl
theorem dL_law_1119 : decode cL_law 1119 = .ok (.iadd, 1) := o_96 BL_law rfl rfl
theorem dL_law_1120 : decode cL_law 1120 = .ok (.iaload, 1) := o_46 BL_law rfl rfl
theorem dL_law_1121 : decode cL_law 1121 = .ok (.invokevirtual 184, 3) := o_182 BL_law rfl rfl rfl
theorem dL_law_1124 : decode cL_law 1124 = .ok (.pop, 1) := o_87 BL_law rfl rfl
theorem dL_law_1125 : decode cL_law 1125 = .ok (.aload_n 2, 1) := o_44 BL_law rfl rfl
theorem dL_law_1126 : decode cL_law 1126 = .ok (.aload_n 0, 1) := o_42 BL_law rfl rfl
theorem dL_law_1127 : decode cL_law 1127 = .ok (.iload 4, 2) := o_21 BL_law rfl rfl rfl
theorem dL_law_1129 : decode cL_law 1129 = .ok (.iconst 1, 1) := o_4 BL_law rfl rfl
theorem dL_law_1130 : decode cL_law 1130 = .ok (.iadd, 1) := o_96 BL_law rfl rfl
theorem dL_law_1131 : decode cL_law 1131 = .ok (.iaload, 1) := o_46 BL_law rfl rfl
theorem dL_law_1132 : decode cL_law 1132 = .ok (.aload_n 0, 1) := o_42 BL_law rfl rfl
theorem dL_law_1133 : decode cL_law 1133 = .ok (.iload 4, 2) := o_21 BL_law rfl rfl rfl
theorem dL_law_1135 : decode cL_law 1135 = .ok (.iconst 2, 1) := o_5 BL_law rfl rfl
theorem dL_law_1136 : decode cL_law 1136 = .ok (.iadd, 1) := o_96 BL_law rfl rfl
theorem dL_law_1137 : decode cL_law 1137 = .ok (.iaload, 1) := o_46 BL_law rfl rfl
theorem dL_law_1138 : decode cL_law 1138 = .ok (.invokevirtual 187, 3) := o_182 BL_law rfl rfl rfl
theorem dL_law_1141 : decode cL_law 1141 = .ok (.pop, 1) := o_87 BL_law rfl rfl
theorem dL_law_1142 : decode cL_law 1142 = .ok (.goto 106, 3) := o_167 BL_law rfl rfl rfl
theorem dL_law_1145 : decode cL_law 1145 = .ok (.aload_n 1, 1) := o_43 BL_law rfl rfl
theorem dL_law_1146 : decode cL_law 1146 = .ok (.aload_n 0, 1) := o_42 BL_law rfl rfl
theorem dL_law_1147 : decode cL_law 1147 = .ok (.iload 4, 2) := o_21 BL_law rfl rfl rfl
theorem dL_law_1149 : decode cL_law 1149 = .ok (.iconst 1, 1) := o_4 BL_law rfl rfl
theorem dL_law_1150 : decode cL_law 1150 = .ok (.iadd, 1) := o_96 BL_law rfl rfl
theorem dL_law_1151 : decode cL_law 1151 = .ok (.iaload, 1) := o_46 BL_law rfl rfl
theorem dL_law_1152 : decode cL_law 1152 = .ok (.invokevirtual 188, 3) := o_182 BL_law rfl rfl rfl
theorem dL_law_1155 : decode cL_law 1155 = .ok (.pop, 1) := o_87 BL_law rfl rfl
theorem dL_law_1156 : decode cL_law 1156 = .ok (.aload_n 2, 1) := o_44 BL_law rfl rfl
theorem dL_law_1157 : decode cL_law 1157 = .ok (.aload_n 0, 1) := o_42 BL_law rfl rfl
theorem dL_law_1158 : decode cL_law 1158 = .ok (.iload 4, 2) := o_21 BL_law rfl rfl rfl
theorem dL_law_1160 : decode cL_law 1160 = .ok (.iconst 1, 1) := o_4 BL_law rfl rfl
theorem dL_law_1161 : decode cL_law 1161 = .ok (.iadd, 1) := o_96 BL_law rfl rfl
theorem dL_law_1162 : decode cL_law 1162 = .ok (.iaload, 1) := o_46 BL_law rfl rfl
theorem dL_law_1163 : decode cL_law 1163 = .ok (.invokevirtual 191, 3) := o_182 BL_law rfl rfl rfl
theorem dL_law_1166 : decode cL_law 1166 = .ok (.pop, 1) := o_87 BL_law rfl rfl
theorem dL_law_1167 : decode cL_law 1167 = .ok (.goto 81, 3) := o_167 BL_law rfl rfl rfl
theorem dL_law_1170 : decode cL_law 1170 = .ok (.aload_n 1, 1) := o_43 BL_law rfl rfl
theorem dL_law_1171 : decode cL_law 1171 = .ok (.aload_n 0, 1) := o_42 BL_law rfl rfl
theorem dL_law_1172 : decode cL_law 1172 = .ok (.iload 4, 2) := o_21 BL_law rfl rfl rfl
theorem dL_law_1174 : decode cL_law 1174 = .ok (.iconst 1, 1) := o_4 BL_law rfl rfl
theorem dL_law_1175 : decode cL_law 1175 = .ok (.iadd, 1) := o_96 BL_law rfl rfl
theorem dL_law_1176 : decode cL_law 1176 = .ok (.iaload, 1) := o_46 BL_law rfl rfl
theorem dL_law_1177 : decode cL_law 1177 = .ok (.invokevirtual 192, 3) := o_182 BL_law rfl rfl rfl
theorem dL_law_1180 : decode cL_law 1180 = .ok (.aload_n 2, 1) := o_44 BL_law rfl rfl
theorem dL_law_1181 : decode cL_law 1181 = .ok (.aload_n 0, 1) := o_42 BL_law rfl rfl
theorem dL_law_1182 : decode cL_law 1182 = .ok (.iload 4, 2) := o_21 BL_law rfl rfl rfl
theorem dL_law_1184 : decode cL_law 1184 = .ok (.iconst 1, 1) := o_4 BL_law rfl rfl
theorem dL_law_1185 : decode cL_law 1185 = .ok (.iadd, 1) := o_96 BL_law rfl rfl
theorem dL_law_1186 : decode cL_law 1186 = .ok (.iaload, 1) := o_46 BL_law rfl rfl
theorem dL_law_1187 : decode cL_law 1187 = .ok (.invokevirtual 195, 3) := o_182 BL_law rfl rfl rfl
theorem dL_law_1190 : decode cL_law 1190 = .ok (.if_icmp .eq 58, 3) := o_159 BL_law rfl rfl rfl
theorem dL_law_1195 : decode cL_law 1195 = .ok (.aload_n 1, 1) := o_43 BL_law rfl rfl
theorem dL_law_1196 : decode cL_law 1196 = .ok (.aload_n 0, 1) := o_42 BL_law rfl rfl
theorem dL_law_1197 : decode cL_law 1197 = .ok (.iload 4, 2) := o_21 BL_law rfl rfl rfl
theorem dL_law_1199 : decode cL_law 1199 = .ok (.iconst 1, 1) := o_4 BL_law rfl rfl
theorem dL_law_1200 : decode cL_law 1200 = .ok (.iadd, 1) := o_96 BL_law rfl rfl
theorem dL_law_1201 : decode cL_law 1201 = .ok (.iaload, 1) := o_46 BL_law rfl rfl
theorem dL_law_1202 : decode cL_law 1202 = .ok (.invokevirtual 196, 3) := o_182 BL_law rfl rfl rfl
theorem dL_law_1205 : decode cL_law 1205 = .ok (.pop, 1) := o_87 BL_law rfl rfl
theorem dL_law_1206 : decode cL_law 1206 = .ok (.aload_n 2, 1) := o_44 BL_law rfl rfl
theorem dL_law_1207 : decode cL_law 1207 = .ok (.aload_n 0, 1) := o_42 BL_law rfl rfl
theorem dL_law_1208 : decode cL_law 1208 = .ok (.iload 4, 2) := o_21 BL_law rfl rfl rfl
theorem dL_law_1210 : decode cL_law 1210 = .ok (.iconst 1, 1) := o_4 BL_law rfl rfl
theorem dL_law_1211 : decode cL_law 1211 = .ok (.iadd, 1) := o_96 BL_law rfl rfl
theorem dL_law_1212 : decode cL_law 1212 = .ok (.iaload, 1) := o_46 BL_law rfl rfl
theorem dL_law_1213 : decode cL_law 1213 = .ok (.invokevirtual 199, 3) := o_182 BL_law rfl rfl rfl
theorem dL_law_1216 : decode cL_law 1216 = .ok (.pop, 1) := o_87 BL_law rfl rfl
theorem dL_law_1217 : decode cL_law 1217 = .ok (.goto 31, 3) := o_167 BL_law rfl rfl rfl
theorem dL_law_1220 : decode cL_law 1220 = .ok (.aload_n 1, 1) := o_43 BL_law rfl rfl
theorem dL_law_1221 : decode cL_law 1221 = .ok (.aload_n 0, 1) := o_42 BL_law rfl rfl
theorem dL_law_1222 : decode cL_law 1222 = .ok (.iload 4, 2) := o_21 BL_law rfl rfl rfl
theorem dL_law_1224 : decode cL_law 1224 = .ok (.iconst 1, 1) := o_4 BL_law rfl rfl
theorem dL_law_1225 : decode cL_law 1225 = .ok (.iadd, 1) := o_96 BL_law rfl rfl
theorem dL_law_1226 : decode cL_law 1226 = .ok (.iaload, 1) := o_46 BL_law rfl rfl
theorem dL_law_1227 : decode cL_law 1227 = .ok (.aload_n 3, 1) := o_45 BL_law rfl rfl
theorem dL_law_1228 : decode cL_law 1228 = .ok (.invokestatic 200, 3) := o_184 BL_law rfl rfl rfl
theorem dL_law_1231 : decode cL_law 1231 = .ok (.istore 5, 2) := o_54 BL_law rfl rfl rfl
theorem dL_law_1233 : decode cL_law 1233 = .ok (.aload_n 2, 1) := o_44 BL_law rfl rfl
theorem dL_law_1234 : decode cL_law 1234 = .ok (.aload_n 0, 1) := o_42 BL_law rfl rfl
theorem dL_law_1235 : decode cL_law 1235 = .ok (.iload 4, 2) := o_21 BL_law rfl rfl rfl
theorem dL_law_1237 : decode cL_law 1237 = .ok (.iconst 1, 1) := o_4 BL_law rfl rfl
theorem dL_law_1238 : decode cL_law 1238 = .ok (.iadd, 1) := o_96 BL_law rfl rfl
theorem dL_law_1239 : decode cL_law 1239 = .ok (.iaload, 1) := o_46 BL_law rfl rfl
theorem dL_law_1240 : decode cL_law 1240 = .ok (.invokevirtual 203, 3) := o_182 BL_law rfl rfl rfl
theorem dL_law_1243 : decode cL_law 1243 = .ok (.lstore 6, 2) := o_55 BL_law rfl rfl rfl
theorem dL_law_1245 : decode cL_law 1245 = .ok (.goto 3, 3) := o_167 BL_law rfl rfl rfl
theorem dL_law_1248 : decode cL_law 1248 = .ok (.iinc 4 5, 3) := o_132 BL_law rfl rfl rfl rfl
theorem dL_law_1251 : decode cL_law 1251 = .ok (.goto (-1228), 3) := o_167 BL_law rfl rfl rfl
theorem dL_law_1254 : decode cL_law 1254 = .ok (.iconst 1, 1) := o_4 BL_law rfl rfl
theorem dL_law_1255 : decode cL_law 1255 = .ok (.ireturn, 1) := o_172 BL_law rfl rfl
