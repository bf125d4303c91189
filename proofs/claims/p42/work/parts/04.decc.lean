theorem dX12_faultOf_32 : decode cX12_faultOf 32 = .ok (.aload_n 0, 1) := o_42 BX12_faultOf rfl rfl
theorem dX12_faultOf_33 : decode cX12_faultOf 33 = .ok (.getfield 139, 3) := o_180 BX12_faultOf rfl rfl rfl
theorem dX12_faultOf_36 : decode cX12_faultOf 36 = .ok (.iload_n 2, 1) := o_28 BX12_faultOf rfl rfl
theorem dX12_faultOf_37 : decode cX12_faultOf 37 = .ok (.if_icmp .lt 7, 3) := o_161 BX12_faultOf rfl rfl rfl
theorem dX12_faultOf_40 : decode cX12_faultOf 40 = .ok (.iconst (-1), 1) := o_2 BX12_faultOf rfl rfl
theorem dX12_faultOf_41 : decode cX12_faultOf 41 = .ok (.iload_n 2, 1) := o_28 BX12_faultOf rfl rfl
theorem dX12_faultOf_42 : decode cX12_faultOf 42 = .ok (.isub, 1) := o_100 BX12_faultOf rfl rfl
theorem dX12_faultOf_43 : decode cX12_faultOf 43 = .ok (.ireturn, 1) := o_172 BX12_faultOf rfl rfl
theorem dX12_faultOf_44 : decode cX12_faultOf 44 = .ok (.iload 4, 2) := o_21 BX12_faultOf rfl rfl rfl
theorem dX12_faultOf_46 : decode cX12_faultOf 46 = .ok (.ifCond .eq 7, 3) := o_153 BX12_faultOf rfl rfl rfl
theorem dX12_faultOf_49 : decode cX12_faultOf 49 = .ok (.iconst 0, 1) := o_3 BX12_faultOf rfl rfl
theorem dX12_faultOf_50 : decode cX12_faultOf 50 = .ok (.goto 9, 3) := o_167 BX12_faultOf rfl rfl rfl
theorem dX12_faultOf_53 : decode cX12_faultOf 53 = .ok (.iconst (-1), 1) := o_2 BX12_faultOf rfl rfl
theorem dX12_faultOf_54 : decode cX12_faultOf 54 = .ok (.aload_n 0, 1) := o_42 BX12_faultOf rfl rfl
theorem dX12_faultOf_55 : decode cX12_faultOf 55 = .ok (.getfield 139, 3) := o_180 BX12_faultOf rfl rfl rfl
theorem dX12_faultOf_58 : decode cX12_faultOf 58 = .ok (.isub, 1) := o_100 BX12_faultOf rfl rfl
theorem dX12_faultOf_59 : decode cX12_faultOf 59 = .ok (.ireturn, 1) := o_172 BX12_faultOf rfl rfl
theorem dX12_avenue_0 : decode cX12_avenue 0 = .ok (.aload_n 0, 1) := o_42 BX12_avenue rfl rfl
theorem dX12_avenue_1 : decode cX12_avenue 1 = .ok (.iconst 0, 1) := o_3 BX12_avenue rfl rfl
theorem dX12_avenue_2 : decode cX12_avenue 2 = .ok (.putfield 112, 3) := o_181 BX12_avenue rfl rfl rfl
theorem dX12_avenue_5 : decode cX12_avenue 5 = .ok (.aload_n 0, 1) := o_42 BX12_avenue rfl rfl
theorem dX12_avenue_6 : decode cX12_avenue 6 = .ok (.bipush 80, 2) := o_16 BX12_avenue rfl rfl rfl
theorem dX12_avenue_8 : decode cX12_avenue 8 = .ok (.invokevirtual 176, 3) := o_182 BX12_avenue rfl rfl rfl
theorem dX12_avenue_11 : decode cX12_avenue 11 = .ok (.pop, 1) := o_87 BX12_avenue rfl rfl
theorem dX12_avenue_12 : decode cX12_avenue 12 = .ok (.iconst 0, 1) := o_3 BX12_avenue rfl rfl
theorem dX12_avenue_13 : decode cX12_avenue 13 = .ok (.istore_n 1, 1) := o_60 BX12_avenue rfl rfl
theorem dX12_avenue_14 : decode cX12_avenue 14 = .ok (.iconst 1, 1) := o_4 BX12_avenue rfl rfl
theorem dX12_avenue_15 : decode cX12_avenue 15 = .ok (.istore_n 2, 1) := o_61 BX12_avenue rfl rfl
theorem dX12_avenue_16 : decode cX12_avenue 16 = .ok (.iload_n 2, 1) := o_28 BX12_avenue rfl rfl
theorem dX12_avenue_17 : decode cX12_avenue 17 = .ok (.ifCond .eq 52, 3) := o_153 BX12_avenue rfl rfl rfl
theorem dX12_avenue_20 : decode cX12_avenue 20 = .ok (.iload_n 1, 1) := o_27 BX12_avenue rfl rfl
theorem dX12_avenue_21 : decode cX12_avenue 21 = .ok (.bipush 30, 2) := o_16 BX12_avenue rfl rfl rfl
theorem dX12_avenue_23 : decode cX12_avenue 23 = .ok (.if_icmp .ge 46, 3) := o_162 BX12_avenue rfl rfl rfl
theorem dX12_avenue_26 : decode cX12_avenue 26 = .ok (.aload_n 0, 1) := o_42 BX12_avenue rfl rfl
theorem dX12_avenue_27 : decode cX12_avenue 27 = .ok (.ldc 180, 2) := o_18 BX12_avenue rfl rfl rfl
theorem dX12_avenue_29 : decode cX12_avenue 29 = .ok (.invokevirtual 182, 3) := o_182 BX12_avenue rfl rfl rfl
theorem dX12_avenue_32 : decode cX12_avenue 32 = .ok (.istore_n 3, 1) := o_62 BX12_avenue rfl rfl
theorem dX12_avenue_33 : decode cX12_avenue 33 = .ok (.iload_n 3, 1) := o_29 BX12_avenue rfl rfl
theorem dX12_avenue_34 : decode cX12_avenue 34 = .ok (.ifCond .lt 7, 3) := o_155 BX12_avenue rfl rfl rfl
theorem dX12_avenue_37 : decode cX12_avenue 37 = .ok (.iconst 1, 1) := o_4 BX12_avenue rfl rfl
theorem dX12_avenue_38 : decode cX12_avenue 38 = .ok (.goto 4, 3) := o_167 BX12_avenue rfl rfl rfl
theorem dX12_avenue_41 : decode cX12_avenue 41 = .ok (.iconst 0, 1) := o_3 BX12_avenue rfl rfl
theorem dX12_avenue_42 : decode cX12_avenue 42 = .ok (.istore_n 2, 1) := o_61 BX12_avenue rfl rfl
theorem dX12_avenue_43 : decode cX12_avenue 43 = .ok (.aload_n 0, 1) := o_42 BX12_avenue rfl rfl
theorem dX12_avenue_44 : decode cX12_avenue 44 = .ok (.getfield 40, 3) := o_180 BX12_avenue rfl rfl rfl
theorem dX12_avenue_47 : decode cX12_avenue 47 = .ok (.iload_n 1, 1) := o_27 BX12_avenue rfl rfl
theorem dX12_avenue_48 : decode cX12_avenue 48 = .ok (.iload_n 3, 1) := o_29 BX12_avenue rfl rfl
theorem dX12_avenue_49 : decode cX12_avenue 49 = .ok (.iconst 1, 1) := o_4 BX12_avenue rfl rfl
theorem dX12_avenue_50 : decode cX12_avenue 50 = .ok (.if_icmp .ne 7, 3) := o_160 BX12_avenue rfl rfl rfl
theorem dX12_avenue_53 : decode cX12_avenue 53 = .ok (.iconst 1, 1) := o_4 BX12_avenue rfl rfl
theorem dX12_avenue_54 : decode cX12_avenue 54 = .ok (.goto 4, 3) := o_167 BX12_avenue rfl rfl rfl
theorem dX12_avenue_57 : decode cX12_avenue 57 = .ok (.iconst 0, 1) := o_3 BX12_avenue rfl rfl
theorem dX12_avenue_58 : decode cX12_avenue 58 = .ok (.bastore, 1) := o_84 BX12_avenue rfl rfl
theorem dX12_avenue_59 : decode cX12_avenue 59 = .ok (.iload_n 1, 1) := o_27 BX12_avenue rfl rfl
theorem dX12_avenue_60 : decode cX12_avenue 60 = .ok (.iload_n 2, 1) := o_28 BX12_avenue rfl rfl
theorem dX12_avenue_61 : decode cX12_avenue 61 = .ok (.invokestatic 154, 3) := o_184 BX12_avenue rfl rfl rfl
theorem dX12_avenue_64 : decode cX12_avenue 64 = .ok (.iadd, 1) := o_96 BX12_avenue rfl rfl
theorem dX12_avenue_65 : decode cX12_avenue 65 = .ok (.istore_n 1, 1) := o_60 BX12_avenue rfl rfl
theorem dX12_avenue_66 : decode cX12_avenue 66 = .ok (.goto (-50), 3) := o_167 BX12_avenue rfl rfl rfl
theorem dX12_avenue_69 : decode cX12_avenue 69 = .ok (.iload_n 1, 1) := o_27 BX12_avenue rfl rfl
theorem dX12_avenue_70 : decode cX12_avenue 70 = .ok (.iconst 4, 1) := o_7 BX12_avenue rfl rfl
theorem dX12_avenue_71 : decode cX12_avenue 71 = .ok (.if_icmp .lt 14, 3) := o_161 BX12_avenue rfl rfl rfl
theorem dX12_avenue_74 : decode cX12_avenue 74 = .ok (.aload_n 0, 1) := o_42 BX12_avenue rfl rfl
theorem dX12_avenue_75 : decode cX12_avenue 75 = .ok (.getfield 139, 3) := o_180 BX12_avenue rfl rfl rfl
theorem dX12_avenue_78 : decode cX12_avenue 78 = .ok (.aload_n 0, 1) := o_42 BX12_avenue rfl rfl
theorem dX12_avenue_79 : decode cX12_avenue 79 = .ok (.getfield 151, 3) := o_180 BX12_avenue rfl rfl rfl
theorem dX12_avenue_82 : decode cX12_avenue 82 = .ok (.if_icmp .ge 10, 3) := o_162 BX12_avenue rfl rfl rfl
theorem dX12_avenue_85 : decode cX12_avenue 85 = .ok (.iconst (-1), 1) := o_2 BX12_avenue rfl rfl
theorem dX12_avenue_86 : decode cX12_avenue 86 = .ok (.aload_n 0, 1) := o_42 BX12_avenue rfl rfl
theorem dX12_avenue_87 : decode cX12_avenue 87 = .ok (.getfield 139, 3) := o_180 BX12_avenue rfl rfl rfl
theorem dX12_avenue_90 : decode cX12_avenue 90 = .ok (.isub, 1) := o_100 BX12_avenue rfl rfl
theorem dX12_avenue_91 : decode cX12_avenue 91 = .ok (.ireturn, 1) := o_172 BX12_avenue rfl rfl
theorem dX12_avenue_92 : decode cX12_avenue 92 = .ok (.aload_n 0, 1) := o_42 BX12_avenue rfl rfl
theorem dX12_avenue_93 : decode cX12_avenue 93 = .ok (.iload_n 1, 1) := o_27 BX12_avenue rfl rfl
theorem dX12_avenue_94 : decode cX12_avenue 94 = .ok (.putfield 13, 3) := o_181 BX12_avenue rfl rfl rfl
theorem dX12_avenue_97 : decode cX12_avenue 97 = .ok (.iconst 0, 1) := o_3 BX12_avenue rfl rfl
theorem dX12_avenue_98 : decode cX12_avenue 98 = .ok (.istore_n 3, 1) := o_62 BX12_avenue rfl rfl
theorem dX12_avenue_99 : decode cX12_avenue 99 = .ok (.iload_n 3, 1) := o_29 BX12_avenue rfl rfl
theorem dX12_avenue_100 : decode cX12_avenue 100 = .ok (.iload_n 1, 1) := o_27 BX12_avenue rfl rfl
theorem dX12_avenue_101 : decode cX12_avenue 101 = .ok (.if_icmp .ge 21, 3) := o_162 BX12_avenue rfl rfl rfl
theorem dX12_avenue_104 : decode cX12_avenue 104 = .ok (.aload_n 0, 1) := o_42 BX12_avenue rfl rfl
theorem dX12_avenue_105 : decode cX12_avenue 105 = .ok (.getfield 20, 3) := o_180 BX12_avenue rfl rfl rfl
theorem dX12_avenue_108 : decode cX12_avenue 108 = .ok (.iload_n 3, 1) := o_29 BX12_avenue rfl rfl
theorem dX12_avenue_109 : decode cX12_avenue 109 = .ok (.aload_n 0, 1) := o_42 BX12_avenue rfl rfl
theorem dX12_avenue_110 : decode cX12_avenue 110 = .ok (.getfield 40, 3) := o_180 BX12_avenue rfl rfl rfl
theorem dX12_avenue_113 : decode cX12_avenue 113 = .ok (.iload_n 3, 1) := o_29 BX12_avenue rfl rfl
theorem dX12_avenue_114 : decode cX12_avenue 114 = .ok (.baload, 1) := o_51 BX12_avenue rfl rfl
theorem dX12_avenue_115 : decode cX12_avenue 115 = .ok (.bastore, 1) := o_84 BX12_avenue rfl rfl
theorem dX12_avenue_116 : decode cX12_avenue 116 = .ok (.iinc 3 1, 3) := o_132 BX12_avenue rfl rfl rfl rfl
theorem dX12_avenue_119 : decode cX12_avenue 119 = .ok (.goto (-20), 3) := o_167 BX12_avenue rfl rfl rfl
theorem dX12_avenue_122 : decode cX12_avenue 122 = .ok (.aload_n 0, 1) := o_42 BX12_avenue rfl rfl
theorem dX12_avenue_123 : decode cX12_avenue 123 = .ok (.iconst 0, 1) := o_3 BX12_avenue rfl rfl
theorem dX12_avenue_124 : decode cX12_avenue 124 = .ok (.putfield 122, 3) := o_181 BX12_avenue rfl rfl rfl
theorem dX12_avenue_127 : decode cX12_avenue 127 = .ok (.aload_n 0, 1) := o_42 BX12_avenue rfl rfl
theorem dX12_avenue_128 : decode cX12_avenue 128 = .ok (.iconst 0, 1) := o_3 BX12_avenue rfl rfl
theorem dX12_avenue_129 : decode cX12_avenue 129 = .ok (.putfield 129, 3) := o_181 BX12_avenue rfl rfl rfl
theorem dX12_avenue_132 : decode cX12_avenue 132 = .ok (.aload_n 0, 1) := o_42 BX12_avenue rfl rfl
theorem dX12_avenue_133 : decode cX12_avenue 133 = .ok (.getfield 31, 3) := o_180 BX12_avenue rfl rfl rfl
theorem dX12_avenue_136 : decode cX12_avenue 136 = .ok (.bipush 12, 2) := o_16 BX12_avenue rfl rfl rfl
theorem dX12_avenue_138 : decode cX12_avenue 138 = .ok (.iconst 0, 1) := o_3 BX12_avenue rfl rfl
theorem dX12_avenue_139 : decode cX12_avenue 139 = .ok (.iastore, 1) := o_79 BX12_avenue rfl rfl
theorem dX12_avenue_140 : decode cX12_avenue 140 = .ok (.aload_n 0, 1) := o_42 BX12_avenue rfl rfl
theorem dX12_avenue_141 : decode cX12_avenue 141 = .ok (.getfield 31, 3) := o_180 BX12_avenue rfl rfl rfl
theorem dX12_avenue_144 : decode cX12_avenue 144 = .ok (.bipush 37, 2) := o_16 BX12_avenue rfl rfl rfl
theorem dX12_avenue_146 : decode cX12_avenue 146 = .ok (.iconst 0, 1) := o_3 BX12_avenue rfl rfl
theorem dX12_avenue_147 : decode cX12_avenue 147 = .ok (.iastore, 1) := o_79 BX12_avenue rfl rfl
theorem dX12_avenue_148 : decode cX12_avenue 148 = .ok (.aload_n 0, 1) := o_42 BX12_avenue rfl rfl
theorem dX12_avenue_149 : decode cX12_avenue 149 = .ok (.iconst 0, 1) := o_3 BX12_avenue rfl rfl
theorem dX12_avenue_150 : decode cX12_avenue 150 = .ok (.putfield 186, 3) := o_181 BX12_avenue rfl rfl rfl
theorem dX12_avenue_153 : decode cX12_avenue 153 = .ok (.iconst 0, 1) := o_3 BX12_avenue rfl rfl
theorem dX12_avenue_154 : decode cX12_avenue 154 = .ok (.istore_n 3, 1) := o_62 BX12_avenue rfl rfl
theorem dX12_avenue_155 : decode cX12_avenue 155 = .ok (.iload_n 3, 1) := o_29 BX12_avenue rfl rfl
theorem dX12_avenue_156 : decode cX12_avenue 156 = .ok (.iconst 3, 1) := o_6 BX12_avenue rfl rfl
theorem dX12_avenue_157 : decode cX12_avenue 157 = .ok (.if_icmp .ge 16, 3) := o_162 BX12_avenue rfl rfl rfl
theorem dX12_avenue_160 : decode cX12_avenue 160 = .ok (.aload_n 0, 1) := o_42 BX12_avenue rfl rfl
theorem dX12_avenue_161 : decode cX12_avenue 161 = .ok (.getfield 103, 3) := o_180 BX12_avenue rfl rfl rfl
theorem dX12_avenue_164 : decode cX12_avenue 164 = .ok (.iload_n 3, 1) := o_29 BX12_avenue rfl rfl
theorem dX12_avenue_165 : decode cX12_avenue 165 = .ok (.iconst 0, 1) := o_3 BX12_avenue rfl rfl
theorem dX12_avenue_166 : decode cX12_avenue 166 = .ok (.bastore, 1) := o_84 BX12_avenue rfl rfl
theorem dX12_avenue_167 : decode cX12_avenue 167 = .ok (.iinc 3 1, 3) := o_132 BX12_avenue rfl rfl rfl rfl
theorem dX12_avenue_170 : decode cX12_avenue 170 = .ok (.goto (-15), 3) := o_167 BX12_avenue rfl rfl rfl
theorem dX12_avenue_173 : decode cX12_avenue 173 = .ok (.iload_n 1, 1) := o_27 BX12_avenue rfl rfl
theorem dX12_avenue_174 : decode cX12_avenue 174 = .ok (.ireturn, 1) := o_172 BX12_avenue rfl rfl
theorem dX12_readsCell_0 : decode cX12_readsCell 0 = .ok (.aload_n 0, 1) := o_42 BX12_readsCell rfl rfl
theorem dX12_readsCell_1 : decode cX12_readsCell 1 = .ok (.iconst 2, 1) := o_5 BX12_readsCell rfl rfl
theorem dX12_readsCell_2 : decode cX12_readsCell 2 = .ok (.invokevirtual 189, 3) := o_182 BX12_readsCell rfl rfl rfl
theorem dX12_readsCell_5 : decode cX12_readsCell 5 = .ok (.istore_n 2, 1) := o_61 BX12_readsCell rfl rfl
theorem dX12_readsCell_6 : decode cX12_readsCell 6 = .ok (.iload_n 2, 1) := o_28 BX12_readsCell rfl rfl
theorem dX12_readsCell_7 : decode cX12_readsCell 7 = .ok (.ifCond .ge 5, 3) := o_156 BX12_readsCell rfl rfl rfl
theorem dX12_readsCell_10 : decode cX12_readsCell 10 = .ok (.iconst (-1), 1) := o_2 BX12_readsCell rfl rfl
theorem dX12_readsCell_11 : decode cX12_readsCell 11 = .ok (.ireturn, 1) := o_172 BX12_readsCell rfl rfl
theorem dX12_readsCell_12 : decode cX12_readsCell 12 = .ok (.iload_n 2, 1) := o_28 BX12_readsCell rfl rfl
theorem dX12_readsCell_13 : decode cX12_readsCell 13 = .ok (.aload_n 0, 1) := o_42 BX12_readsCell rfl rfl
theorem dX12_readsCell_14 : decode cX12_readsCell 14 = .ok (.invokevirtual 192, 3) := o_182 BX12_readsCell rfl rfl rfl
theorem dX12_readsCell_17 : decode cX12_readsCell 17 = .ok (.if_icmp .ge 23, 3) := o_162 BX12_readsCell rfl rfl rfl
theorem dX12_readsCell_20 : decode cX12_readsCell 20 = .ok (.iload_n 1, 1) := o_27 BX12_readsCell rfl rfl
theorem dX12_readsCell_21 : decode cX12_readsCell 21 = .ok (.ifCond .eq 15, 3) := o_153 BX12_readsCell rfl rfl rfl
theorem dX12_readsCell_24 : decode cX12_readsCell 24 = .ok (.aload_n 0, 1) := o_42 BX12_readsCell rfl rfl
theorem dX12_readsCell_25 : decode cX12_readsCell 25 = .ok (.aload_n 0, 1) := o_42 BX12_readsCell rfl rfl
theorem dX12_readsCell_26 : decode cX12_readsCell 26 = .ok (.getfield 31, 3) := o_180 BX12_readsCell rfl rfl rfl
theorem dX12_readsCell_29 : decode cX12_readsCell 29 = .ok (.iload_n 2, 1) := o_28 BX12_readsCell rfl rfl
theorem dX12_readsCell_30 : decode cX12_readsCell 30 = .ok (.invokevirtual 195, 3) := o_182 BX12_readsCell rfl rfl rfl
theorem dX12_readsCell_33 : decode cX12_readsCell 33 = .ok (.ifCond .ge 7, 3) := o_156 BX12_readsCell rfl rfl rfl
theorem dX12_readsCell_36 : decode cX12_readsCell 36 = .ok (.iconst 1, 1) := o_4 BX12_readsCell rfl rfl
theorem dX12_readsCell_37 : decode cX12_readsCell 37 = .ok (.goto 4, 3) := o_167 BX12_readsCell rfl rfl rfl
theorem dX12_readsCell_40 : decode cX12_readsCell 40 = .ok (.iconst 0, 1) := o_3 BX12_readsCell rfl rfl
theorem dX12_readsCell_41 : decode cX12_readsCell 41 = .ok (.istore_n 3, 1) := o_62 BX12_readsCell rfl rfl
theorem dX12_readsCell_42 : decode cX12_readsCell 42 = .ok (.iconst 0, 1) := o_3 BX12_readsCell rfl rfl
theorem dX12_readsCell_43 : decode cX12_readsCell 43 = .ok (.istore 4, 2) := o_54 BX12_readsCell rfl rfl rfl
theorem dX12_readsCell_45 : decode cX12_readsCell 45 = .ok (.iload 4, 2) := o_21 BX12_readsCell rfl rfl rfl
theorem dX12_readsCell_47 : decode cX12_readsCell 47 = .ok (.aload_n 0, 1) := o_42 BX12_readsCell rfl rfl
theorem dX12_readsCell_48 : decode cX12_readsCell 48 = .ok (.getfield 199, 3) := o_180 BX12_readsCell rfl rfl rfl
theorem dX12_readsCell_51 : decode cX12_readsCell 51 = .ok (.if_icmp .ge 34, 3) := o_162 BX12_readsCell rfl rfl rfl
theorem dX12_readsCell_54 : decode cX12_readsCell 54 = .ok (.iload_n 1, 1) := o_27 BX12_readsCell rfl rfl
theorem dX12_readsCell_55 : decode cX12_readsCell 55 = .ok (.ifCond .eq 30, 3) := o_153 BX12_readsCell rfl rfl rfl
theorem dX12_readsCell_58 : decode cX12_readsCell 58 = .ok (.iload_n 3, 1) := o_29 BX12_readsCell rfl rfl
theorem dX12_readsCell_59 : decode cX12_readsCell 59 = .ok (.ifCond .eq 18, 3) := o_153 BX12_readsCell rfl rfl rfl
theorem dX12_readsCell_62 : decode cX12_readsCell 62 = .ok (.aload_n 0, 1) := o_42 BX12_readsCell rfl rfl
theorem dX12_readsCell_63 : decode cX12_readsCell 63 = .ok (.getfield 43, 3) := o_180 BX12_readsCell rfl rfl rfl
theorem dX12_readsCell_66 : decode cX12_readsCell 66 = .ok (.iload 4, 2) := o_21 BX12_readsCell rfl rfl rfl
theorem dX12_readsCell_68 : decode cX12_readsCell 68 = .ok (.iaload, 1) := o_46 BX12_readsCell rfl rfl
theorem dX12_readsCell_69 : decode cX12_readsCell 69 = .ok (.iload_n 2, 1) := o_28 BX12_readsCell rfl rfl
theorem dX12_readsCell_70 : decode cX12_readsCell 70 = .ok (.if_icmp .eq 7, 3) := o_159 BX12_readsCell rfl rfl rfl
theorem dX12_readsCell_73 : decode cX12_readsCell 73 = .ok (.iconst 1, 1) := o_4 BX12_readsCell rfl rfl
theorem dX12_readsCell_74 : decode cX12_readsCell 74 = .ok (.goto 4, 3) := o_167 BX12_readsCell rfl rfl rfl
theorem dX12_readsCell_77 : decode cX12_readsCell 77 = .ok (.iconst 0, 1) := o_3 BX12_readsCell rfl rfl
theorem dX12_readsCell_78 : decode cX12_readsCell 78 = .ok (.istore_n 3, 1) := o_62 BX12_readsCell rfl rfl
theorem dX12_readsCell_79 : decode cX12_readsCell 79 = .ok (.iinc 4 1, 3) := o_132 BX12_readsCell rfl rfl rfl rfl
theorem dX12_readsCell_82 : decode cX12_readsCell 82 = .ok (.goto (-37), 3) := o_167 BX12_readsCell rfl rfl rfl
theorem dX12_readsCell_85 : decode cX12_readsCell 85 = .ok (.aload_n 0, 1) := o_42 BX12_readsCell rfl rfl
theorem dX12_readsCell_86 : decode cX12_readsCell 86 = .ok (.dup, 1) := o_89 BX12_readsCell rfl rfl
theorem dX12_readsCell_87 : decode cX12_readsCell 87 = .ok (.getfield 139, 3) := o_180 BX12_readsCell rfl rfl rfl
theorem dX12_readsCell_90 : decode cX12_readsCell 90 = .ok (.iload_n 3, 1) := o_29 BX12_readsCell rfl rfl
theorem dX12_readsCell_91 : decode cX12_readsCell 91 = .ok (.ifCond .ne 7, 3) := o_154 BX12_readsCell rfl rfl rfl
theorem dX12_readsCell_94 : decode cX12_readsCell 94 = .ok (.iconst 1, 1) := o_4 BX12_readsCell rfl rfl
theorem dX12_readsCell_95 : decode cX12_readsCell 95 = .ok (.goto 4, 3) := o_167 BX12_readsCell rfl rfl rfl
theorem dX12_readsCell_98 : decode cX12_readsCell 98 = .ok (.iconst 0, 1) := o_3 BX12_readsCell rfl rfl
theorem dX12_readsCell_99 : decode cX12_readsCell 99 = .ok (.invokestatic 154, 3) := o_184 BX12_readsCell rfl rfl rfl
theorem dX12_readsCell_102 : decode cX12_readsCell 102 = .ok (.isub, 1) := o_100 BX12_readsCell rfl rfl
theorem dX12_readsCell_103 : decode cX12_readsCell 103 = .ok (.putfield 139, 3) := o_181 BX12_readsCell rfl rfl rfl
theorem dX12_readsCell_106 : decode cX12_readsCell 106 = .ok (.iload_n 3, 1) := o_29 BX12_readsCell rfl rfl
theorem dX12_readsCell_107 : decode cX12_readsCell 107 = .ok (.ifCond .eq 7, 3) := o_153 BX12_readsCell rfl rfl rfl
theorem dX12_readsCell_110 : decode cX12_readsCell 110 = .ok (.iload_n 2, 1) := o_28 BX12_readsCell rfl rfl
theorem dX12_readsCell_111 : decode cX12_readsCell 111 = .ok (.goto 4, 3) := o_167 BX12_readsCell rfl rfl rfl
theorem dX12_readsCell_114 : decode cX12_readsCell 114 = .ok (.iconst (-1), 1) := o_2 BX12_readsCell rfl rfl
theorem dX12_readsCell_115 : decode cX12_readsCell 115 = .ok (.ireturn, 1) := o_172 BX12_readsCell rfl rfl
theorem dX12_readsHearse_0 : decode cX12_readsHearse 0 = .ok (.aload_n 0, 1) := o_42 BX12_readsHearse rfl rfl
theorem dX12_readsHearse_1 : decode cX12_readsHearse 1 = .ok (.getfield 122, 3) := o_180 BX12_readsHearse rfl rfl rfl
theorem dX12_readsHearse_4 : decode cX12_readsHearse 4 = .ok (.aload_n 0, 1) := o_42 BX12_readsHearse rfl rfl
theorem dX12_readsHearse_5 : decode cX12_readsHearse 5 = .ok (.getfield 199, 3) := o_180 BX12_readsHearse rfl rfl rfl
theorem dX12_readsHearse_8 : decode cX12_readsHearse 8 = .ok (.iadd, 1) := o_96 BX12_readsHearse rfl rfl
theorem dX12_readsHearse_9 : decode cX12_readsHearse 9 = .ok (.bipush 6, 2) := o_16 BX12_readsHearse rfl rfl rfl
theorem dX12_readsHearse_11 : decode cX12_readsHearse 11 = .ok (.if_icmp .ne 5, 3) := o_160 BX12_readsHearse rfl rfl rfl
theorem dX12_readsHearse_14 : decode cX12_readsHearse 14 = .ok (.iconst 0, 1) := o_3 BX12_readsHearse rfl rfl
theorem dX12_readsHearse_15 : decode cX12_readsHearse 15 = .ok (.ireturn, 1) := o_172 BX12_readsHearse rfl rfl
theorem dX12_readsHearse_16 : decode cX12_readsHearse 16 = .ok (.aload_n 0, 1) := o_42 BX12_readsHearse rfl rfl
theorem dX12_readsHearse_17 : decode cX12_readsHearse 17 = .ok (.iconst 1, 1) := o_4 BX12_readsHearse rfl rfl
theorem dX12_readsHearse_18 : decode cX12_readsHearse 18 = .ok (.invokevirtual 202, 3) := o_182 BX12_readsHearse rfl rfl rfl
theorem dX12_readsHearse_21 : decode cX12_readsHearse 21 = .ok (.istore_n 1, 1) := o_60 BX12_readsHearse rfl rfl
theorem dX12_readsHearse_22 : decode cX12_readsHearse 22 = .ok (.aload_n 0, 1) := o_42 BX12_readsHearse rfl rfl
theorem dX12_readsHearse_23 : decode cX12_readsHearse 23 = .ok (.getfield 43, 3) := o_180 BX12_readsHearse rfl rfl rfl
theorem dX12_readsHearse_26 : decode cX12_readsHearse 26 = .ok (.aload_n 0, 1) := o_42 BX12_readsHearse rfl rfl
theorem dX12_readsHearse_27 : decode cX12_readsHearse 27 = .ok (.getfield 199, 3) := o_180 BX12_readsHearse rfl rfl rfl
theorem dX12_readsHearse_30 : decode cX12_readsHearse 30 = .ok (.iload_n 1, 1) := o_27 BX12_readsHearse rfl rfl
theorem dX12_readsHearse_31 : decode cX12_readsHearse 31 = .ok (.iastore, 1) := o_79 BX12_readsHearse rfl rfl
theorem dX12_readsHearse_32 : decode cX12_readsHearse 32 = .ok (.aload_n 0, 1) := o_42 BX12_readsHearse rfl rfl
theorem dX12_readsHearse_33 : decode cX12_readsHearse 33 = .ok (.dup, 1) := o_89 BX12_readsHearse rfl rfl
theorem dX12_readsHearse_34 : decode cX12_readsHearse 34 = .ok (.getfield 199, 3) := o_180 BX12_readsHearse rfl rfl rfl
theorem dX12_readsHearse_37 : decode cX12_readsHearse 37 = .ok (.iconst 1, 1) := o_4 BX12_readsHearse rfl rfl
theorem dX12_readsHearse_38 : decode cX12_readsHearse 38 = .ok (.iadd, 1) := o_96 BX12_readsHearse rfl rfl
theorem dX12_readsHearse_39 : decode cX12_readsHearse 39 = .ok (.putfield 199, 3) := o_181 BX12_readsHearse rfl rfl rfl
theorem dX12_readsHearse_42 : decode cX12_readsHearse 42 = .ok (.iload_n 1, 1) := o_27 BX12_readsHearse rfl rfl
theorem dX12_readsHearse_43 : decode cX12_readsHearse 43 = .ok (.ifCond .lt 7, 3) := o_155 BX12_readsHearse rfl rfl rfl
theorem dX12_readsHearse_46 : decode cX12_readsHearse 46 = .ok (.iconst 1, 1) := o_4 BX12_readsHearse rfl rfl
theorem dX12_readsHearse_47 : decode cX12_readsHearse 47 = .ok (.goto 4, 3) := o_167 BX12_readsHearse rfl rfl rfl
theorem dX12_readsHearse_50 : decode cX12_readsHearse 50 = .ok (.iconst 0, 1) := o_3 BX12_readsHearse rfl rfl
theorem dX12_readsHearse_51 : decode cX12_readsHearse 51 = .ok (.ireturn, 1) := o_172 BX12_readsHearse rfl rfl
theorem dX12_readsMourner_0 : decode cX12_readsMourner 0 = .ok (.aload_n 0, 1) := o_42 BX12_readsMourner rfl rfl
theorem dX12_readsMourner_1 : decode cX12_readsMourner 1 = .ok (.getfield 129, 3) := o_180 BX12_readsMourner rfl rfl rfl
theorem dX12_readsMourner_4 : decode cX12_readsMourner 4 = .ok (.aload_n 0, 1) := o_42 BX12_readsMourner rfl rfl
theorem dX12_readsMourner_5 : decode cX12_readsMourner 5 = .ok (.getfield 199, 3) := o_180 BX12_readsMourner rfl rfl rfl
theorem dX12_readsMourner_8 : decode cX12_readsMourner 8 = .ok (.iadd, 1) := o_96 BX12_readsMourner rfl rfl
theorem dX12_readsMourner_9 : decode cX12_readsMourner 9 = .ok (.bipush 8, 2) := o_16 BX12_readsMourner rfl rfl rfl
theorem dX12_readsMourner_11 : decode cX12_readsMourner 11 = .ok (.if_icmp .ne 5, 3) := o_160 BX12_readsMourner rfl rfl rfl
theorem dX12_readsMourner_14 : decode cX12_readsMourner 14 = .ok (.iconst 0, 1) := o_3 BX12_readsMourner rfl rfl
theorem dX12_readsMourner_15 : decode cX12_readsMourner 15 = .ok (.ireturn, 1) := o_172 BX12_readsMourner rfl rfl
theorem dX12_readsMourner_16 : decode cX12_readsMourner 16 = .ok (.aload_n 0, 1) := o_42 BX12_readsMourner rfl rfl
theorem dX12_readsMourner_17 : decode cX12_readsMourner 17 = .ok (.iconst 0, 1) := o_3 BX12_readsMourner rfl rfl
theorem dX12_readsMourner_18 : decode cX12_readsMourner 18 = .ok (.invokevirtual 202, 3) := o_182 BX12_readsMourner rfl rfl rfl
theorem dX12_readsMourner_21 : decode cX12_readsMourner 21 = .ok (.istore_n 1, 1) := o_60 BX12_readsMourner rfl rfl
theorem dX12_readsMourner_22 : decode cX12_readsMourner 22 = .ok (.aload_n 0, 1) := o_42 BX12_readsMourner rfl rfl
theorem dX12_readsMourner_23 : decode cX12_readsMourner 23 = .ok (.getfield 43, 3) := o_180 BX12_readsMourner rfl rfl rfl
theorem dX12_readsMourner_26 : decode cX12_readsMourner 26 = .ok (.iconst 2, 1) := o_5 BX12_readsMourner rfl rfl
theorem dX12_readsMourner_27 : decode cX12_readsMourner 27 = .ok (.aload_n 0, 1) := o_42 BX12_readsMourner rfl rfl
theorem dX12_readsMourner_28 : decode cX12_readsMourner 28 = .ok (.getfield 199, 3) := o_180 BX12_readsMourner rfl rfl rfl
theorem dX12_readsMourner_31 : decode cX12_readsMourner 31 = .ok (.imul, 1) := o_104 BX12_readsMourner rfl rfl
theorem dX12_readsMourner_32 : decode cX12_readsMourner 32 = .ok (.iload_n 1, 1) := o_27 BX12_readsMourner rfl rfl
theorem dX12_readsMourner_33 : decode cX12_readsMourner 33 = .ok (.iastore, 1) := o_79 BX12_readsMourner rfl rfl
theorem dX12_readsMourner_34 : decode cX12_readsMourner 34 = .ok (.aload_n 0, 1) := o_42 BX12_readsMourner rfl rfl
theorem dX12_readsMourner_35 : decode cX12_readsMourner 35 = .ok (.getfield 43, 3) := o_180 BX12_readsMourner rfl rfl rfl
theorem dX12_readsMourner_38 : decode cX12_readsMourner 38 = .ok (.iconst 2, 1) := o_5 BX12_readsMourner rfl rfl
theorem dX12_readsMourner_39 : decode cX12_readsMourner 39 = .ok (.aload_n 0, 1) := o_42 BX12_readsMourner rfl rfl
theorem dX12_readsMourner_40 : decode cX12_readsMourner 40 = .ok (.getfield 199, 3) := o_180 BX12_readsMourner rfl rfl rfl
theorem dX12_readsMourner_43 : decode cX12_readsMourner 43 = .ok (.imul, 1) := o_104 BX12_readsMourner rfl rfl
theorem dX12_readsMourner_44 : decode cX12_readsMourner 44 = .ok (.iconst 1, 1) := o_4 BX12_readsMourner rfl rfl
theorem dX12_readsMourner_45 : decode cX12_readsMourner 45 = .ok (.iadd, 1) := o_96 BX12_readsMourner rfl rfl
theorem dX12_readsMourner_46 : decode cX12_readsMourner 46 = .ok (.iload_n 1, 1) := o_27 BX12_readsMourner rfl rfl
theorem dX12_readsMourner_47 : decode cX12_readsMourner 47 = .ok (.ifCond .ge 7, 3) := o_156 BX12_readsMourner rfl rfl rfl
theorem dX12_readsMourner_50 : decode cX12_readsMourner 50 = .ok (.iconst (-1), 1) := o_2 BX12_readsMourner rfl rfl
theorem dX12_readsMourner_51 : decode cX12_readsMourner 51 = .ok (.goto 17, 3) := o_167 BX12_readsMourner rfl rfl rfl
theorem dX12_readsMourner_54 : decode cX12_readsMourner 54 = .ok (.aload_n 0, 1) := o_42 BX12_readsMourner rfl rfl
theorem dX12_readsMourner_55 : decode cX12_readsMourner 55 = .ok (.ldc 205, 2) := o_18 BX12_readsMourner rfl rfl rfl
theorem dX12_readsMourner_57 : decode cX12_readsMourner 57 = .ok (.iconst 0, 1) := o_3 BX12_readsMourner rfl rfl
theorem dX12_readsMourner_58 : decode cX12_readsMourner 58 = .ok (.aload_n 0, 1) := o_42 BX12_readsMourner rfl rfl
theorem dX12_readsMourner_59 : decode cX12_readsMourner 59 = .ok (.getfield 122, 3) := o_180 BX12_readsMourner rfl rfl rfl
theorem dX12_readsMourner_62 : decode cX12_readsMourner 62 = .ok (.invokevirtual 207, 3) := o_182 BX12_readsMourner rfl rfl rfl
theorem dX12_readsMourner_65 : decode cX12_readsMourner 65 = .ok (.invokevirtual 182, 3) := o_182 BX12_readsMourner rfl rfl rfl
theorem dX12_readsMourner_68 : decode cX12_readsMourner 68 = .ok (.iastore, 1) := o_79 BX12_readsMourner rfl rfl
theorem dX12_readsMourner_69 : decode cX12_readsMourner 69 = .ok (.aload_n 0, 1) := o_42 BX12_readsMourner rfl rfl
theorem dX12_readsMourner_70 : decode cX12_readsMourner 70 = .ok (.dup, 1) := o_89 BX12_readsMourner rfl rfl
theorem dX12_readsMourner_71 : decode cX12_readsMourner 71 = .ok (.getfield 199, 3) := o_180 BX12_readsMourner rfl rfl rfl
theorem dX12_readsMourner_74 : decode cX12_readsMourner 74 = .ok (.iconst 1, 1) := o_4 BX12_readsMourner rfl rfl
theorem dX12_readsMourner_75 : decode cX12_readsMourner 75 = .ok (.iadd, 1) := o_96 BX12_readsMourner rfl rfl
theorem dX12_readsMourner_76 : decode cX12_readsMourner 76 = .ok (.putfield 199, 3) := o_181 BX12_readsMourner rfl rfl rfl
theorem dX12_readsMourner_79 : decode cX12_readsMourner 79 = .ok (.aload_n 0, 1) := o_42 BX12_readsMourner rfl rfl
theorem dX12_readsMourner_80 : decode cX12_readsMourner 80 = .ok (.getfield 43, 3) := o_180 BX12_readsMourner rfl rfl rfl
theorem dX12_readsMourner_83 : decode cX12_readsMourner 83 = .ok (.iconst 2, 1) := o_5 BX12_readsMourner rfl rfl
theorem dX12_readsMourner_84 : decode cX12_readsMourner 84 = .ok (.aload_n 0, 1) := o_42 BX12_readsMourner rfl rfl
theorem dX12_readsMourner_85 : decode cX12_readsMourner 85 = .ok (.getfield 199, 3) := o_180 BX12_readsMourner rfl rfl rfl
theorem dX12_readsMourner_88 : decode cX12_readsMourner 88 = .ok (.imul, 1) := o_104 BX12_readsMourner rfl rfl
theorem dX12_readsMourner_89 : decode cX12_readsMourner 89 = .ok (.iconst 1, 1) := o_4 BX12_readsMourner rfl rfl
theorem dX12_readsMourner_90 : decode cX12_readsMourner 90 = .ok (.isub, 1) := o_100 BX12_readsMourner rfl rfl
theorem dX12_readsMourner_91 : decode cX12_readsMourner 91 = .ok (.iaload, 1) := o_46 BX12_readsMourner rfl rfl
theorem dX12_readsMourner_92 : decode cX12_readsMourner 92 = .ok (.ifCond .lt 7, 3) := o_155 BX12_readsMourner rfl rfl rfl
theorem dX12_readsMourner_95 : decode cX12_readsMourner 95 = .ok (.iconst 1, 1) := o_4 BX12_readsMourner rfl rfl
theorem dX12_readsMourner_96 : decode cX12_readsMourner 96 = .ok (.goto 4, 3) := o_167 BX12_readsMourner rfl rfl rfl
theorem dX12_readsMourner_99 : decode cX12_readsMourner 99 = .ok (.iconst 0, 1) := o_3 BX12_readsMourner rfl rfl
theorem dX12_readsMourner_100 : decode cX12_readsMourner 100 = .ok (.ireturn, 1) := o_172 BX12_readsMourner rfl rfl
theorem dX12_isNew_0 : decode cX12_isNew 0 = .ok (.aload_n 0, 1) := o_42 BX12_isNew rfl rfl
theorem dX12_isNew_1 : decode cX12_isNew 1 = .ok (.aload_n 0, 1) := o_42 BX12_isNew rfl rfl
theorem dX12_isNew_2 : decode cX12_isNew 2 = .ok (.getfield 199, 3) := o_180 BX12_isNew rfl rfl rfl
theorem dX12_isNew_5 : decode cX12_isNew 5 = .ok (.ifCond .le 7, 3) := o_158 BX12_isNew rfl rfl rfl
theorem dX12_isNew_8 : decode cX12_isNew 8 = .ok (.iconst 0, 1) := o_3 BX12_isNew rfl rfl
theorem dX12_isNew_9 : decode cX12_isNew 9 = .ok (.goto 7, 3) := o_167 BX12_isNew rfl rfl rfl
theorem dX12_isNew_12 : decode cX12_isNew 12 = .ok (.aload_n 0, 1) := o_42 BX12_isNew rfl rfl
theorem dX12_isNew_13 : decode cX12_isNew 13 = .ok (.getfield 186, 3) := o_180 BX12_isNew rfl rfl rfl
theorem dX12_isNew_16 : decode cX12_isNew 16 = .ok (.putfield 186, 3) := o_181 BX12_isNew rfl rfl rfl
theorem dX12_isNew_19 : decode cX12_isNew 19 = .ok (.aload_n 0, 1) := o_42 BX12_isNew rfl rfl
theorem dX12_isNew_20 : decode cX12_isNew 20 = .ok (.dup, 1) := o_89 BX12_isNew rfl rfl
theorem dX12_isNew_21 : decode cX12_isNew 21 = .ok (.getfield 211, 3) := o_180 BX12_isNew rfl rfl rfl
theorem dX12_isNew_24 : decode cX12_isNew 24 = .ok (.aload_n 0, 1) := o_42 BX12_isNew rfl rfl
theorem dX12_isNew_25 : decode cX12_isNew 25 = .ok (.getfield 199, 3) := o_180 BX12_isNew rfl rfl rfl
theorem dX12_isNew_28 : decode cX12_isNew 28 = .ok (.ifCond .le 7, 3) := o_158 BX12_isNew rfl rfl rfl
theorem dX12_isNew_31 : decode cX12_isNew 31 = .ok (.iconst 1, 1) := o_4 BX12_isNew rfl rfl
theorem dX12_isNew_32 : decode cX12_isNew 32 = .ok (.goto 4, 3) := o_167 BX12_isNew rfl rfl rfl
theorem dX12_isNew_35 : decode cX12_isNew 35 = .ok (.iconst 0, 1) := o_3 BX12_isNew rfl rfl
theorem dX12_isNew_36 : decode cX12_isNew 36 = .ok (.invokestatic 154, 3) := o_184 BX12_isNew rfl rfl rfl
theorem dX12_isNew_39 : decode cX12_isNew 39 = .ok (.iadd, 1) := o_96 BX12_isNew rfl rfl
theorem dX12_isNew_40 : decode cX12_isNew 40 = .ok (.putfield 211, 3) := o_181 BX12_isNew rfl rfl rfl
theorem dX12_isNew_43 : decode cX12_isNew 43 = .ok (.aload_n 0, 1) := o_42 BX12_isNew rfl rfl
theorem dX12_isNew_44 : decode cX12_isNew 44 = .ok (.getfield 199, 3) := o_180 BX12_isNew rfl rfl rfl
theorem dX12_isNew_47 : decode cX12_isNew 47 = .ok (.ireturn, 1) := o_172 BX12_isNew rfl rfl
theorem dX12_hearses_0 : decode cX12_hearses 0 = .ok (.aload_n 0, 1) := o_42 BX12_hearses rfl rfl
theorem dX12_hearses_1 : decode cX12_hearses 1 = .ok (.iconst 0, 1) := o_3 BX12_hearses rfl rfl
theorem dX12_hearses_2 : decode cX12_hearses 2 = .ok (.putfield 112, 3) := o_181 BX12_hearses rfl rfl rfl
theorem dX12_hearses_5 : decode cX12_hearses 5 = .ok (.aload_n 0, 1) := o_42 BX12_hearses rfl rfl
theorem dX12_hearses_6 : decode cX12_hearses 6 = .ok (.bipush 17, 2) := o_16 BX12_hearses rfl rfl rfl
theorem dX12_hearses_8 : decode cX12_hearses 8 = .ok (.invokevirtual 176, 3) := o_182 BX12_hearses rfl rfl rfl
theorem dX12_hearses_11 : decode cX12_hearses 11 = .ok (.istore_n 1, 1) := o_60 BX12_hearses rfl rfl
theorem dX12_hearses_12 : decode cX12_hearses 12 = .ok (.aload_n 0, 1) := o_42 BX12_hearses rfl rfl
theorem dX12_hearses_13 : decode cX12_hearses 13 = .ok (.iconst 0, 1) := o_3 BX12_hearses rfl rfl
theorem dX12_hearses_14 : decode cX12_hearses 14 = .ok (.putfield 199, 3) := o_181 BX12_hearses rfl rfl rfl
theorem dX12_hearses_17 : decode cX12_hearses 17 = .ok (.iconst 1, 1) := o_4 BX12_hearses rfl rfl
theorem dX12_hearses_18 : decode cX12_hearses 18 = .ok (.istore_n 2, 1) := o_61 BX12_hearses rfl rfl
theorem dX12_hearses_19 : decode cX12_hearses 19 = .ok (.iload_n 1, 1) := o_27 BX12_hearses rfl rfl
theorem dX12_hearses_20 : decode cX12_hearses 20 = .ok (.ifCond .le 7, 3) := o_158 BX12_hearses rfl rfl rfl
theorem dX12_hearses_23 : decode cX12_hearses 23 = .ok (.iconst 1, 1) := o_4 BX12_hearses rfl rfl
theorem dX12_hearses_24 : decode cX12_hearses 24 = .ok (.goto 4, 3) := o_167 BX12_hearses rfl rfl rfl
theorem dX12_hearses_27 : decode cX12_hearses 27 = .ok (.iconst 0, 1) := o_3 BX12_hearses rfl rfl
theorem dX12_hearses_28 : decode cX12_hearses 28 = .ok (.istore_n 3, 1) := o_62 BX12_hearses rfl rfl
theorem dX12_hearses_29 : decode cX12_hearses 29 = .ok (.iload_n 3, 1) := o_29 BX12_hearses rfl rfl
theorem dX12_hearses_30 : decode cX12_hearses 30 = .ok (.ifCond .eq 30, 3) := o_153 BX12_hearses rfl rfl rfl
theorem dX12_hearses_33 : decode cX12_hearses 33 = .ok (.aload_n 0, 1) := o_42 BX12_hearses rfl rfl
theorem dX12_hearses_34 : decode cX12_hearses 34 = .ok (.invokevirtual 214, 3) := o_182 BX12_hearses rfl rfl rfl
theorem dX12_hearses_37 : decode cX12_hearses 37 = .ok (.istore_n 2, 1) := o_61 BX12_hearses rfl rfl
theorem dX12_hearses_38 : decode cX12_hearses 38 = .ok (.iload_n 2, 1) := o_28 BX12_hearses rfl rfl
theorem dX12_hearses_39 : decode cX12_hearses 39 = .ok (.ifCond .eq 16, 3) := o_153 BX12_hearses rfl rfl rfl
theorem dX12_hearses_42 : decode cX12_hearses 42 = .ok (.aload_n 0, 1) := o_42 BX12_hearses rfl rfl
theorem dX12_hearses_43 : decode cX12_hearses 43 = .ok (.bipush 59, 2) := o_16 BX12_hearses rfl rfl rfl
theorem dX12_hearses_45 : decode cX12_hearses 45 = .ok (.invokevirtual 217, 3) := o_182 BX12_hearses rfl rfl rfl
theorem dX12_hearses_48 : decode cX12_hearses 48 = .ok (.ifCond .eq 7, 3) := o_153 BX12_hearses rfl rfl rfl
theorem dX12_hearses_51 : decode cX12_hearses 51 = .ok (.iconst 1, 1) := o_4 BX12_hearses rfl rfl
theorem dX12_hearses_52 : decode cX12_hearses 52 = .ok (.goto 4, 3) := o_167 BX12_hearses rfl rfl rfl
theorem dX12_hearses_55 : decode cX12_hearses 55 = .ok (.iconst 0, 1) := o_3 BX12_hearses rfl rfl
theorem dX12_hearses_56 : decode cX12_hearses 56 = .ok (.istore_n 3, 1) := o_62 BX12_hearses rfl rfl
theorem dX12_hearses_57 : decode cX12_hearses 57 = .ok (.goto (-28), 3) := o_167 BX12_hearses rfl rfl rfl
theorem dX12_hearses_60 : decode cX12_hearses 60 = .ok (.aload_n 0, 1) := o_42 BX12_hearses rfl rfl
theorem dX12_hearses_61 : decode cX12_hearses 61 = .ok (.iload_n 1, 1) := o_27 BX12_hearses rfl rfl
theorem dX12_hearses_62 : decode cX12_hearses 62 = .ok (.bipush 17, 2) := o_16 BX12_hearses rfl rfl rfl
theorem dX12_hearses_64 : decode cX12_hearses 64 = .ok (.iload_n 2, 1) := o_28 BX12_hearses rfl rfl
theorem dX12_hearses_65 : decode cX12_hearses 65 = .ok (.invokevirtual 221, 3) := o_182 BX12_hearses rfl rfl rfl
theorem dX12_hearses_68 : decode cX12_hearses 68 = .ok (.istore 4, 2) := o_54 BX12_hearses rfl rfl rfl
theorem dX12_hearses_70 : decode cX12_hearses 70 = .ok (.iload 4, 2) := o_21 BX12_hearses rfl rfl rfl
theorem dX12_hearses_72 : decode cX12_hearses 72 = .ok (.ifCond .ge 6, 3) := o_156 BX12_hearses rfl rfl rfl
theorem dX12_hearses_75 : decode cX12_hearses 75 = .ok (.iload 4, 2) := o_21 BX12_hearses rfl rfl rfl
theorem dX12_hearses_77 : decode cX12_hearses 77 = .ok (.ireturn, 1) := o_172 BX12_hearses rfl rfl
theorem dX12_hearses_78 : decode cX12_hearses 78 = .ok (.iconst 0, 1) := o_3 BX12_hearses rfl rfl
theorem dX12_hearses_79 : decode cX12_hearses 79 = .ok (.istore 5, 2) := o_54 BX12_hearses rfl rfl rfl
theorem dX12_hearses_81 : decode cX12_hearses 81 = .ok (.iload 5, 2) := o_21 BX12_hearses rfl rfl rfl
theorem dX12_hearses_83 : decode cX12_hearses 83 = .ok (.aload_n 0, 1) := o_42 BX12_hearses rfl rfl
theorem dX12_hearses_84 : decode cX12_hearses 84 = .ok (.getfield 199, 3) := o_180 BX12_hearses rfl rfl rfl
theorem dX12_hearses_87 : decode cX12_hearses 87 = .ok (.if_icmp .ge 48, 3) := o_162 BX12_hearses rfl rfl rfl
theorem dX12_hearses_90 : decode cX12_hearses 90 = .ok (.aload_n 0, 1) := o_42 BX12_hearses rfl rfl
theorem dX12_hearses_91 : decode cX12_hearses 91 = .ok (.getfield 31, 3) := o_180 BX12_hearses rfl rfl rfl
theorem dX12_hearses_94 : decode cX12_hearses 94 = .ok (.aload_n 0, 1) := o_42 BX12_hearses rfl rfl
theorem dX12_hearses_95 : decode cX12_hearses 95 = .ok (.getfield 122, 3) := o_180 BX12_hearses rfl rfl rfl
theorem dX12_hearses_98 : decode cX12_hearses 98 = .ok (.aload_n 0, 1) := o_42 BX12_hearses rfl rfl
theorem dX12_hearses_99 : decode cX12_hearses 99 = .ok (.getfield 43, 3) := o_180 BX12_hearses rfl rfl rfl
theorem dX12_hearses_102 : decode cX12_hearses 102 = .ok (.iload 5, 2) := o_21 BX12_hearses rfl rfl rfl
theorem dX12_hearses_104 : decode cX12_hearses 104 = .ok (.iaload, 1) := o_46 BX12_hearses rfl rfl
theorem dX12_hearses_105 : decode cX12_hearses 105 = .ok (.iastore, 1) := o_79 BX12_hearses rfl rfl
theorem dX12_hearses_106 : decode cX12_hearses 106 = .ok (.aload_n 0, 1) := o_42 BX12_hearses rfl rfl
theorem dX12_hearses_107 : decode cX12_hearses 107 = .ok (.getfield 31, 3) := o_180 BX12_hearses rfl rfl rfl
theorem dX12_hearses_110 : decode cX12_hearses 110 = .ok (.bipush 6, 2) := o_16 BX12_hearses rfl rfl rfl
theorem dX12_hearses_112 : decode cX12_hearses 112 = .ok (.aload_n 0, 1) := o_42 BX12_hearses rfl rfl
theorem dX12_hearses_113 : decode cX12_hearses 113 = .ok (.getfield 122, 3) := o_180 BX12_hearses rfl rfl rfl
theorem dX12_hearses_116 : decode cX12_hearses 116 = .ok (.iadd, 1) := o_96 BX12_hearses rfl rfl
theorem dX12_hearses_117 : decode cX12_hearses 117 = .ok (.iconst 0, 1) := o_3 BX12_hearses rfl rfl
theorem dX12_hearses_118 : decode cX12_hearses 118 = .ok (.iastore, 1) := o_79 BX12_hearses rfl rfl
theorem dX12_hearses_119 : decode cX12_hearses 119 = .ok (.aload_n 0, 1) := o_42 BX12_hearses rfl rfl
theorem dX12_hearses_120 : decode cX12_hearses 120 = .ok (.dup, 1) := o_89 BX12_hearses rfl rfl
theorem dX12_hearses_121 : decode cX12_hearses 121 = .ok (.getfield 122, 3) := o_180 BX12_hearses rfl rfl rfl
theorem dX12_hearses_124 : decode cX12_hearses 124 = .ok (.iconst 1, 1) := o_4 BX12_hearses rfl rfl
theorem dX12_hearses_125 : decode cX12_hearses 125 = .ok (.iadd, 1) := o_96 BX12_hearses rfl rfl
theorem dX12_hearses_126 : decode cX12_hearses 126 = .ok (.putfield 122, 3) := o_181 BX12_hearses rfl rfl rfl
theorem dX12_hearses_129 : decode cX12_hearses 129 = .ok (.iinc 5 1, 3) := o_132 BX12_hearses rfl rfl rfl rfl
theorem dX12_hearses_132 : decode cX12_hearses 132 = .ok (.goto (-51), 3) := o_167 BX12_hearses rfl rfl rfl
theorem dX12_hearses_135 : decode cX12_hearses 135 = .ok (.aload_n 0, 1) := o_42 BX12_hearses rfl rfl
theorem dX12_hearses_136 : decode cX12_hearses 136 = .ok (.invokevirtual 225, 3) := o_182 BX12_hearses rfl rfl rfl
theorem dX12_hearses_139 : decode cX12_hearses 139 = .ok (.ireturn, 1) := o_172 BX12_hearses rfl rfl
theorem dX12_mourners_0 : decode cX12_mourners 0 = .ok (.aload_n 0, 1) := o_42 BX12_mourners rfl rfl
theorem dX12_mourners_1 : decode cX12_mourners 1 = .ok (.iconst 0, 1) := o_3 BX12_mourners rfl rfl
theorem dX12_mourners_2 : decode cX12_mourners 2 = .ok (.putfield 112, 3) := o_181 BX12_mourners rfl rfl rfl
theorem dX12_mourners_5 : decode cX12_mourners 5 = .ok (.aload_n 0, 1) := o_42 BX12_mourners rfl rfl
theorem dX12_mourners_6 : decode cX12_mourners 6 = .ok (.bipush 39, 2) := o_16 BX12_mourners rfl rfl rfl
theorem dX12_mourners_8 : decode cX12_mourners 8 = .ok (.invokevirtual 176, 3) := o_182 BX12_mourners rfl rfl rfl
theorem dX12_mourners_11 : decode cX12_mourners 11 = .ok (.istore_n 1, 1) := o_60 BX12_mourners rfl rfl
theorem dX12_mourners_12 : decode cX12_mourners 12 = .ok (.aload_n 0, 1) := o_42 BX12_mourners rfl rfl
theorem dX12_mourners_13 : decode cX12_mourners 13 = .ok (.iconst 0, 1) := o_3 BX12_mourners rfl rfl
theorem dX12_mourners_14 : decode cX12_mourners 14 = .ok (.putfield 199, 3) := o_181 BX12_mourners rfl rfl rfl
theorem dX12_mourners_17 : decode cX12_mourners 17 = .ok (.iconst 1, 1) := o_4 BX12_mourners rfl rfl
theorem dX12_mourners_18 : decode cX12_mourners 18 = .ok (.istore_n 2, 1) := o_61 BX12_mourners rfl rfl
theorem dX12_mourners_19 : decode cX12_mourners 19 = .ok (.iload_n 1, 1) := o_27 BX12_mourners rfl rfl
theorem dX12_mourners_20 : decode cX12_mourners 20 = .ok (.ifCond .le 7, 3) := o_158 BX12_mourners rfl rfl rfl
theorem dX12_mourners_23 : decode cX12_mourners 23 = .ok (.iconst 1, 1) := o_4 BX12_mourners rfl rfl
theorem dX12_mourners_24 : decode cX12_mourners 24 = .ok (.goto 4, 3) := o_167 BX12_mourners rfl rfl rfl
theorem dX12_mourners_27 : decode cX12_mourners 27 = .ok (.iconst 0, 1) := o_3 BX12_mourners rfl rfl
theorem dX12_mourners_28 : decode cX12_mourners 28 = .ok (.istore_n 3, 1) := o_62 BX12_mourners rfl rfl
theorem dX12_mourners_29 : decode cX12_mourners 29 = .ok (.iload_n 3, 1) := o_29 BX12_mourners rfl rfl
theorem dX12_mourners_30 : decode cX12_mourners 30 = .ok (.ifCond .eq 30, 3) := o_153 BX12_mourners rfl rfl rfl
theorem dX12_mourners_33 : decode cX12_mourners 33 = .ok (.aload_n 0, 1) := o_42 BX12_mourners rfl rfl
theorem dX12_mourners_34 : decode cX12_mourners 34 = .ok (.invokevirtual 228, 3) := o_182 BX12_mourners rfl rfl rfl
theorem dX12_mourners_37 : decode cX12_mourners 37 = .ok (.istore_n 2, 1) := o_61 BX12_mourners rfl rfl
theorem dX12_mourners_38 : decode cX12_mourners 38 = .ok (.iload_n 2, 1) := o_28 BX12_mourners rfl rfl
theorem dX12_mourners_39 : decode cX12_mourners 39 = .ok (.ifCond .eq 16, 3) := o_153 BX12_mourners rfl rfl rfl
theorem dX12_mourners_42 : decode cX12_mourners 42 = .ok (.aload_n 0, 1) := o_42 BX12_mourners rfl rfl
theorem dX12_mourners_43 : decode cX12_mourners 43 = .ok (.bipush 59, 2) := o_16 BX12_mourners rfl rfl rfl
theorem dX12_mourners_45 : decode cX12_mourners 45 = .ok (.invokevirtual 217, 3) := o_182 BX12_mourners rfl rfl rfl
theorem dX12_mourners_48 : decode cX12_mourners 48 = .ok (.ifCond .eq 7, 3) := o_153 BX12_mourners rfl rfl rfl
theorem dX12_mourners_51 : decode cX12_mourners 51 = .ok (.iconst 1, 1) := o_4 BX12_mourners rfl rfl
theorem dX12_mourners_52 : decode cX12_mourners 52 = .ok (.goto 4, 3) := o_167 BX12_mourners rfl rfl rfl
theorem dX12_mourners_55 : decode cX12_mourners 55 = .ok (.iconst 0, 1) := o_3 BX12_mourners rfl rfl
theorem dX12_mourners_56 : decode cX12_mourners 56 = .ok (.istore_n 3, 1) := o_62 BX12_mourners rfl rfl
theorem dX12_mourners_57 : decode cX12_mourners 57 = .ok (.goto (-28), 3) := o_167 BX12_mourners rfl rfl rfl
theorem dX12_mourners_60 : decode cX12_mourners 60 = .ok (.aload_n 0, 1) := o_42 BX12_mourners rfl rfl
theorem dX12_mourners_61 : decode cX12_mourners 61 = .ok (.iload_n 1, 1) := o_27 BX12_mourners rfl rfl
theorem dX12_mourners_62 : decode cX12_mourners 62 = .ok (.bipush 39, 2) := o_16 BX12_mourners rfl rfl rfl
theorem dX12_mourners_64 : decode cX12_mourners 64 = .ok (.iload_n 2, 1) := o_28 BX12_mourners rfl rfl
theorem dX12_mourners_65 : decode cX12_mourners 65 = .ok (.invokevirtual 221, 3) := o_182 BX12_mourners rfl rfl rfl
theorem dX12_mourners_68 : decode cX12_mourners 68 = .ok (.istore 4, 2) := o_54 BX12_mourners rfl rfl rfl
theorem dX12_mourners_70 : decode cX12_mourners 70 = .ok (.iload 4, 2) := o_21 BX12_mourners rfl rfl rfl
theorem dX12_mourners_72 : decode cX12_mourners 72 = .ok (.ifCond .ge 6, 3) := o_156 BX12_mourners rfl rfl rfl
theorem dX12_mourners_75 : decode cX12_mourners 75 = .ok (.iload 4, 2) := o_21 BX12_mourners rfl rfl rfl
theorem dX12_mourners_77 : decode cX12_mourners 77 = .ok (.ireturn, 1) := o_172 BX12_mourners rfl rfl
theorem dX12_mourners_78 : decode cX12_mourners 78 = .ok (.iconst 0, 1) := o_3 BX12_mourners rfl rfl
theorem dX12_mourners_79 : decode cX12_mourners 79 = .ok (.istore 5, 2) := o_54 BX12_mourners rfl rfl rfl
theorem dX12_mourners_81 : decode cX12_mourners 81 = .ok (.iload 5, 2) := o_21 BX12_mourners rfl rfl rfl
theorem dX12_mourners_83 : decode cX12_mourners 83 = .ok (.aload_n 0, 1) := o_42 BX12_mourners rfl rfl
theorem dX12_mourners_84 : decode cX12_mourners 84 = .ok (.getfield 199, 3) := o_180 BX12_mourners rfl rfl rfl
theorem dX12_mourners_87 : decode cX12_mourners 87 = .ok (.if_icmp .ge 86, 3) := o_162 BX12_mourners rfl rfl rfl
theorem dX12_mourners_90 : decode cX12_mourners 90 = .ok (.aload_n 0, 1) := o_42 BX12_mourners rfl rfl
theorem dX12_mourners_91 : decode cX12_mourners 91 = .ok (.getfield 31, 3) := o_180 BX12_mourners rfl rfl rfl
theorem dX12_mourners_94 : decode cX12_mourners 94 = .ok (.bipush 13, 2) := o_16 BX12_mourners rfl rfl rfl
theorem dX12_mourners_96 : decode cX12_mourners 96 = .ok (.aload_n 0, 1) := o_42 BX12_mourners rfl rfl
theorem dX12_mourners_97 : decode cX12_mourners 97 = .ok (.getfield 129, 3) := o_180 BX12_mourners rfl rfl rfl
theorem dX12_mourners_100 : decode cX12_mourners 100 = .ok (.iadd, 1) := o_96 BX12_mourners rfl rfl
theorem dX12_mourners_101 : decode cX12_mourners 101 = .ok (.aload_n 0, 1) := o_42 BX12_mourners rfl rfl
theorem dX12_mourners_102 : decode cX12_mourners 102 = .ok (.getfield 43, 3) := o_180 BX12_mourners rfl rfl rfl
theorem dX12_mourners_105 : decode cX12_mourners 105 = .ok (.iconst 2, 1) := o_5 BX12_mourners rfl rfl
theorem dX12_mourners_106 : decode cX12_mourners 106 = .ok (.iload 5, 2) := o_21 BX12_mourners rfl rfl rfl
theorem dX12_mourners_108 : decode cX12_mourners 108 = .ok (.imul, 1) := o_104 BX12_mourners rfl rfl
theorem dX12_mourners_109 : decode cX12_mourners 109 = .ok (.iaload, 1) := o_46 BX12_mourners rfl rfl
theorem dX12_mourners_110 : decode cX12_mourners 110 = .ok (.iastore, 1) := o_79 BX12_mourners rfl rfl
theorem dX12_mourners_111 : decode cX12_mourners 111 = .ok (.aload_n 0, 1) := o_42 BX12_mourners rfl rfl
theorem dX12_mourners_112 : decode cX12_mourners 112 = .ok (.getfield 24, 3) := o_180 BX12_mourners rfl rfl rfl
theorem dX12_mourners_115 : decode cX12_mourners 115 = .ok (.aload_n 0, 1) := o_42 BX12_mourners rfl rfl
theorem dX12_mourners_116 : decode cX12_mourners 116 = .ok (.getfield 129, 3) := o_180 BX12_mourners rfl rfl rfl
theorem dX12_mourners_119 : decode cX12_mourners 119 = .ok (.aload_n 0, 1) := o_42 BX12_mourners rfl rfl
theorem dX12_mourners_120 : decode cX12_mourners 120 = .ok (.getfield 43, 3) := o_180 BX12_mourners rfl rfl rfl
theorem dX12_mourners_123 : decode cX12_mourners 123 = .ok (.iconst 2, 1) := o_5 BX12_mourners rfl rfl
theorem dX12_mourners_124 : decode cX12_mourners 124 = .ok (.iload 5, 2) := o_21 BX12_mourners rfl rfl rfl
theorem dX12_mourners_126 : decode cX12_mourners 126 = .ok (.imul, 1) := o_104 BX12_mourners rfl rfl
theorem dX12_mourners_127 : decode cX12_mourners 127 = .ok (.iconst 1, 1) := o_4 BX12_mourners rfl rfl
theorem dX12_mourners_128 : decode cX12_mourners 128 = .ok (.iadd, 1) := o_96 BX12_mourners rfl rfl
theorem dX12_mourners_129 : decode cX12_mourners 129 = .ok (.iaload, 1) := o_46 BX12_mourners rfl rfl
theorem dX12_mourners_130 : decode cX12_mourners 130 = .ok (.iastore, 1) := o_79 BX12_mourners rfl rfl
theorem dX12_mourners_131 : decode cX12_mourners 131 = .ok (.aload_n 0, 1) := o_42 BX12_mourners rfl rfl
theorem dX12_mourners_132 : decode cX12_mourners 132 = .ok (.getfield 31, 3) := o_180 BX12_mourners rfl rfl rfl
theorem dX12_mourners_135 : decode cX12_mourners 135 = .ok (.bipush 21, 2) := o_16 BX12_mourners rfl rfl rfl
theorem dX12_mourners_137 : decode cX12_mourners 137 = .ok (.aload_n 0, 1) := o_42 BX12_mourners rfl rfl
theorem dX12_mourners_138 : decode cX12_mourners 138 = .ok (.getfield 129, 3) := o_180 BX12_mourners rfl rfl rfl
theorem dX12_mourners_141 : decode cX12_mourners 141 = .ok (.iadd, 1) := o_96 BX12_mourners rfl rfl
theorem dX12_mourners_142 : decode cX12_mourners 142 = .ok (.iconst (-1), 1) := o_2 BX12_mourners rfl rfl
theorem dX12_mourners_143 : decode cX12_mourners 143 = .ok (.iastore, 1) := o_79 BX12_mourners rfl rfl
theorem dX12_mourners_144 : decode cX12_mourners 144 = .ok (.aload_n 0, 1) := o_42 BX12_mourners rfl rfl
theorem dX12_mourners_145 : decode cX12_mourners 145 = .ok (.getfield 31, 3) := o_180 BX12_mourners rfl rfl rfl
theorem dX12_mourners_148 : decode cX12_mourners 148 = .ok (.bipush 29, 2) := o_16 BX12_mourners rfl rfl rfl
theorem dX12_mourners_150 : decode cX12_mourners 150 = .ok (.aload_n 0, 1) := o_42 BX12_mourners rfl rfl
theorem dX12_mourners_151 : decode cX12_mourners 151 = .ok (.getfield 129, 3) := o_180 BX12_mourners rfl rfl rfl
theorem dX12_mourners_154 : decode cX12_mourners 154 = .ok (.iadd, 1) := o_96 BX12_mourners rfl rfl
theorem dX12_mourners_155 : decode cX12_mourners 155 = .ok (.iconst (-1), 1) := o_2 BX12_mourners rfl rfl
theorem dX12_mourners_156 : decode cX12_mourners 156 = .ok (.iastore, 1) := o_79 BX12_mourners rfl rfl
theorem dX12_mourners_157 : decode cX12_mourners 157 = .ok (.aload_n 0, 1) := o_42 BX12_mourners rfl rfl
theorem dX12_mourners_158 : decode cX12_mourners 158 = .ok (.dup, 1) := o_89 BX12_mourners rfl rfl
theorem dX12_mourners_159 : decode cX12_mourners 159 = .ok (.getfield 129, 3) := o_180 BX12_mourners rfl rfl rfl
theorem dX12_mourners_162 : decode cX12_mourners 162 = .ok (.iconst 1, 1) := o_4 BX12_mourners rfl rfl
theorem dX12_mourners_163 : decode cX12_mourners 163 = .ok (.iadd, 1) := o_96 BX12_mourners rfl rfl
theorem dX12_mourners_164 : decode cX12_mourners 164 = .ok (.putfield 129, 3) := o_181 BX12_mourners rfl rfl rfl
theorem dX12_mourners_167 : decode cX12_mourners 167 = .ok (.iinc 5 1, 3) := o_132 BX12_mourners rfl rfl rfl rfl
theorem dX12_mourners_170 : decode cX12_mourners 170 = .ok (.goto (-89), 3) := o_167 BX12_mourners rfl rfl rfl
theorem dX12_mourners_173 : decode cX12_mourners 173 = .ok (.aload_n 0, 1) := o_42 BX12_mourners rfl rfl
theorem dX12_mourners_174 : decode cX12_mourners 174 = .ok (.invokevirtual 225, 3) := o_182 BX12_mourners rfl rfl rfl
theorem dX12_mourners_177 : decode cX12_mourners 177 = .ok (.ireturn, 1) := o_172 BX12_mourners rfl rfl
theorem dX12_weather_0 : decode cX12_weather 0 = .ok (.aload_n 0, 1) := o_42 BX12_weather rfl rfl
theorem dX12_weather_1 : decode cX12_weather 1 = .ok (.iconst 0, 1) := o_3 BX12_weather rfl rfl
theorem dX12_weather_2 : decode cX12_weather 2 = .ok (.putfield 112, 3) := o_181 BX12_weather rfl rfl rfl
theorem dX12_weather_5 : decode cX12_weather 5 = .ok (.aload_n 0, 1) := o_42 BX12_weather rfl rfl
theorem dX12_weather_6 : decode cX12_weather 6 = .ok (.bipush 80, 2) := o_16 BX12_weather rfl rfl rfl
theorem dX12_weather_8 : decode cX12_weather 8 = .ok (.invokevirtual 176, 3) := o_182 BX12_weather rfl rfl rfl
theorem dX12_weather_11 : decode cX12_weather 11 = .ok (.pop, 1) := o_87 BX12_weather rfl rfl
theorem dX12_weather_12 : decode cX12_weather 12 = .ok (.iconst 0, 1) := o_3 BX12_weather rfl rfl
theorem dX12_weather_13 : decode cX12_weather 13 = .ok (.istore_n 1, 1) := o_60 BX12_weather rfl rfl
theorem dX12_weather_14 : decode cX12_weather 14 = .ok (.iload_n 1, 1) := o_27 BX12_weather rfl rfl
theorem dX12_weather_15 : decode cX12_weather 15 = .ok (.bipush 20, 2) := o_16 BX12_weather rfl rfl rfl
theorem dX12_weather_17 : decode cX12_weather 17 = .ok (.if_icmp .ge 27, 3) := o_162 BX12_weather rfl rfl rfl
theorem dX12_weather_20 : decode cX12_weather 20 = .ok (.aload_n 0, 1) := o_42 BX12_weather rfl rfl
theorem dX12_weather_21 : decode cX12_weather 21 = .ok (.invokevirtual 172, 3) := o_182 BX12_weather rfl rfl rfl
theorem dX12_weather_24 : decode cX12_weather 24 = .ok (.ifCond .eq 20, 3) := o_153 BX12_weather rfl rfl rfl
theorem dX12_weather_27 : decode cX12_weather 27 = .ok (.aload_n 0, 1) := o_42 BX12_weather rfl rfl
theorem dX12_weather_28 : decode cX12_weather 28 = .ok (.getfield 46, 3) := o_180 BX12_weather rfl rfl rfl
theorem dX12_weather_31 : decode cX12_weather 31 = .ok (.iload_n 1, 1) := o_27 BX12_weather rfl rfl
theorem dX12_weather_32 : decode cX12_weather 32 = .ok (.aload_n 0, 1) := o_42 BX12_weather rfl rfl
theorem dX12_weather_33 : decode cX12_weather 33 = .ok (.iconst 1, 1) := o_4 BX12_weather rfl rfl
theorem dX12_weather_34 : decode cX12_weather 34 = .ok (.invokevirtual 189, 3) := o_182 BX12_weather rfl rfl rfl
theorem dX12_weather_37 : decode cX12_weather 37 = .ok (.iastore, 1) := o_79 BX12_weather rfl rfl
theorem dX12_weather_38 : decode cX12_weather 38 = .ok (.iinc 1 1, 3) := o_132 BX12_weather rfl rfl rfl rfl
theorem dX12_weather_41 : decode cX12_weather 41 = .ok (.goto (-27), 3) := o_167 BX12_weather rfl rfl rfl
theorem dX12_weather_44 : decode cX12_weather 44 = .ok (.iload_n 1, 1) := o_27 BX12_weather rfl rfl
theorem dX12_weather_45 : decode cX12_weather 45 = .ok (.ifCond .eq 14, 3) := o_153 BX12_weather rfl rfl rfl
theorem dX12_weather_48 : decode cX12_weather 48 = .ok (.aload_n 0, 1) := o_42 BX12_weather rfl rfl
theorem dX12_weather_49 : decode cX12_weather 49 = .ok (.getfield 139, 3) := o_180 BX12_weather rfl rfl rfl
theorem dX12_weather_52 : decode cX12_weather 52 = .ok (.aload_n 0, 1) := o_42 BX12_weather rfl rfl
theorem dX12_weather_53 : decode cX12_weather 53 = .ok (.getfield 151, 3) := o_180 BX12_weather rfl rfl rfl
theorem dX12_weather_56 : decode cX12_weather 56 = .ok (.if_icmp .ge 10, 3) := o_162 BX12_weather rfl rfl rfl
theorem dX12_weather_59 : decode cX12_weather 59 = .ok (.iconst (-1), 1) := o_2 BX12_weather rfl rfl
theorem dX12_weather_60 : decode cX12_weather 60 = .ok (.aload_n 0, 1) := o_42 BX12_weather rfl rfl
theorem dX12_weather_61 : decode cX12_weather 61 = .ok (.getfield 139, 3) := o_180 BX12_weather rfl rfl rfl
theorem dX12_weather_64 : decode cX12_weather 64 = .ok (.isub, 1) := o_100 BX12_weather rfl rfl
theorem dX12_weather_65 : decode cX12_weather 65 = .ok (.ireturn, 1) := o_172 BX12_weather rfl rfl
theorem dX12_weather_66 : decode cX12_weather 66 = .ok (.aload_n 0, 1) := o_42 BX12_weather rfl rfl
theorem dX12_weather_67 : decode cX12_weather 67 = .ok (.iload_n 1, 1) := o_27 BX12_weather rfl rfl
theorem dX12_weather_68 : decode cX12_weather 68 = .ok (.putfield 17, 3) := o_181 BX12_weather rfl rfl rfl
theorem dX12_weather_71 : decode cX12_weather 71 = .ok (.iconst 0, 1) := o_3 BX12_weather rfl rfl
theorem dX12_weather_72 : decode cX12_weather 72 = .ok (.istore_n 2, 1) := o_61 BX12_weather rfl rfl
theorem dX12_weather_73 : decode cX12_weather 73 = .ok (.iload_n 2, 1) := o_28 BX12_weather rfl rfl
theorem dX12_weather_74 : decode cX12_weather 74 = .ok (.iload_n 1, 1) := o_27 BX12_weather rfl rfl
theorem dX12_weather_75 : decode cX12_weather 75 = .ok (.if_icmp .ge 21, 3) := o_162 BX12_weather rfl rfl rfl
theorem dX12_weather_78 : decode cX12_weather 78 = .ok (.aload_n 0, 1) := o_42 BX12_weather rfl rfl
theorem dX12_weather_79 : decode cX12_weather 79 = .ok (.getfield 28, 3) := o_180 BX12_weather rfl rfl rfl
theorem dX12_weather_82 : decode cX12_weather 82 = .ok (.iload_n 2, 1) := o_28 BX12_weather rfl rfl
theorem dX12_weather_83 : decode cX12_weather 83 = .ok (.aload_n 0, 1) := o_42 BX12_weather rfl rfl
theorem dX12_weather_84 : decode cX12_weather 84 = .ok (.getfield 46, 3) := o_180 BX12_weather rfl rfl rfl
theorem dX12_weather_87 : decode cX12_weather 87 = .ok (.iload_n 2, 1) := o_28 BX12_weather rfl rfl
theorem dX12_weather_88 : decode cX12_weather 88 = .ok (.iaload, 1) := o_46 BX12_weather rfl rfl
theorem dX12_weather_89 : decode cX12_weather 89 = .ok (.iastore, 1) := o_79 BX12_weather rfl rfl
theorem dX12_weather_90 : decode cX12_weather 90 = .ok (.iinc 2 1, 3) := o_132 BX12_weather rfl rfl rfl rfl
theorem dX12_weather_93 : decode cX12_weather 93 = .ok (.goto (-20), 3) := o_167 BX12_weather rfl rfl rfl
theorem dX12_weather_96 : decode cX12_weather 96 = .ok (.iload_n 1, 1) := o_27 BX12_weather rfl rfl
theorem dX12_weather_97 : decode cX12_weather 97 = .ok (.ireturn, 1) := o_172 BX12_weather rfl rfl
theorem dX12_weatherOn_0 : decode cX12_weatherOn 0 = .ok (.aload_n 0, 1) := o_42 BX12_weatherOn rfl rfl
theorem dX12_weatherOn_1 : decode cX12_weatherOn 1 = .ok (.getfield 28, 3) := o_180 BX12_weatherOn rfl rfl rfl
theorem dX12_weatherOn_4 : decode cX12_weatherOn 4 = .ok (.iload_n 1, 1) := o_27 BX12_weatherOn rfl rfl
theorem dX12_weatherOn_5 : decode cX12_weatherOn 5 = .ok (.aload_n 0, 1) := o_42 BX12_weatherOn rfl rfl
theorem dX12_weatherOn_6 : decode cX12_weatherOn 6 = .ok (.getfield 17, 3) := o_180 BX12_weatherOn rfl rfl rfl
theorem dX12_weatherOn_9 : decode cX12_weatherOn 9 = .ok (.irem, 1) := o_112 BX12_weatherOn rfl rfl
theorem dX12_weatherOn_10 : decode cX12_weatherOn 10 = .ok (.iaload, 1) := o_46 BX12_weatherOn rfl rfl
theorem dX12_weatherOn_11 : decode cX12_weatherOn 11 = .ok (.ireturn, 1) := o_172 BX12_weatherOn rfl rfl
theorem dX12_codes_0 : decode cX12_codes 0 = .ok (.aload_n 0, 1) := o_42 BX12_codes rfl rfl
theorem dX12_codes_1 : decode cX12_codes 1 = .ok (.getfield 52, 3) := o_180 BX12_codes rfl rfl rfl
theorem dX12_codes_4 : decode cX12_codes 4 = .ok (.aload_n 0, 1) := o_42 BX12_codes rfl rfl
theorem dX12_codes_5 : decode cX12_codes 5 = .ok (.getfield 231, 3) := o_180 BX12_codes rfl rfl rfl
theorem dX12_codes_8 : decode cX12_codes 8 = .ok (.iload_n 1, 1) := o_27 BX12_codes rfl rfl
theorem dX12_codes_9 : decode cX12_codes 9 = .ok (.iastore, 1) := o_79 BX12_codes rfl rfl
theorem dX12_codes_10 : decode cX12_codes 10 = .ok (.aload_n 0, 1) := o_42 BX12_codes rfl rfl
theorem dX12_codes_11 : decode cX12_codes 11 = .ok (.dup, 1) := o_89 BX12_codes rfl rfl
theorem dX12_codes_12 : decode cX12_codes 12 = .ok (.getfield 231, 3) := o_180 BX12_codes rfl rfl rfl
theorem dX12_codes_15 : decode cX12_codes 15 = .ok (.iconst 1, 1) := o_4 BX12_codes rfl rfl
theorem dX12_codes_16 : decode cX12_codes 16 = .ok (.iadd, 1) := o_96 BX12_codes rfl rfl
theorem dX12_codes_17 : decode cX12_codes 17 = .ok (.putfield 231, 3) := o_181 BX12_codes rfl rfl rfl
theorem dX12_codes_20 : decode cX12_codes 20 = .ok (.return_, 1) := o_177 BX12_codes rfl rfl
theorem dX12_readsThing_0 : decode cX12_readsThing 0 = .ok (.aload_n 0, 1) := o_42 BX12_readsThing rfl rfl
theorem dX12_readsThing_1 : decode cX12_readsThing 1 = .ok (.bipush 45, 2) := o_16 BX12_readsThing rfl rfl rfl
theorem dX12_readsThing_3 : decode cX12_readsThing 3 = .ok (.invokevirtual 217, 3) := o_182 BX12_readsThing rfl rfl rfl
theorem dX12_readsThing_6 : decode cX12_readsThing 6 = .ok (.ifCond .eq 17, 3) := o_153 BX12_readsThing rfl rfl rfl
theorem dX12_readsThing_9 : decode cX12_readsThing 9 = .ok (.aload_n 0, 1) := o_42 BX12_readsThing rfl rfl
theorem dX12_readsThing_10 : decode cX12_readsThing 10 = .ok (.invokevirtual 234, 3) := o_182 BX12_readsThing rfl rfl rfl
theorem dX12_readsThing_13 : decode cX12_readsThing 13 = .ok (.istore_n 1, 1) := o_60 BX12_readsThing rfl rfl
theorem dX12_readsThing_14 : decode cX12_readsThing 14 = .ok (.aload_n 0, 1) := o_42 BX12_readsThing rfl rfl
theorem dX12_readsThing_15 : decode cX12_readsThing 15 = .ok (.sipush 3000, 3) := o_17 BX12_readsThing rfl rfl rfl
theorem dX12_readsThing_18 : decode cX12_readsThing 18 = .ok (.invokevirtual 237, 3) := o_182 BX12_readsThing rfl rfl rfl
theorem dX12_readsThing_21 : decode cX12_readsThing 21 = .ok (.iload_n 1, 1) := o_27 BX12_readsThing rfl rfl
theorem dX12_readsThing_22 : decode cX12_readsThing 22 = .ok (.ireturn, 1) := o_172 BX12_readsThing rfl rfl
theorem dX12_readsThing_23 : decode cX12_readsThing 23 = .ok (.aload_n 0, 1) := o_42 BX12_readsThing rfl rfl
theorem dX12_readsThing_24 : decode cX12_readsThing 24 = .ok (.invokevirtual 172, 3) := o_182 BX12_readsThing rfl rfl rfl
theorem dX12_readsThing_27 : decode cX12_readsThing 27 = .ok (.ifCond .eq 14, 3) := o_153 BX12_readsThing rfl rfl rfl
theorem dX12_readsThing_30 : decode cX12_readsThing 30 = .ok (.aload_n 0, 1) := o_42 BX12_readsThing rfl rfl
theorem dX12_readsThing_31 : decode cX12_readsThing 31 = .ok (.aload_n 0, 1) := o_42 BX12_readsThing rfl rfl
theorem dX12_readsThing_32 : decode cX12_readsThing 32 = .ok (.iconst 3, 1) := o_6 BX12_readsThing rfl rfl
theorem dX12_readsThing_33 : decode cX12_readsThing 33 = .ok (.invokevirtual 189, 3) := o_182 BX12_readsThing rfl rfl rfl
theorem dX12_readsThing_36 : decode cX12_readsThing 36 = .ok (.invokevirtual 237, 3) := o_182 BX12_readsThing rfl rfl rfl
theorem dX12_readsThing_39 : decode cX12_readsThing 39 = .ok (.iconst 1, 1) := o_4 BX12_readsThing rfl rfl
theorem dX12_readsThing_40 : decode cX12_readsThing 40 = .ok (.ireturn, 1) := o_172 BX12_readsThing rfl rfl
theorem dX12_readsThing_41 : decode cX12_readsThing 41 = .ok (.aload_n 0, 1) := o_42 BX12_readsThing rfl rfl
theorem dX12_readsThing_42 : decode cX12_readsThing 42 = .ok (.ldc 241, 2) := o_18 BX12_readsThing rfl rfl rfl
theorem dX12_readsThing_44 : decode cX12_readsThing 44 = .ok (.invokevirtual 182, 3) := o_182 BX12_readsThing rfl rfl rfl
theorem dX12_readsThing_47 : decode cX12_readsThing 47 = .ok (.istore_n 1, 1) := o_60 BX12_readsThing rfl rfl
theorem dX12_readsThing_48 : decode cX12_readsThing 48 = .ok (.iload_n 1, 1) := o_27 BX12_readsThing rfl rfl
theorem dX12_readsThing_49 : decode cX12_readsThing 49 = .ok (.ifCond .lt 14, 3) := o_155 BX12_readsThing rfl rfl rfl
theorem dX12_readsThing_52 : decode cX12_readsThing 52 = .ok (.aload_n 0, 1) := o_42 BX12_readsThing rfl rfl
theorem dX12_readsThing_53 : decode cX12_readsThing 53 = .ok (.sipush 1000, 3) := o_17 BX12_readsThing rfl rfl rfl
theorem dX12_readsThing_56 : decode cX12_readsThing 56 = .ok (.iload_n 1, 1) := o_27 BX12_readsThing rfl rfl
theorem dX12_readsThing_57 : decode cX12_readsThing 57 = .ok (.iadd, 1) := o_96 BX12_readsThing rfl rfl
theorem dX12_readsThing_58 : decode cX12_readsThing 58 = .ok (.invokevirtual 237, 3) := o_182 BX12_readsThing rfl rfl rfl
theorem dX12_readsThing_61 : decode cX12_readsThing 61 = .ok (.iconst 1, 1) := o_4 BX12_readsThing rfl rfl
theorem dX12_readsThing_62 : decode cX12_readsThing 62 = .ok (.ireturn, 1) := o_172 BX12_readsThing rfl rfl
theorem dX12_readsThing_63 : decode cX12_readsThing 63 = .ok (.aload_n 0, 1) := o_42 BX12_readsThing rfl rfl
theorem dX12_readsThing_64 : decode cX12_readsThing 64 = .ok (.getfield 142, 3) := o_180 BX12_readsThing rfl rfl rfl
theorem dX12_readsThing_67 : decode cX12_readsThing 67 = .ok (.iconst 4, 1) := o_7 BX12_readsThing rfl rfl
theorem dX12_readsThing_68 : decode cX12_readsThing 68 = .ok (.if_icmp .eq 12, 3) := o_159 BX12_readsThing rfl rfl rfl
theorem dX12_readsThing_71 : decode cX12_readsThing 71 = .ok (.aload_n 0, 1) := o_42 BX12_readsThing rfl rfl
theorem dX12_readsThing_72 : decode cX12_readsThing 72 = .ok (.bipush 40, 2) := o_16 BX12_readsThing rfl rfl rfl
theorem dX12_readsThing_74 : decode cX12_readsThing 74 = .ok (.invokevirtual 217, 3) := o_182 BX12_readsThing rfl rfl rfl
theorem dX12_readsThing_77 : decode cX12_readsThing 77 = .ok (.ifCond .ne 5, 3) := o_154 BX12_readsThing rfl rfl rfl
theorem dX12_readsThing_80 : decode cX12_readsThing 80 = .ok (.iconst 0, 1) := o_3 BX12_readsThing rfl rfl
theorem dX12_readsThing_81 : decode cX12_readsThing 81 = .ok (.ireturn, 1) := o_172 BX12_readsThing rfl rfl
theorem dX12_readsThing_82 : decode cX12_readsThing 82 = .ok (.aload_n 0, 1) := o_42 BX12_readsThing rfl rfl
theorem dX12_readsThing_83 : decode cX12_readsThing 83 = .ok (.dup, 1) := o_89 BX12_readsThing rfl rfl
theorem dX12_readsThing_84 : decode cX12_readsThing 84 = .ok (.getfield 142, 3) := o_180 BX12_readsThing rfl rfl rfl
theorem dX12_readsThing_87 : decode cX12_readsThing 87 = .ok (.iconst 1, 1) := o_4 BX12_readsThing rfl rfl
theorem dX12_readsThing_88 : decode cX12_readsThing 88 = .ok (.iadd, 1) := o_96 BX12_readsThing rfl rfl
theorem dX12_readsThing_89 : decode cX12_readsThing 89 = .ok (.putfield 142, 3) := o_181 BX12_readsThing rfl rfl rfl
theorem dX12_readsThing_92 : decode cX12_readsThing 92 = .ok (.aload_n 0, 1) := o_42 BX12_readsThing rfl rfl
theorem dX12_readsThing_93 : decode cX12_readsThing 93 = .ok (.iconst 0, 1) := o_3 BX12_readsThing rfl rfl
theorem dX12_readsThing_94 : decode cX12_readsThing 94 = .ok (.invokevirtual 243, 3) := o_182 BX12_readsThing rfl rfl rfl
theorem dX12_readsThing_97 : decode cX12_readsThing 97 = .ok (.ifCond .eq 12, 3) := o_153 BX12_readsThing rfl rfl rfl
theorem dX12_readsThing_100 : decode cX12_readsThing 100 = .ok (.aload_n 0, 1) := o_42 BX12_readsThing rfl rfl
theorem dX12_readsThing_101 : decode cX12_readsThing 101 = .ok (.bipush 41, 2) := o_16 BX12_readsThing rfl rfl rfl
theorem dX12_readsThing_103 : decode cX12_readsThing 103 = .ok (.invokevirtual 217, 3) := o_182 BX12_readsThing rfl rfl rfl
theorem dX12_readsThing_106 : decode cX12_readsThing 106 = .ok (.ifCond .ne 5, 3) := o_154 BX12_readsThing rfl rfl rfl
theorem dX12_readsThing_109 : decode cX12_readsThing 109 = .ok (.iconst 0, 1) := o_3 BX12_readsThing rfl rfl
theorem dX12_readsThing_110 : decode cX12_readsThing 110 = .ok (.ireturn, 1) := o_172 BX12_readsThing rfl rfl
theorem dX12_readsThing_111 : decode cX12_readsThing 111 = .ok (.aload_n 0, 1) := o_42 BX12_readsThing rfl rfl
theorem dX12_readsThing_112 : decode cX12_readsThing 112 = .ok (.dup, 1) := o_89 BX12_readsThing rfl rfl
theorem dX12_readsThing_113 : decode cX12_readsThing 113 = .ok (.getfield 142, 3) := o_180 BX12_readsThing rfl rfl rfl
theorem dX12_readsThing_116 : decode cX12_readsThing 116 = .ok (.iconst 1, 1) := o_4 BX12_readsThing rfl rfl
theorem dX12_readsThing_117 : decode cX12_readsThing 117 = .ok (.isub, 1) := o_100 BX12_readsThing rfl rfl
theorem dX12_readsThing_118 : decode cX12_readsThing 118 = .ok (.putfield 142, 3) := o_181 BX12_readsThing rfl rfl rfl
theorem dX12_readsThing_121 : decode cX12_readsThing 121 = .ok (.iconst 1, 1) := o_4 BX12_readsThing rfl rfl
theorem dX12_readsThing_122 : decode cX12_readsThing 122 = .ok (.ireturn, 1) := o_172 BX12_readsThing rfl rfl
theorem dX12_readsRank_0 : decode cX12_readsRank 0 = .ok (.iload_n 1, 1) := o_27 BX12_readsRank rfl rfl
theorem dX12_readsRank_1 : decode cX12_readsRank 1 = .ok (.iconst 3, 1) := o_6 BX12_readsRank rfl rfl
theorem dX12_readsRank_2 : decode cX12_readsRank 2 = .ok (.if_icmp .ne 8, 3) := o_160 BX12_readsRank rfl rfl rfl
theorem dX12_readsRank_5 : decode cX12_readsRank 5 = .ok (.aload_n 0, 1) := o_42 BX12_readsRank rfl rfl
theorem dX12_readsRank_6 : decode cX12_readsRank 6 = .ok (.invokevirtual 234, 3) := o_182 BX12_readsRank rfl rfl rfl
theorem dX12_readsRank_9 : decode cX12_readsRank 9 = .ok (.ireturn, 1) := o_172 BX12_readsRank rfl rfl
theorem dX12_readsRank_10 : decode cX12_readsRank 10 = .ok (.aload_n 0, 1) := o_42 BX12_readsRank rfl rfl
theorem dX12_readsRank_11 : decode cX12_readsRank 11 = .ok (.iload_n 1, 1) := o_27 BX12_readsRank rfl rfl
theorem dX12_readsRank_12 : decode cX12_readsRank 12 = .ok (.iconst 1, 1) := o_4 BX12_readsRank rfl rfl
theorem dX12_readsRank_13 : decode cX12_readsRank 13 = .ok (.iadd, 1) := o_96 BX12_readsRank rfl rfl
theorem dX12_readsRank_14 : decode cX12_readsRank 14 = .ok (.invokevirtual 243, 3) := o_182 BX12_readsRank rfl rfl rfl
theorem dX12_readsRank_17 : decode cX12_readsRank 17 = .ok (.ifCond .ne 5, 3) := o_154 BX12_readsRank rfl rfl rfl
theorem dX12_readsRank_20 : decode cX12_readsRank 20 = .ok (.iconst 0, 1) := o_3 BX12_readsRank rfl rfl
theorem dX12_readsRank_21 : decode cX12_readsRank 21 = .ok (.ireturn, 1) := o_172 BX12_readsRank rfl rfl
theorem dX12_readsRank_22 : decode cX12_readsRank 22 = .ok (.iconst 1, 1) := o_4 BX12_readsRank rfl rfl
theorem dX12_readsRank_23 : decode cX12_readsRank 23 = .ok (.istore_n 2, 1) := o_61 BX12_readsRank rfl rfl
theorem dX12_readsRank_24 : decode cX12_readsRank 24 = .ok (.iload_n 2, 1) := o_28 BX12_readsRank rfl rfl
theorem dX12_readsRank_25 : decode cX12_readsRank 25 = .ok (.ifCond .eq 88, 3) := o_153 BX12_readsRank rfl rfl rfl
theorem dX12_readsRank_28 : decode cX12_readsRank 28 = .ok (.aload_n 0, 1) := o_42 BX12_readsRank rfl rfl
theorem dX12_readsRank_29 : decode cX12_readsRank 29 = .ok (.iload_n 1, 1) := o_27 BX12_readsRank rfl rfl
theorem dX12_readsRank_30 : decode cX12_readsRank 30 = .ok (.ifCond .ne 8, 3) := o_154 BX12_readsRank rfl rfl rfl
theorem dX12_readsRank_33 : decode cX12_readsRank 33 = .ok (.ldc 246, 2) := o_18 BX12_readsRank rfl rfl rfl
theorem dX12_readsRank_35 : decode cX12_readsRank 35 = .ok (.goto 15, 3) := o_167 BX12_readsRank rfl rfl rfl
theorem dX12_readsRank_38 : decode cX12_readsRank 38 = .ok (.iload_n 1, 1) := o_27 BX12_readsRank rfl rfl
theorem dX12_readsRank_39 : decode cX12_readsRank 39 = .ok (.iconst 1, 1) := o_4 BX12_readsRank rfl rfl
theorem dX12_readsRank_40 : decode cX12_readsRank 40 = .ok (.if_icmp .ne 8, 3) := o_160 BX12_readsRank rfl rfl rfl
theorem dX12_readsRank_43 : decode cX12_readsRank 43 = .ok (.ldc 248, 2) := o_18 BX12_readsRank rfl rfl rfl
theorem dX12_readsRank_45 : decode cX12_readsRank 45 = .ok (.goto 5, 3) := o_167 BX12_readsRank rfl rfl rfl
theorem dX12_readsRank_48 : decode cX12_readsRank 48 = .ok (.ldc 250, 2) := o_18 BX12_readsRank rfl rfl rfl
theorem dX12_readsRank_50 : decode cX12_readsRank 50 = .ok (.invokevirtual 182, 3) := o_182 BX12_readsRank rfl rfl rfl
theorem dX12_readsRank_53 : decode cX12_readsRank 53 = .ok (.istore_n 3, 1) := o_62 BX12_readsRank rfl rfl
theorem dX12_readsRank_54 : decode cX12_readsRank 54 = .ok (.iload_n 3, 1) := o_29 BX12_readsRank rfl rfl
theorem dX12_readsRank_55 : decode cX12_readsRank 55 = .ok (.ifCond .ge 5, 3) := o_156 BX12_readsRank rfl rfl rfl
theorem dX12_readsRank_58 : decode cX12_readsRank 58 = .ok (.iconst 1, 1) := o_4 BX12_readsRank rfl rfl
theorem dX12_readsRank_59 : decode cX12_readsRank 59 = .ok (.ireturn, 1) := o_172 BX12_readsRank rfl rfl
theorem dX12_readsRank_60 : decode cX12_readsRank 60 = .ok (.aload_n 0, 1) := o_42 BX12_readsRank rfl rfl
theorem dX12_readsRank_61 : decode cX12_readsRank 61 = .ok (.iload_n 1, 1) := o_27 BX12_readsRank rfl rfl
theorem dX12_readsRank_62 : decode cX12_readsRank 62 = .ok (.iconst 1, 1) := o_4 BX12_readsRank rfl rfl
theorem dX12_readsRank_63 : decode cX12_readsRank 63 = .ok (.iadd, 1) := o_96 BX12_readsRank rfl rfl
theorem dX12_readsRank_64 : decode cX12_readsRank 64 = .ok (.invokevirtual 243, 3) := o_182 BX12_readsRank rfl rfl rfl
theorem dX12_readsRank_67 : decode cX12_readsRank 67 = .ok (.ifCond .ne 5, 3) := o_154 BX12_readsRank rfl rfl rfl
theorem dX12_readsRank_70 : decode cX12_readsRank 70 = .ok (.iconst 0, 1) := o_3 BX12_readsRank rfl rfl
theorem dX12_readsRank_71 : decode cX12_readsRank 71 = .ok (.ireturn, 1) := o_172 BX12_readsRank rfl rfl
theorem dX12_readsRank_72 : decode cX12_readsRank 72 = .ok (.aload_n 0, 1) := o_42 BX12_readsRank rfl rfl
theorem dX12_readsRank_73 : decode cX12_readsRank 73 = .ok (.sipush 2000, 3) := o_17 BX12_readsRank rfl rfl rfl
theorem dX12_readsRank_76 : decode cX12_readsRank 76 = .ok (.iload_n 3, 1) := o_29 BX12_readsRank rfl rfl
theorem dX12_readsRank_77 : decode cX12_readsRank 77 = .ok (.iadd, 1) := o_96 BX12_readsRank rfl rfl
theorem dX12_readsRank_78 : decode cX12_readsRank 78 = .ok (.iload_n 1, 1) := o_27 BX12_readsRank rfl rfl
theorem dX12_readsRank_79 : decode cX12_readsRank 79 = .ok (.ifCond .ne 7, 3) := o_154 BX12_readsRank rfl rfl rfl
theorem dX12_readsRank_82 : decode cX12_readsRank 82 = .ok (.iconst 0, 1) := o_3 BX12_readsRank rfl rfl
theorem dX12_readsRank_83 : decode cX12_readsRank 83 = .ok (.goto 13, 3) := o_167 BX12_readsRank rfl rfl rfl
theorem dX12_readsRank_86 : decode cX12_readsRank 86 = .ok (.iload_n 1, 1) := o_27 BX12_readsRank rfl rfl
theorem dX12_readsRank_87 : decode cX12_readsRank 87 = .ok (.iconst 1, 1) := o_4 BX12_readsRank rfl rfl
theorem dX12_readsRank_88 : decode cX12_readsRank 88 = .ok (.if_icmp .ne 7, 3) := o_160 BX12_readsRank rfl rfl rfl
theorem dX12_readsRank_91 : decode cX12_readsRank 91 = .ok (.iconst 3, 1) := o_6 BX12_readsRank rfl rfl
theorem dX12_readsRank_92 : decode cX12_readsRank 92 = .ok (.goto 4, 3) := o_167 BX12_readsRank rfl rfl rfl
theorem dX12_readsRank_95 : decode cX12_readsRank 95 = .ok (.iconst 5, 1) := o_8 BX12_readsRank rfl rfl
theorem dX12_readsRank_96 : decode cX12_readsRank 96 = .ok (.iadd, 1) := o_96 BX12_readsRank rfl rfl
theorem dX12_readsRank_97 : decode cX12_readsRank 97 = .ok (.invokevirtual 237, 3) := o_182 BX12_readsRank rfl rfl rfl
theorem dX12_readsRank_100 : decode cX12_readsRank 100 = .ok (.iload_n 1, 1) := o_27 BX12_readsRank rfl rfl
theorem dX12_readsRank_101 : decode cX12_readsRank 101 = .ok (.ifCond .le 7, 3) := o_158 BX12_readsRank rfl rfl rfl
theorem dX12_readsRank_104 : decode cX12_readsRank 104 = .ok (.iconst 1, 1) := o_4 BX12_readsRank rfl rfl
theorem dX12_readsRank_105 : decode cX12_readsRank 105 = .ok (.goto 4, 3) := o_167 BX12_readsRank rfl rfl rfl
theorem dX12_readsRank_108 : decode cX12_readsRank 108 = .ok (.iconst 0, 1) := o_3 BX12_readsRank rfl rfl
theorem dX12_readsRank_109 : decode cX12_readsRank 109 = .ok (.istore_n 2, 1) := o_61 BX12_readsRank rfl rfl
theorem dX12_readsRank_110 : decode cX12_readsRank 110 = .ok (.goto (-86), 3) := o_167 BX12_readsRank rfl rfl rfl
theorem dX12_readsRank_113 : decode cX12_readsRank 113 = .ok (.iconst 1, 1) := o_4 BX12_readsRank rfl rfl
theorem dX12_readsRank_114 : decode cX12_readsRank 114 = .ok (.ireturn, 1) := o_172 BX12_readsRank rfl rfl
theorem dX12_readsRule_0 : decode cX12_readsRule 0 = .ok (.aload_n 0, 1) := o_42 BX12_readsRule rfl rfl
theorem dX12_readsRule_1 : decode cX12_readsRule 1 = .ok (.bipush 40, 2) := o_16 BX12_readsRule rfl rfl rfl
theorem dX12_readsRule_3 : decode cX12_readsRule 3 = .ok (.invokevirtual 176, 3) := o_182 BX12_readsRule rfl rfl rfl
theorem dX12_readsRule_6 : decode cX12_readsRule 6 = .ok (.istore_n 1, 1) := o_60 BX12_readsRule rfl rfl
theorem dX12_readsRule_7 : decode cX12_readsRule 7 = .ok (.aload_n 0, 1) := o_42 BX12_readsRule rfl rfl
theorem dX12_readsRule_8 : decode cX12_readsRule 8 = .ok (.iconst 0, 1) := o_3 BX12_readsRule rfl rfl
theorem dX12_readsRule_9 : decode cX12_readsRule 9 = .ok (.putfield 231, 3) := o_181 BX12_readsRule rfl rfl rfl
theorem dX12_readsRule_12 : decode cX12_readsRule 12 = .ok (.iload_n 1, 1) := o_27 BX12_readsRule rfl rfl
theorem dX12_readsRule_13 : decode cX12_readsRule 13 = .ok (.ifCond .eq 11, 3) := o_153 BX12_readsRule rfl rfl rfl
theorem dX12_readsRule_16 : decode cX12_readsRule 16 = .ok (.aload_n 0, 1) := o_42 BX12_readsRule rfl rfl
theorem dX12_readsRule_17 : decode cX12_readsRule 17 = .ok (.iconst 0, 1) := o_3 BX12_readsRule rfl rfl
theorem dX12_readsRule_18 : decode cX12_readsRule 18 = .ok (.invokevirtual 243, 3) := o_182 BX12_readsRule rfl rfl rfl
theorem dX12_readsRule_21 : decode cX12_readsRule 21 = .ok (.ifCond .eq 7, 3) := o_153 BX12_readsRule rfl rfl rfl
theorem dX12_readsRule_24 : decode cX12_readsRule 24 = .ok (.iconst 1, 1) := o_4 BX12_readsRule rfl rfl
theorem dX12_readsRule_25 : decode cX12_readsRule 25 = .ok (.goto 4, 3) := o_167 BX12_readsRule rfl rfl rfl
theorem dX12_readsRule_28 : decode cX12_readsRule 28 = .ok (.iconst 0, 1) := o_3 BX12_readsRule rfl rfl
theorem dX12_readsRule_29 : decode cX12_readsRule 29 = .ok (.istore_n 2, 1) := o_61 BX12_readsRule rfl rfl
theorem dX12_readsRule_30 : decode cX12_readsRule 30 = .ok (.aload_n 0, 1) := o_42 BX12_readsRule rfl rfl
theorem dX12_readsRule_31 : decode cX12_readsRule 31 = .ok (.iload_n 1, 1) := o_27 BX12_readsRule rfl rfl
theorem dX12_readsRule_32 : decode cX12_readsRule 32 = .ok (.bipush 40, 2) := o_16 BX12_readsRule rfl rfl rfl
theorem dX12_readsRule_34 : decode cX12_readsRule 34 = .ok (.iload_n 2, 1) := o_28 BX12_readsRule rfl rfl
theorem dX12_readsRule_35 : decode cX12_readsRule 35 = .ok (.invokevirtual 221, 3) := o_182 BX12_readsRule rfl rfl rfl
theorem dX12_readsRule_38 : decode cX12_readsRule 38 = .ok (.ireturn, 1) := o_172 BX12_readsRule rfl rfl
theorem dX12_laysCode_0 : decode cX12_laysCode 0 = .ok (.aload_n 0, 1) := o_42 BX12_laysCode rfl rfl
theorem dX12_laysCode_1 : decode cX12_laysCode 1 = .ok (.iload_n 2, 1) := o_28 BX12_laysCode rfl rfl
theorem dX12_laysCode_2 : decode cX12_laysCode 2 = .ok (.putfield 252, 3) := o_181 BX12_laysCode rfl rfl rfl
theorem dX12_laysCode_5 : decode cX12_laysCode 5 = .ok (.iconst 0, 1) := o_3 BX12_laysCode rfl rfl
theorem dX12_laysCode_6 : decode cX12_laysCode 6 = .ok (.istore_n 3, 1) := o_62 BX12_laysCode rfl rfl
theorem dX12_laysCode_7 : decode cX12_laysCode 7 = .ok (.iload_n 3, 1) := o_29 BX12_laysCode rfl rfl
theorem dX12_laysCode_8 : decode cX12_laysCode 8 = .ok (.iload_n 2, 1) := o_28 BX12_laysCode rfl rfl
theorem dX12_laysCode_9 : decode cX12_laysCode 9 = .ok (.if_icmp .ge 18, 3) := o_162 BX12_laysCode rfl rfl rfl
theorem dX12_laysCode_12 : decode cX12_laysCode 12 = .ok (.aload_n 0, 1) := o_42 BX12_laysCode rfl rfl
theorem dX12_laysCode_13 : decode cX12_laysCode 13 = .ok (.getfield 49, 3) := o_180 BX12_laysCode rfl rfl rfl
theorem dX12_laysCode_16 : decode cX12_laysCode 16 = .ok (.iload_n 3, 1) := o_29 BX12_laysCode rfl rfl
theorem dX12_laysCode_17 : decode cX12_laysCode 17 = .ok (.aload_n 1, 1) := o_43 BX12_laysCode rfl rfl
theorem dX12_laysCode_18 : decode cX12_laysCode 18 = .ok (.iload_n 3, 1) := o_29 BX12_laysCode rfl rfl
theorem dX12_laysCode_19 : decode cX12_laysCode 19 = .ok (.iaload, 1) := o_46 BX12_laysCode rfl rfl
theorem dX12_laysCode_20 : decode cX12_laysCode 20 = .ok (.iastore, 1) := o_79 BX12_laysCode rfl rfl
theorem dX12_laysCode_21 : decode cX12_laysCode 21 = .ok (.iinc 3 1, 3) := o_132 BX12_laysCode rfl rfl rfl rfl
theorem dX12_laysCode_24 : decode cX12_laysCode 24 = .ok (.goto (-17), 3) := o_167 BX12_laysCode rfl rfl rfl
theorem dX12_laysCode_27 : decode cX12_laysCode 27 = .ok (.return_, 1) := o_177 BX12_laysCode rfl rfl
theorem dX12_rule_0 : decode cX12_rule 0 = .ok (.aload_n 0, 1) := o_42 BX12_rule rfl rfl
theorem dX12_rule_1 : decode cX12_rule 1 = .ok (.iconst 0, 1) := o_3 BX12_rule rfl rfl
theorem dX12_rule_2 : decode cX12_rule 2 = .ok (.putfield 112, 3) := o_181 BX12_rule rfl rfl rfl
theorem dX12_rule_5 : decode cX12_rule 5 = .ok (.aload_n 0, 1) := o_42 BX12_rule rfl rfl
theorem dX12_rule_6 : decode cX12_rule 6 = .ok (.invokevirtual 255, 3) := o_182 BX12_rule rfl rfl rfl
theorem dX12_rule_9 : decode cX12_rule 9 = .ok (.istore_n 1, 1) := o_60 BX12_rule rfl rfl
theorem dX12_rule_10 : decode cX12_rule 10 = .ok (.iload_n 1, 1) := o_27 BX12_rule rfl rfl
theorem dX12_rule_11 : decode cX12_rule 11 = .ok (.ifCond .ne 15, 3) := o_154 BX12_rule rfl rfl rfl
theorem dX12_rule_14 : decode cX12_rule 14 = .ok (.aload_n 0, 1) := o_42 BX12_rule rfl rfl
theorem dX12_rule_15 : decode cX12_rule 15 = .ok (.aload_n 0, 1) := o_42 BX12_rule rfl rfl
theorem dX12_rule_16 : decode cX12_rule 16 = .ok (.getfield 52, 3) := o_180 BX12_rule rfl rfl rfl
theorem dX12_rule_19 : decode cX12_rule 19 = .ok (.aload_n 0, 1) := o_42 BX12_rule rfl rfl
theorem dX12_rule_20 : decode cX12_rule 20 = .ok (.getfield 231, 3) := o_180 BX12_rule rfl rfl rfl
theorem dX12_rule_23 : decode cX12_rule 23 = .ok (.invokevirtual 258, 3) := o_182 BX12_rule rfl rfl rfl
theorem dX12_rule_26 : decode cX12_rule 26 = .ok (.iload_n 1, 1) := o_27 BX12_rule rfl rfl
theorem dX12_rule_27 : decode cX12_rule 27 = .ok (.ireturn, 1) := o_172 BX12_rule rfl rfl
theorem dX12_worked_0 : decode cX12_worked 0 = .ok (.iload_n 0, 1) := o_26 BX12_worked rfl rfl
theorem dX12_worked_1 : decode cX12_worked 1 = .ok (.tableswitch 93 0 5 #[39, 53, 67, 81, 85, 89], 39) := by decide +kernel
theorem dX12_worked_40 : decode cX12_worked 40 = .ok (.iload_n 1, 1) := o_27 BX12_worked rfl rfl
theorem dX12_worked_41 : decode cX12_worked 41 = .ok (.iload_n 2, 1) := o_28 BX12_worked rfl rfl
theorem dX12_worked_42 : decode cX12_worked 42 = .ok (.if_icmp .ge 7, 3) := o_162 BX12_worked rfl rfl rfl
theorem dX12_worked_45 : decode cX12_worked 45 = .ok (.iconst 1, 1) := o_4 BX12_worked rfl rfl
theorem dX12_worked_46 : decode cX12_worked 46 = .ok (.goto 4, 3) := o_167 BX12_worked rfl rfl rfl
theorem dX12_worked_49 : decode cX12_worked 49 = .ok (.iconst 0, 1) := o_3 BX12_worked rfl rfl
theorem dX12_worked_50 : decode cX12_worked 50 = .ok (.invokestatic 154, 3) := o_184 BX12_worked rfl rfl rfl
theorem dX12_worked_53 : decode cX12_worked 53 = .ok (.ireturn, 1) := o_172 BX12_worked rfl rfl
theorem dX12_worked_54 : decode cX12_worked 54 = .ok (.iload_n 1, 1) := o_27 BX12_worked rfl rfl
theorem dX12_worked_55 : decode cX12_worked 55 = .ok (.iload_n 2, 1) := o_28 BX12_worked rfl rfl
theorem dX12_worked_56 : decode cX12_worked 56 = .ok (.if_icmp .le 7, 3) := o_164 BX12_worked rfl rfl rfl
theorem dX12_worked_59 : decode cX12_worked 59 = .ok (.iconst 1, 1) := o_4 BX12_worked rfl rfl
theorem dX12_worked_60 : decode cX12_worked 60 = .ok (.goto 4, 3) := o_167 BX12_worked rfl rfl rfl
theorem dX12_worked_63 : decode cX12_worked 63 = .ok (.iconst 0, 1) := o_3 BX12_worked rfl rfl
theorem dX12_worked_64 : decode cX12_worked 64 = .ok (.invokestatic 154, 3) := o_184 BX12_worked rfl rfl rfl
theorem dX12_worked_67 : decode cX12_worked 67 = .ok (.ireturn, 1) := o_172 BX12_worked rfl rfl
theorem dX12_worked_68 : decode cX12_worked 68 = .ok (.iload_n 1, 1) := o_27 BX12_worked rfl rfl
theorem dX12_worked_69 : decode cX12_worked 69 = .ok (.iload_n 2, 1) := o_28 BX12_worked rfl rfl
theorem dX12_worked_70 : decode cX12_worked 70 = .ok (.if_icmp .ne 7, 3) := o_160 BX12_worked rfl rfl rfl
theorem dX12_worked_73 : decode cX12_worked 73 = .ok (.iconst 1, 1) := o_4 BX12_worked rfl rfl
theorem dX12_worked_74 : decode cX12_worked 74 = .ok (.goto 4, 3) := o_167 BX12_worked rfl rfl rfl
theorem dX12_worked_77 : decode cX12_worked 77 = .ok (.iconst 0, 1) := o_3 BX12_worked rfl rfl
theorem dX12_worked_78 : decode cX12_worked 78 = .ok (.invokestatic 154, 3) := o_184 BX12_worked rfl rfl rfl
theorem dX12_worked_81 : decode cX12_worked 81 = .ok (.ireturn, 1) := o_172 BX12_worked rfl rfl
theorem dX12_worked_82 : decode cX12_worked 82 = .ok (.iload_n 1, 1) := o_27 BX12_worked rfl rfl
theorem dX12_worked_83 : decode cX12_worked 83 = .ok (.iload_n 2, 1) := o_28 BX12_worked rfl rfl
theorem dX12_worked_84 : decode cX12_worked 84 = .ok (.iadd, 1) := o_96 BX12_worked rfl rfl
theorem dX12_worked_85 : decode cX12_worked 85 = .ok (.ireturn, 1) := o_172 BX12_worked rfl rfl
theorem dX12_worked_86 : decode cX12_worked 86 = .ok (.iload_n 1, 1) := o_27 BX12_worked rfl rfl
theorem dX12_worked_87 : decode cX12_worked 87 = .ok (.iload_n 2, 1) := o_28 BX12_worked rfl rfl
theorem dX12_worked_88 : decode cX12_worked 88 = .ok (.isub, 1) := o_100 BX12_worked rfl rfl
theorem dX12_worked_89 : decode cX12_worked 89 = .ok (.ireturn, 1) := o_172 BX12_worked rfl rfl
theorem dX12_worked_90 : decode cX12_worked 90 = .ok (.iload_n 1, 1) := o_27 BX12_worked rfl rfl
theorem dX12_worked_91 : decode cX12_worked 91 = .ok (.iload_n 2, 1) := o_28 BX12_worked rfl rfl
theorem dX12_worked_92 : decode cX12_worked 92 = .ok (.imul, 1) := o_104 BX12_worked rfl rfl
theorem dX12_worked_93 : decode cX12_worked 93 = .ok (.ireturn, 1) := o_172 BX12_worked rfl rfl
theorem dX12_worked_94 : decode cX12_worked 94 = .ok (.iload_n 2, 1) := o_28 BX12_worked rfl rfl
theorem dX12_worked_95 : decode cX12_worked 95 = .ok (.ifCond .ne 7, 3) := o_154 BX12_worked rfl rfl rfl
theorem dX12_worked_98 : decode cX12_worked 98 = .ok (.iconst 0, 1) := o_3 BX12_worked rfl rfl
theorem dX12_worked_99 : decode cX12_worked 99 = .ok (.goto 6, 3) := o_167 BX12_worked rfl rfl rfl
theorem dX12_worked_102 : decode cX12_worked 102 = .ok (.iload_n 1, 1) := o_27 BX12_worked rfl rfl
theorem dX12_worked_103 : decode cX12_worked 103 = .ok (.iload_n 2, 1) := o_28 BX12_worked rfl rfl
theorem dX12_worked_104 : decode cX12_worked 104 = .ok (.idiv, 1) := o_108 BX12_worked rfl rfl
theorem dX12_worked_105 : decode cX12_worked 105 = .ok (.ireturn, 1) := o_172 BX12_worked rfl rfl
theorem dX12_ruled_0 : decode cX12_ruled 0 = .ok (.iconst 0, 1) := o_3 BX12_ruled rfl rfl
theorem dX12_ruled_1 : decode cX12_ruled 1 = .ok (.istore_n 1, 1) := o_60 BX12_ruled rfl rfl
theorem dX12_ruled_2 : decode cX12_ruled 2 = .ok (.iconst 0, 1) := o_3 BX12_ruled rfl rfl
theorem dX12_ruled_3 : decode cX12_ruled 3 = .ok (.istore_n 2, 1) := o_61 BX12_ruled rfl rfl
theorem dX12_ruled_4 : decode cX12_ruled 4 = .ok (.iload_n 2, 1) := o_28 BX12_ruled rfl rfl
theorem dX12_ruled_5 : decode cX12_ruled 5 = .ok (.aload_n 0, 1) := o_42 BX12_ruled rfl rfl
theorem dX12_ruled_6 : decode cX12_ruled 6 = .ok (.getfield 252, 3) := o_180 BX12_ruled rfl rfl rfl
theorem dX12_ruled_9 : decode cX12_ruled 9 = .ok (.if_icmp .ge 116, 3) := o_162 BX12_ruled rfl rfl rfl
theorem dX12_ruled_12 : decode cX12_ruled 12 = .ok (.aload_n 0, 1) := o_42 BX12_ruled rfl rfl
theorem dX12_ruled_13 : decode cX12_ruled 13 = .ok (.getfield 49, 3) := o_180 BX12_ruled rfl rfl rfl
theorem dX12_ruled_16 : decode cX12_ruled 16 = .ok (.iload_n 2, 1) := o_28 BX12_ruled rfl rfl
theorem dX12_ruled_17 : decode cX12_ruled 17 = .ok (.iaload, 1) := o_46 BX12_ruled rfl rfl
theorem dX12_ruled_18 : decode cX12_ruled 18 = .ok (.istore_n 3, 1) := o_62 BX12_ruled rfl rfl
theorem dX12_ruled_19 : decode cX12_ruled 19 = .ok (.iload_n 3, 1) := o_29 BX12_ruled rfl rfl
theorem dX12_ruled_20 : decode cX12_ruled 20 = .ok (.sipush 3000, 3) := o_17 BX12_ruled rfl rfl rfl
theorem dX12_ruled_23 : decode cX12_ruled 23 = .ok (.if_icmp .ne 23, 3) := o_160 BX12_ruled rfl rfl rfl
theorem dX12_ruled_26 : decode cX12_ruled 26 = .ok (.aload_n 0, 1) := o_42 BX12_ruled rfl rfl
theorem dX12_ruled_27 : decode cX12_ruled 27 = .ok (.getfield 55, 3) := o_180 BX12_ruled rfl rfl rfl
theorem dX12_ruled_30 : decode cX12_ruled 30 = .ok (.iload_n 1, 1) := o_27 BX12_ruled rfl rfl
theorem dX12_ruled_31 : decode cX12_ruled 31 = .ok (.iconst 1, 1) := o_4 BX12_ruled rfl rfl
theorem dX12_ruled_32 : decode cX12_ruled 32 = .ok (.isub, 1) := o_100 BX12_ruled rfl rfl
theorem dX12_ruled_33 : decode cX12_ruled 33 = .ok (.aload_n 0, 1) := o_42 BX12_ruled rfl rfl
theorem dX12_ruled_34 : decode cX12_ruled 34 = .ok (.getfield 55, 3) := o_180 BX12_ruled rfl rfl rfl
theorem dX12_ruled_37 : decode cX12_ruled 37 = .ok (.iload_n 1, 1) := o_27 BX12_ruled rfl rfl
theorem dX12_ruled_38 : decode cX12_ruled 38 = .ok (.iconst 1, 1) := o_4 BX12_ruled rfl rfl
theorem dX12_ruled_39 : decode cX12_ruled 39 = .ok (.isub, 1) := o_100 BX12_ruled rfl rfl
theorem dX12_ruled_40 : decode cX12_ruled 40 = .ok (.iaload, 1) := o_46 BX12_ruled rfl rfl
theorem dX12_ruled_41 : decode cX12_ruled 41 = .ok (.ineg, 1) := o_116 BX12_ruled rfl rfl
theorem dX12_ruled_42 : decode cX12_ruled 42 = .ok (.iastore, 1) := o_79 BX12_ruled rfl rfl
theorem dX12_ruled_43 : decode cX12_ruled 43 = .ok (.goto 76, 3) := o_167 BX12_ruled rfl rfl rfl
theorem dX12_ruled_46 : decode cX12_ruled 46 = .ok (.iload_n 3, 1) := o_29 BX12_ruled rfl rfl
theorem dX12_ruled_47 : decode cX12_ruled 47 = .ok (.sipush 2000, 3) := o_17 BX12_ruled rfl rfl rfl
theorem dX12_ruled_50 : decode cX12_ruled 50 = .ok (.if_icmp .lt 39, 3) := o_161 BX12_ruled rfl rfl rfl
theorem dX12_ruled_53 : decode cX12_ruled 53 = .ok (.iinc 1 (-1), 3) := o_132 BX12_ruled rfl rfl rfl rfl
theorem dX12_ruled_56 : decode cX12_ruled 56 = .ok (.aload_n 0, 1) := o_42 BX12_ruled rfl rfl
theorem dX12_ruled_57 : decode cX12_ruled 57 = .ok (.getfield 55, 3) := o_180 BX12_ruled rfl rfl rfl
theorem dX12_ruled_60 : decode cX12_ruled 60 = .ok (.iload_n 1, 1) := o_27 BX12_ruled rfl rfl
theorem dX12_ruled_61 : decode cX12_ruled 61 = .ok (.iconst 1, 1) := o_4 BX12_ruled rfl rfl
theorem dX12_ruled_62 : decode cX12_ruled 62 = .ok (.isub, 1) := o_100 BX12_ruled rfl rfl
theorem dX12_ruled_63 : decode cX12_ruled 63 = .ok (.iload_n 3, 1) := o_29 BX12_ruled rfl rfl
theorem dX12_ruled_64 : decode cX12_ruled 64 = .ok (.sipush 2000, 3) := o_17 BX12_ruled rfl rfl rfl
theorem dX12_ruled_67 : decode cX12_ruled 67 = .ok (.isub, 1) := o_100 BX12_ruled rfl rfl
theorem dX12_ruled_68 : decode cX12_ruled 68 = .ok (.aload_n 0, 1) := o_42 BX12_ruled rfl rfl
theorem dX12_ruled_69 : decode cX12_ruled 69 = .ok (.getfield 55, 3) := o_180 BX12_ruled rfl rfl rfl
theorem dX12_ruled_72 : decode cX12_ruled 72 = .ok (.iload_n 1, 1) := o_27 BX12_ruled rfl rfl
theorem dX12_ruled_73 : decode cX12_ruled 73 = .ok (.iconst 1, 1) := o_4 BX12_ruled rfl rfl
theorem dX12_ruled_74 : decode cX12_ruled 74 = .ok (.isub, 1) := o_100 BX12_ruled rfl rfl
theorem dX12_ruled_75 : decode cX12_ruled 75 = .ok (.iaload, 1) := o_46 BX12_ruled rfl rfl
theorem dX12_ruled_76 : decode cX12_ruled 76 = .ok (.aload_n 0, 1) := o_42 BX12_ruled rfl rfl
theorem dX12_ruled_77 : decode cX12_ruled 77 = .ok (.getfield 55, 3) := o_180 BX12_ruled rfl rfl rfl
theorem dX12_ruled_80 : decode cX12_ruled 80 = .ok (.iload_n 1, 1) := o_27 BX12_ruled rfl rfl
theorem dX12_ruled_81 : decode cX12_ruled 81 = .ok (.iaload, 1) := o_46 BX12_ruled rfl rfl
theorem dX12_ruled_82 : decode cX12_ruled 82 = .ok (.invokestatic 262, 3) := o_184 BX12_ruled rfl rfl rfl
theorem dX12_ruled_85 : decode cX12_ruled 85 = .ok (.iastore, 1) := o_79 BX12_ruled rfl rfl
theorem dX12_ruled_86 : decode cX12_ruled 86 = .ok (.goto 33, 3) := o_167 BX12_ruled rfl rfl rfl
theorem dX12_ruled_89 : decode cX12_ruled 89 = .ok (.aload_n 0, 1) := o_42 BX12_ruled rfl rfl
theorem dX12_ruled_90 : decode cX12_ruled 90 = .ok (.getfield 55, 3) := o_180 BX12_ruled rfl rfl rfl
theorem dX12_ruled_93 : decode cX12_ruled 93 = .ok (.iload_n 1, 1) := o_27 BX12_ruled rfl rfl
theorem dX12_ruled_94 : decode cX12_ruled 94 = .ok (.iload_n 3, 1) := o_29 BX12_ruled rfl rfl
theorem dX12_ruled_95 : decode cX12_ruled 95 = .ok (.sipush 1000, 3) := o_17 BX12_ruled rfl rfl rfl
theorem dX12_ruled_98 : decode cX12_ruled 98 = .ok (.if_icmp .lt 16, 3) := o_161 BX12_ruled rfl rfl rfl
theorem dX12_ruled_101 : decode cX12_ruled 101 = .ok (.aload_n 0, 1) := o_42 BX12_ruled rfl rfl
theorem dX12_ruled_102 : decode cX12_ruled 102 = .ok (.getfield 58, 3) := o_180 BX12_ruled rfl rfl rfl
theorem dX12_ruled_105 : decode cX12_ruled 105 = .ok (.iload_n 3, 1) := o_29 BX12_ruled rfl rfl
theorem dX12_ruled_106 : decode cX12_ruled 106 = .ok (.sipush 1000, 3) := o_17 BX12_ruled rfl rfl rfl
theorem dX12_ruled_109 : decode cX12_ruled 109 = .ok (.isub, 1) := o_100 BX12_ruled rfl rfl
theorem dX12_ruled_110 : decode cX12_ruled 110 = .ok (.iaload, 1) := o_46 BX12_ruled rfl rfl
theorem dX12_ruled_111 : decode cX12_ruled 111 = .ok (.goto 4, 3) := o_167 BX12_ruled rfl rfl rfl
theorem dX12_ruled_114 : decode cX12_ruled 114 = .ok (.iload_n 3, 1) := o_29 BX12_ruled rfl rfl
theorem dX12_ruled_115 : decode cX12_ruled 115 = .ok (.iastore, 1) := o_79 BX12_ruled rfl rfl
theorem dX12_ruled_116 : decode cX12_ruled 116 = .ok (.iinc 1 1, 3) := o_132 BX12_ruled rfl rfl rfl rfl
theorem dX12_ruled_119 : decode cX12_ruled 119 = .ok (.iinc 2 1, 3) := o_132 BX12_ruled rfl rfl rfl rfl
theorem dX12_ruled_122 : decode cX12_ruled 122 = .ok (.goto (-118), 3) := o_167 BX12_ruled rfl rfl rfl
theorem dX12_ruled_125 : decode cX12_ruled 125 = .ok (.aload_n 0, 1) := o_42 BX12_ruled rfl rfl
theorem dX12_ruled_126 : decode cX12_ruled 126 = .ok (.getfield 252, 3) := o_180 BX12_ruled rfl rfl rfl
theorem dX12_ruled_129 : decode cX12_ruled 129 = .ok (.ifCond .ne 26, 3) := o_154 BX12_ruled rfl rfl rfl
theorem dX12_ruled_132 : decode cX12_ruled 132 = .ok (.iconst 1, 1) := o_4 BX12_ruled rfl rfl
theorem dX12_ruled_133 : decode cX12_ruled 133 = .ok (.aload_n 0, 1) := o_42 BX12_ruled rfl rfl
theorem dX12_ruled_134 : decode cX12_ruled 134 = .ok (.getfield 58, 3) := o_180 BX12_ruled rfl rfl rfl
theorem dX12_ruled_137 : decode cX12_ruled 137 = .ok (.iconst 1, 1) := o_4 BX12_ruled rfl rfl
theorem dX12_ruled_138 : decode cX12_ruled 138 = .ok (.iaload, 1) := o_46 BX12_ruled rfl rfl
theorem dX12_ruled_139 : decode cX12_ruled 139 = .ok (.iconst 2, 1) := o_5 BX12_ruled rfl rfl
theorem dX12_ruled_140 : decode cX12_ruled 140 = .ok (.if_icmp .le 7, 3) := o_164 BX12_ruled rfl rfl rfl
theorem dX12_ruled_143 : decode cX12_ruled 143 = .ok (.iconst 1, 1) := o_4 BX12_ruled rfl rfl
theorem dX12_ruled_144 : decode cX12_ruled 144 = .ok (.goto 4, 3) := o_167 BX12_ruled rfl rfl rfl
theorem dX12_ruled_147 : decode cX12_ruled 147 = .ok (.iconst 0, 1) := o_3 BX12_ruled rfl rfl
theorem dX12_ruled_148 : decode cX12_ruled 148 = .ok (.invokestatic 154, 3) := o_184 BX12_ruled rfl rfl rfl
theorem dX12_ruled_151 : decode cX12_ruled 151 = .ok (.iadd, 1) := o_96 BX12_ruled rfl rfl
theorem dX12_ruled_152 : decode cX12_ruled 152 = .ok (.goto 9, 3) := o_167 BX12_ruled rfl rfl rfl
theorem dX12_ruled_155 : decode cX12_ruled 155 = .ok (.aload_n 0, 1) := o_42 BX12_ruled rfl rfl
theorem dX12_ruled_156 : decode cX12_ruled 156 = .ok (.getfield 55, 3) := o_180 BX12_ruled rfl rfl rfl
theorem dX12_ruled_159 : decode cX12_ruled 159 = .ok (.iconst 0, 1) := o_3 BX12_ruled rfl rfl
theorem dX12_ruled_160 : decode cX12_ruled 160 = .ok (.iaload, 1) := o_46 BX12_ruled rfl rfl
theorem dX12_ruled_161 : decode cX12_ruled 161 = .ok (.ireturn, 1) := o_172 BX12_ruled rfl rfl
theorem dX12_freeAhead_0 : decode cX12_freeAhead 0 = .ok (.iconst 0, 1) := o_3 BX12_freeAhead rfl rfl
theorem dX12_freeAhead_1 : decode cX12_freeAhead 1 = .ok (.istore_n 3, 1) := o_62 BX12_freeAhead rfl rfl
theorem dX12_freeAhead_2 : decode cX12_freeAhead 2 = .ok (.iload_n 2, 1) := o_28 BX12_freeAhead rfl rfl
theorem dX12_freeAhead_3 : decode cX12_freeAhead 3 = .ok (.iload_n 3, 1) := o_29 BX12_freeAhead rfl rfl
theorem dX12_freeAhead_4 : decode cX12_freeAhead 4 = .ok (.iadd, 1) := o_96 BX12_freeAhead rfl rfl
theorem dX12_freeAhead_5 : decode cX12_freeAhead 5 = .ok (.aload_n 0, 1) := o_42 BX12_freeAhead rfl rfl
theorem dX12_freeAhead_6 : decode cX12_freeAhead 6 = .ok (.invokevirtual 192, 3) := o_182 BX12_freeAhead rfl rfl rfl
theorem dX12_freeAhead_9 : decode cX12_freeAhead 9 = .ok (.if_icmp .ge 34, 3) := o_162 BX12_freeAhead rfl rfl rfl
theorem dX12_freeAhead_12 : decode cX12_freeAhead 12 = .ok (.iload_n 2, 1) := o_28 BX12_freeAhead rfl rfl
theorem dX12_freeAhead_13 : decode cX12_freeAhead 13 = .ok (.iload_n 3, 1) := o_29 BX12_freeAhead rfl rfl
theorem dX12_freeAhead_14 : decode cX12_freeAhead 14 = .ok (.iadd, 1) := o_96 BX12_freeAhead rfl rfl
theorem dX12_freeAhead_15 : decode cX12_freeAhead 15 = .ok (.iconst 1, 1) := o_4 BX12_freeAhead rfl rfl
theorem dX12_freeAhead_16 : decode cX12_freeAhead 16 = .ok (.iadd, 1) := o_96 BX12_freeAhead rfl rfl
theorem dX12_freeAhead_17 : decode cX12_freeAhead 17 = .ok (.aload_n 0, 1) := o_42 BX12_freeAhead rfl rfl
theorem dX12_freeAhead_18 : decode cX12_freeAhead 18 = .ok (.invokevirtual 192, 3) := o_182 BX12_freeAhead rfl rfl rfl
theorem dX12_freeAhead_21 : decode cX12_freeAhead 21 = .ok (.if_icmp .eq 16, 3) := o_159 BX12_freeAhead rfl rfl rfl
theorem dX12_freeAhead_24 : decode cX12_freeAhead 24 = .ok (.aload_n 0, 1) := o_42 BX12_freeAhead rfl rfl
theorem dX12_freeAhead_25 : decode cX12_freeAhead 25 = .ok (.aload_n 1, 1) := o_43 BX12_freeAhead rfl rfl
theorem dX12_freeAhead_26 : decode cX12_freeAhead 26 = .ok (.iload_n 2, 1) := o_28 BX12_freeAhead rfl rfl
theorem dX12_freeAhead_27 : decode cX12_freeAhead 27 = .ok (.iload_n 3, 1) := o_29 BX12_freeAhead rfl rfl
theorem dX12_freeAhead_28 : decode cX12_freeAhead 28 = .ok (.iadd, 1) := o_96 BX12_freeAhead rfl rfl
theorem dX12_freeAhead_29 : decode cX12_freeAhead 29 = .ok (.iconst 1, 1) := o_4 BX12_freeAhead rfl rfl
theorem dX12_freeAhead_30 : decode cX12_freeAhead 30 = .ok (.iadd, 1) := o_96 BX12_freeAhead rfl rfl
theorem dX12_freeAhead_31 : decode cX12_freeAhead 31 = .ok (.invokevirtual 195, 3) := o_182 BX12_freeAhead rfl rfl rfl
theorem dX12_freeAhead_34 : decode cX12_freeAhead 34 = .ok (.ifCond .ge 9, 3) := o_156 BX12_freeAhead rfl rfl rfl
theorem dX12_freeAhead_37 : decode cX12_freeAhead 37 = .ok (.iinc 3 1, 3) := o_132 BX12_freeAhead rfl rfl rfl rfl
theorem dX12_freeAhead_40 : decode cX12_freeAhead 40 = .ok (.goto (-38), 3) := o_167 BX12_freeAhead rfl rfl rfl
theorem dX12_freeAhead_43 : decode cX12_freeAhead 43 = .ok (.iload_n 3, 1) := o_29 BX12_freeAhead rfl rfl
theorem dX12_freeAhead_44 : decode cX12_freeAhead 44 = .ok (.ireturn, 1) := o_172 BX12_freeAhead rfl rfl
theorem dX12_paceOf_0 : decode cX12_paceOf 0 = .ok (.aload_n 1, 1) := o_43 BX12_paceOf rfl rfl
theorem dX12_paceOf_1 : decode cX12_paceOf 1 = .ok (.iload_n 2, 1) := o_28 BX12_paceOf rfl rfl
theorem dX12_paceOf_2 : decode cX12_paceOf 2 = .ok (.invokestatic 266, 3) := o_184 BX12_paceOf rfl rfl rfl
theorem dX12_paceOf_5 : decode cX12_paceOf 5 = .ok (.ifCond .ne 5, 3) := o_154 BX12_paceOf rfl rfl rfl
theorem dX12_paceOf_8 : decode cX12_paceOf 8 = .ok (.iconst 0, 1) := o_3 BX12_paceOf rfl rfl
theorem dX12_paceOf_9 : decode cX12_paceOf 9 = .ok (.ireturn, 1) := o_172 BX12_paceOf rfl rfl
theorem dX12_paceOf_10 : decode cX12_paceOf 10 = .ok (.aload_n 0, 1) := o_42 BX12_paceOf rfl rfl
theorem dX12_paceOf_11 : decode cX12_paceOf 11 = .ok (.getfield 58, 3) := o_180 BX12_paceOf rfl rfl rfl
theorem dX12_paceOf_14 : decode cX12_paceOf 14 = .ok (.iconst 0, 1) := o_3 BX12_paceOf rfl rfl
theorem dX12_paceOf_15 : decode cX12_paceOf 15 = .ok (.aload_n 1, 1) := o_43 BX12_paceOf rfl rfl
theorem dX12_paceOf_16 : decode cX12_paceOf 16 = .ok (.iload_n 2, 1) := o_28 BX12_paceOf rfl rfl
theorem dX12_paceOf_17 : decode cX12_paceOf 17 = .ok (.iaload, 1) := o_46 BX12_paceOf rfl rfl
theorem dX12_paceOf_18 : decode cX12_paceOf 18 = .ok (.iastore, 1) := o_79 BX12_paceOf rfl rfl
theorem dX12_paceOf_19 : decode cX12_paceOf 19 = .ok (.aload_n 0, 1) := o_42 BX12_paceOf rfl rfl
theorem dX12_paceOf_20 : decode cX12_paceOf 20 = .ok (.getfield 58, 3) := o_180 BX12_paceOf rfl rfl rfl
theorem dX12_paceOf_23 : decode cX12_paceOf 23 = .ok (.iconst 1, 1) := o_4 BX12_paceOf rfl rfl
theorem dX12_paceOf_24 : decode cX12_paceOf 24 = .ok (.aload_n 0, 1) := o_42 BX12_paceOf rfl rfl
theorem dX12_paceOf_25 : decode cX12_paceOf 25 = .ok (.aload_n 1, 1) := o_43 BX12_paceOf rfl rfl
theorem dX12_paceOf_26 : decode cX12_paceOf 26 = .ok (.aload_n 1, 1) := o_43 BX12_paceOf rfl rfl
theorem dX12_paceOf_27 : decode cX12_paceOf 27 = .ok (.iload_n 2, 1) := o_28 BX12_paceOf rfl rfl
theorem dX12_paceOf_28 : decode cX12_paceOf 28 = .ok (.iaload, 1) := o_46 BX12_paceOf rfl rfl
theorem dX12_paceOf_29 : decode cX12_paceOf 29 = .ok (.invokevirtual 269, 3) := o_182 BX12_paceOf rfl rfl rfl
theorem dX12_paceOf_32 : decode cX12_paceOf 32 = .ok (.iastore, 1) := o_79 BX12_paceOf rfl rfl
theorem dX12_paceOf_33 : decode cX12_paceOf 33 = .ok (.aload_n 0, 1) := o_42 BX12_paceOf rfl rfl
theorem dX12_paceOf_34 : decode cX12_paceOf 34 = .ok (.getfield 58, 3) := o_180 BX12_paceOf rfl rfl rfl
theorem dX12_paceOf_37 : decode cX12_paceOf 37 = .ok (.iconst 2, 1) := o_5 BX12_paceOf rfl rfl
theorem dX12_paceOf_38 : decode cX12_paceOf 38 = .ok (.aload_n 0, 1) := o_42 BX12_paceOf rfl rfl
theorem dX12_paceOf_39 : decode cX12_paceOf 39 = .ok (.getfield 20, 3) := o_180 BX12_paceOf rfl rfl rfl
theorem dX12_paceOf_42 : decode cX12_paceOf 42 = .ok (.aload_n 1, 1) := o_43 BX12_paceOf rfl rfl
theorem dX12_paceOf_43 : decode cX12_paceOf 43 = .ok (.iload_n 2, 1) := o_28 BX12_paceOf rfl rfl
theorem dX12_paceOf_44 : decode cX12_paceOf 44 = .ok (.iaload, 1) := o_46 BX12_paceOf rfl rfl
theorem dX12_paceOf_45 : decode cX12_paceOf 45 = .ok (.baload, 1) := o_51 BX12_paceOf rfl rfl
theorem dX12_paceOf_46 : decode cX12_paceOf 46 = .ok (.invokestatic 154, 3) := o_184 BX12_paceOf rfl rfl rfl
theorem dX12_paceOf_49 : decode cX12_paceOf 49 = .ok (.iastore, 1) := o_79 BX12_paceOf rfl rfl
theorem dX12_paceOf_50 : decode cX12_paceOf 50 = .ok (.aload_n 0, 1) := o_42 BX12_paceOf rfl rfl
theorem dX12_paceOf_51 : decode cX12_paceOf 51 = .ok (.getfield 58, 3) := o_180 BX12_paceOf rfl rfl rfl
theorem dX12_paceOf_54 : decode cX12_paceOf 54 = .ok (.iconst 3, 1) := o_6 BX12_paceOf rfl rfl
theorem dX12_paceOf_55 : decode cX12_paceOf 55 = .ok (.aload_n 0, 1) := o_42 BX12_paceOf rfl rfl
theorem dX12_paceOf_56 : decode cX12_paceOf 56 = .ok (.aload_n 1, 1) := o_43 BX12_paceOf rfl rfl
theorem dX12_paceOf_57 : decode cX12_paceOf 57 = .ok (.bipush 37, 2) := o_16 BX12_paceOf rfl rfl rfl
theorem dX12_paceOf_59 : decode cX12_paceOf 59 = .ok (.iaload, 1) := o_46 BX12_paceOf rfl rfl
theorem dX12_paceOf_60 : decode cX12_paceOf 60 = .ok (.invokevirtual 272, 3) := o_182 BX12_paceOf rfl rfl rfl
theorem dX12_paceOf_63 : decode cX12_paceOf 63 = .ok (.iastore, 1) := o_79 BX12_paceOf rfl rfl
theorem dX12_paceOf_64 : decode cX12_paceOf 64 = .ok (.aload_n 0, 1) := o_42 BX12_paceOf rfl rfl
theorem dX12_paceOf_65 : decode cX12_paceOf 65 = .ok (.getfield 58, 3) := o_180 BX12_paceOf rfl rfl rfl
theorem dX12_paceOf_68 : decode cX12_paceOf 68 = .ok (.iconst 4, 1) := o_7 BX12_paceOf rfl rfl
theorem dX12_paceOf_69 : decode cX12_paceOf 69 = .ok (.aload_n 1, 1) := o_43 BX12_paceOf rfl rfl
theorem dX12_paceOf_70 : decode cX12_paceOf 70 = .ok (.bipush 37, 2) := o_16 BX12_paceOf rfl rfl rfl
theorem dX12_paceOf_72 : decode cX12_paceOf 72 = .ok (.iaload, 1) := o_46 BX12_paceOf rfl rfl
theorem dX12_paceOf_73 : decode cX12_paceOf 73 = .ok (.bipush 10, 2) := o_16 BX12_paceOf rfl rfl rfl
theorem dX12_paceOf_75 : decode cX12_paceOf 75 = .ok (.irem, 1) := o_112 BX12_paceOf rfl rfl
theorem dX12_paceOf_76 : decode cX12_paceOf 76 = .ok (.iastore, 1) := o_79 BX12_paceOf rfl rfl
theorem dX12_paceOf_77 : decode cX12_paceOf 77 = .ok (.aload_n 0, 1) := o_42 BX12_paceOf rfl rfl
theorem dX12_paceOf_78 : decode cX12_paceOf 78 = .ok (.getfield 58, 3) := o_180 BX12_paceOf rfl rfl rfl
theorem dX12_paceOf_81 : decode cX12_paceOf 81 = .ok (.iconst 5, 1) := o_8 BX12_paceOf rfl rfl
theorem dX12_paceOf_82 : decode cX12_paceOf 82 = .ok (.iload_n 2, 1) := o_28 BX12_paceOf rfl rfl
theorem dX12_paceOf_83 : decode cX12_paceOf 83 = .ok (.iastore, 1) := o_79 BX12_paceOf rfl rfl
theorem dX12_paceOf_84 : decode cX12_paceOf 84 = .ok (.aload_n 0, 1) := o_42 BX12_paceOf rfl rfl
theorem dX12_paceOf_85 : decode cX12_paceOf 85 = .ok (.getfield 58, 3) := o_180 BX12_paceOf rfl rfl rfl
theorem dX12_paceOf_88 : decode cX12_paceOf 88 = .ok (.bipush 6, 2) := o_16 BX12_paceOf rfl rfl rfl
theorem dX12_paceOf_90 : decode cX12_paceOf 90 = .ok (.aload_n 0, 1) := o_42 BX12_paceOf rfl rfl
theorem dX12_paceOf_91 : decode cX12_paceOf 91 = .ok (.aload_n 1, 1) := o_43 BX12_paceOf rfl rfl
theorem dX12_paceOf_92 : decode cX12_paceOf 92 = .ok (.bipush 21, 2) := o_16 BX12_paceOf rfl rfl rfl
theorem dX12_paceOf_94 : decode cX12_paceOf 94 = .ok (.iload_n 2, 1) := o_28 BX12_paceOf rfl rfl
theorem dX12_paceOf_95 : decode cX12_paceOf 95 = .ok (.invokevirtual 275, 3) := o_182 BX12_paceOf rfl rfl rfl
theorem dX12_paceOf_98 : decode cX12_paceOf 98 = .ok (.invokestatic 279, 3) := o_184 BX12_paceOf rfl rfl rfl
theorem dX12_paceOf_101 : decode cX12_paceOf 101 = .ok (.iastore, 1) := o_79 BX12_paceOf rfl rfl
theorem dX12_paceOf_102 : decode cX12_paceOf 102 = .ok (.iconst 0, 1) := o_3 BX12_paceOf rfl rfl
theorem dX12_paceOf_103 : decode cX12_paceOf 103 = .ok (.iconst 3, 1) := o_6 BX12_paceOf rfl rfl
theorem dX12_paceOf_104 : decode cX12_paceOf 104 = .ok (.aload_n 0, 1) := o_42 BX12_paceOf rfl rfl
theorem dX12_paceOf_105 : decode cX12_paceOf 105 = .ok (.invokevirtual 284, 3) := o_182 BX12_paceOf rfl rfl rfl
theorem dX12_paceOf_108 : decode cX12_paceOf 108 = .ok (.invokestatic 145, 3) := o_184 BX12_paceOf rfl rfl rfl
theorem dX12_paceOf_111 : decode cX12_paceOf 111 = .ok (.invokestatic 287, 3) := o_184 BX12_paceOf rfl rfl rfl
theorem dX12_paceOf_114 : decode cX12_paceOf 114 = .ok (.ireturn, 1) := o_172 BX12_paceOf rfl rfl
theorem dX12_nearest_0 : decode cX12_nearest 0 = .ok (.iconst (-1), 1) := o_2 BX12_nearest rfl rfl
theorem dX12_nearest_1 : decode cX12_nearest 1 = .ok (.istore_n 3, 1) := o_62 BX12_nearest rfl rfl
theorem dX12_nearest_2 : decode cX12_nearest 2 = .ok (.iconst 0, 1) := o_3 BX12_nearest rfl rfl
theorem dX12_nearest_3 : decode cX12_nearest 3 = .ok (.istore 4, 2) := o_54 BX12_nearest rfl rfl rfl
theorem dX12_nearest_5 : decode cX12_nearest 5 = .ok (.iload 4, 2) := o_21 BX12_nearest rfl rfl rfl
theorem dX12_nearest_7 : decode cX12_nearest 7 = .ok (.aload_n 0, 1) := o_42 BX12_nearest rfl rfl
theorem dX12_nearest_8 : decode cX12_nearest 8 = .ok (.getfield 122, 3) := o_180 BX12_nearest rfl rfl rfl
theorem dX12_nearest_11 : decode cX12_nearest 11 = .ok (.if_icmp .ge 80, 3) := o_162 BX12_nearest rfl rfl rfl
theorem dX12_nearest_14 : decode cX12_nearest 14 = .ok (.aload_n 1, 1) := o_43 BX12_nearest rfl rfl
theorem dX12_nearest_15 : decode cX12_nearest 15 = .ok (.iload 4, 2) := o_21 BX12_nearest rfl rfl rfl
theorem dX12_nearest_17 : decode cX12_nearest 17 = .ok (.invokestatic 266, 3) := o_184 BX12_nearest rfl rfl rfl
theorem dX12_nearest_20 : decode cX12_nearest 20 = .ok (.ifCond .eq 65, 3) := o_153 BX12_nearest rfl rfl rfl
theorem dX12_nearest_23 : decode cX12_nearest 23 = .ok (.aload_n 1, 1) := o_43 BX12_nearest rfl rfl
theorem dX12_nearest_24 : decode cX12_nearest 24 = .ok (.iload 4, 2) := o_21 BX12_nearest rfl rfl rfl
theorem dX12_nearest_26 : decode cX12_nearest 26 = .ok (.iaload, 1) := o_46 BX12_nearest rfl rfl
theorem dX12_nearest_27 : decode cX12_nearest 27 = .ok (.iload_n 2, 1) := o_28 BX12_nearest rfl rfl
theorem dX12_nearest_28 : decode cX12_nearest 28 = .ok (.isub, 1) := o_100 BX12_nearest rfl rfl
theorem dX12_nearest_29 : decode cX12_nearest 29 = .ok (.invokestatic 290, 3) := o_184 BX12_nearest rfl rfl rfl
theorem dX12_nearest_32 : decode cX12_nearest 32 = .ok (.istore 5, 2) := o_54 BX12_nearest rfl rfl rfl
theorem dX12_nearest_34 : decode cX12_nearest 34 = .ok (.iload_n 3, 1) := o_29 BX12_nearest rfl rfl
theorem dX12_nearest_35 : decode cX12_nearest 35 = .ok (.ifCond .ge 9, 3) := o_156 BX12_nearest rfl rfl rfl
theorem dX12_nearest_38 : decode cX12_nearest 38 = .ok (.ldc_w 293, 3) := o_19 BX12_nearest rfl rfl rfl
theorem dX12_nearest_41 : decode cX12_nearest 41 = .ok (.goto 11, 3) := o_167 BX12_nearest rfl rfl rfl
theorem dX12_nearest_44 : decode cX12_nearest 44 = .ok (.aload_n 1, 1) := o_43 BX12_nearest rfl rfl
theorem dX12_nearest_45 : decode cX12_nearest 45 = .ok (.iload_n 3, 1) := o_29 BX12_nearest rfl rfl
theorem dX12_nearest_46 : decode cX12_nearest 46 = .ok (.iaload, 1) := o_46 BX12_nearest rfl rfl
theorem dX12_nearest_47 : decode cX12_nearest 47 = .ok (.iload_n 2, 1) := o_28 BX12_nearest rfl rfl
theorem dX12_nearest_48 : decode cX12_nearest 48 = .ok (.isub, 1) := o_100 BX12_nearest rfl rfl
theorem dX12_nearest_49 : decode cX12_nearest 49 = .ok (.invokestatic 290, 3) := o_184 BX12_nearest rfl rfl rfl
theorem dX12_nearest_52 : decode cX12_nearest 52 = .ok (.istore 6, 2) := o_54 BX12_nearest rfl rfl rfl
theorem dX12_nearest_54 : decode cX12_nearest 54 = .ok (.iload 5, 2) := o_21 BX12_nearest rfl rfl rfl
theorem dX12_nearest_56 : decode cX12_nearest 56 = .ok (.iload 6, 2) := o_21 BX12_nearest rfl rfl rfl
theorem dX12_nearest_58 : decode cX12_nearest 58 = .ok (.if_icmp .lt 20, 3) := o_161 BX12_nearest rfl rfl rfl
theorem dX12_nearest_61 : decode cX12_nearest 61 = .ok (.iload 5, 2) := o_21 BX12_nearest rfl rfl rfl
theorem dX12_nearest_63 : decode cX12_nearest 63 = .ok (.iload 6, 2) := o_21 BX12_nearest rfl rfl rfl
theorem dX12_nearest_65 : decode cX12_nearest 65 = .ok (.if_icmp .ne 18, 3) := o_160 BX12_nearest rfl rfl rfl
theorem dX12_nearest_68 : decode cX12_nearest 68 = .ok (.aload_n 1, 1) := o_43 BX12_nearest rfl rfl
theorem dX12_nearest_69 : decode cX12_nearest 69 = .ok (.iload 4, 2) := o_21 BX12_nearest rfl rfl rfl
theorem dX12_nearest_71 : decode cX12_nearest 71 = .ok (.iaload, 1) := o_46 BX12_nearest rfl rfl
theorem dX12_nearest_72 : decode cX12_nearest 72 = .ok (.aload_n 1, 1) := o_43 BX12_nearest rfl rfl
theorem dX12_nearest_73 : decode cX12_nearest 73 = .ok (.iload_n 3, 1) := o_29 BX12_nearest rfl rfl
theorem dX12_nearest_74 : decode cX12_nearest 74 = .ok (.iaload, 1) := o_46 BX12_nearest rfl rfl
theorem dX12_nearest_75 : decode cX12_nearest 75 = .ok (.if_icmp .le 8, 3) := o_164 BX12_nearest rfl rfl rfl
theorem dX12_nearest_78 : decode cX12_nearest 78 = .ok (.iload 4, 2) := o_21 BX12_nearest rfl rfl rfl
theorem dX12_nearest_80 : decode cX12_nearest 80 = .ok (.goto 4, 3) := o_167 BX12_nearest rfl rfl rfl
theorem dX12_nearest_83 : decode cX12_nearest 83 = .ok (.iload_n 3, 1) := o_29 BX12_nearest rfl rfl
theorem dX12_nearest_84 : decode cX12_nearest 84 = .ok (.istore_n 3, 1) := o_62 BX12_nearest rfl rfl
theorem dX12_nearest_85 : decode cX12_nearest 85 = .ok (.iinc 4 1, 3) := o_132 BX12_nearest rfl rfl rfl rfl
theorem dX12_nearest_88 : decode cX12_nearest 88 = .ok (.goto (-83), 3) := o_167 BX12_nearest rfl rfl rfl
theorem dX12_nearest_91 : decode cX12_nearest 91 = .ok (.iload_n 3, 1) := o_29 BX12_nearest rfl rfl
theorem dX12_nearest_92 : decode cX12_nearest 92 = .ok (.ireturn, 1) := o_172 BX12_nearest rfl rfl
theorem dX12_hearse_0 : decode cX12_hearse 0 = .ok (.aload_n 0, 1) := o_42 BX12_hearse rfl rfl
theorem dX12_hearse_1 : decode cX12_hearse 1 = .ok (.iconst 0, 1) := o_3 BX12_hearse rfl rfl
theorem dX12_hearse_2 : decode cX12_hearse 2 = .ok (.putfield 112, 3) := o_181 BX12_hearse rfl rfl rfl
theorem dX12_hearse_5 : decode cX12_hearse 5 = .ok (.aload_n 0, 1) := o_42 BX12_hearse rfl rfl
theorem dX12_hearse_6 : decode cX12_hearse 6 = .ok (.iload_n 1, 1) := o_27 BX12_hearse rfl rfl
theorem dX12_hearse_7 : decode cX12_hearse 7 = .ok (.invokevirtual 294, 3) := o_182 BX12_hearse rfl rfl rfl
theorem dX12_hearse_10 : decode cX12_hearse 10 = .ok (.ifCond .eq 15, 3) := o_153 BX12_hearse rfl rfl rfl
theorem dX12_hearse_13 : decode cX12_hearse 13 = .ok (.iload_n 2, 1) := o_28 BX12_hearse rfl rfl
theorem dX12_hearse_14 : decode cX12_hearse 14 = .ok (.i2l, 1) := o_133 BX12_hearse rfl rfl
theorem dX12_hearse_15 : decode cX12_hearse 15 = .ok (.lconst 0, 1) := o_9 BX12_hearse rfl rfl
theorem dX12_hearse_16 : decode cX12_hearse 16 = .ok (.ldc2_w 297, 3) := o_20 BX12_hearse rfl rfl rfl
theorem dX12_hearse_19 : decode cX12_hearse 19 = .ok (.invokestatic 125, 3) := o_184 BX12_hearse rfl rfl rfl
theorem dX12_hearse_22 : decode cX12_hearse 22 = .ok (.ifCond .ne 8, 3) := o_154 BX12_hearse rfl rfl rfl
theorem dX12_hearse_25 : decode cX12_hearse 25 = .ok (.aload_n 0, 1) := o_42 BX12_hearse rfl rfl
theorem dX12_hearse_26 : decode cX12_hearse 26 = .ok (.invokevirtual 299, 3) := o_182 BX12_hearse rfl rfl rfl
theorem dX12_hearse_29 : decode cX12_hearse 29 = .ok (.ireturn, 1) := o_172 BX12_hearse rfl rfl
theorem dX12_hearse_30 : decode cX12_hearse 30 = .ok (.iload_n 2, 1) := o_28 BX12_hearse rfl rfl
theorem dX12_hearse_31 : decode cX12_hearse 31 = .ok (.tableswitch 84 0 4 #[33, 40, 50, 60, 72], 33) := by decide +kernel
theorem dX12_hearse_64 : decode cX12_hearse 64 = .ok (.aload_n 0, 1) := o_42 BX12_hearse rfl rfl
theorem dX12_hearse_65 : decode cX12_hearse 65 = .ok (.getfield 31, 3) := o_180 BX12_hearse rfl rfl rfl
theorem dX12_hearse_68 : decode cX12_hearse 68 = .ok (.iload_n 1, 1) := o_27 BX12_hearse rfl rfl
theorem dX12_hearse_69 : decode cX12_hearse 69 = .ok (.iaload, 1) := o_46 BX12_hearse rfl rfl
theorem dX12_hearse_70 : decode cX12_hearse 70 = .ok (.ireturn, 1) := o_172 BX12_hearse rfl rfl
theorem dX12_hearse_71 : decode cX12_hearse 71 = .ok (.aload_n 0, 1) := o_42 BX12_hearse rfl rfl
theorem dX12_hearse_72 : decode cX12_hearse 72 = .ok (.getfield 31, 3) := o_180 BX12_hearse rfl rfl rfl
theorem dX12_hearse_75 : decode cX12_hearse 75 = .ok (.bipush 6, 2) := o_16 BX12_hearse rfl rfl rfl
theorem dX12_hearse_77 : decode cX12_hearse 77 = .ok (.iload_n 1, 1) := o_27 BX12_hearse rfl rfl
theorem dX12_hearse_78 : decode cX12_hearse 78 = .ok (.iadd, 1) := o_96 BX12_hearse rfl rfl
theorem dX12_hearse_79 : decode cX12_hearse 79 = .ok (.iaload, 1) := o_46 BX12_hearse rfl rfl
theorem dX12_hearse_80 : decode cX12_hearse 80 = .ok (.ireturn, 1) := o_172 BX12_hearse rfl rfl
theorem dX12_hearse_81 : decode cX12_hearse 81 = .ok (.aload_n 0, 1) := o_42 BX12_hearse rfl rfl
theorem dX12_hearse_82 : decode cX12_hearse 82 = .ok (.aload_n 0, 1) := o_42 BX12_hearse rfl rfl
theorem dX12_hearse_83 : decode cX12_hearse 83 = .ok (.getfield 31, 3) := o_180 BX12_hearse rfl rfl rfl
theorem dX12_hearse_86 : decode cX12_hearse 86 = .ok (.iload_n 1, 1) := o_27 BX12_hearse rfl rfl
theorem dX12_hearse_87 : decode cX12_hearse 87 = .ok (.invokevirtual 302, 3) := o_182 BX12_hearse rfl rfl rfl
theorem dX12_hearse_90 : decode cX12_hearse 90 = .ok (.ireturn, 1) := o_172 BX12_hearse rfl rfl
theorem dX12_hearse_91 : decode cX12_hearse 91 = .ok (.aload_n 0, 1) := o_42 BX12_hearse rfl rfl
theorem dX12_hearse_92 : decode cX12_hearse 92 = .ok (.aload_n 0, 1) := o_42 BX12_hearse rfl rfl
theorem dX12_hearse_93 : decode cX12_hearse 93 = .ok (.getfield 31, 3) := o_180 BX12_hearse rfl rfl rfl
theorem dX12_hearse_96 : decode cX12_hearse 96 = .ok (.bipush 21, 2) := o_16 BX12_hearse rfl rfl rfl
theorem dX12_hearse_98 : decode cX12_hearse 98 = .ok (.iload_n 1, 1) := o_27 BX12_hearse rfl rfl
theorem dX12_hearse_99 : decode cX12_hearse 99 = .ok (.invokevirtual 275, 3) := o_182 BX12_hearse rfl rfl rfl
theorem dX12_hearse_102 : decode cX12_hearse 102 = .ok (.ireturn, 1) := o_172 BX12_hearse rfl rfl
theorem dX12_hearse_103 : decode cX12_hearse 103 = .ok (.aload_n 0, 1) := o_42 BX12_hearse rfl rfl
theorem dX12_hearse_104 : decode cX12_hearse 104 = .ok (.aload_n 0, 1) := o_42 BX12_hearse rfl rfl
theorem dX12_hearse_105 : decode cX12_hearse 105 = .ok (.getfield 31, 3) := o_180 BX12_hearse rfl rfl rfl
theorem dX12_hearse_108 : decode cX12_hearse 108 = .ok (.bipush 29, 2) := o_16 BX12_hearse rfl rfl rfl
theorem dX12_hearse_110 : decode cX12_hearse 110 = .ok (.iload_n 1, 1) := o_27 BX12_hearse rfl rfl
theorem dX12_hearse_111 : decode cX12_hearse 111 = .ok (.invokevirtual 275, 3) := o_182 BX12_hearse rfl rfl rfl
theorem dX12_hearse_114 : decode cX12_hearse 114 = .ok (.ireturn, 1) := o_172 BX12_hearse rfl rfl
theorem dX12_hearse_115 : decode cX12_hearse 115 = .ok (.aload_n 0, 1) := o_42 BX12_hearse rfl rfl
theorem dX12_hearse_116 : decode cX12_hearse 116 = .ok (.iload_n 1, 1) := o_27 BX12_hearse rfl rfl
theorem dX12_hearse_117 : decode cX12_hearse 117 = .ok (.invokevirtual 305, 3) := o_182 BX12_hearse rfl rfl rfl
theorem dX12_hearse_120 : decode cX12_hearse 120 = .ok (.ireturn, 1) := o_172 BX12_hearse rfl rfl
theorem dX12_mourner_0 : decode cX12_mourner 0 = .ok (.aload_n 0, 1) := o_42 BX12_mourner rfl rfl
theorem dX12_mourner_1 : decode cX12_mourner 1 = .ok (.iconst 0, 1) := o_3 BX12_mourner rfl rfl
theorem dX12_mourner_2 : decode cX12_mourner 2 = .ok (.putfield 112, 3) := o_181 BX12_mourner rfl rfl rfl
theorem dX12_mourner_5 : decode cX12_mourner 5 = .ok (.aload_n 0, 1) := o_42 BX12_mourner rfl rfl
theorem dX12_mourner_6 : decode cX12_mourner 6 = .ok (.iload_n 1, 1) := o_27 BX12_mourner rfl rfl
theorem dX12_mourner_7 : decode cX12_mourner 7 = .ok (.invokevirtual 308, 3) := o_182 BX12_mourner rfl rfl rfl
theorem dX12_mourner_10 : decode cX12_mourner 10 = .ok (.ifCond .eq 15, 3) := o_153 BX12_mourner rfl rfl rfl
theorem dX12_mourner_13 : decode cX12_mourner 13 = .ok (.iload_n 2, 1) := o_28 BX12_mourner rfl rfl
theorem dX12_mourner_14 : decode cX12_mourner 14 = .ok (.i2l, 1) := o_133 BX12_mourner rfl rfl
theorem dX12_mourner_15 : decode cX12_mourner 15 = .ok (.lconst 0, 1) := o_9 BX12_mourner rfl rfl
theorem dX12_mourner_16 : decode cX12_mourner 16 = .ok (.ldc2_w 311, 3) := o_20 BX12_mourner rfl rfl rfl
theorem dX12_mourner_19 : decode cX12_mourner 19 = .ok (.invokestatic 125, 3) := o_184 BX12_mourner rfl rfl rfl
theorem dX12_mourner_22 : decode cX12_mourner 22 = .ok (.ifCond .ne 8, 3) := o_154 BX12_mourner rfl rfl rfl
theorem dX12_mourner_25 : decode cX12_mourner 25 = .ok (.aload_n 0, 1) := o_42 BX12_mourner rfl rfl
theorem dX12_mourner_26 : decode cX12_mourner 26 = .ok (.invokevirtual 299, 3) := o_182 BX12_mourner rfl rfl rfl
theorem dX12_mourner_29 : decode cX12_mourner 29 = .ok (.ireturn, 1) := o_172 BX12_mourner rfl rfl
theorem dX12_mourner_30 : decode cX12_mourner 30 = .ok (.iload_n 2, 1) := o_28 BX12_mourner rfl rfl
theorem dX12_mourner_31 : decode cX12_mourner 31 = .ok (.tableswitch 66 0 3 #[29, 39, 46, 56], 29) := by decide +kernel
theorem dX12_mourner_60 : decode cX12_mourner 60 = .ok (.aload_n 0, 1) := o_42 BX12_mourner rfl rfl
theorem dX12_mourner_61 : decode cX12_mourner 61 = .ok (.getfield 31, 3) := o_180 BX12_mourner rfl rfl rfl
theorem dX12_mourner_64 : decode cX12_mourner 64 = .ok (.bipush 13, 2) := o_16 BX12_mourner rfl rfl rfl
theorem dX12_mourner_66 : decode cX12_mourner 66 = .ok (.iload_n 1, 1) := o_27 BX12_mourner rfl rfl
theorem dX12_mourner_67 : decode cX12_mourner 67 = .ok (.iadd, 1) := o_96 BX12_mourner rfl rfl
theorem dX12_mourner_68 : decode cX12_mourner 68 = .ok (.iaload, 1) := o_46 BX12_mourner rfl rfl
theorem dX12_mourner_69 : decode cX12_mourner 69 = .ok (.ireturn, 1) := o_172 BX12_mourner rfl rfl
theorem dX12_mourner_70 : decode cX12_mourner 70 = .ok (.aload_n 0, 1) := o_42 BX12_mourner rfl rfl
theorem dX12_mourner_71 : decode cX12_mourner 71 = .ok (.getfield 24, 3) := o_180 BX12_mourner rfl rfl rfl
theorem dX12_mourner_74 : decode cX12_mourner 74 = .ok (.iload_n 1, 1) := o_27 BX12_mourner rfl rfl
theorem dX12_mourner_75 : decode cX12_mourner 75 = .ok (.iaload, 1) := o_46 BX12_mourner rfl rfl
theorem dX12_mourner_76 : decode cX12_mourner 76 = .ok (.ireturn, 1) := o_172 BX12_mourner rfl rfl
theorem dX12_mourner_77 : decode cX12_mourner 77 = .ok (.aload_n 0, 1) := o_42 BX12_mourner rfl rfl
theorem dX12_mourner_78 : decode cX12_mourner 78 = .ok (.getfield 31, 3) := o_180 BX12_mourner rfl rfl rfl
theorem dX12_mourner_81 : decode cX12_mourner 81 = .ok (.bipush 21, 2) := o_16 BX12_mourner rfl rfl rfl
theorem dX12_mourner_83 : decode cX12_mourner 83 = .ok (.iload_n 1, 1) := o_27 BX12_mourner rfl rfl
theorem dX12_mourner_84 : decode cX12_mourner 84 = .ok (.iadd, 1) := o_96 BX12_mourner rfl rfl
theorem dX12_mourner_85 : decode cX12_mourner 85 = .ok (.iaload, 1) := o_46 BX12_mourner rfl rfl
theorem dX12_mourner_86 : decode cX12_mourner 86 = .ok (.ireturn, 1) := o_172 BX12_mourner rfl rfl
theorem dX12_mourner_87 : decode cX12_mourner 87 = .ok (.aload_n 0, 1) := o_42 BX12_mourner rfl rfl
theorem dX12_mourner_88 : decode cX12_mourner 88 = .ok (.getfield 31, 3) := o_180 BX12_mourner rfl rfl rfl
theorem dX12_mourner_91 : decode cX12_mourner 91 = .ok (.bipush 29, 2) := o_16 BX12_mourner rfl rfl rfl
theorem dX12_mourner_93 : decode cX12_mourner 93 = .ok (.iload_n 1, 1) := o_27 BX12_mourner rfl rfl
theorem dX12_mourner_94 : decode cX12_mourner 94 = .ok (.iadd, 1) := o_96 BX12_mourner rfl rfl
theorem dX12_mourner_95 : decode cX12_mourner 95 = .ok (.iaload, 1) := o_46 BX12_mourner rfl rfl
theorem dX12_mourner_96 : decode cX12_mourner 96 = .ok (.ireturn, 1) := o_172 BX12_mourner rfl rfl
theorem dX12_mourner_97 : decode cX12_mourner 97 = .ok (.aload_n 0, 1) := o_42 BX12_mourner rfl rfl
theorem dX12_mourner_98 : decode cX12_mourner 98 = .ok (.aload_n 0, 1) := o_42 BX12_mourner rfl rfl
theorem dX12_mourner_99 : decode cX12_mourner 99 = .ok (.getfield 31, 3) := o_180 BX12_mourner rfl rfl rfl
theorem dX12_mourner_102 : decode cX12_mourner 102 = .ok (.aload_n 0, 1) := o_42 BX12_mourner rfl rfl
theorem dX12_mourner_103 : decode cX12_mourner 103 = .ok (.getfield 31, 3) := o_180 BX12_mourner rfl rfl rfl
theorem dX12_mourner_106 : decode cX12_mourner 106 = .ok (.bipush 13, 2) := o_16 BX12_mourner rfl rfl rfl
theorem dX12_mourner_108 : decode cX12_mourner 108 = .ok (.iload_n 1, 1) := o_27 BX12_mourner rfl rfl
theorem dX12_mourner_109 : decode cX12_mourner 109 = .ok (.iadd, 1) := o_96 BX12_mourner rfl rfl
theorem dX12_mourner_110 : decode cX12_mourner 110 = .ok (.iaload, 1) := o_46 BX12_mourner rfl rfl
theorem dX12_mourner_111 : decode cX12_mourner 111 = .ok (.invokevirtual 313, 3) := o_182 BX12_mourner rfl rfl rfl
theorem dX12_mourner_114 : decode cX12_mourner 114 = .ok (.ireturn, 1) := o_172 BX12_mourner rfl rfl
theorem dX12_sheet_0 : decode cX12_sheet 0 = .ok (.aload_n 0, 1) := o_42 BX12_sheet rfl rfl
theorem dX12_sheet_1 : decode cX12_sheet 1 = .ok (.iconst 0, 1) := o_3 BX12_sheet rfl rfl
theorem dX12_sheet_2 : decode cX12_sheet 2 = .ok (.putfield 112, 3) := o_181 BX12_sheet rfl rfl rfl
theorem dX12_sheet_5 : decode cX12_sheet 5 = .ok (.iload_n 1, 1) := o_27 BX12_sheet rfl rfl
theorem dX12_sheet_6 : decode cX12_sheet 6 = .ok (.i2l, 1) := o_133 BX12_sheet rfl rfl
theorem dX12_sheet_7 : decode cX12_sheet 7 = .ok (.lconst 0, 1) := o_9 BX12_sheet rfl rfl
theorem dX12_sheet_8 : decode cX12_sheet 8 = .ok (.ldc2_w 316, 3) := o_20 BX12_sheet rfl rfl rfl
theorem dX12_sheet_11 : decode cX12_sheet 11 = .ok (.invokestatic 125, 3) := o_184 BX12_sheet rfl rfl rfl
theorem dX12_sheet_14 : decode cX12_sheet 14 = .ok (.ifCond .eq 9, 3) := o_153 BX12_sheet rfl rfl rfl
theorem dX12_sheet_17 : decode cX12_sheet 17 = .ok (.iload_n 2, 1) := o_28 BX12_sheet rfl rfl
theorem dX12_sheet_18 : decode cX12_sheet 18 = .ok (.bipush 8, 2) := o_16 BX12_sheet rfl rfl rfl
theorem dX12_sheet_20 : decode cX12_sheet 20 = .ok (.if_icmp .le 5, 3) := o_164 BX12_sheet rfl rfl rfl
theorem dX12_sheet_23 : decode cX12_sheet 23 = .ok (.iconst (-1), 1) := o_2 BX12_sheet rfl rfl
theorem dX12_sheet_24 : decode cX12_sheet 24 = .ok (.ireturn, 1) := o_172 BX12_sheet rfl rfl
theorem dX12_sheet_25 : decode cX12_sheet 25 = .ok (.iload_n 1, 1) := o_27 BX12_sheet rfl rfl
theorem dX12_sheet_26 : decode cX12_sheet 26 = .ok (.iconst 3, 1) := o_6 BX12_sheet rfl rfl
theorem dX12_sheet_27 : decode cX12_sheet 27 = .ok (.if_icmp .eq 10, 3) := o_159 BX12_sheet rfl rfl rfl
theorem dX12_sheet_30 : decode cX12_sheet 30 = .ok (.iload_n 2, 1) := o_28 BX12_sheet rfl rfl
theorem dX12_sheet_31 : decode cX12_sheet 31 = .ok (.ifCond .ge 6, 3) := o_156 BX12_sheet rfl rfl rfl
theorem dX12_sheet_34 : decode cX12_sheet 34 = .ok (.bipush (-2), 2) := o_16 BX12_sheet rfl rfl rfl
theorem dX12_sheet_36 : decode cX12_sheet 36 = .ok (.ireturn, 1) := o_172 BX12_sheet rfl rfl
theorem dX12_sheet_37 : decode cX12_sheet 37 = .ok (.iconst 0, 1) := o_3 BX12_sheet rfl rfl
theorem dX12_sheet_38 : decode cX12_sheet 38 = .ok (.istore 5, 2) := o_54 BX12_sheet rfl rfl rfl
theorem dX12_sheet_40 : decode cX12_sheet 40 = .ok (.iload_n 3, 1) := o_29 BX12_sheet rfl rfl
theorem dX12_sheet_41 : decode cX12_sheet 41 = .ok (.istore 6, 2) := o_54 BX12_sheet rfl rfl rfl
theorem dX12_sheet_43 : decode cX12_sheet 43 = .ok (.iconst 0, 1) := o_3 BX12_sheet rfl rfl
theorem dX12_sheet_44 : decode cX12_sheet 44 = .ok (.istore 7, 2) := o_54 BX12_sheet rfl rfl rfl
theorem dX12_sheet_46 : decode cX12_sheet 46 = .ok (.iload 7, 2) := o_21 BX12_sheet rfl rfl rfl
theorem dX12_sheet_48 : decode cX12_sheet 48 = .ok (.aload_n 0, 1) := o_42 BX12_sheet rfl rfl
theorem dX12_sheet_49 : decode cX12_sheet 49 = .ok (.getfield 129, 3) := o_180 BX12_sheet rfl rfl rfl
theorem dX12_sheet_52 : decode cX12_sheet 52 = .ok (.if_icmp .ge 125, 3) := o_162 BX12_sheet rfl rfl rfl
theorem dX12_sheet_55 : decode cX12_sheet 55 = .ok (.iload_n 1, 1) := o_27 BX12_sheet rfl rfl
theorem dX12_sheet_56 : decode cX12_sheet 56 = .ok (.ifCond .ne 9, 3) := o_154 BX12_sheet rfl rfl rfl
theorem dX12_sheet_59 : decode cX12_sheet 59 = .ok (.iload 6, 2) := o_21 BX12_sheet rfl rfl rfl
theorem dX12_sheet_61 : decode cX12_sheet 61 = .ok (.i2b, 1) := o_145 BX12_sheet rfl rfl
theorem dX12_sheet_62 : decode cX12_sheet 62 = .ok (.goto 16, 3) := o_167 BX12_sheet rfl rfl rfl
theorem dX12_sheet_65 : decode cX12_sheet 65 = .ok (.iload_n 1, 1) := o_27 BX12_sheet rfl rfl
theorem dX12_sheet_66 : decode cX12_sheet 66 = .ok (.iconst 1, 1) := o_4 BX12_sheet rfl rfl
theorem dX12_sheet_67 : decode cX12_sheet 67 = .ok (.if_icmp .ne 9, 3) := o_160 BX12_sheet rfl rfl rfl
theorem dX12_sheet_70 : decode cX12_sheet 70 = .ok (.iload 6, 2) := o_21 BX12_sheet rfl rfl rfl
theorem dX12_sheet_72 : decode cX12_sheet 72 = .ok (.i2s, 1) := o_147 BX12_sheet rfl rfl
theorem dX12_sheet_73 : decode cX12_sheet 73 = .ok (.goto 5, 3) := o_167 BX12_sheet rfl rfl rfl
theorem dX12_sheet_76 : decode cX12_sheet 76 = .ok (.iload 6, 2) := o_21 BX12_sheet rfl rfl rfl
theorem dX12_sheet_78 : decode cX12_sheet 78 = .ok (.istore 8, 2) := o_54 BX12_sheet rfl rfl rfl
theorem dX12_sheet_80 : decode cX12_sheet 80 = .ok (.iload_n 1, 1) := o_27 BX12_sheet rfl rfl
theorem dX12_sheet_81 : decode cX12_sheet 81 = .ok (.iconst 3, 1) := o_6 BX12_sheet rfl rfl
theorem dX12_sheet_82 : decode cX12_sheet 82 = .ok (.if_icmp .eq 9, 3) := o_159 BX12_sheet rfl rfl rfl
theorem dX12_sheet_85 : decode cX12_sheet 85 = .ok (.iload 7, 2) := o_21 BX12_sheet rfl rfl rfl
theorem dX12_sheet_87 : decode cX12_sheet 87 = .ok (.iload_n 2, 1) := o_28 BX12_sheet rfl rfl
theorem dX12_sheet_88 : decode cX12_sheet 88 = .ok (.if_icmp .lt 7, 3) := o_161 BX12_sheet rfl rfl rfl
theorem dX12_sheet_91 : decode cX12_sheet 91 = .ok (.iconst 0, 1) := o_3 BX12_sheet rfl rfl
theorem dX12_sheet_92 : decode cX12_sheet 92 = .ok (.goto 18, 3) := o_167 BX12_sheet rfl rfl rfl
theorem dX12_sheet_95 : decode cX12_sheet 95 = .ok (.iconst 0, 1) := o_3 BX12_sheet rfl rfl
theorem dX12_sheet_96 : decode cX12_sheet 96 = .ok (.aload_n 0, 1) := o_42 BX12_sheet rfl rfl
theorem dX12_sheet_97 : decode cX12_sheet 97 = .ok (.invokevirtual 192, 3) := o_182 BX12_sheet rfl rfl rfl
theorem dX12_sheet_100 : decode cX12_sheet 100 = .ok (.iconst 1, 1) := o_4 BX12_sheet rfl rfl
theorem dX12_sheet_101 : decode cX12_sheet 101 = .ok (.isub, 1) := o_100 BX12_sheet rfl rfl
theorem dX12_sheet_102 : decode cX12_sheet 102 = .ok (.iload 8, 2) := o_21 BX12_sheet rfl rfl rfl
theorem dX12_sheet_104 : decode cX12_sheet 104 = .ok (.invokestatic 145, 3) := o_184 BX12_sheet rfl rfl rfl
theorem dX12_sheet_107 : decode cX12_sheet 107 = .ok (.invokestatic 287, 3) := o_184 BX12_sheet rfl rfl rfl
theorem dX12_sheet_110 : decode cX12_sheet 110 = .ok (.istore 9, 2) := o_54 BX12_sheet rfl rfl rfl
theorem dX12_sheet_112 : decode cX12_sheet 112 = .ok (.aload_n 0, 1) := o_42 BX12_sheet rfl rfl
theorem dX12_sheet_113 : decode cX12_sheet 113 = .ok (.getfield 31, 3) := o_180 BX12_sheet rfl rfl rfl
theorem dX12_sheet_116 : decode cX12_sheet 116 = .ok (.bipush 13, 2) := o_16 BX12_sheet rfl rfl rfl
theorem dX12_sheet_118 : decode cX12_sheet 118 = .ok (.iload 7, 2) := o_21 BX12_sheet rfl rfl rfl
theorem dX12_sheet_120 : decode cX12_sheet 120 = .ok (.iadd, 1) := o_96 BX12_sheet rfl rfl
theorem dX12_sheet_121 : decode cX12_sheet 121 = .ok (.aload_n 0, 1) := o_42 BX12_sheet rfl rfl
theorem dX12_sheet_122 : decode cX12_sheet 122 = .ok (.getfield 31, 3) := o_180 BX12_sheet rfl rfl rfl
theorem dX12_sheet_125 : decode cX12_sheet 125 = .ok (.iload 7, 2) := o_21 BX12_sheet rfl rfl rfl
theorem dX12_sheet_127 : decode cX12_sheet 127 = .ok (.invokestatic 132, 3) := o_184 BX12_sheet rfl rfl rfl
theorem dX12_sheet_130 : decode cX12_sheet 130 = .ok (.ifCond .eq 16, 3) := o_153 BX12_sheet rfl rfl rfl
theorem dX12_sheet_133 : decode cX12_sheet 133 = .ok (.aload_n 0, 1) := o_42 BX12_sheet rfl rfl
theorem dX12_sheet_134 : decode cX12_sheet 134 = .ok (.getfield 31, 3) := o_180 BX12_sheet rfl rfl rfl
theorem dX12_sheet_137 : decode cX12_sheet 137 = .ok (.bipush 13, 2) := o_16 BX12_sheet rfl rfl rfl
theorem dX12_sheet_139 : decode cX12_sheet 139 = .ok (.iload 7, 2) := o_21 BX12_sheet rfl rfl rfl
theorem dX12_sheet_141 : decode cX12_sheet 141 = .ok (.iadd, 1) := o_96 BX12_sheet rfl rfl
theorem dX12_sheet_142 : decode cX12_sheet 142 = .ok (.iaload, 1) := o_46 BX12_sheet rfl rfl
theorem dX12_sheet_143 : decode cX12_sheet 143 = .ok (.goto 5, 3) := o_167 BX12_sheet rfl rfl rfl
theorem dX12_sheet_146 : decode cX12_sheet 146 = .ok (.iload 9, 2) := o_21 BX12_sheet rfl rfl rfl
theorem dX12_sheet_148 : decode cX12_sheet 148 = .ok (.iastore, 1) := o_79 BX12_sheet rfl rfl
theorem dX12_sheet_149 : decode cX12_sheet 149 = .ok (.iload 5, 2) := o_21 BX12_sheet rfl rfl rfl
theorem dX12_sheet_151 : decode cX12_sheet 151 = .ok (.aload_n 0, 1) := o_42 BX12_sheet rfl rfl
theorem dX12_sheet_152 : decode cX12_sheet 152 = .ok (.getfield 31, 3) := o_180 BX12_sheet rfl rfl rfl
theorem dX12_sheet_155 : decode cX12_sheet 155 = .ok (.bipush 13, 2) := o_16 BX12_sheet rfl rfl rfl
theorem dX12_sheet_157 : decode cX12_sheet 157 = .ok (.iload 7, 2) := o_21 BX12_sheet rfl rfl rfl
theorem dX12_sheet_159 : decode cX12_sheet 159 = .ok (.iadd, 1) := o_96 BX12_sheet rfl rfl
theorem dX12_sheet_160 : decode cX12_sheet 160 = .ok (.iaload, 1) := o_46 BX12_sheet rfl rfl
theorem dX12_sheet_161 : decode cX12_sheet 161 = .ok (.iadd, 1) := o_96 BX12_sheet rfl rfl
theorem dX12_sheet_162 : decode cX12_sheet 162 = .ok (.istore 5, 2) := o_54 BX12_sheet rfl rfl rfl
theorem dX12_sheet_164 : decode cX12_sheet 164 = .ok (.iload 6, 2) := o_21 BX12_sheet rfl rfl rfl
theorem dX12_sheet_166 : decode cX12_sheet 166 = .ok (.iload 4, 2) := o_21 BX12_sheet rfl rfl rfl
theorem dX12_sheet_168 : decode cX12_sheet 168 = .ok (.iadd, 1) := o_96 BX12_sheet rfl rfl
theorem dX12_sheet_169 : decode cX12_sheet 169 = .ok (.istore 6, 2) := o_54 BX12_sheet rfl rfl rfl
theorem dX12_sheet_171 : decode cX12_sheet 171 = .ok (.iinc 7 1, 3) := o_132 BX12_sheet rfl rfl rfl rfl
theorem dX12_sheet_174 : decode cX12_sheet 174 = .ok (.goto (-128), 3) := o_167 BX12_sheet rfl rfl rfl
theorem dX12_sheet_177 : decode cX12_sheet 177 = .ok (.iload_n 1, 1) := o_27 BX12_sheet rfl rfl
theorem dX12_sheet_178 : decode cX12_sheet 178 = .ok (.iconst 3, 1) := o_6 BX12_sheet rfl rfl
theorem dX12_sheet_179 : decode cX12_sheet 179 = .ok (.if_icmp .ne 8, 3) := o_160 BX12_sheet rfl rfl rfl
theorem dX12_sheet_182 : decode cX12_sheet 182 = .ok (.bipush (-3), 2) := o_16 BX12_sheet rfl rfl rfl
theorem dX12_sheet_184 : decode cX12_sheet 184 = .ok (.goto 5, 3) := o_167 BX12_sheet rfl rfl rfl
theorem dX12_sheet_187 : decode cX12_sheet 187 = .ok (.iload 5, 2) := o_21 BX12_sheet rfl rfl rfl
theorem dX12_sheet_189 : decode cX12_sheet 189 = .ok (.ireturn, 1) := o_172 BX12_sheet rfl rfl
theorem dX12_putsBy_0 : decode cX12_putsBy 0 = .ok (.iconst 0, 1) := o_3 BX12_putsBy rfl rfl
theorem dX12_putsBy_1 : decode cX12_putsBy 1 = .ok (.istore_n 1, 1) := o_60 BX12_putsBy rfl rfl
theorem dX12_putsBy_2 : decode cX12_putsBy 2 = .ok (.iload_n 1, 1) := o_27 BX12_putsBy rfl rfl
theorem dX12_putsBy_3 : decode cX12_putsBy 3 = .ok (.bipush 38, 2) := o_16 BX12_putsBy rfl rfl rfl
theorem dX12_putsBy_5 : decode cX12_putsBy 5 = .ok (.if_icmp .ge 29, 3) := o_162 BX12_putsBy rfl rfl rfl
theorem dX12_putsBy_8 : decode cX12_putsBy 8 = .ok (.aload_n 0, 1) := o_42 BX12_putsBy rfl rfl
theorem dX12_putsBy_9 : decode cX12_putsBy 9 = .ok (.getfield 61, 3) := o_180 BX12_putsBy rfl rfl rfl
theorem dX12_putsBy_12 : decode cX12_putsBy 12 = .ok (.bipush 38, 2) := o_16 BX12_putsBy rfl rfl rfl
theorem dX12_putsBy_14 : decode cX12_putsBy 14 = .ok (.aload_n 0, 1) := o_42 BX12_putsBy rfl rfl
theorem dX12_putsBy_15 : decode cX12_putsBy 15 = .ok (.getfield 186, 3) := o_180 BX12_putsBy rfl rfl rfl
theorem dX12_putsBy_18 : decode cX12_putsBy 18 = .ok (.imul, 1) := o_104 BX12_putsBy rfl rfl
theorem dX12_putsBy_19 : decode cX12_putsBy 19 = .ok (.iload_n 1, 1) := o_27 BX12_putsBy rfl rfl
theorem dX12_putsBy_20 : decode cX12_putsBy 20 = .ok (.iadd, 1) := o_96 BX12_putsBy rfl rfl
theorem dX12_putsBy_21 : decode cX12_putsBy 21 = .ok (.aload_n 0, 1) := o_42 BX12_putsBy rfl rfl
theorem dX12_putsBy_22 : decode cX12_putsBy 22 = .ok (.getfield 31, 3) := o_180 BX12_putsBy rfl rfl rfl
theorem dX12_putsBy_25 : decode cX12_putsBy 25 = .ok (.iload_n 1, 1) := o_27 BX12_putsBy rfl rfl
theorem dX12_putsBy_26 : decode cX12_putsBy 26 = .ok (.iaload, 1) := o_46 BX12_putsBy rfl rfl
theorem dX12_putsBy_27 : decode cX12_putsBy 27 = .ok (.iastore, 1) := o_79 BX12_putsBy rfl rfl
theorem dX12_putsBy_28 : decode cX12_putsBy 28 = .ok (.iinc 1 1, 3) := o_132 BX12_putsBy rfl rfl rfl rfl
theorem dX12_putsBy_31 : decode cX12_putsBy 31 = .ok (.goto (-29), 3) := o_167 BX12_putsBy rfl rfl rfl
theorem dX12_putsBy_34 : decode cX12_putsBy 34 = .ok (.return_, 1) := o_177 BX12_putsBy rfl rfl
theorem dX12_adds_0 : decode cX12_adds 0 = .ok (.aload_n 0, 1) := o_42 BX12_adds rfl rfl
theorem dX12_adds_1 : decode cX12_adds 1 = .ok (.dup, 1) := o_89 BX12_adds rfl rfl
theorem dX12_adds_2 : decode cX12_adds 2 = .ok (.getfield 186, 3) := o_180 BX12_adds rfl rfl rfl
theorem dX12_adds_5 : decode cX12_adds 5 = .ok (.iconst 1, 1) := o_4 BX12_adds rfl rfl
theorem dX12_adds_6 : decode cX12_adds 6 = .ok (.iadd, 1) := o_96 BX12_adds rfl rfl
theorem dX12_adds_7 : decode cX12_adds 7 = .ok (.putfield 186, 3) := o_181 BX12_adds rfl rfl rfl
theorem dX12_adds_10 : decode cX12_adds 10 = .ok (.aload_n 0, 1) := o_42 BX12_adds rfl rfl
theorem dX12_adds_11 : decode cX12_adds 11 = .ok (.getfield 186, 3) := o_180 BX12_adds rfl rfl rfl
theorem dX12_adds_14 : decode cX12_adds 14 = .ok (.bipush 15, 2) := o_16 BX12_adds rfl rfl rfl
theorem dX12_adds_16 : decode cX12_adds 16 = .ok (.if_icmp .le 43, 3) := o_164 BX12_adds rfl rfl rfl
theorem dX12_adds_19 : decode cX12_adds 19 = .ok (.iconst 0, 1) := o_3 BX12_adds rfl rfl
theorem dX12_adds_20 : decode cX12_adds 20 = .ok (.istore_n 2, 1) := o_61 BX12_adds rfl rfl
theorem dX12_adds_21 : decode cX12_adds 21 = .ok (.iload_n 2, 1) := o_28 BX12_adds rfl rfl
theorem dX12_adds_22 : decode cX12_adds 22 = .ok (.sipush 570, 3) := o_17 BX12_adds rfl rfl rfl
theorem dX12_adds_25 : decode cX12_adds 25 = .ok (.if_icmp .ge 24, 3) := o_162 BX12_adds rfl rfl rfl
theorem dX12_adds_28 : decode cX12_adds 28 = .ok (.aload_n 0, 1) := o_42 BX12_adds rfl rfl
theorem dX12_adds_29 : decode cX12_adds 29 = .ok (.getfield 61, 3) := o_180 BX12_adds rfl rfl rfl
theorem dX12_adds_32 : decode cX12_adds 32 = .ok (.iload_n 2, 1) := o_28 BX12_adds rfl rfl
theorem dX12_adds_33 : decode cX12_adds 33 = .ok (.aload_n 0, 1) := o_42 BX12_adds rfl rfl
theorem dX12_adds_34 : decode cX12_adds 34 = .ok (.getfield 61, 3) := o_180 BX12_adds rfl rfl rfl
theorem dX12_adds_37 : decode cX12_adds 37 = .ok (.iload_n 2, 1) := o_28 BX12_adds rfl rfl
theorem dX12_adds_38 : decode cX12_adds 38 = .ok (.bipush 38, 2) := o_16 BX12_adds rfl rfl rfl
theorem dX12_adds_40 : decode cX12_adds 40 = .ok (.iadd, 1) := o_96 BX12_adds rfl rfl
theorem dX12_adds_41 : decode cX12_adds 41 = .ok (.iaload, 1) := o_46 BX12_adds rfl rfl
theorem dX12_adds_42 : decode cX12_adds 42 = .ok (.iastore, 1) := o_79 BX12_adds rfl rfl
theorem dX12_adds_43 : decode cX12_adds 43 = .ok (.iinc 2 1, 3) := o_132 BX12_adds rfl rfl rfl rfl
theorem dX12_adds_46 : decode cX12_adds 46 = .ok (.goto (-25), 3) := o_167 BX12_adds rfl rfl rfl
theorem dX12_adds_49 : decode cX12_adds 49 = .ok (.aload_n 0, 1) := o_42 BX12_adds rfl rfl
theorem dX12_adds_50 : decode cX12_adds 50 = .ok (.dup, 1) := o_89 BX12_adds rfl rfl
theorem dX12_adds_51 : decode cX12_adds 51 = .ok (.getfield 186, 3) := o_180 BX12_adds rfl rfl rfl
theorem dX12_adds_54 : decode cX12_adds 54 = .ok (.iconst 1, 1) := o_4 BX12_adds rfl rfl
theorem dX12_adds_55 : decode cX12_adds 55 = .ok (.isub, 1) := o_100 BX12_adds rfl rfl
theorem dX12_adds_56 : decode cX12_adds 56 = .ok (.putfield 186, 3) := o_181 BX12_adds rfl rfl rfl
theorem dX12_adds_59 : decode cX12_adds 59 = .ok (.iload_n 1, 1) := o_27 BX12_adds rfl rfl
theorem dX12_adds_60 : decode cX12_adds 60 = .ok (.ireturn, 1) := o_172 BX12_adds rfl rfl
theorem dX12_counted_0 : decode cX12_counted 0 = .ok (.iload_n 1, 1) := o_27 BX12_counted rfl rfl
theorem dX12_counted_1 : decode cX12_counted 1 = .ok (.ifCond .ge 13, 3) := o_156 BX12_counted rfl rfl rfl
theorem dX12_counted_4 : decode cX12_counted 4 = .ok (.iload_n 1, 1) := o_27 BX12_counted rfl rfl
theorem dX12_counted_5 : decode cX12_counted 5 = .ok (.bipush (-4), 2) := o_16 BX12_counted rfl rfl rfl
theorem dX12_counted_7 : decode cX12_counted 7 = .ok (.if_icmp .eq 7, 3) := o_159 BX12_counted rfl rfl rfl
theorem dX12_counted_10 : decode cX12_counted 10 = .ok (.iload_n 1, 1) := o_27 BX12_counted rfl rfl
theorem dX12_counted_11 : decode cX12_counted 11 = .ok (.goto 8, 3) := o_167 BX12_counted rfl rfl rfl
theorem dX12_counted_14 : decode cX12_counted 14 = .ok (.aload_n 0, 1) := o_42 BX12_counted rfl rfl
theorem dX12_counted_15 : decode cX12_counted 15 = .ok (.iload_n 1, 1) := o_27 BX12_counted rfl rfl
theorem dX12_counted_16 : decode cX12_counted 16 = .ok (.invokevirtual 318, 3) := o_182 BX12_counted rfl rfl rfl
theorem dX12_counted_19 : decode cX12_counted 19 = .ok (.ireturn, 1) := o_172 BX12_counted rfl rfl
theorem dX12_undo_0 : decode cX12_undo 0 = .ok (.aload_n 0, 1) := o_42 BX12_undo rfl rfl
theorem dX12_undo_1 : decode cX12_undo 1 = .ok (.iconst 0, 1) := o_3 BX12_undo rfl rfl
theorem dX12_undo_2 : decode cX12_undo 2 = .ok (.putfield 112, 3) := o_181 BX12_undo rfl rfl rfl
theorem dX12_undo_5 : decode cX12_undo 5 = .ok (.aload_n 0, 1) := o_42 BX12_undo rfl rfl
theorem dX12_undo_6 : decode cX12_undo 6 = .ok (.getfield 186, 3) := o_180 BX12_undo rfl rfl rfl
theorem dX12_undo_9 : decode cX12_undo 9 = .ok (.ifCond .ne 5, 3) := o_154 BX12_undo rfl rfl rfl
theorem dX12_undo_12 : decode cX12_undo 12 = .ok (.iconst (-1), 1) := o_2 BX12_undo rfl rfl
theorem dX12_undo_13 : decode cX12_undo 13 = .ok (.ireturn, 1) := o_172 BX12_undo rfl rfl
theorem dX12_undo_14 : decode cX12_undo 14 = .ok (.aload_n 0, 1) := o_42 BX12_undo rfl rfl
theorem dX12_undo_15 : decode cX12_undo 15 = .ok (.dup, 1) := o_89 BX12_undo rfl rfl
theorem dX12_undo_16 : decode cX12_undo 16 = .ok (.getfield 186, 3) := o_180 BX12_undo rfl rfl rfl
theorem dX12_undo_19 : decode cX12_undo 19 = .ok (.iconst 1, 1) := o_4 BX12_undo rfl rfl
theorem dX12_undo_20 : decode cX12_undo 20 = .ok (.isub, 1) := o_100 BX12_undo rfl rfl
theorem dX12_undo_21 : decode cX12_undo 21 = .ok (.putfield 186, 3) := o_181 BX12_undo rfl rfl rfl
theorem dX12_undo_24 : decode cX12_undo 24 = .ok (.iconst 0, 1) := o_3 BX12_undo rfl rfl
theorem dX12_undo_25 : decode cX12_undo 25 = .ok (.istore_n 1, 1) := o_60 BX12_undo rfl rfl
theorem dX12_undo_26 : decode cX12_undo 26 = .ok (.iload_n 1, 1) := o_27 BX12_undo rfl rfl
theorem dX12_undo_27 : decode cX12_undo 27 = .ok (.bipush 38, 2) := o_16 BX12_undo rfl rfl rfl
theorem dX12_undo_29 : decode cX12_undo 29 = .ok (.if_icmp .ge 29, 3) := o_162 BX12_undo rfl rfl rfl
theorem dX12_undo_32 : decode cX12_undo 32 = .ok (.aload_n 0, 1) := o_42 BX12_undo rfl rfl
theorem dX12_undo_33 : decode cX12_undo 33 = .ok (.getfield 31, 3) := o_180 BX12_undo rfl rfl rfl
theorem dX12_undo_36 : decode cX12_undo 36 = .ok (.iload_n 1, 1) := o_27 BX12_undo rfl rfl
theorem dX12_undo_37 : decode cX12_undo 37 = .ok (.aload_n 0, 1) := o_42 BX12_undo rfl rfl
theorem dX12_undo_38 : decode cX12_undo 38 = .ok (.getfield 61, 3) := o_180 BX12_undo rfl rfl rfl
theorem dX12_undo_41 : decode cX12_undo 41 = .ok (.bipush 38, 2) := o_16 BX12_undo rfl rfl rfl
theorem dX12_undo_43 : decode cX12_undo 43 = .ok (.aload_n 0, 1) := o_42 BX12_undo rfl rfl
theorem dX12_undo_44 : decode cX12_undo 44 = .ok (.getfield 186, 3) := o_180 BX12_undo rfl rfl rfl
theorem dX12_undo_47 : decode cX12_undo 47 = .ok (.imul, 1) := o_104 BX12_undo rfl rfl
theorem dX12_undo_48 : decode cX12_undo 48 = .ok (.iload_n 1, 1) := o_27 BX12_undo rfl rfl
theorem dX12_undo_49 : decode cX12_undo 49 = .ok (.iadd, 1) := o_96 BX12_undo rfl rfl
theorem dX12_undo_50 : decode cX12_undo 50 = .ok (.iaload, 1) := o_46 BX12_undo rfl rfl
theorem dX12_undo_51 : decode cX12_undo 51 = .ok (.iastore, 1) := o_79 BX12_undo rfl rfl
theorem dX12_undo_52 : decode cX12_undo 52 = .ok (.iinc 1 1, 3) := o_132 BX12_undo rfl rfl rfl rfl
theorem dX12_undo_55 : decode cX12_undo 55 = .ok (.goto (-29), 3) := o_167 BX12_undo rfl rfl rfl
theorem dX12_undo_58 : decode cX12_undo 58 = .ok (.aload_n 0, 1) := o_42 BX12_undo rfl rfl
theorem dX12_undo_59 : decode cX12_undo 59 = .ok (.getfield 186, 3) := o_180 BX12_undo rfl rfl rfl
theorem dX12_undo_62 : decode cX12_undo 62 = .ok (.ireturn, 1) := o_172 BX12_undo rfl rfl
theorem dX12_laysLine_0 : decode cX12_laysLine 0 = .ok (.aload_n 0, 1) := o_42 BX12_laysLine rfl rfl
theorem dX12_laysLine_1 : decode cX12_laysLine 1 = .ok (.iconst 0, 1) := o_3 BX12_laysLine rfl rfl
theorem dX12_laysLine_2 : decode cX12_laysLine 2 = .ok (.putfield 321, 3) := o_181 BX12_laysLine rfl rfl rfl
theorem dX12_laysLine_5 : decode cX12_laysLine 5 = .ok (.aload_n 0, 1) := o_42 BX12_laysLine rfl rfl
theorem dX12_laysLine_6 : decode cX12_laysLine 6 = .ok (.invokevirtual 192, 3) := o_182 BX12_laysLine rfl rfl rfl
theorem dX12_laysLine_9 : decode cX12_laysLine 9 = .ok (.iconst 1, 1) := o_4 BX12_laysLine rfl rfl
theorem dX12_laysLine_10 : decode cX12_laysLine 10 = .ok (.isub, 1) := o_100 BX12_laysLine rfl rfl
theorem dX12_laysLine_11 : decode cX12_laysLine 11 = .ok (.istore_n 2, 1) := o_61 BX12_laysLine rfl rfl
theorem dX12_laysLine_12 : decode cX12_laysLine 12 = .ok (.iload_n 2, 1) := o_28 BX12_laysLine rfl rfl
theorem dX12_laysLine_13 : decode cX12_laysLine 13 = .ok (.ifCond .lt 40, 3) := o_155 BX12_laysLine rfl rfl rfl
theorem dX12_laysLine_16 : decode cX12_laysLine 16 = .ok (.aload_n 0, 1) := o_42 BX12_laysLine rfl rfl
theorem dX12_laysLine_17 : decode cX12_laysLine 17 = .ok (.aload_n 1, 1) := o_43 BX12_laysLine rfl rfl
theorem dX12_laysLine_18 : decode cX12_laysLine 18 = .ok (.iload_n 2, 1) := o_28 BX12_laysLine rfl rfl
theorem dX12_laysLine_19 : decode cX12_laysLine 19 = .ok (.invokevirtual 195, 3) := o_182 BX12_laysLine rfl rfl rfl
theorem dX12_laysLine_22 : decode cX12_laysLine 22 = .ok (.istore_n 3, 1) := o_62 BX12_laysLine rfl rfl
theorem dX12_laysLine_23 : decode cX12_laysLine 23 = .ok (.iload_n 3, 1) := o_29 BX12_laysLine rfl rfl
theorem dX12_laysLine_24 : decode cX12_laysLine 24 = .ok (.ifCond .lt 23, 3) := o_155 BX12_laysLine rfl rfl rfl
theorem dX12_laysLine_27 : decode cX12_laysLine 27 = .ok (.aload_n 0, 1) := o_42 BX12_laysLine rfl rfl
theorem dX12_laysLine_28 : decode cX12_laysLine 28 = .ok (.getfield 70, 3) := o_180 BX12_laysLine rfl rfl rfl
theorem dX12_laysLine_31 : decode cX12_laysLine 31 = .ok (.aload_n 0, 1) := o_42 BX12_laysLine rfl rfl
theorem dX12_laysLine_32 : decode cX12_laysLine 32 = .ok (.getfield 321, 3) := o_180 BX12_laysLine rfl rfl rfl
theorem dX12_laysLine_35 : decode cX12_laysLine 35 = .ok (.iload_n 3, 1) := o_29 BX12_laysLine rfl rfl
theorem dX12_laysLine_36 : decode cX12_laysLine 36 = .ok (.iastore, 1) := o_79 BX12_laysLine rfl rfl
theorem dX12_laysLine_37 : decode cX12_laysLine 37 = .ok (.aload_n 0, 1) := o_42 BX12_laysLine rfl rfl
theorem dX12_laysLine_38 : decode cX12_laysLine 38 = .ok (.dup, 1) := o_89 BX12_laysLine rfl rfl
theorem dX12_laysLine_39 : decode cX12_laysLine 39 = .ok (.getfield 321, 3) := o_180 BX12_laysLine rfl rfl rfl
theorem dX12_laysLine_42 : decode cX12_laysLine 42 = .ok (.iconst 1, 1) := o_4 BX12_laysLine rfl rfl
theorem dX12_laysLine_43 : decode cX12_laysLine 43 = .ok (.iadd, 1) := o_96 BX12_laysLine rfl rfl
theorem dX12_laysLine_44 : decode cX12_laysLine 44 = .ok (.putfield 321, 3) := o_181 BX12_laysLine rfl rfl rfl
theorem dX12_laysLine_47 : decode cX12_laysLine 47 = .ok (.iinc 2 (-1), 3) := o_132 BX12_laysLine rfl rfl rfl rfl
theorem dX12_laysLine_50 : decode cX12_laysLine 50 = .ok (.goto (-38), 3) := o_167 BX12_laysLine rfl rfl rfl
theorem dX12_laysLine_53 : decode cX12_laysLine 53 = .ok (.return_, 1) := o_177 BX12_laysLine rfl rfl
theorem dX12_goal_0 : decode cX12_goal 0 = .ok (.aload_n 1, 1) := o_43 BX12_goal rfl rfl
theorem dX12_goal_1 : decode cX12_goal 1 = .ok (.iload_n 2, 1) := o_28 BX12_goal rfl rfl
theorem dX12_goal_2 : decode cX12_goal 2 = .ok (.iaload, 1) := o_46 BX12_goal rfl rfl
theorem dX12_goal_3 : decode cX12_goal 3 = .ok (.istore 4, 2) := o_54 BX12_goal rfl rfl rfl
theorem dX12_goal_5 : decode cX12_goal 5 = .ok (.iload 4, 2) := o_21 BX12_goal rfl rfl rfl
theorem dX12_goal_7 : decode cX12_goal 7 = .ok (.istore 5, 2) := o_54 BX12_goal rfl rfl rfl
theorem dX12_goal_9 : decode cX12_goal 9 = .ok (.iconst 0, 1) := o_3 BX12_goal rfl rfl
theorem dX12_goal_10 : decode cX12_goal 10 = .ok (.istore 6, 2) := o_54 BX12_goal rfl rfl rfl
theorem dX12_goal_12 : decode cX12_goal 12 = .ok (.aload_n 0, 1) := o_42 BX12_goal rfl rfl
theorem dX12_goal_13 : decode cX12_goal 13 = .ok (.getfield 20, 3) := o_180 BX12_goal rfl rfl rfl
theorem dX12_goal_16 : decode cX12_goal 16 = .ok (.iload 4, 2) := o_21 BX12_goal rfl rfl rfl
theorem dX12_goal_18 : decode cX12_goal 18 = .ok (.baload, 1) := o_51 BX12_goal rfl rfl
theorem dX12_goal_19 : decode cX12_goal 19 = .ok (.istore 7, 2) := o_54 BX12_goal rfl rfl rfl
theorem dX12_goal_21 : decode cX12_goal 21 = .ok (.iload 4, 2) := o_21 BX12_goal rfl rfl rfl
theorem dX12_goal_23 : decode cX12_goal 23 = .ok (.iconst 1, 1) := o_4 BX12_goal rfl rfl
theorem dX12_goal_24 : decode cX12_goal 24 = .ok (.iadd, 1) := o_96 BX12_goal rfl rfl
theorem dX12_goal_25 : decode cX12_goal 25 = .ok (.istore 8, 2) := o_54 BX12_goal rfl rfl rfl
theorem dX12_goal_27 : decode cX12_goal 27 = .ok (.iload 8, 2) := o_21 BX12_goal rfl rfl rfl
theorem dX12_goal_29 : decode cX12_goal 29 = .ok (.aload_n 0, 1) := o_42 BX12_goal rfl rfl
theorem dX12_goal_30 : decode cX12_goal 30 = .ok (.invokevirtual 192, 3) := o_182 BX12_goal rfl rfl rfl
theorem dX12_goal_33 : decode cX12_goal 33 = .ok (.iload 4, 2) := o_21 BX12_goal rfl rfl rfl
theorem dX12_goal_35 : decode cX12_goal 35 = .ok (.iload_n 3, 1) := o_29 BX12_goal rfl rfl
theorem dX12_goal_36 : decode cX12_goal 36 = .ok (.iadd, 1) := o_96 BX12_goal rfl rfl
theorem dX12_goal_37 : decode cX12_goal 37 = .ok (.invokestatic 145, 3) := o_184 BX12_goal rfl rfl rfl
theorem dX12_goal_40 : decode cX12_goal 40 = .ok (.if_icmp .gt 98, 3) := o_163 BX12_goal rfl rfl rfl
theorem dX12_goal_43 : decode cX12_goal 43 = .ok (.iload 7, 2) := o_21 BX12_goal rfl rfl rfl
theorem dX12_goal_45 : decode cX12_goal 45 = .ok (.ifCond .ne 13, 3) := o_154 BX12_goal rfl rfl rfl
theorem dX12_goal_48 : decode cX12_goal 48 = .ok (.aload_n 0, 1) := o_42 BX12_goal rfl rfl
theorem dX12_goal_49 : decode cX12_goal 49 = .ok (.getfield 20, 3) := o_180 BX12_goal rfl rfl rfl
theorem dX12_goal_52 : decode cX12_goal 52 = .ok (.iload 8, 2) := o_21 BX12_goal rfl rfl rfl
theorem dX12_goal_54 : decode cX12_goal 54 = .ok (.baload, 1) := o_51 BX12_goal rfl rfl
theorem dX12_goal_55 : decode cX12_goal 55 = .ok (.ifCond .eq 7, 3) := o_153 BX12_goal rfl rfl rfl
theorem dX12_goal_58 : decode cX12_goal 58 = .ok (.iconst 1, 1) := o_4 BX12_goal rfl rfl
theorem dX12_goal_59 : decode cX12_goal 59 = .ok (.goto 4, 3) := o_167 BX12_goal rfl rfl rfl
theorem dX12_goal_62 : decode cX12_goal 62 = .ok (.iconst 0, 1) := o_3 BX12_goal rfl rfl
theorem dX12_goal_63 : decode cX12_goal 63 = .ok (.istore 7, 2) := o_54 BX12_goal rfl rfl rfl
theorem dX12_goal_65 : decode cX12_goal 65 = .ok (.iload 8, 2) := o_21 BX12_goal rfl rfl rfl
theorem dX12_goal_67 : decode cX12_goal 67 = .ok (.aload_n 0, 1) := o_42 BX12_goal rfl rfl
theorem dX12_goal_68 : decode cX12_goal 68 = .ok (.invokevirtual 192, 3) := o_182 BX12_goal rfl rfl rfl
theorem dX12_goal_71 : decode cX12_goal 71 = .ok (.if_icmp .eq 13, 3) := o_159 BX12_goal rfl rfl rfl
theorem dX12_goal_74 : decode cX12_goal 74 = .ok (.aload_n 0, 1) := o_42 BX12_goal rfl rfl
theorem dX12_goal_75 : decode cX12_goal 75 = .ok (.aload_n 1, 1) := o_43 BX12_goal rfl rfl
theorem dX12_goal_76 : decode cX12_goal 76 = .ok (.iload 8, 2) := o_21 BX12_goal rfl rfl rfl
theorem dX12_goal_78 : decode cX12_goal 78 = .ok (.invokevirtual 195, 3) := o_182 BX12_goal rfl rfl rfl
theorem dX12_goal_81 : decode cX12_goal 81 = .ok (.ifCond .ge 7, 3) := o_156 BX12_goal rfl rfl rfl
theorem dX12_goal_84 : decode cX12_goal 84 = .ok (.iconst 1, 1) := o_4 BX12_goal rfl rfl
theorem dX12_goal_85 : decode cX12_goal 85 = .ok (.goto 4, 3) := o_167 BX12_goal rfl rfl rfl
theorem dX12_goal_88 : decode cX12_goal 88 = .ok (.iconst 0, 1) := o_3 BX12_goal rfl rfl
theorem dX12_goal_89 : decode cX12_goal 89 = .ok (.istore 9, 2) := o_54 BX12_goal rfl rfl rfl
theorem dX12_goal_91 : decode cX12_goal 91 = .ok (.iload 9, 2) := o_21 BX12_goal rfl rfl rfl
theorem dX12_goal_93 : decode cX12_goal 93 = .ok (.ifCond .eq 18, 3) := o_153 BX12_goal rfl rfl rfl
theorem dX12_goal_96 : decode cX12_goal 96 = .ok (.iload 6, 2) := o_21 BX12_goal rfl rfl rfl
theorem dX12_goal_98 : decode cX12_goal 98 = .ok (.ifCond .eq 8, 3) := o_153 BX12_goal rfl rfl rfl
theorem dX12_goal_101 : decode cX12_goal 101 = .ok (.iload 7, 2) := o_21 BX12_goal rfl rfl rfl
theorem dX12_goal_103 : decode cX12_goal 103 = .ok (.ifCond .ne 8, 3) := o_154 BX12_goal rfl rfl rfl
theorem dX12_goal_106 : decode cX12_goal 106 = .ok (.iload 8, 2) := o_21 BX12_goal rfl rfl rfl
theorem dX12_goal_108 : decode cX12_goal 108 = .ok (.goto 5, 3) := o_167 BX12_goal rfl rfl rfl
theorem dX12_goal_111 : decode cX12_goal 111 = .ok (.iload 5, 2) := o_21 BX12_goal rfl rfl rfl
theorem dX12_goal_113 : decode cX12_goal 113 = .ok (.istore 5, 2) := o_54 BX12_goal rfl rfl rfl
theorem dX12_goal_115 : decode cX12_goal 115 = .ok (.iload 6, 2) := o_21 BX12_goal rfl rfl rfl
theorem dX12_goal_117 : decode cX12_goal 117 = .ok (.ifCond .ne 8, 3) := o_154 BX12_goal rfl rfl rfl
theorem dX12_goal_120 : decode cX12_goal 120 = .ok (.iload 9, 2) := o_21 BX12_goal rfl rfl rfl
theorem dX12_goal_122 : decode cX12_goal 122 = .ok (.ifCond .ne 7, 3) := o_154 BX12_goal rfl rfl rfl
theorem dX12_goal_125 : decode cX12_goal 125 = .ok (.iconst 1, 1) := o_4 BX12_goal rfl rfl
theorem dX12_goal_126 : decode cX12_goal 126 = .ok (.goto 4, 3) := o_167 BX12_goal rfl rfl rfl
theorem dX12_goal_129 : decode cX12_goal 129 = .ok (.iconst 0, 1) := o_3 BX12_goal rfl rfl
theorem dX12_goal_130 : decode cX12_goal 130 = .ok (.istore 6, 2) := o_54 BX12_goal rfl rfl rfl
theorem dX12_goal_132 : decode cX12_goal 132 = .ok (.iinc 8 1, 3) := o_132 BX12_goal rfl rfl rfl rfl
theorem dX12_goal_135 : decode cX12_goal 135 = .ok (.goto (-108), 3) := o_167 BX12_goal rfl rfl rfl
theorem dX12_goal_138 : decode cX12_goal 138 = .ok (.iload 5, 2) := o_21 BX12_goal rfl rfl rfl
theorem dX12_goal_140 : decode cX12_goal 140 = .ok (.ireturn, 1) := o_172 BX12_goal rfl rfl
theorem dX12_hearseGoes_0 : decode cX12_hearseGoes 0 = .ok (.aload_n 0, 1) := o_42 BX12_hearseGoes rfl rfl
theorem dX12_hearseGoes_1 : decode cX12_hearseGoes 1 = .ok (.aload_n 1, 1) := o_43 BX12_hearseGoes rfl rfl
theorem dX12_hearseGoes_2 : decode cX12_hearseGoes 2 = .ok (.iload_n 2, 1) := o_28 BX12_hearseGoes rfl rfl
theorem dX12_hearseGoes_3 : decode cX12_hearseGoes 3 = .ok (.aload_n 0, 1) := o_42 BX12_hearseGoes rfl rfl
theorem dX12_hearseGoes_4 : decode cX12_hearseGoes 4 = .ok (.aload_n 1, 1) := o_43 BX12_hearseGoes rfl rfl
theorem dX12_hearseGoes_5 : decode cX12_hearseGoes 5 = .ok (.iload_n 2, 1) := o_28 BX12_hearseGoes rfl rfl
theorem dX12_hearseGoes_6 : decode cX12_hearseGoes 6 = .ok (.invokevirtual 302, 3) := o_182 BX12_hearseGoes rfl rfl rfl
theorem dX12_hearseGoes_9 : decode cX12_hearseGoes 9 = .ok (.invokevirtual 324, 3) := o_182 BX12_hearseGoes rfl rfl rfl
theorem dX12_hearseGoes_12 : decode cX12_hearseGoes 12 = .ok (.istore_n 3, 1) := o_62 BX12_hearseGoes rfl rfl
theorem dX12_hearseGoes_13 : decode cX12_hearseGoes 13 = .ok (.iload_n 3, 1) := o_29 BX12_hearseGoes rfl rfl
theorem dX12_hearseGoes_14 : decode cX12_hearseGoes 14 = .ok (.aload_n 1, 1) := o_43 BX12_hearseGoes rfl rfl
theorem dX12_hearseGoes_15 : decode cX12_hearseGoes 15 = .ok (.iload_n 2, 1) := o_28 BX12_hearseGoes rfl rfl
theorem dX12_hearseGoes_16 : decode cX12_hearseGoes 16 = .ok (.iaload, 1) := o_46 BX12_hearseGoes rfl rfl
theorem dX12_hearseGoes_17 : decode cX12_hearseGoes 17 = .ok (.if_icmp .ne 26, 3) := o_160 BX12_hearseGoes rfl rfl rfl
theorem dX12_hearseGoes_20 : decode cX12_hearseGoes 20 = .ok (.aload_n 0, 1) := o_42 BX12_hearseGoes rfl rfl
theorem dX12_hearseGoes_21 : decode cX12_hearseGoes 21 = .ok (.dup, 1) := o_89 BX12_hearseGoes rfl rfl
theorem dX12_hearseGoes_22 : decode cX12_hearseGoes 22 = .ok (.getfield 327, 3) := o_180 BX12_hearseGoes rfl rfl rfl
theorem dX12_hearseGoes_25 : decode cX12_hearseGoes 25 = .ok (.iconst 1, 1) := o_4 BX12_hearseGoes rfl rfl
theorem dX12_hearseGoes_26 : decode cX12_hearseGoes 26 = .ok (.iadd, 1) := o_96 BX12_hearseGoes rfl rfl
theorem dX12_hearseGoes_27 : decode cX12_hearseGoes 27 = .ok (.putfield 327, 3) := o_181 BX12_hearseGoes rfl rfl rfl
theorem dX12_hearseGoes_30 : decode cX12_hearseGoes 30 = .ok (.aload_n 0, 1) := o_42 BX12_hearseGoes rfl rfl
theorem dX12_hearseGoes_31 : decode cX12_hearseGoes 31 = .ok (.getfield 64, 3) := o_180 BX12_hearseGoes rfl rfl rfl
theorem dX12_hearseGoes_34 : decode cX12_hearseGoes 34 = .ok (.iload_n 3, 1) := o_29 BX12_hearseGoes rfl rfl
theorem dX12_hearseGoes_35 : decode cX12_hearseGoes 35 = .ok (.dup2, 1) := o_92 BX12_hearseGoes rfl rfl
theorem dX12_hearseGoes_36 : decode cX12_hearseGoes 36 = .ok (.iaload, 1) := o_46 BX12_hearseGoes rfl rfl
theorem dX12_hearseGoes_37 : decode cX12_hearseGoes 37 = .ok (.iconst 1, 1) := o_4 BX12_hearseGoes rfl rfl
theorem dX12_hearseGoes_38 : decode cX12_hearseGoes 38 = .ok (.iadd, 1) := o_96 BX12_hearseGoes rfl rfl
theorem dX12_hearseGoes_39 : decode cX12_hearseGoes 39 = .ok (.iastore, 1) := o_79 BX12_hearseGoes rfl rfl
theorem dX12_hearseGoes_40 : decode cX12_hearseGoes 40 = .ok (.goto 40, 3) := o_167 BX12_hearseGoes rfl rfl rfl
theorem dX12_hearseGoes_43 : decode cX12_hearseGoes 43 = .ok (.iload_n 3, 1) := o_29 BX12_hearseGoes rfl rfl
theorem dX12_hearseGoes_44 : decode cX12_hearseGoes 44 = .ok (.aload_n 0, 1) := o_42 BX12_hearseGoes rfl rfl
theorem dX12_hearseGoes_45 : decode cX12_hearseGoes 45 = .ok (.invokevirtual 192, 3) := o_182 BX12_hearseGoes rfl rfl rfl
theorem dX12_hearseGoes_48 : decode cX12_hearseGoes 48 = .ok (.if_icmp .ne 28, 3) := o_160 BX12_hearseGoes rfl rfl rfl
theorem dX12_hearseGoes_51 : decode cX12_hearseGoes 51 = .ok (.aload_n 1, 1) := o_43 BX12_hearseGoes rfl rfl
theorem dX12_hearseGoes_52 : decode cX12_hearseGoes 52 = .ok (.bipush 12, 2) := o_16 BX12_hearseGoes rfl rfl rfl
theorem dX12_hearseGoes_54 : decode cX12_hearseGoes 54 = .ok (.dup2, 1) := o_92 BX12_hearseGoes rfl rfl
theorem dX12_hearseGoes_55 : decode cX12_hearseGoes 55 = .ok (.iaload, 1) := o_46 BX12_hearseGoes rfl rfl
theorem dX12_hearseGoes_56 : decode cX12_hearseGoes 56 = .ok (.iconst 1, 1) := o_4 BX12_hearseGoes rfl rfl
theorem dX12_hearseGoes_57 : decode cX12_hearseGoes 57 = .ok (.iadd, 1) := o_96 BX12_hearseGoes rfl rfl
theorem dX12_hearseGoes_58 : decode cX12_hearseGoes 58 = .ok (.iastore, 1) := o_79 BX12_hearseGoes rfl rfl
theorem dX12_hearseGoes_59 : decode cX12_hearseGoes 59 = .ok (.aload_n 1, 1) := o_43 BX12_hearseGoes rfl rfl
theorem dX12_hearseGoes_60 : decode cX12_hearseGoes 60 = .ok (.bipush 6, 2) := o_16 BX12_hearseGoes rfl rfl rfl
theorem dX12_hearseGoes_62 : decode cX12_hearseGoes 62 = .ok (.iload_n 2, 1) := o_28 BX12_hearseGoes rfl rfl
theorem dX12_hearseGoes_63 : decode cX12_hearseGoes 63 = .ok (.iadd, 1) := o_96 BX12_hearseGoes rfl rfl
theorem dX12_hearseGoes_64 : decode cX12_hearseGoes 64 = .ok (.aload_n 1, 1) := o_43 BX12_hearseGoes rfl rfl
theorem dX12_hearseGoes_65 : decode cX12_hearseGoes 65 = .ok (.bipush 12, 2) := o_16 BX12_hearseGoes rfl rfl rfl
theorem dX12_hearseGoes_67 : decode cX12_hearseGoes 67 = .ok (.iaload, 1) := o_46 BX12_hearseGoes rfl rfl
theorem dX12_hearseGoes_68 : decode cX12_hearseGoes 68 = .ok (.iastore, 1) := o_79 BX12_hearseGoes rfl rfl
theorem dX12_hearseGoes_69 : decode cX12_hearseGoes 69 = .ok (.aload_n 1, 1) := o_43 BX12_hearseGoes rfl rfl
theorem dX12_hearseGoes_70 : decode cX12_hearseGoes 70 = .ok (.iload_n 2, 1) := o_28 BX12_hearseGoes rfl rfl
theorem dX12_hearseGoes_71 : decode cX12_hearseGoes 71 = .ok (.iconst (-1), 1) := o_2 BX12_hearseGoes rfl rfl
theorem dX12_hearseGoes_72 : decode cX12_hearseGoes 72 = .ok (.iastore, 1) := o_79 BX12_hearseGoes rfl rfl
theorem dX12_hearseGoes_73 : decode cX12_hearseGoes 73 = .ok (.goto 7, 3) := o_167 BX12_hearseGoes rfl rfl rfl
theorem dX12_hearseGoes_76 : decode cX12_hearseGoes 76 = .ok (.aload_n 1, 1) := o_43 BX12_hearseGoes rfl rfl
theorem dX12_hearseGoes_77 : decode cX12_hearseGoes 77 = .ok (.iload_n 2, 1) := o_28 BX12_hearseGoes rfl rfl
theorem dX12_hearseGoes_78 : decode cX12_hearseGoes 78 = .ok (.iload_n 3, 1) := o_29 BX12_hearseGoes rfl rfl
theorem dX12_hearseGoes_79 : decode cX12_hearseGoes 79 = .ok (.iastore, 1) := o_79 BX12_hearseGoes rfl rfl
theorem dX12_hearseGoes_80 : decode cX12_hearseGoes 80 = .ok (.return_, 1) := o_177 BX12_hearseGoes rfl rfl
theorem dX12_mournerGoes_0 : decode cX12_mournerGoes 0 = .ok (.aload_n 1, 1) := o_43 BX12_mournerGoes rfl rfl
theorem dX12_mournerGoes_1 : decode cX12_mournerGoes 1 = .ok (.bipush 21, 2) := o_16 BX12_mournerGoes rfl rfl rfl
theorem dX12_mournerGoes_3 : decode cX12_mournerGoes 3 = .ok (.iload_n 2, 1) := o_28 BX12_mournerGoes rfl rfl
theorem dX12_mournerGoes_4 : decode cX12_mournerGoes 4 = .ok (.iadd, 1) := o_96 BX12_mournerGoes rfl rfl
theorem dX12_mournerGoes_5 : decode cX12_mournerGoes 5 = .ok (.iaload, 1) := o_46 BX12_mournerGoes rfl rfl
theorem dX12_mournerGoes_6 : decode cX12_mournerGoes 6 = .ok (.istore_n 3, 1) := o_62 BX12_mournerGoes rfl rfl
theorem dX12_mournerGoes_7 : decode cX12_mournerGoes 7 = .ok (.iload_n 3, 1) := o_29 BX12_mournerGoes rfl rfl
theorem dX12_mournerGoes_8 : decode cX12_mournerGoes 8 = .ok (.ifCond .lt 19, 3) := o_155 BX12_mournerGoes rfl rfl rfl
theorem dX12_mournerGoes_11 : decode cX12_mournerGoes 11 = .ok (.aload_n 1, 1) := o_43 BX12_mournerGoes rfl rfl
theorem dX12_mournerGoes_12 : decode cX12_mournerGoes 12 = .ok (.iload_n 3, 1) := o_29 BX12_mournerGoes rfl rfl
theorem dX12_mournerGoes_13 : decode cX12_mournerGoes 13 = .ok (.invokestatic 266, 3) := o_184 BX12_mournerGoes rfl rfl rfl
theorem dX12_mournerGoes_16 : decode cX12_mournerGoes 16 = .ok (.ifCond .ne 11, 3) := o_154 BX12_mournerGoes rfl rfl rfl
theorem dX12_mournerGoes_19 : decode cX12_mournerGoes 19 = .ok (.aload_n 1, 1) := o_43 BX12_mournerGoes rfl rfl
theorem dX12_mournerGoes_20 : decode cX12_mournerGoes 20 = .ok (.bipush 29, 2) := o_16 BX12_mournerGoes rfl rfl rfl
theorem dX12_mournerGoes_22 : decode cX12_mournerGoes 22 = .ok (.iload_n 2, 1) := o_28 BX12_mournerGoes rfl rfl
theorem dX12_mournerGoes_23 : decode cX12_mournerGoes 23 = .ok (.iadd, 1) := o_96 BX12_mournerGoes rfl rfl
theorem dX12_mournerGoes_24 : decode cX12_mournerGoes 24 = .ok (.iload_n 3, 1) := o_29 BX12_mournerGoes rfl rfl
theorem dX12_mournerGoes_25 : decode cX12_mournerGoes 25 = .ok (.iastore, 1) := o_79 BX12_mournerGoes rfl rfl
theorem dX12_mournerGoes_26 : decode cX12_mournerGoes 26 = .ok (.return_, 1) := o_177 BX12_mournerGoes rfl rfl
theorem dX12_mournerGoes_27 : decode cX12_mournerGoes 27 = .ok (.aload_n 1, 1) := o_43 BX12_mournerGoes rfl rfl
theorem dX12_mournerGoes_28 : decode cX12_mournerGoes 28 = .ok (.bipush 13, 2) := o_16 BX12_mournerGoes rfl rfl rfl
theorem dX12_mournerGoes_30 : decode cX12_mournerGoes 30 = .ok (.iload_n 2, 1) := o_28 BX12_mournerGoes rfl rfl
theorem dX12_mournerGoes_31 : decode cX12_mournerGoes 31 = .ok (.iadd, 1) := o_96 BX12_mournerGoes rfl rfl
theorem dX12_mournerGoes_32 : decode cX12_mournerGoes 32 = .ok (.iaload, 1) := o_46 BX12_mournerGoes rfl rfl
theorem dX12_mournerGoes_33 : decode cX12_mournerGoes 33 = .ok (.istore 4, 2) := o_54 BX12_mournerGoes rfl rfl rfl
theorem dX12_mournerGoes_35 : decode cX12_mournerGoes 35 = .ok (.aload_n 0, 1) := o_42 BX12_mournerGoes rfl rfl
theorem dX12_mournerGoes_36 : decode cX12_mournerGoes 36 = .ok (.aload_n 1, 1) := o_43 BX12_mournerGoes rfl rfl
theorem dX12_mournerGoes_37 : decode cX12_mournerGoes 37 = .ok (.iload 4, 2) := o_21 BX12_mournerGoes rfl rfl rfl
theorem dX12_mournerGoes_39 : decode cX12_mournerGoes 39 = .ok (.invokevirtual 313, 3) := o_182 BX12_mournerGoes rfl rfl rfl
theorem dX12_mournerGoes_42 : decode cX12_mournerGoes 42 = .ok (.istore 5, 2) := o_54 BX12_mournerGoes rfl rfl rfl
theorem dX12_mournerGoes_44 : decode cX12_mournerGoes 44 = .ok (.iload 5, 2) := o_21 BX12_mournerGoes rfl rfl rfl
theorem dX12_mournerGoes_46 : decode cX12_mournerGoes 46 = .ok (.ifCond .lt 59, 3) := o_155 BX12_mournerGoes rfl rfl rfl
theorem dX12_mournerGoes_49 : decode cX12_mournerGoes 49 = .ok (.iload_n 3, 1) := o_29 BX12_mournerGoes rfl rfl
theorem dX12_mournerGoes_50 : decode cX12_mournerGoes 50 = .ok (.ifCond .lt 25, 3) := o_155 BX12_mournerGoes rfl rfl rfl
theorem dX12_mournerGoes_53 : decode cX12_mournerGoes 53 = .ok (.aload_n 1, 1) := o_43 BX12_mournerGoes rfl rfl
theorem dX12_mournerGoes_54 : decode cX12_mournerGoes 54 = .ok (.iload 5, 2) := o_21 BX12_mournerGoes rfl rfl rfl
theorem dX12_mournerGoes_56 : decode cX12_mournerGoes 56 = .ok (.iaload, 1) := o_46 BX12_mournerGoes rfl rfl
theorem dX12_mournerGoes_57 : decode cX12_mournerGoes 57 = .ok (.iload 4, 2) := o_21 BX12_mournerGoes rfl rfl rfl
theorem dX12_mournerGoes_59 : decode cX12_mournerGoes 59 = .ok (.isub, 1) := o_100 BX12_mournerGoes rfl rfl
theorem dX12_mournerGoes_60 : decode cX12_mournerGoes 60 = .ok (.invokestatic 290, 3) := o_184 BX12_mournerGoes rfl rfl rfl
theorem dX12_mournerGoes_63 : decode cX12_mournerGoes 63 = .ok (.aload_n 1, 1) := o_43 BX12_mournerGoes rfl rfl
theorem dX12_mournerGoes_64 : decode cX12_mournerGoes 64 = .ok (.iload_n 3, 1) := o_29 BX12_mournerGoes rfl rfl
theorem dX12_mournerGoes_65 : decode cX12_mournerGoes 65 = .ok (.iaload, 1) := o_46 BX12_mournerGoes rfl rfl
theorem dX12_mournerGoes_66 : decode cX12_mournerGoes 66 = .ok (.iload 4, 2) := o_21 BX12_mournerGoes rfl rfl rfl
theorem dX12_mournerGoes_68 : decode cX12_mournerGoes 68 = .ok (.isub, 1) := o_100 BX12_mournerGoes rfl rfl
theorem dX12_mournerGoes_69 : decode cX12_mournerGoes 69 = .ok (.invokestatic 290, 3) := o_184 BX12_mournerGoes rfl rfl rfl
theorem dX12_mournerGoes_72 : decode cX12_mournerGoes 72 = .ok (.if_icmp .ge 33, 3) := o_162 BX12_mournerGoes rfl rfl rfl
theorem dX12_mournerGoes_75 : decode cX12_mournerGoes 75 = .ok (.iload 5, 2) := o_21 BX12_mournerGoes rfl rfl rfl
theorem dX12_mournerGoes_77 : decode cX12_mournerGoes 77 = .ok (.istore_n 3, 1) := o_62 BX12_mournerGoes rfl rfl
theorem dX12_mournerGoes_78 : decode cX12_mournerGoes 78 = .ok (.aload_n 1, 1) := o_43 BX12_mournerGoes rfl rfl
theorem dX12_mournerGoes_79 : decode cX12_mournerGoes 79 = .ok (.bipush 21, 2) := o_16 BX12_mournerGoes rfl rfl rfl
theorem dX12_mournerGoes_81 : decode cX12_mournerGoes 81 = .ok (.iload_n 2, 1) := o_28 BX12_mournerGoes rfl rfl
theorem dX12_mournerGoes_82 : decode cX12_mournerGoes 82 = .ok (.iadd, 1) := o_96 BX12_mournerGoes rfl rfl
theorem dX12_mournerGoes_83 : decode cX12_mournerGoes 83 = .ok (.iload_n 3, 1) := o_29 BX12_mournerGoes rfl rfl
theorem dX12_mournerGoes_84 : decode cX12_mournerGoes 84 = .ok (.iastore, 1) := o_79 BX12_mournerGoes rfl rfl
theorem dX12_mournerGoes_85 : decode cX12_mournerGoes 85 = .ok (.aload_n 0, 1) := o_42 BX12_mournerGoes rfl rfl
theorem dX12_mournerGoes_86 : decode cX12_mournerGoes 86 = .ok (.dup, 1) := o_89 BX12_mournerGoes rfl rfl
theorem dX12_mournerGoes_87 : decode cX12_mournerGoes 87 = .ok (.getfield 330, 3) := o_180 BX12_mournerGoes rfl rfl rfl
theorem dX12_mournerGoes_90 : decode cX12_mournerGoes 90 = .ok (.iconst 1, 1) := o_4 BX12_mournerGoes rfl rfl
theorem dX12_mournerGoes_91 : decode cX12_mournerGoes 91 = .ok (.iadd, 1) := o_96 BX12_mournerGoes rfl rfl
theorem dX12_mournerGoes_92 : decode cX12_mournerGoes 92 = .ok (.putfield 330, 3) := o_181 BX12_mournerGoes rfl rfl rfl
theorem dX12_mournerGoes_95 : decode cX12_mournerGoes 95 = .ok (.aload_n 0, 1) := o_42 BX12_mournerGoes rfl rfl
theorem dX12_mournerGoes_96 : decode cX12_mournerGoes 96 = .ok (.getfield 67, 3) := o_180 BX12_mournerGoes rfl rfl rfl
theorem dX12_mournerGoes_99 : decode cX12_mournerGoes 99 = .ok (.iload_n 2, 1) := o_28 BX12_mournerGoes rfl rfl
theorem dX12_mournerGoes_100 : decode cX12_mournerGoes 100 = .ok (.dup2, 1) := o_92 BX12_mournerGoes rfl rfl
theorem dX12_mournerGoes_101 : decode cX12_mournerGoes 101 = .ok (.iaload, 1) := o_46 BX12_mournerGoes rfl rfl
theorem dX12_mournerGoes_102 : decode cX12_mournerGoes 102 = .ok (.iconst 1, 1) := o_4 BX12_mournerGoes rfl rfl
theorem dX12_mournerGoes_103 : decode cX12_mournerGoes 103 = .ok (.iadd, 1) := o_96 BX12_mournerGoes rfl rfl
theorem dX12_mournerGoes_104 : decode cX12_mournerGoes 104 = .ok (.iastore, 1) := o_79 BX12_mournerGoes rfl rfl
theorem dX12_mournerGoes_105 : decode cX12_mournerGoes 105 = .ok (.iload_n 3, 1) := o_29 BX12_mournerGoes rfl rfl
theorem dX12_mournerGoes_106 : decode cX12_mournerGoes 106 = .ok (.ifCond .lt 40, 3) := o_155 BX12_mournerGoes rfl rfl rfl
theorem dX12_mournerGoes_109 : decode cX12_mournerGoes 109 = .ok (.aload_n 1, 1) := o_43 BX12_mournerGoes rfl rfl
theorem dX12_mournerGoes_110 : decode cX12_mournerGoes 110 = .ok (.bipush 13, 2) := o_16 BX12_mournerGoes rfl rfl rfl
theorem dX12_mournerGoes_112 : decode cX12_mournerGoes 112 = .ok (.iload_n 2, 1) := o_28 BX12_mournerGoes rfl rfl
theorem dX12_mournerGoes_113 : decode cX12_mournerGoes 113 = .ok (.iadd, 1) := o_96 BX12_mournerGoes rfl rfl
theorem dX12_mournerGoes_114 : decode cX12_mournerGoes 114 = .ok (.aload_n 1, 1) := o_43 BX12_mournerGoes rfl rfl
theorem dX12_mournerGoes_115 : decode cX12_mournerGoes 115 = .ok (.iload_n 3, 1) := o_29 BX12_mournerGoes rfl rfl
theorem dX12_mournerGoes_116 : decode cX12_mournerGoes 116 = .ok (.iaload, 1) := o_46 BX12_mournerGoes rfl rfl
theorem dX12_mournerGoes_117 : decode cX12_mournerGoes 117 = .ok (.iload 4, 2) := o_21 BX12_mournerGoes rfl rfl rfl
theorem dX12_mournerGoes_119 : decode cX12_mournerGoes 119 = .ok (.if_icmp .le 16, 3) := o_164 BX12_mournerGoes rfl rfl rfl
theorem dX12_mournerGoes_122 : decode cX12_mournerGoes 122 = .ok (.aload_n 1, 1) := o_43 BX12_mournerGoes rfl rfl
theorem dX12_mournerGoes_123 : decode cX12_mournerGoes 123 = .ok (.iload_n 3, 1) := o_29 BX12_mournerGoes rfl rfl
theorem dX12_mournerGoes_124 : decode cX12_mournerGoes 124 = .ok (.iaload, 1) := o_46 BX12_mournerGoes rfl rfl
theorem dX12_mournerGoes_125 : decode cX12_mournerGoes 125 = .ok (.iload 4, 2) := o_21 BX12_mournerGoes rfl rfl rfl
theorem dX12_mournerGoes_127 : decode cX12_mournerGoes 127 = .ok (.iconst 2, 1) := o_5 BX12_mournerGoes rfl rfl
theorem dX12_mournerGoes_128 : decode cX12_mournerGoes 128 = .ok (.iadd, 1) := o_96 BX12_mournerGoes rfl rfl
theorem dX12_mournerGoes_129 : decode cX12_mournerGoes 129 = .ok (.invokestatic 145, 3) := o_184 BX12_mournerGoes rfl rfl rfl
theorem dX12_mournerGoes_132 : decode cX12_mournerGoes 132 = .ok (.goto 13, 3) := o_167 BX12_mournerGoes rfl rfl rfl
theorem dX12_mournerGoes_135 : decode cX12_mournerGoes 135 = .ok (.aload_n 1, 1) := o_43 BX12_mournerGoes rfl rfl
theorem dX12_mournerGoes_136 : decode cX12_mournerGoes 136 = .ok (.iload_n 3, 1) := o_29 BX12_mournerGoes rfl rfl
theorem dX12_mournerGoes_137 : decode cX12_mournerGoes 137 = .ok (.iaload, 1) := o_46 BX12_mournerGoes rfl rfl
theorem dX12_mournerGoes_138 : decode cX12_mournerGoes 138 = .ok (.iload 4, 2) := o_21 BX12_mournerGoes rfl rfl rfl
theorem dX12_mournerGoes_140 : decode cX12_mournerGoes 140 = .ok (.iconst 2, 1) := o_5 BX12_mournerGoes rfl rfl
theorem dX12_mournerGoes_141 : decode cX12_mournerGoes 141 = .ok (.isub, 1) := o_100 BX12_mournerGoes rfl rfl
theorem dX12_mournerGoes_142 : decode cX12_mournerGoes 142 = .ok (.invokestatic 287, 3) := o_184 BX12_mournerGoes rfl rfl rfl
theorem dX12_mournerGoes_145 : decode cX12_mournerGoes 145 = .ok (.iastore, 1) := o_79 BX12_mournerGoes rfl rfl
theorem dX12_mournerGoes_146 : decode cX12_mournerGoes 146 = .ok (.return_, 1) := o_177 BX12_mournerGoes rfl rfl
theorem dX12_stepGoes_0 : decode cX12_stepGoes 0 = .ok (.aload_n 0, 1) := o_42 BX12_stepGoes rfl rfl
theorem dX12_stepGoes_1 : decode cX12_stepGoes 1 = .ok (.aload_n 1, 1) := o_43 BX12_stepGoes rfl rfl
theorem dX12_stepGoes_2 : decode cX12_stepGoes 2 = .ok (.invokevirtual 333, 3) := o_182 BX12_stepGoes rfl rfl rfl
theorem dX12_stepGoes_5 : decode cX12_stepGoes 5 = .ok (.iconst 0, 1) := o_3 BX12_stepGoes rfl rfl
theorem dX12_stepGoes_6 : decode cX12_stepGoes 6 = .ok (.istore_n 2, 1) := o_61 BX12_stepGoes rfl rfl
theorem dX12_stepGoes_7 : decode cX12_stepGoes 7 = .ok (.iload_n 2, 1) := o_28 BX12_stepGoes rfl rfl
theorem dX12_stepGoes_8 : decode cX12_stepGoes 8 = .ok (.aload_n 0, 1) := o_42 BX12_stepGoes rfl rfl
theorem dX12_stepGoes_9 : decode cX12_stepGoes 9 = .ok (.getfield 321, 3) := o_180 BX12_stepGoes rfl rfl rfl
theorem dX12_stepGoes_12 : decode cX12_stepGoes 12 = .ok (.if_icmp .ge 20, 3) := o_162 BX12_stepGoes rfl rfl rfl
theorem dX12_stepGoes_15 : decode cX12_stepGoes 15 = .ok (.aload_n 0, 1) := o_42 BX12_stepGoes rfl rfl
theorem dX12_stepGoes_16 : decode cX12_stepGoes 16 = .ok (.aload_n 1, 1) := o_43 BX12_stepGoes rfl rfl
theorem dX12_stepGoes_17 : decode cX12_stepGoes 17 = .ok (.aload_n 0, 1) := o_42 BX12_stepGoes rfl rfl
theorem dX12_stepGoes_18 : decode cX12_stepGoes 18 = .ok (.getfield 70, 3) := o_180 BX12_stepGoes rfl rfl rfl
theorem dX12_stepGoes_21 : decode cX12_stepGoes 21 = .ok (.iload_n 2, 1) := o_28 BX12_stepGoes rfl rfl
theorem dX12_stepGoes_22 : decode cX12_stepGoes 22 = .ok (.iaload, 1) := o_46 BX12_stepGoes rfl rfl
theorem dX12_stepGoes_23 : decode cX12_stepGoes 23 = .ok (.invokevirtual 337, 3) := o_182 BX12_stepGoes rfl rfl rfl
theorem dX12_stepGoes_26 : decode cX12_stepGoes 26 = .ok (.iinc 2 1, 3) := o_132 BX12_stepGoes rfl rfl rfl rfl
theorem dX12_stepGoes_29 : decode cX12_stepGoes 29 = .ok (.goto (-22), 3) := o_167 BX12_stepGoes rfl rfl rfl
theorem dX12_stepGoes_32 : decode cX12_stepGoes 32 = .ok (.iconst 0, 1) := o_3 BX12_stepGoes rfl rfl
theorem dX12_stepGoes_33 : decode cX12_stepGoes 33 = .ok (.istore_n 2, 1) := o_61 BX12_stepGoes rfl rfl
theorem dX12_stepGoes_34 : decode cX12_stepGoes 34 = .ok (.iload_n 2, 1) := o_28 BX12_stepGoes rfl rfl
theorem dX12_stepGoes_35 : decode cX12_stepGoes 35 = .ok (.aload_n 0, 1) := o_42 BX12_stepGoes rfl rfl
theorem dX12_stepGoes_36 : decode cX12_stepGoes 36 = .ok (.getfield 129, 3) := o_180 BX12_stepGoes rfl rfl rfl
theorem dX12_stepGoes_39 : decode cX12_stepGoes 39 = .ok (.if_icmp .ge 23, 3) := o_162 BX12_stepGoes rfl rfl rfl
theorem dX12_stepGoes_42 : decode cX12_stepGoes 42 = .ok (.aload_n 1, 1) := o_43 BX12_stepGoes rfl rfl
theorem dX12_stepGoes_43 : decode cX12_stepGoes 43 = .ok (.iload_n 2, 1) := o_28 BX12_stepGoes rfl rfl
theorem dX12_stepGoes_44 : decode cX12_stepGoes 44 = .ok (.invokestatic 132, 3) := o_184 BX12_stepGoes rfl rfl rfl
theorem dX12_stepGoes_47 : decode cX12_stepGoes 47 = .ok (.ifCond .ne 9, 3) := o_154 BX12_stepGoes rfl rfl rfl
theorem dX12_stepGoes_50 : decode cX12_stepGoes 50 = .ok (.aload_n 0, 1) := o_42 BX12_stepGoes rfl rfl
theorem dX12_stepGoes_51 : decode cX12_stepGoes 51 = .ok (.aload_n 1, 1) := o_43 BX12_stepGoes rfl rfl
theorem dX12_stepGoes_52 : decode cX12_stepGoes 52 = .ok (.iload_n 2, 1) := o_28 BX12_stepGoes rfl rfl
theorem dX12_stepGoes_53 : decode cX12_stepGoes 53 = .ok (.invokevirtual 340, 3) := o_182 BX12_stepGoes rfl rfl rfl
theorem dX12_stepGoes_56 : decode cX12_stepGoes 56 = .ok (.iinc 2 1, 3) := o_132 BX12_stepGoes rfl rfl rfl rfl
theorem dX12_stepGoes_59 : decode cX12_stepGoes 59 = .ok (.goto (-25), 3) := o_167 BX12_stepGoes rfl rfl rfl
theorem dX12_stepGoes_62 : decode cX12_stepGoes 62 = .ok (.aload_n 1, 1) := o_43 BX12_stepGoes rfl rfl
theorem dX12_stepGoes_63 : decode cX12_stepGoes 63 = .ok (.bipush 37, 2) := o_16 BX12_stepGoes rfl rfl rfl
theorem dX12_stepGoes_65 : decode cX12_stepGoes 65 = .ok (.dup2, 1) := o_92 BX12_stepGoes rfl rfl
theorem dX12_stepGoes_66 : decode cX12_stepGoes 66 = .ok (.iaload, 1) := o_46 BX12_stepGoes rfl rfl
theorem dX12_stepGoes_67 : decode cX12_stepGoes 67 = .ok (.iconst 1, 1) := o_4 BX12_stepGoes rfl rfl
theorem dX12_stepGoes_68 : decode cX12_stepGoes 68 = .ok (.iadd, 1) := o_96 BX12_stepGoes rfl rfl
theorem dX12_stepGoes_69 : decode cX12_stepGoes 69 = .ok (.iastore, 1) := o_79 BX12_stepGoes rfl rfl
theorem dX12_stepGoes_70 : decode cX12_stepGoes 70 = .ok (.return_, 1) := o_177 BX12_stepGoes rfl rfl
theorem dX12_goesOn_0 : decode cX12_goesOn 0 = .ok (.aload_n 0, 1) := o_42 BX12_goesOn rfl rfl
theorem dX12_goesOn_1 : decode cX12_goesOn 1 = .ok (.iconst 0, 1) := o_3 BX12_goesOn rfl rfl
theorem dX12_goesOn_2 : decode cX12_goesOn 2 = .ok (.putfield 327, 3) := o_181 BX12_goesOn rfl rfl rfl
theorem dX12_goesOn_5 : decode cX12_goesOn 5 = .ok (.aload_n 0, 1) := o_42 BX12_goesOn rfl rfl
theorem dX12_goesOn_6 : decode cX12_goesOn 6 = .ok (.iconst 0, 1) := o_3 BX12_goesOn rfl rfl
theorem dX12_goesOn_7 : decode cX12_goesOn 7 = .ok (.putfield 330, 3) := o_181 BX12_goesOn rfl rfl rfl
theorem dX12_goesOn_10 : decode cX12_goesOn 10 = .ok (.iconst 0, 1) := o_3 BX12_goesOn rfl rfl
theorem dX12_goesOn_11 : decode cX12_goesOn 11 = .ok (.istore_n 3, 1) := o_62 BX12_goesOn rfl rfl
theorem dX12_goesOn_12 : decode cX12_goesOn 12 = .ok (.iload_n 3, 1) := o_29 BX12_goesOn rfl rfl
theorem dX12_goesOn_13 : decode cX12_goesOn 13 = .ok (.bipush 30, 2) := o_16 BX12_goesOn rfl rfl rfl
theorem dX12_goesOn_15 : decode cX12_goesOn 15 = .ok (.if_icmp .ge 16, 3) := o_162 BX12_goesOn rfl rfl rfl
theorem dX12_goesOn_18 : decode cX12_goesOn 18 = .ok (.aload_n 0, 1) := o_42 BX12_goesOn rfl rfl
theorem dX12_goesOn_19 : decode cX12_goesOn 19 = .ok (.getfield 64, 3) := o_180 BX12_goesOn rfl rfl rfl
theorem dX12_goesOn_22 : decode cX12_goesOn 22 = .ok (.iload_n 3, 1) := o_29 BX12_goesOn rfl rfl
theorem dX12_goesOn_23 : decode cX12_goesOn 23 = .ok (.iconst 0, 1) := o_3 BX12_goesOn rfl rfl
theorem dX12_goesOn_24 : decode cX12_goesOn 24 = .ok (.iastore, 1) := o_79 BX12_goesOn rfl rfl
theorem dX12_goesOn_25 : decode cX12_goesOn 25 = .ok (.iinc 3 1, 3) := o_132 BX12_goesOn rfl rfl rfl rfl
theorem dX12_goesOn_28 : decode cX12_goesOn 28 = .ok (.goto (-16), 3) := o_167 BX12_goesOn rfl rfl rfl
theorem dX12_goesOn_31 : decode cX12_goesOn 31 = .ok (.iconst 0, 1) := o_3 BX12_goesOn rfl rfl
theorem dX12_goesOn_32 : decode cX12_goesOn 32 = .ok (.istore_n 3, 1) := o_62 BX12_goesOn rfl rfl
theorem dX12_goesOn_33 : decode cX12_goesOn 33 = .ok (.iload_n 3, 1) := o_29 BX12_goesOn rfl rfl
theorem dX12_goesOn_34 : decode cX12_goesOn 34 = .ok (.bipush 8, 2) := o_16 BX12_goesOn rfl rfl rfl
theorem dX12_goesOn_36 : decode cX12_goesOn 36 = .ok (.if_icmp .ge 16, 3) := o_162 BX12_goesOn rfl rfl rfl
theorem dX12_goesOn_39 : decode cX12_goesOn 39 = .ok (.aload_n 0, 1) := o_42 BX12_goesOn rfl rfl
theorem dX12_goesOn_40 : decode cX12_goesOn 40 = .ok (.getfield 67, 3) := o_180 BX12_goesOn rfl rfl rfl
theorem dX12_goesOn_43 : decode cX12_goesOn 43 = .ok (.iload_n 3, 1) := o_29 BX12_goesOn rfl rfl
theorem dX12_goesOn_44 : decode cX12_goesOn 44 = .ok (.iconst 0, 1) := o_3 BX12_goesOn rfl rfl
theorem dX12_goesOn_45 : decode cX12_goesOn 45 = .ok (.iastore, 1) := o_79 BX12_goesOn rfl rfl
theorem dX12_goesOn_46 : decode cX12_goesOn 46 = .ok (.iinc 3 1, 3) := o_132 BX12_goesOn rfl rfl rfl rfl
theorem dX12_goesOn_49 : decode cX12_goesOn 49 = .ok (.goto (-16), 3) := o_167 BX12_goesOn rfl rfl rfl
theorem dX12_goesOn_52 : decode cX12_goesOn 52 = .ok (.iconst 0, 1) := o_3 BX12_goesOn rfl rfl
theorem dX12_goesOn_53 : decode cX12_goesOn 53 = .ok (.istore_n 3, 1) := o_62 BX12_goesOn rfl rfl
theorem dX12_goesOn_54 : decode cX12_goesOn 54 = .ok (.iload_n 3, 1) := o_29 BX12_goesOn rfl rfl
theorem dX12_goesOn_55 : decode cX12_goesOn 55 = .ok (.iload_n 2, 1) := o_28 BX12_goesOn rfl rfl
theorem dX12_goesOn_56 : decode cX12_goesOn 56 = .ok (.if_icmp .ge 14, 3) := o_162 BX12_goesOn rfl rfl rfl
theorem dX12_goesOn_59 : decode cX12_goesOn 59 = .ok (.aload_n 0, 1) := o_42 BX12_goesOn rfl rfl
theorem dX12_goesOn_60 : decode cX12_goesOn 60 = .ok (.aload_n 1, 1) := o_43 BX12_goesOn rfl rfl
theorem dX12_goesOn_61 : decode cX12_goesOn 61 = .ok (.invokevirtual 343, 3) := o_182 BX12_goesOn rfl rfl rfl
theorem dX12_goesOn_64 : decode cX12_goesOn 64 = .ok (.iinc 3 1, 3) := o_132 BX12_goesOn rfl rfl rfl rfl
theorem dX12_goesOn_67 : decode cX12_goesOn 67 = .ok (.goto (-13), 3) := o_167 BX12_goesOn rfl rfl rfl
theorem dX12_goesOn_70 : decode cX12_goesOn 70 = .ok (.return_, 1) := o_177 BX12_goesOn rfl rfl
theorem dX12_turnsOne_0 : decode cX12_turnsOne 0 = .ok (.aload_n 0, 1) := o_42 BX12_turnsOne rfl rfl
theorem dX12_turnsOne_1 : decode cX12_turnsOne 1 = .ok (.iload_n 2, 1) := o_28 BX12_turnsOne rfl rfl
theorem dX12_turnsOne_2 : decode cX12_turnsOne 2 = .ok (.invokevirtual 308, 3) := o_182 BX12_turnsOne rfl rfl rfl
theorem dX12_turnsOne_5 : decode cX12_turnsOne 5 = .ok (.ifCond .ne 5, 3) := o_154 BX12_turnsOne rfl rfl rfl
theorem dX12_turnsOne_8 : decode cX12_turnsOne 8 = .ok (.iconst (-1), 1) := o_2 BX12_turnsOne rfl rfl
theorem dX12_turnsOne_9 : decode cX12_turnsOne 9 = .ok (.ireturn, 1) := o_172 BX12_turnsOne rfl rfl
theorem dX12_turnsOne_10 : decode cX12_turnsOne 10 = .ok (.aload_n 1, 1) := o_43 BX12_turnsOne rfl rfl
theorem dX12_turnsOne_11 : decode cX12_turnsOne 11 = .ok (.iload_n 2, 1) := o_28 BX12_turnsOne rfl rfl
theorem dX12_turnsOne_12 : decode cX12_turnsOne 12 = .ok (.invokestatic 132, 3) := o_184 BX12_turnsOne rfl rfl rfl
theorem dX12_turnsOne_15 : decode cX12_turnsOne 15 = .ok (.ifCond .eq 6, 3) := o_153 BX12_turnsOne rfl rfl rfl
theorem dX12_turnsOne_18 : decode cX12_turnsOne 18 = .ok (.bipush (-2), 2) := o_16 BX12_turnsOne rfl rfl rfl
theorem dX12_turnsOne_20 : decode cX12_turnsOne 20 = .ok (.ireturn, 1) := o_172 BX12_turnsOne rfl rfl
theorem dX12_turnsOne_21 : decode cX12_turnsOne 21 = .ok (.aload_n 1, 1) := o_43 BX12_turnsOne rfl rfl
theorem dX12_turnsOne_22 : decode cX12_turnsOne 22 = .ok (.bipush 21, 2) := o_16 BX12_turnsOne rfl rfl rfl
theorem dX12_turnsOne_24 : decode cX12_turnsOne 24 = .ok (.iload_n 2, 1) := o_28 BX12_turnsOne rfl rfl
theorem dX12_turnsOne_25 : decode cX12_turnsOne 25 = .ok (.iadd, 1) := o_96 BX12_turnsOne rfl rfl
theorem dX12_turnsOne_26 : decode cX12_turnsOne 26 = .ok (.iaload, 1) := o_46 BX12_turnsOne rfl rfl
theorem dX12_turnsOne_27 : decode cX12_turnsOne 27 = .ok (.istore_n 3, 1) := o_62 BX12_turnsOne rfl rfl
theorem dX12_turnsOne_28 : decode cX12_turnsOne 28 = .ok (.aload_n 1, 1) := o_43 BX12_turnsOne rfl rfl
theorem dX12_turnsOne_29 : decode cX12_turnsOne 29 = .ok (.aload_n 0, 1) := o_42 BX12_turnsOne rfl rfl
theorem dX12_turnsOne_30 : decode cX12_turnsOne 30 = .ok (.getfield 24, 3) := o_180 BX12_turnsOne rfl rfl rfl
theorem dX12_turnsOne_33 : decode cX12_turnsOne 33 = .ok (.iload_n 2, 1) := o_28 BX12_turnsOne rfl rfl
theorem dX12_turnsOne_34 : decode cX12_turnsOne 34 = .ok (.iaload, 1) := o_46 BX12_turnsOne rfl rfl
theorem dX12_turnsOne_35 : decode cX12_turnsOne 35 = .ok (.invokestatic 266, 3) := o_184 BX12_turnsOne rfl rfl rfl
theorem dX12_turnsOne_38 : decode cX12_turnsOne 38 = .ok (.ifCond .eq 13, 3) := o_153 BX12_turnsOne rfl rfl rfl
theorem dX12_turnsOne_41 : decode cX12_turnsOne 41 = .ok (.iload_n 3, 1) := o_29 BX12_turnsOne rfl rfl
theorem dX12_turnsOne_42 : decode cX12_turnsOne 42 = .ok (.aload_n 0, 1) := o_42 BX12_turnsOne rfl rfl
theorem dX12_turnsOne_43 : decode cX12_turnsOne 43 = .ok (.getfield 24, 3) := o_180 BX12_turnsOne rfl rfl rfl
theorem dX12_turnsOne_46 : decode cX12_turnsOne 46 = .ok (.iload_n 2, 1) := o_28 BX12_turnsOne rfl rfl
theorem dX12_turnsOne_47 : decode cX12_turnsOne 47 = .ok (.iaload, 1) := o_46 BX12_turnsOne rfl rfl
theorem dX12_turnsOne_48 : decode cX12_turnsOne 48 = .ok (.if_icmp .ne 6, 3) := o_160 BX12_turnsOne rfl rfl rfl
theorem dX12_turnsOne_51 : decode cX12_turnsOne 51 = .ok (.bipush (-3), 2) := o_16 BX12_turnsOne rfl rfl rfl
theorem dX12_turnsOne_53 : decode cX12_turnsOne 53 = .ok (.ireturn, 1) := o_172 BX12_turnsOne rfl rfl
theorem dX12_turnsOne_54 : decode cX12_turnsOne 54 = .ok (.aload_n 1, 1) := o_43 BX12_turnsOne rfl rfl
theorem dX12_turnsOne_55 : decode cX12_turnsOne 55 = .ok (.bipush 21, 2) := o_16 BX12_turnsOne rfl rfl rfl
theorem dX12_turnsOne_57 : decode cX12_turnsOne 57 = .ok (.iload_n 2, 1) := o_28 BX12_turnsOne rfl rfl
theorem dX12_turnsOne_58 : decode cX12_turnsOne 58 = .ok (.iadd, 1) := o_96 BX12_turnsOne rfl rfl
theorem dX12_turnsOne_59 : decode cX12_turnsOne 59 = .ok (.aload_n 0, 1) := o_42 BX12_turnsOne rfl rfl
theorem dX12_turnsOne_60 : decode cX12_turnsOne 60 = .ok (.getfield 24, 3) := o_180 BX12_turnsOne rfl rfl rfl
theorem dX12_turnsOne_63 : decode cX12_turnsOne 63 = .ok (.iload_n 2, 1) := o_28 BX12_turnsOne rfl rfl
theorem dX12_turnsOne_64 : decode cX12_turnsOne 64 = .ok (.iaload, 1) := o_46 BX12_turnsOne rfl rfl
theorem dX12_turnsOne_65 : decode cX12_turnsOne 65 = .ok (.iastore, 1) := o_79 BX12_turnsOne rfl rfl
theorem dX12_turnsOne_66 : decode cX12_turnsOne 66 = .ok (.iload_n 3, 1) := o_29 BX12_turnsOne rfl rfl
theorem dX12_turnsOne_67 : decode cX12_turnsOne 67 = .ok (.ifCond .ge 8, 3) := o_156 BX12_turnsOne rfl rfl rfl
theorem dX12_turnsOne_70 : decode cX12_turnsOne 70 = .ok (.bipush (-4), 2) := o_16 BX12_turnsOne rfl rfl rfl
theorem dX12_turnsOne_72 : decode cX12_turnsOne 72 = .ok (.goto 4, 3) := o_167 BX12_turnsOne rfl rfl rfl
theorem dX12_turnsOne_75 : decode cX12_turnsOne 75 = .ok (.iload_n 3, 1) := o_29 BX12_turnsOne rfl rfl
theorem dX12_turnsOne_76 : decode cX12_turnsOne 76 = .ok (.ireturn, 1) := o_172 BX12_turnsOne rfl rfl
theorem dX12_pushesOne_0 : decode cX12_pushesOne 0 = .ok (.aload_n 0, 1) := o_42 BX12_pushesOne rfl rfl
theorem dX12_pushesOne_1 : decode cX12_pushesOne 1 = .ok (.iload_n 2, 1) := o_28 BX12_pushesOne rfl rfl
theorem dX12_pushesOne_2 : decode cX12_pushesOne 2 = .ok (.invokevirtual 308, 3) := o_182 BX12_pushesOne rfl rfl rfl
theorem dX12_pushesOne_5 : decode cX12_pushesOne 5 = .ok (.ifCond .eq 21, 3) := o_153 BX12_pushesOne rfl rfl rfl
theorem dX12_pushesOne_8 : decode cX12_pushesOne 8 = .ok (.iload_n 3, 1) := o_29 BX12_pushesOne rfl rfl
theorem dX12_pushesOne_9 : decode cX12_pushesOne 9 = .ok (.i2l, 1) := o_133 BX12_pushesOne rfl rfl
theorem dX12_pushesOne_10 : decode cX12_pushesOne 10 = .ok (.ldc2_w 346, 3) := o_20 BX12_pushesOne rfl rfl rfl
theorem dX12_pushesOne_13 : decode cX12_pushesOne 13 = .ok (.ldc2_w 348, 3) := o_20 BX12_pushesOne rfl rfl rfl
theorem dX12_pushesOne_16 : decode cX12_pushesOne 16 = .ok (.invokestatic 125, 3) := o_184 BX12_pushesOne rfl rfl rfl
theorem dX12_pushesOne_19 : decode cX12_pushesOne 19 = .ok (.ifCond .eq 7, 3) := o_153 BX12_pushesOne rfl rfl rfl
theorem dX12_pushesOne_22 : decode cX12_pushesOne 22 = .ok (.iload_n 3, 1) := o_29 BX12_pushesOne rfl rfl
theorem dX12_pushesOne_23 : decode cX12_pushesOne 23 = .ok (.ifCond .ne 5, 3) := o_154 BX12_pushesOne rfl rfl rfl
theorem dX12_pushesOne_26 : decode cX12_pushesOne 26 = .ok (.iconst (-1), 1) := o_2 BX12_pushesOne rfl rfl
theorem dX12_pushesOne_27 : decode cX12_pushesOne 27 = .ok (.ireturn, 1) := o_172 BX12_pushesOne rfl rfl
theorem dX12_pushesOne_28 : decode cX12_pushesOne 28 = .ok (.aload_n 1, 1) := o_43 BX12_pushesOne rfl rfl
theorem dX12_pushesOne_29 : decode cX12_pushesOne 29 = .ok (.iload_n 2, 1) := o_28 BX12_pushesOne rfl rfl
theorem dX12_pushesOne_30 : decode cX12_pushesOne 30 = .ok (.invokestatic 132, 3) := o_184 BX12_pushesOne rfl rfl rfl
theorem dX12_pushesOne_33 : decode cX12_pushesOne 33 = .ok (.ifCond .eq 6, 3) := o_153 BX12_pushesOne rfl rfl rfl
theorem dX12_pushesOne_36 : decode cX12_pushesOne 36 = .ok (.bipush (-2), 2) := o_16 BX12_pushesOne rfl rfl rfl
theorem dX12_pushesOne_38 : decode cX12_pushesOne 38 = .ok (.ireturn, 1) := o_172 BX12_pushesOne rfl rfl
theorem dX12_pushesOne_39 : decode cX12_pushesOne 39 = .ok (.aload_n 1, 1) := o_43 BX12_pushesOne rfl rfl
theorem dX12_pushesOne_40 : decode cX12_pushesOne 40 = .ok (.bipush 13, 2) := o_16 BX12_pushesOne rfl rfl rfl
theorem dX12_pushesOne_42 : decode cX12_pushesOne 42 = .ok (.iload_n 2, 1) := o_28 BX12_pushesOne rfl rfl
theorem dX12_pushesOne_43 : decode cX12_pushesOne 43 = .ok (.iadd, 1) := o_96 BX12_pushesOne rfl rfl
theorem dX12_pushesOne_44 : decode cX12_pushesOne 44 = .ok (.iconst 0, 1) := o_3 BX12_pushesOne rfl rfl
theorem dX12_pushesOne_45 : decode cX12_pushesOne 45 = .ok (.aload_n 0, 1) := o_42 BX12_pushesOne rfl rfl
theorem dX12_pushesOne_46 : decode cX12_pushesOne 46 = .ok (.invokevirtual 192, 3) := o_182 BX12_pushesOne rfl rfl rfl
theorem dX12_pushesOne_49 : decode cX12_pushesOne 49 = .ok (.iconst 1, 1) := o_4 BX12_pushesOne rfl rfl
theorem dX12_pushesOne_50 : decode cX12_pushesOne 50 = .ok (.isub, 1) := o_100 BX12_pushesOne rfl rfl
theorem dX12_pushesOne_51 : decode cX12_pushesOne 51 = .ok (.aload_n 1, 1) := o_43 BX12_pushesOne rfl rfl
theorem dX12_pushesOne_52 : decode cX12_pushesOne 52 = .ok (.bipush 13, 2) := o_16 BX12_pushesOne rfl rfl rfl
theorem dX12_pushesOne_54 : decode cX12_pushesOne 54 = .ok (.iload_n 2, 1) := o_28 BX12_pushesOne rfl rfl
theorem dX12_pushesOne_55 : decode cX12_pushesOne 55 = .ok (.iadd, 1) := o_96 BX12_pushesOne rfl rfl
theorem dX12_pushesOne_56 : decode cX12_pushesOne 56 = .ok (.iaload, 1) := o_46 BX12_pushesOne rfl rfl
theorem dX12_pushesOne_57 : decode cX12_pushesOne 57 = .ok (.iload_n 3, 1) := o_29 BX12_pushesOne rfl rfl
theorem dX12_pushesOne_58 : decode cX12_pushesOne 58 = .ok (.iadd, 1) := o_96 BX12_pushesOne rfl rfl
theorem dX12_pushesOne_59 : decode cX12_pushesOne 59 = .ok (.invokestatic 145, 3) := o_184 BX12_pushesOne rfl rfl rfl
theorem dX12_pushesOne_62 : decode cX12_pushesOne 62 = .ok (.invokestatic 287, 3) := o_184 BX12_pushesOne rfl rfl rfl
theorem dX12_pushesOne_65 : decode cX12_pushesOne 65 = .ok (.iastore, 1) := o_79 BX12_pushesOne rfl rfl
theorem dX12_pushesOne_66 : decode cX12_pushesOne 66 = .ok (.aload_n 1, 1) := o_43 BX12_pushesOne rfl rfl
theorem dX12_pushesOne_67 : decode cX12_pushesOne 67 = .ok (.bipush 13, 2) := o_16 BX12_pushesOne rfl rfl rfl
theorem dX12_pushesOne_69 : decode cX12_pushesOne 69 = .ok (.iload_n 2, 1) := o_28 BX12_pushesOne rfl rfl
theorem dX12_pushesOne_70 : decode cX12_pushesOne 70 = .ok (.iadd, 1) := o_96 BX12_pushesOne rfl rfl
theorem dX12_pushesOne_71 : decode cX12_pushesOne 71 = .ok (.iaload, 1) := o_46 BX12_pushesOne rfl rfl
theorem dX12_pushesOne_72 : decode cX12_pushesOne 72 = .ok (.ireturn, 1) := o_172 BX12_pushesOne rfl rfl
theorem dX12_swapsTwo_0 : decode cX12_swapsTwo 0 = .ok (.aload_n 0, 1) := o_42 BX12_swapsTwo rfl rfl
theorem dX12_swapsTwo_1 : decode cX12_swapsTwo 1 = .ok (.iload_n 1, 1) := o_27 BX12_swapsTwo rfl rfl
theorem dX12_swapsTwo_2 : decode cX12_swapsTwo 2 = .ok (.invokevirtual 294, 3) := o_182 BX12_swapsTwo rfl rfl rfl
theorem dX12_swapsTwo_5 : decode cX12_swapsTwo 5 = .ok (.ifCond .eq 16, 3) := o_153 BX12_swapsTwo rfl rfl rfl
theorem dX12_swapsTwo_8 : decode cX12_swapsTwo 8 = .ok (.aload_n 0, 1) := o_42 BX12_swapsTwo rfl rfl
theorem dX12_swapsTwo_9 : decode cX12_swapsTwo 9 = .ok (.iload_n 2, 1) := o_28 BX12_swapsTwo rfl rfl
theorem dX12_swapsTwo_10 : decode cX12_swapsTwo 10 = .ok (.invokevirtual 294, 3) := o_182 BX12_swapsTwo rfl rfl rfl
theorem dX12_swapsTwo_13 : decode cX12_swapsTwo 13 = .ok (.ifCond .eq 8, 3) := o_153 BX12_swapsTwo rfl rfl rfl
theorem dX12_swapsTwo_16 : decode cX12_swapsTwo 16 = .ok (.iload_n 1, 1) := o_27 BX12_swapsTwo rfl rfl
theorem dX12_swapsTwo_17 : decode cX12_swapsTwo 17 = .ok (.iload_n 2, 1) := o_28 BX12_swapsTwo rfl rfl
theorem dX12_swapsTwo_18 : decode cX12_swapsTwo 18 = .ok (.if_icmp .ne 5, 3) := o_160 BX12_swapsTwo rfl rfl rfl
theorem dX12_swapsTwo_21 : decode cX12_swapsTwo 21 = .ok (.iconst (-1), 1) := o_2 BX12_swapsTwo rfl rfl
theorem dX12_swapsTwo_22 : decode cX12_swapsTwo 22 = .ok (.ireturn, 1) := o_172 BX12_swapsTwo rfl rfl
theorem dX12_swapsTwo_23 : decode cX12_swapsTwo 23 = .ok (.aload_n 0, 1) := o_42 BX12_swapsTwo rfl rfl
theorem dX12_swapsTwo_24 : decode cX12_swapsTwo 24 = .ok (.getfield 31, 3) := o_180 BX12_swapsTwo rfl rfl rfl
theorem dX12_swapsTwo_27 : decode cX12_swapsTwo 27 = .ok (.iload_n 1, 1) := o_27 BX12_swapsTwo rfl rfl
theorem dX12_swapsTwo_28 : decode cX12_swapsTwo 28 = .ok (.invokestatic 266, 3) := o_184 BX12_swapsTwo rfl rfl rfl
theorem dX12_swapsTwo_31 : decode cX12_swapsTwo 31 = .ok (.ifCond .eq 14, 3) := o_153 BX12_swapsTwo rfl rfl rfl
theorem dX12_swapsTwo_34 : decode cX12_swapsTwo 34 = .ok (.aload_n 0, 1) := o_42 BX12_swapsTwo rfl rfl
theorem dX12_swapsTwo_35 : decode cX12_swapsTwo 35 = .ok (.getfield 31, 3) := o_180 BX12_swapsTwo rfl rfl rfl
theorem dX12_swapsTwo_38 : decode cX12_swapsTwo 38 = .ok (.iload_n 2, 1) := o_28 BX12_swapsTwo rfl rfl
theorem dX12_swapsTwo_39 : decode cX12_swapsTwo 39 = .ok (.invokestatic 266, 3) := o_184 BX12_swapsTwo rfl rfl rfl
theorem dX12_swapsTwo_42 : decode cX12_swapsTwo 42 = .ok (.ifCond .ne 6, 3) := o_154 BX12_swapsTwo rfl rfl rfl
theorem dX12_swapsTwo_45 : decode cX12_swapsTwo 45 = .ok (.bipush (-2), 2) := o_16 BX12_swapsTwo rfl rfl rfl
theorem dX12_swapsTwo_47 : decode cX12_swapsTwo 47 = .ok (.ireturn, 1) := o_172 BX12_swapsTwo rfl rfl
theorem dX12_swapsTwo_48 : decode cX12_swapsTwo 48 = .ok (.aload_n 0, 1) := o_42 BX12_swapsTwo rfl rfl
theorem dX12_swapsTwo_49 : decode cX12_swapsTwo 49 = .ok (.getfield 31, 3) := o_180 BX12_swapsTwo rfl rfl rfl
theorem dX12_swapsTwo_52 : decode cX12_swapsTwo 52 = .ok (.iload_n 1, 1) := o_27 BX12_swapsTwo rfl rfl
theorem dX12_swapsTwo_53 : decode cX12_swapsTwo 53 = .ok (.iaload, 1) := o_46 BX12_swapsTwo rfl rfl
theorem dX12_swapsTwo_54 : decode cX12_swapsTwo 54 = .ok (.istore_n 3, 1) := o_62 BX12_swapsTwo rfl rfl
theorem dX12_swapsTwo_55 : decode cX12_swapsTwo 55 = .ok (.aload_n 0, 1) := o_42 BX12_swapsTwo rfl rfl
theorem dX12_swapsTwo_56 : decode cX12_swapsTwo 56 = .ok (.getfield 31, 3) := o_180 BX12_swapsTwo rfl rfl rfl
theorem dX12_swapsTwo_59 : decode cX12_swapsTwo 59 = .ok (.iload_n 1, 1) := o_27 BX12_swapsTwo rfl rfl
theorem dX12_swapsTwo_60 : decode cX12_swapsTwo 60 = .ok (.aload_n 0, 1) := o_42 BX12_swapsTwo rfl rfl
theorem dX12_swapsTwo_61 : decode cX12_swapsTwo 61 = .ok (.getfield 31, 3) := o_180 BX12_swapsTwo rfl rfl rfl
theorem dX12_swapsTwo_64 : decode cX12_swapsTwo 64 = .ok (.iload_n 2, 1) := o_28 BX12_swapsTwo rfl rfl
theorem dX12_swapsTwo_65 : decode cX12_swapsTwo 65 = .ok (.iaload, 1) := o_46 BX12_swapsTwo rfl rfl
theorem dX12_swapsTwo_66 : decode cX12_swapsTwo 66 = .ok (.iastore, 1) := o_79 BX12_swapsTwo rfl rfl
theorem dX12_swapsTwo_67 : decode cX12_swapsTwo 67 = .ok (.aload_n 0, 1) := o_42 BX12_swapsTwo rfl rfl
theorem dX12_swapsTwo_68 : decode cX12_swapsTwo 68 = .ok (.getfield 31, 3) := o_180 BX12_swapsTwo rfl rfl rfl
theorem dX12_swapsTwo_71 : decode cX12_swapsTwo 71 = .ok (.iload_n 2, 1) := o_28 BX12_swapsTwo rfl rfl
theorem dX12_swapsTwo_72 : decode cX12_swapsTwo 72 = .ok (.iload_n 3, 1) := o_29 BX12_swapsTwo rfl rfl
theorem dX12_swapsTwo_73 : decode cX12_swapsTwo 73 = .ok (.iastore, 1) := o_79 BX12_swapsTwo rfl rfl
theorem dX12_swapsTwo_74 : decode cX12_swapsTwo 74 = .ok (.aload_n 0, 1) := o_42 BX12_swapsTwo rfl rfl
theorem dX12_swapsTwo_75 : decode cX12_swapsTwo 75 = .ok (.getfield 31, 3) := o_180 BX12_swapsTwo rfl rfl rfl
theorem dX12_swapsTwo_78 : decode cX12_swapsTwo 78 = .ok (.iload_n 1, 1) := o_27 BX12_swapsTwo rfl rfl
theorem dX12_swapsTwo_79 : decode cX12_swapsTwo 79 = .ok (.iaload, 1) := o_46 BX12_swapsTwo rfl rfl
theorem dX12_swapsTwo_80 : decode cX12_swapsTwo 80 = .ok (.aload_n 0, 1) := o_42 BX12_swapsTwo rfl rfl
theorem dX12_swapsTwo_81 : decode cX12_swapsTwo 81 = .ok (.getfield 31, 3) := o_180 BX12_swapsTwo rfl rfl rfl
theorem dX12_swapsTwo_84 : decode cX12_swapsTwo 84 = .ok (.iload_n 2, 1) := o_28 BX12_swapsTwo rfl rfl
theorem dX12_swapsTwo_85 : decode cX12_swapsTwo 85 = .ok (.iaload, 1) := o_46 BX12_swapsTwo rfl rfl
theorem dX12_swapsTwo_86 : decode cX12_swapsTwo 86 = .ok (.isub, 1) := o_100 BX12_swapsTwo rfl rfl
theorem dX12_swapsTwo_87 : decode cX12_swapsTwo 87 = .ok (.invokestatic 290, 3) := o_184 BX12_swapsTwo rfl rfl rfl
theorem dX12_swapsTwo_90 : decode cX12_swapsTwo 90 = .ok (.ireturn, 1) := o_172 BX12_swapsTwo rfl rfl
theorem dX12_steps_0 : decode cX12_steps 0 = .ok (.aload_n 0, 1) := o_42 BX12_steps rfl rfl
theorem dX12_steps_1 : decode cX12_steps 1 = .ok (.iconst 0, 1) := o_3 BX12_steps rfl rfl
theorem dX12_steps_2 : decode cX12_steps 2 = .ok (.putfield 112, 3) := o_181 BX12_steps rfl rfl rfl
theorem dX12_steps_5 : decode cX12_steps 5 = .ok (.iload_n 1, 1) := o_27 BX12_steps rfl rfl
theorem dX12_steps_6 : decode cX12_steps 6 = .ok (.i2l, 1) := o_133 BX12_steps rfl rfl
theorem dX12_steps_7 : decode cX12_steps 7 = .ok (.lconst 0, 1) := o_9 BX12_steps rfl rfl
theorem dX12_steps_8 : decode cX12_steps 8 = .ok (.ldc2_w 350, 3) := o_20 BX12_steps rfl rfl rfl
theorem dX12_steps_11 : decode cX12_steps 11 = .ok (.invokestatic 125, 3) := o_184 BX12_steps rfl rfl rfl
theorem dX12_steps_14 : decode cX12_steps 14 = .ok (.ifCond .ne 5, 3) := o_154 BX12_steps rfl rfl rfl
theorem dX12_steps_17 : decode cX12_steps 17 = .ok (.iconst (-1), 1) := o_2 BX12_steps rfl rfl
theorem dX12_steps_18 : decode cX12_steps 18 = .ok (.ireturn, 1) := o_172 BX12_steps rfl rfl
theorem dX12_steps_19 : decode cX12_steps 19 = .ok (.aload_n 0, 1) := o_42 BX12_steps rfl rfl
theorem dX12_steps_20 : decode cX12_steps 20 = .ok (.invokevirtual 352, 3) := o_182 BX12_steps rfl rfl rfl
theorem dX12_steps_23 : decode cX12_steps 23 = .ok (.aload_n 0, 1) := o_42 BX12_steps rfl rfl
theorem dX12_steps_24 : decode cX12_steps 24 = .ok (.aload_n 0, 1) := o_42 BX12_steps rfl rfl
theorem dX12_steps_25 : decode cX12_steps 25 = .ok (.getfield 31, 3) := o_180 BX12_steps rfl rfl rfl
theorem dX12_steps_28 : decode cX12_steps 28 = .ok (.iload_n 1, 1) := o_27 BX12_steps rfl rfl
theorem dX12_steps_29 : decode cX12_steps 29 = .ok (.invokevirtual 355, 3) := o_182 BX12_steps rfl rfl rfl
theorem dX12_steps_32 : decode cX12_steps 32 = .ok (.aload_n 0, 1) := o_42 BX12_steps rfl rfl
theorem dX12_steps_33 : decode cX12_steps 33 = .ok (.iconst 0, 1) := o_3 BX12_steps rfl rfl
theorem dX12_steps_34 : decode cX12_steps 34 = .ok (.putfield 119, 3) := o_181 BX12_steps rfl rfl rfl
theorem dX12_steps_37 : decode cX12_steps 37 = .ok (.aload_n 0, 1) := o_42 BX12_steps rfl rfl
theorem dX12_steps_38 : decode cX12_steps 38 = .ok (.aload_n 0, 1) := o_42 BX12_steps rfl rfl
theorem dX12_steps_39 : decode cX12_steps 39 = .ok (.getfield 327, 3) := o_180 BX12_steps rfl rfl rfl
theorem dX12_steps_42 : decode cX12_steps 42 = .ok (.i2l, 1) := o_133 BX12_steps rfl rfl
theorem dX12_steps_43 : decode cX12_steps 43 = .ok (.invokevirtual 358, 3) := o_182 BX12_steps rfl rfl rfl
theorem dX12_steps_46 : decode cX12_steps 46 = .ok (.aload_n 0, 1) := o_42 BX12_steps rfl rfl
theorem dX12_steps_47 : decode cX12_steps 47 = .ok (.aload_n 0, 1) := o_42 BX12_steps rfl rfl
theorem dX12_steps_48 : decode cX12_steps 48 = .ok (.getfield 330, 3) := o_180 BX12_steps rfl rfl rfl
theorem dX12_steps_51 : decode cX12_steps 51 = .ok (.i2l, 1) := o_133 BX12_steps rfl rfl
theorem dX12_steps_52 : decode cX12_steps 52 = .ok (.invokevirtual 358, 3) := o_182 BX12_steps rfl rfl rfl
theorem dX12_steps_55 : decode cX12_steps 55 = .ok (.aload_n 0, 1) := o_42 BX12_steps rfl rfl
theorem dX12_steps_56 : decode cX12_steps 56 = .ok (.aload_n 0, 1) := o_42 BX12_steps rfl rfl
theorem dX12_steps_57 : decode cX12_steps 57 = .ok (.getfield 31, 3) := o_180 BX12_steps rfl rfl rfl
theorem dX12_steps_60 : decode cX12_steps 60 = .ok (.bipush 12, 2) := o_16 BX12_steps rfl rfl rfl
theorem dX12_steps_62 : decode cX12_steps 62 = .ok (.iaload, 1) := o_46 BX12_steps rfl rfl
theorem dX12_steps_63 : decode cX12_steps 63 = .ok (.invokevirtual 318, 3) := o_182 BX12_steps rfl rfl rfl
theorem dX12_steps_66 : decode cX12_steps 66 = .ok (.ireturn, 1) := o_172 BX12_steps rfl rfl
theorem dX12_turnsTo_0 : decode cX12_turnsTo 0 = .ok (.aload_n 0, 1) := o_42 BX12_turnsTo rfl rfl
theorem dX12_turnsTo_1 : decode cX12_turnsTo 1 = .ok (.iconst 0, 1) := o_3 BX12_turnsTo rfl rfl
theorem dX12_turnsTo_2 : decode cX12_turnsTo 2 = .ok (.putfield 112, 3) := o_181 BX12_turnsTo rfl rfl rfl
theorem dX12_turnsTo_5 : decode cX12_turnsTo 5 = .ok (.aload_n 0, 1) := o_42 BX12_turnsTo rfl rfl
theorem dX12_turnsTo_6 : decode cX12_turnsTo 6 = .ok (.invokevirtual 352, 3) := o_182 BX12_turnsTo rfl rfl rfl
theorem dX12_turnsTo_9 : decode cX12_turnsTo 9 = .ok (.aload_n 0, 1) := o_42 BX12_turnsTo rfl rfl
theorem dX12_turnsTo_10 : decode cX12_turnsTo 10 = .ok (.aload_n 0, 1) := o_42 BX12_turnsTo rfl rfl
theorem dX12_turnsTo_11 : decode cX12_turnsTo 11 = .ok (.aload_n 0, 1) := o_42 BX12_turnsTo rfl rfl
theorem dX12_turnsTo_12 : decode cX12_turnsTo 12 = .ok (.getfield 31, 3) := o_180 BX12_turnsTo rfl rfl rfl
theorem dX12_turnsTo_15 : decode cX12_turnsTo 15 = .ok (.iload_n 1, 1) := o_27 BX12_turnsTo rfl rfl
theorem dX12_turnsTo_16 : decode cX12_turnsTo 16 = .ok (.invokevirtual 362, 3) := o_182 BX12_turnsTo rfl rfl rfl
theorem dX12_turnsTo_19 : decode cX12_turnsTo 19 = .ok (.invokevirtual 365, 3) := o_182 BX12_turnsTo rfl rfl rfl
theorem dX12_turnsTo_22 : decode cX12_turnsTo 22 = .ok (.ireturn, 1) := o_172 BX12_turnsTo rfl rfl
theorem dX12_pushes_0 : decode cX12_pushes 0 = .ok (.aload_n 0, 1) := o_42 BX12_pushes rfl rfl
theorem dX12_pushes_1 : decode cX12_pushes 1 = .ok (.iconst 0, 1) := o_3 BX12_pushes rfl rfl
theorem dX12_pushes_2 : decode cX12_pushes 2 = .ok (.putfield 112, 3) := o_181 BX12_pushes rfl rfl rfl
theorem dX12_pushes_5 : decode cX12_pushes 5 = .ok (.aload_n 0, 1) := o_42 BX12_pushes rfl rfl
theorem dX12_pushes_6 : decode cX12_pushes 6 = .ok (.invokevirtual 352, 3) := o_182 BX12_pushes rfl rfl rfl
theorem dX12_pushes_9 : decode cX12_pushes 9 = .ok (.aload_n 0, 1) := o_42 BX12_pushes rfl rfl
theorem dX12_pushes_10 : decode cX12_pushes 10 = .ok (.aload_n 0, 1) := o_42 BX12_pushes rfl rfl
theorem dX12_pushes_11 : decode cX12_pushes 11 = .ok (.aload_n 0, 1) := o_42 BX12_pushes rfl rfl
theorem dX12_pushes_12 : decode cX12_pushes 12 = .ok (.getfield 31, 3) := o_180 BX12_pushes rfl rfl rfl
theorem dX12_pushes_15 : decode cX12_pushes 15 = .ok (.iload_n 1, 1) := o_27 BX12_pushes rfl rfl
theorem dX12_pushes_16 : decode cX12_pushes 16 = .ok (.iload_n 2, 1) := o_28 BX12_pushes rfl rfl
theorem dX12_pushes_17 : decode cX12_pushes 17 = .ok (.invokevirtual 368, 3) := o_182 BX12_pushes rfl rfl rfl
theorem dX12_pushes_20 : decode cX12_pushes 20 = .ok (.invokevirtual 365, 3) := o_182 BX12_pushes rfl rfl rfl
theorem dX12_pushes_23 : decode cX12_pushes 23 = .ok (.ireturn, 1) := o_172 BX12_pushes rfl rfl
theorem dX12_swaps_0 : decode cX12_swaps 0 = .ok (.aload_n 0, 1) := o_42 BX12_swaps rfl rfl
theorem dX12_swaps_1 : decode cX12_swaps 1 = .ok (.iconst 0, 1) := o_3 BX12_swaps rfl rfl
theorem dX12_swaps_2 : decode cX12_swaps 2 = .ok (.putfield 112, 3) := o_181 BX12_swaps rfl rfl rfl
theorem dX12_swaps_5 : decode cX12_swaps 5 = .ok (.aload_n 0, 1) := o_42 BX12_swaps rfl rfl
theorem dX12_swaps_6 : decode cX12_swaps 6 = .ok (.invokevirtual 352, 3) := o_182 BX12_swaps rfl rfl rfl
theorem dX12_swaps_9 : decode cX12_swaps 9 = .ok (.aload_n 0, 1) := o_42 BX12_swaps rfl rfl
theorem dX12_swaps_10 : decode cX12_swaps 10 = .ok (.aload_n 0, 1) := o_42 BX12_swaps rfl rfl
theorem dX12_swaps_11 : decode cX12_swaps 11 = .ok (.iload_n 1, 1) := o_27 BX12_swaps rfl rfl
theorem dX12_swaps_12 : decode cX12_swaps 12 = .ok (.iload_n 2, 1) := o_28 BX12_swaps rfl rfl
theorem dX12_swaps_13 : decode cX12_swaps 13 = .ok (.invokevirtual 371, 3) := o_182 BX12_swaps rfl rfl rfl
theorem dX12_swaps_16 : decode cX12_swaps 16 = .ok (.invokevirtual 365, 3) := o_182 BX12_swaps rfl rfl rfl
theorem dX12_swaps_19 : decode cX12_swaps 19 = .ok (.ireturn, 1) := o_172 BX12_swaps rfl rfl
theorem dX12_readsAct_0 : decode cX12_readsAct 0 = .ok (.aload_n 0, 1) := o_42 BX12_readsAct rfl rfl
theorem dX12_readsAct_1 : decode cX12_readsAct 1 = .ok (.getfield 374, 3) := o_180 BX12_readsAct rfl rfl rfl
theorem dX12_readsAct_4 : decode cX12_readsAct 4 = .ok (.istore_n 1, 1) := o_60 BX12_readsAct rfl rfl
theorem dX12_readsAct_5 : decode cX12_readsAct 5 = .ok (.aload_n 0, 1) := o_42 BX12_readsAct rfl rfl
theorem dX12_readsAct_6 : decode cX12_readsAct 6 = .ok (.getfield 73, 3) := o_180 BX12_readsAct rfl rfl rfl
theorem dX12_readsAct_9 : decode cX12_readsAct 9 = .ok (.iload_n 1, 1) := o_27 BX12_readsAct rfl rfl
theorem dX12_readsAct_10 : decode cX12_readsAct 10 = .ok (.aload_n 0, 1) := o_42 BX12_readsAct rfl rfl
theorem dX12_readsAct_11 : decode cX12_readsAct 11 = .ok (.ldc_w 377, 3) := o_19 BX12_readsAct rfl rfl rfl
theorem dX12_readsAct_14 : decode cX12_readsAct 14 = .ok (.invokevirtual 182, 3) := o_182 BX12_readsAct rfl rfl rfl
theorem dX12_readsAct_17 : decode cX12_readsAct 17 = .ok (.iastore, 1) := o_79 BX12_readsAct rfl rfl
theorem dX12_readsAct_18 : decode cX12_readsAct 18 = .ok (.aload_n 0, 1) := o_42 BX12_readsAct rfl rfl
theorem dX12_readsAct_19 : decode cX12_readsAct 19 = .ok (.dup, 1) := o_89 BX12_readsAct rfl rfl
theorem dX12_readsAct_20 : decode cX12_readsAct 20 = .ok (.getfield 374, 3) := o_180 BX12_readsAct rfl rfl rfl
theorem dX12_readsAct_23 : decode cX12_readsAct 23 = .ok (.iconst 1, 1) := o_4 BX12_readsAct rfl rfl
theorem dX12_readsAct_24 : decode cX12_readsAct 24 = .ok (.iadd, 1) := o_96 BX12_readsAct rfl rfl
theorem dX12_readsAct_25 : decode cX12_readsAct 25 = .ok (.putfield 374, 3) := o_181 BX12_readsAct rfl rfl rfl
theorem dX12_readsAct_28 : decode cX12_readsAct 28 = .ok (.aload_n 0, 1) := o_42 BX12_readsAct rfl rfl
theorem dX12_readsAct_29 : decode cX12_readsAct 29 = .ok (.getfield 73, 3) := o_180 BX12_readsAct rfl rfl rfl
theorem dX12_readsAct_32 : decode cX12_readsAct 32 = .ok (.iload_n 1, 1) := o_27 BX12_readsAct rfl rfl
theorem dX12_readsAct_33 : decode cX12_readsAct 33 = .ok (.iaload, 1) := o_46 BX12_readsAct rfl rfl
theorem dX12_readsAct_34 : decode cX12_readsAct 34 = .ok (.ifCond .ge 5, 3) := o_156 BX12_readsAct rfl rfl rfl
theorem dX12_readsAct_37 : decode cX12_readsAct 37 = .ok (.iconst 0, 1) := o_3 BX12_readsAct rfl rfl
theorem dX12_readsAct_38 : decode cX12_readsAct 38 = .ok (.ireturn, 1) := o_172 BX12_readsAct rfl rfl
theorem dX12_readsAct_39 : decode cX12_readsAct 39 = .ok (.aload_n 0, 1) := o_42 BX12_readsAct rfl rfl
theorem dX12_readsAct_40 : decode cX12_readsAct 40 = .ok (.getfield 76, 3) := o_180 BX12_readsAct rfl rfl rfl
theorem dX12_readsAct_43 : decode cX12_readsAct 43 = .ok (.iload_n 1, 1) := o_27 BX12_readsAct rfl rfl
theorem dX12_readsAct_44 : decode cX12_readsAct 44 = .ok (.aload_n 0, 1) := o_42 BX12_readsAct rfl rfl
theorem dX12_readsAct_45 : decode cX12_readsAct 45 = .ok (.iconst 1, 1) := o_4 BX12_readsAct rfl rfl
theorem dX12_readsAct_46 : decode cX12_readsAct 46 = .ok (.invokevirtual 189, 3) := o_182 BX12_readsAct rfl rfl rfl
theorem dX12_readsAct_49 : decode cX12_readsAct 49 = .ok (.iastore, 1) := o_79 BX12_readsAct rfl rfl
theorem dX12_readsAct_50 : decode cX12_readsAct 50 = .ok (.aload_n 0, 1) := o_42 BX12_readsAct rfl rfl
theorem dX12_readsAct_51 : decode cX12_readsAct 51 = .ok (.getfield 76, 3) := o_180 BX12_readsAct rfl rfl rfl
theorem dX12_readsAct_54 : decode cX12_readsAct 54 = .ok (.iload_n 1, 1) := o_27 BX12_readsAct rfl rfl
theorem dX12_readsAct_55 : decode cX12_readsAct 55 = .ok (.iaload, 1) := o_46 BX12_readsAct rfl rfl
theorem dX12_readsAct_56 : decode cX12_readsAct 56 = .ok (.ifCond .lt 13, 3) := o_155 BX12_readsAct rfl rfl rfl
theorem dX12_readsAct_59 : decode cX12_readsAct 59 = .ok (.aload_n 0, 1) := o_42 BX12_readsAct rfl rfl
theorem dX12_readsAct_60 : decode cX12_readsAct 60 = .ok (.getfield 73, 3) := o_180 BX12_readsAct rfl rfl rfl
theorem dX12_readsAct_63 : decode cX12_readsAct 63 = .ok (.iload_n 1, 1) := o_27 BX12_readsAct rfl rfl
theorem dX12_readsAct_64 : decode cX12_readsAct 64 = .ok (.iaload, 1) := o_46 BX12_readsAct rfl rfl
theorem dX12_readsAct_65 : decode cX12_readsAct 65 = .ok (.iconst 2, 1) := o_5 BX12_readsAct rfl rfl
theorem dX12_readsAct_66 : decode cX12_readsAct 66 = .ok (.if_icmp .ge 18, 3) := o_162 BX12_readsAct rfl rfl rfl
theorem dX12_readsAct_69 : decode cX12_readsAct 69 = .ok (.aload_n 0, 1) := o_42 BX12_readsAct rfl rfl
theorem dX12_readsAct_70 : decode cX12_readsAct 70 = .ok (.getfield 76, 3) := o_180 BX12_readsAct rfl rfl rfl
theorem dX12_readsAct_73 : decode cX12_readsAct 73 = .ok (.iload_n 1, 1) := o_27 BX12_readsAct rfl rfl
theorem dX12_readsAct_74 : decode cX12_readsAct 74 = .ok (.iaload, 1) := o_46 BX12_readsAct rfl rfl
theorem dX12_readsAct_75 : decode cX12_readsAct 75 = .ok (.ifCond .lt 7, 3) := o_155 BX12_readsAct rfl rfl rfl
theorem dX12_readsAct_78 : decode cX12_readsAct 78 = .ok (.iconst 1, 1) := o_4 BX12_readsAct rfl rfl
theorem dX12_readsAct_79 : decode cX12_readsAct 79 = .ok (.goto 4, 3) := o_167 BX12_readsAct rfl rfl rfl
theorem dX12_readsAct_82 : decode cX12_readsAct 82 = .ok (.iconst 0, 1) := o_3 BX12_readsAct rfl rfl
theorem dX12_readsAct_83 : decode cX12_readsAct 83 = .ok (.ireturn, 1) := o_172 BX12_readsAct rfl rfl
theorem dX12_readsAct_84 : decode cX12_readsAct 84 = .ok (.aload_n 0, 1) := o_42 BX12_readsAct rfl rfl
theorem dX12_readsAct_85 : decode cX12_readsAct 85 = .ok (.getfield 79, 3) := o_180 BX12_readsAct rfl rfl rfl
theorem dX12_readsAct_88 : decode cX12_readsAct 88 = .ok (.iload_n 1, 1) := o_27 BX12_readsAct rfl rfl
theorem dX12_readsAct_89 : decode cX12_readsAct 89 = .ok (.aload_n 0, 1) := o_42 BX12_readsAct rfl rfl
theorem dX12_readsAct_90 : decode cX12_readsAct 90 = .ok (.aload_n 0, 1) := o_42 BX12_readsAct rfl rfl
theorem dX12_readsAct_91 : decode cX12_readsAct 91 = .ok (.getfield 73, 3) := o_180 BX12_readsAct rfl rfl rfl
theorem dX12_readsAct_94 : decode cX12_readsAct 94 = .ok (.iload_n 1, 1) := o_27 BX12_readsAct rfl rfl
theorem dX12_readsAct_95 : decode cX12_readsAct 95 = .ok (.iaload, 1) := o_46 BX12_readsAct rfl rfl
theorem dX12_readsAct_96 : decode cX12_readsAct 96 = .ok (.iconst 4, 1) := o_7 BX12_readsAct rfl rfl
theorem dX12_readsAct_97 : decode cX12_readsAct 97 = .ok (.if_icmp .ne 7, 3) := o_160 BX12_readsAct rfl rfl rfl
theorem dX12_readsAct_100 : decode cX12_readsAct 100 = .ok (.iconst 0, 1) := o_3 BX12_readsAct rfl rfl
theorem dX12_readsAct_101 : decode cX12_readsAct 101 = .ok (.goto 4, 3) := o_167 BX12_readsAct rfl rfl rfl
theorem dX12_readsAct_104 : decode cX12_readsAct 104 = .ok (.iconst 1, 1) := o_4 BX12_readsAct rfl rfl
theorem dX12_readsAct_105 : decode cX12_readsAct 105 = .ok (.bipush 9, 2) := o_16 BX12_readsAct rfl rfl rfl
theorem dX12_readsAct_107 : decode cX12_readsAct 107 = .ok (.invokevirtual 379, 3) := o_182 BX12_readsAct rfl rfl rfl
theorem dX12_readsAct_110 : decode cX12_readsAct 110 = .ok (.iastore, 1) := o_79 BX12_readsAct rfl rfl
theorem dX12_readsAct_111 : decode cX12_readsAct 111 = .ok (.aload_n 0, 1) := o_42 BX12_readsAct rfl rfl
theorem dX12_readsAct_112 : decode cX12_readsAct 112 = .ok (.getfield 79, 3) := o_180 BX12_readsAct rfl rfl rfl
theorem dX12_readsAct_115 : decode cX12_readsAct 115 = .ok (.iload_n 1, 1) := o_27 BX12_readsAct rfl rfl
theorem dX12_readsAct_116 : decode cX12_readsAct 116 = .ok (.iaload, 1) := o_46 BX12_readsAct rfl rfl
theorem dX12_readsAct_117 : decode cX12_readsAct 117 = .ok (.ifCond .lt 7, 3) := o_155 BX12_readsAct rfl rfl rfl
theorem dX12_readsAct_120 : decode cX12_readsAct 120 = .ok (.iconst 1, 1) := o_4 BX12_readsAct rfl rfl
theorem dX12_readsAct_121 : decode cX12_readsAct 121 = .ok (.goto 4, 3) := o_167 BX12_readsAct rfl rfl rfl
theorem dX12_readsAct_124 : decode cX12_readsAct 124 = .ok (.iconst 0, 1) := o_3 BX12_readsAct rfl rfl
theorem dX12_readsAct_125 : decode cX12_readsAct 125 = .ok (.ireturn, 1) := o_172 BX12_readsAct rfl rfl
theorem dX12_does_0 : decode cX12_does 0 = .ok (.aload_n 0, 1) := o_42 BX12_does rfl rfl
theorem dX12_does_1 : decode cX12_does 1 = .ok (.getfield 76, 3) := o_180 BX12_does rfl rfl rfl
theorem dX12_does_4 : decode cX12_does 4 = .ok (.iload_n 1, 1) := o_27 BX12_does rfl rfl
theorem dX12_does_5 : decode cX12_does 5 = .ok (.iaload, 1) := o_46 BX12_does rfl rfl
theorem dX12_does_6 : decode cX12_does 6 = .ok (.istore_n 2, 1) := o_61 BX12_does rfl rfl
theorem dX12_does_7 : decode cX12_does 7 = .ok (.aload_n 0, 1) := o_42 BX12_does rfl rfl
theorem dX12_does_8 : decode cX12_does 8 = .ok (.getfield 73, 3) := o_180 BX12_does rfl rfl rfl
theorem dX12_does_11 : decode cX12_does 11 = .ok (.iload_n 1, 1) := o_27 BX12_does rfl rfl
theorem dX12_does_12 : decode cX12_does 12 = .ok (.iaload, 1) := o_46 BX12_does rfl rfl
theorem dX12_does_13 : decode cX12_does 13 = .ok (.tableswitch 129 0 3 #[31, 54, 80, 104], 31) := by decide +kernel
theorem dX12_does_44 : decode cX12_does 44 = .ok (.iconst 0, 1) := o_3 BX12_does rfl rfl
theorem dX12_does_45 : decode cX12_does 45 = .ok (.istore_n 3, 1) := o_62 BX12_does rfl rfl
theorem dX12_does_46 : decode cX12_does 46 = .ok (.iload_n 3, 1) := o_29 BX12_does rfl rfl
theorem dX12_does_47 : decode cX12_does 47 = .ok (.iload_n 2, 1) := o_28 BX12_does rfl rfl
theorem dX12_does_48 : decode cX12_does 48 = .ok (.if_icmp .ge 17, 3) := o_162 BX12_does rfl rfl rfl
theorem dX12_does_51 : decode cX12_does 51 = .ok (.aload_n 0, 1) := o_42 BX12_does rfl rfl
theorem dX12_does_52 : decode cX12_does 52 = .ok (.aload_n 0, 1) := o_42 BX12_does rfl rfl
theorem dX12_does_53 : decode cX12_does 53 = .ok (.getfield 31, 3) := o_180 BX12_does rfl rfl rfl
theorem dX12_does_56 : decode cX12_does 56 = .ok (.invokevirtual 343, 3) := o_182 BX12_does rfl rfl rfl
theorem dX12_does_59 : decode cX12_does 59 = .ok (.iinc 3 1, 3) := o_132 BX12_does rfl rfl rfl rfl
theorem dX12_does_62 : decode cX12_does 62 = .ok (.goto (-16), 3) := o_167 BX12_does rfl rfl rfl
theorem dX12_does_65 : decode cX12_does 65 = .ok (.iconst 1, 1) := o_4 BX12_does rfl rfl
theorem dX12_does_66 : decode cX12_does 66 = .ok (.ireturn, 1) := o_172 BX12_does rfl rfl
theorem dX12_does_67 : decode cX12_does 67 = .ok (.aload_n 0, 1) := o_42 BX12_does rfl rfl
theorem dX12_does_68 : decode cX12_does 68 = .ok (.aload_n 0, 1) := o_42 BX12_does rfl rfl
theorem dX12_does_69 : decode cX12_does 69 = .ok (.getfield 31, 3) := o_180 BX12_does rfl rfl rfl
theorem dX12_does_72 : decode cX12_does 72 = .ok (.iload_n 2, 1) := o_28 BX12_does rfl rfl
theorem dX12_does_73 : decode cX12_does 73 = .ok (.invokevirtual 362, 3) := o_182 BX12_does rfl rfl rfl
theorem dX12_does_76 : decode cX12_does 76 = .ok (.istore_n 3, 1) := o_62 BX12_does rfl rfl
theorem dX12_does_77 : decode cX12_does 77 = .ok (.iload_n 3, 1) := o_29 BX12_does rfl rfl
theorem dX12_does_78 : decode cX12_does 78 = .ok (.ifCond .ge 9, 3) := o_156 BX12_does rfl rfl rfl
theorem dX12_does_81 : decode cX12_does 81 = .ok (.iload_n 3, 1) := o_29 BX12_does rfl rfl
theorem dX12_does_82 : decode cX12_does 82 = .ok (.bipush (-4), 2) := o_16 BX12_does rfl rfl rfl
theorem dX12_does_84 : decode cX12_does 84 = .ok (.if_icmp .ne 7, 3) := o_160 BX12_does rfl rfl rfl
theorem dX12_does_87 : decode cX12_does 87 = .ok (.iconst 1, 1) := o_4 BX12_does rfl rfl
theorem dX12_does_88 : decode cX12_does 88 = .ok (.goto 4, 3) := o_167 BX12_does rfl rfl rfl
theorem dX12_does_91 : decode cX12_does 91 = .ok (.iconst 0, 1) := o_3 BX12_does rfl rfl
theorem dX12_does_92 : decode cX12_does 92 = .ok (.ireturn, 1) := o_172 BX12_does rfl rfl
theorem dX12_does_93 : decode cX12_does 93 = .ok (.aload_n 0, 1) := o_42 BX12_does rfl rfl
theorem dX12_does_94 : decode cX12_does 94 = .ok (.aload_n 0, 1) := o_42 BX12_does rfl rfl
theorem dX12_does_95 : decode cX12_does 95 = .ok (.getfield 31, 3) := o_180 BX12_does rfl rfl rfl
theorem dX12_does_98 : decode cX12_does 98 = .ok (.iload_n 2, 1) := o_28 BX12_does rfl rfl
theorem dX12_does_99 : decode cX12_does 99 = .ok (.aload_n 0, 1) := o_42 BX12_does rfl rfl
theorem dX12_does_100 : decode cX12_does 100 = .ok (.getfield 79, 3) := o_180 BX12_does rfl rfl rfl
theorem dX12_does_103 : decode cX12_does 103 = .ok (.iload_n 1, 1) := o_27 BX12_does rfl rfl
theorem dX12_does_104 : decode cX12_does 104 = .ok (.iaload, 1) := o_46 BX12_does rfl rfl
theorem dX12_does_105 : decode cX12_does 105 = .ok (.invokevirtual 368, 3) := o_182 BX12_does rfl rfl rfl
theorem dX12_does_108 : decode cX12_does 108 = .ok (.ifCond .lt 7, 3) := o_155 BX12_does rfl rfl rfl
theorem dX12_does_111 : decode cX12_does 111 = .ok (.iconst 1, 1) := o_4 BX12_does rfl rfl
theorem dX12_does_112 : decode cX12_does 112 = .ok (.goto 4, 3) := o_167 BX12_does rfl rfl rfl
theorem dX12_does_115 : decode cX12_does 115 = .ok (.iconst 0, 1) := o_3 BX12_does rfl rfl
theorem dX12_does_116 : decode cX12_does 116 = .ok (.ireturn, 1) := o_172 BX12_does rfl rfl
theorem dX12_does_117 : decode cX12_does 117 = .ok (.aload_n 0, 1) := o_42 BX12_does rfl rfl
theorem dX12_does_118 : decode cX12_does 118 = .ok (.aload_n 0, 1) := o_42 BX12_does rfl rfl
theorem dX12_does_119 : decode cX12_does 119 = .ok (.getfield 31, 3) := o_180 BX12_does rfl rfl rfl
theorem dX12_does_122 : decode cX12_does 122 = .ok (.iload_n 2, 1) := o_28 BX12_does rfl rfl
theorem dX12_does_123 : decode cX12_does 123 = .ok (.aload_n 0, 1) := o_42 BX12_does rfl rfl
theorem dX12_does_124 : decode cX12_does 124 = .ok (.getfield 79, 3) := o_180 BX12_does rfl rfl rfl
theorem dX12_does_127 : decode cX12_does 127 = .ok (.iload_n 1, 1) := o_27 BX12_does rfl rfl
theorem dX12_does_128 : decode cX12_does 128 = .ok (.iaload, 1) := o_46 BX12_does rfl rfl
theorem dX12_does_129 : decode cX12_does 129 = .ok (.ineg, 1) := o_116 BX12_does rfl rfl
theorem dX12_does_130 : decode cX12_does 130 = .ok (.invokevirtual 368, 3) := o_182 BX12_does rfl rfl rfl
theorem dX12_does_133 : decode cX12_does 133 = .ok (.ifCond .lt 7, 3) := o_155 BX12_does rfl rfl rfl
theorem dX12_does_136 : decode cX12_does 136 = .ok (.iconst 1, 1) := o_4 BX12_does rfl rfl
theorem dX12_does_137 : decode cX12_does 137 = .ok (.goto 4, 3) := o_167 BX12_does rfl rfl rfl
theorem dX12_does_140 : decode cX12_does 140 = .ok (.iconst 0, 1) := o_3 BX12_does rfl rfl
theorem dX12_does_141 : decode cX12_does 141 = .ok (.ireturn, 1) := o_172 BX12_does rfl rfl
theorem dX12_does_142 : decode cX12_does 142 = .ok (.aload_n 0, 1) := o_42 BX12_does rfl rfl
theorem dX12_does_143 : decode cX12_does 143 = .ok (.iload_n 2, 1) := o_28 BX12_does rfl rfl
theorem dX12_does_144 : decode cX12_does 144 = .ok (.aload_n 0, 1) := o_42 BX12_does rfl rfl
theorem dX12_does_145 : decode cX12_does 145 = .ok (.getfield 79, 3) := o_180 BX12_does rfl rfl rfl
theorem dX12_does_148 : decode cX12_does 148 = .ok (.iload_n 1, 1) := o_27 BX12_does rfl rfl
theorem dX12_does_149 : decode cX12_does 149 = .ok (.iaload, 1) := o_46 BX12_does rfl rfl
theorem dX12_does_150 : decode cX12_does 150 = .ok (.invokevirtual 371, 3) := o_182 BX12_does rfl rfl rfl
theorem dX12_does_153 : decode cX12_does 153 = .ok (.ifCond .lt 7, 3) := o_155 BX12_does rfl rfl rfl
theorem dX12_does_156 : decode cX12_does 156 = .ok (.iconst 1, 1) := o_4 BX12_does rfl rfl
theorem dX12_does_157 : decode cX12_does 157 = .ok (.goto 4, 3) := o_167 BX12_does rfl rfl rfl
theorem dX12_does_160 : decode cX12_does 160 = .ok (.iconst 0, 1) := o_3 BX12_does rfl rfl
theorem dX12_does_161 : decode cX12_does 161 = .ok (.ireturn, 1) := o_172 BX12_does rfl rfl
theorem dX12_hour_0 : decode cX12_hour 0 = .ok (.aload_n 0, 1) := o_42 BX12_hour rfl rfl
theorem dX12_hour_1 : decode cX12_hour 1 = .ok (.iconst 0, 1) := o_3 BX12_hour rfl rfl
theorem dX12_hour_2 : decode cX12_hour 2 = .ok (.putfield 112, 3) := o_181 BX12_hour rfl rfl rfl
theorem dX12_hour_5 : decode cX12_hour 5 = .ok (.aload_n 0, 1) := o_42 BX12_hour rfl rfl
theorem dX12_hour_6 : decode cX12_hour 6 = .ok (.bipush 60, 2) := o_16 BX12_hour rfl rfl rfl
theorem dX12_hour_8 : decode cX12_hour 8 = .ok (.invokevirtual 176, 3) := o_182 BX12_hour rfl rfl rfl
theorem dX12_hour_11 : decode cX12_hour 11 = .ok (.istore_n 1, 1) := o_60 BX12_hour rfl rfl
theorem dX12_hour_12 : decode cX12_hour 12 = .ok (.aload_n 0, 1) := o_42 BX12_hour rfl rfl
theorem dX12_hour_13 : decode cX12_hour 13 = .ok (.iconst 0, 1) := o_3 BX12_hour rfl rfl
theorem dX12_hour_14 : decode cX12_hour 14 = .ok (.putfield 374, 3) := o_181 BX12_hour rfl rfl rfl
theorem dX12_hour_17 : decode cX12_hour 17 = .ok (.iconst 1, 1) := o_4 BX12_hour rfl rfl
theorem dX12_hour_18 : decode cX12_hour 18 = .ok (.istore_n 2, 1) := o_61 BX12_hour rfl rfl
theorem dX12_hour_19 : decode cX12_hour 19 = .ok (.iload_n 2, 1) := o_28 BX12_hour rfl rfl
theorem dX12_hour_20 : decode cX12_hour 20 = .ok (.ifCond .eq 22, 3) := o_153 BX12_hour rfl rfl rfl
theorem dX12_hour_23 : decode cX12_hour 23 = .ok (.aload_n 0, 1) := o_42 BX12_hour rfl rfl
theorem dX12_hour_24 : decode cX12_hour 24 = .ok (.getfield 139, 3) := o_180 BX12_hour rfl rfl rfl
theorem dX12_hour_27 : decode cX12_hour 27 = .ok (.aload_n 0, 1) := o_42 BX12_hour rfl rfl
theorem dX12_hour_28 : decode cX12_hour 28 = .ok (.getfield 151, 3) := o_180 BX12_hour rfl rfl rfl
theorem dX12_hour_31 : decode cX12_hour 31 = .ok (.if_icmp .ge 11, 3) := o_162 BX12_hour rfl rfl rfl
theorem dX12_hour_34 : decode cX12_hour 34 = .ok (.aload_n 0, 1) := o_42 BX12_hour rfl rfl
theorem dX12_hour_35 : decode cX12_hour 35 = .ok (.invokevirtual 382, 3) := o_182 BX12_hour rfl rfl rfl
theorem dX12_hour_38 : decode cX12_hour 38 = .ok (.istore_n 2, 1) := o_61 BX12_hour rfl rfl
theorem dX12_hour_39 : decode cX12_hour 39 = .ok (.goto (-20), 3) := o_167 BX12_hour rfl rfl rfl
theorem dX12_hour_42 : decode cX12_hour 42 = .ok (.aload_n 0, 1) := o_42 BX12_hour rfl rfl
theorem dX12_hour_43 : decode cX12_hour 43 = .ok (.iload_n 1, 1) := o_27 BX12_hour rfl rfl
theorem dX12_hour_44 : decode cX12_hour 44 = .ok (.bipush 60, 2) := o_16 BX12_hour rfl rfl rfl
theorem dX12_hour_46 : decode cX12_hour 46 = .ok (.iload_n 2, 1) := o_28 BX12_hour rfl rfl
theorem dX12_hour_47 : decode cX12_hour 47 = .ok (.invokevirtual 221, 3) := o_182 BX12_hour rfl rfl rfl
theorem dX12_hour_50 : decode cX12_hour 50 = .ok (.istore_n 3, 1) := o_62 BX12_hour rfl rfl
theorem dX12_hour_51 : decode cX12_hour 51 = .ok (.iload_n 3, 1) := o_29 BX12_hour rfl rfl
theorem dX12_hour_52 : decode cX12_hour 52 = .ok (.ifCond .ge 5, 3) := o_156 BX12_hour rfl rfl rfl
theorem dX12_hour_55 : decode cX12_hour 55 = .ok (.iload_n 3, 1) := o_29 BX12_hour rfl rfl
theorem dX12_hour_56 : decode cX12_hour 56 = .ok (.ireturn, 1) := o_172 BX12_hour rfl rfl
theorem dX12_hour_57 : decode cX12_hour 57 = .ok (.aload_n 0, 1) := o_42 BX12_hour rfl rfl
theorem dX12_hour_58 : decode cX12_hour 58 = .ok (.invokevirtual 352, 3) := o_182 BX12_hour rfl rfl rfl
theorem dX12_hour_61 : decode cX12_hour 61 = .ok (.iconst 0, 1) := o_3 BX12_hour rfl rfl
theorem dX12_hour_62 : decode cX12_hour 62 = .ok (.istore 4, 2) := o_54 BX12_hour rfl rfl rfl
theorem dX12_hour_64 : decode cX12_hour 64 = .ok (.iload 4, 2) := o_21 BX12_hour rfl rfl rfl
theorem dX12_hour_66 : decode cX12_hour 66 = .ok (.aload_n 0, 1) := o_42 BX12_hour rfl rfl
theorem dX12_hour_67 : decode cX12_hour 67 = .ok (.getfield 374, 3) := o_180 BX12_hour rfl rfl rfl
theorem dX12_hour_70 : decode cX12_hour 70 = .ok (.if_icmp .ge 18, 3) := o_162 BX12_hour rfl rfl rfl
theorem dX12_hour_73 : decode cX12_hour 73 = .ok (.aload_n 0, 1) := o_42 BX12_hour rfl rfl
theorem dX12_hour_74 : decode cX12_hour 74 = .ok (.iload 4, 2) := o_21 BX12_hour rfl rfl rfl
theorem dX12_hour_76 : decode cX12_hour 76 = .ok (.invokevirtual 385, 3) := o_182 BX12_hour rfl rfl rfl
theorem dX12_hour_79 : decode cX12_hour 79 = .ok (.ifCond .eq 9, 3) := o_153 BX12_hour rfl rfl rfl
theorem dX12_hour_82 : decode cX12_hour 82 = .ok (.iinc 4 1, 3) := o_132 BX12_hour rfl rfl rfl rfl
theorem dX12_hour_85 : decode cX12_hour 85 = .ok (.goto (-21), 3) := o_167 BX12_hour rfl rfl rfl
theorem dX12_hour_88 : decode cX12_hour 88 = .ok (.aload_n 0, 1) := o_42 BX12_hour rfl rfl
theorem dX12_hour_89 : decode cX12_hour 89 = .ok (.iconst 0, 1) := o_3 BX12_hour rfl rfl
theorem dX12_hour_90 : decode cX12_hour 90 = .ok (.putfield 119, 3) := o_181 BX12_hour rfl rfl rfl
theorem dX12_hour_93 : decode cX12_hour 93 = .ok (.aload_n 0, 1) := o_42 BX12_hour rfl rfl
theorem dX12_hour_94 : decode cX12_hour 94 = .ok (.iload 4, 2) := o_21 BX12_hour rfl rfl rfl
theorem dX12_hour_96 : decode cX12_hour 96 = .ok (.aload_n 0, 1) := o_42 BX12_hour rfl rfl
theorem dX12_hour_97 : decode cX12_hour 97 = .ok (.getfield 374, 3) := o_180 BX12_hour rfl rfl rfl
theorem dX12_hour_100 : decode cX12_hour 100 = .ok (.if_icmp .ge 7, 3) := o_162 BX12_hour rfl rfl rfl
theorem dX12_hour_103 : decode cX12_hour 103 = .ok (.iconst 1, 1) := o_4 BX12_hour rfl rfl
theorem dX12_hour_104 : decode cX12_hour 104 = .ok (.goto 4, 3) := o_167 BX12_hour rfl rfl rfl
theorem dX12_hour_107 : decode cX12_hour 107 = .ok (.iconst 0, 1) := o_3 BX12_hour rfl rfl
theorem dX12_hour_108 : decode cX12_hour 108 = .ok (.invokestatic 154, 3) := o_184 BX12_hour rfl rfl rfl
theorem dX12_hour_111 : decode cX12_hour 111 = .ok (.i2l, 1) := o_133 BX12_hour rfl rfl
theorem dX12_hour_112 : decode cX12_hour 112 = .ok (.invokevirtual 358, 3) := o_182 BX12_hour rfl rfl rfl
theorem dX12_hour_115 : decode cX12_hour 115 = .ok (.aload_n 0, 1) := o_42 BX12_hour rfl rfl
theorem dX12_hour_116 : decode cX12_hour 116 = .ok (.aload_n 0, 1) := o_42 BX12_hour rfl rfl
theorem dX12_hour_117 : decode cX12_hour 117 = .ok (.getfield 31, 3) := o_180 BX12_hour rfl rfl rfl
theorem dX12_hour_120 : decode cX12_hour 120 = .ok (.bipush 37, 2) := o_16 BX12_hour rfl rfl rfl
theorem dX12_hour_122 : decode cX12_hour 122 = .ok (.iaload, 1) := o_46 BX12_hour rfl rfl
theorem dX12_hour_123 : decode cX12_hour 123 = .ok (.i2l, 1) := o_133 BX12_hour rfl rfl
theorem dX12_hour_124 : decode cX12_hour 124 = .ok (.invokevirtual 358, 3) := o_182 BX12_hour rfl rfl rfl
theorem dX12_hour_127 : decode cX12_hour 127 = .ok (.iload 4, 2) := o_21 BX12_hour rfl rfl rfl
theorem dX12_hour_129 : decode cX12_hour 129 = .ok (.ifCond .le 12, 3) := o_158 BX12_hour rfl rfl rfl
theorem dX12_hour_132 : decode cX12_hour 132 = .ok (.aload_n 0, 1) := o_42 BX12_hour rfl rfl
theorem dX12_hour_133 : decode cX12_hour 133 = .ok (.iload 4, 2) := o_21 BX12_hour rfl rfl rfl
theorem dX12_hour_135 : decode cX12_hour 135 = .ok (.invokevirtual 318, 3) := o_182 BX12_hour rfl rfl rfl
theorem dX12_hour_138 : decode cX12_hour 138 = .ok (.goto 4, 3) := o_167 BX12_hour rfl rfl rfl
theorem dX12_hour_141 : decode cX12_hour 141 = .ok (.iconst 0, 1) := o_3 BX12_hour rfl rfl
theorem dX12_hour_142 : decode cX12_hour 142 = .ok (.ireturn, 1) := o_172 BX12_hour rfl rfl
theorem dX12_copies_0 : decode cX12_copies 0 = .ok (.iconst 0, 1) := o_3 BX12_copies rfl rfl
theorem dX12_copies_1 : decode cX12_copies 1 = .ok (.istore_n 1, 1) := o_60 BX12_copies rfl rfl
theorem dX12_copies_2 : decode cX12_copies 2 = .ok (.iload_n 1, 1) := o_27 BX12_copies rfl rfl
theorem dX12_copies_3 : decode cX12_copies 3 = .ok (.bipush 38, 2) := o_16 BX12_copies rfl rfl rfl
theorem dX12_copies_5 : decode cX12_copies 5 = .ok (.if_icmp .ge 21, 3) := o_162 BX12_copies rfl rfl rfl
theorem dX12_copies_8 : decode cX12_copies 8 = .ok (.aload_n 0, 1) := o_42 BX12_copies rfl rfl
theorem dX12_copies_9 : decode cX12_copies 9 = .ok (.getfield 34, 3) := o_180 BX12_copies rfl rfl rfl
theorem dX12_copies_12 : decode cX12_copies 12 = .ok (.iload_n 1, 1) := o_27 BX12_copies rfl rfl
theorem dX12_copies_13 : decode cX12_copies 13 = .ok (.aload_n 0, 1) := o_42 BX12_copies rfl rfl
theorem dX12_copies_14 : decode cX12_copies 14 = .ok (.getfield 31, 3) := o_180 BX12_copies rfl rfl rfl
theorem dX12_copies_17 : decode cX12_copies 17 = .ok (.iload_n 1, 1) := o_27 BX12_copies rfl rfl
theorem dX12_copies_18 : decode cX12_copies 18 = .ok (.iaload, 1) := o_46 BX12_copies rfl rfl
theorem dX12_copies_19 : decode cX12_copies 19 = .ok (.iastore, 1) := o_79 BX12_copies rfl rfl
theorem dX12_copies_20 : decode cX12_copies 20 = .ok (.iinc 1 1, 3) := o_132 BX12_copies rfl rfl rfl rfl
theorem dX12_copies_23 : decode cX12_copies 23 = .ok (.goto (-21), 3) := o_167 BX12_copies rfl rfl rfl
theorem dX12_copies_26 : decode cX12_copies 26 = .ok (.return_, 1) := o_177 BX12_copies rfl rfl
theorem dX12_line_0 : decode cX12_line 0 = .ok (.aload_n 0, 1) := o_42 BX12_line rfl rfl
theorem dX12_line_1 : decode cX12_line 1 = .ok (.iconst 0, 1) := o_3 BX12_line rfl rfl
theorem dX12_line_2 : decode cX12_line 2 = .ok (.putfield 112, 3) := o_181 BX12_line rfl rfl rfl
theorem dX12_line_5 : decode cX12_line 5 = .ok (.aload_n 0, 1) := o_42 BX12_line rfl rfl
theorem dX12_line_6 : decode cX12_line 6 = .ok (.aload_n 0, 1) := o_42 BX12_line rfl rfl
theorem dX12_line_7 : decode cX12_line 7 = .ok (.getfield 31, 3) := o_180 BX12_line rfl rfl rfl
theorem dX12_line_10 : decode cX12_line 10 = .ok (.invokevirtual 333, 3) := o_182 BX12_line rfl rfl rfl
theorem dX12_line_13 : decode cX12_line 13 = .ok (.aload_n 0, 1) := o_42 BX12_line rfl rfl
theorem dX12_line_14 : decode cX12_line 14 = .ok (.iconst 0, 1) := o_3 BX12_line rfl rfl
theorem dX12_line_15 : decode cX12_line 15 = .ok (.putfield 119, 3) := o_181 BX12_line rfl rfl rfl
theorem dX12_line_18 : decode cX12_line 18 = .ok (.iconst 0, 1) := o_3 BX12_line rfl rfl
theorem dX12_line_19 : decode cX12_line 19 = .ok (.istore_n 1, 1) := o_60 BX12_line rfl rfl
theorem dX12_line_20 : decode cX12_line 20 = .ok (.iload_n 1, 1) := o_27 BX12_line rfl rfl
theorem dX12_line_21 : decode cX12_line 21 = .ok (.aload_n 0, 1) := o_42 BX12_line rfl rfl
theorem dX12_line_22 : decode cX12_line 22 = .ok (.getfield 321, 3) := o_180 BX12_line rfl rfl rfl
theorem dX12_line_25 : decode cX12_line 25 = .ok (.if_icmp .ge 20, 3) := o_162 BX12_line rfl rfl rfl
theorem dX12_line_28 : decode cX12_line 28 = .ok (.aload_n 0, 1) := o_42 BX12_line rfl rfl
theorem dX12_line_29 : decode cX12_line 29 = .ok (.aload_n 0, 1) := o_42 BX12_line rfl rfl
theorem dX12_line_30 : decode cX12_line 30 = .ok (.getfield 70, 3) := o_180 BX12_line rfl rfl rfl
theorem dX12_line_33 : decode cX12_line 33 = .ok (.iload_n 1, 1) := o_27 BX12_line rfl rfl
theorem dX12_line_34 : decode cX12_line 34 = .ok (.iaload, 1) := o_46 BX12_line rfl rfl
theorem dX12_line_35 : decode cX12_line 35 = .ok (.i2l, 1) := o_133 BX12_line rfl rfl
theorem dX12_line_36 : decode cX12_line 36 = .ok (.invokevirtual 358, 3) := o_182 BX12_line rfl rfl rfl
theorem dX12_line_39 : decode cX12_line 39 = .ok (.iinc 1 1, 3) := o_132 BX12_line rfl rfl rfl rfl
theorem dX12_line_42 : decode cX12_line 42 = .ok (.goto (-22), 3) := o_167 BX12_line rfl rfl rfl
theorem dX12_line_45 : decode cX12_line 45 = .ok (.aload_n 0, 1) := o_42 BX12_line rfl rfl
theorem dX12_line_46 : decode cX12_line 46 = .ok (.getfield 321, 3) := o_180 BX12_line rfl rfl rfl
theorem dX12_line_49 : decode cX12_line 49 = .ok (.ireturn, 1) := o_172 BX12_line rfl rfl
theorem dX12_ahead_0 : decode cX12_ahead 0 = .ok (.aload_n 0, 1) := o_42 BX12_ahead rfl rfl
theorem dX12_ahead_1 : decode cX12_ahead 1 = .ok (.iconst 0, 1) := o_3 BX12_ahead rfl rfl
theorem dX12_ahead_2 : decode cX12_ahead 2 = .ok (.putfield 112, 3) := o_181 BX12_ahead rfl rfl rfl
theorem dX12_ahead_5 : decode cX12_ahead 5 = .ok (.iload_n 1, 1) := o_27 BX12_ahead rfl rfl
theorem dX12_ahead_6 : decode cX12_ahead 6 = .ok (.i2l, 1) := o_133 BX12_ahead rfl rfl
theorem dX12_ahead_7 : decode cX12_ahead 7 = .ok (.lconst 0, 1) := o_9 BX12_ahead rfl rfl
theorem dX12_ahead_8 : decode cX12_ahead 8 = .ok (.ldc2_w 388, 3) := o_20 BX12_ahead rfl rfl rfl
theorem dX12_ahead_11 : decode cX12_ahead 11 = .ok (.invokestatic 125, 3) := o_184 BX12_ahead rfl rfl rfl
theorem dX12_ahead_14 : decode cX12_ahead 14 = .ok (.ifCond .ne 5, 3) := o_154 BX12_ahead rfl rfl rfl
theorem dX12_ahead_17 : decode cX12_ahead 17 = .ok (.iconst (-1), 1) := o_2 BX12_ahead rfl rfl
theorem dX12_ahead_18 : decode cX12_ahead 18 = .ok (.ireturn, 1) := o_172 BX12_ahead rfl rfl
theorem dX12_ahead_19 : decode cX12_ahead 19 = .ok (.aload_n 0, 1) := o_42 BX12_ahead rfl rfl
theorem dX12_ahead_20 : decode cX12_ahead 20 = .ok (.invokevirtual 390, 3) := o_182 BX12_ahead rfl rfl rfl
theorem dX12_ahead_23 : decode cX12_ahead 23 = .ok (.aload_n 0, 1) := o_42 BX12_ahead rfl rfl
theorem dX12_ahead_24 : decode cX12_ahead 24 = .ok (.aload_n 0, 1) := o_42 BX12_ahead rfl rfl
theorem dX12_ahead_25 : decode cX12_ahead 25 = .ok (.getfield 34, 3) := o_180 BX12_ahead rfl rfl rfl
theorem dX12_ahead_28 : decode cX12_ahead 28 = .ok (.iload_n 1, 1) := o_27 BX12_ahead rfl rfl
theorem dX12_ahead_29 : decode cX12_ahead 29 = .ok (.invokevirtual 355, 3) := o_182 BX12_ahead rfl rfl rfl
theorem dX12_ahead_32 : decode cX12_ahead 32 = .ok (.aload_n 0, 1) := o_42 BX12_ahead rfl rfl
theorem dX12_ahead_33 : decode cX12_ahead 33 = .ok (.iconst 0, 1) := o_3 BX12_ahead rfl rfl
theorem dX12_ahead_34 : decode cX12_ahead 34 = .ok (.putfield 119, 3) := o_181 BX12_ahead rfl rfl rfl
theorem dX12_ahead_37 : decode cX12_ahead 37 = .ok (.iconst 0, 1) := o_3 BX12_ahead rfl rfl
theorem dX12_ahead_38 : decode cX12_ahead 38 = .ok (.istore_n 2, 1) := o_61 BX12_ahead rfl rfl
theorem dX12_ahead_39 : decode cX12_ahead 39 = .ok (.iload_n 2, 1) := o_28 BX12_ahead rfl rfl
theorem dX12_ahead_40 : decode cX12_ahead 40 = .ok (.aload_n 0, 1) := o_42 BX12_ahead rfl rfl
theorem dX12_ahead_41 : decode cX12_ahead 41 = .ok (.getfield 122, 3) := o_180 BX12_ahead rfl rfl rfl
theorem dX12_ahead_44 : decode cX12_ahead 44 = .ok (.if_icmp .ge 20, 3) := o_162 BX12_ahead rfl rfl rfl
theorem dX12_ahead_47 : decode cX12_ahead 47 = .ok (.aload_n 0, 1) := o_42 BX12_ahead rfl rfl
theorem dX12_ahead_48 : decode cX12_ahead 48 = .ok (.aload_n 0, 1) := o_42 BX12_ahead rfl rfl
theorem dX12_ahead_49 : decode cX12_ahead 49 = .ok (.getfield 34, 3) := o_180 BX12_ahead rfl rfl rfl
theorem dX12_ahead_52 : decode cX12_ahead 52 = .ok (.iload_n 2, 1) := o_28 BX12_ahead rfl rfl
theorem dX12_ahead_53 : decode cX12_ahead 53 = .ok (.iaload, 1) := o_46 BX12_ahead rfl rfl
theorem dX12_ahead_54 : decode cX12_ahead 54 = .ok (.i2l, 1) := o_133 BX12_ahead rfl rfl
theorem dX12_ahead_55 : decode cX12_ahead 55 = .ok (.invokevirtual 358, 3) := o_182 BX12_ahead rfl rfl rfl
theorem dX12_ahead_58 : decode cX12_ahead 58 = .ok (.iinc 2 1, 3) := o_132 BX12_ahead rfl rfl rfl rfl
theorem dX12_ahead_61 : decode cX12_ahead 61 = .ok (.goto (-22), 3) := o_167 BX12_ahead rfl rfl rfl
theorem dX12_ahead_64 : decode cX12_ahead 64 = .ok (.aload_n 0, 1) := o_42 BX12_ahead rfl rfl
theorem dX12_ahead_65 : decode cX12_ahead 65 = .ok (.getfield 34, 3) := o_180 BX12_ahead rfl rfl rfl
theorem dX12_ahead_68 : decode cX12_ahead 68 = .ok (.bipush 12, 2) := o_16 BX12_ahead rfl rfl rfl
theorem dX12_ahead_70 : decode cX12_ahead 70 = .ok (.iaload, 1) := o_46 BX12_ahead rfl rfl
theorem dX12_ahead_71 : decode cX12_ahead 71 = .ok (.ireturn, 1) := o_172 BX12_ahead rfl rfl
theorem dX12_arrives_0 : decode cX12_arrives 0 = .ok (.aload_n 0, 1) := o_42 BX12_arrives rfl rfl
theorem dX12_arrives_1 : decode cX12_arrives 1 = .ok (.iconst 0, 1) := o_3 BX12_arrives rfl rfl
theorem dX12_arrives_2 : decode cX12_arrives 2 = .ok (.putfield 112, 3) := o_181 BX12_arrives rfl rfl rfl
theorem dX12_arrives_5 : decode cX12_arrives 5 = .ok (.aload_n 0, 1) := o_42 BX12_arrives rfl rfl
theorem dX12_arrives_6 : decode cX12_arrives 6 = .ok (.iload_n 1, 1) := o_27 BX12_arrives rfl rfl
theorem dX12_arrives_7 : decode cX12_arrives 7 = .ok (.invokevirtual 294, 3) := o_182 BX12_arrives rfl rfl rfl
theorem dX12_arrives_10 : decode cX12_arrives 10 = .ok (.ifCond .ne 5, 3) := o_154 BX12_arrives rfl rfl rfl
theorem dX12_arrives_13 : decode cX12_arrives 13 = .ok (.iconst (-1), 1) := o_2 BX12_arrives rfl rfl
theorem dX12_arrives_14 : decode cX12_arrives 14 = .ok (.ireturn, 1) := o_172 BX12_arrives rfl rfl
theorem dX12_arrives_15 : decode cX12_arrives 15 = .ok (.aload_n 0, 1) := o_42 BX12_arrives rfl rfl
theorem dX12_arrives_16 : decode cX12_arrives 16 = .ok (.invokevirtual 390, 3) := o_182 BX12_arrives rfl rfl rfl
theorem dX12_arrives_19 : decode cX12_arrives 19 = .ok (.iconst 0, 1) := o_3 BX12_arrives rfl rfl
theorem dX12_arrives_20 : decode cX12_arrives 20 = .ok (.istore_n 2, 1) := o_61 BX12_arrives rfl rfl
theorem dX12_arrives_21 : decode cX12_arrives 21 = .ok (.iload_n 2, 1) := o_28 BX12_arrives rfl rfl
theorem dX12_arrives_22 : decode cX12_arrives 22 = .ok (.sipush 200, 3) := o_17 BX12_arrives rfl rfl rfl
theorem dX12_arrives_25 : decode cX12_arrives 25 = .ok (.if_icmp .gt 49, 3) := o_163 BX12_arrives rfl rfl rfl
theorem dX12_arrives_28 : decode cX12_arrives 28 = .ok (.aload_n 0, 1) := o_42 BX12_arrives rfl rfl
theorem dX12_arrives_29 : decode cX12_arrives 29 = .ok (.getfield 34, 3) := o_180 BX12_arrives rfl rfl rfl
theorem dX12_arrives_32 : decode cX12_arrives 32 = .ok (.iload_n 1, 1) := o_27 BX12_arrives rfl rfl
theorem dX12_arrives_33 : decode cX12_arrives 33 = .ok (.invokestatic 266, 3) := o_184 BX12_arrives rfl rfl rfl
theorem dX12_arrives_36 : decode cX12_arrives 36 = .ok (.ifCond .ne 24, 3) := o_154 BX12_arrives rfl rfl rfl
theorem dX12_arrives_39 : decode cX12_arrives 39 = .ok (.aload_n 0, 1) := o_42 BX12_arrives rfl rfl
theorem dX12_arrives_40 : decode cX12_arrives 40 = .ok (.iconst 0, 1) := o_3 BX12_arrives rfl rfl
theorem dX12_arrives_41 : decode cX12_arrives 41 = .ok (.putfield 119, 3) := o_181 BX12_arrives rfl rfl rfl
theorem dX12_arrives_44 : decode cX12_arrives 44 = .ok (.aload_n 0, 1) := o_42 BX12_arrives rfl rfl
theorem dX12_arrives_45 : decode cX12_arrives 45 = .ok (.aload_n 0, 1) := o_42 BX12_arrives rfl rfl
theorem dX12_arrives_46 : decode cX12_arrives 46 = .ok (.getfield 34, 3) := o_180 BX12_arrives rfl rfl rfl
theorem dX12_arrives_49 : decode cX12_arrives 49 = .ok (.bipush 6, 2) := o_16 BX12_arrives rfl rfl rfl
theorem dX12_arrives_51 : decode cX12_arrives 51 = .ok (.iload_n 1, 1) := o_27 BX12_arrives rfl rfl
theorem dX12_arrives_52 : decode cX12_arrives 52 = .ok (.iadd, 1) := o_96 BX12_arrives rfl rfl
theorem dX12_arrives_53 : decode cX12_arrives 53 = .ok (.iaload, 1) := o_46 BX12_arrives rfl rfl
theorem dX12_arrives_54 : decode cX12_arrives 54 = .ok (.i2l, 1) := o_133 BX12_arrives rfl rfl
theorem dX12_arrives_55 : decode cX12_arrives 55 = .ok (.invokevirtual 358, 3) := o_182 BX12_arrives rfl rfl rfl
theorem dX12_arrives_58 : decode cX12_arrives 58 = .ok (.iload_n 2, 1) := o_28 BX12_arrives rfl rfl
theorem dX12_arrives_59 : decode cX12_arrives 59 = .ok (.ireturn, 1) := o_172 BX12_arrives rfl rfl
theorem dX12_arrives_60 : decode cX12_arrives 60 = .ok (.aload_n 0, 1) := o_42 BX12_arrives rfl rfl
theorem dX12_arrives_61 : decode cX12_arrives 61 = .ok (.aload_n 0, 1) := o_42 BX12_arrives rfl rfl
theorem dX12_arrives_62 : decode cX12_arrives 62 = .ok (.getfield 34, 3) := o_180 BX12_arrives rfl rfl rfl
theorem dX12_arrives_65 : decode cX12_arrives 65 = .ok (.invokevirtual 343, 3) := o_182 BX12_arrives rfl rfl rfl
theorem dX12_arrives_68 : decode cX12_arrives 68 = .ok (.iinc 2 1, 3) := o_132 BX12_arrives rfl rfl rfl rfl
theorem dX12_arrives_71 : decode cX12_arrives 71 = .ok (.goto (-50), 3) := o_167 BX12_arrives rfl rfl rfl
theorem dX12_arrives_74 : decode cX12_arrives 74 = .ok (.bipush (-2), 2) := o_16 BX12_arrives rfl rfl rfl
theorem dX12_arrives_76 : decode cX12_arrives 76 = .ok (.ireturn, 1) := o_172 BX12_arrives rfl rfl
theorem dX12_jam_0 : decode cX12_jam 0 = .ok (.aload_n 0, 1) := o_42 BX12_jam rfl rfl
theorem dX12_jam_1 : decode cX12_jam 1 = .ok (.iconst 0, 1) := o_3 BX12_jam rfl rfl
theorem dX12_jam_2 : decode cX12_jam 2 = .ok (.putfield 112, 3) := o_181 BX12_jam rfl rfl rfl
theorem dX12_jam_5 : decode cX12_jam 5 = .ok (.iload_n 1, 1) := o_27 BX12_jam rfl rfl
theorem dX12_jam_6 : decode cX12_jam 6 = .ok (.i2l, 1) := o_133 BX12_jam rfl rfl
theorem dX12_jam_7 : decode cX12_jam 7 = .ok (.lconst 1, 1) := o_10 BX12_jam rfl rfl
theorem dX12_jam_8 : decode cX12_jam 8 = .ok (.ldc2_w 350, 3) := o_20 BX12_jam rfl rfl rfl
theorem dX12_jam_11 : decode cX12_jam 11 = .ok (.invokestatic 125, 3) := o_184 BX12_jam rfl rfl rfl
theorem dX12_jam_14 : decode cX12_jam 14 = .ok (.ifCond .ne 5, 3) := o_154 BX12_jam rfl rfl rfl
theorem dX12_jam_17 : decode cX12_jam 17 = .ok (.iconst (-1), 1) := o_2 BX12_jam rfl rfl
theorem dX12_jam_18 : decode cX12_jam 18 = .ok (.ireturn, 1) := o_172 BX12_jam rfl rfl
theorem dX12_jam_19 : decode cX12_jam 19 = .ok (.aload_n 0, 1) := o_42 BX12_jam rfl rfl
theorem dX12_jam_20 : decode cX12_jam 20 = .ok (.invokevirtual 390, 3) := o_182 BX12_jam rfl rfl rfl
theorem dX12_jam_23 : decode cX12_jam 23 = .ok (.aload_n 0, 1) := o_42 BX12_jam rfl rfl
theorem dX12_jam_24 : decode cX12_jam 24 = .ok (.aload_n 0, 1) := o_42 BX12_jam rfl rfl
theorem dX12_jam_25 : decode cX12_jam 25 = .ok (.getfield 34, 3) := o_180 BX12_jam rfl rfl rfl
theorem dX12_jam_28 : decode cX12_jam 28 = .ok (.iload_n 1, 1) := o_27 BX12_jam rfl rfl
theorem dX12_jam_29 : decode cX12_jam 29 = .ok (.invokevirtual 355, 3) := o_182 BX12_jam rfl rfl rfl
theorem dX12_jam_32 : decode cX12_jam 32 = .ok (.iconst 0, 1) := o_3 BX12_jam rfl rfl
theorem dX12_jam_33 : decode cX12_jam 33 = .ok (.istore_n 2, 1) := o_61 BX12_jam rfl rfl
theorem dX12_jam_34 : decode cX12_jam 34 = .ok (.iconst 0, 1) := o_3 BX12_jam rfl rfl
theorem dX12_jam_35 : decode cX12_jam 35 = .ok (.istore_n 3, 1) := o_62 BX12_jam rfl rfl
theorem dX12_jam_36 : decode cX12_jam 36 = .ok (.iload_n 3, 1) := o_29 BX12_jam rfl rfl
theorem dX12_jam_37 : decode cX12_jam 37 = .ok (.aload_n 0, 1) := o_42 BX12_jam rfl rfl
theorem dX12_jam_38 : decode cX12_jam 38 = .ok (.getfield 13, 3) := o_180 BX12_jam rfl rfl rfl
theorem dX12_jam_41 : decode cX12_jam 41 = .ok (.if_icmp .ge 30, 3) := o_162 BX12_jam rfl rfl rfl
theorem dX12_jam_44 : decode cX12_jam 44 = .ok (.aload_n 0, 1) := o_42 BX12_jam rfl rfl
theorem dX12_jam_45 : decode cX12_jam 45 = .ok (.getfield 64, 3) := o_180 BX12_jam rfl rfl rfl
theorem dX12_jam_48 : decode cX12_jam 48 = .ok (.iload_n 3, 1) := o_29 BX12_jam rfl rfl
theorem dX12_jam_49 : decode cX12_jam 49 = .ok (.iaload, 1) := o_46 BX12_jam rfl rfl
theorem dX12_jam_50 : decode cX12_jam 50 = .ok (.aload_n 0, 1) := o_42 BX12_jam rfl rfl
theorem dX12_jam_51 : decode cX12_jam 51 = .ok (.getfield 64, 3) := o_180 BX12_jam rfl rfl rfl
theorem dX12_jam_54 : decode cX12_jam 54 = .ok (.iload_n 2, 1) := o_28 BX12_jam rfl rfl
theorem dX12_jam_55 : decode cX12_jam 55 = .ok (.iaload, 1) := o_46 BX12_jam rfl rfl
theorem dX12_jam_56 : decode cX12_jam 56 = .ok (.if_icmp .le 7, 3) := o_164 BX12_jam rfl rfl rfl
theorem dX12_jam_59 : decode cX12_jam 59 = .ok (.iload_n 3, 1) := o_29 BX12_jam rfl rfl
theorem dX12_jam_60 : decode cX12_jam 60 = .ok (.goto 4, 3) := o_167 BX12_jam rfl rfl rfl
theorem dX12_jam_63 : decode cX12_jam 63 = .ok (.iload_n 2, 1) := o_28 BX12_jam rfl rfl
theorem dX12_jam_64 : decode cX12_jam 64 = .ok (.istore_n 2, 1) := o_61 BX12_jam rfl rfl
theorem dX12_jam_65 : decode cX12_jam 65 = .ok (.iinc 3 1, 3) := o_132 BX12_jam rfl rfl rfl rfl
theorem dX12_jam_68 : decode cX12_jam 68 = .ok (.goto (-32), 3) := o_167 BX12_jam rfl rfl rfl
theorem dX12_jam_71 : decode cX12_jam 71 = .ok (.aload_n 0, 1) := o_42 BX12_jam rfl rfl
theorem dX12_jam_72 : decode cX12_jam 72 = .ok (.iconst 0, 1) := o_3 BX12_jam rfl rfl
theorem dX12_jam_73 : decode cX12_jam 73 = .ok (.putfield 119, 3) := o_181 BX12_jam rfl rfl rfl
theorem dX12_jam_76 : decode cX12_jam 76 = .ok (.aload_n 0, 1) := o_42 BX12_jam rfl rfl
theorem dX12_jam_77 : decode cX12_jam 77 = .ok (.aload_n 0, 1) := o_42 BX12_jam rfl rfl
theorem dX12_jam_78 : decode cX12_jam 78 = .ok (.getfield 64, 3) := o_180 BX12_jam rfl rfl rfl
theorem dX12_jam_81 : decode cX12_jam 81 = .ok (.iload_n 2, 1) := o_28 BX12_jam rfl rfl
theorem dX12_jam_82 : decode cX12_jam 82 = .ok (.iaload, 1) := o_46 BX12_jam rfl rfl
theorem dX12_jam_83 : decode cX12_jam 83 = .ok (.i2l, 1) := o_133 BX12_jam rfl rfl
theorem dX12_jam_84 : decode cX12_jam 84 = .ok (.invokevirtual 358, 3) := o_182 BX12_jam rfl rfl rfl
theorem dX12_jam_87 : decode cX12_jam 87 = .ok (.aload_n 0, 1) := o_42 BX12_jam rfl rfl
theorem dX12_jam_88 : decode cX12_jam 88 = .ok (.aload_n 0, 1) := o_42 BX12_jam rfl rfl
theorem dX12_jam_89 : decode cX12_jam 89 = .ok (.getfield 327, 3) := o_180 BX12_jam rfl rfl rfl
theorem dX12_jam_92 : decode cX12_jam 92 = .ok (.i2l, 1) := o_133 BX12_jam rfl rfl
theorem dX12_jam_93 : decode cX12_jam 93 = .ok (.invokevirtual 358, 3) := o_182 BX12_jam rfl rfl rfl
theorem dX12_jam_96 : decode cX12_jam 96 = .ok (.iload_n 2, 1) := o_28 BX12_jam rfl rfl
theorem dX12_jam_97 : decode cX12_jam 97 = .ok (.ireturn, 1) := o_172 BX12_jam rfl rfl
theorem dX12_isAhead_0 : decode cX12_isAhead 0 = .ok (.aload_n 0, 1) := o_42 BX12_isAhead rfl rfl
theorem dX12_isAhead_1 : decode cX12_isAhead 1 = .ok (.iload_n 1, 1) := o_27 BX12_isAhead rfl rfl
theorem dX12_isAhead_2 : decode cX12_isAhead 2 = .ok (.invokestatic 266, 3) := o_184 BX12_isAhead rfl rfl rfl
theorem dX12_isAhead_5 : decode cX12_isAhead 5 = .ok (.ifCond .eq 26, 3) := o_153 BX12_isAhead rfl rfl rfl
theorem dX12_isAhead_8 : decode cX12_isAhead 8 = .ok (.aload_n 0, 1) := o_42 BX12_isAhead rfl rfl
theorem dX12_isAhead_9 : decode cX12_isAhead 9 = .ok (.iload_n 2, 1) := o_28 BX12_isAhead rfl rfl
theorem dX12_isAhead_10 : decode cX12_isAhead 10 = .ok (.invokestatic 266, 3) := o_184 BX12_isAhead rfl rfl rfl
theorem dX12_isAhead_13 : decode cX12_isAhead 13 = .ok (.ifCond .eq 16, 3) := o_153 BX12_isAhead rfl rfl rfl
theorem dX12_isAhead_16 : decode cX12_isAhead 16 = .ok (.aload_n 0, 1) := o_42 BX12_isAhead rfl rfl
theorem dX12_isAhead_17 : decode cX12_isAhead 17 = .ok (.iload_n 1, 1) := o_27 BX12_isAhead rfl rfl
theorem dX12_isAhead_18 : decode cX12_isAhead 18 = .ok (.iaload, 1) := o_46 BX12_isAhead rfl rfl
theorem dX12_isAhead_19 : decode cX12_isAhead 19 = .ok (.aload_n 0, 1) := o_42 BX12_isAhead rfl rfl
theorem dX12_isAhead_20 : decode cX12_isAhead 20 = .ok (.iload_n 2, 1) := o_28 BX12_isAhead rfl rfl
theorem dX12_isAhead_21 : decode cX12_isAhead 21 = .ok (.iaload, 1) := o_46 BX12_isAhead rfl rfl
theorem dX12_isAhead_22 : decode cX12_isAhead 22 = .ok (.if_icmp .le 7, 3) := o_164 BX12_isAhead rfl rfl rfl
theorem dX12_isAhead_25 : decode cX12_isAhead 25 = .ok (.iconst 1, 1) := o_4 BX12_isAhead rfl rfl
theorem dX12_isAhead_26 : decode cX12_isAhead 26 = .ok (.goto 4, 3) := o_167 BX12_isAhead rfl rfl rfl
theorem dX12_isAhead_29 : decode cX12_isAhead 29 = .ok (.iconst 0, 1) := o_3 BX12_isAhead rfl rfl
theorem dX12_isAhead_30 : decode cX12_isAhead 30 = .ok (.ireturn, 1) := o_172 BX12_isAhead rfl rfl
theorem dX12_isAhead_31 : decode cX12_isAhead 31 = .ok (.aload_n 0, 1) := o_42 BX12_isAhead rfl rfl
theorem dX12_isAhead_32 : decode cX12_isAhead 32 = .ok (.iload_n 2, 1) := o_28 BX12_isAhead rfl rfl
theorem dX12_isAhead_33 : decode cX12_isAhead 33 = .ok (.invokestatic 266, 3) := o_184 BX12_isAhead rfl rfl rfl
theorem dX12_isAhead_36 : decode cX12_isAhead 36 = .ok (.ifCond .ne 18, 3) := o_154 BX12_isAhead rfl rfl rfl
theorem dX12_isAhead_39 : decode cX12_isAhead 39 = .ok (.aload_n 0, 1) := o_42 BX12_isAhead rfl rfl
theorem dX12_isAhead_40 : decode cX12_isAhead 40 = .ok (.bipush 6, 2) := o_16 BX12_isAhead rfl rfl rfl
theorem dX12_isAhead_42 : decode cX12_isAhead 42 = .ok (.iload_n 1, 1) := o_27 BX12_isAhead rfl rfl
theorem dX12_isAhead_43 : decode cX12_isAhead 43 = .ok (.iadd, 1) := o_96 BX12_isAhead rfl rfl
theorem dX12_isAhead_44 : decode cX12_isAhead 44 = .ok (.iaload, 1) := o_46 BX12_isAhead rfl rfl
theorem dX12_isAhead_45 : decode cX12_isAhead 45 = .ok (.aload_n 0, 1) := o_42 BX12_isAhead rfl rfl
theorem dX12_isAhead_46 : decode cX12_isAhead 46 = .ok (.bipush 6, 2) := o_16 BX12_isAhead rfl rfl rfl
theorem dX12_isAhead_48 : decode cX12_isAhead 48 = .ok (.iload_n 2, 1) := o_28 BX12_isAhead rfl rfl
theorem dX12_isAhead_49 : decode cX12_isAhead 49 = .ok (.iadd, 1) := o_96 BX12_isAhead rfl rfl
theorem dX12_isAhead_50 : decode cX12_isAhead 50 = .ok (.iaload, 1) := o_46 BX12_isAhead rfl rfl
theorem dX12_isAhead_51 : decode cX12_isAhead 51 = .ok (.if_icmp .ge 7, 3) := o_162 BX12_isAhead rfl rfl rfl
theorem dX12_isAhead_54 : decode cX12_isAhead 54 = .ok (.iconst 1, 1) := o_4 BX12_isAhead rfl rfl
theorem dX12_isAhead_55 : decode cX12_isAhead 55 = .ok (.goto 4, 3) := o_167 BX12_isAhead rfl rfl rfl
theorem dX12_isAhead_58 : decode cX12_isAhead 58 = .ok (.iconst 0, 1) := o_3 BX12_isAhead rfl rfl
theorem dX12_isAhead_59 : decode cX12_isAhead 59 = .ok (.ireturn, 1) := o_172 BX12_isAhead rfl rfl
theorem dX12_passes_0 : decode cX12_passes 0 = .ok (.aload_n 0, 1) := o_42 BX12_passes rfl rfl
theorem dX12_passes_1 : decode cX12_passes 1 = .ok (.iconst 0, 1) := o_3 BX12_passes rfl rfl
theorem dX12_passes_2 : decode cX12_passes 2 = .ok (.putfield 112, 3) := o_181 BX12_passes rfl rfl rfl
theorem dX12_passes_5 : decode cX12_passes 5 = .ok (.aload_n 0, 1) := o_42 BX12_passes rfl rfl
theorem dX12_passes_6 : decode cX12_passes 6 = .ok (.iload_n 1, 1) := o_27 BX12_passes rfl rfl
theorem dX12_passes_7 : decode cX12_passes 7 = .ok (.invokevirtual 294, 3) := o_182 BX12_passes rfl rfl rfl
theorem dX12_passes_10 : decode cX12_passes 10 = .ok (.ifCond .eq 16, 3) := o_153 BX12_passes rfl rfl rfl
theorem dX12_passes_13 : decode cX12_passes 13 = .ok (.aload_n 0, 1) := o_42 BX12_passes rfl rfl
theorem dX12_passes_14 : decode cX12_passes 14 = .ok (.iload_n 2, 1) := o_28 BX12_passes rfl rfl
theorem dX12_passes_15 : decode cX12_passes 15 = .ok (.invokevirtual 294, 3) := o_182 BX12_passes rfl rfl rfl
theorem dX12_passes_18 : decode cX12_passes 18 = .ok (.ifCond .eq 8, 3) := o_153 BX12_passes rfl rfl rfl
theorem dX12_passes_21 : decode cX12_passes 21 = .ok (.iload_n 1, 1) := o_27 BX12_passes rfl rfl
theorem dX12_passes_22 : decode cX12_passes 22 = .ok (.iload_n 2, 1) := o_28 BX12_passes rfl rfl
theorem dX12_passes_23 : decode cX12_passes 23 = .ok (.if_icmp .ne 5, 3) := o_160 BX12_passes rfl rfl rfl
theorem dX12_passes_26 : decode cX12_passes 26 = .ok (.iconst (-1), 1) := o_2 BX12_passes rfl rfl
theorem dX12_passes_27 : decode cX12_passes 27 = .ok (.ireturn, 1) := o_172 BX12_passes rfl rfl
theorem dX12_passes_28 : decode cX12_passes 28 = .ok (.aload_n 0, 1) := o_42 BX12_passes rfl rfl
theorem dX12_passes_29 : decode cX12_passes 29 = .ok (.getfield 31, 3) := o_180 BX12_passes rfl rfl rfl
theorem dX12_passes_32 : decode cX12_passes 32 = .ok (.iload_n 1, 1) := o_27 BX12_passes rfl rfl
theorem dX12_passes_33 : decode cX12_passes 33 = .ok (.invokestatic 266, 3) := o_184 BX12_passes rfl rfl rfl
theorem dX12_passes_36 : decode cX12_passes 36 = .ok (.ifCond .eq 26, 3) := o_153 BX12_passes rfl rfl rfl
theorem dX12_passes_39 : decode cX12_passes 39 = .ok (.aload_n 0, 1) := o_42 BX12_passes rfl rfl
theorem dX12_passes_40 : decode cX12_passes 40 = .ok (.getfield 31, 3) := o_180 BX12_passes rfl rfl rfl
theorem dX12_passes_43 : decode cX12_passes 43 = .ok (.iload_n 2, 1) := o_28 BX12_passes rfl rfl
theorem dX12_passes_44 : decode cX12_passes 44 = .ok (.invokestatic 266, 3) := o_184 BX12_passes rfl rfl rfl
theorem dX12_passes_47 : decode cX12_passes 47 = .ok (.ifCond .eq 15, 3) := o_153 BX12_passes rfl rfl rfl
theorem dX12_passes_50 : decode cX12_passes 50 = .ok (.aload_n 0, 1) := o_42 BX12_passes rfl rfl
theorem dX12_passes_51 : decode cX12_passes 51 = .ok (.getfield 31, 3) := o_180 BX12_passes rfl rfl rfl
theorem dX12_passes_54 : decode cX12_passes 54 = .ok (.iload_n 1, 1) := o_27 BX12_passes rfl rfl
theorem dX12_passes_55 : decode cX12_passes 55 = .ok (.iload_n 2, 1) := o_28 BX12_passes rfl rfl
theorem dX12_passes_56 : decode cX12_passes 56 = .ok (.invokestatic 393, 3) := o_184 BX12_passes rfl rfl rfl
theorem dX12_passes_59 : decode cX12_passes 59 = .ok (.ifCond .eq 6, 3) := o_153 BX12_passes rfl rfl rfl
theorem dX12_passes_62 : decode cX12_passes 62 = .ok (.bipush (-2), 2) := o_16 BX12_passes rfl rfl rfl
theorem dX12_passes_64 : decode cX12_passes 64 = .ok (.ireturn, 1) := o_172 BX12_passes rfl rfl
theorem dX12_passes_65 : decode cX12_passes 65 = .ok (.aload_n 0, 1) := o_42 BX12_passes rfl rfl
theorem dX12_passes_66 : decode cX12_passes 66 = .ok (.invokevirtual 390, 3) := o_182 BX12_passes rfl rfl rfl
theorem dX12_passes_69 : decode cX12_passes 69 = .ok (.iconst 1, 1) := o_4 BX12_passes rfl rfl
theorem dX12_passes_70 : decode cX12_passes 70 = .ok (.istore_n 3, 1) := o_62 BX12_passes rfl rfl
theorem dX12_passes_71 : decode cX12_passes 71 = .ok (.iload_n 3, 1) := o_29 BX12_passes rfl rfl
theorem dX12_passes_72 : decode cX12_passes 72 = .ok (.bipush 60, 2) := o_16 BX12_passes rfl rfl rfl
theorem dX12_passes_74 : decode cX12_passes 74 = .ok (.if_icmp .gt 47, 3) := o_163 BX12_passes rfl rfl rfl
theorem dX12_passes_77 : decode cX12_passes 77 = .ok (.aload_n 0, 1) := o_42 BX12_passes rfl rfl
theorem dX12_passes_78 : decode cX12_passes 78 = .ok (.aload_n 0, 1) := o_42 BX12_passes rfl rfl
theorem dX12_passes_79 : decode cX12_passes 79 = .ok (.getfield 34, 3) := o_180 BX12_passes rfl rfl rfl
theorem dX12_passes_82 : decode cX12_passes 82 = .ok (.invokevirtual 343, 3) := o_182 BX12_passes rfl rfl rfl
theorem dX12_passes_85 : decode cX12_passes 85 = .ok (.aload_n 0, 1) := o_42 BX12_passes rfl rfl
theorem dX12_passes_86 : decode cX12_passes 86 = .ok (.getfield 34, 3) := o_180 BX12_passes rfl rfl rfl
theorem dX12_passes_89 : decode cX12_passes 89 = .ok (.iload_n 1, 1) := o_27 BX12_passes rfl rfl
theorem dX12_passes_90 : decode cX12_passes 90 = .ok (.iload_n 2, 1) := o_28 BX12_passes rfl rfl
theorem dX12_passes_91 : decode cX12_passes 91 = .ok (.invokestatic 393, 3) := o_184 BX12_passes rfl rfl rfl
theorem dX12_passes_94 : decode cX12_passes 94 = .ok (.ifCond .eq 21, 3) := o_153 BX12_passes rfl rfl rfl
theorem dX12_passes_97 : decode cX12_passes 97 = .ok (.aload_n 0, 1) := o_42 BX12_passes rfl rfl
theorem dX12_passes_98 : decode cX12_passes 98 = .ok (.iconst 0, 1) := o_3 BX12_passes rfl rfl
theorem dX12_passes_99 : decode cX12_passes 99 = .ok (.putfield 119, 3) := o_181 BX12_passes rfl rfl rfl
theorem dX12_passes_102 : decode cX12_passes 102 = .ok (.aload_n 0, 1) := o_42 BX12_passes rfl rfl
theorem dX12_passes_103 : decode cX12_passes 103 = .ok (.aload_n 0, 1) := o_42 BX12_passes rfl rfl
theorem dX12_passes_104 : decode cX12_passes 104 = .ok (.getfield 34, 3) := o_180 BX12_passes rfl rfl rfl
theorem dX12_passes_107 : decode cX12_passes 107 = .ok (.iload_n 1, 1) := o_27 BX12_passes rfl rfl
theorem dX12_passes_108 : decode cX12_passes 108 = .ok (.iaload, 1) := o_46 BX12_passes rfl rfl
theorem dX12_passes_109 : decode cX12_passes 109 = .ok (.i2l, 1) := o_133 BX12_passes rfl rfl
theorem dX12_passes_110 : decode cX12_passes 110 = .ok (.invokevirtual 358, 3) := o_182 BX12_passes rfl rfl rfl
theorem dX12_passes_113 : decode cX12_passes 113 = .ok (.iload_n 3, 1) := o_29 BX12_passes rfl rfl
theorem dX12_passes_114 : decode cX12_passes 114 = .ok (.ireturn, 1) := o_172 BX12_passes rfl rfl
theorem dX12_passes_115 : decode cX12_passes 115 = .ok (.iinc 3 1, 3) := o_132 BX12_passes rfl rfl rfl rfl
theorem dX12_passes_118 : decode cX12_passes 118 = .ok (.goto (-47), 3) := o_167 BX12_passes rfl rfl rfl
theorem dX12_passes_121 : decode cX12_passes 121 = .ok (.bipush (-2), 2) := o_16 BX12_passes rfl rfl rfl
theorem dX12_passes_123 : decode cX12_passes 123 = .ok (.ireturn, 1) := o_172 BX12_passes rfl rfl
theorem dX12_ends_0 : decode cX12_ends 0 = .ok (.aload_n 0, 1) := o_42 BX12_ends rfl rfl
theorem dX12_ends_1 : decode cX12_ends 1 = .ok (.iconst 0, 1) := o_3 BX12_ends rfl rfl
theorem dX12_ends_2 : decode cX12_ends 2 = .ok (.putfield 112, 3) := o_181 BX12_ends rfl rfl rfl
theorem dX12_ends_5 : decode cX12_ends 5 = .ok (.aload_n 0, 1) := o_42 BX12_ends rfl rfl
theorem dX12_ends_6 : decode cX12_ends 6 = .ok (.iload_n 1, 1) := o_27 BX12_ends rfl rfl
theorem dX12_ends_7 : decode cX12_ends 7 = .ok (.invokevirtual 308, 3) := o_182 BX12_ends rfl rfl rfl
theorem dX12_ends_10 : decode cX12_ends 10 = .ok (.ifCond .ne 5, 3) := o_154 BX12_ends rfl rfl rfl
theorem dX12_ends_13 : decode cX12_ends 13 = .ok (.iconst (-1), 1) := o_2 BX12_ends rfl rfl
theorem dX12_ends_14 : decode cX12_ends 14 = .ok (.ireturn, 1) := o_172 BX12_ends rfl rfl
theorem dX12_ends_15 : decode cX12_ends 15 = .ok (.aload_n 0, 1) := o_42 BX12_ends rfl rfl
theorem dX12_ends_16 : decode cX12_ends 16 = .ok (.invokevirtual 390, 3) := o_182 BX12_ends rfl rfl rfl
theorem dX12_ends_19 : decode cX12_ends 19 = .ok (.aload_n 0, 1) := o_42 BX12_ends rfl rfl
theorem dX12_ends_20 : decode cX12_ends 20 = .ok (.aload_n 0, 1) := o_42 BX12_ends rfl rfl
theorem dX12_ends_21 : decode cX12_ends 21 = .ok (.getfield 34, 3) := o_180 BX12_ends rfl rfl rfl
theorem dX12_ends_24 : decode cX12_ends 24 = .ok (.iconst 0, 1) := o_3 BX12_ends rfl rfl
theorem dX12_ends_25 : decode cX12_ends 25 = .ok (.invokevirtual 355, 3) := o_182 BX12_ends rfl rfl rfl
theorem dX12_ends_28 : decode cX12_ends 28 = .ok (.iconst 0, 1) := o_3 BX12_ends rfl rfl
theorem dX12_ends_29 : decode cX12_ends 29 = .ok (.istore_n 2, 1) := o_61 BX12_ends rfl rfl
theorem dX12_ends_30 : decode cX12_ends 30 = .ok (.iload_n 2, 1) := o_28 BX12_ends rfl rfl
theorem dX12_ends_31 : decode cX12_ends 31 = .ok (.sipush 200, 3) := o_17 BX12_ends rfl rfl rfl
theorem dX12_ends_34 : decode cX12_ends 34 = .ok (.if_icmp .gt 60, 3) := o_163 BX12_ends rfl rfl rfl
theorem dX12_ends_37 : decode cX12_ends 37 = .ok (.aload_n 0, 1) := o_42 BX12_ends rfl rfl
theorem dX12_ends_38 : decode cX12_ends 38 = .ok (.getfield 34, 3) := o_180 BX12_ends rfl rfl rfl
theorem dX12_ends_41 : decode cX12_ends 41 = .ok (.iload_n 1, 1) := o_27 BX12_ends rfl rfl
theorem dX12_ends_42 : decode cX12_ends 42 = .ok (.invokestatic 132, 3) := o_184 BX12_ends rfl rfl rfl
theorem dX12_ends_45 : decode cX12_ends 45 = .ok (.ifCond .eq 35, 3) := o_153 BX12_ends rfl rfl rfl
theorem dX12_ends_48 : decode cX12_ends 48 = .ok (.aload_n 0, 1) := o_42 BX12_ends rfl rfl
theorem dX12_ends_49 : decode cX12_ends 49 = .ok (.iconst 0, 1) := o_3 BX12_ends rfl rfl
theorem dX12_ends_50 : decode cX12_ends 50 = .ok (.putfield 119, 3) := o_181 BX12_ends rfl rfl rfl
theorem dX12_ends_53 : decode cX12_ends 53 = .ok (.aload_n 0, 1) := o_42 BX12_ends rfl rfl
theorem dX12_ends_54 : decode cX12_ends 54 = .ok (.iload_n 2, 1) := o_28 BX12_ends rfl rfl
theorem dX12_ends_55 : decode cX12_ends 55 = .ok (.i2l, 1) := o_133 BX12_ends rfl rfl
theorem dX12_ends_56 : decode cX12_ends 56 = .ok (.invokevirtual 358, 3) := o_182 BX12_ends rfl rfl rfl
theorem dX12_ends_59 : decode cX12_ends 59 = .ok (.aload_n 0, 1) := o_42 BX12_ends rfl rfl
theorem dX12_ends_60 : decode cX12_ends 60 = .ok (.aload_n 0, 1) := o_42 BX12_ends rfl rfl
theorem dX12_ends_61 : decode cX12_ends 61 = .ok (.getfield 67, 3) := o_180 BX12_ends rfl rfl rfl
theorem dX12_ends_64 : decode cX12_ends 64 = .ok (.iload_n 1, 1) := o_27 BX12_ends rfl rfl
theorem dX12_ends_65 : decode cX12_ends 65 = .ok (.iaload, 1) := o_46 BX12_ends rfl rfl
theorem dX12_ends_66 : decode cX12_ends 66 = .ok (.i2l, 1) := o_133 BX12_ends rfl rfl
theorem dX12_ends_67 : decode cX12_ends 67 = .ok (.invokevirtual 358, 3) := o_182 BX12_ends rfl rfl rfl
theorem dX12_ends_70 : decode cX12_ends 70 = .ok (.aload_n 0, 1) := o_42 BX12_ends rfl rfl
theorem dX12_ends_71 : decode cX12_ends 71 = .ok (.getfield 34, 3) := o_180 BX12_ends rfl rfl rfl
theorem dX12_ends_74 : decode cX12_ends 74 = .ok (.bipush 29, 2) := o_16 BX12_ends rfl rfl rfl
theorem dX12_ends_76 : decode cX12_ends 76 = .ok (.iload_n 1, 1) := o_27 BX12_ends rfl rfl
theorem dX12_ends_77 : decode cX12_ends 77 = .ok (.iadd, 1) := o_96 BX12_ends rfl rfl
theorem dX12_ends_78 : decode cX12_ends 78 = .ok (.iaload, 1) := o_46 BX12_ends rfl rfl
theorem dX12_ends_79 : decode cX12_ends 79 = .ok (.ireturn, 1) := o_172 BX12_ends rfl rfl
theorem dX12_ends_80 : decode cX12_ends 80 = .ok (.aload_n 0, 1) := o_42 BX12_ends rfl rfl
theorem dX12_ends_81 : decode cX12_ends 81 = .ok (.aload_n 0, 1) := o_42 BX12_ends rfl rfl
theorem dX12_ends_82 : decode cX12_ends 82 = .ok (.getfield 34, 3) := o_180 BX12_ends rfl rfl rfl
theorem dX12_ends_85 : decode cX12_ends 85 = .ok (.invokevirtual 343, 3) := o_182 BX12_ends rfl rfl rfl
theorem dX12_ends_88 : decode cX12_ends 88 = .ok (.iinc 2 1, 3) := o_132 BX12_ends rfl rfl rfl rfl
theorem dX12_ends_91 : decode cX12_ends 91 = .ok (.goto (-61), 3) := o_167 BX12_ends rfl rfl rfl
theorem dX12_ends_94 : decode cX12_ends 94 = .ok (.bipush (-2), 2) := o_16 BX12_ends rfl rfl rfl
theorem dX12_ends_96 : decode cX12_ends 96 = .ok (.ireturn, 1) := o_172 BX12_ends rfl rfl
theorem dX12_rightThen_0 : decode cX12_rightThen 0 = .ok (.iconst 1, 1) := o_4 BX12_rightThen rfl rfl
theorem dX12_rightThen_1 : decode cX12_rightThen 1 = .ok (.istore_n 1, 1) := o_60 BX12_rightThen rfl rfl
theorem dX12_rightThen_2 : decode cX12_rightThen 2 = .ok (.iconst 0, 1) := o_3 BX12_rightThen rfl rfl
theorem dX12_rightThen_3 : decode cX12_rightThen 3 = .ok (.istore_n 2, 1) := o_61 BX12_rightThen rfl rfl
theorem dX12_rightThen_4 : decode cX12_rightThen 4 = .ok (.iload_n 2, 1) := o_28 BX12_rightThen rfl rfl
theorem dX12_rightThen_5 : decode cX12_rightThen 5 = .ok (.sipush 200, 3) := o_17 BX12_rightThen rfl rfl rfl
theorem dX12_rightThen_8 : decode cX12_rightThen 8 = .ok (.if_icmp .ge 42, 3) := o_162 BX12_rightThen rfl rfl rfl
theorem dX12_rightThen_11 : decode cX12_rightThen 11 = .ok (.iload_n 1, 1) := o_27 BX12_rightThen rfl rfl
theorem dX12_rightThen_12 : decode cX12_rightThen 12 = .ok (.ifCond .eq 38, 3) := o_153 BX12_rightThen rfl rfl rfl
theorem dX12_rightThen_15 : decode cX12_rightThen 15 = .ok (.aload_n 0, 1) := o_42 BX12_rightThen rfl rfl
theorem dX12_rightThen_16 : decode cX12_rightThen 16 = .ok (.aload_n 0, 1) := o_42 BX12_rightThen rfl rfl
theorem dX12_rightThen_17 : decode cX12_rightThen 17 = .ok (.getfield 34, 3) := o_180 BX12_rightThen rfl rfl rfl
theorem dX12_rightThen_20 : decode cX12_rightThen 20 = .ok (.invokevirtual 333, 3) := o_182 BX12_rightThen rfl rfl rfl
theorem dX12_rightThen_23 : decode cX12_rightThen 23 = .ok (.aload_n 0, 1) := o_42 BX12_rightThen rfl rfl
theorem dX12_rightThen_24 : decode cX12_rightThen 24 = .ok (.getfield 321, 3) := o_180 BX12_rightThen rfl rfl rfl
theorem dX12_rightThen_27 : decode cX12_rightThen 27 = .ok (.ifCond .le 7, 3) := o_158 BX12_rightThen rfl rfl rfl
theorem dX12_rightThen_30 : decode cX12_rightThen 30 = .ok (.iconst 1, 1) := o_4 BX12_rightThen rfl rfl
theorem dX12_rightThen_31 : decode cX12_rightThen 31 = .ok (.goto 4, 3) := o_167 BX12_rightThen rfl rfl rfl
theorem dX12_rightThen_34 : decode cX12_rightThen 34 = .ok (.iconst 0, 1) := o_3 BX12_rightThen rfl rfl
theorem dX12_rightThen_35 : decode cX12_rightThen 35 = .ok (.istore_n 1, 1) := o_60 BX12_rightThen rfl rfl
theorem dX12_rightThen_36 : decode cX12_rightThen 36 = .ok (.aload_n 0, 1) := o_42 BX12_rightThen rfl rfl
theorem dX12_rightThen_37 : decode cX12_rightThen 37 = .ok (.aload_n 0, 1) := o_42 BX12_rightThen rfl rfl
theorem dX12_rightThen_38 : decode cX12_rightThen 38 = .ok (.getfield 34, 3) := o_180 BX12_rightThen rfl rfl rfl
theorem dX12_rightThen_41 : decode cX12_rightThen 41 = .ok (.invokevirtual 343, 3) := o_182 BX12_rightThen rfl rfl rfl
theorem dX12_rightThen_44 : decode cX12_rightThen 44 = .ok (.iinc 2 1, 3) := o_132 BX12_rightThen rfl rfl rfl rfl
theorem dX12_rightThen_47 : decode cX12_rightThen 47 = .ok (.goto (-43), 3) := o_167 BX12_rightThen rfl rfl rfl
theorem dX12_rightThen_50 : decode cX12_rightThen 50 = .ok (.aload_n 0, 1) := o_42 BX12_rightThen rfl rfl
theorem dX12_rightThen_51 : decode cX12_rightThen 51 = .ok (.aload_n 0, 1) := o_42 BX12_rightThen rfl rfl
theorem dX12_rightThen_52 : decode cX12_rightThen 52 = .ok (.getfield 34, 3) := o_180 BX12_rightThen rfl rfl rfl
theorem dX12_rightThen_55 : decode cX12_rightThen 55 = .ok (.iconst 1, 1) := o_4 BX12_rightThen rfl rfl
theorem dX12_rightThen_56 : decode cX12_rightThen 56 = .ok (.invokevirtual 397, 3) := o_182 BX12_rightThen rfl rfl rfl
theorem dX12_rightThen_59 : decode cX12_rightThen 59 = .ok (.ireturn, 1) := o_172 BX12_rightThen rfl rfl
theorem dX12_right_0 : decode cX12_right 0 = .ok (.aload_n 0, 1) := o_42 BX12_right rfl rfl
theorem dX12_right_1 : decode cX12_right 1 = .ok (.iconst 0, 1) := o_3 BX12_right rfl rfl
theorem dX12_right_2 : decode cX12_right 2 = .ok (.putfield 112, 3) := o_181 BX12_right rfl rfl rfl
theorem dX12_right_5 : decode cX12_right 5 = .ok (.aload_n 0, 1) := o_42 BX12_right rfl rfl
theorem dX12_right_6 : decode cX12_right 6 = .ok (.invokevirtual 390, 3) := o_182 BX12_right rfl rfl rfl
theorem dX12_right_9 : decode cX12_right 9 = .ok (.aload_n 0, 1) := o_42 BX12_right rfl rfl
theorem dX12_right_10 : decode cX12_right 10 = .ok (.invokevirtual 401, 3) := o_182 BX12_right rfl rfl rfl
theorem dX12_right_13 : decode cX12_right 13 = .ok (.istore_n 1, 1) := o_60 BX12_right rfl rfl
theorem dX12_right_14 : decode cX12_right 14 = .ok (.aload_n 0, 1) := o_42 BX12_right rfl rfl
theorem dX12_right_15 : decode cX12_right 15 = .ok (.iconst 0, 1) := o_3 BX12_right rfl rfl
theorem dX12_right_16 : decode cX12_right 16 = .ok (.putfield 119, 3) := o_181 BX12_right rfl rfl rfl
theorem dX12_right_19 : decode cX12_right 19 = .ok (.aload_n 0, 1) := o_42 BX12_right rfl rfl
theorem dX12_right_20 : decode cX12_right 20 = .ok (.iload_n 1, 1) := o_27 BX12_right rfl rfl
theorem dX12_right_21 : decode cX12_right 21 = .ok (.i2l, 1) := o_133 BX12_right rfl rfl
theorem dX12_right_22 : decode cX12_right 22 = .ok (.invokevirtual 358, 3) := o_182 BX12_right rfl rfl rfl
theorem dX12_right_25 : decode cX12_right 25 = .ok (.aload_n 0, 1) := o_42 BX12_right rfl rfl
theorem dX12_right_26 : decode cX12_right 26 = .ok (.aload_n 0, 1) := o_42 BX12_right rfl rfl
theorem dX12_right_27 : decode cX12_right 27 = .ok (.aload_n 0, 1) := o_42 BX12_right rfl rfl
theorem dX12_right_28 : decode cX12_right 28 = .ok (.getfield 34, 3) := o_180 BX12_right rfl rfl rfl
theorem dX12_right_31 : decode cX12_right 31 = .ok (.iconst 0, 1) := o_3 BX12_right rfl rfl
theorem dX12_right_32 : decode cX12_right 32 = .ok (.invokevirtual 397, 3) := o_182 BX12_right rfl rfl rfl
theorem dX12_right_35 : decode cX12_right 35 = .ok (.i2l, 1) := o_133 BX12_right rfl rfl
theorem dX12_right_36 : decode cX12_right 36 = .ok (.invokevirtual 358, 3) := o_182 BX12_right rfl rfl rfl
theorem dX12_right_39 : decode cX12_right 39 = .ok (.iload_n 1, 1) := o_27 BX12_right rfl rfl
theorem dX12_right_40 : decode cX12_right 40 = .ok (.invokestatic 279, 3) := o_184 BX12_right rfl rfl rfl
theorem dX12_right_43 : decode cX12_right 43 = .ok (.ireturn, 1) := o_172 BX12_right rfl rfl
theorem dX12_places_0 : decode cX12_places 0 = .ok (.iload_n 1, 1) := o_27 BX12_places rfl rfl
theorem dX12_places_1 : decode cX12_places 1 = .ok (.aload_n 0, 1) := o_42 BX12_places rfl rfl
theorem dX12_places_2 : decode cX12_places 2 = .ok (.getfield 122, 3) := o_180 BX12_places rfl rfl rfl
theorem dX12_places_5 : decode cX12_places 5 = .ok (.if_icmp .ne 89, 3) := o_160 BX12_places rfl rfl rfl
theorem dX12_places_8 : decode cX12_places 8 = .ok (.aload_n 0, 1) := o_42 BX12_places rfl rfl
theorem dX12_places_9 : decode cX12_places 9 = .ok (.invokevirtual 390, 3) := o_182 BX12_places rfl rfl rfl
theorem dX12_places_12 : decode cX12_places 12 = .ok (.iconst 0, 1) := o_3 BX12_places rfl rfl
theorem dX12_places_13 : decode cX12_places 13 = .ok (.istore_n 3, 1) := o_62 BX12_places rfl rfl
theorem dX12_places_14 : decode cX12_places 14 = .ok (.iload_n 3, 1) := o_29 BX12_places rfl rfl
theorem dX12_places_15 : decode cX12_places 15 = .ok (.aload_n 0, 1) := o_42 BX12_places rfl rfl
theorem dX12_places_16 : decode cX12_places 16 = .ok (.getfield 122, 3) := o_180 BX12_places rfl rfl rfl
theorem dX12_places_19 : decode cX12_places 19 = .ok (.if_icmp .ge 21, 3) := o_162 BX12_places rfl rfl rfl
theorem dX12_places_22 : decode cX12_places 22 = .ok (.aload_n 0, 1) := o_42 BX12_places rfl rfl
theorem dX12_places_23 : decode cX12_places 23 = .ok (.getfield 34, 3) := o_180 BX12_places rfl rfl rfl
theorem dX12_places_26 : decode cX12_places 26 = .ok (.iload_n 3, 1) := o_29 BX12_places rfl rfl
theorem dX12_places_27 : decode cX12_places 27 = .ok (.aload_n 0, 1) := o_42 BX12_places rfl rfl
theorem dX12_places_28 : decode cX12_places 28 = .ok (.getfield 82, 3) := o_180 BX12_places rfl rfl rfl
theorem dX12_places_31 : decode cX12_places 31 = .ok (.iload_n 3, 1) := o_29 BX12_places rfl rfl
theorem dX12_places_32 : decode cX12_places 32 = .ok (.iaload, 1) := o_46 BX12_places rfl rfl
theorem dX12_places_33 : decode cX12_places 33 = .ok (.iastore, 1) := o_79 BX12_places rfl rfl
theorem dX12_places_34 : decode cX12_places 34 = .ok (.iinc 3 1, 3) := o_132 BX12_places rfl rfl rfl rfl
theorem dX12_places_37 : decode cX12_places 37 = .ok (.goto (-23), 3) := o_167 BX12_places rfl rfl rfl
theorem dX12_places_40 : decode cX12_places 40 = .ok (.aload_n 0, 1) := o_42 BX12_places rfl rfl
theorem dX12_places_41 : decode cX12_places 41 = .ok (.invokevirtual 401, 3) := o_182 BX12_places rfl rfl rfl
theorem dX12_places_44 : decode cX12_places 44 = .ok (.invokestatic 279, 3) := o_184 BX12_places rfl rfl rfl
theorem dX12_places_47 : decode cX12_places 47 = .ok (.istore_n 3, 1) := o_62 BX12_places rfl rfl
theorem dX12_places_48 : decode cX12_places 48 = .ok (.iload_n 3, 1) := o_29 BX12_places rfl rfl
theorem dX12_places_49 : decode cX12_places 49 = .ok (.aload_n 0, 1) := o_42 BX12_places rfl rfl
theorem dX12_places_50 : decode cX12_places 50 = .ok (.getfield 404, 3) := o_180 BX12_places rfl rfl rfl
theorem dX12_places_53 : decode cX12_places 53 = .ok (.if_icmp .le 40, 3) := o_164 BX12_places rfl rfl rfl
theorem dX12_places_56 : decode cX12_places 56 = .ok (.aload_n 0, 1) := o_42 BX12_places rfl rfl
theorem dX12_places_57 : decode cX12_places 57 = .ok (.iload_n 3, 1) := o_29 BX12_places rfl rfl
theorem dX12_places_58 : decode cX12_places 58 = .ok (.putfield 404, 3) := o_181 BX12_places rfl rfl rfl
theorem dX12_places_61 : decode cX12_places 61 = .ok (.iconst 0, 1) := o_3 BX12_places rfl rfl
theorem dX12_places_62 : decode cX12_places 62 = .ok (.istore 4, 2) := o_54 BX12_places rfl rfl rfl
theorem dX12_places_64 : decode cX12_places 64 = .ok (.iload 4, 2) := o_21 BX12_places rfl rfl rfl
theorem dX12_places_66 : decode cX12_places 66 = .ok (.aload_n 0, 1) := o_42 BX12_places rfl rfl
theorem dX12_places_67 : decode cX12_places 67 = .ok (.getfield 122, 3) := o_180 BX12_places rfl rfl rfl
theorem dX12_places_70 : decode cX12_places 70 = .ok (.if_icmp .ge 23, 3) := o_162 BX12_places rfl rfl rfl
theorem dX12_places_73 : decode cX12_places 73 = .ok (.aload_n 0, 1) := o_42 BX12_places rfl rfl
theorem dX12_places_74 : decode cX12_places 74 = .ok (.getfield 85, 3) := o_180 BX12_places rfl rfl rfl
theorem dX12_places_77 : decode cX12_places 77 = .ok (.iload 4, 2) := o_21 BX12_places rfl rfl rfl
theorem dX12_places_79 : decode cX12_places 79 = .ok (.aload_n 0, 1) := o_42 BX12_places rfl rfl
theorem dX12_places_80 : decode cX12_places 80 = .ok (.getfield 82, 3) := o_180 BX12_places rfl rfl rfl
theorem dX12_places_83 : decode cX12_places 83 = .ok (.iload 4, 2) := o_21 BX12_places rfl rfl rfl
theorem dX12_places_85 : decode cX12_places 85 = .ok (.iaload, 1) := o_46 BX12_places rfl rfl
theorem dX12_places_86 : decode cX12_places 86 = .ok (.iastore, 1) := o_79 BX12_places rfl rfl
theorem dX12_places_87 : decode cX12_places 87 = .ok (.iinc 4 1, 3) := o_132 BX12_places rfl rfl rfl rfl
theorem dX12_places_90 : decode cX12_places 90 = .ok (.goto (-26), 3) := o_167 BX12_places rfl rfl rfl
theorem dX12_places_93 : decode cX12_places 93 = .ok (.return_, 1) := o_177 BX12_places rfl rfl
theorem dX12_places_94 : decode cX12_places 94 = .ok (.aload_n 0, 1) := o_42 BX12_places rfl rfl
theorem dX12_places_95 : decode cX12_places 95 = .ok (.getfield 82, 3) := o_180 BX12_places rfl rfl rfl
theorem dX12_places_98 : decode cX12_places 98 = .ok (.iload_n 1, 1) := o_27 BX12_places rfl rfl
theorem dX12_places_99 : decode cX12_places 99 = .ok (.iconst (-1), 1) := o_2 BX12_places rfl rfl
theorem dX12_places_100 : decode cX12_places 100 = .ok (.iastore, 1) := o_79 BX12_places rfl rfl
theorem dX12_places_101 : decode cX12_places 101 = .ok (.aload_n 0, 1) := o_42 BX12_places rfl rfl
theorem dX12_places_102 : decode cX12_places 102 = .ok (.getfield 31, 3) := o_180 BX12_places rfl rfl rfl
theorem dX12_places_105 : decode cX12_places 105 = .ok (.iload_n 1, 1) := o_27 BX12_places rfl rfl
theorem dX12_places_106 : decode cX12_places 106 = .ok (.invokestatic 266, 3) := o_184 BX12_places rfl rfl rfl
theorem dX12_places_109 : decode cX12_places 109 = .ok (.ifCond .ne 12, 3) := o_154 BX12_places rfl rfl rfl
theorem dX12_places_112 : decode cX12_places 112 = .ok (.aload_n 0, 1) := o_42 BX12_places rfl rfl
theorem dX12_places_113 : decode cX12_places 113 = .ok (.iload_n 1, 1) := o_27 BX12_places rfl rfl
theorem dX12_places_114 : decode cX12_places 114 = .ok (.iconst 1, 1) := o_4 BX12_places rfl rfl
theorem dX12_places_115 : decode cX12_places 115 = .ok (.iadd, 1) := o_96 BX12_places rfl rfl
theorem dX12_places_116 : decode cX12_places 116 = .ok (.iload_n 2, 1) := o_28 BX12_places rfl rfl
theorem dX12_places_117 : decode cX12_places 117 = .ok (.invokevirtual 407, 3) := o_182 BX12_places rfl rfl rfl
theorem dX12_places_120 : decode cX12_places 120 = .ok (.return_, 1) := o_177 BX12_places rfl rfl
theorem dX12_places_121 : decode cX12_places 121 = .ok (.iconst 0, 1) := o_3 BX12_places rfl rfl
theorem dX12_places_122 : decode cX12_places 122 = .ok (.istore_n 3, 1) := o_62 BX12_places rfl rfl
theorem dX12_places_123 : decode cX12_places 123 = .ok (.iload_n 3, 1) := o_29 BX12_places rfl rfl
theorem dX12_places_124 : decode cX12_places 124 = .ok (.aload_n 0, 1) := o_42 BX12_places rfl rfl
theorem dX12_places_125 : decode cX12_places 125 = .ok (.invokevirtual 192, 3) := o_182 BX12_places rfl rfl rfl
theorem dX12_places_128 : decode cX12_places 128 = .ok (.if_icmp .ge 54, 3) := o_162 BX12_places rfl rfl rfl
theorem dX12_places_131 : decode cX12_places 131 = .ok (.aload_n 0, 1) := o_42 BX12_places rfl rfl
theorem dX12_places_132 : decode cX12_places 132 = .ok (.aload_n 0, 1) := o_42 BX12_places rfl rfl
theorem dX12_places_133 : decode cX12_places 133 = .ok (.getfield 31, 3) := o_180 BX12_places rfl rfl rfl
theorem dX12_places_136 : decode cX12_places 136 = .ok (.iload_n 3, 1) := o_29 BX12_places rfl rfl
theorem dX12_places_137 : decode cX12_places 137 = .ok (.invokevirtual 195, 3) := o_182 BX12_places rfl rfl rfl
theorem dX12_places_140 : decode cX12_places 140 = .ok (.istore 4, 2) := o_54 BX12_places rfl rfl rfl
theorem dX12_places_142 : decode cX12_places 142 = .ok (.iload 4, 2) := o_21 BX12_places rfl rfl rfl
theorem dX12_places_144 : decode cX12_places 144 = .ok (.ifCond .lt 32, 3) := o_155 BX12_places rfl rfl rfl
theorem dX12_places_147 : decode cX12_places 147 = .ok (.iload_n 2, 1) := o_28 BX12_places rfl rfl
theorem dX12_places_148 : decode cX12_places 148 = .ok (.iload 4, 2) := o_21 BX12_places rfl rfl rfl
theorem dX12_places_150 : decode cX12_places 150 = .ok (.invokestatic 411, 3) := o_184 BX12_places rfl rfl rfl
theorem dX12_places_153 : decode cX12_places 153 = .ok (.ifCond .ne 23, 3) := o_154 BX12_places rfl rfl rfl
theorem dX12_places_156 : decode cX12_places 156 = .ok (.aload_n 0, 1) := o_42 BX12_places rfl rfl
theorem dX12_places_157 : decode cX12_places 157 = .ok (.getfield 82, 3) := o_180 BX12_places rfl rfl rfl
theorem dX12_places_160 : decode cX12_places 160 = .ok (.iload_n 1, 1) := o_27 BX12_places rfl rfl
theorem dX12_places_161 : decode cX12_places 161 = .ok (.iload_n 3, 1) := o_29 BX12_places rfl rfl
theorem dX12_places_162 : decode cX12_places 162 = .ok (.iastore, 1) := o_79 BX12_places rfl rfl
theorem dX12_places_163 : decode cX12_places 163 = .ok (.aload_n 0, 1) := o_42 BX12_places rfl rfl
theorem dX12_places_164 : decode cX12_places 164 = .ok (.iload_n 1, 1) := o_27 BX12_places rfl rfl
theorem dX12_places_165 : decode cX12_places 165 = .ok (.iconst 1, 1) := o_4 BX12_places rfl rfl
theorem dX12_places_166 : decode cX12_places 166 = .ok (.iadd, 1) := o_96 BX12_places rfl rfl
theorem dX12_places_167 : decode cX12_places 167 = .ok (.iload_n 2, 1) := o_28 BX12_places rfl rfl
theorem dX12_places_168 : decode cX12_places 168 = .ok (.iconst 1, 1) := o_4 BX12_places rfl rfl
theorem dX12_places_169 : decode cX12_places 169 = .ok (.iload 4, 2) := o_21 BX12_places rfl rfl rfl
theorem dX12_places_171 : decode cX12_places 171 = .ok (.ishl, 1) := o_120 BX12_places rfl rfl
theorem dX12_places_172 : decode cX12_places 172 = .ok (.ior, 1) := o_128 BX12_places rfl rfl
theorem dX12_places_173 : decode cX12_places 173 = .ok (.invokevirtual 407, 3) := o_182 BX12_places rfl rfl rfl
theorem dX12_places_176 : decode cX12_places 176 = .ok (.iinc 3 1, 3) := o_132 BX12_places rfl rfl rfl rfl
theorem dX12_places_179 : decode cX12_places 179 = .ok (.goto (-56), 3) := o_167 BX12_places rfl rfl rfl
theorem dX12_places_182 : decode cX12_places 182 = .ok (.return_, 1) := o_177 BX12_places rfl rfl
theorem dX12_order_0 : decode cX12_order 0 = .ok (.aload_n 0, 1) := o_42 BX12_order rfl rfl
theorem dX12_order_1 : decode cX12_order 1 = .ok (.iconst 0, 1) := o_3 BX12_order rfl rfl
theorem dX12_order_2 : decode cX12_order 2 = .ok (.putfield 112, 3) := o_181 BX12_order rfl rfl rfl
theorem dX12_order_5 : decode cX12_order 5 = .ok (.aload_n 0, 1) := o_42 BX12_order rfl rfl
theorem dX12_order_6 : decode cX12_order 6 = .ok (.iconst (-1), 1) := o_2 BX12_order rfl rfl
theorem dX12_order_7 : decode cX12_order 7 = .ok (.putfield 404, 3) := o_181 BX12_order rfl rfl rfl
theorem dX12_order_10 : decode cX12_order 10 = .ok (.aload_n 0, 1) := o_42 BX12_order rfl rfl
theorem dX12_order_11 : decode cX12_order 11 = .ok (.iconst 0, 1) := o_3 BX12_order rfl rfl
theorem dX12_order_12 : decode cX12_order 12 = .ok (.iconst 0, 1) := o_3 BX12_order rfl rfl
theorem dX12_order_13 : decode cX12_order 13 = .ok (.invokevirtual 407, 3) := o_182 BX12_order rfl rfl rfl
theorem dX12_order_16 : decode cX12_order 16 = .ok (.aload_n 0, 1) := o_42 BX12_order rfl rfl
theorem dX12_order_17 : decode cX12_order 17 = .ok (.iconst 0, 1) := o_3 BX12_order rfl rfl
theorem dX12_order_18 : decode cX12_order 18 = .ok (.putfield 119, 3) := o_181 BX12_order rfl rfl rfl
theorem dX12_order_21 : decode cX12_order 21 = .ok (.iconst 0, 1) := o_3 BX12_order rfl rfl
theorem dX12_order_22 : decode cX12_order 22 = .ok (.istore_n 1, 1) := o_60 BX12_order rfl rfl
theorem dX12_order_23 : decode cX12_order 23 = .ok (.iload_n 1, 1) := o_27 BX12_order rfl rfl
theorem dX12_order_24 : decode cX12_order 24 = .ok (.aload_n 0, 1) := o_42 BX12_order rfl rfl
theorem dX12_order_25 : decode cX12_order 25 = .ok (.getfield 122, 3) := o_180 BX12_order rfl rfl rfl
theorem dX12_order_28 : decode cX12_order 28 = .ok (.if_icmp .ge 31, 3) := o_162 BX12_order rfl rfl rfl
theorem dX12_order_31 : decode cX12_order 31 = .ok (.aload_n 0, 1) := o_42 BX12_order rfl rfl
theorem dX12_order_32 : decode cX12_order 32 = .ok (.getfield 31, 3) := o_180 BX12_order rfl rfl rfl
theorem dX12_order_35 : decode cX12_order 35 = .ok (.iload_n 1, 1) := o_27 BX12_order rfl rfl
theorem dX12_order_36 : decode cX12_order 36 = .ok (.invokestatic 266, 3) := o_184 BX12_order rfl rfl rfl
theorem dX12_order_39 : decode cX12_order 39 = .ok (.ifCond .eq 14, 3) := o_153 BX12_order rfl rfl rfl
theorem dX12_order_42 : decode cX12_order 42 = .ok (.aload_n 0, 1) := o_42 BX12_order rfl rfl
theorem dX12_order_43 : decode cX12_order 43 = .ok (.aload_n 0, 1) := o_42 BX12_order rfl rfl
theorem dX12_order_44 : decode cX12_order 44 = .ok (.getfield 85, 3) := o_180 BX12_order rfl rfl rfl
theorem dX12_order_47 : decode cX12_order 47 = .ok (.iload_n 1, 1) := o_27 BX12_order rfl rfl
theorem dX12_order_48 : decode cX12_order 48 = .ok (.iaload, 1) := o_46 BX12_order rfl rfl
theorem dX12_order_49 : decode cX12_order 49 = .ok (.i2l, 1) := o_133 BX12_order rfl rfl
theorem dX12_order_50 : decode cX12_order 50 = .ok (.invokevirtual 358, 3) := o_182 BX12_order rfl rfl rfl
theorem dX12_order_53 : decode cX12_order 53 = .ok (.iinc 1 1, 3) := o_132 BX12_order rfl rfl rfl rfl
theorem dX12_order_56 : decode cX12_order 56 = .ok (.goto (-33), 3) := o_167 BX12_order rfl rfl rfl
theorem dX12_order_59 : decode cX12_order 59 = .ok (.aload_n 0, 1) := o_42 BX12_order rfl rfl
theorem dX12_order_60 : decode cX12_order 60 = .ok (.getfield 404, 3) := o_180 BX12_order rfl rfl rfl
theorem dX12_order_63 : decode cX12_order 63 = .ok (.ireturn, 1) := o_172 BX12_order rfl rfl
theorem dX12_stands_0 : decode cX12_stands 0 = .ok (.aload_n 0, 1) := o_42 BX12_stands rfl rfl
theorem dX12_stands_1 : decode cX12_stands 1 = .ok (.iconst 0, 1) := o_3 BX12_stands rfl rfl
theorem dX12_stands_2 : decode cX12_stands 2 = .ok (.putfield 112, 3) := o_181 BX12_stands rfl rfl rfl
theorem dX12_stands_5 : decode cX12_stands 5 = .ok (.aload_n 0, 1) := o_42 BX12_stands rfl rfl
theorem dX12_stands_6 : decode cX12_stands 6 = .ok (.iload_n 1, 1) := o_27 BX12_stands rfl rfl
theorem dX12_stands_7 : decode cX12_stands 7 = .ok (.invokevirtual 308, 3) := o_182 BX12_stands rfl rfl rfl
theorem dX12_stands_10 : decode cX12_stands 10 = .ok (.ifCond .ne 5, 3) := o_154 BX12_stands rfl rfl rfl
theorem dX12_stands_13 : decode cX12_stands 13 = .ok (.iconst (-1), 1) := o_2 BX12_stands rfl rfl
theorem dX12_stands_14 : decode cX12_stands 14 = .ok (.ireturn, 1) := o_172 BX12_stands rfl rfl
theorem dX12_stands_15 : decode cX12_stands 15 = .ok (.aload_n 0, 1) := o_42 BX12_stands rfl rfl
theorem dX12_stands_16 : decode cX12_stands 16 = .ok (.getfield 31, 3) := o_180 BX12_stands rfl rfl rfl
theorem dX12_stands_19 : decode cX12_stands 19 = .ok (.iload_n 1, 1) := o_27 BX12_stands rfl rfl
theorem dX12_stands_20 : decode cX12_stands 20 = .ok (.invokestatic 132, 3) := o_184 BX12_stands rfl rfl rfl
theorem dX12_stands_23 : decode cX12_stands 23 = .ok (.ifCond .eq 6, 3) := o_153 BX12_stands rfl rfl rfl
theorem dX12_stands_26 : decode cX12_stands 26 = .ok (.bipush (-2), 2) := o_16 BX12_stands rfl rfl rfl
theorem dX12_stands_28 : decode cX12_stands 28 = .ok (.ireturn, 1) := o_172 BX12_stands rfl rfl
theorem dX12_stands_29 : decode cX12_stands 29 = .ok (.bipush (-2), 2) := o_16 BX12_stands rfl rfl rfl
theorem dX12_stands_31 : decode cX12_stands 31 = .ok (.istore_n 2, 1) := o_61 BX12_stands rfl rfl
theorem dX12_stands_32 : decode cX12_stands 32 = .ok (.iconst 0, 1) := o_3 BX12_stands rfl rfl
theorem dX12_stands_33 : decode cX12_stands 33 = .ok (.istore_n 3, 1) := o_62 BX12_stands rfl rfl
theorem dX12_stands_34 : decode cX12_stands 34 = .ok (.aload_n 0, 1) := o_42 BX12_stands rfl rfl
theorem dX12_stands_35 : decode cX12_stands 35 = .ok (.invokevirtual 192, 3) := o_182 BX12_stands rfl rfl rfl
theorem dX12_stands_38 : decode cX12_stands 38 = .ok (.iconst 1, 1) := o_4 BX12_stands rfl rfl
theorem dX12_stands_39 : decode cX12_stands 39 = .ok (.isub, 1) := o_100 BX12_stands rfl rfl
theorem dX12_stands_40 : decode cX12_stands 40 = .ok (.istore 4, 2) := o_54 BX12_stands rfl rfl rfl
theorem dX12_stands_42 : decode cX12_stands 42 = .ok (.iload 4, 2) := o_21 BX12_stands rfl rfl rfl
theorem dX12_stands_44 : decode cX12_stands 44 = .ok (.ifCond .lt 51, 3) := o_155 BX12_stands rfl rfl rfl
theorem dX12_stands_47 : decode cX12_stands 47 = .ok (.aload_n 0, 1) := o_42 BX12_stands rfl rfl
theorem dX12_stands_48 : decode cX12_stands 48 = .ok (.invokevirtual 390, 3) := o_182 BX12_stands rfl rfl rfl
theorem dX12_stands_51 : decode cX12_stands 51 = .ok (.aload_n 0, 1) := o_42 BX12_stands rfl rfl
theorem dX12_stands_52 : decode cX12_stands 52 = .ok (.getfield 34, 3) := o_180 BX12_stands rfl rfl rfl
theorem dX12_stands_55 : decode cX12_stands 55 = .ok (.bipush 13, 2) := o_16 BX12_stands rfl rfl rfl
theorem dX12_stands_57 : decode cX12_stands 57 = .ok (.iload_n 1, 1) := o_27 BX12_stands rfl rfl
theorem dX12_stands_58 : decode cX12_stands 58 = .ok (.iadd, 1) := o_96 BX12_stands rfl rfl
theorem dX12_stands_59 : decode cX12_stands 59 = .ok (.iload 4, 2) := o_21 BX12_stands rfl rfl rfl
theorem dX12_stands_61 : decode cX12_stands 61 = .ok (.iastore, 1) := o_79 BX12_stands rfl rfl
theorem dX12_stands_62 : decode cX12_stands 62 = .ok (.aload_n 0, 1) := o_42 BX12_stands rfl rfl
theorem dX12_stands_63 : decode cX12_stands 63 = .ok (.getfield 34, 3) := o_180 BX12_stands rfl rfl rfl
theorem dX12_stands_66 : decode cX12_stands 66 = .ok (.bipush 21, 2) := o_16 BX12_stands rfl rfl rfl
theorem dX12_stands_68 : decode cX12_stands 68 = .ok (.iload_n 1, 1) := o_27 BX12_stands rfl rfl
theorem dX12_stands_69 : decode cX12_stands 69 = .ok (.iadd, 1) := o_96 BX12_stands rfl rfl
theorem dX12_stands_70 : decode cX12_stands 70 = .ok (.iconst (-1), 1) := o_2 BX12_stands rfl rfl
theorem dX12_stands_71 : decode cX12_stands 71 = .ok (.iastore, 1) := o_79 BX12_stands rfl rfl
theorem dX12_stands_72 : decode cX12_stands 72 = .ok (.aload_n 0, 1) := o_42 BX12_stands rfl rfl
theorem dX12_stands_73 : decode cX12_stands 73 = .ok (.invokevirtual 401, 3) := o_182 BX12_stands rfl rfl rfl
theorem dX12_stands_76 : decode cX12_stands 76 = .ok (.iload_n 1, 1) := o_27 BX12_stands rfl rfl
theorem dX12_stands_77 : decode cX12_stands 77 = .ok (.invokestatic 411, 3) := o_184 BX12_stands rfl rfl rfl
theorem dX12_stands_80 : decode cX12_stands 80 = .ok (.ifCond .eq 9, 3) := o_153 BX12_stands rfl rfl rfl
theorem dX12_stands_83 : decode cX12_stands 83 = .ok (.iload 4, 2) := o_21 BX12_stands rfl rfl rfl
theorem dX12_stands_85 : decode cX12_stands 85 = .ok (.istore_n 2, 1) := o_61 BX12_stands rfl rfl
theorem dX12_stands_86 : decode cX12_stands 86 = .ok (.iinc 3 1, 3) := o_132 BX12_stands rfl rfl rfl rfl
theorem dX12_stands_89 : decode cX12_stands 89 = .ok (.iinc 4 (-1), 3) := o_132 BX12_stands rfl rfl rfl rfl
theorem dX12_stands_92 : decode cX12_stands 92 = .ok (.goto (-50), 3) := o_167 BX12_stands rfl rfl rfl
theorem dX12_stands_95 : decode cX12_stands 95 = .ok (.iload_n 2, 1) := o_28 BX12_stands rfl rfl
theorem dX12_stands_96 : decode cX12_stands 96 = .ok (.ifCond .lt 14, 3) := o_155 BX12_stands rfl rfl rfl
theorem dX12_stands_99 : decode cX12_stands 99 = .ok (.aload_n 0, 1) := o_42 BX12_stands rfl rfl
theorem dX12_stands_100 : decode cX12_stands 100 = .ok (.iconst 0, 1) := o_3 BX12_stands rfl rfl
theorem dX12_stands_101 : decode cX12_stands 101 = .ok (.putfield 119, 3) := o_181 BX12_stands rfl rfl rfl
theorem dX12_stands_104 : decode cX12_stands 104 = .ok (.aload_n 0, 1) := o_42 BX12_stands rfl rfl
theorem dX12_stands_105 : decode cX12_stands 105 = .ok (.iload_n 3, 1) := o_29 BX12_stands rfl rfl
theorem dX12_stands_106 : decode cX12_stands 106 = .ok (.i2l, 1) := o_133 BX12_stands rfl rfl
theorem dX12_stands_107 : decode cX12_stands 107 = .ok (.invokevirtual 358, 3) := o_182 BX12_stands rfl rfl rfl
theorem dX12_stands_110 : decode cX12_stands 110 = .ok (.iload_n 2, 1) := o_28 BX12_stands rfl rfl
theorem dX12_stands_111 : decode cX12_stands 111 = .ok (.ireturn, 1) := o_172 BX12_stands rfl rfl
theorem dX12_when_0 : decode cX12_when 0 = .ok (.aload_n 0, 1) := o_42 BX12_when rfl rfl
theorem dX12_when_1 : decode cX12_when 1 = .ok (.iconst 0, 1) := o_3 BX12_when rfl rfl
theorem dX12_when_2 : decode cX12_when 2 = .ok (.putfield 112, 3) := o_181 BX12_when rfl rfl rfl
theorem dX12_when_5 : decode cX12_when 5 = .ok (.aload_n 0, 1) := o_42 BX12_when rfl rfl
theorem dX12_when_6 : decode cX12_when 6 = .ok (.iload_n 1, 1) := o_27 BX12_when rfl rfl
theorem dX12_when_7 : decode cX12_when 7 = .ok (.invokevirtual 308, 3) := o_182 BX12_when rfl rfl rfl
theorem dX12_when_10 : decode cX12_when 10 = .ok (.ifCond .ne 5, 3) := o_154 BX12_when rfl rfl rfl
theorem dX12_when_13 : decode cX12_when 13 = .ok (.iconst (-1), 1) := o_2 BX12_when rfl rfl
theorem dX12_when_14 : decode cX12_when 14 = .ok (.ireturn, 1) := o_172 BX12_when rfl rfl
theorem dX12_when_15 : decode cX12_when 15 = .ok (.bipush (-2), 2) := o_16 BX12_when rfl rfl rfl
theorem dX12_when_17 : decode cX12_when 17 = .ok (.istore_n 2, 1) := o_61 BX12_when rfl rfl
theorem dX12_when_18 : decode cX12_when 18 = .ok (.iconst 0, 1) := o_3 BX12_when rfl rfl
theorem dX12_when_19 : decode cX12_when 19 = .ok (.istore_n 3, 1) := o_62 BX12_when rfl rfl
theorem dX12_when_20 : decode cX12_when 20 = .ok (.bipush 60, 2) := o_16 BX12_when rfl rfl rfl
theorem dX12_when_22 : decode cX12_when 22 = .ok (.istore 4, 2) := o_54 BX12_when rfl rfl rfl
theorem dX12_when_24 : decode cX12_when 24 = .ok (.iload 4, 2) := o_21 BX12_when rfl rfl rfl
theorem dX12_when_26 : decode cX12_when 26 = .ok (.ifCond .lt 116, 3) := o_155 BX12_when rfl rfl rfl
theorem dX12_when_29 : decode cX12_when 29 = .ok (.aload_n 0, 1) := o_42 BX12_when rfl rfl
theorem dX12_when_30 : decode cX12_when 30 = .ok (.invokevirtual 390, 3) := o_182 BX12_when rfl rfl rfl
theorem dX12_when_33 : decode cX12_when 33 = .ok (.aload_n 0, 1) := o_42 BX12_when rfl rfl
theorem dX12_when_34 : decode cX12_when 34 = .ok (.aload_n 0, 1) := o_42 BX12_when rfl rfl
theorem dX12_when_35 : decode cX12_when 35 = .ok (.getfield 34, 3) := o_180 BX12_when rfl rfl rfl
theorem dX12_when_38 : decode cX12_when 38 = .ok (.iload 4, 2) := o_21 BX12_when rfl rfl rfl
theorem dX12_when_40 : decode cX12_when 40 = .ok (.invokevirtual 355, 3) := o_182 BX12_when rfl rfl rfl
theorem dX12_when_43 : decode cX12_when 43 = .ok (.aload_n 0, 1) := o_42 BX12_when rfl rfl
theorem dX12_when_44 : decode cX12_when 44 = .ok (.getfield 34, 3) := o_180 BX12_when rfl rfl rfl
theorem dX12_when_47 : decode cX12_when 47 = .ok (.iload_n 1, 1) := o_27 BX12_when rfl rfl
theorem dX12_when_48 : decode cX12_when 48 = .ok (.invokestatic 132, 3) := o_184 BX12_when rfl rfl rfl
theorem dX12_when_51 : decode cX12_when 51 = .ok (.ifCond .ne 25, 3) := o_154 BX12_when rfl rfl rfl
theorem dX12_when_54 : decode cX12_when 54 = .ok (.aload_n 0, 1) := o_42 BX12_when rfl rfl
theorem dX12_when_55 : decode cX12_when 55 = .ok (.getfield 34, 3) := o_180 BX12_when rfl rfl rfl
theorem dX12_when_58 : decode cX12_when 58 = .ok (.bipush 21, 2) := o_16 BX12_when rfl rfl rfl
theorem dX12_when_60 : decode cX12_when 60 = .ok (.iload_n 1, 1) := o_27 BX12_when rfl rfl
theorem dX12_when_61 : decode cX12_when 61 = .ok (.iadd, 1) := o_96 BX12_when rfl rfl
theorem dX12_when_62 : decode cX12_when 62 = .ok (.iaload, 1) := o_46 BX12_when rfl rfl
theorem dX12_when_63 : decode cX12_when 63 = .ok (.aload_n 0, 1) := o_42 BX12_when rfl rfl
theorem dX12_when_64 : decode cX12_when 64 = .ok (.getfield 24, 3) := o_180 BX12_when rfl rfl rfl
theorem dX12_when_67 : decode cX12_when 67 = .ok (.iload_n 1, 1) := o_27 BX12_when rfl rfl
theorem dX12_when_68 : decode cX12_when 68 = .ok (.iaload, 1) := o_46 BX12_when rfl rfl
theorem dX12_when_69 : decode cX12_when 69 = .ok (.if_icmp .ne 7, 3) := o_160 BX12_when rfl rfl rfl
theorem dX12_when_72 : decode cX12_when 72 = .ok (.iconst 1, 1) := o_4 BX12_when rfl rfl
theorem dX12_when_73 : decode cX12_when 73 = .ok (.goto 4, 3) := o_167 BX12_when rfl rfl rfl
theorem dX12_when_76 : decode cX12_when 76 = .ok (.iconst 0, 1) := o_3 BX12_when rfl rfl
theorem dX12_when_77 : decode cX12_when 77 = .ok (.istore 5, 2) := o_54 BX12_when rfl rfl rfl
theorem dX12_when_79 : decode cX12_when 79 = .ok (.iload 5, 2) := o_21 BX12_when rfl rfl rfl
theorem dX12_when_81 : decode cX12_when 81 = .ok (.ifCond .eq 7, 3) := o_153 BX12_when rfl rfl rfl
theorem dX12_when_84 : decode cX12_when 84 = .ok (.iconst 0, 1) := o_3 BX12_when rfl rfl
theorem dX12_when_85 : decode cX12_when 85 = .ok (.goto 12, 3) := o_167 BX12_when rfl rfl rfl
theorem dX12_when_88 : decode cX12_when 88 = .ok (.aload_n 0, 1) := o_42 BX12_when rfl rfl
theorem dX12_when_89 : decode cX12_when 89 = .ok (.aload_n 0, 1) := o_42 BX12_when rfl rfl
theorem dX12_when_90 : decode cX12_when 90 = .ok (.getfield 34, 3) := o_180 BX12_when rfl rfl rfl
theorem dX12_when_93 : decode cX12_when 93 = .ok (.iload_n 1, 1) := o_27 BX12_when rfl rfl
theorem dX12_when_94 : decode cX12_when 94 = .ok (.invokevirtual 362, 3) := o_182 BX12_when rfl rfl rfl
theorem dX12_when_97 : decode cX12_when 97 = .ok (.istore 6, 2) := o_54 BX12_when rfl rfl rfl
theorem dX12_when_99 : decode cX12_when 99 = .ok (.iload 6, 2) := o_21 BX12_when rfl rfl rfl
theorem dX12_when_101 : decode cX12_when 101 = .ok (.ifCond .ge 10, 3) := o_156 BX12_when rfl rfl rfl
theorem dX12_when_104 : decode cX12_when 104 = .ok (.iload 6, 2) := o_21 BX12_when rfl rfl rfl
theorem dX12_when_106 : decode cX12_when 106 = .ok (.bipush (-4), 2) := o_16 BX12_when rfl rfl rfl
theorem dX12_when_108 : decode cX12_when 108 = .ok (.if_icmp .ne 28, 3) := o_160 BX12_when rfl rfl rfl
theorem dX12_when_111 : decode cX12_when 111 = .ok (.aload_n 0, 1) := o_42 BX12_when rfl rfl
theorem dX12_when_112 : decode cX12_when 112 = .ok (.invokevirtual 401, 3) := o_182 BX12_when rfl rfl rfl
theorem dX12_when_115 : decode cX12_when 115 = .ok (.iload_n 1, 1) := o_27 BX12_when rfl rfl
theorem dX12_when_116 : decode cX12_when 116 = .ok (.invokestatic 411, 3) := o_184 BX12_when rfl rfl rfl
theorem dX12_when_119 : decode cX12_when 119 = .ok (.ifCond .eq 17, 3) := o_153 BX12_when rfl rfl rfl
theorem dX12_when_122 : decode cX12_when 122 = .ok (.iload_n 2, 1) := o_28 BX12_when rfl rfl
theorem dX12_when_123 : decode cX12_when 123 = .ok (.ifCond .ge 8, 3) := o_156 BX12_when rfl rfl rfl
theorem dX12_when_126 : decode cX12_when 126 = .ok (.iload 4, 2) := o_21 BX12_when rfl rfl rfl
theorem dX12_when_128 : decode cX12_when 128 = .ok (.goto 4, 3) := o_167 BX12_when rfl rfl rfl
theorem dX12_when_131 : decode cX12_when 131 = .ok (.iload_n 3, 1) := o_29 BX12_when rfl rfl
theorem dX12_when_132 : decode cX12_when 132 = .ok (.istore_n 3, 1) := o_62 BX12_when rfl rfl
theorem dX12_when_133 : decode cX12_when 133 = .ok (.iload 4, 2) := o_21 BX12_when rfl rfl rfl
theorem dX12_when_135 : decode cX12_when 135 = .ok (.istore_n 2, 1) := o_61 BX12_when rfl rfl
theorem dX12_when_136 : decode cX12_when 136 = .ok (.iinc 4 (-1), 3) := o_132 BX12_when rfl rfl rfl rfl
theorem dX12_when_139 : decode cX12_when 139 = .ok (.goto (-115), 3) := o_167 BX12_when rfl rfl rfl
theorem dX12_when_142 : decode cX12_when 142 = .ok (.iload_n 2, 1) := o_28 BX12_when rfl rfl
theorem dX12_when_143 : decode cX12_when 143 = .ok (.ifCond .lt 14, 3) := o_155 BX12_when rfl rfl rfl
theorem dX12_when_146 : decode cX12_when 146 = .ok (.aload_n 0, 1) := o_42 BX12_when rfl rfl
theorem dX12_when_147 : decode cX12_when 147 = .ok (.iconst 0, 1) := o_3 BX12_when rfl rfl
theorem dX12_when_148 : decode cX12_when 148 = .ok (.putfield 119, 3) := o_181 BX12_when rfl rfl rfl
theorem dX12_when_151 : decode cX12_when 151 = .ok (.aload_n 0, 1) := o_42 BX12_when rfl rfl
theorem dX12_when_152 : decode cX12_when 152 = .ok (.iload_n 3, 1) := o_29 BX12_when rfl rfl
theorem dX12_when_153 : decode cX12_when 153 = .ok (.i2l, 1) := o_133 BX12_when rfl rfl
theorem dX12_when_154 : decode cX12_when 154 = .ok (.invokevirtual 358, 3) := o_182 BX12_when rfl rfl rfl
theorem dX12_when_157 : decode cX12_when 157 = .ok (.iload_n 2, 1) := o_28 BX12_when rfl rfl
theorem dX12_when_158 : decode cX12_when 158 = .ok (.ireturn, 1) := o_172 BX12_when rfl rfl
theorem dX12_mends_0 : decode cX12_mends 0 = .ok (.aload_n 0, 1) := o_42 BX12_mends rfl rfl
theorem dX12_mends_1 : decode cX12_mends 1 = .ok (.iconst 0, 1) := o_3 BX12_mends rfl rfl
theorem dX12_mends_2 : decode cX12_mends 2 = .ok (.putfield 112, 3) := o_181 BX12_mends rfl rfl rfl
theorem dX12_mends_5 : decode cX12_mends 5 = .ok (.iload_n 1, 1) := o_27 BX12_mends rfl rfl
theorem dX12_mends_6 : decode cX12_mends 6 = .ok (.i2l, 1) := o_133 BX12_mends rfl rfl
theorem dX12_mends_7 : decode cX12_mends 7 = .ok (.lconst 0, 1) := o_9 BX12_mends rfl rfl
theorem dX12_mends_8 : decode cX12_mends 8 = .ok (.ldc2_w 415, 3) := o_20 BX12_mends rfl rfl rfl
theorem dX12_mends_11 : decode cX12_mends 11 = .ok (.invokestatic 125, 3) := o_184 BX12_mends rfl rfl rfl
theorem dX12_mends_14 : decode cX12_mends 14 = .ok (.ifCond .ne 5, 3) := o_154 BX12_mends rfl rfl rfl
theorem dX12_mends_17 : decode cX12_mends 17 = .ok (.iconst (-1), 1) := o_2 BX12_mends rfl rfl
theorem dX12_mends_18 : decode cX12_mends 18 = .ok (.ireturn, 1) := o_172 BX12_mends rfl rfl
theorem dX12_mends_19 : decode cX12_mends 19 = .ok (.iconst (-1), 1) := o_2 BX12_mends rfl rfl
theorem dX12_mends_20 : decode cX12_mends 20 = .ok (.istore_n 2, 1) := o_61 BX12_mends rfl rfl
theorem dX12_mends_21 : decode cX12_mends 21 = .ok (.iconst 0, 1) := o_3 BX12_mends rfl rfl
theorem dX12_mends_22 : decode cX12_mends 22 = .ok (.istore_n 3, 1) := o_62 BX12_mends rfl rfl
theorem dX12_mends_23 : decode cX12_mends 23 = .ok (.iload_n 3, 1) := o_29 BX12_mends rfl rfl
theorem dX12_mends_24 : decode cX12_mends 24 = .ok (.iconst 1, 1) := o_4 BX12_mends rfl rfl
theorem dX12_mends_25 : decode cX12_mends 25 = .ok (.aload_n 0, 1) := o_42 BX12_mends rfl rfl
theorem dX12_mends_26 : decode cX12_mends 26 = .ok (.getfield 129, 3) := o_180 BX12_mends rfl rfl rfl
theorem dX12_mends_29 : decode cX12_mends 29 = .ok (.ishl, 1) := o_120 BX12_mends rfl rfl
theorem dX12_mends_30 : decode cX12_mends 30 = .ok (.if_icmp .ge 120, 3) := o_162 BX12_mends rfl rfl rfl
theorem dX12_mends_33 : decode cX12_mends 33 = .ok (.iload_n 2, 1) := o_28 BX12_mends rfl rfl
theorem dX12_mends_34 : decode cX12_mends 34 = .ok (.ifCond .lt 14, 3) := o_155 BX12_mends rfl rfl rfl
theorem dX12_mends_37 : decode cX12_mends 37 = .ok (.iload_n 3, 1) := o_29 BX12_mends rfl rfl
theorem dX12_mends_38 : decode cX12_mends 38 = .ok (.invokestatic 279, 3) := o_184 BX12_mends rfl rfl rfl
theorem dX12_mends_41 : decode cX12_mends 41 = .ok (.iload_n 2, 1) := o_28 BX12_mends rfl rfl
theorem dX12_mends_42 : decode cX12_mends 42 = .ok (.invokestatic 279, 3) := o_184 BX12_mends rfl rfl rfl
theorem dX12_mends_45 : decode cX12_mends 45 = .ok (.if_icmp .ge 99, 3) := o_162 BX12_mends rfl rfl rfl
theorem dX12_mends_48 : decode cX12_mends 48 = .ok (.aload_n 0, 1) := o_42 BX12_mends rfl rfl
theorem dX12_mends_49 : decode cX12_mends 49 = .ok (.invokevirtual 390, 3) := o_182 BX12_mends rfl rfl rfl
theorem dX12_mends_52 : decode cX12_mends 52 = .ok (.iconst 1, 1) := o_4 BX12_mends rfl rfl
theorem dX12_mends_53 : decode cX12_mends 53 = .ok (.istore 4, 2) := o_54 BX12_mends rfl rfl rfl
theorem dX12_mends_55 : decode cX12_mends 55 = .ok (.iconst 0, 1) := o_3 BX12_mends rfl rfl
theorem dX12_mends_56 : decode cX12_mends 56 = .ok (.istore 5, 2) := o_54 BX12_mends rfl rfl rfl
theorem dX12_mends_58 : decode cX12_mends 58 = .ok (.iload 5, 2) := o_21 BX12_mends rfl rfl rfl
theorem dX12_mends_60 : decode cX12_mends 60 = .ok (.aload_n 0, 1) := o_42 BX12_mends rfl rfl
theorem dX12_mends_61 : decode cX12_mends 61 = .ok (.getfield 129, 3) := o_180 BX12_mends rfl rfl rfl
theorem dX12_mends_64 : decode cX12_mends 64 = .ok (.if_icmp .ge 58, 3) := o_162 BX12_mends rfl rfl rfl
theorem dX12_mends_67 : decode cX12_mends 67 = .ok (.iload_n 3, 1) := o_29 BX12_mends rfl rfl
theorem dX12_mends_68 : decode cX12_mends 68 = .ok (.iload 5, 2) := o_21 BX12_mends rfl rfl rfl
theorem dX12_mends_70 : decode cX12_mends 70 = .ok (.invokestatic 411, 3) := o_184 BX12_mends rfl rfl rfl
theorem dX12_mends_73 : decode cX12_mends 73 = .ok (.ifCond .eq 16, 3) := o_153 BX12_mends rfl rfl rfl
theorem dX12_mends_76 : decode cX12_mends 76 = .ok (.aload_n 0, 1) := o_42 BX12_mends rfl rfl
theorem dX12_mends_77 : decode cX12_mends 77 = .ok (.aload_n 0, 1) := o_42 BX12_mends rfl rfl
theorem dX12_mends_78 : decode cX12_mends 78 = .ok (.getfield 34, 3) := o_180 BX12_mends rfl rfl rfl
theorem dX12_mends_81 : decode cX12_mends 81 = .ok (.iload 5, 2) := o_21 BX12_mends rfl rfl rfl
theorem dX12_mends_83 : decode cX12_mends 83 = .ok (.invokevirtual 362, 3) := o_182 BX12_mends rfl rfl rfl
theorem dX12_mends_86 : decode cX12_mends 86 = .ok (.goto 4, 3) := o_167 BX12_mends rfl rfl rfl
theorem dX12_mends_89 : decode cX12_mends 89 = .ok (.iconst 0, 1) := o_3 BX12_mends rfl rfl
theorem dX12_mends_90 : decode cX12_mends 90 = .ok (.istore 6, 2) := o_54 BX12_mends rfl rfl rfl
theorem dX12_mends_92 : decode cX12_mends 92 = .ok (.iload 4, 2) := o_21 BX12_mends rfl rfl rfl
theorem dX12_mends_94 : decode cX12_mends 94 = .ok (.ifCond .eq 19, 3) := o_153 BX12_mends rfl rfl rfl
theorem dX12_mends_97 : decode cX12_mends 97 = .ok (.iload 6, 2) := o_21 BX12_mends rfl rfl rfl
theorem dX12_mends_99 : decode cX12_mends 99 = .ok (.ifCond .ge 10, 3) := o_156 BX12_mends rfl rfl rfl
theorem dX12_mends_102 : decode cX12_mends 102 = .ok (.iload 6, 2) := o_21 BX12_mends rfl rfl rfl
theorem dX12_mends_104 : decode cX12_mends 104 = .ok (.bipush (-4), 2) := o_16 BX12_mends rfl rfl rfl
theorem dX12_mends_106 : decode cX12_mends 106 = .ok (.if_icmp .ne 7, 3) := o_160 BX12_mends rfl rfl rfl
theorem dX12_mends_109 : decode cX12_mends 109 = .ok (.iconst 1, 1) := o_4 BX12_mends rfl rfl
theorem dX12_mends_110 : decode cX12_mends 110 = .ok (.goto 4, 3) := o_167 BX12_mends rfl rfl rfl
theorem dX12_mends_113 : decode cX12_mends 113 = .ok (.iconst 0, 1) := o_3 BX12_mends rfl rfl
theorem dX12_mends_114 : decode cX12_mends 114 = .ok (.istore 4, 2) := o_54 BX12_mends rfl rfl rfl
theorem dX12_mends_116 : decode cX12_mends 116 = .ok (.iinc 5 1, 3) := o_132 BX12_mends rfl rfl rfl rfl
theorem dX12_mends_119 : decode cX12_mends 119 = .ok (.goto (-61), 3) := o_167 BX12_mends rfl rfl rfl
theorem dX12_mends_122 : decode cX12_mends 122 = .ok (.iload 4, 2) := o_21 BX12_mends rfl rfl rfl
theorem dX12_mends_124 : decode cX12_mends 124 = .ok (.ifCond .eq 18, 3) := o_153 BX12_mends rfl rfl rfl
theorem dX12_mends_127 : decode cX12_mends 127 = .ok (.aload_n 0, 1) := o_42 BX12_mends rfl rfl
theorem dX12_mends_128 : decode cX12_mends 128 = .ok (.invokevirtual 401, 3) := o_182 BX12_mends rfl rfl rfl
theorem dX12_mends_131 : decode cX12_mends 131 = .ok (.invokestatic 279, 3) := o_184 BX12_mends rfl rfl rfl
theorem dX12_mends_134 : decode cX12_mends 134 = .ok (.iload_n 1, 1) := o_27 BX12_mends rfl rfl
theorem dX12_mends_135 : decode cX12_mends 135 = .ok (.if_icmp .lt 7, 3) := o_161 BX12_mends rfl rfl rfl
theorem dX12_mends_138 : decode cX12_mends 138 = .ok (.iload_n 3, 1) := o_29 BX12_mends rfl rfl
theorem dX12_mends_139 : decode cX12_mends 139 = .ok (.goto 4, 3) := o_167 BX12_mends rfl rfl rfl
theorem dX12_mends_142 : decode cX12_mends 142 = .ok (.iload_n 2, 1) := o_28 BX12_mends rfl rfl
theorem dX12_mends_143 : decode cX12_mends 143 = .ok (.istore_n 2, 1) := o_61 BX12_mends rfl rfl
theorem dX12_mends_144 : decode cX12_mends 144 = .ok (.iinc 3 1, 3) := o_132 BX12_mends rfl rfl rfl rfl
theorem dX12_mends_147 : decode cX12_mends 147 = .ok (.goto (-124), 3) := o_167 BX12_mends rfl rfl rfl
theorem dX12_mends_150 : decode cX12_mends 150 = .ok (.iload_n 2, 1) := o_28 BX12_mends rfl rfl
theorem dX12_mends_151 : decode cX12_mends 151 = .ok (.ifCond .ge 6, 3) := o_156 BX12_mends rfl rfl rfl
theorem dX12_mends_154 : decode cX12_mends 154 = .ok (.bipush (-2), 2) := o_16 BX12_mends rfl rfl rfl
theorem dX12_mends_156 : decode cX12_mends 156 = .ok (.ireturn, 1) := o_172 BX12_mends rfl rfl
theorem dX12_mends_157 : decode cX12_mends 157 = .ok (.aload_n 0, 1) := o_42 BX12_mends rfl rfl
theorem dX12_mends_158 : decode cX12_mends 158 = .ok (.iconst 0, 1) := o_3 BX12_mends rfl rfl
theorem dX12_mends_159 : decode cX12_mends 159 = .ok (.putfield 119, 3) := o_181 BX12_mends rfl rfl rfl
theorem dX12_mends_162 : decode cX12_mends 162 = .ok (.aload_n 0, 1) := o_42 BX12_mends rfl rfl
theorem dX12_mends_163 : decode cX12_mends 163 = .ok (.iload_n 2, 1) := o_28 BX12_mends rfl rfl
theorem dX12_mends_164 : decode cX12_mends 164 = .ok (.i2l, 1) := o_133 BX12_mends rfl rfl
theorem dX12_mends_165 : decode cX12_mends 165 = .ok (.invokevirtual 358, 3) := o_182 BX12_mends rfl rfl rfl
theorem dX12_mends_168 : decode cX12_mends 168 = .ok (.iload_n 2, 1) := o_28 BX12_mends rfl rfl
theorem dX12_mends_169 : decode cX12_mends 169 = .ok (.invokestatic 279, 3) := o_184 BX12_mends rfl rfl rfl
theorem dX12_mends_172 : decode cX12_mends 172 = .ok (.ireturn, 1) := o_172 BX12_mends rfl rfl
theorem dX12_misleads_0 : decode cX12_misleads 0 = .ok (.aload_n 0, 1) := o_42 BX12_misleads rfl rfl
theorem dX12_misleads_1 : decode cX12_misleads 1 = .ok (.iconst 0, 1) := o_3 BX12_misleads rfl rfl
theorem dX12_misleads_2 : decode cX12_misleads 2 = .ok (.putfield 112, 3) := o_181 BX12_misleads rfl rfl rfl
theorem dX12_misleads_5 : decode cX12_misleads 5 = .ok (.aload_n 0, 1) := o_42 BX12_misleads rfl rfl
theorem dX12_misleads_6 : decode cX12_misleads 6 = .ok (.invokevirtual 390, 3) := o_182 BX12_misleads rfl rfl rfl
theorem dX12_misleads_9 : decode cX12_misleads 9 = .ok (.aload_n 0, 1) := o_42 BX12_misleads rfl rfl
theorem dX12_misleads_10 : decode cX12_misleads 10 = .ok (.invokevirtual 401, 3) := o_182 BX12_misleads rfl rfl rfl
theorem dX12_misleads_13 : decode cX12_misleads 13 = .ok (.istore_n 1, 1) := o_60 BX12_misleads rfl rfl
theorem dX12_misleads_14 : decode cX12_misleads 14 = .ok (.bipush (-2), 2) := o_16 BX12_misleads rfl rfl rfl
theorem dX12_misleads_16 : decode cX12_misleads 16 = .ok (.istore_n 2, 1) := o_61 BX12_misleads rfl rfl
theorem dX12_misleads_17 : decode cX12_misleads 17 = .ok (.iconst (-1), 1) := o_2 BX12_misleads rfl rfl
theorem dX12_misleads_18 : decode cX12_misleads 18 = .ok (.istore_n 3, 1) := o_62 BX12_misleads rfl rfl
theorem dX12_misleads_19 : decode cX12_misleads 19 = .ok (.iconst 0, 1) := o_3 BX12_misleads rfl rfl
theorem dX12_misleads_20 : decode cX12_misleads 20 = .ok (.istore 4, 2) := o_54 BX12_misleads rfl rfl rfl
theorem dX12_misleads_22 : decode cX12_misleads 22 = .ok (.iload 4, 2) := o_21 BX12_misleads rfl rfl rfl
theorem dX12_misleads_24 : decode cX12_misleads 24 = .ok (.aload_n 0, 1) := o_42 BX12_misleads rfl rfl
theorem dX12_misleads_25 : decode cX12_misleads 25 = .ok (.getfield 122, 3) := o_180 BX12_misleads rfl rfl rfl
theorem dX12_misleads_28 : decode cX12_misleads 28 = .ok (.if_icmp .ge 140, 3) := o_162 BX12_misleads rfl rfl rfl
theorem dX12_misleads_31 : decode cX12_misleads 31 = .ok (.aload_n 0, 1) := o_42 BX12_misleads rfl rfl
theorem dX12_misleads_32 : decode cX12_misleads 32 = .ok (.getfield 31, 3) := o_180 BX12_misleads rfl rfl rfl
theorem dX12_misleads_35 : decode cX12_misleads 35 = .ok (.iload 4, 2) := o_21 BX12_misleads rfl rfl rfl
theorem dX12_misleads_37 : decode cX12_misleads 37 = .ok (.invokestatic 266, 3) := o_184 BX12_misleads rfl rfl rfl
theorem dX12_misleads_40 : decode cX12_misleads 40 = .ok (.ifCond .eq 122, 3) := o_153 BX12_misleads rfl rfl rfl
theorem dX12_misleads_43 : decode cX12_misleads 43 = .ok (.aload_n 0, 1) := o_42 BX12_misleads rfl rfl
theorem dX12_misleads_44 : decode cX12_misleads 44 = .ok (.invokevirtual 390, 3) := o_182 BX12_misleads rfl rfl rfl
theorem dX12_misleads_47 : decode cX12_misleads 47 = .ok (.aload_n 0, 1) := o_42 BX12_misleads rfl rfl
theorem dX12_misleads_48 : decode cX12_misleads 48 = .ok (.getfield 34, 3) := o_180 BX12_misleads rfl rfl rfl
theorem dX12_misleads_51 : decode cX12_misleads 51 = .ok (.iload 4, 2) := o_21 BX12_misleads rfl rfl rfl
theorem dX12_misleads_53 : decode cX12_misleads 53 = .ok (.iconst (-1), 1) := o_2 BX12_misleads rfl rfl
theorem dX12_misleads_54 : decode cX12_misleads 54 = .ok (.iastore, 1) := o_79 BX12_misleads rfl rfl
theorem dX12_misleads_55 : decode cX12_misleads 55 = .ok (.iconst 0, 1) := o_3 BX12_misleads rfl rfl
theorem dX12_misleads_56 : decode cX12_misleads 56 = .ok (.istore 5, 2) := o_54 BX12_misleads rfl rfl rfl
theorem dX12_misleads_58 : decode cX12_misleads 58 = .ok (.iload 5, 2) := o_21 BX12_misleads rfl rfl rfl
theorem dX12_misleads_60 : decode cX12_misleads 60 = .ok (.aload_n 0, 1) := o_42 BX12_misleads rfl rfl
theorem dX12_misleads_61 : decode cX12_misleads 61 = .ok (.getfield 129, 3) := o_180 BX12_misleads rfl rfl rfl
theorem dX12_misleads_64 : decode cX12_misleads 64 = .ok (.if_icmp .ge 60, 3) := o_162 BX12_misleads rfl rfl rfl
theorem dX12_misleads_67 : decode cX12_misleads 67 = .ok (.aload_n 0, 1) := o_42 BX12_misleads rfl rfl
theorem dX12_misleads_68 : decode cX12_misleads 68 = .ok (.getfield 34, 3) := o_180 BX12_misleads rfl rfl rfl
theorem dX12_misleads_71 : decode cX12_misleads 71 = .ok (.bipush 21, 2) := o_16 BX12_misleads rfl rfl rfl
theorem dX12_misleads_73 : decode cX12_misleads 73 = .ok (.iload 5, 2) := o_21 BX12_misleads rfl rfl rfl
theorem dX12_misleads_75 : decode cX12_misleads 75 = .ok (.iadd, 1) := o_96 BX12_misleads rfl rfl
theorem dX12_misleads_76 : decode cX12_misleads 76 = .ok (.aload_n 0, 1) := o_42 BX12_misleads rfl rfl
theorem dX12_misleads_77 : decode cX12_misleads 77 = .ok (.getfield 34, 3) := o_180 BX12_misleads rfl rfl rfl
theorem dX12_misleads_80 : decode cX12_misleads 80 = .ok (.iload 5, 2) := o_21 BX12_misleads rfl rfl rfl
theorem dX12_misleads_82 : decode cX12_misleads 82 = .ok (.invokestatic 132, 3) := o_184 BX12_misleads rfl rfl rfl
theorem dX12_misleads_85 : decode cX12_misleads 85 = .ok (.ifCond .ne 22, 3) := o_154 BX12_misleads rfl rfl rfl
theorem dX12_misleads_88 : decode cX12_misleads 88 = .ok (.aload_n 0, 1) := o_42 BX12_misleads rfl rfl
theorem dX12_misleads_89 : decode cX12_misleads 89 = .ok (.getfield 34, 3) := o_180 BX12_misleads rfl rfl rfl
theorem dX12_misleads_92 : decode cX12_misleads 92 = .ok (.bipush 21, 2) := o_16 BX12_misleads rfl rfl rfl
theorem dX12_misleads_94 : decode cX12_misleads 94 = .ok (.iload 5, 2) := o_21 BX12_misleads rfl rfl rfl
theorem dX12_misleads_96 : decode cX12_misleads 96 = .ok (.iadd, 1) := o_96 BX12_misleads rfl rfl
theorem dX12_misleads_97 : decode cX12_misleads 97 = .ok (.iaload, 1) := o_46 BX12_misleads rfl rfl
theorem dX12_misleads_98 : decode cX12_misleads 98 = .ok (.iload 4, 2) := o_21 BX12_misleads rfl rfl rfl
theorem dX12_misleads_100 : decode cX12_misleads 100 = .ok (.if_icmp .ne 7, 3) := o_160 BX12_misleads rfl rfl rfl
theorem dX12_misleads_103 : decode cX12_misleads 103 = .ok (.iconst (-1), 1) := o_2 BX12_misleads rfl rfl
theorem dX12_misleads_104 : decode cX12_misleads 104 = .ok (.goto 13, 3) := o_167 BX12_misleads rfl rfl rfl
theorem dX12_misleads_107 : decode cX12_misleads 107 = .ok (.aload_n 0, 1) := o_42 BX12_misleads rfl rfl
theorem dX12_misleads_108 : decode cX12_misleads 108 = .ok (.getfield 34, 3) := o_180 BX12_misleads rfl rfl rfl
theorem dX12_misleads_111 : decode cX12_misleads 111 = .ok (.bipush 21, 2) := o_16 BX12_misleads rfl rfl rfl
theorem dX12_misleads_113 : decode cX12_misleads 113 = .ok (.iload 5, 2) := o_21 BX12_misleads rfl rfl rfl
