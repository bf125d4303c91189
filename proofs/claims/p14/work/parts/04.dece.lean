theorem dX12_faultOf_32 : decode cX12_faultOf 32 = .ok (.aload_n 0, 1) := by decide +kernel
theorem dX12_faultOf_33 : decode cX12_faultOf 33 = .ok (.getfield 139, 3) := by decide +kernel
theorem dX12_faultOf_36 : decode cX12_faultOf 36 = .ok (.iload_n 2, 1) := by decide +kernel
theorem dX12_faultOf_37 : decode cX12_faultOf 37 = .ok (.if_icmp .lt 7, 3) := by decide +kernel
theorem dX12_faultOf_40 : decode cX12_faultOf 40 = .ok (.iconst (-1), 1) := by decide +kernel
theorem dX12_faultOf_41 : decode cX12_faultOf 41 = .ok (.iload_n 2, 1) := by decide +kernel
theorem dX12_faultOf_42 : decode cX12_faultOf 42 = .ok (.isub, 1) := by decide +kernel
theorem dX12_faultOf_43 : decode cX12_faultOf 43 = .ok (.ireturn, 1) := by decide +kernel
theorem dX12_faultOf_44 : decode cX12_faultOf 44 = .ok (.iload 4, 2) := by decide +kernel
theorem dX12_faultOf_46 : decode cX12_faultOf 46 = .ok (.ifCond .eq 7, 3) := by decide +kernel
theorem dX12_faultOf_49 : decode cX12_faultOf 49 = .ok (.iconst 0, 1) := by decide +kernel
theorem dX12_faultOf_50 : decode cX12_faultOf 50 = .ok (.goto 9, 3) := by decide +kernel
theorem dX12_faultOf_53 : decode cX12_faultOf 53 = .ok (.iconst (-1), 1) := by decide +kernel
theorem dX12_faultOf_54 : decode cX12_faultOf 54 = .ok (.aload_n 0, 1) := by decide +kernel
theorem dX12_faultOf_55 : decode cX12_faultOf 55 = .ok (.getfield 139, 3) := by decide +kernel
theorem dX12_faultOf_58 : decode cX12_faultOf 58 = .ok (.isub, 1) := by decide +kernel
theorem dX12_faultOf_59 : decode cX12_faultOf 59 = .ok (.ireturn, 1) := by decide +kernel
theorem dX12_avenue_0 : decode cX12_avenue 0 = .ok (.aload_n 0, 1) := by decide +kernel
theorem dX12_avenue_1 : decode cX12_avenue 1 = .ok (.iconst 0, 1) := by decide +kernel
theorem dX12_avenue_2 : decode cX12_avenue 2 = .ok (.putfield 112, 3) := by decide +kernel
theorem dX12_avenue_5 : decode cX12_avenue 5 = .ok (.aload_n 0, 1) := by decide +kernel
theorem dX12_avenue_6 : decode cX12_avenue 6 = .ok (.bipush 80, 2) := by decide +kernel
theorem dX12_avenue_8 : decode cX12_avenue 8 = .ok (.invokevirtual 176, 3) := by decide +kernel
theorem dX12_avenue_11 : decode cX12_avenue 11 = .ok (.pop, 1) := by decide +kernel
theorem dX12_avenue_12 : decode cX12_avenue 12 = .ok (.iconst 0, 1) := by decide +kernel
theorem dX12_avenue_13 : decode cX12_avenue 13 = .ok (.istore_n 1, 1) := by decide +kernel
theorem dX12_avenue_14 : decode cX12_avenue 14 = .ok (.iconst 1, 1) := by decide +kernel
theorem dX12_avenue_15 : decode cX12_avenue 15 = .ok (.istore_n 2, 1) := by decide +kernel
theorem dX12_avenue_16 : decode cX12_avenue 16 = .ok (.iload_n 2, 1) := by decide +kernel
theorem dX12_avenue_17 : decode cX12_avenue 17 = .ok (.ifCond .eq 52, 3) := by decide +kernel
theorem dX12_avenue_20 : decode cX12_avenue 20 = .ok (.iload_n 1, 1) := by decide +kernel
theorem dX12_avenue_21 : decode cX12_avenue 21 = .ok (.bipush 30, 2) := by decide +kernel
theorem dX12_avenue_23 : decode cX12_avenue 23 = .ok (.if_icmp .ge 46, 3) := by decide +kernel
theorem dX12_avenue_26 : decode cX12_avenue 26 = .ok (.aload_n 0, 1) := by decide +kernel
theorem dX12_avenue_27 : decode cX12_avenue 27 = .ok (.ldc 180, 2) := by decide +kernel
theorem dX12_avenue_29 : decode cX12_avenue 29 = .ok (.invokevirtual 182, 3) := by decide +kernel
theorem dX12_avenue_32 : decode cX12_avenue 32 = .ok (.istore_n 3, 1) := by decide +kernel
theorem dX12_avenue_33 : decode cX12_avenue 33 = .ok (.iload_n 3, 1) := by decide +kernel
theorem dX12_avenue_34 : decode cX12_avenue 34 = .ok (.ifCond .lt 7, 3) := by decide +kernel
theorem dX12_avenue_37 : decode cX12_avenue 37 = .ok (.iconst 1, 1) := by decide +kernel
theorem dX12_avenue_38 : decode cX12_avenue 38 = .ok (.goto 4, 3) := by decide +kernel
theorem dX12_avenue_41 : decode cX12_avenue 41 = .ok (.iconst 0, 1) := by decide +kernel
theorem dX12_avenue_42 : decode cX12_avenue 42 = .ok (.istore_n 2, 1) := by decide +kernel
theorem dX12_avenue_43 : decode cX12_avenue 43 = .ok (.aload_n 0, 1) := by decide +kernel
theorem dX12_avenue_44 : decode cX12_avenue 44 = .ok (.getfield 40, 3) := by decide +kernel
theorem dX12_avenue_47 : decode cX12_avenue 47 = .ok (.iload_n 1, 1) := by decide +kernel
theorem dX12_avenue_48 : decode cX12_avenue 48 = .ok (.iload_n 3, 1) := by decide +kernel
theorem dX12_avenue_49 : decode cX12_avenue 49 = .ok (.iconst 1, 1) := by decide +kernel
theorem dX12_avenue_50 : decode cX12_avenue 50 = .ok (.if_icmp .ne 7, 3) := by decide +kernel
theorem dX12_avenue_53 : decode cX12_avenue 53 = .ok (.iconst 1, 1) := by decide +kernel
theorem dX12_avenue_54 : decode cX12_avenue 54 = .ok (.goto 4, 3) := by decide +kernel
theorem dX12_avenue_57 : decode cX12_avenue 57 = .ok (.iconst 0, 1) := by decide +kernel
theorem dX12_avenue_58 : decode cX12_avenue 58 = .ok (.bastore, 1) := by decide +kernel
theorem dX12_avenue_59 : decode cX12_avenue 59 = .ok (.iload_n 1, 1) := by decide +kernel
theorem dX12_avenue_60 : decode cX12_avenue 60 = .ok (.iload_n 2, 1) := by decide +kernel
theorem dX12_avenue_61 : decode cX12_avenue 61 = .ok (.invokestatic 154, 3) := by decide +kernel
theorem dX12_avenue_64 : decode cX12_avenue 64 = .ok (.iadd, 1) := by decide +kernel
theorem dX12_avenue_65 : decode cX12_avenue 65 = .ok (.istore_n 1, 1) := by decide +kernel
theorem dX12_avenue_66 : decode cX12_avenue 66 = .ok (.goto (-50), 3) := by decide +kernel
theorem dX12_avenue_69 : decode cX12_avenue 69 = .ok (.iload_n 1, 1) := by decide +kernel
theorem dX12_avenue_70 : decode cX12_avenue 70 = .ok (.iconst 4, 1) := by decide +kernel
theorem dX12_avenue_71 : decode cX12_avenue 71 = .ok (.if_icmp .lt 14, 3) := by decide +kernel
theorem dX12_avenue_74 : decode cX12_avenue 74 = .ok (.aload_n 0, 1) := by decide +kernel
theorem dX12_avenue_75 : decode cX12_avenue 75 = .ok (.getfield 139, 3) := by decide +kernel
theorem dX12_avenue_78 : decode cX12_avenue 78 = .ok (.aload_n 0, 1) := by decide +kernel
theorem dX12_avenue_79 : decode cX12_avenue 79 = .ok (.getfield 151, 3) := by decide +kernel
theorem dX12_avenue_82 : decode cX12_avenue 82 = .ok (.if_icmp .ge 10, 3) := by decide +kernel
theorem dX12_avenue_85 : decode cX12_avenue 85 = .ok (.iconst (-1), 1) := by decide +kernel
theorem dX12_avenue_86 : decode cX12_avenue 86 = .ok (.aload_n 0, 1) := by decide +kernel
theorem dX12_avenue_87 : decode cX12_avenue 87 = .ok (.getfield 139, 3) := by decide +kernel
theorem dX12_avenue_90 : decode cX12_avenue 90 = .ok (.isub, 1) := by decide +kernel
theorem dX12_avenue_91 : decode cX12_avenue 91 = .ok (.ireturn, 1) := by decide +kernel
theorem dX12_avenue_92 : decode cX12_avenue 92 = .ok (.aload_n 0, 1) := by decide +kernel
theorem dX12_avenue_93 : decode cX12_avenue 93 = .ok (.iload_n 1, 1) := by decide +kernel
theorem dX12_avenue_94 : decode cX12_avenue 94 = .ok (.putfield 13, 3) := by decide +kernel
theorem dX12_avenue_97 : decode cX12_avenue 97 = .ok (.iconst 0, 1) := by decide +kernel
theorem dX12_avenue_98 : decode cX12_avenue 98 = .ok (.istore_n 3, 1) := by decide +kernel
theorem dX12_avenue_99 : decode cX12_avenue 99 = .ok (.iload_n 3, 1) := by decide +kernel
theorem dX12_avenue_100 : decode cX12_avenue 100 = .ok (.iload_n 1, 1) := by decide +kernel
theorem dX12_avenue_101 : decode cX12_avenue 101 = .ok (.if_icmp .ge 21, 3) := by decide +kernel
theorem dX12_avenue_104 : decode cX12_avenue 104 = .ok (.aload_n 0, 1) := by decide +kernel
theorem dX12_avenue_105 : decode cX12_avenue 105 = .ok (.getfield 20, 3) := by decide +kernel
theorem dX12_avenue_108 : decode cX12_avenue 108 = .ok (.iload_n 3, 1) := by decide +kernel
theorem dX12_avenue_109 : decode cX12_avenue 109 = .ok (.aload_n 0, 1) := by decide +kernel
theorem dX12_avenue_110 : decode cX12_avenue 110 = .ok (.getfield 40, 3) := by decide +kernel
theorem dX12_avenue_113 : decode cX12_avenue 113 = .ok (.iload_n 3, 1) := by decide +kernel
theorem dX12_avenue_114 : decode cX12_avenue 114 = .ok (.baload, 1) := by decide +kernel
theorem dX12_avenue_115 : decode cX12_avenue 115 = .ok (.bastore, 1) := by decide +kernel
theorem dX12_avenue_116 : decode cX12_avenue 116 = .ok (.iinc 3 1, 3) := by decide +kernel
theorem dX12_avenue_119 : decode cX12_avenue 119 = .ok (.goto (-20), 3) := by decide +kernel
theorem dX12_avenue_122 : decode cX12_avenue 122 = .ok (.aload_n 0, 1) := by decide +kernel
theorem dX12_avenue_123 : decode cX12_avenue 123 = .ok (.iconst 0, 1) := by decide +kernel
theorem dX12_avenue_124 : decode cX12_avenue 124 = .ok (.putfield 122, 3) := by decide +kernel
theorem dX12_avenue_127 : decode cX12_avenue 127 = .ok (.aload_n 0, 1) := by decide +kernel
theorem dX12_avenue_128 : decode cX12_avenue 128 = .ok (.iconst 0, 1) := by decide +kernel
theorem dX12_avenue_129 : decode cX12_avenue 129 = .ok (.putfield 129, 3) := by decide +kernel
theorem dX12_avenue_132 : decode cX12_avenue 132 = .ok (.aload_n 0, 1) := by decide +kernel
theorem dX12_avenue_133 : decode cX12_avenue 133 = .ok (.getfield 31, 3) := by decide +kernel
theorem dX12_avenue_136 : decode cX12_avenue 136 = .ok (.bipush 12, 2) := by decide +kernel
theorem dX12_avenue_138 : decode cX12_avenue 138 = .ok (.iconst 0, 1) := by decide +kernel
theorem dX12_avenue_139 : decode cX12_avenue 139 = .ok (.iastore, 1) := by decide +kernel
theorem dX12_avenue_140 : decode cX12_avenue 140 = .ok (.aload_n 0, 1) := by decide +kernel
theorem dX12_avenue_141 : decode cX12_avenue 141 = .ok (.getfield 31, 3) := by decide +kernel
theorem dX12_avenue_144 : decode cX12_avenue 144 = .ok (.bipush 37, 2) := by decide +kernel
theorem dX12_avenue_146 : decode cX12_avenue 146 = .ok (.iconst 0, 1) := by decide +kernel
theorem dX12_avenue_147 : decode cX12_avenue 147 = .ok (.iastore, 1) := by decide +kernel
theorem dX12_avenue_148 : decode cX12_avenue 148 = .ok (.aload_n 0, 1) := by decide +kernel
theorem dX12_avenue_149 : decode cX12_avenue 149 = .ok (.iconst 0, 1) := by decide +kernel
theorem dX12_avenue_150 : decode cX12_avenue 150 = .ok (.putfield 186, 3) := by decide +kernel
theorem dX12_avenue_153 : decode cX12_avenue 153 = .ok (.iconst 0, 1) := by decide +kernel
theorem dX12_avenue_154 : decode cX12_avenue 154 = .ok (.istore_n 3, 1) := by decide +kernel
theorem dX12_avenue_155 : decode cX12_avenue 155 = .ok (.iload_n 3, 1) := by decide +kernel
theorem dX12_avenue_156 : decode cX12_avenue 156 = .ok (.iconst 3, 1) := by decide +kernel
theorem dX12_avenue_157 : decode cX12_avenue 157 = .ok (.if_icmp .ge 16, 3) := by decide +kernel
theorem dX12_avenue_160 : decode cX12_avenue 160 = .ok (.aload_n 0, 1) := by decide +kernel
theorem dX12_avenue_161 : decode cX12_avenue 161 = .ok (.getfield 103, 3) := by decide +kernel
theorem dX12_avenue_164 : decode cX12_avenue 164 = .ok (.iload_n 3, 1) := by decide +kernel
theorem dX12_avenue_165 : decode cX12_avenue 165 = .ok (.iconst 0, 1) := by decide +kernel
theorem dX12_avenue_166 : decode cX12_avenue 166 = .ok (.bastore, 1) := by decide +kernel
theorem dX12_avenue_167 : decode cX12_avenue 167 = .ok (.iinc 3 1, 3) := by decide +kernel
theorem dX12_avenue_170 : decode cX12_avenue 170 = .ok (.goto (-15), 3) := by decide +kernel
theorem dX12_avenue_173 : decode cX12_avenue 173 = .ok (.iload_n 1, 1) := by decide +kernel
theorem dX12_avenue_174 : decode cX12_avenue 174 = .ok (.ireturn, 1) := by decide +kernel
theorem dX12_readsCell_0 : decode cX12_readsCell 0 = .ok (.aload_n 0, 1) := by decide +kernel
theorem dX12_readsCell_1 : decode cX12_readsCell 1 = .ok (.iconst 2, 1) := by decide +kernel
theorem dX12_readsCell_2 : decode cX12_readsCell 2 = .ok (.invokevirtual 189, 3) := by decide +kernel
theorem dX12_readsCell_5 : decode cX12_readsCell 5 = .ok (.istore_n 2, 1) := by decide +kernel
theorem dX12_readsCell_6 : decode cX12_readsCell 6 = .ok (.iload_n 2, 1) := by decide +kernel
theorem dX12_readsCell_7 : decode cX12_readsCell 7 = .ok (.ifCond .ge 5, 3) := by decide +kernel
theorem dX12_readsCell_10 : decode cX12_readsCell 10 = .ok (.iconst (-1), 1) := by decide +kernel
theorem dX12_readsCell_11 : decode cX12_readsCell 11 = .ok (.ireturn, 1) := by decide +kernel
theorem dX12_readsCell_12 : decode cX12_readsCell 12 = .ok (.iload_n 2, 1) := by decide +kernel
theorem dX12_readsCell_13 : decode cX12_readsCell 13 = .ok (.aload_n 0, 1) := by decide +kernel
theorem dX12_readsCell_14 : decode cX12_readsCell 14 = .ok (.invokevirtual 192, 3) := by decide +kernel
theorem dX12_readsCell_17 : decode cX12_readsCell 17 = .ok (.if_icmp .ge 23, 3) := by decide +kernel
theorem dX12_readsCell_20 : decode cX12_readsCell 20 = .ok (.iload_n 1, 1) := by decide +kernel
theorem dX12_readsCell_21 : decode cX12_readsCell 21 = .ok (.ifCond .eq 15, 3) := by decide +kernel
theorem dX12_readsCell_24 : decode cX12_readsCell 24 = .ok (.aload_n 0, 1) := by decide +kernel
theorem dX12_readsCell_25 : decode cX12_readsCell 25 = .ok (.aload_n 0, 1) := by decide +kernel
theorem dX12_readsCell_26 : decode cX12_readsCell 26 = .ok (.getfield 31, 3) := by decide +kernel
theorem dX12_readsCell_29 : decode cX12_readsCell 29 = .ok (.iload_n 2, 1) := by decide +kernel
theorem dX12_readsCell_30 : decode cX12_readsCell 30 = .ok (.invokevirtual 195, 3) := by decide +kernel
theorem dX12_readsCell_33 : decode cX12_readsCell 33 = .ok (.ifCond .ge 7, 3) := by decide +kernel
theorem dX12_readsCell_36 : decode cX12_readsCell 36 = .ok (.iconst 1, 1) := by decide +kernel
theorem dX12_readsCell_37 : decode cX12_readsCell 37 = .ok (.goto 4, 3) := by decide +kernel
theorem dX12_readsCell_40 : decode cX12_readsCell 40 = .ok (.iconst 0, 1) := by decide +kernel
theorem dX12_readsCell_41 : decode cX12_readsCell 41 = .ok (.istore_n 3, 1) := by decide +kernel
theorem dX12_readsCell_42 : decode cX12_readsCell 42 = .ok (.iconst 0, 1) := by decide +kernel
theorem dX12_readsCell_43 : decode cX12_readsCell 43 = .ok (.istore 4, 2) := by decide +kernel
theorem dX12_readsCell_45 : decode cX12_readsCell 45 = .ok (.iload 4, 2) := by decide +kernel
theorem dX12_readsCell_47 : decode cX12_readsCell 47 = .ok (.aload_n 0, 1) := by decide +kernel
theorem dX12_readsCell_48 : decode cX12_readsCell 48 = .ok (.getfield 199, 3) := by decide +kernel
theorem dX12_readsCell_51 : decode cX12_readsCell 51 = .ok (.if_icmp .ge 34, 3) := by decide +kernel
theorem dX12_readsCell_54 : decode cX12_readsCell 54 = .ok (.iload_n 1, 1) := by decide +kernel
theorem dX12_readsCell_55 : decode cX12_readsCell 55 = .ok (.ifCond .eq 30, 3) := by decide +kernel
theorem dX12_readsCell_58 : decode cX12_readsCell 58 = .ok (.iload_n 3, 1) := by decide +kernel
theorem dX12_readsCell_59 : decode cX12_readsCell 59 = .ok (.ifCond .eq 18, 3) := by decide +kernel
theorem dX12_readsCell_62 : decode cX12_readsCell 62 = .ok (.aload_n 0, 1) := by decide +kernel
theorem dX12_readsCell_63 : decode cX12_readsCell 63 = .ok (.getfield 43, 3) := by decide +kernel
theorem dX12_readsCell_66 : decode cX12_readsCell 66 = .ok (.iload 4, 2) := by decide +kernel
theorem dX12_readsCell_68 : decode cX12_readsCell 68 = .ok (.iaload, 1) := by decide +kernel
theorem dX12_readsCell_69 : decode cX12_readsCell 69 = .ok (.iload_n 2, 1) := by decide +kernel
theorem dX12_readsCell_70 : decode cX12_readsCell 70 = .ok (.if_icmp .eq 7, 3) := by decide +kernel
theorem dX12_readsCell_73 : decode cX12_readsCell 73 = .ok (.iconst 1, 1) := by decide +kernel
theorem dX12_readsCell_74 : decode cX12_readsCell 74 = .ok (.goto 4, 3) := by decide +kernel
theorem dX12_readsCell_77 : decode cX12_readsCell 77 = .ok (.iconst 0, 1) := by decide +kernel
theorem dX12_readsCell_78 : decode cX12_readsCell 78 = .ok (.istore_n 3, 1) := by decide +kernel
theorem dX12_readsCell_79 : decode cX12_readsCell 79 = .ok (.iinc 4 1, 3) := by decide +kernel
theorem dX12_readsCell_82 : decode cX12_readsCell 82 = .ok (.goto (-37), 3) := by decide +kernel
theorem dX12_readsCell_85 : decode cX12_readsCell 85 = .ok (.aload_n 0, 1) := by decide +kernel
theorem dX12_readsCell_86 : decode cX12_readsCell 86 = .ok (.dup, 1) := by decide +kernel
theorem dX12_readsCell_87 : decode cX12_readsCell 87 = .ok (.getfield 139, 3) := by decide +kernel
theorem dX12_readsCell_90 : decode cX12_readsCell 90 = .ok (.iload_n 3, 1) := by decide +kernel
theorem dX12_readsCell_91 : decode cX12_readsCell 91 = .ok (.ifCond .ne 7, 3) := by decide +kernel
theorem dX12_readsCell_94 : decode cX12_readsCell 94 = .ok (.iconst 1, 1) := by decide +kernel
theorem dX12_readsCell_95 : decode cX12_readsCell 95 = .ok (.goto 4, 3) := by decide +kernel
theorem dX12_readsCell_98 : decode cX12_readsCell 98 = .ok (.iconst 0, 1) := by decide +kernel
theorem dX12_readsCell_99 : decode cX12_readsCell 99 = .ok (.invokestatic 154, 3) := by decide +kernel
theorem dX12_readsCell_102 : decode cX12_readsCell 102 = .ok (.isub, 1) := by decide +kernel
theorem dX12_readsCell_103 : decode cX12_readsCell 103 = .ok (.putfield 139, 3) := by decide +kernel
theorem dX12_readsCell_106 : decode cX12_readsCell 106 = .ok (.iload_n 3, 1) := by decide +kernel
theorem dX12_readsCell_107 : decode cX12_readsCell 107 = .ok (.ifCond .eq 7, 3) := by decide +kernel
theorem dX12_readsCell_110 : decode cX12_readsCell 110 = .ok (.iload_n 2, 1) := by decide +kernel
theorem dX12_readsCell_111 : decode cX12_readsCell 111 = .ok (.goto 4, 3) := by decide +kernel
theorem dX12_readsCell_114 : decode cX12_readsCell 114 = .ok (.iconst (-1), 1) := by decide +kernel
theorem dX12_readsCell_115 : decode cX12_readsCell 115 = .ok (.ireturn, 1) := by decide +kernel
theorem dX12_readsHearse_0 : decode cX12_readsHearse 0 = .ok (.aload_n 0, 1) := by decide +kernel
theorem dX12_readsHearse_1 : decode cX12_readsHearse 1 = .ok (.getfield 122, 3) := by decide +kernel
theorem dX12_readsHearse_4 : decode cX12_readsHearse 4 = .ok (.aload_n 0, 1) := by decide +kernel
theorem dX12_readsHearse_5 : decode cX12_readsHearse 5 = .ok (.getfield 199, 3) := by decide +kernel
theorem dX12_readsHearse_8 : decode cX12_readsHearse 8 = .ok (.iadd, 1) := by decide +kernel
theorem dX12_readsHearse_9 : decode cX12_readsHearse 9 = .ok (.bipush 6, 2) := by decide +kernel
theorem dX12_readsHearse_11 : decode cX12_readsHearse 11 = .ok (.if_icmp .ne 5, 3) := by decide +kernel
theorem dX12_readsHearse_14 : decode cX12_readsHearse 14 = .ok (.iconst 0, 1) := by decide +kernel
theorem dX12_readsHearse_15 : decode cX12_readsHearse 15 = .ok (.ireturn, 1) := by decide +kernel
theorem dX12_readsHearse_16 : decode cX12_readsHearse 16 = .ok (.aload_n 0, 1) := by decide +kernel
theorem dX12_readsHearse_17 : decode cX12_readsHearse 17 = .ok (.iconst 1, 1) := by decide +kernel
theorem dX12_readsHearse_18 : decode cX12_readsHearse 18 = .ok (.invokevirtual 202, 3) := by decide +kernel
theorem dX12_readsHearse_21 : decode cX12_readsHearse 21 = .ok (.istore_n 1, 1) := by decide +kernel
theorem dX12_readsHearse_22 : decode cX12_readsHearse 22 = .ok (.aload_n 0, 1) := by decide +kernel
theorem dX12_readsHearse_23 : decode cX12_readsHearse 23 = .ok (.getfield 43, 3) := by decide +kernel
theorem dX12_readsHearse_26 : decode cX12_readsHearse 26 = .ok (.aload_n 0, 1) := by decide +kernel
theorem dX12_readsHearse_27 : decode cX12_readsHearse 27 = .ok (.getfield 199, 3) := by decide +kernel
theorem dX12_readsHearse_30 : decode cX12_readsHearse 30 = .ok (.iload_n 1, 1) := by decide +kernel
theorem dX12_readsHearse_31 : decode cX12_readsHearse 31 = .ok (.iastore, 1) := by decide +kernel
theorem dX12_readsHearse_32 : decode cX12_readsHearse 32 = .ok (.aload_n 0, 1) := by decide +kernel
theorem dX12_readsHearse_33 : decode cX12_readsHearse 33 = .ok (.dup, 1) := by decide +kernel
theorem dX12_readsHearse_34 : decode cX12_readsHearse 34 = .ok (.getfield 199, 3) := by decide +kernel
theorem dX12_readsHearse_37 : decode cX12_readsHearse 37 = .ok (.iconst 1, 1) := by decide +kernel
theorem dX12_readsHearse_38 : decode cX12_readsHearse 38 = .ok (.iadd, 1) := by decide +kernel
theorem dX12_readsHearse_39 : decode cX12_readsHearse 39 = .ok (.putfield 199, 3) := by decide +kernel
theorem dX12_readsHearse_42 : decode cX12_readsHearse 42 = .ok (.iload_n 1, 1) := by decide +kernel
theorem dX12_readsHearse_43 : decode cX12_readsHearse 43 = .ok (.ifCond .lt 7, 3) := by decide +kernel
theorem dX12_readsHearse_46 : decode cX12_readsHearse 46 = .ok (.iconst 1, 1) := by decide +kernel
theorem dX12_readsHearse_47 : decode cX12_readsHearse 47 = .ok (.goto 4, 3) := by decide +kernel
theorem dX12_readsHearse_50 : decode cX12_readsHearse 50 = .ok (.iconst 0, 1) := by decide +kernel
theorem dX12_readsHearse_51 : decode cX12_readsHearse 51 = .ok (.ireturn, 1) := by decide +kernel
theorem dX12_readsMourner_0 : decode cX12_readsMourner 0 = .ok (.aload_n 0, 1) := by decide +kernel
theorem dX12_readsMourner_1 : decode cX12_readsMourner 1 = .ok (.getfield 129, 3) := by decide +kernel
theorem dX12_readsMourner_4 : decode cX12_readsMourner 4 = .ok (.aload_n 0, 1) := by decide +kernel
theorem dX12_readsMourner_5 : decode cX12_readsMourner 5 = .ok (.getfield 199, 3) := by decide +kernel
theorem dX12_readsMourner_8 : decode cX12_readsMourner 8 = .ok (.iadd, 1) := by decide +kernel
theorem dX12_readsMourner_9 : decode cX12_readsMourner 9 = .ok (.bipush 8, 2) := by decide +kernel
theorem dX12_readsMourner_11 : decode cX12_readsMourner 11 = .ok (.if_icmp .ne 5, 3) := by decide +kernel
theorem dX12_readsMourner_14 : decode cX12_readsMourner 14 = .ok (.iconst 0, 1) := by decide +kernel
theorem dX12_readsMourner_15 : decode cX12_readsMourner 15 = .ok (.ireturn, 1) := by decide +kernel
theorem dX12_readsMourner_16 : decode cX12_readsMourner 16 = .ok (.aload_n 0, 1) := by decide +kernel
theorem dX12_readsMourner_17 : decode cX12_readsMourner 17 = .ok (.iconst 0, 1) := by decide +kernel
theorem dX12_readsMourner_18 : decode cX12_readsMourner 18 = .ok (.invokevirtual 202, 3) := by decide +kernel
theorem dX12_readsMourner_21 : decode cX12_readsMourner 21 = .ok (.istore_n 1, 1) := by decide +kernel
theorem dX12_readsMourner_22 : decode cX12_readsMourner 22 = .ok (.aload_n 0, 1) := by decide +kernel
theorem dX12_readsMourner_23 : decode cX12_readsMourner 23 = .ok (.getfield 43, 3) := by decide +kernel
theorem dX12_readsMourner_26 : decode cX12_readsMourner 26 = .ok (.iconst 2, 1) := by decide +kernel
theorem dX12_readsMourner_27 : decode cX12_readsMourner 27 = .ok (.aload_n 0, 1) := by decide +kernel
theorem dX12_readsMourner_28 : decode cX12_readsMourner 28 = .ok (.getfield 199, 3) := by decide +kernel
theorem dX12_readsMourner_31 : decode cX12_readsMourner 31 = .ok (.imul, 1) := by decide +kernel
theorem dX12_readsMourner_32 : decode cX12_readsMourner 32 = .ok (.iload_n 1, 1) := by decide +kernel
theorem dX12_readsMourner_33 : decode cX12_readsMourner 33 = .ok (.iastore, 1) := by decide +kernel
theorem dX12_readsMourner_34 : decode cX12_readsMourner 34 = .ok (.aload_n 0, 1) := by decide +kernel
theorem dX12_readsMourner_35 : decode cX12_readsMourner 35 = .ok (.getfield 43, 3) := by decide +kernel
theorem dX12_readsMourner_38 : decode cX12_readsMourner 38 = .ok (.iconst 2, 1) := by decide +kernel
theorem dX12_readsMourner_39 : decode cX12_readsMourner 39 = .ok (.aload_n 0, 1) := by decide +kernel
theorem dX12_readsMourner_40 : decode cX12_readsMourner 40 = .ok (.getfield 199, 3) := by decide +kernel
theorem dX12_readsMourner_43 : decode cX12_readsMourner 43 = .ok (.imul, 1) := by decide +kernel
theorem dX12_readsMourner_44 : decode cX12_readsMourner 44 = .ok (.iconst 1, 1) := by decide +kernel
theorem dX12_readsMourner_45 : decode cX12_readsMourner 45 = .ok (.iadd, 1) := by decide +kernel
theorem dX12_readsMourner_46 : decode cX12_readsMourner 46 = .ok (.iload_n 1, 1) := by decide +kernel
theorem dX12_readsMourner_47 : decode cX12_readsMourner 47 = .ok (.ifCond .ge 7, 3) := by decide +kernel
theorem dX12_readsMourner_50 : decode cX12_readsMourner 50 = .ok (.iconst (-1), 1) := by decide +kernel
theorem dX12_readsMourner_51 : decode cX12_readsMourner 51 = .ok (.goto 17, 3) := by decide +kernel
theorem dX12_readsMourner_54 : decode cX12_readsMourner 54 = .ok (.aload_n 0, 1) := by decide +kernel
theorem dX12_readsMourner_55 : decode cX12_readsMourner 55 = .ok (.ldc 205, 2) := by decide +kernel
theorem dX12_readsMourner_57 : decode cX12_readsMourner 57 = .ok (.iconst 0, 1) := by decide +kernel
theorem dX12_readsMourner_58 : decode cX12_readsMourner 58 = .ok (.aload_n 0, 1) := by decide +kernel
theorem dX12_readsMourner_59 : decode cX12_readsMourner 59 = .ok (.getfield 122, 3) := by decide +kernel
theorem dX12_readsMourner_62 : decode cX12_readsMourner 62 = .ok (.invokevirtual 207, 3) := by decide +kernel
theorem dX12_readsMourner_65 : decode cX12_readsMourner 65 = .ok (.invokevirtual 182, 3) := by decide +kernel
theorem dX12_readsMourner_68 : decode cX12_readsMourner 68 = .ok (.iastore, 1) := by decide +kernel
theorem dX12_readsMourner_69 : decode cX12_readsMourner 69 = .ok (.aload_n 0, 1) := by decide +kernel
theorem dX12_readsMourner_70 : decode cX12_readsMourner 70 = .ok (.dup, 1) := by decide +kernel
theorem dX12_readsMourner_71 : decode cX12_readsMourner 71 = .ok (.getfield 199, 3) := by decide +kernel
theorem dX12_readsMourner_74 : decode cX12_readsMourner 74 = .ok (.iconst 1, 1) := by decide +kernel
theorem dX12_readsMourner_75 : decode cX12_readsMourner 75 = .ok (.iadd, 1) := by decide +kernel
theorem dX12_readsMourner_76 : decode cX12_readsMourner 76 = .ok (.putfield 199, 3) := by decide +kernel
theorem dX12_readsMourner_79 : decode cX12_readsMourner 79 = .ok (.aload_n 0, 1) := by decide +kernel
theorem dX12_readsMourner_80 : decode cX12_readsMourner 80 = .ok (.getfield 43, 3) := by decide +kernel
theorem dX12_readsMourner_83 : decode cX12_readsMourner 83 = .ok (.iconst 2, 1) := by decide +kernel
theorem dX12_readsMourner_84 : decode cX12_readsMourner 84 = .ok (.aload_n 0, 1) := by decide +kernel
theorem dX12_readsMourner_85 : decode cX12_readsMourner 85 = .ok (.getfield 199, 3) := by decide +kernel
theorem dX12_readsMourner_88 : decode cX12_readsMourner 88 = .ok (.imul, 1) := by decide +kernel
theorem dX12_readsMourner_89 : decode cX12_readsMourner 89 = .ok (.iconst 1, 1) := by decide +kernel
theorem dX12_readsMourner_90 : decode cX12_readsMourner 90 = .ok (.isub, 1) := by decide +kernel
theorem dX12_readsMourner_91 : decode cX12_readsMourner 91 = .ok (.iaload, 1) := by decide +kernel
theorem dX12_readsMourner_92 : decode cX12_readsMourner 92 = .ok (.ifCond .lt 7, 3) := by decide +kernel
theorem dX12_readsMourner_95 : decode cX12_readsMourner 95 = .ok (.iconst 1, 1) := by decide +kernel
theorem dX12_readsMourner_96 : decode cX12_readsMourner 96 = .ok (.goto 4, 3) := by decide +kernel
theorem dX12_readsMourner_99 : decode cX12_readsMourner 99 = .ok (.iconst 0, 1) := by decide +kernel
theorem dX12_readsMourner_100 : decode cX12_readsMourner 100 = .ok (.ireturn, 1) := by decide +kernel
theorem dX12_isNew_0 : decode cX12_isNew 0 = .ok (.aload_n 0, 1) := by decide +kernel
theorem dX12_isNew_1 : decode cX12_isNew 1 = .ok (.aload_n 0, 1) := by decide +kernel
theorem dX12_isNew_2 : decode cX12_isNew 2 = .ok (.getfield 199, 3) := by decide +kernel
theorem dX12_isNew_5 : decode cX12_isNew 5 = .ok (.ifCond .le 7, 3) := by decide +kernel
theorem dX12_isNew_8 : decode cX12_isNew 8 = .ok (.iconst 0, 1) := by decide +kernel
theorem dX12_isNew_9 : decode cX12_isNew 9 = .ok (.goto 7, 3) := by decide +kernel
theorem dX12_isNew_12 : decode cX12_isNew 12 = .ok (.aload_n 0, 1) := by decide +kernel
theorem dX12_isNew_13 : decode cX12_isNew 13 = .ok (.getfield 186, 3) := by decide +kernel
theorem dX12_isNew_16 : decode cX12_isNew 16 = .ok (.putfield 186, 3) := by decide +kernel
theorem dX12_isNew_19 : decode cX12_isNew 19 = .ok (.aload_n 0, 1) := by decide +kernel
theorem dX12_isNew_20 : decode cX12_isNew 20 = .ok (.dup, 1) := by decide +kernel
theorem dX12_isNew_21 : decode cX12_isNew 21 = .ok (.getfield 211, 3) := by decide +kernel
theorem dX12_isNew_24 : decode cX12_isNew 24 = .ok (.aload_n 0, 1) := by decide +kernel
theorem dX12_isNew_25 : decode cX12_isNew 25 = .ok (.getfield 199, 3) := by decide +kernel
theorem dX12_isNew_28 : decode cX12_isNew 28 = .ok (.ifCond .le 7, 3) := by decide +kernel
theorem dX12_isNew_31 : decode cX12_isNew 31 = .ok (.iconst 1, 1) := by decide +kernel
theorem dX12_isNew_32 : decode cX12_isNew 32 = .ok (.goto 4, 3) := by decide +kernel
theorem dX12_isNew_35 : decode cX12_isNew 35 = .ok (.iconst 0, 1) := by decide +kernel
theorem dX12_isNew_36 : decode cX12_isNew 36 = .ok (.invokestatic 154, 3) := by decide +kernel
theorem dX12_isNew_39 : decode cX12_isNew 39 = .ok (.iadd, 1) := by decide +kernel
theorem dX12_isNew_40 : decode cX12_isNew 40 = .ok (.putfield 211, 3) := by decide +kernel
theorem dX12_isNew_43 : decode cX12_isNew 43 = .ok (.aload_n 0, 1) := by decide +kernel
theorem dX12_isNew_44 : decode cX12_isNew 44 = .ok (.getfield 199, 3) := by decide +kernel
theorem dX12_isNew_47 : decode cX12_isNew 47 = .ok (.ireturn, 1) := by decide +kernel
theorem dX12_hearses_0 : decode cX12_hearses 0 = .ok (.aload_n 0, 1) := by decide +kernel
theorem dX12_hearses_1 : decode cX12_hearses 1 = .ok (.iconst 0, 1) := by decide +kernel
theorem dX12_hearses_2 : decode cX12_hearses 2 = .ok (.putfield 112, 3) := by decide +kernel
theorem dX12_hearses_5 : decode cX12_hearses 5 = .ok (.aload_n 0, 1) := by decide +kernel
theorem dX12_hearses_6 : decode cX12_hearses 6 = .ok (.bipush 17, 2) := by decide +kernel
theorem dX12_hearses_8 : decode cX12_hearses 8 = .ok (.invokevirtual 176, 3) := by decide +kernel
theorem dX12_hearses_11 : decode cX12_hearses 11 = .ok (.istore_n 1, 1) := by decide +kernel
theorem dX12_hearses_12 : decode cX12_hearses 12 = .ok (.aload_n 0, 1) := by decide +kernel
theorem dX12_hearses_13 : decode cX12_hearses 13 = .ok (.iconst 0, 1) := by decide +kernel
theorem dX12_hearses_14 : decode cX12_hearses 14 = .ok (.putfield 199, 3) := by decide +kernel
theorem dX12_hearses_17 : decode cX12_hearses 17 = .ok (.iconst 1, 1) := by decide +kernel
theorem dX12_hearses_18 : decode cX12_hearses 18 = .ok (.istore_n 2, 1) := by decide +kernel
theorem dX12_hearses_19 : decode cX12_hearses 19 = .ok (.iload_n 1, 1) := by decide +kernel
theorem dX12_hearses_20 : decode cX12_hearses 20 = .ok (.ifCond .le 7, 3) := by decide +kernel
theorem dX12_hearses_23 : decode cX12_hearses 23 = .ok (.iconst 1, 1) := by decide +kernel
theorem dX12_hearses_24 : decode cX12_hearses 24 = .ok (.goto 4, 3) := by decide +kernel
theorem dX12_hearses_27 : decode cX12_hearses 27 = .ok (.iconst 0, 1) := by decide +kernel
theorem dX12_hearses_28 : decode cX12_hearses 28 = .ok (.istore_n 3, 1) := by decide +kernel
theorem dX12_hearses_29 : decode cX12_hearses 29 = .ok (.iload_n 3, 1) := by decide +kernel
theorem dX12_hearses_30 : decode cX12_hearses 30 = .ok (.ifCond .eq 30, 3) := by decide +kernel
theorem dX12_hearses_33 : decode cX12_hearses 33 = .ok (.aload_n 0, 1) := by decide +kernel
theorem dX12_hearses_34 : decode cX12_hearses 34 = .ok (.invokevirtual 214, 3) := by decide +kernel
theorem dX12_hearses_37 : decode cX12_hearses 37 = .ok (.istore_n 2, 1) := by decide +kernel
theorem dX12_hearses_38 : decode cX12_hearses 38 = .ok (.iload_n 2, 1) := by decide +kernel
theorem dX12_hearses_39 : decode cX12_hearses 39 = .ok (.ifCond .eq 16, 3) := by decide +kernel
theorem dX12_hearses_42 : decode cX12_hearses 42 = .ok (.aload_n 0, 1) := by decide +kernel
theorem dX12_hearses_43 : decode cX12_hearses 43 = .ok (.bipush 59, 2) := by decide +kernel
theorem dX12_hearses_45 : decode cX12_hearses 45 = .ok (.invokevirtual 217, 3) := by decide +kernel
theorem dX12_hearses_48 : decode cX12_hearses 48 = .ok (.ifCond .eq 7, 3) := by decide +kernel
theorem dX12_hearses_51 : decode cX12_hearses 51 = .ok (.iconst 1, 1) := by decide +kernel
theorem dX12_hearses_52 : decode cX12_hearses 52 = .ok (.goto 4, 3) := by decide +kernel
theorem dX12_hearses_55 : decode cX12_hearses 55 = .ok (.iconst 0, 1) := by decide +kernel
theorem dX12_hearses_56 : decode cX12_hearses 56 = .ok (.istore_n 3, 1) := by decide +kernel
theorem dX12_hearses_57 : decode cX12_hearses 57 = .ok (.goto (-28), 3) := by decide +kernel
theorem dX12_hearses_60 : decode cX12_hearses 60 = .ok (.aload_n 0, 1) := by decide +kernel
theorem dX12_hearses_61 : decode cX12_hearses 61 = .ok (.iload_n 1, 1) := by decide +kernel
theorem dX12_hearses_62 : decode cX12_hearses 62 = .ok (.bipush 17, 2) := by decide +kernel
theorem dX12_hearses_64 : decode cX12_hearses 64 = .ok (.iload_n 2, 1) := by decide +kernel
theorem dX12_hearses_65 : decode cX12_hearses 65 = .ok (.invokevirtual 221, 3) := by decide +kernel
theorem dX12_hearses_68 : decode cX12_hearses 68 = .ok (.istore 4, 2) := by decide +kernel
theorem dX12_hearses_70 : decode cX12_hearses 70 = .ok (.iload 4, 2) := by decide +kernel
theorem dX12_hearses_72 : decode cX12_hearses 72 = .ok (.ifCond .ge 6, 3) := by decide +kernel
theorem dX12_hearses_75 : decode cX12_hearses 75 = .ok (.iload 4, 2) := by decide +kernel
theorem dX12_hearses_77 : decode cX12_hearses 77 = .ok (.ireturn, 1) := by decide +kernel
theorem dX12_hearses_78 : decode cX12_hearses 78 = .ok (.iconst 0, 1) := by decide +kernel
theorem dX12_hearses_79 : decode cX12_hearses 79 = .ok (.istore 5, 2) := by decide +kernel
theorem dX12_hearses_81 : decode cX12_hearses 81 = .ok (.iload 5, 2) := by decide +kernel
theorem dX12_hearses_83 : decode cX12_hearses 83 = .ok (.aload_n 0, 1) := by decide +kernel
theorem dX12_hearses_84 : decode cX12_hearses 84 = .ok (.getfield 199, 3) := by decide +kernel
theorem dX12_hearses_87 : decode cX12_hearses 87 = .ok (.if_icmp .ge 48, 3) := by decide +kernel
theorem dX12_hearses_90 : decode cX12_hearses 90 = .ok (.aload_n 0, 1) := by decide +kernel
theorem dX12_hearses_91 : decode cX12_hearses 91 = .ok (.getfield 31, 3) := by decide +kernel
theorem dX12_hearses_94 : decode cX12_hearses 94 = .ok (.aload_n 0, 1) := by decide +kernel
theorem dX12_hearses_95 : decode cX12_hearses 95 = .ok (.getfield 122, 3) := by decide +kernel
theorem dX12_hearses_98 : decode cX12_hearses 98 = .ok (.aload_n 0, 1) := by decide +kernel
theorem dX12_hearses_99 : decode cX12_hearses 99 = .ok (.getfield 43, 3) := by decide +kernel
theorem dX12_hearses_102 : decode cX12_hearses 102 = .ok (.iload 5, 2) := by decide +kernel
theorem dX12_hearses_104 : decode cX12_hearses 104 = .ok (.iaload, 1) := by decide +kernel
theorem dX12_hearses_105 : decode cX12_hearses 105 = .ok (.iastore, 1) := by decide +kernel
theorem dX12_hearses_106 : decode cX12_hearses 106 = .ok (.aload_n 0, 1) := by decide +kernel
theorem dX12_hearses_107 : decode cX12_hearses 107 = .ok (.getfield 31, 3) := by decide +kernel
theorem dX12_hearses_110 : decode cX12_hearses 110 = .ok (.bipush 6, 2) := by decide +kernel
theorem dX12_hearses_112 : decode cX12_hearses 112 = .ok (.aload_n 0, 1) := by decide +kernel
theorem dX12_hearses_113 : decode cX12_hearses 113 = .ok (.getfield 122, 3) := by decide +kernel
theorem dX12_hearses_116 : decode cX12_hearses 116 = .ok (.iadd, 1) := by decide +kernel
theorem dX12_hearses_117 : decode cX12_hearses 117 = .ok (.iconst 0, 1) := by decide +kernel
theorem dX12_hearses_118 : decode cX12_hearses 118 = .ok (.iastore, 1) := by decide +kernel
theorem dX12_hearses_119 : decode cX12_hearses 119 = .ok (.aload_n 0, 1) := by decide +kernel
theorem dX12_hearses_120 : decode cX12_hearses 120 = .ok (.dup, 1) := by decide +kernel
theorem dX12_hearses_121 : decode cX12_hearses 121 = .ok (.getfield 122, 3) := by decide +kernel
theorem dX12_hearses_124 : decode cX12_hearses 124 = .ok (.iconst 1, 1) := by decide +kernel
theorem dX12_hearses_125 : decode cX12_hearses 125 = .ok (.iadd, 1) := by decide +kernel
theorem dX12_hearses_126 : decode cX12_hearses 126 = .ok (.putfield 122, 3) := by decide +kernel
theorem dX12_hearses_129 : decode cX12_hearses 129 = .ok (.iinc 5 1, 3) := by decide +kernel
theorem dX12_hearses_132 : decode cX12_hearses 132 = .ok (.goto (-51), 3) := by decide +kernel
theorem dX12_hearses_135 : decode cX12_hearses 135 = .ok (.aload_n 0, 1) := by decide +kernel
theorem dX12_hearses_136 : decode cX12_hearses 136 = .ok (.invokevirtual 225, 3) := by decide +kernel
theorem dX12_hearses_139 : decode cX12_hearses 139 = .ok (.ireturn, 1) := by decide +kernel
theorem dX12_mourners_0 : decode cX12_mourners 0 = .ok (.aload_n 0, 1) := by decide +kernel
theorem dX12_mourners_1 : decode cX12_mourners 1 = .ok (.iconst 0, 1) := by decide +kernel
theorem dX12_mourners_2 : decode cX12_mourners 2 = .ok (.putfield 112, 3) := by decide +kernel
theorem dX12_mourners_5 : decode cX12_mourners 5 = .ok (.aload_n 0, 1) := by decide +kernel
theorem dX12_mourners_6 : decode cX12_mourners 6 = .ok (.bipush 39, 2) := by decide +kernel
theorem dX12_mourners_8 : decode cX12_mourners 8 = .ok (.invokevirtual 176, 3) := by decide +kernel
theorem dX12_mourners_11 : decode cX12_mourners 11 = .ok (.istore_n 1, 1) := by decide +kernel
theorem dX12_mourners_12 : decode cX12_mourners 12 = .ok (.aload_n 0, 1) := by decide +kernel
theorem dX12_mourners_13 : decode cX12_mourners 13 = .ok (.iconst 0, 1) := by decide +kernel
theorem dX12_mourners_14 : decode cX12_mourners 14 = .ok (.putfield 199, 3) := by decide +kernel
theorem dX12_mourners_17 : decode cX12_mourners 17 = .ok (.iconst 1, 1) := by decide +kernel
theorem dX12_mourners_18 : decode cX12_mourners 18 = .ok (.istore_n 2, 1) := by decide +kernel
theorem dX12_mourners_19 : decode cX12_mourners 19 = .ok (.iload_n 1, 1) := by decide +kernel
theorem dX12_mourners_20 : decode cX12_mourners 20 = .ok (.ifCond .le 7, 3) := by decide +kernel
theorem dX12_mourners_23 : decode cX12_mourners 23 = .ok (.iconst 1, 1) := by decide +kernel
theorem dX12_mourners_24 : decode cX12_mourners 24 = .ok (.goto 4, 3) := by decide +kernel
theorem dX12_mourners_27 : decode cX12_mourners 27 = .ok (.iconst 0, 1) := by decide +kernel
theorem dX12_mourners_28 : decode cX12_mourners 28 = .ok (.istore_n 3, 1) := by decide +kernel
theorem dX12_mourners_29 : decode cX12_mourners 29 = .ok (.iload_n 3, 1) := by decide +kernel
theorem dX12_mourners_30 : decode cX12_mourners 30 = .ok (.ifCond .eq 30, 3) := by decide +kernel
theorem dX12_mourners_33 : decode cX12_mourners 33 = .ok (.aload_n 0, 1) := by decide +kernel
theorem dX12_mourners_34 : decode cX12_mourners 34 = .ok (.invokevirtual 228, 3) := by decide +kernel
theorem dX12_mourners_37 : decode cX12_mourners 37 = .ok (.istore_n 2, 1) := by decide +kernel
theorem dX12_mourners_38 : decode cX12_mourners 38 = .ok (.iload_n 2, 1) := by decide +kernel
theorem dX12_mourners_39 : decode cX12_mourners 39 = .ok (.ifCond .eq 16, 3) := by decide +kernel
theorem dX12_mourners_42 : decode cX12_mourners 42 = .ok (.aload_n 0, 1) := by decide +kernel
theorem dX12_mourners_43 : decode cX12_mourners 43 = .ok (.bipush 59, 2) := by decide +kernel
theorem dX12_mourners_45 : decode cX12_mourners 45 = .ok (.invokevirtual 217, 3) := by decide +kernel
theorem dX12_mourners_48 : decode cX12_mourners 48 = .ok (.ifCond .eq 7, 3) := by decide +kernel
theorem dX12_mourners_51 : decode cX12_mourners 51 = .ok (.iconst 1, 1) := by decide +kernel
theorem dX12_mourners_52 : decode cX12_mourners 52 = .ok (.goto 4, 3) := by decide +kernel
theorem dX12_mourners_55 : decode cX12_mourners 55 = .ok (.iconst 0, 1) := by decide +kernel
theorem dX12_mourners_56 : decode cX12_mourners 56 = .ok (.istore_n 3, 1) := by decide +kernel
theorem dX12_mourners_57 : decode cX12_mourners 57 = .ok (.goto (-28), 3) := by decide +kernel
theorem dX12_mourners_60 : decode cX12_mourners 60 = .ok (.aload_n 0, 1) := by decide +kernel
theorem dX12_mourners_61 : decode cX12_mourners 61 = .ok (.iload_n 1, 1) := by decide +kernel
theorem dX12_mourners_62 : decode cX12_mourners 62 = .ok (.bipush 39, 2) := by decide +kernel
theorem dX12_mourners_64 : decode cX12_mourners 64 = .ok (.iload_n 2, 1) := by decide +kernel
theorem dX12_mourners_65 : decode cX12_mourners 65 = .ok (.invokevirtual 221, 3) := by decide +kernel
theorem dX12_mourners_68 : decode cX12_mourners 68 = .ok (.istore 4, 2) := by decide +kernel
theorem dX12_mourners_70 : decode cX12_mourners 70 = .ok (.iload 4, 2) := by decide +kernel
theorem dX12_mourners_72 : decode cX12_mourners 72 = .ok (.ifCond .ge 6, 3) := by decide +kernel
theorem dX12_mourners_75 : decode cX12_mourners 75 = .ok (.iload 4, 2) := by decide +kernel
theorem dX12_mourners_77 : decode cX12_mourners 77 = .ok (.ireturn, 1) := by decide +kernel
theorem dX12_mourners_78 : decode cX12_mourners 78 = .ok (.iconst 0, 1) := by decide +kernel
theorem dX12_mourners_79 : decode cX12_mourners 79 = .ok (.istore 5, 2) := by decide +kernel
theorem dX12_mourners_81 : decode cX12_mourners 81 = .ok (.iload 5, 2) := by decide +kernel
theorem dX12_mourners_83 : decode cX12_mourners 83 = .ok (.aload_n 0, 1) := by decide +kernel
theorem dX12_mourners_84 : decode cX12_mourners 84 = .ok (.getfield 199, 3) := by decide +kernel
theorem dX12_mourners_87 : decode cX12_mourners 87 = .ok (.if_icmp .ge 86, 3) := by decide +kernel
theorem dX12_mourners_90 : decode cX12_mourners 90 = .ok (.aload_n 0, 1) := by decide +kernel
theorem dX12_mourners_91 : decode cX12_mourners 91 = .ok (.getfield 31, 3) := by decide +kernel
theorem dX12_mourners_94 : decode cX12_mourners 94 = .ok (.bipush 13, 2) := by decide +kernel
theorem dX12_mourners_96 : decode cX12_mourners 96 = .ok (.aload_n 0, 1) := by decide +kernel
theorem dX12_mourners_97 : decode cX12_mourners 97 = .ok (.getfield 129, 3) := by decide +kernel
theorem dX12_mourners_100 : decode cX12_mourners 100 = .ok (.iadd, 1) := by decide +kernel
theorem dX12_mourners_101 : decode cX12_mourners 101 = .ok (.aload_n 0, 1) := by decide +kernel
theorem dX12_mourners_102 : decode cX12_mourners 102 = .ok (.getfield 43, 3) := by decide +kernel
theorem dX12_mourners_105 : decode cX12_mourners 105 = .ok (.iconst 2, 1) := by decide +kernel
theorem dX12_mourners_106 : decode cX12_mourners 106 = .ok (.iload 5, 2) := by decide +kernel
theorem dX12_mourners_108 : decode cX12_mourners 108 = .ok (.imul, 1) := by decide +kernel
theorem dX12_mourners_109 : decode cX12_mourners 109 = .ok (.iaload, 1) := by decide +kernel
theorem dX12_mourners_110 : decode cX12_mourners 110 = .ok (.iastore, 1) := by decide +kernel
theorem dX12_mourners_111 : decode cX12_mourners 111 = .ok (.aload_n 0, 1) := by decide +kernel
theorem dX12_mourners_112 : decode cX12_mourners 112 = .ok (.getfield 24, 3) := by decide +kernel
theorem dX12_mourners_115 : decode cX12_mourners 115 = .ok (.aload_n 0, 1) := by decide +kernel
theorem dX12_mourners_116 : decode cX12_mourners 116 = .ok (.getfield 129, 3) := by decide +kernel
theorem dX12_mourners_119 : decode cX12_mourners 119 = .ok (.aload_n 0, 1) := by decide +kernel
theorem dX12_mourners_120 : decode cX12_mourners 120 = .ok (.getfield 43, 3) := by decide +kernel
theorem dX12_mourners_123 : decode cX12_mourners 123 = .ok (.iconst 2, 1) := by decide +kernel
theorem dX12_mourners_124 : decode cX12_mourners 124 = .ok (.iload 5, 2) := by decide +kernel
theorem dX12_mourners_126 : decode cX12_mourners 126 = .ok (.imul, 1) := by decide +kernel
theorem dX12_mourners_127 : decode cX12_mourners 127 = .ok (.iconst 1, 1) := by decide +kernel
theorem dX12_mourners_128 : decode cX12_mourners 128 = .ok (.iadd, 1) := by decide +kernel
theorem dX12_mourners_129 : decode cX12_mourners 129 = .ok (.iaload, 1) := by decide +kernel
theorem dX12_mourners_130 : decode cX12_mourners 130 = .ok (.iastore, 1) := by decide +kernel
theorem dX12_mourners_131 : decode cX12_mourners 131 = .ok (.aload_n 0, 1) := by decide +kernel
theorem dX12_mourners_132 : decode cX12_mourners 132 = .ok (.getfield 31, 3) := by decide +kernel
theorem dX12_mourners_135 : decode cX12_mourners 135 = .ok (.bipush 21, 2) := by decide +kernel
theorem dX12_mourners_137 : decode cX12_mourners 137 = .ok (.aload_n 0, 1) := by decide +kernel
theorem dX12_mourners_138 : decode cX12_mourners 138 = .ok (.getfield 129, 3) := by decide +kernel
theorem dX12_mourners_141 : decode cX12_mourners 141 = .ok (.iadd, 1) := by decide +kernel
theorem dX12_mourners_142 : decode cX12_mourners 142 = .ok (.iconst (-1), 1) := by decide +kernel
theorem dX12_mourners_143 : decode cX12_mourners 143 = .ok (.iastore, 1) := by decide +kernel
theorem dX12_mourners_144 : decode cX12_mourners 144 = .ok (.aload_n 0, 1) := by decide +kernel
theorem dX12_mourners_145 : decode cX12_mourners 145 = .ok (.getfield 31, 3) := by decide +kernel
theorem dX12_mourners_148 : decode cX12_mourners 148 = .ok (.bipush 29, 2) := by decide +kernel
theorem dX12_mourners_150 : decode cX12_mourners 150 = .ok (.aload_n 0, 1) := by decide +kernel
theorem dX12_mourners_151 : decode cX12_mourners 151 = .ok (.getfield 129, 3) := by decide +kernel
theorem dX12_mourners_154 : decode cX12_mourners 154 = .ok (.iadd, 1) := by decide +kernel
theorem dX12_mourners_155 : decode cX12_mourners 155 = .ok (.iconst (-1), 1) := by decide +kernel
theorem dX12_mourners_156 : decode cX12_mourners 156 = .ok (.iastore, 1) := by decide +kernel
theorem dX12_mourners_157 : decode cX12_mourners 157 = .ok (.aload_n 0, 1) := by decide +kernel
theorem dX12_mourners_158 : decode cX12_mourners 158 = .ok (.dup, 1) := by decide +kernel
theorem dX12_mourners_159 : decode cX12_mourners 159 = .ok (.getfield 129, 3) := by decide +kernel
theorem dX12_mourners_162 : decode cX12_mourners 162 = .ok (.iconst 1, 1) := by decide +kernel
theorem dX12_mourners_163 : decode cX12_mourners 163 = .ok (.iadd, 1) := by decide +kernel
theorem dX12_mourners_164 : decode cX12_mourners 164 = .ok (.putfield 129, 3) := by decide +kernel
theorem dX12_mourners_167 : decode cX12_mourners 167 = .ok (.iinc 5 1, 3) := by decide +kernel
theorem dX12_mourners_170 : decode cX12_mourners 170 = .ok (.goto (-89), 3) := by decide +kernel
theorem dX12_mourners_173 : decode cX12_mourners 173 = .ok (.aload_n 0, 1) := by decide +kernel
theorem dX12_mourners_174 : decode cX12_mourners 174 = .ok (.invokevirtual 225, 3) := by decide +kernel
theorem dX12_mourners_177 : decode cX12_mourners 177 = .ok (.ireturn, 1) := by decide +kernel
theorem dX12_weather_0 : decode cX12_weather 0 = .ok (.aload_n 0, 1) := by decide +kernel
theorem dX12_weather_1 : decode cX12_weather 1 = .ok (.iconst 0, 1) := by decide +kernel
theorem dX12_weather_2 : decode cX12_weather 2 = .ok (.putfield 112, 3) := by decide +kernel
theorem dX12_weather_5 : decode cX12_weather 5 = .ok (.aload_n 0, 1) := by decide +kernel
theorem dX12_weather_6 : decode cX12_weather 6 = .ok (.bipush 80, 2) := by decide +kernel
theorem dX12_weather_8 : decode cX12_weather 8 = .ok (.invokevirtual 176, 3) := by decide +kernel
theorem dX12_weather_11 : decode cX12_weather 11 = .ok (.pop, 1) := by decide +kernel
theorem dX12_weather_12 : decode cX12_weather 12 = .ok (.iconst 0, 1) := by decide +kernel
theorem dX12_weather_13 : decode cX12_weather 13 = .ok (.istore_n 1, 1) := by decide +kernel
theorem dX12_weather_14 : decode cX12_weather 14 = .ok (.iload_n 1, 1) := by decide +kernel
theorem dX12_weather_15 : decode cX12_weather 15 = .ok (.bipush 20, 2) := by decide +kernel
theorem dX12_weather_17 : decode cX12_weather 17 = .ok (.if_icmp .ge 27, 3) := by decide +kernel
theorem dX12_weather_20 : decode cX12_weather 20 = .ok (.aload_n 0, 1) := by decide +kernel
theorem dX12_weather_21 : decode cX12_weather 21 = .ok (.invokevirtual 172, 3) := by decide +kernel
theorem dX12_weather_24 : decode cX12_weather 24 = .ok (.ifCond .eq 20, 3) := by decide +kernel
theorem dX12_weather_27 : decode cX12_weather 27 = .ok (.aload_n 0, 1) := by decide +kernel
theorem dX12_weather_28 : decode cX12_weather 28 = .ok (.getfield 46, 3) := by decide +kernel
theorem dX12_weather_31 : decode cX12_weather 31 = .ok (.iload_n 1, 1) := by decide +kernel
theorem dX12_weather_32 : decode cX12_weather 32 = .ok (.aload_n 0, 1) := by decide +kernel
theorem dX12_weather_33 : decode cX12_weather 33 = .ok (.iconst 1, 1) := by decide +kernel
theorem dX12_weather_34 : decode cX12_weather 34 = .ok (.invokevirtual 189, 3) := by decide +kernel
theorem dX12_weather_37 : decode cX12_weather 37 = .ok (.iastore, 1) := by decide +kernel
theorem dX12_weather_38 : decode cX12_weather 38 = .ok (.iinc 1 1, 3) := by decide +kernel
theorem dX12_weather_41 : decode cX12_weather 41 = .ok (.goto (-27), 3) := by decide +kernel
theorem dX12_weather_44 : decode cX12_weather 44 = .ok (.iload_n 1, 1) := by decide +kernel
theorem dX12_weather_45 : decode cX12_weather 45 = .ok (.ifCond .eq 14, 3) := by decide +kernel
theorem dX12_weather_48 : decode cX12_weather 48 = .ok (.aload_n 0, 1) := by decide +kernel
theorem dX12_weather_49 : decode cX12_weather 49 = .ok (.getfield 139, 3) := by decide +kernel
theorem dX12_weather_52 : decode cX12_weather 52 = .ok (.aload_n 0, 1) := by decide +kernel
theorem dX12_weather_53 : decode cX12_weather 53 = .ok (.getfield 151, 3) := by decide +kernel
theorem dX12_weather_56 : decode cX12_weather 56 = .ok (.if_icmp .ge 10, 3) := by decide +kernel
theorem dX12_weather_59 : decode cX12_weather 59 = .ok (.iconst (-1), 1) := by decide +kernel
theorem dX12_weather_60 : decode cX12_weather 60 = .ok (.aload_n 0, 1) := by decide +kernel
theorem dX12_weather_61 : decode cX12_weather 61 = .ok (.getfield 139, 3) := by decide +kernel
theorem dX12_weather_64 : decode cX12_weather 64 = .ok (.isub, 1) := by decide +kernel
theorem dX12_weather_65 : decode cX12_weather 65 = .ok (.ireturn, 1) := by decide +kernel
theorem dX12_weather_66 : decode cX12_weather 66 = .ok (.aload_n 0, 1) := by decide +kernel
theorem dX12_weather_67 : decode cX12_weather 67 = .ok (.iload_n 1, 1) := by decide +kernel
theorem dX12_weather_68 : decode cX12_weather 68 = .ok (.putfield 17, 3) := by decide +kernel
theorem dX12_weather_71 : decode cX12_weather 71 = .ok (.iconst 0, 1) := by decide +kernel
theorem dX12_weather_72 : decode cX12_weather 72 = .ok (.istore_n 2, 1) := by decide +kernel
theorem dX12_weather_73 : decode cX12_weather 73 = .ok (.iload_n 2, 1) := by decide +kernel
theorem dX12_weather_74 : decode cX12_weather 74 = .ok (.iload_n 1, 1) := by decide +kernel
theorem dX12_weather_75 : decode cX12_weather 75 = .ok (.if_icmp .ge 21, 3) := by decide +kernel
theorem dX12_weather_78 : decode cX12_weather 78 = .ok (.aload_n 0, 1) := by decide +kernel
theorem dX12_weather_79 : decode cX12_weather 79 = .ok (.getfield 28, 3) := by decide +kernel
theorem dX12_weather_82 : decode cX12_weather 82 = .ok (.iload_n 2, 1) := by decide +kernel
theorem dX12_weather_83 : decode cX12_weather 83 = .ok (.aload_n 0, 1) := by decide +kernel
theorem dX12_weather_84 : decode cX12_weather 84 = .ok (.getfield 46, 3) := by decide +kernel
theorem dX12_weather_87 : decode cX12_weather 87 = .ok (.iload_n 2, 1) := by decide +kernel
theorem dX12_weather_88 : decode cX12_weather 88 = .ok (.iaload, 1) := by decide +kernel
theorem dX12_weather_89 : decode cX12_weather 89 = .ok (.iastore, 1) := by decide +kernel
theorem dX12_weather_90 : decode cX12_weather 90 = .ok (.iinc 2 1, 3) := by decide +kernel
theorem dX12_weather_93 : decode cX12_weather 93 = .ok (.goto (-20), 3) := by decide +kernel
theorem dX12_weather_96 : decode cX12_weather 96 = .ok (.iload_n 1, 1) := by decide +kernel
theorem dX12_weather_97 : decode cX12_weather 97 = .ok (.ireturn, 1) := by decide +kernel
theorem dX12_weatherOn_0 : decode cX12_weatherOn 0 = .ok (.aload_n 0, 1) := by decide +kernel
theorem dX12_weatherOn_1 : decode cX12_weatherOn 1 = .ok (.getfield 28, 3) := by decide +kernel
theorem dX12_weatherOn_4 : decode cX12_weatherOn 4 = .ok (.iload_n 1, 1) := by decide +kernel
theorem dX12_weatherOn_5 : decode cX12_weatherOn 5 = .ok (.aload_n 0, 1) := by decide +kernel
theorem dX12_weatherOn_6 : decode cX12_weatherOn 6 = .ok (.getfield 17, 3) := by decide +kernel
theorem dX12_weatherOn_9 : decode cX12_weatherOn 9 = .ok (.irem, 1) := by decide +kernel
theorem dX12_weatherOn_10 : decode cX12_weatherOn 10 = .ok (.iaload, 1) := by decide +kernel
theorem dX12_weatherOn_11 : decode cX12_weatherOn 11 = .ok (.ireturn, 1) := by decide +kernel
theorem dX12_codes_0 : decode cX12_codes 0 = .ok (.aload_n 0, 1) := by decide +kernel
theorem dX12_codes_1 : decode cX12_codes 1 = .ok (.getfield 52, 3) := by decide +kernel
theorem dX12_codes_4 : decode cX12_codes 4 = .ok (.aload_n 0, 1) := by decide +kernel
theorem dX12_codes_5 : decode cX12_codes 5 = .ok (.getfield 231, 3) := by decide +kernel
theorem dX12_codes_8 : decode cX12_codes 8 = .ok (.iload_n 1, 1) := by decide +kernel
theorem dX12_codes_9 : decode cX12_codes 9 = .ok (.iastore, 1) := by decide +kernel
theorem dX12_codes_10 : decode cX12_codes 10 = .ok (.aload_n 0, 1) := by decide +kernel
theorem dX12_codes_11 : decode cX12_codes 11 = .ok (.dup, 1) := by decide +kernel
theorem dX12_codes_12 : decode cX12_codes 12 = .ok (.getfield 231, 3) := by decide +kernel
theorem dX12_codes_15 : decode cX12_codes 15 = .ok (.iconst 1, 1) := by decide +kernel
theorem dX12_codes_16 : decode cX12_codes 16 = .ok (.iadd, 1) := by decide +kernel
theorem dX12_codes_17 : decode cX12_codes 17 = .ok (.putfield 231, 3) := by decide +kernel
theorem dX12_codes_20 : decode cX12_codes 20 = .ok (.return_, 1) := by decide +kernel
theorem dX12_readsThing_0 : decode cX12_readsThing 0 = .ok (.aload_n 0, 1) := by decide +kernel
theorem dX12_readsThing_1 : decode cX12_readsThing 1 = .ok (.bipush 45, 2) := by decide +kernel
theorem dX12_readsThing_3 : decode cX12_readsThing 3 = .ok (.invokevirtual 217, 3) := by decide +kernel
theorem dX12_readsThing_6 : decode cX12_readsThing 6 = .ok (.ifCond .eq 17, 3) := by decide +kernel
theorem dX12_readsThing_9 : decode cX12_readsThing 9 = .ok (.aload_n 0, 1) := by decide +kernel
theorem dX12_readsThing_10 : decode cX12_readsThing 10 = .ok (.invokevirtual 234, 3) := by decide +kernel
theorem dX12_readsThing_13 : decode cX12_readsThing 13 = .ok (.istore_n 1, 1) := by decide +kernel
theorem dX12_readsThing_14 : decode cX12_readsThing 14 = .ok (.aload_n 0, 1) := by decide +kernel
theorem dX12_readsThing_15 : decode cX12_readsThing 15 = .ok (.sipush 3000, 3) := by decide +kernel
theorem dX12_readsThing_18 : decode cX12_readsThing 18 = .ok (.invokevirtual 237, 3) := by decide +kernel
theorem dX12_readsThing_21 : decode cX12_readsThing 21 = .ok (.iload_n 1, 1) := by decide +kernel
theorem dX12_readsThing_22 : decode cX12_readsThing 22 = .ok (.ireturn, 1) := by decide +kernel
theorem dX12_readsThing_23 : decode cX12_readsThing 23 = .ok (.aload_n 0, 1) := by decide +kernel
theorem dX12_readsThing_24 : decode cX12_readsThing 24 = .ok (.invokevirtual 172, 3) := by decide +kernel
theorem dX12_readsThing_27 : decode cX12_readsThing 27 = .ok (.ifCond .eq 14, 3) := by decide +kernel
theorem dX12_readsThing_30 : decode cX12_readsThing 30 = .ok (.aload_n 0, 1) := by decide +kernel
theorem dX12_readsThing_31 : decode cX12_readsThing 31 = .ok (.aload_n 0, 1) := by decide +kernel
theorem dX12_readsThing_32 : decode cX12_readsThing 32 = .ok (.iconst 3, 1) := by decide +kernel
theorem dX12_readsThing_33 : decode cX12_readsThing 33 = .ok (.invokevirtual 189, 3) := by decide +kernel
theorem dX12_readsThing_36 : decode cX12_readsThing 36 = .ok (.invokevirtual 237, 3) := by decide +kernel
theorem dX12_readsThing_39 : decode cX12_readsThing 39 = .ok (.iconst 1, 1) := by decide +kernel
theorem dX12_readsThing_40 : decode cX12_readsThing 40 = .ok (.ireturn, 1) := by decide +kernel
theorem dX12_readsThing_41 : decode cX12_readsThing 41 = .ok (.aload_n 0, 1) := by decide +kernel
theorem dX12_readsThing_42 : decode cX12_readsThing 42 = .ok (.ldc 241, 2) := by decide +kernel
theorem dX12_readsThing_44 : decode cX12_readsThing 44 = .ok (.invokevirtual 182, 3) := by decide +kernel
theorem dX12_readsThing_47 : decode cX12_readsThing 47 = .ok (.istore_n 1, 1) := by decide +kernel
theorem dX12_readsThing_48 : decode cX12_readsThing 48 = .ok (.iload_n 1, 1) := by decide +kernel
theorem dX12_readsThing_49 : decode cX12_readsThing 49 = .ok (.ifCond .lt 14, 3) := by decide +kernel
theorem dX12_readsThing_52 : decode cX12_readsThing 52 = .ok (.aload_n 0, 1) := by decide +kernel
theorem dX12_readsThing_53 : decode cX12_readsThing 53 = .ok (.sipush 1000, 3) := by decide +kernel
theorem dX12_readsThing_56 : decode cX12_readsThing 56 = .ok (.iload_n 1, 1) := by decide +kernel
theorem dX12_readsThing_57 : decode cX12_readsThing 57 = .ok (.iadd, 1) := by decide +kernel
theorem dX12_readsThing_58 : decode cX12_readsThing 58 = .ok (.invokevirtual 237, 3) := by decide +kernel
theorem dX12_readsThing_61 : decode cX12_readsThing 61 = .ok (.iconst 1, 1) := by decide +kernel
theorem dX12_readsThing_62 : decode cX12_readsThing 62 = .ok (.ireturn, 1) := by decide +kernel
theorem dX12_readsThing_63 : decode cX12_readsThing 63 = .ok (.aload_n 0, 1) := by decide +kernel
theorem dX12_readsThing_64 : decode cX12_readsThing 64 = .ok (.getfield 142, 3) := by decide +kernel
theorem dX12_readsThing_67 : decode cX12_readsThing 67 = .ok (.iconst 4, 1) := by decide +kernel
theorem dX12_readsThing_68 : decode cX12_readsThing 68 = .ok (.if_icmp .eq 12, 3) := by decide +kernel
theorem dX12_readsThing_71 : decode cX12_readsThing 71 = .ok (.aload_n 0, 1) := by decide +kernel
theorem dX12_readsThing_72 : decode cX12_readsThing 72 = .ok (.bipush 40, 2) := by decide +kernel
theorem dX12_readsThing_74 : decode cX12_readsThing 74 = .ok (.invokevirtual 217, 3) := by decide +kernel
theorem dX12_readsThing_77 : decode cX12_readsThing 77 = .ok (.ifCond .ne 5, 3) := by decide +kernel
theorem dX12_readsThing_80 : decode cX12_readsThing 80 = .ok (.iconst 0, 1) := by decide +kernel
theorem dX12_readsThing_81 : decode cX12_readsThing 81 = .ok (.ireturn, 1) := by decide +kernel
theorem dX12_readsThing_82 : decode cX12_readsThing 82 = .ok (.aload_n 0, 1) := by decide +kernel
theorem dX12_readsThing_83 : decode cX12_readsThing 83 = .ok (.dup, 1) := by decide +kernel
theorem dX12_readsThing_84 : decode cX12_readsThing 84 = .ok (.getfield 142, 3) := by decide +kernel
theorem dX12_readsThing_87 : decode cX12_readsThing 87 = .ok (.iconst 1, 1) := by decide +kernel
theorem dX12_readsThing_88 : decode cX12_readsThing 88 = .ok (.iadd, 1) := by decide +kernel
theorem dX12_readsThing_89 : decode cX12_readsThing 89 = .ok (.putfield 142, 3) := by decide +kernel
theorem dX12_readsThing_92 : decode cX12_readsThing 92 = .ok (.aload_n 0, 1) := by decide +kernel
theorem dX12_readsThing_93 : decode cX12_readsThing 93 = .ok (.iconst 0, 1) := by decide +kernel
theorem dX12_readsThing_94 : decode cX12_readsThing 94 = .ok (.invokevirtual 243, 3) := by decide +kernel
theorem dX12_readsThing_97 : decode cX12_readsThing 97 = .ok (.ifCond .eq 12, 3) := by decide +kernel
theorem dX12_readsThing_100 : decode cX12_readsThing 100 = .ok (.aload_n 0, 1) := by decide +kernel
theorem dX12_readsThing_101 : decode cX12_readsThing 101 = .ok (.bipush 41, 2) := by decide +kernel
theorem dX12_readsThing_103 : decode cX12_readsThing 103 = .ok (.invokevirtual 217, 3) := by decide +kernel
theorem dX12_readsThing_106 : decode cX12_readsThing 106 = .ok (.ifCond .ne 5, 3) := by decide +kernel
theorem dX12_readsThing_109 : decode cX12_readsThing 109 = .ok (.iconst 0, 1) := by decide +kernel
theorem dX12_readsThing_110 : decode cX12_readsThing 110 = .ok (.ireturn, 1) := by decide +kernel
theorem dX12_readsThing_111 : decode cX12_readsThing 111 = .ok (.aload_n 0, 1) := by decide +kernel
theorem dX12_readsThing_112 : decode cX12_readsThing 112 = .ok (.dup, 1) := by decide +kernel
theorem dX12_readsThing_113 : decode cX12_readsThing 113 = .ok (.getfield 142, 3) := by decide +kernel
theorem dX12_readsThing_116 : decode cX12_readsThing 116 = .ok (.iconst 1, 1) := by decide +kernel
theorem dX12_readsThing_117 : decode cX12_readsThing 117 = .ok (.isub, 1) := by decide +kernel
theorem dX12_readsThing_118 : decode cX12_readsThing 118 = .ok (.putfield 142, 3) := by decide +kernel
theorem dX12_readsThing_121 : decode cX12_readsThing 121 = .ok (.iconst 1, 1) := by decide +kernel
theorem dX12_readsThing_122 : decode cX12_readsThing 122 = .ok (.ireturn, 1) := by decide +kernel
theorem dX12_readsRank_0 : decode cX12_readsRank 0 = .ok (.iload_n 1, 1) := by decide +kernel
theorem dX12_readsRank_1 : decode cX12_readsRank 1 = .ok (.iconst 3, 1) := by decide +kernel
theorem dX12_readsRank_2 : decode cX12_readsRank 2 = .ok (.if_icmp .ne 8, 3) := by decide +kernel
theorem dX12_readsRank_5 : decode cX12_readsRank 5 = .ok (.aload_n 0, 1) := by decide +kernel
theorem dX12_readsRank_6 : decode cX12_readsRank 6 = .ok (.invokevirtual 234, 3) := by decide +kernel
theorem dX12_readsRank_9 : decode cX12_readsRank 9 = .ok (.ireturn, 1) := by decide +kernel
theorem dX12_readsRank_10 : decode cX12_readsRank 10 = .ok (.aload_n 0, 1) := by decide +kernel
theorem dX12_readsRank_11 : decode cX12_readsRank 11 = .ok (.iload_n 1, 1) := by decide +kernel
theorem dX12_readsRank_12 : decode cX12_readsRank 12 = .ok (.iconst 1, 1) := by decide +kernel
theorem dX12_readsRank_13 : decode cX12_readsRank 13 = .ok (.iadd, 1) := by decide +kernel
theorem dX12_readsRank_14 : decode cX12_readsRank 14 = .ok (.invokevirtual 243, 3) := by decide +kernel
theorem dX12_readsRank_17 : decode cX12_readsRank 17 = .ok (.ifCond .ne 5, 3) := by decide +kernel
theorem dX12_readsRank_20 : decode cX12_readsRank 20 = .ok (.iconst 0, 1) := by decide +kernel
theorem dX12_readsRank_21 : decode cX12_readsRank 21 = .ok (.ireturn, 1) := by decide +kernel
theorem dX12_readsRank_22 : decode cX12_readsRank 22 = .ok (.iconst 1, 1) := by decide +kernel
theorem dX12_readsRank_23 : decode cX12_readsRank 23 = .ok (.istore_n 2, 1) := by decide +kernel
theorem dX12_readsRank_24 : decode cX12_readsRank 24 = .ok (.iload_n 2, 1) := by decide +kernel
theorem dX12_readsRank_25 : decode cX12_readsRank 25 = .ok (.ifCond .eq 88, 3) := by decide +kernel
theorem dX12_readsRank_28 : decode cX12_readsRank 28 = .ok (.aload_n 0, 1) := by decide +kernel
theorem dX12_readsRank_29 : decode cX12_readsRank 29 = .ok (.iload_n 1, 1) := by decide +kernel
theorem dX12_readsRank_30 : decode cX12_readsRank 30 = .ok (.ifCond .ne 8, 3) := by decide +kernel
theorem dX12_readsRank_33 : decode cX12_readsRank 33 = .ok (.ldc 246, 2) := by decide +kernel
theorem dX12_readsRank_35 : decode cX12_readsRank 35 = .ok (.goto 15, 3) := by decide +kernel
theorem dX12_readsRank_38 : decode cX12_readsRank 38 = .ok (.iload_n 1, 1) := by decide +kernel
theorem dX12_readsRank_39 : decode cX12_readsRank 39 = .ok (.iconst 1, 1) := by decide +kernel
theorem dX12_readsRank_40 : decode cX12_readsRank 40 = .ok (.if_icmp .ne 8, 3) := by decide +kernel
theorem dX12_readsRank_43 : decode cX12_readsRank 43 = .ok (.ldc 248, 2) := by decide +kernel
theorem dX12_readsRank_45 : decode cX12_readsRank 45 = .ok (.goto 5, 3) := by decide +kernel
theorem dX12_readsRank_48 : decode cX12_readsRank 48 = .ok (.ldc 250, 2) := by decide +kernel
theorem dX12_readsRank_50 : decode cX12_readsRank 50 = .ok (.invokevirtual 182, 3) := by decide +kernel
theorem dX12_readsRank_53 : decode cX12_readsRank 53 = .ok (.istore_n 3, 1) := by decide +kernel
theorem dX12_readsRank_54 : decode cX12_readsRank 54 = .ok (.iload_n 3, 1) := by decide +kernel
theorem dX12_readsRank_55 : decode cX12_readsRank 55 = .ok (.ifCond .ge 5, 3) := by decide +kernel
theorem dX12_readsRank_58 : decode cX12_readsRank 58 = .ok (.iconst 1, 1) := by decide +kernel
theorem dX12_readsRank_59 : decode cX12_readsRank 59 = .ok (.ireturn, 1) := by decide +kernel
theorem dX12_readsRank_60 : decode cX12_readsRank 60 = .ok (.aload_n 0, 1) := by decide +kernel
theorem dX12_readsRank_61 : decode cX12_readsRank 61 = .ok (.iload_n 1, 1) := by decide +kernel
theorem dX12_readsRank_62 : decode cX12_readsRank 62 = .ok (.iconst 1, 1) := by decide +kernel
theorem dX12_readsRank_63 : decode cX12_readsRank 63 = .ok (.iadd, 1) := by decide +kernel
theorem dX12_readsRank_64 : decode cX12_readsRank 64 = .ok (.invokevirtual 243, 3) := by decide +kernel
theorem dX12_readsRank_67 : decode cX12_readsRank 67 = .ok (.ifCond .ne 5, 3) := by decide +kernel
theorem dX12_readsRank_70 : decode cX12_readsRank 70 = .ok (.iconst 0, 1) := by decide +kernel
theorem dX12_readsRank_71 : decode cX12_readsRank 71 = .ok (.ireturn, 1) := by decide +kernel
theorem dX12_readsRank_72 : decode cX12_readsRank 72 = .ok (.aload_n 0, 1) := by decide +kernel
theorem dX12_readsRank_73 : decode cX12_readsRank 73 = .ok (.sipush 2000, 3) := by decide +kernel
theorem dX12_readsRank_76 : decode cX12_readsRank 76 = .ok (.iload_n 3, 1) := by decide +kernel
theorem dX12_readsRank_77 : decode cX12_readsRank 77 = .ok (.iadd, 1) := by decide +kernel
theorem dX12_readsRank_78 : decode cX12_readsRank 78 = .ok (.iload_n 1, 1) := by decide +kernel
theorem dX12_readsRank_79 : decode cX12_readsRank 79 = .ok (.ifCond .ne 7, 3) := by decide +kernel
theorem dX12_readsRank_82 : decode cX12_readsRank 82 = .ok (.iconst 0, 1) := by decide +kernel
theorem dX12_readsRank_83 : decode cX12_readsRank 83 = .ok (.goto 13, 3) := by decide +kernel
theorem dX12_readsRank_86 : decode cX12_readsRank 86 = .ok (.iload_n 1, 1) := by decide +kernel
theorem dX12_readsRank_87 : decode cX12_readsRank 87 = .ok (.iconst 1, 1) := by decide +kernel
theorem dX12_readsRank_88 : decode cX12_readsRank 88 = .ok (.if_icmp .ne 7, 3) := by decide +kernel
theorem dX12_readsRank_91 : decode cX12_readsRank 91 = .ok (.iconst 3, 1) := by decide +kernel
theorem dX12_readsRank_92 : decode cX12_readsRank 92 = .ok (.goto 4, 3) := by decide +kernel
theorem dX12_readsRank_95 : decode cX12_readsRank 95 = .ok (.iconst 5, 1) := by decide +kernel
theorem dX12_readsRank_96 : decode cX12_readsRank 96 = .ok (.iadd, 1) := by decide +kernel
theorem dX12_readsRank_97 : decode cX12_readsRank 97 = .ok (.invokevirtual 237, 3) := by decide +kernel
theorem dX12_readsRank_100 : decode cX12_readsRank 100 = .ok (.iload_n 1, 1) := by decide +kernel
theorem dX12_readsRank_101 : decode cX12_readsRank 101 = .ok (.ifCond .le 7, 3) := by decide +kernel
theorem dX12_readsRank_104 : decode cX12_readsRank 104 = .ok (.iconst 1, 1) := by decide +kernel
theorem dX12_readsRank_105 : decode cX12_readsRank 105 = .ok (.goto 4, 3) := by decide +kernel
theorem dX12_readsRank_108 : decode cX12_readsRank 108 = .ok (.iconst 0, 1) := by decide +kernel
theorem dX12_readsRank_109 : decode cX12_readsRank 109 = .ok (.istore_n 2, 1) := by decide +kernel
theorem dX12_readsRank_110 : decode cX12_readsRank 110 = .ok (.goto (-86), 3) := by decide +kernel
theorem dX12_readsRank_113 : decode cX12_readsRank 113 = .ok (.iconst 1, 1) := by decide +kernel
theorem dX12_readsRank_114 : decode cX12_readsRank 114 = .ok (.ireturn, 1) := by decide +kernel
theorem dX12_readsRule_0 : decode cX12_readsRule 0 = .ok (.aload_n 0, 1) := by decide +kernel
theorem dX12_readsRule_1 : decode cX12_readsRule 1 = .ok (.bipush 40, 2) := by decide +kernel
theorem dX12_readsRule_3 : decode cX12_readsRule 3 = .ok (.invokevirtual 176, 3) := by decide +kernel
theorem dX12_readsRule_6 : decode cX12_readsRule 6 = .ok (.istore_n 1, 1) := by decide +kernel
theorem dX12_readsRule_7 : decode cX12_readsRule 7 = .ok (.aload_n 0, 1) := by decide +kernel
theorem dX12_readsRule_8 : decode cX12_readsRule 8 = .ok (.iconst 0, 1) := by decide +kernel
theorem dX12_readsRule_9 : decode cX12_readsRule 9 = .ok (.putfield 231, 3) := by decide +kernel
theorem dX12_readsRule_12 : decode cX12_readsRule 12 = .ok (.iload_n 1, 1) := by decide +kernel
theorem dX12_readsRule_13 : decode cX12_readsRule 13 = .ok (.ifCond .eq 11, 3) := by decide +kernel
theorem dX12_readsRule_16 : decode cX12_readsRule 16 = .ok (.aload_n 0, 1) := by decide +kernel
theorem dX12_readsRule_17 : decode cX12_readsRule 17 = .ok (.iconst 0, 1) := by decide +kernel
theorem dX12_readsRule_18 : decode cX12_readsRule 18 = .ok (.invokevirtual 243, 3) := by decide +kernel
theorem dX12_readsRule_21 : decode cX12_readsRule 21 = .ok (.ifCond .eq 7, 3) := by decide +kernel
theorem dX12_readsRule_24 : decode cX12_readsRule 24 = .ok (.iconst 1, 1) := by decide +kernel
theorem dX12_readsRule_25 : decode cX12_readsRule 25 = .ok (.goto 4, 3) := by decide +kernel
theorem dX12_readsRule_28 : decode cX12_readsRule 28 = .ok (.iconst 0, 1) := by decide +kernel
theorem dX12_readsRule_29 : decode cX12_readsRule 29 = .ok (.istore_n 2, 1) := by decide +kernel
theorem dX12_readsRule_30 : decode cX12_readsRule 30 = .ok (.aload_n 0, 1) := by decide +kernel
theorem dX12_readsRule_31 : decode cX12_readsRule 31 = .ok (.iload_n 1, 1) := by decide +kernel
theorem dX12_readsRule_32 : decode cX12_readsRule 32 = .ok (.bipush 40, 2) := by decide +kernel
theorem dX12_readsRule_34 : decode cX12_readsRule 34 = .ok (.iload_n 2, 1) := by decide +kernel
theorem dX12_readsRule_35 : decode cX12_readsRule 35 = .ok (.invokevirtual 221, 3) := by decide +kernel
theorem dX12_readsRule_38 : decode cX12_readsRule 38 = .ok (.ireturn, 1) := by decide +kernel
theorem dX12_laysCode_0 : decode cX12_laysCode 0 = .ok (.aload_n 0, 1) := by decide +kernel
theorem dX12_laysCode_1 : decode cX12_laysCode 1 = .ok (.iload_n 2, 1) := by decide +kernel
theorem dX12_laysCode_2 : decode cX12_laysCode 2 = .ok (.putfield 252, 3) := by decide +kernel
theorem dX12_laysCode_5 : decode cX12_laysCode 5 = .ok (.iconst 0, 1) := by decide +kernel
theorem dX12_laysCode_6 : decode cX12_laysCode 6 = .ok (.istore_n 3, 1) := by decide +kernel
theorem dX12_laysCode_7 : decode cX12_laysCode 7 = .ok (.iload_n 3, 1) := by decide +kernel
theorem dX12_laysCode_8 : decode cX12_laysCode 8 = .ok (.iload_n 2, 1) := by decide +kernel
theorem dX12_laysCode_9 : decode cX12_laysCode 9 = .ok (.if_icmp .ge 18, 3) := by decide +kernel
theorem dX12_laysCode_12 : decode cX12_laysCode 12 = .ok (.aload_n 0, 1) := by decide +kernel
theorem dX12_laysCode_13 : decode cX12_laysCode 13 = .ok (.getfield 49, 3) := by decide +kernel
theorem dX12_laysCode_16 : decode cX12_laysCode 16 = .ok (.iload_n 3, 1) := by decide +kernel
theorem dX12_laysCode_17 : decode cX12_laysCode 17 = .ok (.aload_n 1, 1) := by decide +kernel
theorem dX12_laysCode_18 : decode cX12_laysCode 18 = .ok (.iload_n 3, 1) := by decide +kernel
theorem dX12_laysCode_19 : decode cX12_laysCode 19 = .ok (.iaload, 1) := by decide +kernel
theorem dX12_laysCode_20 : decode cX12_laysCode 20 = .ok (.iastore, 1) := by decide +kernel
theorem dX12_laysCode_21 : decode cX12_laysCode 21 = .ok (.iinc 3 1, 3) := by decide +kernel
theorem dX12_laysCode_24 : decode cX12_laysCode 24 = .ok (.goto (-17), 3) := by decide +kernel
theorem dX12_laysCode_27 : decode cX12_laysCode 27 = .ok (.return_, 1) := by decide +kernel
theorem dX12_rule_0 : decode cX12_rule 0 = .ok (.aload_n 0, 1) := by decide +kernel
theorem dX12_rule_1 : decode cX12_rule 1 = .ok (.iconst 0, 1) := by decide +kernel
theorem dX12_rule_2 : decode cX12_rule 2 = .ok (.putfield 112, 3) := by decide +kernel
theorem dX12_rule_5 : decode cX12_rule 5 = .ok (.aload_n 0, 1) := by decide +kernel
theorem dX12_rule_6 : decode cX12_rule 6 = .ok (.invokevirtual 255, 3) := by decide +kernel
theorem dX12_rule_9 : decode cX12_rule 9 = .ok (.istore_n 1, 1) := by decide +kernel
theorem dX12_rule_10 : decode cX12_rule 10 = .ok (.iload_n 1, 1) := by decide +kernel
theorem dX12_rule_11 : decode cX12_rule 11 = .ok (.ifCond .ne 15, 3) := by decide +kernel
theorem dX12_rule_14 : decode cX12_rule 14 = .ok (.aload_n 0, 1) := by decide +kernel
theorem dX12_rule_15 : decode cX12_rule 15 = .ok (.aload_n 0, 1) := by decide +kernel
theorem dX12_rule_16 : decode cX12_rule 16 = .ok (.getfield 52, 3) := by decide +kernel
theorem dX12_rule_19 : decode cX12_rule 19 = .ok (.aload_n 0, 1) := by decide +kernel
theorem dX12_rule_20 : decode cX12_rule 20 = .ok (.getfield 231, 3) := by decide +kernel
theorem dX12_rule_23 : decode cX12_rule 23 = .ok (.invokevirtual 258, 3) := by decide +kernel
theorem dX12_rule_26 : decode cX12_rule 26 = .ok (.iload_n 1, 1) := by decide +kernel
theorem dX12_rule_27 : decode cX12_rule 27 = .ok (.ireturn, 1) := by decide +kernel
theorem dX12_worked_0 : decode cX12_worked 0 = .ok (.iload_n 0, 1) := by decide +kernel
theorem dX12_worked_1 : decode cX12_worked 1 = .ok (.tableswitch 93 0 5 #[39, 53, 67, 81, 85, 89], 39) := by decide +kernel
theorem dX12_worked_40 : decode cX12_worked 40 = .ok (.iload_n 1, 1) := by decide +kernel
theorem dX12_worked_41 : decode cX12_worked 41 = .ok (.iload_n 2, 1) := by decide +kernel
theorem dX12_worked_42 : decode cX12_worked 42 = .ok (.if_icmp .ge 7, 3) := by decide +kernel
theorem dX12_worked_45 : decode cX12_worked 45 = .ok (.iconst 1, 1) := by decide +kernel
theorem dX12_worked_46 : decode cX12_worked 46 = .ok (.goto 4, 3) := by decide +kernel
theorem dX12_worked_49 : decode cX12_worked 49 = .ok (.iconst 0, 1) := by decide +kernel
theorem dX12_worked_50 : decode cX12_worked 50 = .ok (.invokestatic 154, 3) := by decide +kernel
theorem dX12_worked_53 : decode cX12_worked 53 = .ok (.ireturn, 1) := by decide +kernel
theorem dX12_worked_54 : decode cX12_worked 54 = .ok (.iload_n 1, 1) := by decide +kernel
theorem dX12_worked_55 : decode cX12_worked 55 = .ok (.iload_n 2, 1) := by decide +kernel
theorem dX12_worked_56 : decode cX12_worked 56 = .ok (.if_icmp .le 7, 3) := by decide +kernel
theorem dX12_worked_59 : decode cX12_worked 59 = .ok (.iconst 1, 1) := by decide +kernel
theorem dX12_worked_60 : decode cX12_worked 60 = .ok (.goto 4, 3) := by decide +kernel
theorem dX12_worked_63 : decode cX12_worked 63 = .ok (.iconst 0, 1) := by decide +kernel
theorem dX12_worked_64 : decode cX12_worked 64 = .ok (.invokestatic 154, 3) := by decide +kernel
theorem dX12_worked_67 : decode cX12_worked 67 = .ok (.ireturn, 1) := by decide +kernel
theorem dX12_worked_68 : decode cX12_worked 68 = .ok (.iload_n 1, 1) := by decide +kernel
theorem dX12_worked_69 : decode cX12_worked 69 = .ok (.iload_n 2, 1) := by decide +kernel
theorem dX12_worked_70 : decode cX12_worked 70 = .ok (.if_icmp .ne 7, 3) := by decide +kernel
theorem dX12_worked_73 : decode cX12_worked 73 = .ok (.iconst 1, 1) := by decide +kernel
theorem dX12_worked_74 : decode cX12_worked 74 = .ok (.goto 4, 3) := by decide +kernel
theorem dX12_worked_77 : decode cX12_worked 77 = .ok (.iconst 0, 1) := by decide +kernel
theorem dX12_worked_78 : decode cX12_worked 78 = .ok (.invokestatic 154, 3) := by decide +kernel
theorem dX12_worked_81 : decode cX12_worked 81 = .ok (.ireturn, 1) := by decide +kernel
theorem dX12_worked_82 : decode cX12_worked 82 = .ok (.iload_n 1, 1) := by decide +kernel
theorem dX12_worked_83 : decode cX12_worked 83 = .ok (.iload_n 2, 1) := by decide +kernel
theorem dX12_worked_84 : decode cX12_worked 84 = .ok (.iadd, 1) := by decide +kernel
theorem dX12_worked_85 : decode cX12_worked 85 = .ok (.ireturn, 1) := by decide +kernel
theorem dX12_worked_86 : decode cX12_worked 86 = .ok (.iload_n 1, 1) := by decide +kernel
theorem dX12_worked_87 : decode cX12_worked 87 = .ok (.iload_n 2, 1) := by decide +kernel
theorem dX12_worked_88 : decode cX12_worked 88 = .ok (.isub, 1) := by decide +kernel
theorem dX12_worked_89 : decode cX12_worked 89 = .ok (.ireturn, 1) := by decide +kernel
theorem dX12_worked_90 : decode cX12_worked 90 = .ok (.iload_n 1, 1) := by decide +kernel
theorem dX12_worked_91 : decode cX12_worked 91 = .ok (.iload_n 2, 1) := by decide +kernel
theorem dX12_worked_92 : decode cX12_worked 92 = .ok (.imul, 1) := by decide +kernel
theorem dX12_worked_93 : decode cX12_worked 93 = .ok (.ireturn, 1) := by decide +kernel
theorem dX12_worked_94 : decode cX12_worked 94 = .ok (.iload_n 2, 1) := by decide +kernel
theorem dX12_worked_95 : decode cX12_worked 95 = .ok (.ifCond .ne 7, 3) := by decide +kernel
theorem dX12_worked_98 : decode cX12_worked 98 = .ok (.iconst 0, 1) := by decide +kernel
theorem dX12_worked_99 : decode cX12_worked 99 = .ok (.goto 6, 3) := by decide +kernel
theorem dX12_worked_102 : decode cX12_worked 102 = .ok (.iload_n 1, 1) := by decide +kernel
theorem dX12_worked_103 : decode cX12_worked 103 = .ok (.iload_n 2, 1) := by decide +kernel
theorem dX12_worked_104 : decode cX12_worked 104 = .ok (.idiv, 1) := by decide +kernel
theorem dX12_worked_105 : decode cX12_worked 105 = .ok (.ireturn, 1) := by decide +kernel
theorem dX12_ruled_0 : decode cX12_ruled 0 = .ok (.iconst 0, 1) := by decide +kernel
theorem dX12_ruled_1 : decode cX12_ruled 1 = .ok (.istore_n 1, 1) := by decide +kernel
theorem dX12_ruled_2 : decode cX12_ruled 2 = .ok (.iconst 0, 1) := by decide +kernel
theorem dX12_ruled_3 : decode cX12_ruled 3 = .ok (.istore_n 2, 1) := by decide +kernel
theorem dX12_ruled_4 : decode cX12_ruled 4 = .ok (.iload_n 2, 1) := by decide +kernel
theorem dX12_ruled_5 : decode cX12_ruled 5 = .ok (.aload_n 0, 1) := by decide +kernel
theorem dX12_ruled_6 : decode cX12_ruled 6 = .ok (.getfield 252, 3) := by decide +kernel
theorem dX12_ruled_9 : decode cX12_ruled 9 = .ok (.if_icmp .ge 116, 3) := by decide +kernel
theorem dX12_ruled_12 : decode cX12_ruled 12 = .ok (.aload_n 0, 1) := by decide +kernel
theorem dX12_ruled_13 : decode cX12_ruled 13 = .ok (.getfield 49, 3) := by decide +kernel
theorem dX12_ruled_16 : decode cX12_ruled 16 = .ok (.iload_n 2, 1) := by decide +kernel
theorem dX12_ruled_17 : decode cX12_ruled 17 = .ok (.iaload, 1) := by decide +kernel
theorem dX12_ruled_18 : decode cX12_ruled 18 = .ok (.istore_n 3, 1) := by decide +kernel
theorem dX12_ruled_19 : decode cX12_ruled 19 = .ok (.iload_n 3, 1) := by decide +kernel
theorem dX12_ruled_20 : decode cX12_ruled 20 = .ok (.sipush 3000, 3) := by decide +kernel
theorem dX12_ruled_23 : decode cX12_ruled 23 = .ok (.if_icmp .ne 23, 3) := by decide +kernel
theorem dX12_ruled_26 : decode cX12_ruled 26 = .ok (.aload_n 0, 1) := by decide +kernel
theorem dX12_ruled_27 : decode cX12_ruled 27 = .ok (.getfield 55, 3) := by decide +kernel
theorem dX12_ruled_30 : decode cX12_ruled 30 = .ok (.iload_n 1, 1) := by decide +kernel
theorem dX12_ruled_31 : decode cX12_ruled 31 = .ok (.iconst 1, 1) := by decide +kernel
theorem dX12_ruled_32 : decode cX12_ruled 32 = .ok (.isub, 1) := by decide +kernel
theorem dX12_ruled_33 : decode cX12_ruled 33 = .ok (.aload_n 0, 1) := by decide +kernel
theorem dX12_ruled_34 : decode cX12_ruled 34 = .ok (.getfield 55, 3) := by decide +kernel
theorem dX12_ruled_37 : decode cX12_ruled 37 = .ok (.iload_n 1, 1) := by decide +kernel
theorem dX12_ruled_38 : decode cX12_ruled 38 = .ok (.iconst 1, 1) := by decide +kernel
theorem dX12_ruled_39 : decode cX12_ruled 39 = .ok (.isub, 1) := by decide +kernel
theorem dX12_ruled_40 : decode cX12_ruled 40 = .ok (.iaload, 1) := by decide +kernel
theorem dX12_ruled_41 : decode cX12_ruled 41 = .ok (.ineg, 1) := by decide +kernel
theorem dX12_ruled_42 : decode cX12_ruled 42 = .ok (.iastore, 1) := by decide +kernel
theorem dX12_ruled_43 : decode cX12_ruled 43 = .ok (.goto 76, 3) := by decide +kernel
theorem dX12_ruled_46 : decode cX12_ruled 46 = .ok (.iload_n 3, 1) := by decide +kernel
theorem dX12_ruled_47 : decode cX12_ruled 47 = .ok (.sipush 2000, 3) := by decide +kernel
theorem dX12_ruled_50 : decode cX12_ruled 50 = .ok (.if_icmp .lt 39, 3) := by decide +kernel
theorem dX12_ruled_53 : decode cX12_ruled 53 = .ok (.iinc 1 (-1), 3) := by decide +kernel
theorem dX12_ruled_56 : decode cX12_ruled 56 = .ok (.aload_n 0, 1) := by decide +kernel
theorem dX12_ruled_57 : decode cX12_ruled 57 = .ok (.getfield 55, 3) := by decide +kernel
theorem dX12_ruled_60 : decode cX12_ruled 60 = .ok (.iload_n 1, 1) := by decide +kernel
theorem dX12_ruled_61 : decode cX12_ruled 61 = .ok (.iconst 1, 1) := by decide +kernel
theorem dX12_ruled_62 : decode cX12_ruled 62 = .ok (.isub, 1) := by decide +kernel
theorem dX12_ruled_63 : decode cX12_ruled 63 = .ok (.iload_n 3, 1) := by decide +kernel
theorem dX12_ruled_64 : decode cX12_ruled 64 = .ok (.sipush 2000, 3) := by decide +kernel
theorem dX12_ruled_67 : decode cX12_ruled 67 = .ok (.isub, 1) := by decide +kernel
theorem dX12_ruled_68 : decode cX12_ruled 68 = .ok (.aload_n 0, 1) := by decide +kernel
theorem dX12_ruled_69 : decode cX12_ruled 69 = .ok (.getfield 55, 3) := by decide +kernel
theorem dX12_ruled_72 : decode cX12_ruled 72 = .ok (.iload_n 1, 1) := by decide +kernel
theorem dX12_ruled_73 : decode cX12_ruled 73 = .ok (.iconst 1, 1) := by decide +kernel
theorem dX12_ruled_74 : decode cX12_ruled 74 = .ok (.isub, 1) := by decide +kernel
theorem dX12_ruled_75 : decode cX12_ruled 75 = .ok (.iaload, 1) := by decide +kernel
theorem dX12_ruled_76 : decode cX12_ruled 76 = .ok (.aload_n 0, 1) := by decide +kernel
theorem dX12_ruled_77 : decode cX12_ruled 77 = .ok (.getfield 55, 3) := by decide +kernel
theorem dX12_ruled_80 : decode cX12_ruled 80 = .ok (.iload_n 1, 1) := by decide +kernel
theorem dX12_ruled_81 : decode cX12_ruled 81 = .ok (.iaload, 1) := by decide +kernel
theorem dX12_ruled_82 : decode cX12_ruled 82 = .ok (.invokestatic 262, 3) := by decide +kernel
theorem dX12_ruled_85 : decode cX12_ruled 85 = .ok (.iastore, 1) := by decide +kernel
theorem dX12_ruled_86 : decode cX12_ruled 86 = .ok (.goto 33, 3) := by decide +kernel
theorem dX12_ruled_89 : decode cX12_ruled 89 = .ok (.aload_n 0, 1) := by decide +kernel
theorem dX12_ruled_90 : decode cX12_ruled 90 = .ok (.getfield 55, 3) := by decide +kernel
theorem dX12_ruled_93 : decode cX12_ruled 93 = .ok (.iload_n 1, 1) := by decide +kernel
theorem dX12_ruled_94 : decode cX12_ruled 94 = .ok (.iload_n 3, 1) := by decide +kernel
theorem dX12_ruled_95 : decode cX12_ruled 95 = .ok (.sipush 1000, 3) := by decide +kernel
theorem dX12_ruled_98 : decode cX12_ruled 98 = .ok (.if_icmp .lt 16, 3) := by decide +kernel
theorem dX12_ruled_101 : decode cX12_ruled 101 = .ok (.aload_n 0, 1) := by decide +kernel
theorem dX12_ruled_102 : decode cX12_ruled 102 = .ok (.getfield 58, 3) := by decide +kernel
theorem dX12_ruled_105 : decode cX12_ruled 105 = .ok (.iload_n 3, 1) := by decide +kernel
theorem dX12_ruled_106 : decode cX12_ruled 106 = .ok (.sipush 1000, 3) := by decide +kernel
theorem dX12_ruled_109 : decode cX12_ruled 109 = .ok (.isub, 1) := by decide +kernel
theorem dX12_ruled_110 : decode cX12_ruled 110 = .ok (.iaload, 1) := by decide +kernel
theorem dX12_ruled_111 : decode cX12_ruled 111 = .ok (.goto 4, 3) := by decide +kernel
theorem dX12_ruled_114 : decode cX12_ruled 114 = .ok (.iload_n 3, 1) := by decide +kernel
theorem dX12_ruled_115 : decode cX12_ruled 115 = .ok (.iastore, 1) := by decide +kernel
theorem dX12_ruled_116 : decode cX12_ruled 116 = .ok (.iinc 1 1, 3) := by decide +kernel
theorem dX12_ruled_119 : decode cX12_ruled 119 = .ok (.iinc 2 1, 3) := by decide +kernel
theorem dX12_ruled_122 : decode cX12_ruled 122 = .ok (.goto (-118), 3) := by decide +kernel
theorem dX12_ruled_125 : decode cX12_ruled 125 = .ok (.aload_n 0, 1) := by decide +kernel
theorem dX12_ruled_126 : decode cX12_ruled 126 = .ok (.getfield 252, 3) := by decide +kernel
theorem dX12_ruled_129 : decode cX12_ruled 129 = .ok (.ifCond .ne 26, 3) := by decide +kernel
theorem dX12_ruled_132 : decode cX12_ruled 132 = .ok (.iconst 1, 1) := by decide +kernel
theorem dX12_ruled_133 : decode cX12_ruled 133 = .ok (.aload_n 0, 1) := by decide +kernel
theorem dX12_ruled_134 : decode cX12_ruled 134 = .ok (.getfield 58, 3) := by decide +kernel
theorem dX12_ruled_137 : decode cX12_ruled 137 = .ok (.iconst 1, 1) := by decide +kernel
theorem dX12_ruled_138 : decode cX12_ruled 138 = .ok (.iaload, 1) := by decide +kernel
theorem dX12_ruled_139 : decode cX12_ruled 139 = .ok (.iconst 2, 1) := by decide +kernel
theorem dX12_ruled_140 : decode cX12_ruled 140 = .ok (.if_icmp .le 7, 3) := by decide +kernel
theorem dX12_ruled_143 : decode cX12_ruled 143 = .ok (.iconst 1, 1) := by decide +kernel
theorem dX12_ruled_144 : decode cX12_ruled 144 = .ok (.goto 4, 3) := by decide +kernel
theorem dX12_ruled_147 : decode cX12_ruled 147 = .ok (.iconst 0, 1) := by decide +kernel
theorem dX12_ruled_148 : decode cX12_ruled 148 = .ok (.invokestatic 154, 3) := by decide +kernel
theorem dX12_ruled_151 : decode cX12_ruled 151 = .ok (.iadd, 1) := by decide +kernel
theorem dX12_ruled_152 : decode cX12_ruled 152 = .ok (.goto 9, 3) := by decide +kernel
theorem dX12_ruled_155 : decode cX12_ruled 155 = .ok (.aload_n 0, 1) := by decide +kernel
theorem dX12_ruled_156 : decode cX12_ruled 156 = .ok (.getfield 55, 3) := by decide +kernel
theorem dX12_ruled_159 : decode cX12_ruled 159 = .ok (.iconst 0, 1) := by decide +kernel
theorem dX12_ruled_160 : decode cX12_ruled 160 = .ok (.iaload, 1) := by decide +kernel
theorem dX12_ruled_161 : decode cX12_ruled 161 = .ok (.ireturn, 1) := by decide +kernel
theorem dX12_freeAhead_0 : decode cX12_freeAhead 0 = .ok (.iconst 0, 1) := by decide +kernel
theorem dX12_freeAhead_1 : decode cX12_freeAhead 1 = .ok (.istore_n 3, 1) := by decide +kernel
theorem dX12_freeAhead_2 : decode cX12_freeAhead 2 = .ok (.iload_n 2, 1) := by decide +kernel
theorem dX12_freeAhead_3 : decode cX12_freeAhead 3 = .ok (.iload_n 3, 1) := by decide +kernel
theorem dX12_freeAhead_4 : decode cX12_freeAhead 4 = .ok (.iadd, 1) := by decide +kernel
theorem dX12_freeAhead_5 : decode cX12_freeAhead 5 = .ok (.aload_n 0, 1) := by decide +kernel
theorem dX12_freeAhead_6 : decode cX12_freeAhead 6 = .ok (.invokevirtual 192, 3) := by decide +kernel
theorem dX12_freeAhead_9 : decode cX12_freeAhead 9 = .ok (.if_icmp .ge 34, 3) := by decide +kernel
theorem dX12_freeAhead_12 : decode cX12_freeAhead 12 = .ok (.iload_n 2, 1) := by decide +kernel
theorem dX12_freeAhead_13 : decode cX12_freeAhead 13 = .ok (.iload_n 3, 1) := by decide +kernel
theorem dX12_freeAhead_14 : decode cX12_freeAhead 14 = .ok (.iadd, 1) := by decide +kernel
theorem dX12_freeAhead_15 : decode cX12_freeAhead 15 = .ok (.iconst 1, 1) := by decide +kernel
theorem dX12_freeAhead_16 : decode cX12_freeAhead 16 = .ok (.iadd, 1) := by decide +kernel
theorem dX12_freeAhead_17 : decode cX12_freeAhead 17 = .ok (.aload_n 0, 1) := by decide +kernel
theorem dX12_freeAhead_18 : decode cX12_freeAhead 18 = .ok (.invokevirtual 192, 3) := by decide +kernel
theorem dX12_freeAhead_21 : decode cX12_freeAhead 21 = .ok (.if_icmp .eq 16, 3) := by decide +kernel
theorem dX12_freeAhead_24 : decode cX12_freeAhead 24 = .ok (.aload_n 0, 1) := by decide +kernel
theorem dX12_freeAhead_25 : decode cX12_freeAhead 25 = .ok (.aload_n 1, 1) := by decide +kernel
theorem dX12_freeAhead_26 : decode cX12_freeAhead 26 = .ok (.iload_n 2, 1) := by decide +kernel
theorem dX12_freeAhead_27 : decode cX12_freeAhead 27 = .ok (.iload_n 3, 1) := by decide +kernel
theorem dX12_freeAhead_28 : decode cX12_freeAhead 28 = .ok (.iadd, 1) := by decide +kernel
theorem dX12_freeAhead_29 : decode cX12_freeAhead 29 = .ok (.iconst 1, 1) := by decide +kernel
theorem dX12_freeAhead_30 : decode cX12_freeAhead 30 = .ok (.iadd, 1) := by decide +kernel
theorem dX12_freeAhead_31 : decode cX12_freeAhead 31 = .ok (.invokevirtual 195, 3) := by decide +kernel
theorem dX12_freeAhead_34 : decode cX12_freeAhead 34 = .ok (.ifCond .ge 9, 3) := by decide +kernel
theorem dX12_freeAhead_37 : decode cX12_freeAhead 37 = .ok (.iinc 3 1, 3) := by decide +kernel
theorem dX12_freeAhead_40 : decode cX12_freeAhead 40 = .ok (.goto (-38), 3) := by decide +kernel
theorem dX12_freeAhead_43 : decode cX12_freeAhead 43 = .ok (.iload_n 3, 1) := by decide +kernel
theorem dX12_freeAhead_44 : decode cX12_freeAhead 44 = .ok (.ireturn, 1) := by decide +kernel
theorem dX12_paceOf_0 : decode cX12_paceOf 0 = .ok (.aload_n 1, 1) := by decide +kernel
theorem dX12_paceOf_1 : decode cX12_paceOf 1 = .ok (.iload_n 2, 1) := by decide +kernel
theorem dX12_paceOf_2 : decode cX12_paceOf 2 = .ok (.invokestatic 266, 3) := by decide +kernel
theorem dX12_paceOf_5 : decode cX12_paceOf 5 = .ok (.ifCond .ne 5, 3) := by decide +kernel
theorem dX12_paceOf_8 : decode cX12_paceOf 8 = .ok (.iconst 0, 1) := by decide +kernel
theorem dX12_paceOf_9 : decode cX12_paceOf 9 = .ok (.ireturn, 1) := by decide +kernel
theorem dX12_paceOf_10 : decode cX12_paceOf 10 = .ok (.aload_n 0, 1) := by decide +kernel
theorem dX12_paceOf_11 : decode cX12_paceOf 11 = .ok (.getfield 58, 3) := by decide +kernel
theorem dX12_paceOf_14 : decode cX12_paceOf 14 = .ok (.iconst 0, 1) := by decide +kernel
theorem dX12_paceOf_15 : decode cX12_paceOf 15 = .ok (.aload_n 1, 1) := by decide +kernel
theorem dX12_paceOf_16 : decode cX12_paceOf 16 = .ok (.iload_n 2, 1) := by decide +kernel
theorem dX12_paceOf_17 : decode cX12_paceOf 17 = .ok (.iaload, 1) := by decide +kernel
theorem dX12_paceOf_18 : decode cX12_paceOf 18 = .ok (.iastore, 1) := by decide +kernel
theorem dX12_paceOf_19 : decode cX12_paceOf 19 = .ok (.aload_n 0, 1) := by decide +kernel
theorem dX12_paceOf_20 : decode cX12_paceOf 20 = .ok (.getfield 58, 3) := by decide +kernel
theorem dX12_paceOf_23 : decode cX12_paceOf 23 = .ok (.iconst 1, 1) := by decide +kernel
theorem dX12_paceOf_24 : decode cX12_paceOf 24 = .ok (.aload_n 0, 1) := by decide +kernel
theorem dX12_paceOf_25 : decode cX12_paceOf 25 = .ok (.aload_n 1, 1) := by decide +kernel
theorem dX12_paceOf_26 : decode cX12_paceOf 26 = .ok (.aload_n 1, 1) := by decide +kernel
theorem dX12_paceOf_27 : decode cX12_paceOf 27 = .ok (.iload_n 2, 1) := by decide +kernel
theorem dX12_paceOf_28 : decode cX12_paceOf 28 = .ok (.iaload, 1) := by decide +kernel
theorem dX12_paceOf_29 : decode cX12_paceOf 29 = .ok (.invokevirtual 269, 3) := by decide +kernel
theorem dX12_paceOf_32 : decode cX12_paceOf 32 = .ok (.iastore, 1) := by decide +kernel
theorem dX12_paceOf_33 : decode cX12_paceOf 33 = .ok (.aload_n 0, 1) := by decide +kernel
theorem dX12_paceOf_34 : decode cX12_paceOf 34 = .ok (.getfield 58, 3) := by decide +kernel
theorem dX12_paceOf_37 : decode cX12_paceOf 37 = .ok (.iconst 2, 1) := by decide +kernel
theorem dX12_paceOf_38 : decode cX12_paceOf 38 = .ok (.aload_n 0, 1) := by decide +kernel
theorem dX12_paceOf_39 : decode cX12_paceOf 39 = .ok (.getfield 20, 3) := by decide +kernel
theorem dX12_paceOf_42 : decode cX12_paceOf 42 = .ok (.aload_n 1, 1) := by decide +kernel
theorem dX12_paceOf_43 : decode cX12_paceOf 43 = .ok (.iload_n 2, 1) := by decide +kernel
theorem dX12_paceOf_44 : decode cX12_paceOf 44 = .ok (.iaload, 1) := by decide +kernel
theorem dX12_paceOf_45 : decode cX12_paceOf 45 = .ok (.baload, 1) := by decide +kernel
theorem dX12_paceOf_46 : decode cX12_paceOf 46 = .ok (.invokestatic 154, 3) := by decide +kernel
theorem dX12_paceOf_49 : decode cX12_paceOf 49 = .ok (.iastore, 1) := by decide +kernel
theorem dX12_paceOf_50 : decode cX12_paceOf 50 = .ok (.aload_n 0, 1) := by decide +kernel
theorem dX12_paceOf_51 : decode cX12_paceOf 51 = .ok (.getfield 58, 3) := by decide +kernel
theorem dX12_paceOf_54 : decode cX12_paceOf 54 = .ok (.iconst 3, 1) := by decide +kernel
theorem dX12_paceOf_55 : decode cX12_paceOf 55 = .ok (.aload_n 0, 1) := by decide +kernel
theorem dX12_paceOf_56 : decode cX12_paceOf 56 = .ok (.aload_n 1, 1) := by decide +kernel
theorem dX12_paceOf_57 : decode cX12_paceOf 57 = .ok (.bipush 37, 2) := by decide +kernel
theorem dX12_paceOf_59 : decode cX12_paceOf 59 = .ok (.iaload, 1) := by decide +kernel
theorem dX12_paceOf_60 : decode cX12_paceOf 60 = .ok (.invokevirtual 272, 3) := by decide +kernel
theorem dX12_paceOf_63 : decode cX12_paceOf 63 = .ok (.iastore, 1) := by decide +kernel
theorem dX12_paceOf_64 : decode cX12_paceOf 64 = .ok (.aload_n 0, 1) := by decide +kernel
theorem dX12_paceOf_65 : decode cX12_paceOf 65 = .ok (.getfield 58, 3) := by decide +kernel
theorem dX12_paceOf_68 : decode cX12_paceOf 68 = .ok (.iconst 4, 1) := by decide +kernel
theorem dX12_paceOf_69 : decode cX12_paceOf 69 = .ok (.aload_n 1, 1) := by decide +kernel
theorem dX12_paceOf_70 : decode cX12_paceOf 70 = .ok (.bipush 37, 2) := by decide +kernel
theorem dX12_paceOf_72 : decode cX12_paceOf 72 = .ok (.iaload, 1) := by decide +kernel
theorem dX12_paceOf_73 : decode cX12_paceOf 73 = .ok (.bipush 10, 2) := by decide +kernel
theorem dX12_paceOf_75 : decode cX12_paceOf 75 = .ok (.irem, 1) := by decide +kernel
theorem dX12_paceOf_76 : decode cX12_paceOf 76 = .ok (.iastore, 1) := by decide +kernel
theorem dX12_paceOf_77 : decode cX12_paceOf 77 = .ok (.aload_n 0, 1) := by decide +kernel
theorem dX12_paceOf_78 : decode cX12_paceOf 78 = .ok (.getfield 58, 3) := by decide +kernel
theorem dX12_paceOf_81 : decode cX12_paceOf 81 = .ok (.iconst 5, 1) := by decide +kernel
theorem dX12_paceOf_82 : decode cX12_paceOf 82 = .ok (.iload_n 2, 1) := by decide +kernel
theorem dX12_paceOf_83 : decode cX12_paceOf 83 = .ok (.iastore, 1) := by decide +kernel
theorem dX12_paceOf_84 : decode cX12_paceOf 84 = .ok (.aload_n 0, 1) := by decide +kernel
theorem dX12_paceOf_85 : decode cX12_paceOf 85 = .ok (.getfield 58, 3) := by decide +kernel
theorem dX12_paceOf_88 : decode cX12_paceOf 88 = .ok (.bipush 6, 2) := by decide +kernel
theorem dX12_paceOf_90 : decode cX12_paceOf 90 = .ok (.aload_n 0, 1) := by decide +kernel
theorem dX12_paceOf_91 : decode cX12_paceOf 91 = .ok (.aload_n 1, 1) := by decide +kernel
theorem dX12_paceOf_92 : decode cX12_paceOf 92 = .ok (.bipush 21, 2) := by decide +kernel
theorem dX12_paceOf_94 : decode cX12_paceOf 94 = .ok (.iload_n 2, 1) := by decide +kernel
theorem dX12_paceOf_95 : decode cX12_paceOf 95 = .ok (.invokevirtual 275, 3) := by decide +kernel
theorem dX12_paceOf_98 : decode cX12_paceOf 98 = .ok (.invokestatic 279, 3) := by decide +kernel
theorem dX12_paceOf_101 : decode cX12_paceOf 101 = .ok (.iastore, 1) := by decide +kernel
theorem dX12_paceOf_102 : decode cX12_paceOf 102 = .ok (.iconst 0, 1) := by decide +kernel
theorem dX12_paceOf_103 : decode cX12_paceOf 103 = .ok (.iconst 3, 1) := by decide +kernel
theorem dX12_paceOf_104 : decode cX12_paceOf 104 = .ok (.aload_n 0, 1) := by decide +kernel
theorem dX12_paceOf_105 : decode cX12_paceOf 105 = .ok (.invokevirtual 284, 3) := by decide +kernel
theorem dX12_paceOf_108 : decode cX12_paceOf 108 = .ok (.invokestatic 145, 3) := by decide +kernel
theorem dX12_paceOf_111 : decode cX12_paceOf 111 = .ok (.invokestatic 287, 3) := by decide +kernel
theorem dX12_paceOf_114 : decode cX12_paceOf 114 = .ok (.ireturn, 1) := by decide +kernel
theorem dX12_nearest_0 : decode cX12_nearest 0 = .ok (.iconst (-1), 1) := by decide +kernel
theorem dX12_nearest_1 : decode cX12_nearest 1 = .ok (.istore_n 3, 1) := by decide +kernel
theorem dX12_nearest_2 : decode cX12_nearest 2 = .ok (.iconst 0, 1) := by decide +kernel
theorem dX12_nearest_3 : decode cX12_nearest 3 = .ok (.istore 4, 2) := by decide +kernel
theorem dX12_nearest_5 : decode cX12_nearest 5 = .ok (.iload 4, 2) := by decide +kernel
theorem dX12_nearest_7 : decode cX12_nearest 7 = .ok (.aload_n 0, 1) := by decide +kernel
theorem dX12_nearest_8 : decode cX12_nearest 8 = .ok (.getfield 122, 3) := by decide +kernel
theorem dX12_nearest_11 : decode cX12_nearest 11 = .ok (.if_icmp .ge 80, 3) := by decide +kernel
theorem dX12_nearest_14 : decode cX12_nearest 14 = .ok (.aload_n 1, 1) := by decide +kernel
theorem dX12_nearest_15 : decode cX12_nearest 15 = .ok (.iload 4, 2) := by decide +kernel
theorem dX12_nearest_17 : decode cX12_nearest 17 = .ok (.invokestatic 266, 3) := by decide +kernel
theorem dX12_nearest_20 : decode cX12_nearest 20 = .ok (.ifCond .eq 65, 3) := by decide +kernel
theorem dX12_nearest_23 : decode cX12_nearest 23 = .ok (.aload_n 1, 1) := by decide +kernel
theorem dX12_nearest_24 : decode cX12_nearest 24 = .ok (.iload 4, 2) := by decide +kernel
theorem dX12_nearest_26 : decode cX12_nearest 26 = .ok (.iaload, 1) := by decide +kernel
theorem dX12_nearest_27 : decode cX12_nearest 27 = .ok (.iload_n 2, 1) := by decide +kernel
theorem dX12_nearest_28 : decode cX12_nearest 28 = .ok (.isub, 1) := by decide +kernel
theorem dX12_nearest_29 : decode cX12_nearest 29 = .ok (.invokestatic 290, 3) := by decide +kernel
theorem dX12_nearest_32 : decode cX12_nearest 32 = .ok (.istore 5, 2) := by decide +kernel
theorem dX12_nearest_34 : decode cX12_nearest 34 = .ok (.iload_n 3, 1) := by decide +kernel
theorem dX12_nearest_35 : decode cX12_nearest 35 = .ok (.ifCond .ge 9, 3) := by decide +kernel
theorem dX12_nearest_38 : decode cX12_nearest 38 = .ok (.ldc_w 293, 3) := by decide +kernel
theorem dX12_nearest_41 : decode cX12_nearest 41 = .ok (.goto 11, 3) := by decide +kernel
theorem dX12_nearest_44 : decode cX12_nearest 44 = .ok (.aload_n 1, 1) := by decide +kernel
theorem dX12_nearest_45 : decode cX12_nearest 45 = .ok (.iload_n 3, 1) := by decide +kernel
theorem dX12_nearest_46 : decode cX12_nearest 46 = .ok (.iaload, 1) := by decide +kernel
theorem dX12_nearest_47 : decode cX12_nearest 47 = .ok (.iload_n 2, 1) := by decide +kernel
theorem dX12_nearest_48 : decode cX12_nearest 48 = .ok (.isub, 1) := by decide +kernel
theorem dX12_nearest_49 : decode cX12_nearest 49 = .ok (.invokestatic 290, 3) := by decide +kernel
theorem dX12_nearest_52 : decode cX12_nearest 52 = .ok (.istore 6, 2) := by decide +kernel
theorem dX12_nearest_54 : decode cX12_nearest 54 = .ok (.iload 5, 2) := by decide +kernel
theorem dX12_nearest_56 : decode cX12_nearest 56 = .ok (.iload 6, 2) := by decide +kernel
theorem dX12_nearest_58 : decode cX12_nearest 58 = .ok (.if_icmp .lt 20, 3) := by decide +kernel
theorem dX12_nearest_61 : decode cX12_nearest 61 = .ok (.iload 5, 2) := by decide +kernel
theorem dX12_nearest_63 : decode cX12_nearest 63 = .ok (.iload 6, 2) := by decide +kernel
theorem dX12_nearest_65 : decode cX12_nearest 65 = .ok (.if_icmp .ne 18, 3) := by decide +kernel
theorem dX12_nearest_68 : decode cX12_nearest 68 = .ok (.aload_n 1, 1) := by decide +kernel
theorem dX12_nearest_69 : decode cX12_nearest 69 = .ok (.iload 4, 2) := by decide +kernel
theorem dX12_nearest_71 : decode cX12_nearest 71 = .ok (.iaload, 1) := by decide +kernel
theorem dX12_nearest_72 : decode cX12_nearest 72 = .ok (.aload_n 1, 1) := by decide +kernel
theorem dX12_nearest_73 : decode cX12_nearest 73 = .ok (.iload_n 3, 1) := by decide +kernel
theorem dX12_nearest_74 : decode cX12_nearest 74 = .ok (.iaload, 1) := by decide +kernel
theorem dX12_nearest_75 : decode cX12_nearest 75 = .ok (.if_icmp .le 8, 3) := by decide +kernel
theorem dX12_nearest_78 : decode cX12_nearest 78 = .ok (.iload 4, 2) := by decide +kernel
theorem dX12_nearest_80 : decode cX12_nearest 80 = .ok (.goto 4, 3) := by decide +kernel
theorem dX12_nearest_83 : decode cX12_nearest 83 = .ok (.iload_n 3, 1) := by decide +kernel
theorem dX12_nearest_84 : decode cX12_nearest 84 = .ok (.istore_n 3, 1) := by decide +kernel
theorem dX12_nearest_85 : decode cX12_nearest 85 = .ok (.iinc 4 1, 3) := by decide +kernel
theorem dX12_nearest_88 : decode cX12_nearest 88 = .ok (.goto (-83), 3) := by decide +kernel
theorem dX12_nearest_91 : decode cX12_nearest 91 = .ok (.iload_n 3, 1) := by decide +kernel
theorem dX12_nearest_92 : decode cX12_nearest 92 = .ok (.ireturn, 1) := by decide +kernel
theorem dX12_hearse_0 : decode cX12_hearse 0 = .ok (.aload_n 0, 1) := by decide +kernel
theorem dX12_hearse_1 : decode cX12_hearse 1 = .ok (.iconst 0, 1) := by decide +kernel
theorem dX12_hearse_2 : decode cX12_hearse 2 = .ok (.putfield 112, 3) := by decide +kernel
theorem dX12_hearse_5 : decode cX12_hearse 5 = .ok (.aload_n 0, 1) := by decide +kernel
theorem dX12_hearse_6 : decode cX12_hearse 6 = .ok (.iload_n 1, 1) := by decide +kernel
theorem dX12_hearse_7 : decode cX12_hearse 7 = .ok (.invokevirtual 294, 3) := by decide +kernel
theorem dX12_hearse_10 : decode cX12_hearse 10 = .ok (.ifCond .eq 15, 3) := by decide +kernel
theorem dX12_hearse_13 : decode cX12_hearse 13 = .ok (.iload_n 2, 1) := by decide +kernel
theorem dX12_hearse_14 : decode cX12_hearse 14 = .ok (.i2l, 1) := by decide +kernel
theorem dX12_hearse_15 : decode cX12_hearse 15 = .ok (.lconst 0, 1) := by decide +kernel
theorem dX12_hearse_16 : decode cX12_hearse 16 = .ok (.ldc2_w 297, 3) := by decide +kernel
theorem dX12_hearse_19 : decode cX12_hearse 19 = .ok (.invokestatic 125, 3) := by decide +kernel
theorem dX12_hearse_22 : decode cX12_hearse 22 = .ok (.ifCond .ne 8, 3) := by decide +kernel
theorem dX12_hearse_25 : decode cX12_hearse 25 = .ok (.aload_n 0, 1) := by decide +kernel
theorem dX12_hearse_26 : decode cX12_hearse 26 = .ok (.invokevirtual 299, 3) := by decide +kernel
theorem dX12_hearse_29 : decode cX12_hearse 29 = .ok (.ireturn, 1) := by decide +kernel
theorem dX12_hearse_30 : decode cX12_hearse 30 = .ok (.iload_n 2, 1) := by decide +kernel
theorem dX12_hearse_31 : decode cX12_hearse 31 = .ok (.tableswitch 84 0 4 #[33, 40, 50, 60, 72], 33) := by decide +kernel
theorem dX12_hearse_64 : decode cX12_hearse 64 = .ok (.aload_n 0, 1) := by decide +kernel
theorem dX12_hearse_65 : decode cX12_hearse 65 = .ok (.getfield 31, 3) := by decide +kernel
theorem dX12_hearse_68 : decode cX12_hearse 68 = .ok (.iload_n 1, 1) := by decide +kernel
theorem dX12_hearse_69 : decode cX12_hearse 69 = .ok (.iaload, 1) := by decide +kernel
theorem dX12_hearse_70 : decode cX12_hearse 70 = .ok (.ireturn, 1) := by decide +kernel
theorem dX12_hearse_71 : decode cX12_hearse 71 = .ok (.aload_n 0, 1) := by decide +kernel
theorem dX12_hearse_72 : decode cX12_hearse 72 = .ok (.getfield 31, 3) := by decide +kernel
theorem dX12_hearse_75 : decode cX12_hearse 75 = .ok (.bipush 6, 2) := by decide +kernel
theorem dX12_hearse_77 : decode cX12_hearse 77 = .ok (.iload_n 1, 1) := by decide +kernel
theorem dX12_hearse_78 : decode cX12_hearse 78 = .ok (.iadd, 1) := by decide +kernel
theorem dX12_hearse_79 : decode cX12_hearse 79 = .ok (.iaload, 1) := by decide +kernel
theorem dX12_hearse_80 : decode cX12_hearse 80 = .ok (.ireturn, 1) := by decide +kernel
theorem dX12_hearse_81 : decode cX12_hearse 81 = .ok (.aload_n 0, 1) := by decide +kernel
theorem dX12_hearse_82 : decode cX12_hearse 82 = .ok (.aload_n 0, 1) := by decide +kernel
theorem dX12_hearse_83 : decode cX12_hearse 83 = .ok (.getfield 31, 3) := by decide +kernel
theorem dX12_hearse_86 : decode cX12_hearse 86 = .ok (.iload_n 1, 1) := by decide +kernel
theorem dX12_hearse_87 : decode cX12_hearse 87 = .ok (.invokevirtual 302, 3) := by decide +kernel
theorem dX12_hearse_90 : decode cX12_hearse 90 = .ok (.ireturn, 1) := by decide +kernel
theorem dX12_hearse_91 : decode cX12_hearse 91 = .ok (.aload_n 0, 1) := by decide +kernel
theorem dX12_hearse_92 : decode cX12_hearse 92 = .ok (.aload_n 0, 1) := by decide +kernel
theorem dX12_hearse_93 : decode cX12_hearse 93 = .ok (.getfield 31, 3) := by decide +kernel
theorem dX12_hearse_96 : decode cX12_hearse 96 = .ok (.bipush 21, 2) := by decide +kernel
theorem dX12_hearse_98 : decode cX12_hearse 98 = .ok (.iload_n 1, 1) := by decide +kernel
theorem dX12_hearse_99 : decode cX12_hearse 99 = .ok (.invokevirtual 275, 3) := by decide +kernel
theorem dX12_hearse_102 : decode cX12_hearse 102 = .ok (.ireturn, 1) := by decide +kernel
theorem dX12_hearse_103 : decode cX12_hearse 103 = .ok (.aload_n 0, 1) := by decide +kernel
theorem dX12_hearse_104 : decode cX12_hearse 104 = .ok (.aload_n 0, 1) := by decide +kernel
theorem dX12_hearse_105 : decode cX12_hearse 105 = .ok (.getfield 31, 3) := by decide +kernel
theorem dX12_hearse_108 : decode cX12_hearse 108 = .ok (.bipush 29, 2) := by decide +kernel
theorem dX12_hearse_110 : decode cX12_hearse 110 = .ok (.iload_n 1, 1) := by decide +kernel
theorem dX12_hearse_111 : decode cX12_hearse 111 = .ok (.invokevirtual 275, 3) := by decide +kernel
theorem dX12_hearse_114 : decode cX12_hearse 114 = .ok (.ireturn, 1) := by decide +kernel
theorem dX12_hearse_115 : decode cX12_hearse 115 = .ok (.aload_n 0, 1) := by decide +kernel
theorem dX12_hearse_116 : decode cX12_hearse 116 = .ok (.iload_n 1, 1) := by decide +kernel
theorem dX12_hearse_117 : decode cX12_hearse 117 = .ok (.invokevirtual 305, 3) := by decide +kernel
theorem dX12_hearse_120 : decode cX12_hearse 120 = .ok (.ireturn, 1) := by decide +kernel
theorem dX12_mourner_0 : decode cX12_mourner 0 = .ok (.aload_n 0, 1) := by decide +kernel
theorem dX12_mourner_1 : decode cX12_mourner 1 = .ok (.iconst 0, 1) := by decide +kernel
theorem dX12_mourner_2 : decode cX12_mourner 2 = .ok (.putfield 112, 3) := by decide +kernel
theorem dX12_mourner_5 : decode cX12_mourner 5 = .ok (.aload_n 0, 1) := by decide +kernel
theorem dX12_mourner_6 : decode cX12_mourner 6 = .ok (.iload_n 1, 1) := by decide +kernel
theorem dX12_mourner_7 : decode cX12_mourner 7 = .ok (.invokevirtual 308, 3) := by decide +kernel
theorem dX12_mourner_10 : decode cX12_mourner 10 = .ok (.ifCond .eq 15, 3) := by decide +kernel
theorem dX12_mourner_13 : decode cX12_mourner 13 = .ok (.iload_n 2, 1) := by decide +kernel
theorem dX12_mourner_14 : decode cX12_mourner 14 = .ok (.i2l, 1) := by decide +kernel
theorem dX12_mourner_15 : decode cX12_mourner 15 = .ok (.lconst 0, 1) := by decide +kernel
theorem dX12_mourner_16 : decode cX12_mourner 16 = .ok (.ldc2_w 311, 3) := by decide +kernel
theorem dX12_mourner_19 : decode cX12_mourner 19 = .ok (.invokestatic 125, 3) := by decide +kernel
theorem dX12_mourner_22 : decode cX12_mourner 22 = .ok (.ifCond .ne 8, 3) := by decide +kernel
theorem dX12_mourner_25 : decode cX12_mourner 25 = .ok (.aload_n 0, 1) := by decide +kernel
theorem dX12_mourner_26 : decode cX12_mourner 26 = .ok (.invokevirtual 299, 3) := by decide +kernel
theorem dX12_mourner_29 : decode cX12_mourner 29 = .ok (.ireturn, 1) := by decide +kernel
theorem dX12_mourner_30 : decode cX12_mourner 30 = .ok (.iload_n 2, 1) := by decide +kernel
theorem dX12_mourner_31 : decode cX12_mourner 31 = .ok (.tableswitch 66 0 3 #[29, 39, 46, 56], 29) := by decide +kernel
theorem dX12_mourner_60 : decode cX12_mourner 60 = .ok (.aload_n 0, 1) := by decide +kernel
theorem dX12_mourner_61 : decode cX12_mourner 61 = .ok (.getfield 31, 3) := by decide +kernel
theorem dX12_mourner_64 : decode cX12_mourner 64 = .ok (.bipush 13, 2) := by decide +kernel
theorem dX12_mourner_66 : decode cX12_mourner 66 = .ok (.iload_n 1, 1) := by decide +kernel
theorem dX12_mourner_67 : decode cX12_mourner 67 = .ok (.iadd, 1) := by decide +kernel
theorem dX12_mourner_68 : decode cX12_mourner 68 = .ok (.iaload, 1) := by decide +kernel
theorem dX12_mourner_69 : decode cX12_mourner 69 = .ok (.ireturn, 1) := by decide +kernel
theorem dX12_mourner_70 : decode cX12_mourner 70 = .ok (.aload_n 0, 1) := by decide +kernel
theorem dX12_mourner_71 : decode cX12_mourner 71 = .ok (.getfield 24, 3) := by decide +kernel
theorem dX12_mourner_74 : decode cX12_mourner 74 = .ok (.iload_n 1, 1) := by decide +kernel
theorem dX12_mourner_75 : decode cX12_mourner 75 = .ok (.iaload, 1) := by decide +kernel
theorem dX12_mourner_76 : decode cX12_mourner 76 = .ok (.ireturn, 1) := by decide +kernel
theorem dX12_mourner_77 : decode cX12_mourner 77 = .ok (.aload_n 0, 1) := by decide +kernel
theorem dX12_mourner_78 : decode cX12_mourner 78 = .ok (.getfield 31, 3) := by decide +kernel
theorem dX12_mourner_81 : decode cX12_mourner 81 = .ok (.bipush 21, 2) := by decide +kernel
theorem dX12_mourner_83 : decode cX12_mourner 83 = .ok (.iload_n 1, 1) := by decide +kernel
theorem dX12_mourner_84 : decode cX12_mourner 84 = .ok (.iadd, 1) := by decide +kernel
theorem dX12_mourner_85 : decode cX12_mourner 85 = .ok (.iaload, 1) := by decide +kernel
theorem dX12_mourner_86 : decode cX12_mourner 86 = .ok (.ireturn, 1) := by decide +kernel
theorem dX12_mourner_87 : decode cX12_mourner 87 = .ok (.aload_n 0, 1) := by decide +kernel
theorem dX12_mourner_88 : decode cX12_mourner 88 = .ok (.getfield 31, 3) := by decide +kernel
theorem dX12_mourner_91 : decode cX12_mourner 91 = .ok (.bipush 29, 2) := by decide +kernel
theorem dX12_mourner_93 : decode cX12_mourner 93 = .ok (.iload_n 1, 1) := by decide +kernel
theorem dX12_mourner_94 : decode cX12_mourner 94 = .ok (.iadd, 1) := by decide +kernel
theorem dX12_mourner_95 : decode cX12_mourner 95 = .ok (.iaload, 1) := by decide +kernel
theorem dX12_mourner_96 : decode cX12_mourner 96 = .ok (.ireturn, 1) := by decide +kernel
theorem dX12_mourner_97 : decode cX12_mourner 97 = .ok (.aload_n 0, 1) := by decide +kernel
theorem dX12_mourner_98 : decode cX12_mourner 98 = .ok (.aload_n 0, 1) := by decide +kernel
theorem dX12_mourner_99 : decode cX12_mourner 99 = .ok (.getfield 31, 3) := by decide +kernel
theorem dX12_mourner_102 : decode cX12_mourner 102 = .ok (.aload_n 0, 1) := by decide +kernel
theorem dX12_mourner_103 : decode cX12_mourner 103 = .ok (.getfield 31, 3) := by decide +kernel
theorem dX12_mourner_106 : decode cX12_mourner 106 = .ok (.bipush 13, 2) := by decide +kernel
theorem dX12_mourner_108 : decode cX12_mourner 108 = .ok (.iload_n 1, 1) := by decide +kernel
theorem dX12_mourner_109 : decode cX12_mourner 109 = .ok (.iadd, 1) := by decide +kernel
theorem dX12_mourner_110 : decode cX12_mourner 110 = .ok (.iaload, 1) := by decide +kernel
theorem dX12_mourner_111 : decode cX12_mourner 111 = .ok (.invokevirtual 313, 3) := by decide +kernel
theorem dX12_mourner_114 : decode cX12_mourner 114 = .ok (.ireturn, 1) := by decide +kernel
theorem dX12_sheet_0 : decode cX12_sheet 0 = .ok (.aload_n 0, 1) := by decide +kernel
theorem dX12_sheet_1 : decode cX12_sheet 1 = .ok (.iconst 0, 1) := by decide +kernel
theorem dX12_sheet_2 : decode cX12_sheet 2 = .ok (.putfield 112, 3) := by decide +kernel
theorem dX12_sheet_5 : decode cX12_sheet 5 = .ok (.iload_n 1, 1) := by decide +kernel
theorem dX12_sheet_6 : decode cX12_sheet 6 = .ok (.i2l, 1) := by decide +kernel
theorem dX12_sheet_7 : decode cX12_sheet 7 = .ok (.lconst 0, 1) := by decide +kernel
theorem dX12_sheet_8 : decode cX12_sheet 8 = .ok (.ldc2_w 316, 3) := by decide +kernel
theorem dX12_sheet_11 : decode cX12_sheet 11 = .ok (.invokestatic 125, 3) := by decide +kernel
theorem dX12_sheet_14 : decode cX12_sheet 14 = .ok (.ifCond .eq 9, 3) := by decide +kernel
theorem dX12_sheet_17 : decode cX12_sheet 17 = .ok (.iload_n 2, 1) := by decide +kernel
theorem dX12_sheet_18 : decode cX12_sheet 18 = .ok (.bipush 8, 2) := by decide +kernel
theorem dX12_sheet_20 : decode cX12_sheet 20 = .ok (.if_icmp .le 5, 3) := by decide +kernel
theorem dX12_sheet_23 : decode cX12_sheet 23 = .ok (.iconst (-1), 1) := by decide +kernel
theorem dX12_sheet_24 : decode cX12_sheet 24 = .ok (.ireturn, 1) := by decide +kernel
theorem dX12_sheet_25 : decode cX12_sheet 25 = .ok (.iload_n 1, 1) := by decide +kernel
theorem dX12_sheet_26 : decode cX12_sheet 26 = .ok (.iconst 3, 1) := by decide +kernel
theorem dX12_sheet_27 : decode cX12_sheet 27 = .ok (.if_icmp .eq 10, 3) := by decide +kernel
theorem dX12_sheet_30 : decode cX12_sheet 30 = .ok (.iload_n 2, 1) := by decide +kernel
theorem dX12_sheet_31 : decode cX12_sheet 31 = .ok (.ifCond .ge 6, 3) := by decide +kernel
theorem dX12_sheet_34 : decode cX12_sheet 34 = .ok (.bipush (-2), 2) := by decide +kernel
theorem dX12_sheet_36 : decode cX12_sheet 36 = .ok (.ireturn, 1) := by decide +kernel
theorem dX12_sheet_37 : decode cX12_sheet 37 = .ok (.iconst 0, 1) := by decide +kernel
theorem dX12_sheet_38 : decode cX12_sheet 38 = .ok (.istore 5, 2) := by decide +kernel
theorem dX12_sheet_40 : decode cX12_sheet 40 = .ok (.iload_n 3, 1) := by decide +kernel
theorem dX12_sheet_41 : decode cX12_sheet 41 = .ok (.istore 6, 2) := by decide +kernel
theorem dX12_sheet_43 : decode cX12_sheet 43 = .ok (.iconst 0, 1) := by decide +kernel
theorem dX12_sheet_44 : decode cX12_sheet 44 = .ok (.istore 7, 2) := by decide +kernel
theorem dX12_sheet_46 : decode cX12_sheet 46 = .ok (.iload 7, 2) := by decide +kernel
theorem dX12_sheet_48 : decode cX12_sheet 48 = .ok (.aload_n 0, 1) := by decide +kernel
theorem dX12_sheet_49 : decode cX12_sheet 49 = .ok (.getfield 129, 3) := by decide +kernel
theorem dX12_sheet_52 : decode cX12_sheet 52 = .ok (.if_icmp .ge 125, 3) := by decide +kernel
theorem dX12_sheet_55 : decode cX12_sheet 55 = .ok (.iload_n 1, 1) := by decide +kernel
theorem dX12_sheet_56 : decode cX12_sheet 56 = .ok (.ifCond .ne 9, 3) := by decide +kernel
theorem dX12_sheet_59 : decode cX12_sheet 59 = .ok (.iload 6, 2) := by decide +kernel
theorem dX12_sheet_61 : decode cX12_sheet 61 = .ok (.i2b, 1) := by decide +kernel
theorem dX12_sheet_62 : decode cX12_sheet 62 = .ok (.goto 16, 3) := by decide +kernel
theorem dX12_sheet_65 : decode cX12_sheet 65 = .ok (.iload_n 1, 1) := by decide +kernel
theorem dX12_sheet_66 : decode cX12_sheet 66 = .ok (.iconst 1, 1) := by decide +kernel
theorem dX12_sheet_67 : decode cX12_sheet 67 = .ok (.if_icmp .ne 9, 3) := by decide +kernel
theorem dX12_sheet_70 : decode cX12_sheet 70 = .ok (.iload 6, 2) := by decide +kernel
theorem dX12_sheet_72 : decode cX12_sheet 72 = .ok (.i2s, 1) := by decide +kernel
theorem dX12_sheet_73 : decode cX12_sheet 73 = .ok (.goto 5, 3) := by decide +kernel
theorem dX12_sheet_76 : decode cX12_sheet 76 = .ok (.iload 6, 2) := by decide +kernel
theorem dX12_sheet_78 : decode cX12_sheet 78 = .ok (.istore 8, 2) := by decide +kernel
theorem dX12_sheet_80 : decode cX12_sheet 80 = .ok (.iload_n 1, 1) := by decide +kernel
theorem dX12_sheet_81 : decode cX12_sheet 81 = .ok (.iconst 3, 1) := by decide +kernel
theorem dX12_sheet_82 : decode cX12_sheet 82 = .ok (.if_icmp .eq 9, 3) := by decide +kernel
theorem dX12_sheet_85 : decode cX12_sheet 85 = .ok (.iload 7, 2) := by decide +kernel
theorem dX12_sheet_87 : decode cX12_sheet 87 = .ok (.iload_n 2, 1) := by decide +kernel
theorem dX12_sheet_88 : decode cX12_sheet 88 = .ok (.if_icmp .lt 7, 3) := by decide +kernel
theorem dX12_sheet_91 : decode cX12_sheet 91 = .ok (.iconst 0, 1) := by decide +kernel
theorem dX12_sheet_92 : decode cX12_sheet 92 = .ok (.goto 18, 3) := by decide +kernel
theorem dX12_sheet_95 : decode cX12_sheet 95 = .ok (.iconst 0, 1) := by decide +kernel
theorem dX12_sheet_96 : decode cX12_sheet 96 = .ok (.aload_n 0, 1) := by decide +kernel
theorem dX12_sheet_97 : decode cX12_sheet 97 = .ok (.invokevirtual 192, 3) := by decide +kernel
theorem dX12_sheet_100 : decode cX12_sheet 100 = .ok (.iconst 1, 1) := by decide +kernel
theorem dX12_sheet_101 : decode cX12_sheet 101 = .ok (.isub, 1) := by decide +kernel
theorem dX12_sheet_102 : decode cX12_sheet 102 = .ok (.iload 8, 2) := by decide +kernel
theorem dX12_sheet_104 : decode cX12_sheet 104 = .ok (.invokestatic 145, 3) := by decide +kernel
theorem dX12_sheet_107 : decode cX12_sheet 107 = .ok (.invokestatic 287, 3) := by decide +kernel
theorem dX12_sheet_110 : decode cX12_sheet 110 = .ok (.istore 9, 2) := by decide +kernel
theorem dX12_sheet_112 : decode cX12_sheet 112 = .ok (.aload_n 0, 1) := by decide +kernel
theorem dX12_sheet_113 : decode cX12_sheet 113 = .ok (.getfield 31, 3) := by decide +kernel
theorem dX12_sheet_116 : decode cX12_sheet 116 = .ok (.bipush 13, 2) := by decide +kernel
theorem dX12_sheet_118 : decode cX12_sheet 118 = .ok (.iload 7, 2) := by decide +kernel
theorem dX12_sheet_120 : decode cX12_sheet 120 = .ok (.iadd, 1) := by decide +kernel
theorem dX12_sheet_121 : decode cX12_sheet 121 = .ok (.aload_n 0, 1) := by decide +kernel
theorem dX12_sheet_122 : decode cX12_sheet 122 = .ok (.getfield 31, 3) := by decide +kernel
theorem dX12_sheet_125 : decode cX12_sheet 125 = .ok (.iload 7, 2) := by decide +kernel
theorem dX12_sheet_127 : decode cX12_sheet 127 = .ok (.invokestatic 132, 3) := by decide +kernel
theorem dX12_sheet_130 : decode cX12_sheet 130 = .ok (.ifCond .eq 16, 3) := by decide +kernel
theorem dX12_sheet_133 : decode cX12_sheet 133 = .ok (.aload_n 0, 1) := by decide +kernel
theorem dX12_sheet_134 : decode cX12_sheet 134 = .ok (.getfield 31, 3) := by decide +kernel
theorem dX12_sheet_137 : decode cX12_sheet 137 = .ok (.bipush 13, 2) := by decide +kernel
theorem dX12_sheet_139 : decode cX12_sheet 139 = .ok (.iload 7, 2) := by decide +kernel
theorem dX12_sheet_141 : decode cX12_sheet 141 = .ok (.iadd, 1) := by decide +kernel
theorem dX12_sheet_142 : decode cX12_sheet 142 = .ok (.iaload, 1) := by decide +kernel
theorem dX12_sheet_143 : decode cX12_sheet 143 = .ok (.goto 5, 3) := by decide +kernel
theorem dX12_sheet_146 : decode cX12_sheet 146 = .ok (.iload 9, 2) := by decide +kernel
theorem dX12_sheet_148 : decode cX12_sheet 148 = .ok (.iastore, 1) := by decide +kernel
theorem dX12_sheet_149 : decode cX12_sheet 149 = .ok (.iload 5, 2) := by decide +kernel
theorem dX12_sheet_151 : decode cX12_sheet 151 = .ok (.aload_n 0, 1) := by decide +kernel
theorem dX12_sheet_152 : decode cX12_sheet 152 = .ok (.getfield 31, 3) := by decide +kernel
theorem dX12_sheet_155 : decode cX12_sheet 155 = .ok (.bipush 13, 2) := by decide +kernel
theorem dX12_sheet_157 : decode cX12_sheet 157 = .ok (.iload 7, 2) := by decide +kernel
theorem dX12_sheet_159 : decode cX12_sheet 159 = .ok (.iadd, 1) := by decide +kernel
theorem dX12_sheet_160 : decode cX12_sheet 160 = .ok (.iaload, 1) := by decide +kernel
theorem dX12_sheet_161 : decode cX12_sheet 161 = .ok (.iadd, 1) := by decide +kernel
theorem dX12_sheet_162 : decode cX12_sheet 162 = .ok (.istore 5, 2) := by decide +kernel
theorem dX12_sheet_164 : decode cX12_sheet 164 = .ok (.iload 6, 2) := by decide +kernel
theorem dX12_sheet_166 : decode cX12_sheet 166 = .ok (.iload 4, 2) := by decide +kernel
theorem dX12_sheet_168 : decode cX12_sheet 168 = .ok (.iadd, 1) := by decide +kernel
theorem dX12_sheet_169 : decode cX12_sheet 169 = .ok (.istore 6, 2) := by decide +kernel
theorem dX12_sheet_171 : decode cX12_sheet 171 = .ok (.iinc 7 1, 3) := by decide +kernel
theorem dX12_sheet_174 : decode cX12_sheet 174 = .ok (.goto (-128), 3) := by decide +kernel
theorem dX12_sheet_177 : decode cX12_sheet 177 = .ok (.iload_n 1, 1) := by decide +kernel
theorem dX12_sheet_178 : decode cX12_sheet 178 = .ok (.iconst 3, 1) := by decide +kernel
theorem dX12_sheet_179 : decode cX12_sheet 179 = .ok (.if_icmp .ne 8, 3) := by decide +kernel
theorem dX12_sheet_182 : decode cX12_sheet 182 = .ok (.bipush (-3), 2) := by decide +kernel
theorem dX12_sheet_184 : decode cX12_sheet 184 = .ok (.goto 5, 3) := by decide +kernel
theorem dX12_sheet_187 : decode cX12_sheet 187 = .ok (.iload 5, 2) := by decide +kernel
theorem dX12_sheet_189 : decode cX12_sheet 189 = .ok (.ireturn, 1) := by decide +kernel
theorem dX12_putsBy_0 : decode cX12_putsBy 0 = .ok (.iconst 0, 1) := by decide +kernel
theorem dX12_putsBy_1 : decode cX12_putsBy 1 = .ok (.istore_n 1, 1) := by decide +kernel
theorem dX12_putsBy_2 : decode cX12_putsBy 2 = .ok (.iload_n 1, 1) := by decide +kernel
theorem dX12_putsBy_3 : decode cX12_putsBy 3 = .ok (.bipush 38, 2) := by decide +kernel
theorem dX12_putsBy_5 : decode cX12_putsBy 5 = .ok (.if_icmp .ge 29, 3) := by decide +kernel
theorem dX12_putsBy_8 : decode cX12_putsBy 8 = .ok (.aload_n 0, 1) := by decide +kernel
theorem dX12_putsBy_9 : decode cX12_putsBy 9 = .ok (.getfield 61, 3) := by decide +kernel
theorem dX12_putsBy_12 : decode cX12_putsBy 12 = .ok (.bipush 38, 2) := by decide +kernel
theorem dX12_putsBy_14 : decode cX12_putsBy 14 = .ok (.aload_n 0, 1) := by decide +kernel
theorem dX12_putsBy_15 : decode cX12_putsBy 15 = .ok (.getfield 186, 3) := by decide +kernel
theorem dX12_putsBy_18 : decode cX12_putsBy 18 = .ok (.imul, 1) := by decide +kernel
theorem dX12_putsBy_19 : decode cX12_putsBy 19 = .ok (.iload_n 1, 1) := by decide +kernel
theorem dX12_putsBy_20 : decode cX12_putsBy 20 = .ok (.iadd, 1) := by decide +kernel
theorem dX12_putsBy_21 : decode cX12_putsBy 21 = .ok (.aload_n 0, 1) := by decide +kernel
theorem dX12_putsBy_22 : decode cX12_putsBy 22 = .ok (.getfield 31, 3) := by decide +kernel
theorem dX12_putsBy_25 : decode cX12_putsBy 25 = .ok (.iload_n 1, 1) := by decide +kernel
theorem dX12_putsBy_26 : decode cX12_putsBy 26 = .ok (.iaload, 1) := by decide +kernel
theorem dX12_putsBy_27 : decode cX12_putsBy 27 = .ok (.iastore, 1) := by decide +kernel
theorem dX12_putsBy_28 : decode cX12_putsBy 28 = .ok (.iinc 1 1, 3) := by decide +kernel
theorem dX12_putsBy_31 : decode cX12_putsBy 31 = .ok (.goto (-29), 3) := by decide +kernel
theorem dX12_putsBy_34 : decode cX12_putsBy 34 = .ok (.return_, 1) := by decide +kernel
theorem dX12_adds_0 : decode cX12_adds 0 = .ok (.aload_n 0, 1) := by decide +kernel
theorem dX12_adds_1 : decode cX12_adds 1 = .ok (.dup, 1) := by decide +kernel
theorem dX12_adds_2 : decode cX12_adds 2 = .ok (.getfield 186, 3) := by decide +kernel
theorem dX12_adds_5 : decode cX12_adds 5 = .ok (.iconst 1, 1) := by decide +kernel
theorem dX12_adds_6 : decode cX12_adds 6 = .ok (.iadd, 1) := by decide +kernel
theorem dX12_adds_7 : decode cX12_adds 7 = .ok (.putfield 186, 3) := by decide +kernel
theorem dX12_adds_10 : decode cX12_adds 10 = .ok (.aload_n 0, 1) := by decide +kernel
theorem dX12_adds_11 : decode cX12_adds 11 = .ok (.getfield 186, 3) := by decide +kernel
theorem dX12_adds_14 : decode cX12_adds 14 = .ok (.bipush 15, 2) := by decide +kernel
theorem dX12_adds_16 : decode cX12_adds 16 = .ok (.if_icmp .le 43, 3) := by decide +kernel
theorem dX12_adds_19 : decode cX12_adds 19 = .ok (.iconst 0, 1) := by decide +kernel
theorem dX12_adds_20 : decode cX12_adds 20 = .ok (.istore_n 2, 1) := by decide +kernel
theorem dX12_adds_21 : decode cX12_adds 21 = .ok (.iload_n 2, 1) := by decide +kernel
theorem dX12_adds_22 : decode cX12_adds 22 = .ok (.sipush 570, 3) := by decide +kernel
theorem dX12_adds_25 : decode cX12_adds 25 = .ok (.if_icmp .ge 24, 3) := by decide +kernel
theorem dX12_adds_28 : decode cX12_adds 28 = .ok (.aload_n 0, 1) := by decide +kernel
theorem dX12_adds_29 : decode cX12_adds 29 = .ok (.getfield 61, 3) := by decide +kernel
theorem dX12_adds_32 : decode cX12_adds 32 = .ok (.iload_n 2, 1) := by decide +kernel
theorem dX12_adds_33 : decode cX12_adds 33 = .ok (.aload_n 0, 1) := by decide +kernel
theorem dX12_adds_34 : decode cX12_adds 34 = .ok (.getfield 61, 3) := by decide +kernel
theorem dX12_adds_37 : decode cX12_adds 37 = .ok (.iload_n 2, 1) := by decide +kernel
theorem dX12_adds_38 : decode cX12_adds 38 = .ok (.bipush 38, 2) := by decide +kernel
theorem dX12_adds_40 : decode cX12_adds 40 = .ok (.iadd, 1) := by decide +kernel
theorem dX12_adds_41 : decode cX12_adds 41 = .ok (.iaload, 1) := by decide +kernel
theorem dX12_adds_42 : decode cX12_adds 42 = .ok (.iastore, 1) := by decide +kernel
theorem dX12_adds_43 : decode cX12_adds 43 = .ok (.iinc 2 1, 3) := by decide +kernel
theorem dX12_adds_46 : decode cX12_adds 46 = .ok (.goto (-25), 3) := by decide +kernel
theorem dX12_adds_49 : decode cX12_adds 49 = .ok (.aload_n 0, 1) := by decide +kernel
theorem dX12_adds_50 : decode cX12_adds 50 = .ok (.dup, 1) := by decide +kernel
theorem dX12_adds_51 : decode cX12_adds 51 = .ok (.getfield 186, 3) := by decide +kernel
theorem dX12_adds_54 : decode cX12_adds 54 = .ok (.iconst 1, 1) := by decide +kernel
theorem dX12_adds_55 : decode cX12_adds 55 = .ok (.isub, 1) := by decide +kernel
theorem dX12_adds_56 : decode cX12_adds 56 = .ok (.putfield 186, 3) := by decide +kernel
theorem dX12_adds_59 : decode cX12_adds 59 = .ok (.iload_n 1, 1) := by decide +kernel
theorem dX12_adds_60 : decode cX12_adds 60 = .ok (.ireturn, 1) := by decide +kernel
theorem dX12_counted_0 : decode cX12_counted 0 = .ok (.iload_n 1, 1) := by decide +kernel
theorem dX12_counted_1 : decode cX12_counted 1 = .ok (.ifCond .ge 13, 3) := by decide +kernel
theorem dX12_counted_4 : decode cX12_counted 4 = .ok (.iload_n 1, 1) := by decide +kernel
theorem dX12_counted_5 : decode cX12_counted 5 = .ok (.bipush (-4), 2) := by decide +kernel
theorem dX12_counted_7 : decode cX12_counted 7 = .ok (.if_icmp .eq 7, 3) := by decide +kernel
theorem dX12_counted_10 : decode cX12_counted 10 = .ok (.iload_n 1, 1) := by decide +kernel
theorem dX12_counted_11 : decode cX12_counted 11 = .ok (.goto 8, 3) := by decide +kernel
theorem dX12_counted_14 : decode cX12_counted 14 = .ok (.aload_n 0, 1) := by decide +kernel
theorem dX12_counted_15 : decode cX12_counted 15 = .ok (.iload_n 1, 1) := by decide +kernel
theorem dX12_counted_16 : decode cX12_counted 16 = .ok (.invokevirtual 318, 3) := by decide +kernel
theorem dX12_counted_19 : decode cX12_counted 19 = .ok (.ireturn, 1) := by decide +kernel
theorem dX12_undo_0 : decode cX12_undo 0 = .ok (.aload_n 0, 1) := by decide +kernel
theorem dX12_undo_1 : decode cX12_undo 1 = .ok (.iconst 0, 1) := by decide +kernel
theorem dX12_undo_2 : decode cX12_undo 2 = .ok (.putfield 112, 3) := by decide +kernel
theorem dX12_undo_5 : decode cX12_undo 5 = .ok (.aload_n 0, 1) := by decide +kernel
theorem dX12_undo_6 : decode cX12_undo 6 = .ok (.getfield 186, 3) := by decide +kernel
theorem dX12_undo_9 : decode cX12_undo 9 = .ok (.ifCond .ne 5, 3) := by decide +kernel
theorem dX12_undo_12 : decode cX12_undo 12 = .ok (.iconst (-1), 1) := by decide +kernel
theorem dX12_undo_13 : decode cX12_undo 13 = .ok (.ireturn, 1) := by decide +kernel
theorem dX12_undo_14 : decode cX12_undo 14 = .ok (.aload_n 0, 1) := by decide +kernel
theorem dX12_undo_15 : decode cX12_undo 15 = .ok (.dup, 1) := by decide +kernel
theorem dX12_undo_16 : decode cX12_undo 16 = .ok (.getfield 186, 3) := by decide +kernel
theorem dX12_undo_19 : decode cX12_undo 19 = .ok (.iconst 1, 1) := by decide +kernel
theorem dX12_undo_20 : decode cX12_undo 20 = .ok (.isub, 1) := by decide +kernel
theorem dX12_undo_21 : decode cX12_undo 21 = .ok (.putfield 186, 3) := by decide +kernel
theorem dX12_undo_24 : decode cX12_undo 24 = .ok (.iconst 0, 1) := by decide +kernel
theorem dX12_undo_25 : decode cX12_undo 25 = .ok (.istore_n 1, 1) := by decide +kernel
theorem dX12_undo_26 : decode cX12_undo 26 = .ok (.iload_n 1, 1) := by decide +kernel
theorem dX12_undo_27 : decode cX12_undo 27 = .ok (.bipush 38, 2) := by decide +kernel
theorem dX12_undo_29 : decode cX12_undo 29 = .ok (.if_icmp .ge 29, 3) := by decide +kernel
theorem dX12_undo_32 : decode cX12_undo 32 = .ok (.aload_n 0, 1) := by decide +kernel
theorem dX12_undo_33 : decode cX12_undo 33 = .ok (.getfield 31, 3) := by decide +kernel
theorem dX12_undo_36 : decode cX12_undo 36 = .ok (.iload_n 1, 1) := by decide +kernel
theorem dX12_undo_37 : decode cX12_undo 37 = .ok (.aload_n 0, 1) := by decide +kernel
theorem dX12_undo_38 : decode cX12_undo 38 = .ok (.getfield 61, 3) := by decide +kernel
theorem dX12_undo_41 : decode cX12_undo 41 = .ok (.bipush 38, 2) := by decide +kernel
theorem dX12_undo_43 : decode cX12_undo 43 = .ok (.aload_n 0, 1) := by decide +kernel
theorem dX12_undo_44 : decode cX12_undo 44 = .ok (.getfield 186, 3) := by decide +kernel
theorem dX12_undo_47 : decode cX12_undo 47 = .ok (.imul, 1) := by decide +kernel
theorem dX12_undo_48 : decode cX12_undo 48 = .ok (.iload_n 1, 1) := by decide +kernel
theorem dX12_undo_49 : decode cX12_undo 49 = .ok (.iadd, 1) := by decide +kernel
theorem dX12_undo_50 : decode cX12_undo 50 = .ok (.iaload, 1) := by decide +kernel
theorem dX12_undo_51 : decode cX12_undo 51 = .ok (.iastore, 1) := by decide +kernel
theorem dX12_undo_52 : decode cX12_undo 52 = .ok (.iinc 1 1, 3) := by decide +kernel
theorem dX12_undo_55 : decode cX12_undo 55 = .ok (.goto (-29), 3) := by decide +kernel
theorem dX12_undo_58 : decode cX12_undo 58 = .ok (.aload_n 0, 1) := by decide +kernel
theorem dX12_undo_59 : decode cX12_undo 59 = .ok (.getfield 186, 3) := by decide +kernel
theorem dX12_undo_62 : decode cX12_undo 62 = .ok (.ireturn, 1) := by decide +kernel
theorem dX12_laysLine_0 : decode cX12_laysLine 0 = .ok (.aload_n 0, 1) := by decide +kernel
theorem dX12_laysLine_1 : decode cX12_laysLine 1 = .ok (.iconst 0, 1) := by decide +kernel
theorem dX12_laysLine_2 : decode cX12_laysLine 2 = .ok (.putfield 321, 3) := by decide +kernel
theorem dX12_laysLine_5 : decode cX12_laysLine 5 = .ok (.aload_n 0, 1) := by decide +kernel
theorem dX12_laysLine_6 : decode cX12_laysLine 6 = .ok (.invokevirtual 192, 3) := by decide +kernel
theorem dX12_laysLine_9 : decode cX12_laysLine 9 = .ok (.iconst 1, 1) := by decide +kernel
theorem dX12_laysLine_10 : decode cX12_laysLine 10 = .ok (.isub, 1) := by decide +kernel
theorem dX12_laysLine_11 : decode cX12_laysLine 11 = .ok (.istore_n 2, 1) := by decide +kernel
theorem dX12_laysLine_12 : decode cX12_laysLine 12 = .ok (.iload_n 2, 1) := by decide +kernel
theorem dX12_laysLine_13 : decode cX12_laysLine 13 = .ok (.ifCond .lt 40, 3) := by decide +kernel
theorem dX12_laysLine_16 : decode cX12_laysLine 16 = .ok (.aload_n 0, 1) := by decide +kernel
theorem dX12_laysLine_17 : decode cX12_laysLine 17 = .ok (.aload_n 1, 1) := by decide +kernel
theorem dX12_laysLine_18 : decode cX12_laysLine 18 = .ok (.iload_n 2, 1) := by decide +kernel
theorem dX12_laysLine_19 : decode cX12_laysLine 19 = .ok (.invokevirtual 195, 3) := by decide +kernel
theorem dX12_laysLine_22 : decode cX12_laysLine 22 = .ok (.istore_n 3, 1) := by decide +kernel
theorem dX12_laysLine_23 : decode cX12_laysLine 23 = .ok (.iload_n 3, 1) := by decide +kernel
theorem dX12_laysLine_24 : decode cX12_laysLine 24 = .ok (.ifCond .lt 23, 3) := by decide +kernel
theorem dX12_laysLine_27 : decode cX12_laysLine 27 = .ok (.aload_n 0, 1) := by decide +kernel
theorem dX12_laysLine_28 : decode cX12_laysLine 28 = .ok (.getfield 70, 3) := by decide +kernel
theorem dX12_laysLine_31 : decode cX12_laysLine 31 = .ok (.aload_n 0, 1) := by decide +kernel
theorem dX12_laysLine_32 : decode cX12_laysLine 32 = .ok (.getfield 321, 3) := by decide +kernel
theorem dX12_laysLine_35 : decode cX12_laysLine 35 = .ok (.iload_n 3, 1) := by decide +kernel
theorem dX12_laysLine_36 : decode cX12_laysLine 36 = .ok (.iastore, 1) := by decide +kernel
theorem dX12_laysLine_37 : decode cX12_laysLine 37 = .ok (.aload_n 0, 1) := by decide +kernel
theorem dX12_laysLine_38 : decode cX12_laysLine 38 = .ok (.dup, 1) := by decide +kernel
theorem dX12_laysLine_39 : decode cX12_laysLine 39 = .ok (.getfield 321, 3) := by decide +kernel
theorem dX12_laysLine_42 : decode cX12_laysLine 42 = .ok (.iconst 1, 1) := by decide +kernel
theorem dX12_laysLine_43 : decode cX12_laysLine 43 = .ok (.iadd, 1) := by decide +kernel
theorem dX12_laysLine_44 : decode cX12_laysLine 44 = .ok (.putfield 321, 3) := by decide +kernel
theorem dX12_laysLine_47 : decode cX12_laysLine 47 = .ok (.iinc 2 (-1), 3) := by decide +kernel
theorem dX12_laysLine_50 : decode cX12_laysLine 50 = .ok (.goto (-38), 3) := by decide +kernel
theorem dX12_laysLine_53 : decode cX12_laysLine 53 = .ok (.return_, 1) := by decide +kernel
theorem dX12_goal_0 : decode cX12_goal 0 = .ok (.aload_n 1, 1) := by decide +kernel
theorem dX12_goal_1 : decode cX12_goal 1 = .ok (.iload_n 2, 1) := by decide +kernel
theorem dX12_goal_2 : decode cX12_goal 2 = .ok (.iaload, 1) := by decide +kernel
theorem dX12_goal_3 : decode cX12_goal 3 = .ok (.istore 4, 2) := by decide +kernel
theorem dX12_goal_5 : decode cX12_goal 5 = .ok (.iload 4, 2) := by decide +kernel
theorem dX12_goal_7 : decode cX12_goal 7 = .ok (.istore 5, 2) := by decide +kernel
theorem dX12_goal_9 : decode cX12_goal 9 = .ok (.iconst 0, 1) := by decide +kernel
theorem dX12_goal_10 : decode cX12_goal 10 = .ok (.istore 6, 2) := by decide +kernel
theorem dX12_goal_12 : decode cX12_goal 12 = .ok (.aload_n 0, 1) := by decide +kernel
theorem dX12_goal_13 : decode cX12_goal 13 = .ok (.getfield 20, 3) := by decide +kernel
theorem dX12_goal_16 : decode cX12_goal 16 = .ok (.iload 4, 2) := by decide +kernel
theorem dX12_goal_18 : decode cX12_goal 18 = .ok (.baload, 1) := by decide +kernel
theorem dX12_goal_19 : decode cX12_goal 19 = .ok (.istore 7, 2) := by decide +kernel
theorem dX12_goal_21 : decode cX12_goal 21 = .ok (.iload 4, 2) := by decide +kernel
theorem dX12_goal_23 : decode cX12_goal 23 = .ok (.iconst 1, 1) := by decide +kernel
theorem dX12_goal_24 : decode cX12_goal 24 = .ok (.iadd, 1) := by decide +kernel
theorem dX12_goal_25 : decode cX12_goal 25 = .ok (.istore 8, 2) := by decide +kernel
theorem dX12_goal_27 : decode cX12_goal 27 = .ok (.iload 8, 2) := by decide +kernel
theorem dX12_goal_29 : decode cX12_goal 29 = .ok (.aload_n 0, 1) := by decide +kernel
theorem dX12_goal_30 : decode cX12_goal 30 = .ok (.invokevirtual 192, 3) := by decide +kernel
theorem dX12_goal_33 : decode cX12_goal 33 = .ok (.iload 4, 2) := by decide +kernel
theorem dX12_goal_35 : decode cX12_goal 35 = .ok (.iload_n 3, 1) := by decide +kernel
theorem dX12_goal_36 : decode cX12_goal 36 = .ok (.iadd, 1) := by decide +kernel
theorem dX12_goal_37 : decode cX12_goal 37 = .ok (.invokestatic 145, 3) := by decide +kernel
theorem dX12_goal_40 : decode cX12_goal 40 = .ok (.if_icmp .gt 98, 3) := by decide +kernel
theorem dX12_goal_43 : decode cX12_goal 43 = .ok (.iload 7, 2) := by decide +kernel
theorem dX12_goal_45 : decode cX12_goal 45 = .ok (.ifCond .ne 13, 3) := by decide +kernel
theorem dX12_goal_48 : decode cX12_goal 48 = .ok (.aload_n 0, 1) := by decide +kernel
theorem dX12_goal_49 : decode cX12_goal 49 = .ok (.getfield 20, 3) := by decide +kernel
theorem dX12_goal_52 : decode cX12_goal 52 = .ok (.iload 8, 2) := by decide +kernel
theorem dX12_goal_54 : decode cX12_goal 54 = .ok (.baload, 1) := by decide +kernel
theorem dX12_goal_55 : decode cX12_goal 55 = .ok (.ifCond .eq 7, 3) := by decide +kernel
theorem dX12_goal_58 : decode cX12_goal 58 = .ok (.iconst 1, 1) := by decide +kernel
theorem dX12_goal_59 : decode cX12_goal 59 = .ok (.goto 4, 3) := by decide +kernel
theorem dX12_goal_62 : decode cX12_goal 62 = .ok (.iconst 0, 1) := by decide +kernel
theorem dX12_goal_63 : decode cX12_goal 63 = .ok (.istore 7, 2) := by decide +kernel
theorem dX12_goal_65 : decode cX12_goal 65 = .ok (.iload 8, 2) := by decide +kernel
theorem dX12_goal_67 : decode cX12_goal 67 = .ok (.aload_n 0, 1) := by decide +kernel
theorem dX12_goal_68 : decode cX12_goal 68 = .ok (.invokevirtual 192, 3) := by decide +kernel
theorem dX12_goal_71 : decode cX12_goal 71 = .ok (.if_icmp .eq 13, 3) := by decide +kernel
theorem dX12_goal_74 : decode cX12_goal 74 = .ok (.aload_n 0, 1) := by decide +kernel
theorem dX12_goal_75 : decode cX12_goal 75 = .ok (.aload_n 1, 1) := by decide +kernel
theorem dX12_goal_76 : decode cX12_goal 76 = .ok (.iload 8, 2) := by decide +kernel
theorem dX12_goal_78 : decode cX12_goal 78 = .ok (.invokevirtual 195, 3) := by decide +kernel
theorem dX12_goal_81 : decode cX12_goal 81 = .ok (.ifCond .ge 7, 3) := by decide +kernel
theorem dX12_goal_84 : decode cX12_goal 84 = .ok (.iconst 1, 1) := by decide +kernel
theorem dX12_goal_85 : decode cX12_goal 85 = .ok (.goto 4, 3) := by decide +kernel
theorem dX12_goal_88 : decode cX12_goal 88 = .ok (.iconst 0, 1) := by decide +kernel
theorem dX12_goal_89 : decode cX12_goal 89 = .ok (.istore 9, 2) := by decide +kernel
theorem dX12_goal_91 : decode cX12_goal 91 = .ok (.iload 9, 2) := by decide +kernel
theorem dX12_goal_93 : decode cX12_goal 93 = .ok (.ifCond .eq 18, 3) := by decide +kernel
theorem dX12_goal_96 : decode cX12_goal 96 = .ok (.iload 6, 2) := by decide +kernel
theorem dX12_goal_98 : decode cX12_goal 98 = .ok (.ifCond .eq 8, 3) := by decide +kernel
theorem dX12_goal_101 : decode cX12_goal 101 = .ok (.iload 7, 2) := by decide +kernel
theorem dX12_goal_103 : decode cX12_goal 103 = .ok (.ifCond .ne 8, 3) := by decide +kernel
theorem dX12_goal_106 : decode cX12_goal 106 = .ok (.iload 8, 2) := by decide +kernel
theorem dX12_goal_108 : decode cX12_goal 108 = .ok (.goto 5, 3) := by decide +kernel
theorem dX12_goal_111 : decode cX12_goal 111 = .ok (.iload 5, 2) := by decide +kernel
theorem dX12_goal_113 : decode cX12_goal 113 = .ok (.istore 5, 2) := by decide +kernel
theorem dX12_goal_115 : decode cX12_goal 115 = .ok (.iload 6, 2) := by decide +kernel
theorem dX12_goal_117 : decode cX12_goal 117 = .ok (.ifCond .ne 8, 3) := by decide +kernel
theorem dX12_goal_120 : decode cX12_goal 120 = .ok (.iload 9, 2) := by decide +kernel
theorem dX12_goal_122 : decode cX12_goal 122 = .ok (.ifCond .ne 7, 3) := by decide +kernel
theorem dX12_goal_125 : decode cX12_goal 125 = .ok (.iconst 1, 1) := by decide +kernel
theorem dX12_goal_126 : decode cX12_goal 126 = .ok (.goto 4, 3) := by decide +kernel
theorem dX12_goal_129 : decode cX12_goal 129 = .ok (.iconst 0, 1) := by decide +kernel
theorem dX12_goal_130 : decode cX12_goal 130 = .ok (.istore 6, 2) := by decide +kernel
theorem dX12_goal_132 : decode cX12_goal 132 = .ok (.iinc 8 1, 3) := by decide +kernel
theorem dX12_goal_135 : decode cX12_goal 135 = .ok (.goto (-108), 3) := by decide +kernel
theorem dX12_goal_138 : decode cX12_goal 138 = .ok (.iload 5, 2) := by decide +kernel
theorem dX12_goal_140 : decode cX12_goal 140 = .ok (.ireturn, 1) := by decide +kernel
theorem dX12_hearseGoes_0 : decode cX12_hearseGoes 0 = .ok (.aload_n 0, 1) := by decide +kernel
theorem dX12_hearseGoes_1 : decode cX12_hearseGoes 1 = .ok (.aload_n 1, 1) := by decide +kernel
theorem dX12_hearseGoes_2 : decode cX12_hearseGoes 2 = .ok (.iload_n 2, 1) := by decide +kernel
theorem dX12_hearseGoes_3 : decode cX12_hearseGoes 3 = .ok (.aload_n 0, 1) := by decide +kernel
theorem dX12_hearseGoes_4 : decode cX12_hearseGoes 4 = .ok (.aload_n 1, 1) := by decide +kernel
theorem dX12_hearseGoes_5 : decode cX12_hearseGoes 5 = .ok (.iload_n 2, 1) := by decide +kernel
theorem dX12_hearseGoes_6 : decode cX12_hearseGoes 6 = .ok (.invokevirtual 302, 3) := by decide +kernel
theorem dX12_hearseGoes_9 : decode cX12_hearseGoes 9 = .ok (.invokevirtual 324, 3) := by decide +kernel
theorem dX12_hearseGoes_12 : decode cX12_hearseGoes 12 = .ok (.istore_n 3, 1) := by decide +kernel
theorem dX12_hearseGoes_13 : decode cX12_hearseGoes 13 = .ok (.iload_n 3, 1) := by decide +kernel
theorem dX12_hearseGoes_14 : decode cX12_hearseGoes 14 = .ok (.aload_n 1, 1) := by decide +kernel
theorem dX12_hearseGoes_15 : decode cX12_hearseGoes 15 = .ok (.iload_n 2, 1) := by decide +kernel
theorem dX12_hearseGoes_16 : decode cX12_hearseGoes 16 = .ok (.iaload, 1) := by decide +kernel
theorem dX12_hearseGoes_17 : decode cX12_hearseGoes 17 = .ok (.if_icmp .ne 26, 3) := by decide +kernel
theorem dX12_hearseGoes_20 : decode cX12_hearseGoes 20 = .ok (.aload_n 0, 1) := by decide +kernel
theorem dX12_hearseGoes_21 : decode cX12_hearseGoes 21 = .ok (.dup, 1) := by decide +kernel
theorem dX12_hearseGoes_22 : decode cX12_hearseGoes 22 = .ok (.getfield 327, 3) := by decide +kernel
theorem dX12_hearseGoes_25 : decode cX12_hearseGoes 25 = .ok (.iconst 1, 1) := by decide +kernel
theorem dX12_hearseGoes_26 : decode cX12_hearseGoes 26 = .ok (.iadd, 1) := by decide +kernel
theorem dX12_hearseGoes_27 : decode cX12_hearseGoes 27 = .ok (.putfield 327, 3) := by decide +kernel
theorem dX12_hearseGoes_30 : decode cX12_hearseGoes 30 = .ok (.aload_n 0, 1) := by decide +kernel
theorem dX12_hearseGoes_31 : decode cX12_hearseGoes 31 = .ok (.getfield 64, 3) := by decide +kernel
theorem dX12_hearseGoes_34 : decode cX12_hearseGoes 34 = .ok (.iload_n 3, 1) := by decide +kernel
theorem dX12_hearseGoes_35 : decode cX12_hearseGoes 35 = .ok (.dup2, 1) := by decide +kernel
theorem dX12_hearseGoes_36 : decode cX12_hearseGoes 36 = .ok (.iaload, 1) := by decide +kernel
theorem dX12_hearseGoes_37 : decode cX12_hearseGoes 37 = .ok (.iconst 1, 1) := by decide +kernel
theorem dX12_hearseGoes_38 : decode cX12_hearseGoes 38 = .ok (.iadd, 1) := by decide +kernel
theorem dX12_hearseGoes_39 : decode cX12_hearseGoes 39 = .ok (.iastore, 1) := by decide +kernel
theorem dX12_hearseGoes_40 : decode cX12_hearseGoes 40 = .ok (.goto 40, 3) := by decide +kernel
theorem dX12_hearseGoes_43 : decode cX12_hearseGoes 43 = .ok (.iload_n 3, 1) := by decide +kernel
theorem dX12_hearseGoes_44 : decode cX12_hearseGoes 44 = .ok (.aload_n 0, 1) := by decide +kernel
theorem dX12_hearseGoes_45 : decode cX12_hearseGoes 45 = .ok (.invokevirtual 192, 3) := by decide +kernel
theorem dX12_hearseGoes_48 : decode cX12_hearseGoes 48 = .ok (.if_icmp .ne 28, 3) := by decide +kernel
theorem dX12_hearseGoes_51 : decode cX12_hearseGoes 51 = .ok (.aload_n 1, 1) := by decide +kernel
