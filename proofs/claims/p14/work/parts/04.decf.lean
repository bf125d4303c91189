theorem dX12_hearseGoes_52 : decode cX12_hearseGoes 52 = .ok (.bipush 12, 2) := by decide +kernel
theorem dX12_hearseGoes_54 : decode cX12_hearseGoes 54 = .ok (.dup2, 1) := by decide +kernel
theorem dX12_hearseGoes_55 : decode cX12_hearseGoes 55 = .ok (.iaload, 1) := by decide +kernel
theorem dX12_hearseGoes_56 : decode cX12_hearseGoes 56 = .ok (.iconst 1, 1) := by decide +kernel
theorem dX12_hearseGoes_57 : decode cX12_hearseGoes 57 = .ok (.iadd, 1) := by decide +kernel
theorem dX12_hearseGoes_58 : decode cX12_hearseGoes 58 = .ok (.iastore, 1) := by decide +kernel
theorem dX12_hearseGoes_59 : decode cX12_hearseGoes 59 = .ok (.aload_n 1, 1) := by decide +kernel
theorem dX12_hearseGoes_60 : decode cX12_hearseGoes 60 = .ok (.bipush 6, 2) := by decide +kernel
theorem dX12_hearseGoes_62 : decode cX12_hearseGoes 62 = .ok (.iload_n 2, 1) := by decide +kernel
theorem dX12_hearseGoes_63 : decode cX12_hearseGoes 63 = .ok (.iadd, 1) := by decide +kernel
theorem dX12_hearseGoes_64 : decode cX12_hearseGoes 64 = .ok (.aload_n 1, 1) := by decide +kernel
theorem dX12_hearseGoes_65 : decode cX12_hearseGoes 65 = .ok (.bipush 12, 2) := by decide +kernel
theorem dX12_hearseGoes_67 : decode cX12_hearseGoes 67 = .ok (.iaload, 1) := by decide +kernel
theorem dX12_hearseGoes_68 : decode cX12_hearseGoes 68 = .ok (.iastore, 1) := by decide +kernel
theorem dX12_hearseGoes_69 : decode cX12_hearseGoes 69 = .ok (.aload_n 1, 1) := by decide +kernel
theorem dX12_hearseGoes_70 : decode cX12_hearseGoes 70 = .ok (.iload_n 2, 1) := by decide +kernel
theorem dX12_hearseGoes_71 : decode cX12_hearseGoes 71 = .ok (.iconst (-1), 1) := by decide +kernel
theorem dX12_hearseGoes_72 : decode cX12_hearseGoes 72 = .ok (.iastore, 1) := by decide +kernel
theorem dX12_hearseGoes_73 : decode cX12_hearseGoes 73 = .ok (.goto 7, 3) := by decide +kernel
theorem dX12_hearseGoes_76 : decode cX12_hearseGoes 76 = .ok (.aload_n 1, 1) := by decide +kernel
theorem dX12_hearseGoes_77 : decode cX12_hearseGoes 77 = .ok (.iload_n 2, 1) := by decide +kernel
theorem dX12_hearseGoes_78 : decode cX12_hearseGoes 78 = .ok (.iload_n 3, 1) := by decide +kernel
theorem dX12_hearseGoes_79 : decode cX12_hearseGoes 79 = .ok (.iastore, 1) := by decide +kernel
theorem dX12_hearseGoes_80 : decode cX12_hearseGoes 80 = .ok (.return_, 1) := by decide +kernel
theorem dX12_mournerGoes_0 : decode cX12_mournerGoes 0 = .ok (.aload_n 1, 1) := by decide +kernel
theorem dX12_mournerGoes_1 : decode cX12_mournerGoes 1 = .ok (.bipush 21, 2) := by decide +kernel
theorem dX12_mournerGoes_3 : decode cX12_mournerGoes 3 = .ok (.iload_n 2, 1) := by decide +kernel
theorem dX12_mournerGoes_4 : decode cX12_mournerGoes 4 = .ok (.iadd, 1) := by decide +kernel
theorem dX12_mournerGoes_5 : decode cX12_mournerGoes 5 = .ok (.iaload, 1) := by decide +kernel
theorem dX12_mournerGoes_6 : decode cX12_mournerGoes 6 = .ok (.istore_n 3, 1) := by decide +kernel
theorem dX12_mournerGoes_7 : decode cX12_mournerGoes 7 = .ok (.iload_n 3, 1) := by decide +kernel
theorem dX12_mournerGoes_8 : decode cX12_mournerGoes 8 = .ok (.ifCond .lt 19, 3) := by decide +kernel
theorem dX12_mournerGoes_11 : decode cX12_mournerGoes 11 = .ok (.aload_n 1, 1) := by decide +kernel
theorem dX12_mournerGoes_12 : decode cX12_mournerGoes 12 = .ok (.iload_n 3, 1) := by decide +kernel
theorem dX12_mournerGoes_13 : decode cX12_mournerGoes 13 = .ok (.invokestatic 266, 3) := by decide +kernel
theorem dX12_mournerGoes_16 : decode cX12_mournerGoes 16 = .ok (.ifCond .ne 11, 3) := by decide +kernel
theorem dX12_mournerGoes_19 : decode cX12_mournerGoes 19 = .ok (.aload_n 1, 1) := by decide +kernel
theorem dX12_mournerGoes_20 : decode cX12_mournerGoes 20 = .ok (.bipush 29, 2) := by decide +kernel
theorem dX12_mournerGoes_22 : decode cX12_mournerGoes 22 = .ok (.iload_n 2, 1) := by decide +kernel
theorem dX12_mournerGoes_23 : decode cX12_mournerGoes 23 = .ok (.iadd, 1) := by decide +kernel
theorem dX12_mournerGoes_24 : decode cX12_mournerGoes 24 = .ok (.iload_n 3, 1) := by decide +kernel
theorem dX12_mournerGoes_25 : decode cX12_mournerGoes 25 = .ok (.iastore, 1) := by decide +kernel
theorem dX12_mournerGoes_26 : decode cX12_mournerGoes 26 = .ok (.return_, 1) := by decide +kernel
theorem dX12_mournerGoes_27 : decode cX12_mournerGoes 27 = .ok (.aload_n 1, 1) := by decide +kernel
theorem dX12_mournerGoes_28 : decode cX12_mournerGoes 28 = .ok (.bipush 13, 2) := by decide +kernel
theorem dX12_mournerGoes_30 : decode cX12_mournerGoes 30 = .ok (.iload_n 2, 1) := by decide +kernel
theorem dX12_mournerGoes_31 : decode cX12_mournerGoes 31 = .ok (.iadd, 1) := by decide +kernel
theorem dX12_mournerGoes_32 : decode cX12_mournerGoes 32 = .ok (.iaload, 1) := by decide +kernel
theorem dX12_mournerGoes_33 : decode cX12_mournerGoes 33 = .ok (.istore 4, 2) := by decide +kernel
theorem dX12_mournerGoes_35 : decode cX12_mournerGoes 35 = .ok (.aload_n 0, 1) := by decide +kernel
theorem dX12_mournerGoes_36 : decode cX12_mournerGoes 36 = .ok (.aload_n 1, 1) := by decide +kernel
theorem dX12_mournerGoes_37 : decode cX12_mournerGoes 37 = .ok (.iload 4, 2) := by decide +kernel
theorem dX12_mournerGoes_39 : decode cX12_mournerGoes 39 = .ok (.invokevirtual 313, 3) := by decide +kernel
theorem dX12_mournerGoes_42 : decode cX12_mournerGoes 42 = .ok (.istore 5, 2) := by decide +kernel
theorem dX12_mournerGoes_44 : decode cX12_mournerGoes 44 = .ok (.iload 5, 2) := by decide +kernel
theorem dX12_mournerGoes_46 : decode cX12_mournerGoes 46 = .ok (.ifCond .lt 59, 3) := by decide +kernel
theorem dX12_mournerGoes_49 : decode cX12_mournerGoes 49 = .ok (.iload_n 3, 1) := by decide +kernel
theorem dX12_mournerGoes_50 : decode cX12_mournerGoes 50 = .ok (.ifCond .lt 25, 3) := by decide +kernel
theorem dX12_mournerGoes_53 : decode cX12_mournerGoes 53 = .ok (.aload_n 1, 1) := by decide +kernel
theorem dX12_mournerGoes_54 : decode cX12_mournerGoes 54 = .ok (.iload 5, 2) := by decide +kernel
theorem dX12_mournerGoes_56 : decode cX12_mournerGoes 56 = .ok (.iaload, 1) := by decide +kernel
theorem dX12_mournerGoes_57 : decode cX12_mournerGoes 57 = .ok (.iload 4, 2) := by decide +kernel
theorem dX12_mournerGoes_59 : decode cX12_mournerGoes 59 = .ok (.isub, 1) := by decide +kernel
theorem dX12_mournerGoes_60 : decode cX12_mournerGoes 60 = .ok (.invokestatic 290, 3) := by decide +kernel
theorem dX12_mournerGoes_63 : decode cX12_mournerGoes 63 = .ok (.aload_n 1, 1) := by decide +kernel
theorem dX12_mournerGoes_64 : decode cX12_mournerGoes 64 = .ok (.iload_n 3, 1) := by decide +kernel
theorem dX12_mournerGoes_65 : decode cX12_mournerGoes 65 = .ok (.iaload, 1) := by decide +kernel
theorem dX12_mournerGoes_66 : decode cX12_mournerGoes 66 = .ok (.iload 4, 2) := by decide +kernel
theorem dX12_mournerGoes_68 : decode cX12_mournerGoes 68 = .ok (.isub, 1) := by decide +kernel
theorem dX12_mournerGoes_69 : decode cX12_mournerGoes 69 = .ok (.invokestatic 290, 3) := by decide +kernel
theorem dX12_mournerGoes_72 : decode cX12_mournerGoes 72 = .ok (.if_icmp .ge 33, 3) := by decide +kernel
theorem dX12_mournerGoes_75 : decode cX12_mournerGoes 75 = .ok (.iload 5, 2) := by decide +kernel
theorem dX12_mournerGoes_77 : decode cX12_mournerGoes 77 = .ok (.istore_n 3, 1) := by decide +kernel
theorem dX12_mournerGoes_78 : decode cX12_mournerGoes 78 = .ok (.aload_n 1, 1) := by decide +kernel
theorem dX12_mournerGoes_79 : decode cX12_mournerGoes 79 = .ok (.bipush 21, 2) := by decide +kernel
theorem dX12_mournerGoes_81 : decode cX12_mournerGoes 81 = .ok (.iload_n 2, 1) := by decide +kernel
theorem dX12_mournerGoes_82 : decode cX12_mournerGoes 82 = .ok (.iadd, 1) := by decide +kernel
theorem dX12_mournerGoes_83 : decode cX12_mournerGoes 83 = .ok (.iload_n 3, 1) := by decide +kernel
theorem dX12_mournerGoes_84 : decode cX12_mournerGoes 84 = .ok (.iastore, 1) := by decide +kernel
theorem dX12_mournerGoes_85 : decode cX12_mournerGoes 85 = .ok (.aload_n 0, 1) := by decide +kernel
theorem dX12_mournerGoes_86 : decode cX12_mournerGoes 86 = .ok (.dup, 1) := by decide +kernel
theorem dX12_mournerGoes_87 : decode cX12_mournerGoes 87 = .ok (.getfield 330, 3) := by decide +kernel
theorem dX12_mournerGoes_90 : decode cX12_mournerGoes 90 = .ok (.iconst 1, 1) := by decide +kernel
theorem dX12_mournerGoes_91 : decode cX12_mournerGoes 91 = .ok (.iadd, 1) := by decide +kernel
theorem dX12_mournerGoes_92 : decode cX12_mournerGoes 92 = .ok (.putfield 330, 3) := by decide +kernel
theorem dX12_mournerGoes_95 : decode cX12_mournerGoes 95 = .ok (.aload_n 0, 1) := by decide +kernel
theorem dX12_mournerGoes_96 : decode cX12_mournerGoes 96 = .ok (.getfield 67, 3) := by decide +kernel
theorem dX12_mournerGoes_99 : decode cX12_mournerGoes 99 = .ok (.iload_n 2, 1) := by decide +kernel
theorem dX12_mournerGoes_100 : decode cX12_mournerGoes 100 = .ok (.dup2, 1) := by decide +kernel
theorem dX12_mournerGoes_101 : decode cX12_mournerGoes 101 = .ok (.iaload, 1) := by decide +kernel
theorem dX12_mournerGoes_102 : decode cX12_mournerGoes 102 = .ok (.iconst 1, 1) := by decide +kernel
theorem dX12_mournerGoes_103 : decode cX12_mournerGoes 103 = .ok (.iadd, 1) := by decide +kernel
theorem dX12_mournerGoes_104 : decode cX12_mournerGoes 104 = .ok (.iastore, 1) := by decide +kernel
theorem dX12_mournerGoes_105 : decode cX12_mournerGoes 105 = .ok (.iload_n 3, 1) := by decide +kernel
theorem dX12_mournerGoes_106 : decode cX12_mournerGoes 106 = .ok (.ifCond .lt 40, 3) := by decide +kernel
theorem dX12_mournerGoes_109 : decode cX12_mournerGoes 109 = .ok (.aload_n 1, 1) := by decide +kernel
theorem dX12_mournerGoes_110 : decode cX12_mournerGoes 110 = .ok (.bipush 13, 2) := by decide +kernel
theorem dX12_mournerGoes_112 : decode cX12_mournerGoes 112 = .ok (.iload_n 2, 1) := by decide +kernel
theorem dX12_mournerGoes_113 : decode cX12_mournerGoes 113 = .ok (.iadd, 1) := by decide +kernel
theorem dX12_mournerGoes_114 : decode cX12_mournerGoes 114 = .ok (.aload_n 1, 1) := by decide +kernel
theorem dX12_mournerGoes_115 : decode cX12_mournerGoes 115 = .ok (.iload_n 3, 1) := by decide +kernel
theorem dX12_mournerGoes_116 : decode cX12_mournerGoes 116 = .ok (.iaload, 1) := by decide +kernel
theorem dX12_mournerGoes_117 : decode cX12_mournerGoes 117 = .ok (.iload 4, 2) := by decide +kernel
theorem dX12_mournerGoes_119 : decode cX12_mournerGoes 119 = .ok (.if_icmp .le 16, 3) := by decide +kernel
theorem dX12_mournerGoes_122 : decode cX12_mournerGoes 122 = .ok (.aload_n 1, 1) := by decide +kernel
theorem dX12_mournerGoes_123 : decode cX12_mournerGoes 123 = .ok (.iload_n 3, 1) := by decide +kernel
theorem dX12_mournerGoes_124 : decode cX12_mournerGoes 124 = .ok (.iaload, 1) := by decide +kernel
theorem dX12_mournerGoes_125 : decode cX12_mournerGoes 125 = .ok (.iload 4, 2) := by decide +kernel
theorem dX12_mournerGoes_127 : decode cX12_mournerGoes 127 = .ok (.iconst 2, 1) := by decide +kernel
theorem dX12_mournerGoes_128 : decode cX12_mournerGoes 128 = .ok (.iadd, 1) := by decide +kernel
theorem dX12_mournerGoes_129 : decode cX12_mournerGoes 129 = .ok (.invokestatic 145, 3) := by decide +kernel
theorem dX12_mournerGoes_132 : decode cX12_mournerGoes 132 = .ok (.goto 13, 3) := by decide +kernel
theorem dX12_mournerGoes_135 : decode cX12_mournerGoes 135 = .ok (.aload_n 1, 1) := by decide +kernel
theorem dX12_mournerGoes_136 : decode cX12_mournerGoes 136 = .ok (.iload_n 3, 1) := by decide +kernel
theorem dX12_mournerGoes_137 : decode cX12_mournerGoes 137 = .ok (.iaload, 1) := by decide +kernel
theorem dX12_mournerGoes_138 : decode cX12_mournerGoes 138 = .ok (.iload 4, 2) := by decide +kernel
theorem dX12_mournerGoes_140 : decode cX12_mournerGoes 140 = .ok (.iconst 2, 1) := by decide +kernel
theorem dX12_mournerGoes_141 : decode cX12_mournerGoes 141 = .ok (.isub, 1) := by decide +kernel
theorem dX12_mournerGoes_142 : decode cX12_mournerGoes 142 = .ok (.invokestatic 287, 3) := by decide +kernel
theorem dX12_mournerGoes_145 : decode cX12_mournerGoes 145 = .ok (.iastore, 1) := by decide +kernel
theorem dX12_mournerGoes_146 : decode cX12_mournerGoes 146 = .ok (.return_, 1) := by decide +kernel
theorem dX12_stepGoes_0 : decode cX12_stepGoes 0 = .ok (.aload_n 0, 1) := by decide +kernel
theorem dX12_stepGoes_1 : decode cX12_stepGoes 1 = .ok (.aload_n 1, 1) := by decide +kernel
theorem dX12_stepGoes_2 : decode cX12_stepGoes 2 = .ok (.invokevirtual 333, 3) := by decide +kernel
theorem dX12_stepGoes_5 : decode cX12_stepGoes 5 = .ok (.iconst 0, 1) := by decide +kernel
theorem dX12_stepGoes_6 : decode cX12_stepGoes 6 = .ok (.istore_n 2, 1) := by decide +kernel
theorem dX12_stepGoes_7 : decode cX12_stepGoes 7 = .ok (.iload_n 2, 1) := by decide +kernel
theorem dX12_stepGoes_8 : decode cX12_stepGoes 8 = .ok (.aload_n 0, 1) := by decide +kernel
theorem dX12_stepGoes_9 : decode cX12_stepGoes 9 = .ok (.getfield 321, 3) := by decide +kernel
theorem dX12_stepGoes_12 : decode cX12_stepGoes 12 = .ok (.if_icmp .ge 20, 3) := by decide +kernel
theorem dX12_stepGoes_15 : decode cX12_stepGoes 15 = .ok (.aload_n 0, 1) := by decide +kernel
theorem dX12_stepGoes_16 : decode cX12_stepGoes 16 = .ok (.aload_n 1, 1) := by decide +kernel
theorem dX12_stepGoes_17 : decode cX12_stepGoes 17 = .ok (.aload_n 0, 1) := by decide +kernel
theorem dX12_stepGoes_18 : decode cX12_stepGoes 18 = .ok (.getfield 70, 3) := by decide +kernel
theorem dX12_stepGoes_21 : decode cX12_stepGoes 21 = .ok (.iload_n 2, 1) := by decide +kernel
theorem dX12_stepGoes_22 : decode cX12_stepGoes 22 = .ok (.iaload, 1) := by decide +kernel
theorem dX12_stepGoes_23 : decode cX12_stepGoes 23 = .ok (.invokevirtual 337, 3) := by decide +kernel
theorem dX12_stepGoes_26 : decode cX12_stepGoes 26 = .ok (.iinc 2 1, 3) := by decide +kernel
theorem dX12_stepGoes_29 : decode cX12_stepGoes 29 = .ok (.goto (-22), 3) := by decide +kernel
theorem dX12_stepGoes_32 : decode cX12_stepGoes 32 = .ok (.iconst 0, 1) := by decide +kernel
theorem dX12_stepGoes_33 : decode cX12_stepGoes 33 = .ok (.istore_n 2, 1) := by decide +kernel
theorem dX12_stepGoes_34 : decode cX12_stepGoes 34 = .ok (.iload_n 2, 1) := by decide +kernel
theorem dX12_stepGoes_35 : decode cX12_stepGoes 35 = .ok (.aload_n 0, 1) := by decide +kernel
theorem dX12_stepGoes_36 : decode cX12_stepGoes 36 = .ok (.getfield 129, 3) := by decide +kernel
theorem dX12_stepGoes_39 : decode cX12_stepGoes 39 = .ok (.if_icmp .ge 23, 3) := by decide +kernel
theorem dX12_stepGoes_42 : decode cX12_stepGoes 42 = .ok (.aload_n 1, 1) := by decide +kernel
theorem dX12_stepGoes_43 : decode cX12_stepGoes 43 = .ok (.iload_n 2, 1) := by decide +kernel
theorem dX12_stepGoes_44 : decode cX12_stepGoes 44 = .ok (.invokestatic 132, 3) := by decide +kernel
theorem dX12_stepGoes_47 : decode cX12_stepGoes 47 = .ok (.ifCond .ne 9, 3) := by decide +kernel
theorem dX12_stepGoes_50 : decode cX12_stepGoes 50 = .ok (.aload_n 0, 1) := by decide +kernel
theorem dX12_stepGoes_51 : decode cX12_stepGoes 51 = .ok (.aload_n 1, 1) := by decide +kernel
theorem dX12_stepGoes_52 : decode cX12_stepGoes 52 = .ok (.iload_n 2, 1) := by decide +kernel
theorem dX12_stepGoes_53 : decode cX12_stepGoes 53 = .ok (.invokevirtual 340, 3) := by decide +kernel
theorem dX12_stepGoes_56 : decode cX12_stepGoes 56 = .ok (.iinc 2 1, 3) := by decide +kernel
theorem dX12_stepGoes_59 : decode cX12_stepGoes 59 = .ok (.goto (-25), 3) := by decide +kernel
theorem dX12_stepGoes_62 : decode cX12_stepGoes 62 = .ok (.aload_n 1, 1) := by decide +kernel
theorem dX12_stepGoes_63 : decode cX12_stepGoes 63 = .ok (.bipush 37, 2) := by decide +kernel
theorem dX12_stepGoes_65 : decode cX12_stepGoes 65 = .ok (.dup2, 1) := by decide +kernel
theorem dX12_stepGoes_66 : decode cX12_stepGoes 66 = .ok (.iaload, 1) := by decide +kernel
theorem dX12_stepGoes_67 : decode cX12_stepGoes 67 = .ok (.iconst 1, 1) := by decide +kernel
theorem dX12_stepGoes_68 : decode cX12_stepGoes 68 = .ok (.iadd, 1) := by decide +kernel
theorem dX12_stepGoes_69 : decode cX12_stepGoes 69 = .ok (.iastore, 1) := by decide +kernel
theorem dX12_stepGoes_70 : decode cX12_stepGoes 70 = .ok (.return_, 1) := by decide +kernel
theorem dX12_goesOn_0 : decode cX12_goesOn 0 = .ok (.aload_n 0, 1) := by decide +kernel
theorem dX12_goesOn_1 : decode cX12_goesOn 1 = .ok (.iconst 0, 1) := by decide +kernel
theorem dX12_goesOn_2 : decode cX12_goesOn 2 = .ok (.putfield 327, 3) := by decide +kernel
theorem dX12_goesOn_5 : decode cX12_goesOn 5 = .ok (.aload_n 0, 1) := by decide +kernel
theorem dX12_goesOn_6 : decode cX12_goesOn 6 = .ok (.iconst 0, 1) := by decide +kernel
theorem dX12_goesOn_7 : decode cX12_goesOn 7 = .ok (.putfield 330, 3) := by decide +kernel
theorem dX12_goesOn_10 : decode cX12_goesOn 10 = .ok (.iconst 0, 1) := by decide +kernel
theorem dX12_goesOn_11 : decode cX12_goesOn 11 = .ok (.istore_n 3, 1) := by decide +kernel
theorem dX12_goesOn_12 : decode cX12_goesOn 12 = .ok (.iload_n 3, 1) := by decide +kernel
theorem dX12_goesOn_13 : decode cX12_goesOn 13 = .ok (.bipush 30, 2) := by decide +kernel
theorem dX12_goesOn_15 : decode cX12_goesOn 15 = .ok (.if_icmp .ge 16, 3) := by decide +kernel
theorem dX12_goesOn_18 : decode cX12_goesOn 18 = .ok (.aload_n 0, 1) := by decide +kernel
theorem dX12_goesOn_19 : decode cX12_goesOn 19 = .ok (.getfield 64, 3) := by decide +kernel
theorem dX12_goesOn_22 : decode cX12_goesOn 22 = .ok (.iload_n 3, 1) := by decide +kernel
theorem dX12_goesOn_23 : decode cX12_goesOn 23 = .ok (.iconst 0, 1) := by decide +kernel
theorem dX12_goesOn_24 : decode cX12_goesOn 24 = .ok (.iastore, 1) := by decide +kernel
theorem dX12_goesOn_25 : decode cX12_goesOn 25 = .ok (.iinc 3 1, 3) := by decide +kernel
theorem dX12_goesOn_28 : decode cX12_goesOn 28 = .ok (.goto (-16), 3) := by decide +kernel
theorem dX12_goesOn_31 : decode cX12_goesOn 31 = .ok (.iconst 0, 1) := by decide +kernel
theorem dX12_goesOn_32 : decode cX12_goesOn 32 = .ok (.istore_n 3, 1) := by decide +kernel
theorem dX12_goesOn_33 : decode cX12_goesOn 33 = .ok (.iload_n 3, 1) := by decide +kernel
theorem dX12_goesOn_34 : decode cX12_goesOn 34 = .ok (.bipush 8, 2) := by decide +kernel
theorem dX12_goesOn_36 : decode cX12_goesOn 36 = .ok (.if_icmp .ge 16, 3) := by decide +kernel
theorem dX12_goesOn_39 : decode cX12_goesOn 39 = .ok (.aload_n 0, 1) := by decide +kernel
theorem dX12_goesOn_40 : decode cX12_goesOn 40 = .ok (.getfield 67, 3) := by decide +kernel
theorem dX12_goesOn_43 : decode cX12_goesOn 43 = .ok (.iload_n 3, 1) := by decide +kernel
theorem dX12_goesOn_44 : decode cX12_goesOn 44 = .ok (.iconst 0, 1) := by decide +kernel
theorem dX12_goesOn_45 : decode cX12_goesOn 45 = .ok (.iastore, 1) := by decide +kernel
theorem dX12_goesOn_46 : decode cX12_goesOn 46 = .ok (.iinc 3 1, 3) := by decide +kernel
theorem dX12_goesOn_49 : decode cX12_goesOn 49 = .ok (.goto (-16), 3) := by decide +kernel
theorem dX12_goesOn_52 : decode cX12_goesOn 52 = .ok (.iconst 0, 1) := by decide +kernel
theorem dX12_goesOn_53 : decode cX12_goesOn 53 = .ok (.istore_n 3, 1) := by decide +kernel
theorem dX12_goesOn_54 : decode cX12_goesOn 54 = .ok (.iload_n 3, 1) := by decide +kernel
theorem dX12_goesOn_55 : decode cX12_goesOn 55 = .ok (.iload_n 2, 1) := by decide +kernel
theorem dX12_goesOn_56 : decode cX12_goesOn 56 = .ok (.if_icmp .ge 14, 3) := by decide +kernel
theorem dX12_goesOn_59 : decode cX12_goesOn 59 = .ok (.aload_n 0, 1) := by decide +kernel
theorem dX12_goesOn_60 : decode cX12_goesOn 60 = .ok (.aload_n 1, 1) := by decide +kernel
theorem dX12_goesOn_61 : decode cX12_goesOn 61 = .ok (.invokevirtual 343, 3) := by decide +kernel
theorem dX12_goesOn_64 : decode cX12_goesOn 64 = .ok (.iinc 3 1, 3) := by decide +kernel
theorem dX12_goesOn_67 : decode cX12_goesOn 67 = .ok (.goto (-13), 3) := by decide +kernel
theorem dX12_goesOn_70 : decode cX12_goesOn 70 = .ok (.return_, 1) := by decide +kernel
theorem dX12_turnsOne_0 : decode cX12_turnsOne 0 = .ok (.aload_n 0, 1) := by decide +kernel
theorem dX12_turnsOne_1 : decode cX12_turnsOne 1 = .ok (.iload_n 2, 1) := by decide +kernel
theorem dX12_turnsOne_2 : decode cX12_turnsOne 2 = .ok (.invokevirtual 308, 3) := by decide +kernel
theorem dX12_turnsOne_5 : decode cX12_turnsOne 5 = .ok (.ifCond .ne 5, 3) := by decide +kernel
theorem dX12_turnsOne_8 : decode cX12_turnsOne 8 = .ok (.iconst (-1), 1) := by decide +kernel
theorem dX12_turnsOne_9 : decode cX12_turnsOne 9 = .ok (.ireturn, 1) := by decide +kernel
theorem dX12_turnsOne_10 : decode cX12_turnsOne 10 = .ok (.aload_n 1, 1) := by decide +kernel
theorem dX12_turnsOne_11 : decode cX12_turnsOne 11 = .ok (.iload_n 2, 1) := by decide +kernel
theorem dX12_turnsOne_12 : decode cX12_turnsOne 12 = .ok (.invokestatic 132, 3) := by decide +kernel
theorem dX12_turnsOne_15 : decode cX12_turnsOne 15 = .ok (.ifCond .eq 6, 3) := by decide +kernel
theorem dX12_turnsOne_18 : decode cX12_turnsOne 18 = .ok (.bipush (-2), 2) := by decide +kernel
theorem dX12_turnsOne_20 : decode cX12_turnsOne 20 = .ok (.ireturn, 1) := by decide +kernel
theorem dX12_turnsOne_21 : decode cX12_turnsOne 21 = .ok (.aload_n 1, 1) := by decide +kernel
theorem dX12_turnsOne_22 : decode cX12_turnsOne 22 = .ok (.bipush 21, 2) := by decide +kernel
theorem dX12_turnsOne_24 : decode cX12_turnsOne 24 = .ok (.iload_n 2, 1) := by decide +kernel
theorem dX12_turnsOne_25 : decode cX12_turnsOne 25 = .ok (.iadd, 1) := by decide +kernel
theorem dX12_turnsOne_26 : decode cX12_turnsOne 26 = .ok (.iaload, 1) := by decide +kernel
theorem dX12_turnsOne_27 : decode cX12_turnsOne 27 = .ok (.istore_n 3, 1) := by decide +kernel
theorem dX12_turnsOne_28 : decode cX12_turnsOne 28 = .ok (.aload_n 1, 1) := by decide +kernel
theorem dX12_turnsOne_29 : decode cX12_turnsOne 29 = .ok (.aload_n 0, 1) := by decide +kernel
theorem dX12_turnsOne_30 : decode cX12_turnsOne 30 = .ok (.getfield 24, 3) := by decide +kernel
theorem dX12_turnsOne_33 : decode cX12_turnsOne 33 = .ok (.iload_n 2, 1) := by decide +kernel
theorem dX12_turnsOne_34 : decode cX12_turnsOne 34 = .ok (.iaload, 1) := by decide +kernel
theorem dX12_turnsOne_35 : decode cX12_turnsOne 35 = .ok (.invokestatic 266, 3) := by decide +kernel
theorem dX12_turnsOne_38 : decode cX12_turnsOne 38 = .ok (.ifCond .eq 13, 3) := by decide +kernel
theorem dX12_turnsOne_41 : decode cX12_turnsOne 41 = .ok (.iload_n 3, 1) := by decide +kernel
theorem dX12_turnsOne_42 : decode cX12_turnsOne 42 = .ok (.aload_n 0, 1) := by decide +kernel
theorem dX12_turnsOne_43 : decode cX12_turnsOne 43 = .ok (.getfield 24, 3) := by decide +kernel
theorem dX12_turnsOne_46 : decode cX12_turnsOne 46 = .ok (.iload_n 2, 1) := by decide +kernel
theorem dX12_turnsOne_47 : decode cX12_turnsOne 47 = .ok (.iaload, 1) := by decide +kernel
theorem dX12_turnsOne_48 : decode cX12_turnsOne 48 = .ok (.if_icmp .ne 6, 3) := by decide +kernel
theorem dX12_turnsOne_51 : decode cX12_turnsOne 51 = .ok (.bipush (-3), 2) := by decide +kernel
theorem dX12_turnsOne_53 : decode cX12_turnsOne 53 = .ok (.ireturn, 1) := by decide +kernel
theorem dX12_turnsOne_54 : decode cX12_turnsOne 54 = .ok (.aload_n 1, 1) := by decide +kernel
theorem dX12_turnsOne_55 : decode cX12_turnsOne 55 = .ok (.bipush 21, 2) := by decide +kernel
theorem dX12_turnsOne_57 : decode cX12_turnsOne 57 = .ok (.iload_n 2, 1) := by decide +kernel
theorem dX12_turnsOne_58 : decode cX12_turnsOne 58 = .ok (.iadd, 1) := by decide +kernel
theorem dX12_turnsOne_59 : decode cX12_turnsOne 59 = .ok (.aload_n 0, 1) := by decide +kernel
theorem dX12_turnsOne_60 : decode cX12_turnsOne 60 = .ok (.getfield 24, 3) := by decide +kernel
theorem dX12_turnsOne_63 : decode cX12_turnsOne 63 = .ok (.iload_n 2, 1) := by decide +kernel
theorem dX12_turnsOne_64 : decode cX12_turnsOne 64 = .ok (.iaload, 1) := by decide +kernel
theorem dX12_turnsOne_65 : decode cX12_turnsOne 65 = .ok (.iastore, 1) := by decide +kernel
theorem dX12_turnsOne_66 : decode cX12_turnsOne 66 = .ok (.iload_n 3, 1) := by decide +kernel
theorem dX12_turnsOne_67 : decode cX12_turnsOne 67 = .ok (.ifCond .ge 8, 3) := by decide +kernel
theorem dX12_turnsOne_70 : decode cX12_turnsOne 70 = .ok (.bipush (-4), 2) := by decide +kernel
theorem dX12_turnsOne_72 : decode cX12_turnsOne 72 = .ok (.goto 4, 3) := by decide +kernel
theorem dX12_turnsOne_75 : decode cX12_turnsOne 75 = .ok (.iload_n 3, 1) := by decide +kernel
theorem dX12_turnsOne_76 : decode cX12_turnsOne 76 = .ok (.ireturn, 1) := by decide +kernel
theorem dX12_pushesOne_0 : decode cX12_pushesOne 0 = .ok (.aload_n 0, 1) := by decide +kernel
theorem dX12_pushesOne_1 : decode cX12_pushesOne 1 = .ok (.iload_n 2, 1) := by decide +kernel
theorem dX12_pushesOne_2 : decode cX12_pushesOne 2 = .ok (.invokevirtual 308, 3) := by decide +kernel
theorem dX12_pushesOne_5 : decode cX12_pushesOne 5 = .ok (.ifCond .eq 21, 3) := by decide +kernel
theorem dX12_pushesOne_8 : decode cX12_pushesOne 8 = .ok (.iload_n 3, 1) := by decide +kernel
theorem dX12_pushesOne_9 : decode cX12_pushesOne 9 = .ok (.i2l, 1) := by decide +kernel
theorem dX12_pushesOne_10 : decode cX12_pushesOne 10 = .ok (.ldc2_w 346, 3) := by decide +kernel
theorem dX12_pushesOne_13 : decode cX12_pushesOne 13 = .ok (.ldc2_w 348, 3) := by decide +kernel
theorem dX12_pushesOne_16 : decode cX12_pushesOne 16 = .ok (.invokestatic 125, 3) := by decide +kernel
theorem dX12_pushesOne_19 : decode cX12_pushesOne 19 = .ok (.ifCond .eq 7, 3) := by decide +kernel
theorem dX12_pushesOne_22 : decode cX12_pushesOne 22 = .ok (.iload_n 3, 1) := by decide +kernel
theorem dX12_pushesOne_23 : decode cX12_pushesOne 23 = .ok (.ifCond .ne 5, 3) := by decide +kernel
theorem dX12_pushesOne_26 : decode cX12_pushesOne 26 = .ok (.iconst (-1), 1) := by decide +kernel
theorem dX12_pushesOne_27 : decode cX12_pushesOne 27 = .ok (.ireturn, 1) := by decide +kernel
theorem dX12_pushesOne_28 : decode cX12_pushesOne 28 = .ok (.aload_n 1, 1) := by decide +kernel
theorem dX12_pushesOne_29 : decode cX12_pushesOne 29 = .ok (.iload_n 2, 1) := by decide +kernel
theorem dX12_pushesOne_30 : decode cX12_pushesOne 30 = .ok (.invokestatic 132, 3) := by decide +kernel
theorem dX12_pushesOne_33 : decode cX12_pushesOne 33 = .ok (.ifCond .eq 6, 3) := by decide +kernel
theorem dX12_pushesOne_36 : decode cX12_pushesOne 36 = .ok (.bipush (-2), 2) := by decide +kernel
theorem dX12_pushesOne_38 : decode cX12_pushesOne 38 = .ok (.ireturn, 1) := by decide +kernel
theorem dX12_pushesOne_39 : decode cX12_pushesOne 39 = .ok (.aload_n 1, 1) := by decide +kernel
theorem dX12_pushesOne_40 : decode cX12_pushesOne 40 = .ok (.bipush 13, 2) := by decide +kernel
theorem dX12_pushesOne_42 : decode cX12_pushesOne 42 = .ok (.iload_n 2, 1) := by decide +kernel
theorem dX12_pushesOne_43 : decode cX12_pushesOne 43 = .ok (.iadd, 1) := by decide +kernel
theorem dX12_pushesOne_44 : decode cX12_pushesOne 44 = .ok (.iconst 0, 1) := by decide +kernel
theorem dX12_pushesOne_45 : decode cX12_pushesOne 45 = .ok (.aload_n 0, 1) := by decide +kernel
theorem dX12_pushesOne_46 : decode cX12_pushesOne 46 = .ok (.invokevirtual 192, 3) := by decide +kernel
theorem dX12_pushesOne_49 : decode cX12_pushesOne 49 = .ok (.iconst 1, 1) := by decide +kernel
theorem dX12_pushesOne_50 : decode cX12_pushesOne 50 = .ok (.isub, 1) := by decide +kernel
theorem dX12_pushesOne_51 : decode cX12_pushesOne 51 = .ok (.aload_n 1, 1) := by decide +kernel
theorem dX12_pushesOne_52 : decode cX12_pushesOne 52 = .ok (.bipush 13, 2) := by decide +kernel
theorem dX12_pushesOne_54 : decode cX12_pushesOne 54 = .ok (.iload_n 2, 1) := by decide +kernel
theorem dX12_pushesOne_55 : decode cX12_pushesOne 55 = .ok (.iadd, 1) := by decide +kernel
theorem dX12_pushesOne_56 : decode cX12_pushesOne 56 = .ok (.iaload, 1) := by decide +kernel
theorem dX12_pushesOne_57 : decode cX12_pushesOne 57 = .ok (.iload_n 3, 1) := by decide +kernel
theorem dX12_pushesOne_58 : decode cX12_pushesOne 58 = .ok (.iadd, 1) := by decide +kernel
theorem dX12_pushesOne_59 : decode cX12_pushesOne 59 = .ok (.invokestatic 145, 3) := by decide +kernel
theorem dX12_pushesOne_62 : decode cX12_pushesOne 62 = .ok (.invokestatic 287, 3) := by decide +kernel
theorem dX12_pushesOne_65 : decode cX12_pushesOne 65 = .ok (.iastore, 1) := by decide +kernel
theorem dX12_pushesOne_66 : decode cX12_pushesOne 66 = .ok (.aload_n 1, 1) := by decide +kernel
theorem dX12_pushesOne_67 : decode cX12_pushesOne 67 = .ok (.bipush 13, 2) := by decide +kernel
theorem dX12_pushesOne_69 : decode cX12_pushesOne 69 = .ok (.iload_n 2, 1) := by decide +kernel
theorem dX12_pushesOne_70 : decode cX12_pushesOne 70 = .ok (.iadd, 1) := by decide +kernel
theorem dX12_pushesOne_71 : decode cX12_pushesOne 71 = .ok (.iaload, 1) := by decide +kernel
theorem dX12_pushesOne_72 : decode cX12_pushesOne 72 = .ok (.ireturn, 1) := by decide +kernel
theorem dX12_swapsTwo_0 : decode cX12_swapsTwo 0 = .ok (.aload_n 0, 1) := by decide +kernel
theorem dX12_swapsTwo_1 : decode cX12_swapsTwo 1 = .ok (.iload_n 1, 1) := by decide +kernel
theorem dX12_swapsTwo_2 : decode cX12_swapsTwo 2 = .ok (.invokevirtual 294, 3) := by decide +kernel
theorem dX12_swapsTwo_5 : decode cX12_swapsTwo 5 = .ok (.ifCond .eq 16, 3) := by decide +kernel
theorem dX12_swapsTwo_8 : decode cX12_swapsTwo 8 = .ok (.aload_n 0, 1) := by decide +kernel
theorem dX12_swapsTwo_9 : decode cX12_swapsTwo 9 = .ok (.iload_n 2, 1) := by decide +kernel
theorem dX12_swapsTwo_10 : decode cX12_swapsTwo 10 = .ok (.invokevirtual 294, 3) := by decide +kernel
theorem dX12_swapsTwo_13 : decode cX12_swapsTwo 13 = .ok (.ifCond .eq 8, 3) := by decide +kernel
theorem dX12_swapsTwo_16 : decode cX12_swapsTwo 16 = .ok (.iload_n 1, 1) := by decide +kernel
theorem dX12_swapsTwo_17 : decode cX12_swapsTwo 17 = .ok (.iload_n 2, 1) := by decide +kernel
theorem dX12_swapsTwo_18 : decode cX12_swapsTwo 18 = .ok (.if_icmp .ne 5, 3) := by decide +kernel
theorem dX12_swapsTwo_21 : decode cX12_swapsTwo 21 = .ok (.iconst (-1), 1) := by decide +kernel
theorem dX12_swapsTwo_22 : decode cX12_swapsTwo 22 = .ok (.ireturn, 1) := by decide +kernel
theorem dX12_swapsTwo_23 : decode cX12_swapsTwo 23 = .ok (.aload_n 0, 1) := by decide +kernel
theorem dX12_swapsTwo_24 : decode cX12_swapsTwo 24 = .ok (.getfield 31, 3) := by decide +kernel
theorem dX12_swapsTwo_27 : decode cX12_swapsTwo 27 = .ok (.iload_n 1, 1) := by decide +kernel
theorem dX12_swapsTwo_28 : decode cX12_swapsTwo 28 = .ok (.invokestatic 266, 3) := by decide +kernel
theorem dX12_swapsTwo_31 : decode cX12_swapsTwo 31 = .ok (.ifCond .eq 14, 3) := by decide +kernel
theorem dX12_swapsTwo_34 : decode cX12_swapsTwo 34 = .ok (.aload_n 0, 1) := by decide +kernel
theorem dX12_swapsTwo_35 : decode cX12_swapsTwo 35 = .ok (.getfield 31, 3) := by decide +kernel
theorem dX12_swapsTwo_38 : decode cX12_swapsTwo 38 = .ok (.iload_n 2, 1) := by decide +kernel
theorem dX12_swapsTwo_39 : decode cX12_swapsTwo 39 = .ok (.invokestatic 266, 3) := by decide +kernel
theorem dX12_swapsTwo_42 : decode cX12_swapsTwo 42 = .ok (.ifCond .ne 6, 3) := by decide +kernel
theorem dX12_swapsTwo_45 : decode cX12_swapsTwo 45 = .ok (.bipush (-2), 2) := by decide +kernel
theorem dX12_swapsTwo_47 : decode cX12_swapsTwo 47 = .ok (.ireturn, 1) := by decide +kernel
theorem dX12_swapsTwo_48 : decode cX12_swapsTwo 48 = .ok (.aload_n 0, 1) := by decide +kernel
theorem dX12_swapsTwo_49 : decode cX12_swapsTwo 49 = .ok (.getfield 31, 3) := by decide +kernel
theorem dX12_swapsTwo_52 : decode cX12_swapsTwo 52 = .ok (.iload_n 1, 1) := by decide +kernel
theorem dX12_swapsTwo_53 : decode cX12_swapsTwo 53 = .ok (.iaload, 1) := by decide +kernel
theorem dX12_swapsTwo_54 : decode cX12_swapsTwo 54 = .ok (.istore_n 3, 1) := by decide +kernel
theorem dX12_swapsTwo_55 : decode cX12_swapsTwo 55 = .ok (.aload_n 0, 1) := by decide +kernel
theorem dX12_swapsTwo_56 : decode cX12_swapsTwo 56 = .ok (.getfield 31, 3) := by decide +kernel
theorem dX12_swapsTwo_59 : decode cX12_swapsTwo 59 = .ok (.iload_n 1, 1) := by decide +kernel
theorem dX12_swapsTwo_60 : decode cX12_swapsTwo 60 = .ok (.aload_n 0, 1) := by decide +kernel
theorem dX12_swapsTwo_61 : decode cX12_swapsTwo 61 = .ok (.getfield 31, 3) := by decide +kernel
theorem dX12_swapsTwo_64 : decode cX12_swapsTwo 64 = .ok (.iload_n 2, 1) := by decide +kernel
theorem dX12_swapsTwo_65 : decode cX12_swapsTwo 65 = .ok (.iaload, 1) := by decide +kernel
theorem dX12_swapsTwo_66 : decode cX12_swapsTwo 66 = .ok (.iastore, 1) := by decide +kernel
theorem dX12_swapsTwo_67 : decode cX12_swapsTwo 67 = .ok (.aload_n 0, 1) := by decide +kernel
theorem dX12_swapsTwo_68 : decode cX12_swapsTwo 68 = .ok (.getfield 31, 3) := by decide +kernel
theorem dX12_swapsTwo_71 : decode cX12_swapsTwo 71 = .ok (.iload_n 2, 1) := by decide +kernel
theorem dX12_swapsTwo_72 : decode cX12_swapsTwo 72 = .ok (.iload_n 3, 1) := by decide +kernel
theorem dX12_swapsTwo_73 : decode cX12_swapsTwo 73 = .ok (.iastore, 1) := by decide +kernel
theorem dX12_swapsTwo_74 : decode cX12_swapsTwo 74 = .ok (.aload_n 0, 1) := by decide +kernel
theorem dX12_swapsTwo_75 : decode cX12_swapsTwo 75 = .ok (.getfield 31, 3) := by decide +kernel
theorem dX12_swapsTwo_78 : decode cX12_swapsTwo 78 = .ok (.iload_n 1, 1) := by decide +kernel
theorem dX12_swapsTwo_79 : decode cX12_swapsTwo 79 = .ok (.iaload, 1) := by decide +kernel
theorem dX12_swapsTwo_80 : decode cX12_swapsTwo 80 = .ok (.aload_n 0, 1) := by decide +kernel
theorem dX12_swapsTwo_81 : decode cX12_swapsTwo 81 = .ok (.getfield 31, 3) := by decide +kernel
theorem dX12_swapsTwo_84 : decode cX12_swapsTwo 84 = .ok (.iload_n 2, 1) := by decide +kernel
theorem dX12_swapsTwo_85 : decode cX12_swapsTwo 85 = .ok (.iaload, 1) := by decide +kernel
theorem dX12_swapsTwo_86 : decode cX12_swapsTwo 86 = .ok (.isub, 1) := by decide +kernel
theorem dX12_swapsTwo_87 : decode cX12_swapsTwo 87 = .ok (.invokestatic 290, 3) := by decide +kernel
theorem dX12_swapsTwo_90 : decode cX12_swapsTwo 90 = .ok (.ireturn, 1) := by decide +kernel
theorem dX12_steps_0 : decode cX12_steps 0 = .ok (.aload_n 0, 1) := by decide +kernel
theorem dX12_steps_1 : decode cX12_steps 1 = .ok (.iconst 0, 1) := by decide +kernel
theorem dX12_steps_2 : decode cX12_steps 2 = .ok (.putfield 112, 3) := by decide +kernel
theorem dX12_steps_5 : decode cX12_steps 5 = .ok (.iload_n 1, 1) := by decide +kernel
theorem dX12_steps_6 : decode cX12_steps 6 = .ok (.i2l, 1) := by decide +kernel
theorem dX12_steps_7 : decode cX12_steps 7 = .ok (.lconst 0, 1) := by decide +kernel
theorem dX12_steps_8 : decode cX12_steps 8 = .ok (.ldc2_w 350, 3) := by decide +kernel
theorem dX12_steps_11 : decode cX12_steps 11 = .ok (.invokestatic 125, 3) := by decide +kernel
theorem dX12_steps_14 : decode cX12_steps 14 = .ok (.ifCond .ne 5, 3) := by decide +kernel
theorem dX12_steps_17 : decode cX12_steps 17 = .ok (.iconst (-1), 1) := by decide +kernel
theorem dX12_steps_18 : decode cX12_steps 18 = .ok (.ireturn, 1) := by decide +kernel
theorem dX12_steps_19 : decode cX12_steps 19 = .ok (.aload_n 0, 1) := by decide +kernel
theorem dX12_steps_20 : decode cX12_steps 20 = .ok (.invokevirtual 352, 3) := by decide +kernel
theorem dX12_steps_23 : decode cX12_steps 23 = .ok (.aload_n 0, 1) := by decide +kernel
theorem dX12_steps_24 : decode cX12_steps 24 = .ok (.aload_n 0, 1) := by decide +kernel
theorem dX12_steps_25 : decode cX12_steps 25 = .ok (.getfield 31, 3) := by decide +kernel
theorem dX12_steps_28 : decode cX12_steps 28 = .ok (.iload_n 1, 1) := by decide +kernel
theorem dX12_steps_29 : decode cX12_steps 29 = .ok (.invokevirtual 355, 3) := by decide +kernel
theorem dX12_steps_32 : decode cX12_steps 32 = .ok (.aload_n 0, 1) := by decide +kernel
theorem dX12_steps_33 : decode cX12_steps 33 = .ok (.iconst 0, 1) := by decide +kernel
theorem dX12_steps_34 : decode cX12_steps 34 = .ok (.putfield 119, 3) := by decide +kernel
theorem dX12_steps_37 : decode cX12_steps 37 = .ok (.aload_n 0, 1) := by decide +kernel
theorem dX12_steps_38 : decode cX12_steps 38 = .ok (.aload_n 0, 1) := by decide +kernel
theorem dX12_steps_39 : decode cX12_steps 39 = .ok (.getfield 327, 3) := by decide +kernel
theorem dX12_steps_42 : decode cX12_steps 42 = .ok (.i2l, 1) := by decide +kernel
theorem dX12_steps_43 : decode cX12_steps 43 = .ok (.invokevirtual 358, 3) := by decide +kernel
theorem dX12_steps_46 : decode cX12_steps 46 = .ok (.aload_n 0, 1) := by decide +kernel
theorem dX12_steps_47 : decode cX12_steps 47 = .ok (.aload_n 0, 1) := by decide +kernel
theorem dX12_steps_48 : decode cX12_steps 48 = .ok (.getfield 330, 3) := by decide +kernel
theorem dX12_steps_51 : decode cX12_steps 51 = .ok (.i2l, 1) := by decide +kernel
theorem dX12_steps_52 : decode cX12_steps 52 = .ok (.invokevirtual 358, 3) := by decide +kernel
theorem dX12_steps_55 : decode cX12_steps 55 = .ok (.aload_n 0, 1) := by decide +kernel
theorem dX12_steps_56 : decode cX12_steps 56 = .ok (.aload_n 0, 1) := by decide +kernel
theorem dX12_steps_57 : decode cX12_steps 57 = .ok (.getfield 31, 3) := by decide +kernel
theorem dX12_steps_60 : decode cX12_steps 60 = .ok (.bipush 12, 2) := by decide +kernel
theorem dX12_steps_62 : decode cX12_steps 62 = .ok (.iaload, 1) := by decide +kernel
theorem dX12_steps_63 : decode cX12_steps 63 = .ok (.invokevirtual 318, 3) := by decide +kernel
theorem dX12_steps_66 : decode cX12_steps 66 = .ok (.ireturn, 1) := by decide +kernel
theorem dX12_turnsTo_0 : decode cX12_turnsTo 0 = .ok (.aload_n 0, 1) := by decide +kernel
theorem dX12_turnsTo_1 : decode cX12_turnsTo 1 = .ok (.iconst 0, 1) := by decide +kernel
theorem dX12_turnsTo_2 : decode cX12_turnsTo 2 = .ok (.putfield 112, 3) := by decide +kernel
theorem dX12_turnsTo_5 : decode cX12_turnsTo 5 = .ok (.aload_n 0, 1) := by decide +kernel
theorem dX12_turnsTo_6 : decode cX12_turnsTo 6 = .ok (.invokevirtual 352, 3) := by decide +kernel
theorem dX12_turnsTo_9 : decode cX12_turnsTo 9 = .ok (.aload_n 0, 1) := by decide +kernel
theorem dX12_turnsTo_10 : decode cX12_turnsTo 10 = .ok (.aload_n 0, 1) := by decide +kernel
theorem dX12_turnsTo_11 : decode cX12_turnsTo 11 = .ok (.aload_n 0, 1) := by decide +kernel
theorem dX12_turnsTo_12 : decode cX12_turnsTo 12 = .ok (.getfield 31, 3) := by decide +kernel
theorem dX12_turnsTo_15 : decode cX12_turnsTo 15 = .ok (.iload_n 1, 1) := by decide +kernel
theorem dX12_turnsTo_16 : decode cX12_turnsTo 16 = .ok (.invokevirtual 362, 3) := by decide +kernel
theorem dX12_turnsTo_19 : decode cX12_turnsTo 19 = .ok (.invokevirtual 365, 3) := by decide +kernel
theorem dX12_turnsTo_22 : decode cX12_turnsTo 22 = .ok (.ireturn, 1) := by decide +kernel
theorem dX12_pushes_0 : decode cX12_pushes 0 = .ok (.aload_n 0, 1) := by decide +kernel
theorem dX12_pushes_1 : decode cX12_pushes 1 = .ok (.iconst 0, 1) := by decide +kernel
theorem dX12_pushes_2 : decode cX12_pushes 2 = .ok (.putfield 112, 3) := by decide +kernel
theorem dX12_pushes_5 : decode cX12_pushes 5 = .ok (.aload_n 0, 1) := by decide +kernel
theorem dX12_pushes_6 : decode cX12_pushes 6 = .ok (.invokevirtual 352, 3) := by decide +kernel
theorem dX12_pushes_9 : decode cX12_pushes 9 = .ok (.aload_n 0, 1) := by decide +kernel
theorem dX12_pushes_10 : decode cX12_pushes 10 = .ok (.aload_n 0, 1) := by decide +kernel
theorem dX12_pushes_11 : decode cX12_pushes 11 = .ok (.aload_n 0, 1) := by decide +kernel
theorem dX12_pushes_12 : decode cX12_pushes 12 = .ok (.getfield 31, 3) := by decide +kernel
theorem dX12_pushes_15 : decode cX12_pushes 15 = .ok (.iload_n 1, 1) := by decide +kernel
theorem dX12_pushes_16 : decode cX12_pushes 16 = .ok (.iload_n 2, 1) := by decide +kernel
theorem dX12_pushes_17 : decode cX12_pushes 17 = .ok (.invokevirtual 368, 3) := by decide +kernel
theorem dX12_pushes_20 : decode cX12_pushes 20 = .ok (.invokevirtual 365, 3) := by decide +kernel
theorem dX12_pushes_23 : decode cX12_pushes 23 = .ok (.ireturn, 1) := by decide +kernel
theorem dX12_swaps_0 : decode cX12_swaps 0 = .ok (.aload_n 0, 1) := by decide +kernel
theorem dX12_swaps_1 : decode cX12_swaps 1 = .ok (.iconst 0, 1) := by decide +kernel
theorem dX12_swaps_2 : decode cX12_swaps 2 = .ok (.putfield 112, 3) := by decide +kernel
theorem dX12_swaps_5 : decode cX12_swaps 5 = .ok (.aload_n 0, 1) := by decide +kernel
theorem dX12_swaps_6 : decode cX12_swaps 6 = .ok (.invokevirtual 352, 3) := by decide +kernel
theorem dX12_swaps_9 : decode cX12_swaps 9 = .ok (.aload_n 0, 1) := by decide +kernel
theorem dX12_swaps_10 : decode cX12_swaps 10 = .ok (.aload_n 0, 1) := by decide +kernel
theorem dX12_swaps_11 : decode cX12_swaps 11 = .ok (.iload_n 1, 1) := by decide +kernel
theorem dX12_swaps_12 : decode cX12_swaps 12 = .ok (.iload_n 2, 1) := by decide +kernel
theorem dX12_swaps_13 : decode cX12_swaps 13 = .ok (.invokevirtual 371, 3) := by decide +kernel
theorem dX12_swaps_16 : decode cX12_swaps 16 = .ok (.invokevirtual 365, 3) := by decide +kernel
theorem dX12_swaps_19 : decode cX12_swaps 19 = .ok (.ireturn, 1) := by decide +kernel
theorem dX12_readsAct_0 : decode cX12_readsAct 0 = .ok (.aload_n 0, 1) := by decide +kernel
theorem dX12_readsAct_1 : decode cX12_readsAct 1 = .ok (.getfield 374, 3) := by decide +kernel
theorem dX12_readsAct_4 : decode cX12_readsAct 4 = .ok (.istore_n 1, 1) := by decide +kernel
theorem dX12_readsAct_5 : decode cX12_readsAct 5 = .ok (.aload_n 0, 1) := by decide +kernel
theorem dX12_readsAct_6 : decode cX12_readsAct 6 = .ok (.getfield 73, 3) := by decide +kernel
theorem dX12_readsAct_9 : decode cX12_readsAct 9 = .ok (.iload_n 1, 1) := by decide +kernel
theorem dX12_readsAct_10 : decode cX12_readsAct 10 = .ok (.aload_n 0, 1) := by decide +kernel
theorem dX12_readsAct_11 : decode cX12_readsAct 11 = .ok (.ldc_w 377, 3) := by decide +kernel
theorem dX12_readsAct_14 : decode cX12_readsAct 14 = .ok (.invokevirtual 182, 3) := by decide +kernel
theorem dX12_readsAct_17 : decode cX12_readsAct 17 = .ok (.iastore, 1) := by decide +kernel
theorem dX12_readsAct_18 : decode cX12_readsAct 18 = .ok (.aload_n 0, 1) := by decide +kernel
theorem dX12_readsAct_19 : decode cX12_readsAct 19 = .ok (.dup, 1) := by decide +kernel
theorem dX12_readsAct_20 : decode cX12_readsAct 20 = .ok (.getfield 374, 3) := by decide +kernel
theorem dX12_readsAct_23 : decode cX12_readsAct 23 = .ok (.iconst 1, 1) := by decide +kernel
theorem dX12_readsAct_24 : decode cX12_readsAct 24 = .ok (.iadd, 1) := by decide +kernel
theorem dX12_readsAct_25 : decode cX12_readsAct 25 = .ok (.putfield 374, 3) := by decide +kernel
theorem dX12_readsAct_28 : decode cX12_readsAct 28 = .ok (.aload_n 0, 1) := by decide +kernel
theorem dX12_readsAct_29 : decode cX12_readsAct 29 = .ok (.getfield 73, 3) := by decide +kernel
theorem dX12_readsAct_32 : decode cX12_readsAct 32 = .ok (.iload_n 1, 1) := by decide +kernel
theorem dX12_readsAct_33 : decode cX12_readsAct 33 = .ok (.iaload, 1) := by decide +kernel
theorem dX12_readsAct_34 : decode cX12_readsAct 34 = .ok (.ifCond .ge 5, 3) := by decide +kernel
theorem dX12_readsAct_37 : decode cX12_readsAct 37 = .ok (.iconst 0, 1) := by decide +kernel
theorem dX12_readsAct_38 : decode cX12_readsAct 38 = .ok (.ireturn, 1) := by decide +kernel
theorem dX12_readsAct_39 : decode cX12_readsAct 39 = .ok (.aload_n 0, 1) := by decide +kernel
theorem dX12_readsAct_40 : decode cX12_readsAct 40 = .ok (.getfield 76, 3) := by decide +kernel
theorem dX12_readsAct_43 : decode cX12_readsAct 43 = .ok (.iload_n 1, 1) := by decide +kernel
theorem dX12_readsAct_44 : decode cX12_readsAct 44 = .ok (.aload_n 0, 1) := by decide +kernel
theorem dX12_readsAct_45 : decode cX12_readsAct 45 = .ok (.iconst 1, 1) := by decide +kernel
theorem dX12_readsAct_46 : decode cX12_readsAct 46 = .ok (.invokevirtual 189, 3) := by decide +kernel
theorem dX12_readsAct_49 : decode cX12_readsAct 49 = .ok (.iastore, 1) := by decide +kernel
theorem dX12_readsAct_50 : decode cX12_readsAct 50 = .ok (.aload_n 0, 1) := by decide +kernel
theorem dX12_readsAct_51 : decode cX12_readsAct 51 = .ok (.getfield 76, 3) := by decide +kernel
theorem dX12_readsAct_54 : decode cX12_readsAct 54 = .ok (.iload_n 1, 1) := by decide +kernel
theorem dX12_readsAct_55 : decode cX12_readsAct 55 = .ok (.iaload, 1) := by decide +kernel
theorem dX12_readsAct_56 : decode cX12_readsAct 56 = .ok (.ifCond .lt 13, 3) := by decide +kernel
theorem dX12_readsAct_59 : decode cX12_readsAct 59 = .ok (.aload_n 0, 1) := by decide +kernel
theorem dX12_readsAct_60 : decode cX12_readsAct 60 = .ok (.getfield 73, 3) := by decide +kernel
theorem dX12_readsAct_63 : decode cX12_readsAct 63 = .ok (.iload_n 1, 1) := by decide +kernel
theorem dX12_readsAct_64 : decode cX12_readsAct 64 = .ok (.iaload, 1) := by decide +kernel
theorem dX12_readsAct_65 : decode cX12_readsAct 65 = .ok (.iconst 2, 1) := by decide +kernel
theorem dX12_readsAct_66 : decode cX12_readsAct 66 = .ok (.if_icmp .ge 18, 3) := by decide +kernel
theorem dX12_readsAct_69 : decode cX12_readsAct 69 = .ok (.aload_n 0, 1) := by decide +kernel
theorem dX12_readsAct_70 : decode cX12_readsAct 70 = .ok (.getfield 76, 3) := by decide +kernel
theorem dX12_readsAct_73 : decode cX12_readsAct 73 = .ok (.iload_n 1, 1) := by decide +kernel
theorem dX12_readsAct_74 : decode cX12_readsAct 74 = .ok (.iaload, 1) := by decide +kernel
theorem dX12_readsAct_75 : decode cX12_readsAct 75 = .ok (.ifCond .lt 7, 3) := by decide +kernel
theorem dX12_readsAct_78 : decode cX12_readsAct 78 = .ok (.iconst 1, 1) := by decide +kernel
theorem dX12_readsAct_79 : decode cX12_readsAct 79 = .ok (.goto 4, 3) := by decide +kernel
theorem dX12_readsAct_82 : decode cX12_readsAct 82 = .ok (.iconst 0, 1) := by decide +kernel
theorem dX12_readsAct_83 : decode cX12_readsAct 83 = .ok (.ireturn, 1) := by decide +kernel
theorem dX12_readsAct_84 : decode cX12_readsAct 84 = .ok (.aload_n 0, 1) := by decide +kernel
theorem dX12_readsAct_85 : decode cX12_readsAct 85 = .ok (.getfield 79, 3) := by decide +kernel
theorem dX12_readsAct_88 : decode cX12_readsAct 88 = .ok (.iload_n 1, 1) := by decide +kernel
theorem dX12_readsAct_89 : decode cX12_readsAct 89 = .ok (.aload_n 0, 1) := by decide +kernel
theorem dX12_readsAct_90 : decode cX12_readsAct 90 = .ok (.aload_n 0, 1) := by decide +kernel
theorem dX12_readsAct_91 : decode cX12_readsAct 91 = .ok (.getfield 73, 3) := by decide +kernel
theorem dX12_readsAct_94 : decode cX12_readsAct 94 = .ok (.iload_n 1, 1) := by decide +kernel
theorem dX12_readsAct_95 : decode cX12_readsAct 95 = .ok (.iaload, 1) := by decide +kernel
theorem dX12_readsAct_96 : decode cX12_readsAct 96 = .ok (.iconst 4, 1) := by decide +kernel
theorem dX12_readsAct_97 : decode cX12_readsAct 97 = .ok (.if_icmp .ne 7, 3) := by decide +kernel
theorem dX12_readsAct_100 : decode cX12_readsAct 100 = .ok (.iconst 0, 1) := by decide +kernel
theorem dX12_readsAct_101 : decode cX12_readsAct 101 = .ok (.goto 4, 3) := by decide +kernel
theorem dX12_readsAct_104 : decode cX12_readsAct 104 = .ok (.iconst 1, 1) := by decide +kernel
theorem dX12_readsAct_105 : decode cX12_readsAct 105 = .ok (.bipush 9, 2) := by decide +kernel
theorem dX12_readsAct_107 : decode cX12_readsAct 107 = .ok (.invokevirtual 379, 3) := by decide +kernel
theorem dX12_readsAct_110 : decode cX12_readsAct 110 = .ok (.iastore, 1) := by decide +kernel
theorem dX12_readsAct_111 : decode cX12_readsAct 111 = .ok (.aload_n 0, 1) := by decide +kernel
theorem dX12_readsAct_112 : decode cX12_readsAct 112 = .ok (.getfield 79, 3) := by decide +kernel
theorem dX12_readsAct_115 : decode cX12_readsAct 115 = .ok (.iload_n 1, 1) := by decide +kernel
theorem dX12_readsAct_116 : decode cX12_readsAct 116 = .ok (.iaload, 1) := by decide +kernel
theorem dX12_readsAct_117 : decode cX12_readsAct 117 = .ok (.ifCond .lt 7, 3) := by decide +kernel
theorem dX12_readsAct_120 : decode cX12_readsAct 120 = .ok (.iconst 1, 1) := by decide +kernel
theorem dX12_readsAct_121 : decode cX12_readsAct 121 = .ok (.goto 4, 3) := by decide +kernel
theorem dX12_readsAct_124 : decode cX12_readsAct 124 = .ok (.iconst 0, 1) := by decide +kernel
theorem dX12_readsAct_125 : decode cX12_readsAct 125 = .ok (.ireturn, 1) := by decide +kernel
theorem dX12_does_0 : decode cX12_does 0 = .ok (.aload_n 0, 1) := by decide +kernel
theorem dX12_does_1 : decode cX12_does 1 = .ok (.getfield 76, 3) := by decide +kernel
theorem dX12_does_4 : decode cX12_does 4 = .ok (.iload_n 1, 1) := by decide +kernel
theorem dX12_does_5 : decode cX12_does 5 = .ok (.iaload, 1) := by decide +kernel
theorem dX12_does_6 : decode cX12_does 6 = .ok (.istore_n 2, 1) := by decide +kernel
theorem dX12_does_7 : decode cX12_does 7 = .ok (.aload_n 0, 1) := by decide +kernel
theorem dX12_does_8 : decode cX12_does 8 = .ok (.getfield 73, 3) := by decide +kernel
theorem dX12_does_11 : decode cX12_does 11 = .ok (.iload_n 1, 1) := by decide +kernel
theorem dX12_does_12 : decode cX12_does 12 = .ok (.iaload, 1) := by decide +kernel
theorem dX12_does_13 : decode cX12_does 13 = .ok (.tableswitch 129 0 3 #[31, 54, 80, 104], 31) := by decide +kernel
theorem dX12_does_44 : decode cX12_does 44 = .ok (.iconst 0, 1) := by decide +kernel
theorem dX12_does_45 : decode cX12_does 45 = .ok (.istore_n 3, 1) := by decide +kernel
theorem dX12_does_46 : decode cX12_does 46 = .ok (.iload_n 3, 1) := by decide +kernel
theorem dX12_does_47 : decode cX12_does 47 = .ok (.iload_n 2, 1) := by decide +kernel
theorem dX12_does_48 : decode cX12_does 48 = .ok (.if_icmp .ge 17, 3) := by decide +kernel
theorem dX12_does_51 : decode cX12_does 51 = .ok (.aload_n 0, 1) := by decide +kernel
theorem dX12_does_52 : decode cX12_does 52 = .ok (.aload_n 0, 1) := by decide +kernel
theorem dX12_does_53 : decode cX12_does 53 = .ok (.getfield 31, 3) := by decide +kernel
theorem dX12_does_56 : decode cX12_does 56 = .ok (.invokevirtual 343, 3) := by decide +kernel
theorem dX12_does_59 : decode cX12_does 59 = .ok (.iinc 3 1, 3) := by decide +kernel
theorem dX12_does_62 : decode cX12_does 62 = .ok (.goto (-16), 3) := by decide +kernel
theorem dX12_does_65 : decode cX12_does 65 = .ok (.iconst 1, 1) := by decide +kernel
theorem dX12_does_66 : decode cX12_does 66 = .ok (.ireturn, 1) := by decide +kernel
theorem dX12_does_67 : decode cX12_does 67 = .ok (.aload_n 0, 1) := by decide +kernel
theorem dX12_does_68 : decode cX12_does 68 = .ok (.aload_n 0, 1) := by decide +kernel
theorem dX12_does_69 : decode cX12_does 69 = .ok (.getfield 31, 3) := by decide +kernel
theorem dX12_does_72 : decode cX12_does 72 = .ok (.iload_n 2, 1) := by decide +kernel
theorem dX12_does_73 : decode cX12_does 73 = .ok (.invokevirtual 362, 3) := by decide +kernel
theorem dX12_does_76 : decode cX12_does 76 = .ok (.istore_n 3, 1) := by decide +kernel
theorem dX12_does_77 : decode cX12_does 77 = .ok (.iload_n 3, 1) := by decide +kernel
theorem dX12_does_78 : decode cX12_does 78 = .ok (.ifCond .ge 9, 3) := by decide +kernel
theorem dX12_does_81 : decode cX12_does 81 = .ok (.iload_n 3, 1) := by decide +kernel
theorem dX12_does_82 : decode cX12_does 82 = .ok (.bipush (-4), 2) := by decide +kernel
theorem dX12_does_84 : decode cX12_does 84 = .ok (.if_icmp .ne 7, 3) := by decide +kernel
theorem dX12_does_87 : decode cX12_does 87 = .ok (.iconst 1, 1) := by decide +kernel
theorem dX12_does_88 : decode cX12_does 88 = .ok (.goto 4, 3) := by decide +kernel
theorem dX12_does_91 : decode cX12_does 91 = .ok (.iconst 0, 1) := by decide +kernel
theorem dX12_does_92 : decode cX12_does 92 = .ok (.ireturn, 1) := by decide +kernel
theorem dX12_does_93 : decode cX12_does 93 = .ok (.aload_n 0, 1) := by decide +kernel
theorem dX12_does_94 : decode cX12_does 94 = .ok (.aload_n 0, 1) := by decide +kernel
theorem dX12_does_95 : decode cX12_does 95 = .ok (.getfield 31, 3) := by decide +kernel
theorem dX12_does_98 : decode cX12_does 98 = .ok (.iload_n 2, 1) := by decide +kernel
theorem dX12_does_99 : decode cX12_does 99 = .ok (.aload_n 0, 1) := by decide +kernel
theorem dX12_does_100 : decode cX12_does 100 = .ok (.getfield 79, 3) := by decide +kernel
theorem dX12_does_103 : decode cX12_does 103 = .ok (.iload_n 1, 1) := by decide +kernel
theorem dX12_does_104 : decode cX12_does 104 = .ok (.iaload, 1) := by decide +kernel
theorem dX12_does_105 : decode cX12_does 105 = .ok (.invokevirtual 368, 3) := by decide +kernel
theorem dX12_does_108 : decode cX12_does 108 = .ok (.ifCond .lt 7, 3) := by decide +kernel
theorem dX12_does_111 : decode cX12_does 111 = .ok (.iconst 1, 1) := by decide +kernel
theorem dX12_does_112 : decode cX12_does 112 = .ok (.goto 4, 3) := by decide +kernel
theorem dX12_does_115 : decode cX12_does 115 = .ok (.iconst 0, 1) := by decide +kernel
theorem dX12_does_116 : decode cX12_does 116 = .ok (.ireturn, 1) := by decide +kernel
theorem dX12_does_117 : decode cX12_does 117 = .ok (.aload_n 0, 1) := by decide +kernel
theorem dX12_does_118 : decode cX12_does 118 = .ok (.aload_n 0, 1) := by decide +kernel
theorem dX12_does_119 : decode cX12_does 119 = .ok (.getfield 31, 3) := by decide +kernel
theorem dX12_does_122 : decode cX12_does 122 = .ok (.iload_n 2, 1) := by decide +kernel
theorem dX12_does_123 : decode cX12_does 123 = .ok (.aload_n 0, 1) := by decide +kernel
theorem dX12_does_124 : decode cX12_does 124 = .ok (.getfield 79, 3) := by decide +kernel
theorem dX12_does_127 : decode cX12_does 127 = .ok (.iload_n 1, 1) := by decide +kernel
theorem dX12_does_128 : decode cX12_does 128 = .ok (.iaload, 1) := by decide +kernel
theorem dX12_does_129 : decode cX12_does 129 = .ok (.ineg, 1) := by decide +kernel
theorem dX12_does_130 : decode cX12_does 130 = .ok (.invokevirtual 368, 3) := by decide +kernel
theorem dX12_does_133 : decode cX12_does 133 = .ok (.ifCond .lt 7, 3) := by decide +kernel
theorem dX12_does_136 : decode cX12_does 136 = .ok (.iconst 1, 1) := by decide +kernel
theorem dX12_does_137 : decode cX12_does 137 = .ok (.goto 4, 3) := by decide +kernel
theorem dX12_does_140 : decode cX12_does 140 = .ok (.iconst 0, 1) := by decide +kernel
theorem dX12_does_141 : decode cX12_does 141 = .ok (.ireturn, 1) := by decide +kernel
theorem dX12_does_142 : decode cX12_does 142 = .ok (.aload_n 0, 1) := by decide +kernel
theorem dX12_does_143 : decode cX12_does 143 = .ok (.iload_n 2, 1) := by decide +kernel
theorem dX12_does_144 : decode cX12_does 144 = .ok (.aload_n 0, 1) := by decide +kernel
theorem dX12_does_145 : decode cX12_does 145 = .ok (.getfield 79, 3) := by decide +kernel
theorem dX12_does_148 : decode cX12_does 148 = .ok (.iload_n 1, 1) := by decide +kernel
theorem dX12_does_149 : decode cX12_does 149 = .ok (.iaload, 1) := by decide +kernel
theorem dX12_does_150 : decode cX12_does 150 = .ok (.invokevirtual 371, 3) := by decide +kernel
theorem dX12_does_153 : decode cX12_does 153 = .ok (.ifCond .lt 7, 3) := by decide +kernel
theorem dX12_does_156 : decode cX12_does 156 = .ok (.iconst 1, 1) := by decide +kernel
theorem dX12_does_157 : decode cX12_does 157 = .ok (.goto 4, 3) := by decide +kernel
theorem dX12_does_160 : decode cX12_does 160 = .ok (.iconst 0, 1) := by decide +kernel
theorem dX12_does_161 : decode cX12_does 161 = .ok (.ireturn, 1) := by decide +kernel
theorem dX12_hour_0 : decode cX12_hour 0 = .ok (.aload_n 0, 1) := by decide +kernel
theorem dX12_hour_1 : decode cX12_hour 1 = .ok (.iconst 0, 1) := by decide +kernel
theorem dX12_hour_2 : decode cX12_hour 2 = .ok (.putfield 112, 3) := by decide +kernel
theorem dX12_hour_5 : decode cX12_hour 5 = .ok (.aload_n 0, 1) := by decide +kernel
theorem dX12_hour_6 : decode cX12_hour 6 = .ok (.bipush 60, 2) := by decide +kernel
theorem dX12_hour_8 : decode cX12_hour 8 = .ok (.invokevirtual 176, 3) := by decide +kernel
theorem dX12_hour_11 : decode cX12_hour 11 = .ok (.istore_n 1, 1) := by decide +kernel
theorem dX12_hour_12 : decode cX12_hour 12 = .ok (.aload_n 0, 1) := by decide +kernel
theorem dX12_hour_13 : decode cX12_hour 13 = .ok (.iconst 0, 1) := by decide +kernel
theorem dX12_hour_14 : decode cX12_hour 14 = .ok (.putfield 374, 3) := by decide +kernel
theorem dX12_hour_17 : decode cX12_hour 17 = .ok (.iconst 1, 1) := by decide +kernel
theorem dX12_hour_18 : decode cX12_hour 18 = .ok (.istore_n 2, 1) := by decide +kernel
theorem dX12_hour_19 : decode cX12_hour 19 = .ok (.iload_n 2, 1) := by decide +kernel
theorem dX12_hour_20 : decode cX12_hour 20 = .ok (.ifCond .eq 22, 3) := by decide +kernel
theorem dX12_hour_23 : decode cX12_hour 23 = .ok (.aload_n 0, 1) := by decide +kernel
theorem dX12_hour_24 : decode cX12_hour 24 = .ok (.getfield 139, 3) := by decide +kernel
theorem dX12_hour_27 : decode cX12_hour 27 = .ok (.aload_n 0, 1) := by decide +kernel
theorem dX12_hour_28 : decode cX12_hour 28 = .ok (.getfield 151, 3) := by decide +kernel
theorem dX12_hour_31 : decode cX12_hour 31 = .ok (.if_icmp .ge 11, 3) := by decide +kernel
theorem dX12_hour_34 : decode cX12_hour 34 = .ok (.aload_n 0, 1) := by decide +kernel
theorem dX12_hour_35 : decode cX12_hour 35 = .ok (.invokevirtual 382, 3) := by decide +kernel
theorem dX12_hour_38 : decode cX12_hour 38 = .ok (.istore_n 2, 1) := by decide +kernel
theorem dX12_hour_39 : decode cX12_hour 39 = .ok (.goto (-20), 3) := by decide +kernel
theorem dX12_hour_42 : decode cX12_hour 42 = .ok (.aload_n 0, 1) := by decide +kernel
theorem dX12_hour_43 : decode cX12_hour 43 = .ok (.iload_n 1, 1) := by decide +kernel
theorem dX12_hour_44 : decode cX12_hour 44 = .ok (.bipush 60, 2) := by decide +kernel
theorem dX12_hour_46 : decode cX12_hour 46 = .ok (.iload_n 2, 1) := by decide +kernel
theorem dX12_hour_47 : decode cX12_hour 47 = .ok (.invokevirtual 221, 3) := by decide +kernel
theorem dX12_hour_50 : decode cX12_hour 50 = .ok (.istore_n 3, 1) := by decide +kernel
theorem dX12_hour_51 : decode cX12_hour 51 = .ok (.iload_n 3, 1) := by decide +kernel
theorem dX12_hour_52 : decode cX12_hour 52 = .ok (.ifCond .ge 5, 3) := by decide +kernel
theorem dX12_hour_55 : decode cX12_hour 55 = .ok (.iload_n 3, 1) := by decide +kernel
theorem dX12_hour_56 : decode cX12_hour 56 = .ok (.ireturn, 1) := by decide +kernel
theorem dX12_hour_57 : decode cX12_hour 57 = .ok (.aload_n 0, 1) := by decide +kernel
theorem dX12_hour_58 : decode cX12_hour 58 = .ok (.invokevirtual 352, 3) := by decide +kernel
theorem dX12_hour_61 : decode cX12_hour 61 = .ok (.iconst 0, 1) := by decide +kernel
theorem dX12_hour_62 : decode cX12_hour 62 = .ok (.istore 4, 2) := by decide +kernel
theorem dX12_hour_64 : decode cX12_hour 64 = .ok (.iload 4, 2) := by decide +kernel
theorem dX12_hour_66 : decode cX12_hour 66 = .ok (.aload_n 0, 1) := by decide +kernel
theorem dX12_hour_67 : decode cX12_hour 67 = .ok (.getfield 374, 3) := by decide +kernel
theorem dX12_hour_70 : decode cX12_hour 70 = .ok (.if_icmp .ge 18, 3) := by decide +kernel
theorem dX12_hour_73 : decode cX12_hour 73 = .ok (.aload_n 0, 1) := by decide +kernel
theorem dX12_hour_74 : decode cX12_hour 74 = .ok (.iload 4, 2) := by decide +kernel
theorem dX12_hour_76 : decode cX12_hour 76 = .ok (.invokevirtual 385, 3) := by decide +kernel
theorem dX12_hour_79 : decode cX12_hour 79 = .ok (.ifCond .eq 9, 3) := by decide +kernel
theorem dX12_hour_82 : decode cX12_hour 82 = .ok (.iinc 4 1, 3) := by decide +kernel
theorem dX12_hour_85 : decode cX12_hour 85 = .ok (.goto (-21), 3) := by decide +kernel
theorem dX12_hour_88 : decode cX12_hour 88 = .ok (.aload_n 0, 1) := by decide +kernel
theorem dX12_hour_89 : decode cX12_hour 89 = .ok (.iconst 0, 1) := by decide +kernel
theorem dX12_hour_90 : decode cX12_hour 90 = .ok (.putfield 119, 3) := by decide +kernel
theorem dX12_hour_93 : decode cX12_hour 93 = .ok (.aload_n 0, 1) := by decide +kernel
theorem dX12_hour_94 : decode cX12_hour 94 = .ok (.iload 4, 2) := by decide +kernel
theorem dX12_hour_96 : decode cX12_hour 96 = .ok (.aload_n 0, 1) := by decide +kernel
theorem dX12_hour_97 : decode cX12_hour 97 = .ok (.getfield 374, 3) := by decide +kernel
theorem dX12_hour_100 : decode cX12_hour 100 = .ok (.if_icmp .ge 7, 3) := by decide +kernel
theorem dX12_hour_103 : decode cX12_hour 103 = .ok (.iconst 1, 1) := by decide +kernel
theorem dX12_hour_104 : decode cX12_hour 104 = .ok (.goto 4, 3) := by decide +kernel
theorem dX12_hour_107 : decode cX12_hour 107 = .ok (.iconst 0, 1) := by decide +kernel
theorem dX12_hour_108 : decode cX12_hour 108 = .ok (.invokestatic 154, 3) := by decide +kernel
theorem dX12_hour_111 : decode cX12_hour 111 = .ok (.i2l, 1) := by decide +kernel
theorem dX12_hour_112 : decode cX12_hour 112 = .ok (.invokevirtual 358, 3) := by decide +kernel
theorem dX12_hour_115 : decode cX12_hour 115 = .ok (.aload_n 0, 1) := by decide +kernel
theorem dX12_hour_116 : decode cX12_hour 116 = .ok (.aload_n 0, 1) := by decide +kernel
theorem dX12_hour_117 : decode cX12_hour 117 = .ok (.getfield 31, 3) := by decide +kernel
theorem dX12_hour_120 : decode cX12_hour 120 = .ok (.bipush 37, 2) := by decide +kernel
theorem dX12_hour_122 : decode cX12_hour 122 = .ok (.iaload, 1) := by decide +kernel
theorem dX12_hour_123 : decode cX12_hour 123 = .ok (.i2l, 1) := by decide +kernel
theorem dX12_hour_124 : decode cX12_hour 124 = .ok (.invokevirtual 358, 3) := by decide +kernel
theorem dX12_hour_127 : decode cX12_hour 127 = .ok (.iload 4, 2) := by decide +kernel
theorem dX12_hour_129 : decode cX12_hour 129 = .ok (.ifCond .le 12, 3) := by decide +kernel
theorem dX12_hour_132 : decode cX12_hour 132 = .ok (.aload_n 0, 1) := by decide +kernel
theorem dX12_hour_133 : decode cX12_hour 133 = .ok (.iload 4, 2) := by decide +kernel
theorem dX12_hour_135 : decode cX12_hour 135 = .ok (.invokevirtual 318, 3) := by decide +kernel
theorem dX12_hour_138 : decode cX12_hour 138 = .ok (.goto 4, 3) := by decide +kernel
theorem dX12_hour_141 : decode cX12_hour 141 = .ok (.iconst 0, 1) := by decide +kernel
theorem dX12_hour_142 : decode cX12_hour 142 = .ok (.ireturn, 1) := by decide +kernel
theorem dX12_copies_0 : decode cX12_copies 0 = .ok (.iconst 0, 1) := by decide +kernel
theorem dX12_copies_1 : decode cX12_copies 1 = .ok (.istore_n 1, 1) := by decide +kernel
theorem dX12_copies_2 : decode cX12_copies 2 = .ok (.iload_n 1, 1) := by decide +kernel
theorem dX12_copies_3 : decode cX12_copies 3 = .ok (.bipush 38, 2) := by decide +kernel
theorem dX12_copies_5 : decode cX12_copies 5 = .ok (.if_icmp .ge 21, 3) := by decide +kernel
theorem dX12_copies_8 : decode cX12_copies 8 = .ok (.aload_n 0, 1) := by decide +kernel
theorem dX12_copies_9 : decode cX12_copies 9 = .ok (.getfield 34, 3) := by decide +kernel
theorem dX12_copies_12 : decode cX12_copies 12 = .ok (.iload_n 1, 1) := by decide +kernel
theorem dX12_copies_13 : decode cX12_copies 13 = .ok (.aload_n 0, 1) := by decide +kernel
theorem dX12_copies_14 : decode cX12_copies 14 = .ok (.getfield 31, 3) := by decide +kernel
theorem dX12_copies_17 : decode cX12_copies 17 = .ok (.iload_n 1, 1) := by decide +kernel
theorem dX12_copies_18 : decode cX12_copies 18 = .ok (.iaload, 1) := by decide +kernel
theorem dX12_copies_19 : decode cX12_copies 19 = .ok (.iastore, 1) := by decide +kernel
theorem dX12_copies_20 : decode cX12_copies 20 = .ok (.iinc 1 1, 3) := by decide +kernel
theorem dX12_copies_23 : decode cX12_copies 23 = .ok (.goto (-21), 3) := by decide +kernel
theorem dX12_copies_26 : decode cX12_copies 26 = .ok (.return_, 1) := by decide +kernel
theorem dX12_line_0 : decode cX12_line 0 = .ok (.aload_n 0, 1) := by decide +kernel
theorem dX12_line_1 : decode cX12_line 1 = .ok (.iconst 0, 1) := by decide +kernel
theorem dX12_line_2 : decode cX12_line 2 = .ok (.putfield 112, 3) := by decide +kernel
theorem dX12_line_5 : decode cX12_line 5 = .ok (.aload_n 0, 1) := by decide +kernel
theorem dX12_line_6 : decode cX12_line 6 = .ok (.aload_n 0, 1) := by decide +kernel
theorem dX12_line_7 : decode cX12_line 7 = .ok (.getfield 31, 3) := by decide +kernel
theorem dX12_line_10 : decode cX12_line 10 = .ok (.invokevirtual 333, 3) := by decide +kernel
theorem dX12_line_13 : decode cX12_line 13 = .ok (.aload_n 0, 1) := by decide +kernel
theorem dX12_line_14 : decode cX12_line 14 = .ok (.iconst 0, 1) := by decide +kernel
theorem dX12_line_15 : decode cX12_line 15 = .ok (.putfield 119, 3) := by decide +kernel
theorem dX12_line_18 : decode cX12_line 18 = .ok (.iconst 0, 1) := by decide +kernel
theorem dX12_line_19 : decode cX12_line 19 = .ok (.istore_n 1, 1) := by decide +kernel
theorem dX12_line_20 : decode cX12_line 20 = .ok (.iload_n 1, 1) := by decide +kernel
theorem dX12_line_21 : decode cX12_line 21 = .ok (.aload_n 0, 1) := by decide +kernel
theorem dX12_line_22 : decode cX12_line 22 = .ok (.getfield 321, 3) := by decide +kernel
theorem dX12_line_25 : decode cX12_line 25 = .ok (.if_icmp .ge 20, 3) := by decide +kernel
theorem dX12_line_28 : decode cX12_line 28 = .ok (.aload_n 0, 1) := by decide +kernel
theorem dX12_line_29 : decode cX12_line 29 = .ok (.aload_n 0, 1) := by decide +kernel
theorem dX12_line_30 : decode cX12_line 30 = .ok (.getfield 70, 3) := by decide +kernel
theorem dX12_line_33 : decode cX12_line 33 = .ok (.iload_n 1, 1) := by decide +kernel
theorem dX12_line_34 : decode cX12_line 34 = .ok (.iaload, 1) := by decide +kernel
theorem dX12_line_35 : decode cX12_line 35 = .ok (.i2l, 1) := by decide +kernel
theorem dX12_line_36 : decode cX12_line 36 = .ok (.invokevirtual 358, 3) := by decide +kernel
theorem dX12_line_39 : decode cX12_line 39 = .ok (.iinc 1 1, 3) := by decide +kernel
theorem dX12_line_42 : decode cX12_line 42 = .ok (.goto (-22), 3) := by decide +kernel
theorem dX12_line_45 : decode cX12_line 45 = .ok (.aload_n 0, 1) := by decide +kernel
theorem dX12_line_46 : decode cX12_line 46 = .ok (.getfield 321, 3) := by decide +kernel
theorem dX12_line_49 : decode cX12_line 49 = .ok (.ireturn, 1) := by decide +kernel
theorem dX12_ahead_0 : decode cX12_ahead 0 = .ok (.aload_n 0, 1) := by decide +kernel
theorem dX12_ahead_1 : decode cX12_ahead 1 = .ok (.iconst 0, 1) := by decide +kernel
theorem dX12_ahead_2 : decode cX12_ahead 2 = .ok (.putfield 112, 3) := by decide +kernel
theorem dX12_ahead_5 : decode cX12_ahead 5 = .ok (.iload_n 1, 1) := by decide +kernel
theorem dX12_ahead_6 : decode cX12_ahead 6 = .ok (.i2l, 1) := by decide +kernel
theorem dX12_ahead_7 : decode cX12_ahead 7 = .ok (.lconst 0, 1) := by decide +kernel
theorem dX12_ahead_8 : decode cX12_ahead 8 = .ok (.ldc2_w 388, 3) := by decide +kernel
theorem dX12_ahead_11 : decode cX12_ahead 11 = .ok (.invokestatic 125, 3) := by decide +kernel
theorem dX12_ahead_14 : decode cX12_ahead 14 = .ok (.ifCond .ne 5, 3) := by decide +kernel
theorem dX12_ahead_17 : decode cX12_ahead 17 = .ok (.iconst (-1), 1) := by decide +kernel
theorem dX12_ahead_18 : decode cX12_ahead 18 = .ok (.ireturn, 1) := by decide +kernel
theorem dX12_ahead_19 : decode cX12_ahead 19 = .ok (.aload_n 0, 1) := by decide +kernel
theorem dX12_ahead_20 : decode cX12_ahead 20 = .ok (.invokevirtual 390, 3) := by decide +kernel
theorem dX12_ahead_23 : decode cX12_ahead 23 = .ok (.aload_n 0, 1) := by decide +kernel
theorem dX12_ahead_24 : decode cX12_ahead 24 = .ok (.aload_n 0, 1) := by decide +kernel
theorem dX12_ahead_25 : decode cX12_ahead 25 = .ok (.getfield 34, 3) := by decide +kernel
theorem dX12_ahead_28 : decode cX12_ahead 28 = .ok (.iload_n 1, 1) := by decide +kernel
theorem dX12_ahead_29 : decode cX12_ahead 29 = .ok (.invokevirtual 355, 3) := by decide +kernel
theorem dX12_ahead_32 : decode cX12_ahead 32 = .ok (.aload_n 0, 1) := by decide +kernel
theorem dX12_ahead_33 : decode cX12_ahead 33 = .ok (.iconst 0, 1) := by decide +kernel
theorem dX12_ahead_34 : decode cX12_ahead 34 = .ok (.putfield 119, 3) := by decide +kernel
theorem dX12_ahead_37 : decode cX12_ahead 37 = .ok (.iconst 0, 1) := by decide +kernel
theorem dX12_ahead_38 : decode cX12_ahead 38 = .ok (.istore_n 2, 1) := by decide +kernel
theorem dX12_ahead_39 : decode cX12_ahead 39 = .ok (.iload_n 2, 1) := by decide +kernel
theorem dX12_ahead_40 : decode cX12_ahead 40 = .ok (.aload_n 0, 1) := by decide +kernel
theorem dX12_ahead_41 : decode cX12_ahead 41 = .ok (.getfield 122, 3) := by decide +kernel
theorem dX12_ahead_44 : decode cX12_ahead 44 = .ok (.if_icmp .ge 20, 3) := by decide +kernel
theorem dX12_ahead_47 : decode cX12_ahead 47 = .ok (.aload_n 0, 1) := by decide +kernel
theorem dX12_ahead_48 : decode cX12_ahead 48 = .ok (.aload_n 0, 1) := by decide +kernel
theorem dX12_ahead_49 : decode cX12_ahead 49 = .ok (.getfield 34, 3) := by decide +kernel
theorem dX12_ahead_52 : decode cX12_ahead 52 = .ok (.iload_n 2, 1) := by decide +kernel
theorem dX12_ahead_53 : decode cX12_ahead 53 = .ok (.iaload, 1) := by decide +kernel
theorem dX12_ahead_54 : decode cX12_ahead 54 = .ok (.i2l, 1) := by decide +kernel
theorem dX12_ahead_55 : decode cX12_ahead 55 = .ok (.invokevirtual 358, 3) := by decide +kernel
theorem dX12_ahead_58 : decode cX12_ahead 58 = .ok (.iinc 2 1, 3) := by decide +kernel
theorem dX12_ahead_61 : decode cX12_ahead 61 = .ok (.goto (-22), 3) := by decide +kernel
theorem dX12_ahead_64 : decode cX12_ahead 64 = .ok (.aload_n 0, 1) := by decide +kernel
theorem dX12_ahead_65 : decode cX12_ahead 65 = .ok (.getfield 34, 3) := by decide +kernel
theorem dX12_ahead_68 : decode cX12_ahead 68 = .ok (.bipush 12, 2) := by decide +kernel
theorem dX12_ahead_70 : decode cX12_ahead 70 = .ok (.iaload, 1) := by decide +kernel
theorem dX12_ahead_71 : decode cX12_ahead 71 = .ok (.ireturn, 1) := by decide +kernel
theorem dX12_arrives_0 : decode cX12_arrives 0 = .ok (.aload_n 0, 1) := by decide +kernel
theorem dX12_arrives_1 : decode cX12_arrives 1 = .ok (.iconst 0, 1) := by decide +kernel
theorem dX12_arrives_2 : decode cX12_arrives 2 = .ok (.putfield 112, 3) := by decide +kernel
theorem dX12_arrives_5 : decode cX12_arrives 5 = .ok (.aload_n 0, 1) := by decide +kernel
theorem dX12_arrives_6 : decode cX12_arrives 6 = .ok (.iload_n 1, 1) := by decide +kernel
theorem dX12_arrives_7 : decode cX12_arrives 7 = .ok (.invokevirtual 294, 3) := by decide +kernel
theorem dX12_arrives_10 : decode cX12_arrives 10 = .ok (.ifCond .ne 5, 3) := by decide +kernel
theorem dX12_arrives_13 : decode cX12_arrives 13 = .ok (.iconst (-1), 1) := by decide +kernel
theorem dX12_arrives_14 : decode cX12_arrives 14 = .ok (.ireturn, 1) := by decide +kernel
theorem dX12_arrives_15 : decode cX12_arrives 15 = .ok (.aload_n 0, 1) := by decide +kernel
theorem dX12_arrives_16 : decode cX12_arrives 16 = .ok (.invokevirtual 390, 3) := by decide +kernel
theorem dX12_arrives_19 : decode cX12_arrives 19 = .ok (.iconst 0, 1) := by decide +kernel
theorem dX12_arrives_20 : decode cX12_arrives 20 = .ok (.istore_n 2, 1) := by decide +kernel
theorem dX12_arrives_21 : decode cX12_arrives 21 = .ok (.iload_n 2, 1) := by decide +kernel
theorem dX12_arrives_22 : decode cX12_arrives 22 = .ok (.sipush 200, 3) := by decide +kernel
theorem dX12_arrives_25 : decode cX12_arrives 25 = .ok (.if_icmp .gt 49, 3) := by decide +kernel
theorem dX12_arrives_28 : decode cX12_arrives 28 = .ok (.aload_n 0, 1) := by decide +kernel
theorem dX12_arrives_29 : decode cX12_arrives 29 = .ok (.getfield 34, 3) := by decide +kernel
theorem dX12_arrives_32 : decode cX12_arrives 32 = .ok (.iload_n 1, 1) := by decide +kernel
theorem dX12_arrives_33 : decode cX12_arrives 33 = .ok (.invokestatic 266, 3) := by decide +kernel
theorem dX12_arrives_36 : decode cX12_arrives 36 = .ok (.ifCond .ne 24, 3) := by decide +kernel
theorem dX12_arrives_39 : decode cX12_arrives 39 = .ok (.aload_n 0, 1) := by decide +kernel
theorem dX12_arrives_40 : decode cX12_arrives 40 = .ok (.iconst 0, 1) := by decide +kernel
theorem dX12_arrives_41 : decode cX12_arrives 41 = .ok (.putfield 119, 3) := by decide +kernel
theorem dX12_arrives_44 : decode cX12_arrives 44 = .ok (.aload_n 0, 1) := by decide +kernel
theorem dX12_arrives_45 : decode cX12_arrives 45 = .ok (.aload_n 0, 1) := by decide +kernel
theorem dX12_arrives_46 : decode cX12_arrives 46 = .ok (.getfield 34, 3) := by decide +kernel
theorem dX12_arrives_49 : decode cX12_arrives 49 = .ok (.bipush 6, 2) := by decide +kernel
theorem dX12_arrives_51 : decode cX12_arrives 51 = .ok (.iload_n 1, 1) := by decide +kernel
theorem dX12_arrives_52 : decode cX12_arrives 52 = .ok (.iadd, 1) := by decide +kernel
theorem dX12_arrives_53 : decode cX12_arrives 53 = .ok (.iaload, 1) := by decide +kernel
theorem dX12_arrives_54 : decode cX12_arrives 54 = .ok (.i2l, 1) := by decide +kernel
theorem dX12_arrives_55 : decode cX12_arrives 55 = .ok (.invokevirtual 358, 3) := by decide +kernel
theorem dX12_arrives_58 : decode cX12_arrives 58 = .ok (.iload_n 2, 1) := by decide +kernel
theorem dX12_arrives_59 : decode cX12_arrives 59 = .ok (.ireturn, 1) := by decide +kernel
theorem dX12_arrives_60 : decode cX12_arrives 60 = .ok (.aload_n 0, 1) := by decide +kernel
theorem dX12_arrives_61 : decode cX12_arrives 61 = .ok (.aload_n 0, 1) := by decide +kernel
theorem dX12_arrives_62 : decode cX12_arrives 62 = .ok (.getfield 34, 3) := by decide +kernel
theorem dX12_arrives_65 : decode cX12_arrives 65 = .ok (.invokevirtual 343, 3) := by decide +kernel
theorem dX12_arrives_68 : decode cX12_arrives 68 = .ok (.iinc 2 1, 3) := by decide +kernel
theorem dX12_arrives_71 : decode cX12_arrives 71 = .ok (.goto (-50), 3) := by decide +kernel
theorem dX12_arrives_74 : decode cX12_arrives 74 = .ok (.bipush (-2), 2) := by decide +kernel
theorem dX12_arrives_76 : decode cX12_arrives 76 = .ok (.ireturn, 1) := by decide +kernel
theorem dX12_jam_0 : decode cX12_jam 0 = .ok (.aload_n 0, 1) := by decide +kernel
theorem dX12_jam_1 : decode cX12_jam 1 = .ok (.iconst 0, 1) := by decide +kernel
theorem dX12_jam_2 : decode cX12_jam 2 = .ok (.putfield 112, 3) := by decide +kernel
theorem dX12_jam_5 : decode cX12_jam 5 = .ok (.iload_n 1, 1) := by decide +kernel
theorem dX12_jam_6 : decode cX12_jam 6 = .ok (.i2l, 1) := by decide +kernel
theorem dX12_jam_7 : decode cX12_jam 7 = .ok (.lconst 1, 1) := by decide +kernel
theorem dX12_jam_8 : decode cX12_jam 8 = .ok (.ldc2_w 350, 3) := by decide +kernel
theorem dX12_jam_11 : decode cX12_jam 11 = .ok (.invokestatic 125, 3) := by decide +kernel
theorem dX12_jam_14 : decode cX12_jam 14 = .ok (.ifCond .ne 5, 3) := by decide +kernel
theorem dX12_jam_17 : decode cX12_jam 17 = .ok (.iconst (-1), 1) := by decide +kernel
theorem dX12_jam_18 : decode cX12_jam 18 = .ok (.ireturn, 1) := by decide +kernel
theorem dX12_jam_19 : decode cX12_jam 19 = .ok (.aload_n 0, 1) := by decide +kernel
theorem dX12_jam_20 : decode cX12_jam 20 = .ok (.invokevirtual 390, 3) := by decide +kernel
theorem dX12_jam_23 : decode cX12_jam 23 = .ok (.aload_n 0, 1) := by decide +kernel
theorem dX12_jam_24 : decode cX12_jam 24 = .ok (.aload_n 0, 1) := by decide +kernel
theorem dX12_jam_25 : decode cX12_jam 25 = .ok (.getfield 34, 3) := by decide +kernel
theorem dX12_jam_28 : decode cX12_jam 28 = .ok (.iload_n 1, 1) := by decide +kernel
theorem dX12_jam_29 : decode cX12_jam 29 = .ok (.invokevirtual 355, 3) := by decide +kernel
theorem dX12_jam_32 : decode cX12_jam 32 = .ok (.iconst 0, 1) := by decide +kernel
theorem dX12_jam_33 : decode cX12_jam 33 = .ok (.istore_n 2, 1) := by decide +kernel
theorem dX12_jam_34 : decode cX12_jam 34 = .ok (.iconst 0, 1) := by decide +kernel
theorem dX12_jam_35 : decode cX12_jam 35 = .ok (.istore_n 3, 1) := by decide +kernel
theorem dX12_jam_36 : decode cX12_jam 36 = .ok (.iload_n 3, 1) := by decide +kernel
theorem dX12_jam_37 : decode cX12_jam 37 = .ok (.aload_n 0, 1) := by decide +kernel
theorem dX12_jam_38 : decode cX12_jam 38 = .ok (.getfield 13, 3) := by decide +kernel
theorem dX12_jam_41 : decode cX12_jam 41 = .ok (.if_icmp .ge 30, 3) := by decide +kernel
theorem dX12_jam_44 : decode cX12_jam 44 = .ok (.aload_n 0, 1) := by decide +kernel
theorem dX12_jam_45 : decode cX12_jam 45 = .ok (.getfield 64, 3) := by decide +kernel
theorem dX12_jam_48 : decode cX12_jam 48 = .ok (.iload_n 3, 1) := by decide +kernel
theorem dX12_jam_49 : decode cX12_jam 49 = .ok (.iaload, 1) := by decide +kernel
theorem dX12_jam_50 : decode cX12_jam 50 = .ok (.aload_n 0, 1) := by decide +kernel
theorem dX12_jam_51 : decode cX12_jam 51 = .ok (.getfield 64, 3) := by decide +kernel
theorem dX12_jam_54 : decode cX12_jam 54 = .ok (.iload_n 2, 1) := by decide +kernel
theorem dX12_jam_55 : decode cX12_jam 55 = .ok (.iaload, 1) := by decide +kernel
theorem dX12_jam_56 : decode cX12_jam 56 = .ok (.if_icmp .le 7, 3) := by decide +kernel
theorem dX12_jam_59 : decode cX12_jam 59 = .ok (.iload_n 3, 1) := by decide +kernel
theorem dX12_jam_60 : decode cX12_jam 60 = .ok (.goto 4, 3) := by decide +kernel
theorem dX12_jam_63 : decode cX12_jam 63 = .ok (.iload_n 2, 1) := by decide +kernel
theorem dX12_jam_64 : decode cX12_jam 64 = .ok (.istore_n 2, 1) := by decide +kernel
theorem dX12_jam_65 : decode cX12_jam 65 = .ok (.iinc 3 1, 3) := by decide +kernel
theorem dX12_jam_68 : decode cX12_jam 68 = .ok (.goto (-32), 3) := by decide +kernel
theorem dX12_jam_71 : decode cX12_jam 71 = .ok (.aload_n 0, 1) := by decide +kernel
theorem dX12_jam_72 : decode cX12_jam 72 = .ok (.iconst 0, 1) := by decide +kernel
theorem dX12_jam_73 : decode cX12_jam 73 = .ok (.putfield 119, 3) := by decide +kernel
theorem dX12_jam_76 : decode cX12_jam 76 = .ok (.aload_n 0, 1) := by decide +kernel
theorem dX12_jam_77 : decode cX12_jam 77 = .ok (.aload_n 0, 1) := by decide +kernel
theorem dX12_jam_78 : decode cX12_jam 78 = .ok (.getfield 64, 3) := by decide +kernel
theorem dX12_jam_81 : decode cX12_jam 81 = .ok (.iload_n 2, 1) := by decide +kernel
theorem dX12_jam_82 : decode cX12_jam 82 = .ok (.iaload, 1) := by decide +kernel
theorem dX12_jam_83 : decode cX12_jam 83 = .ok (.i2l, 1) := by decide +kernel
theorem dX12_jam_84 : decode cX12_jam 84 = .ok (.invokevirtual 358, 3) := by decide +kernel
theorem dX12_jam_87 : decode cX12_jam 87 = .ok (.aload_n 0, 1) := by decide +kernel
theorem dX12_jam_88 : decode cX12_jam 88 = .ok (.aload_n 0, 1) := by decide +kernel
theorem dX12_jam_89 : decode cX12_jam 89 = .ok (.getfield 327, 3) := by decide +kernel
theorem dX12_jam_92 : decode cX12_jam 92 = .ok (.i2l, 1) := by decide +kernel
theorem dX12_jam_93 : decode cX12_jam 93 = .ok (.invokevirtual 358, 3) := by decide +kernel
theorem dX12_jam_96 : decode cX12_jam 96 = .ok (.iload_n 2, 1) := by decide +kernel
theorem dX12_jam_97 : decode cX12_jam 97 = .ok (.ireturn, 1) := by decide +kernel
theorem dX12_isAhead_0 : decode cX12_isAhead 0 = .ok (.aload_n 0, 1) := by decide +kernel
theorem dX12_isAhead_1 : decode cX12_isAhead 1 = .ok (.iload_n 1, 1) := by decide +kernel
theorem dX12_isAhead_2 : decode cX12_isAhead 2 = .ok (.invokestatic 266, 3) := by decide +kernel
theorem dX12_isAhead_5 : decode cX12_isAhead 5 = .ok (.ifCond .eq 26, 3) := by decide +kernel
theorem dX12_isAhead_8 : decode cX12_isAhead 8 = .ok (.aload_n 0, 1) := by decide +kernel
theorem dX12_isAhead_9 : decode cX12_isAhead 9 = .ok (.iload_n 2, 1) := by decide +kernel
theorem dX12_isAhead_10 : decode cX12_isAhead 10 = .ok (.invokestatic 266, 3) := by decide +kernel
theorem dX12_isAhead_13 : decode cX12_isAhead 13 = .ok (.ifCond .eq 16, 3) := by decide +kernel
theorem dX12_isAhead_16 : decode cX12_isAhead 16 = .ok (.aload_n 0, 1) := by decide +kernel
theorem dX12_isAhead_17 : decode cX12_isAhead 17 = .ok (.iload_n 1, 1) := by decide +kernel
theorem dX12_isAhead_18 : decode cX12_isAhead 18 = .ok (.iaload, 1) := by decide +kernel
theorem dX12_isAhead_19 : decode cX12_isAhead 19 = .ok (.aload_n 0, 1) := by decide +kernel
theorem dX12_isAhead_20 : decode cX12_isAhead 20 = .ok (.iload_n 2, 1) := by decide +kernel
theorem dX12_isAhead_21 : decode cX12_isAhead 21 = .ok (.iaload, 1) := by decide +kernel
theorem dX12_isAhead_22 : decode cX12_isAhead 22 = .ok (.if_icmp .le 7, 3) := by decide +kernel
theorem dX12_isAhead_25 : decode cX12_isAhead 25 = .ok (.iconst 1, 1) := by decide +kernel
theorem dX12_isAhead_26 : decode cX12_isAhead 26 = .ok (.goto 4, 3) := by decide +kernel
theorem dX12_isAhead_29 : decode cX12_isAhead 29 = .ok (.iconst 0, 1) := by decide +kernel
theorem dX12_isAhead_30 : decode cX12_isAhead 30 = .ok (.ireturn, 1) := by decide +kernel
theorem dX12_isAhead_31 : decode cX12_isAhead 31 = .ok (.aload_n 0, 1) := by decide +kernel
theorem dX12_isAhead_32 : decode cX12_isAhead 32 = .ok (.iload_n 2, 1) := by decide +kernel
theorem dX12_isAhead_33 : decode cX12_isAhead 33 = .ok (.invokestatic 266, 3) := by decide +kernel
theorem dX12_isAhead_36 : decode cX12_isAhead 36 = .ok (.ifCond .ne 18, 3) := by decide +kernel
theorem dX12_isAhead_39 : decode cX12_isAhead 39 = .ok (.aload_n 0, 1) := by decide +kernel
theorem dX12_isAhead_40 : decode cX12_isAhead 40 = .ok (.bipush 6, 2) := by decide +kernel
theorem dX12_isAhead_42 : decode cX12_isAhead 42 = .ok (.iload_n 1, 1) := by decide +kernel
theorem dX12_isAhead_43 : decode cX12_isAhead 43 = .ok (.iadd, 1) := by decide +kernel
theorem dX12_isAhead_44 : decode cX12_isAhead 44 = .ok (.iaload, 1) := by decide +kernel
theorem dX12_isAhead_45 : decode cX12_isAhead 45 = .ok (.aload_n 0, 1) := by decide +kernel
theorem dX12_isAhead_46 : decode cX12_isAhead 46 = .ok (.bipush 6, 2) := by decide +kernel
theorem dX12_isAhead_48 : decode cX12_isAhead 48 = .ok (.iload_n 2, 1) := by decide +kernel
theorem dX12_isAhead_49 : decode cX12_isAhead 49 = .ok (.iadd, 1) := by decide +kernel
theorem dX12_isAhead_50 : decode cX12_isAhead 50 = .ok (.iaload, 1) := by decide +kernel
theorem dX12_isAhead_51 : decode cX12_isAhead 51 = .ok (.if_icmp .ge 7, 3) := by decide +kernel
theorem dX12_isAhead_54 : decode cX12_isAhead 54 = .ok (.iconst 1, 1) := by decide +kernel
theorem dX12_isAhead_55 : decode cX12_isAhead 55 = .ok (.goto 4, 3) := by decide +kernel
theorem dX12_isAhead_58 : decode cX12_isAhead 58 = .ok (.iconst 0, 1) := by decide +kernel
theorem dX12_isAhead_59 : decode cX12_isAhead 59 = .ok (.ireturn, 1) := by decide +kernel
theorem dX12_passes_0 : decode cX12_passes 0 = .ok (.aload_n 0, 1) := by decide +kernel
theorem dX12_passes_1 : decode cX12_passes 1 = .ok (.iconst 0, 1) := by decide +kernel
theorem dX12_passes_2 : decode cX12_passes 2 = .ok (.putfield 112, 3) := by decide +kernel
theorem dX12_passes_5 : decode cX12_passes 5 = .ok (.aload_n 0, 1) := by decide +kernel
theorem dX12_passes_6 : decode cX12_passes 6 = .ok (.iload_n 1, 1) := by decide +kernel
theorem dX12_passes_7 : decode cX12_passes 7 = .ok (.invokevirtual 294, 3) := by decide +kernel
theorem dX12_passes_10 : decode cX12_passes 10 = .ok (.ifCond .eq 16, 3) := by decide +kernel
theorem dX12_passes_13 : decode cX12_passes 13 = .ok (.aload_n 0, 1) := by decide +kernel
theorem dX12_passes_14 : decode cX12_passes 14 = .ok (.iload_n 2, 1) := by decide +kernel
theorem dX12_passes_15 : decode cX12_passes 15 = .ok (.invokevirtual 294, 3) := by decide +kernel
theorem dX12_passes_18 : decode cX12_passes 18 = .ok (.ifCond .eq 8, 3) := by decide +kernel
theorem dX12_passes_21 : decode cX12_passes 21 = .ok (.iload_n 1, 1) := by decide +kernel
theorem dX12_passes_22 : decode cX12_passes 22 = .ok (.iload_n 2, 1) := by decide +kernel
theorem dX12_passes_23 : decode cX12_passes 23 = .ok (.if_icmp .ne 5, 3) := by decide +kernel
theorem dX12_passes_26 : decode cX12_passes 26 = .ok (.iconst (-1), 1) := by decide +kernel
theorem dX12_passes_27 : decode cX12_passes 27 = .ok (.ireturn, 1) := by decide +kernel
theorem dX12_passes_28 : decode cX12_passes 28 = .ok (.aload_n 0, 1) := by decide +kernel
theorem dX12_passes_29 : decode cX12_passes 29 = .ok (.getfield 31, 3) := by decide +kernel
theorem dX12_passes_32 : decode cX12_passes 32 = .ok (.iload_n 1, 1) := by decide +kernel
theorem dX12_passes_33 : decode cX12_passes 33 = .ok (.invokestatic 266, 3) := by decide +kernel
theorem dX12_passes_36 : decode cX12_passes 36 = .ok (.ifCond .eq 26, 3) := by decide +kernel
theorem dX12_passes_39 : decode cX12_passes 39 = .ok (.aload_n 0, 1) := by decide +kernel
theorem dX12_passes_40 : decode cX12_passes 40 = .ok (.getfield 31, 3) := by decide +kernel
theorem dX12_passes_43 : decode cX12_passes 43 = .ok (.iload_n 2, 1) := by decide +kernel
theorem dX12_passes_44 : decode cX12_passes 44 = .ok (.invokestatic 266, 3) := by decide +kernel
theorem dX12_passes_47 : decode cX12_passes 47 = .ok (.ifCond .eq 15, 3) := by decide +kernel
theorem dX12_passes_50 : decode cX12_passes 50 = .ok (.aload_n 0, 1) := by decide +kernel
theorem dX12_passes_51 : decode cX12_passes 51 = .ok (.getfield 31, 3) := by decide +kernel
theorem dX12_passes_54 : decode cX12_passes 54 = .ok (.iload_n 1, 1) := by decide +kernel
theorem dX12_passes_55 : decode cX12_passes 55 = .ok (.iload_n 2, 1) := by decide +kernel
theorem dX12_passes_56 : decode cX12_passes 56 = .ok (.invokestatic 393, 3) := by decide +kernel
theorem dX12_passes_59 : decode cX12_passes 59 = .ok (.ifCond .eq 6, 3) := by decide +kernel
theorem dX12_passes_62 : decode cX12_passes 62 = .ok (.bipush (-2), 2) := by decide +kernel
theorem dX12_passes_64 : decode cX12_passes 64 = .ok (.ireturn, 1) := by decide +kernel
theorem dX12_passes_65 : decode cX12_passes 65 = .ok (.aload_n 0, 1) := by decide +kernel
theorem dX12_passes_66 : decode cX12_passes 66 = .ok (.invokevirtual 390, 3) := by decide +kernel
theorem dX12_passes_69 : decode cX12_passes 69 = .ok (.iconst 1, 1) := by decide +kernel
theorem dX12_passes_70 : decode cX12_passes 70 = .ok (.istore_n 3, 1) := by decide +kernel
theorem dX12_passes_71 : decode cX12_passes 71 = .ok (.iload_n 3, 1) := by decide +kernel
theorem dX12_passes_72 : decode cX12_passes 72 = .ok (.bipush 60, 2) := by decide +kernel
theorem dX12_passes_74 : decode cX12_passes 74 = .ok (.if_icmp .gt 47, 3) := by decide +kernel
theorem dX12_passes_77 : decode cX12_passes 77 = .ok (.aload_n 0, 1) := by decide +kernel
theorem dX12_passes_78 : decode cX12_passes 78 = .ok (.aload_n 0, 1) := by decide +kernel
theorem dX12_passes_79 : decode cX12_passes 79 = .ok (.getfield 34, 3) := by decide +kernel
theorem dX12_passes_82 : decode cX12_passes 82 = .ok (.invokevirtual 343, 3) := by decide +kernel
theorem dX12_passes_85 : decode cX12_passes 85 = .ok (.aload_n 0, 1) := by decide +kernel
theorem dX12_passes_86 : decode cX12_passes 86 = .ok (.getfield 34, 3) := by decide +kernel
theorem dX12_passes_89 : decode cX12_passes 89 = .ok (.iload_n 1, 1) := by decide +kernel
theorem dX12_passes_90 : decode cX12_passes 90 = .ok (.iload_n 2, 1) := by decide +kernel
theorem dX12_passes_91 : decode cX12_passes 91 = .ok (.invokestatic 393, 3) := by decide +kernel
theorem dX12_passes_94 : decode cX12_passes 94 = .ok (.ifCond .eq 21, 3) := by decide +kernel
theorem dX12_passes_97 : decode cX12_passes 97 = .ok (.aload_n 0, 1) := by decide +kernel
theorem dX12_passes_98 : decode cX12_passes 98 = .ok (.iconst 0, 1) := by decide +kernel
theorem dX12_passes_99 : decode cX12_passes 99 = .ok (.putfield 119, 3) := by decide +kernel
theorem dX12_passes_102 : decode cX12_passes 102 = .ok (.aload_n 0, 1) := by decide +kernel
theorem dX12_passes_103 : decode cX12_passes 103 = .ok (.aload_n 0, 1) := by decide +kernel
theorem dX12_passes_104 : decode cX12_passes 104 = .ok (.getfield 34, 3) := by decide +kernel
theorem dX12_passes_107 : decode cX12_passes 107 = .ok (.iload_n 1, 1) := by decide +kernel
theorem dX12_passes_108 : decode cX12_passes 108 = .ok (.iaload, 1) := by decide +kernel
theorem dX12_passes_109 : decode cX12_passes 109 = .ok (.i2l, 1) := by decide +kernel
theorem dX12_passes_110 : decode cX12_passes 110 = .ok (.invokevirtual 358, 3) := by decide +kernel
theorem dX12_passes_113 : decode cX12_passes 113 = .ok (.iload_n 3, 1) := by decide +kernel
theorem dX12_passes_114 : decode cX12_passes 114 = .ok (.ireturn, 1) := by decide +kernel
theorem dX12_passes_115 : decode cX12_passes 115 = .ok (.iinc 3 1, 3) := by decide +kernel
theorem dX12_passes_118 : decode cX12_passes 118 = .ok (.goto (-47), 3) := by decide +kernel
theorem dX12_passes_121 : decode cX12_passes 121 = .ok (.bipush (-2), 2) := by decide +kernel
theorem dX12_passes_123 : decode cX12_passes 123 = .ok (.ireturn, 1) := by decide +kernel
theorem dX12_ends_0 : decode cX12_ends 0 = .ok (.aload_n 0, 1) := by decide +kernel
theorem dX12_ends_1 : decode cX12_ends 1 = .ok (.iconst 0, 1) := by decide +kernel
theorem dX12_ends_2 : decode cX12_ends 2 = .ok (.putfield 112, 3) := by decide +kernel
theorem dX12_ends_5 : decode cX12_ends 5 = .ok (.aload_n 0, 1) := by decide +kernel
theorem dX12_ends_6 : decode cX12_ends 6 = .ok (.iload_n 1, 1) := by decide +kernel
theorem dX12_ends_7 : decode cX12_ends 7 = .ok (.invokevirtual 308, 3) := by decide +kernel
theorem dX12_ends_10 : decode cX12_ends 10 = .ok (.ifCond .ne 5, 3) := by decide +kernel
theorem dX12_ends_13 : decode cX12_ends 13 = .ok (.iconst (-1), 1) := by decide +kernel
theorem dX12_ends_14 : decode cX12_ends 14 = .ok (.ireturn, 1) := by decide +kernel
theorem dX12_ends_15 : decode cX12_ends 15 = .ok (.aload_n 0, 1) := by decide +kernel
theorem dX12_ends_16 : decode cX12_ends 16 = .ok (.invokevirtual 390, 3) := by decide +kernel
theorem dX12_ends_19 : decode cX12_ends 19 = .ok (.aload_n 0, 1) := by decide +kernel
theorem dX12_ends_20 : decode cX12_ends 20 = .ok (.aload_n 0, 1) := by decide +kernel
theorem dX12_ends_21 : decode cX12_ends 21 = .ok (.getfield 34, 3) := by decide +kernel
theorem dX12_ends_24 : decode cX12_ends 24 = .ok (.iconst 0, 1) := by decide +kernel
theorem dX12_ends_25 : decode cX12_ends 25 = .ok (.invokevirtual 355, 3) := by decide +kernel
theorem dX12_ends_28 : decode cX12_ends 28 = .ok (.iconst 0, 1) := by decide +kernel
theorem dX12_ends_29 : decode cX12_ends 29 = .ok (.istore_n 2, 1) := by decide +kernel
theorem dX12_ends_30 : decode cX12_ends 30 = .ok (.iload_n 2, 1) := by decide +kernel
theorem dX12_ends_31 : decode cX12_ends 31 = .ok (.sipush 200, 3) := by decide +kernel
theorem dX12_ends_34 : decode cX12_ends 34 = .ok (.if_icmp .gt 60, 3) := by decide +kernel
theorem dX12_ends_37 : decode cX12_ends 37 = .ok (.aload_n 0, 1) := by decide +kernel
theorem dX12_ends_38 : decode cX12_ends 38 = .ok (.getfield 34, 3) := by decide +kernel
theorem dX12_ends_41 : decode cX12_ends 41 = .ok (.iload_n 1, 1) := by decide +kernel
theorem dX12_ends_42 : decode cX12_ends 42 = .ok (.invokestatic 132, 3) := by decide +kernel
theorem dX12_ends_45 : decode cX12_ends 45 = .ok (.ifCond .eq 35, 3) := by decide +kernel
theorem dX12_ends_48 : decode cX12_ends 48 = .ok (.aload_n 0, 1) := by decide +kernel
theorem dX12_ends_49 : decode cX12_ends 49 = .ok (.iconst 0, 1) := by decide +kernel
theorem dX12_ends_50 : decode cX12_ends 50 = .ok (.putfield 119, 3) := by decide +kernel
theorem dX12_ends_53 : decode cX12_ends 53 = .ok (.aload_n 0, 1) := by decide +kernel
theorem dX12_ends_54 : decode cX12_ends 54 = .ok (.iload_n 2, 1) := by decide +kernel
theorem dX12_ends_55 : decode cX12_ends 55 = .ok (.i2l, 1) := by decide +kernel
theorem dX12_ends_56 : decode cX12_ends 56 = .ok (.invokevirtual 358, 3) := by decide +kernel
theorem dX12_ends_59 : decode cX12_ends 59 = .ok (.aload_n 0, 1) := by decide +kernel
theorem dX12_ends_60 : decode cX12_ends 60 = .ok (.aload_n 0, 1) := by decide +kernel
theorem dX12_ends_61 : decode cX12_ends 61 = .ok (.getfield 67, 3) := by decide +kernel
theorem dX12_ends_64 : decode cX12_ends 64 = .ok (.iload_n 1, 1) := by decide +kernel
theorem dX12_ends_65 : decode cX12_ends 65 = .ok (.iaload, 1) := by decide +kernel
theorem dX12_ends_66 : decode cX12_ends 66 = .ok (.i2l, 1) := by decide +kernel
theorem dX12_ends_67 : decode cX12_ends 67 = .ok (.invokevirtual 358, 3) := by decide +kernel
theorem dX12_ends_70 : decode cX12_ends 70 = .ok (.aload_n 0, 1) := by decide +kernel
theorem dX12_ends_71 : decode cX12_ends 71 = .ok (.getfield 34, 3) := by decide +kernel
theorem dX12_ends_74 : decode cX12_ends 74 = .ok (.bipush 29, 2) := by decide +kernel
theorem dX12_ends_76 : decode cX12_ends 76 = .ok (.iload_n 1, 1) := by decide +kernel
theorem dX12_ends_77 : decode cX12_ends 77 = .ok (.iadd, 1) := by decide +kernel
theorem dX12_ends_78 : decode cX12_ends 78 = .ok (.iaload, 1) := by decide +kernel
theorem dX12_ends_79 : decode cX12_ends 79 = .ok (.ireturn, 1) := by decide +kernel
theorem dX12_ends_80 : decode cX12_ends 80 = .ok (.aload_n 0, 1) := by decide +kernel
theorem dX12_ends_81 : decode cX12_ends 81 = .ok (.aload_n 0, 1) := by decide +kernel
theorem dX12_ends_82 : decode cX12_ends 82 = .ok (.getfield 34, 3) := by decide +kernel
theorem dX12_ends_85 : decode cX12_ends 85 = .ok (.invokevirtual 343, 3) := by decide +kernel
theorem dX12_ends_88 : decode cX12_ends 88 = .ok (.iinc 2 1, 3) := by decide +kernel
theorem dX12_ends_91 : decode cX12_ends 91 = .ok (.goto (-61), 3) := by decide +kernel
theorem dX12_ends_94 : decode cX12_ends 94 = .ok (.bipush (-2), 2) := by decide +kernel
theorem dX12_ends_96 : decode cX12_ends 96 = .ok (.ireturn, 1) := by decide +kernel
theorem dX12_rightThen_0 : decode cX12_rightThen 0 = .ok (.iconst 1, 1) := by decide +kernel
theorem dX12_rightThen_1 : decode cX12_rightThen 1 = .ok (.istore_n 1, 1) := by decide +kernel
theorem dX12_rightThen_2 : decode cX12_rightThen 2 = .ok (.iconst 0, 1) := by decide +kernel
theorem dX12_rightThen_3 : decode cX12_rightThen 3 = .ok (.istore_n 2, 1) := by decide +kernel
theorem dX12_rightThen_4 : decode cX12_rightThen 4 = .ok (.iload_n 2, 1) := by decide +kernel
theorem dX12_rightThen_5 : decode cX12_rightThen 5 = .ok (.sipush 200, 3) := by decide +kernel
theorem dX12_rightThen_8 : decode cX12_rightThen 8 = .ok (.if_icmp .ge 42, 3) := by decide +kernel
theorem dX12_rightThen_11 : decode cX12_rightThen 11 = .ok (.iload_n 1, 1) := by decide +kernel
theorem dX12_rightThen_12 : decode cX12_rightThen 12 = .ok (.ifCond .eq 38, 3) := by decide +kernel
theorem dX12_rightThen_15 : decode cX12_rightThen 15 = .ok (.aload_n 0, 1) := by decide +kernel
theorem dX12_rightThen_16 : decode cX12_rightThen 16 = .ok (.aload_n 0, 1) := by decide +kernel
theorem dX12_rightThen_17 : decode cX12_rightThen 17 = .ok (.getfield 34, 3) := by decide +kernel
theorem dX12_rightThen_20 : decode cX12_rightThen 20 = .ok (.invokevirtual 333, 3) := by decide +kernel
theorem dX12_rightThen_23 : decode cX12_rightThen 23 = .ok (.aload_n 0, 1) := by decide +kernel
theorem dX12_rightThen_24 : decode cX12_rightThen 24 = .ok (.getfield 321, 3) := by decide +kernel
theorem dX12_rightThen_27 : decode cX12_rightThen 27 = .ok (.ifCond .le 7, 3) := by decide +kernel
theorem dX12_rightThen_30 : decode cX12_rightThen 30 = .ok (.iconst 1, 1) := by decide +kernel
theorem dX12_rightThen_31 : decode cX12_rightThen 31 = .ok (.goto 4, 3) := by decide +kernel
theorem dX12_rightThen_34 : decode cX12_rightThen 34 = .ok (.iconst 0, 1) := by decide +kernel
theorem dX12_rightThen_35 : decode cX12_rightThen 35 = .ok (.istore_n 1, 1) := by decide +kernel
theorem dX12_rightThen_36 : decode cX12_rightThen 36 = .ok (.aload_n 0, 1) := by decide +kernel
theorem dX12_rightThen_37 : decode cX12_rightThen 37 = .ok (.aload_n 0, 1) := by decide +kernel
theorem dX12_rightThen_38 : decode cX12_rightThen 38 = .ok (.getfield 34, 3) := by decide +kernel
theorem dX12_rightThen_41 : decode cX12_rightThen 41 = .ok (.invokevirtual 343, 3) := by decide +kernel
theorem dX12_rightThen_44 : decode cX12_rightThen 44 = .ok (.iinc 2 1, 3) := by decide +kernel
theorem dX12_rightThen_47 : decode cX12_rightThen 47 = .ok (.goto (-43), 3) := by decide +kernel
theorem dX12_rightThen_50 : decode cX12_rightThen 50 = .ok (.aload_n 0, 1) := by decide +kernel
theorem dX12_rightThen_51 : decode cX12_rightThen 51 = .ok (.aload_n 0, 1) := by decide +kernel
theorem dX12_rightThen_52 : decode cX12_rightThen 52 = .ok (.getfield 34, 3) := by decide +kernel
theorem dX12_rightThen_55 : decode cX12_rightThen 55 = .ok (.iconst 1, 1) := by decide +kernel
theorem dX12_rightThen_56 : decode cX12_rightThen 56 = .ok (.invokevirtual 397, 3) := by decide +kernel
theorem dX12_rightThen_59 : decode cX12_rightThen 59 = .ok (.ireturn, 1) := by decide +kernel
theorem dX12_right_0 : decode cX12_right 0 = .ok (.aload_n 0, 1) := by decide +kernel
theorem dX12_right_1 : decode cX12_right 1 = .ok (.iconst 0, 1) := by decide +kernel
theorem dX12_right_2 : decode cX12_right 2 = .ok (.putfield 112, 3) := by decide +kernel
theorem dX12_right_5 : decode cX12_right 5 = .ok (.aload_n 0, 1) := by decide +kernel
theorem dX12_right_6 : decode cX12_right 6 = .ok (.invokevirtual 390, 3) := by decide +kernel
theorem dX12_right_9 : decode cX12_right 9 = .ok (.aload_n 0, 1) := by decide +kernel
theorem dX12_right_10 : decode cX12_right 10 = .ok (.invokevirtual 401, 3) := by decide +kernel
theorem dX12_right_13 : decode cX12_right 13 = .ok (.istore_n 1, 1) := by decide +kernel
theorem dX12_right_14 : decode cX12_right 14 = .ok (.aload_n 0, 1) := by decide +kernel
theorem dX12_right_15 : decode cX12_right 15 = .ok (.iconst 0, 1) := by decide +kernel
theorem dX12_right_16 : decode cX12_right 16 = .ok (.putfield 119, 3) := by decide +kernel
theorem dX12_right_19 : decode cX12_right 19 = .ok (.aload_n 0, 1) := by decide +kernel
theorem dX12_right_20 : decode cX12_right 20 = .ok (.iload_n 1, 1) := by decide +kernel
theorem dX12_right_21 : decode cX12_right 21 = .ok (.i2l, 1) := by decide +kernel
theorem dX12_right_22 : decode cX12_right 22 = .ok (.invokevirtual 358, 3) := by decide +kernel
theorem dX12_right_25 : decode cX12_right 25 = .ok (.aload_n 0, 1) := by decide +kernel
theorem dX12_right_26 : decode cX12_right 26 = .ok (.aload_n 0, 1) := by decide +kernel
theorem dX12_right_27 : decode cX12_right 27 = .ok (.aload_n 0, 1) := by decide +kernel
theorem dX12_right_28 : decode cX12_right 28 = .ok (.getfield 34, 3) := by decide +kernel
theorem dX12_right_31 : decode cX12_right 31 = .ok (.iconst 0, 1) := by decide +kernel
theorem dX12_right_32 : decode cX12_right 32 = .ok (.invokevirtual 397, 3) := by decide +kernel
theorem dX12_right_35 : decode cX12_right 35 = .ok (.i2l, 1) := by decide +kernel
theorem dX12_right_36 : decode cX12_right 36 = .ok (.invokevirtual 358, 3) := by decide +kernel
theorem dX12_right_39 : decode cX12_right 39 = .ok (.iload_n 1, 1) := by decide +kernel
theorem dX12_right_40 : decode cX12_right 40 = .ok (.invokestatic 279, 3) := by decide +kernel
theorem dX12_right_43 : decode cX12_right 43 = .ok (.ireturn, 1) := by decide +kernel
theorem dX12_places_0 : decode cX12_places 0 = .ok (.iload_n 1, 1) := by decide +kernel
theorem dX12_places_1 : decode cX12_places 1 = .ok (.aload_n 0, 1) := by decide +kernel
theorem dX12_places_2 : decode cX12_places 2 = .ok (.getfield 122, 3) := by decide +kernel
theorem dX12_places_5 : decode cX12_places 5 = .ok (.if_icmp .ne 89, 3) := by decide +kernel
theorem dX12_places_8 : decode cX12_places 8 = .ok (.aload_n 0, 1) := by decide +kernel
theorem dX12_places_9 : decode cX12_places 9 = .ok (.invokevirtual 390, 3) := by decide +kernel
theorem dX12_places_12 : decode cX12_places 12 = .ok (.iconst 0, 1) := by decide +kernel
theorem dX12_places_13 : decode cX12_places 13 = .ok (.istore_n 3, 1) := by decide +kernel
theorem dX12_places_14 : decode cX12_places 14 = .ok (.iload_n 3, 1) := by decide +kernel
theorem dX12_places_15 : decode cX12_places 15 = .ok (.aload_n 0, 1) := by decide +kernel
theorem dX12_places_16 : decode cX12_places 16 = .ok (.getfield 122, 3) := by decide +kernel
theorem dX12_places_19 : decode cX12_places 19 = .ok (.if_icmp .ge 21, 3) := by decide +kernel
theorem dX12_places_22 : decode cX12_places 22 = .ok (.aload_n 0, 1) := by decide +kernel
theorem dX12_places_23 : decode cX12_places 23 = .ok (.getfield 34, 3) := by decide +kernel
theorem dX12_places_26 : decode cX12_places 26 = .ok (.iload_n 3, 1) := by decide +kernel
theorem dX12_places_27 : decode cX12_places 27 = .ok (.aload_n 0, 1) := by decide +kernel
theorem dX12_places_28 : decode cX12_places 28 = .ok (.getfield 82, 3) := by decide +kernel
theorem dX12_places_31 : decode cX12_places 31 = .ok (.iload_n 3, 1) := by decide +kernel
theorem dX12_places_32 : decode cX12_places 32 = .ok (.iaload, 1) := by decide +kernel
theorem dX12_places_33 : decode cX12_places 33 = .ok (.iastore, 1) := by decide +kernel
theorem dX12_places_34 : decode cX12_places 34 = .ok (.iinc 3 1, 3) := by decide +kernel
theorem dX12_places_37 : decode cX12_places 37 = .ok (.goto (-23), 3) := by decide +kernel
theorem dX12_places_40 : decode cX12_places 40 = .ok (.aload_n 0, 1) := by decide +kernel
theorem dX12_places_41 : decode cX12_places 41 = .ok (.invokevirtual 401, 3) := by decide +kernel
theorem dX12_places_44 : decode cX12_places 44 = .ok (.invokestatic 279, 3) := by decide +kernel
theorem dX12_places_47 : decode cX12_places 47 = .ok (.istore_n 3, 1) := by decide +kernel
theorem dX12_places_48 : decode cX12_places 48 = .ok (.iload_n 3, 1) := by decide +kernel
theorem dX12_places_49 : decode cX12_places 49 = .ok (.aload_n 0, 1) := by decide +kernel
theorem dX12_places_50 : decode cX12_places 50 = .ok (.getfield 404, 3) := by decide +kernel
theorem dX12_places_53 : decode cX12_places 53 = .ok (.if_icmp .le 40, 3) := by decide +kernel
theorem dX12_places_56 : decode cX12_places 56 = .ok (.aload_n 0, 1) := by decide +kernel
theorem dX12_places_57 : decode cX12_places 57 = .ok (.iload_n 3, 1) := by decide +kernel
theorem dX12_places_58 : decode cX12_places 58 = .ok (.putfield 404, 3) := by decide +kernel
theorem dX12_places_61 : decode cX12_places 61 = .ok (.iconst 0, 1) := by decide +kernel
theorem dX12_places_62 : decode cX12_places 62 = .ok (.istore 4, 2) := by decide +kernel
theorem dX12_places_64 : decode cX12_places 64 = .ok (.iload 4, 2) := by decide +kernel
theorem dX12_places_66 : decode cX12_places 66 = .ok (.aload_n 0, 1) := by decide +kernel
theorem dX12_places_67 : decode cX12_places 67 = .ok (.getfield 122, 3) := by decide +kernel
theorem dX12_places_70 : decode cX12_places 70 = .ok (.if_icmp .ge 23, 3) := by decide +kernel
theorem dX12_places_73 : decode cX12_places 73 = .ok (.aload_n 0, 1) := by decide +kernel
theorem dX12_places_74 : decode cX12_places 74 = .ok (.getfield 85, 3) := by decide +kernel
theorem dX12_places_77 : decode cX12_places 77 = .ok (.iload 4, 2) := by decide +kernel
theorem dX12_places_79 : decode cX12_places 79 = .ok (.aload_n 0, 1) := by decide +kernel
theorem dX12_places_80 : decode cX12_places 80 = .ok (.getfield 82, 3) := by decide +kernel
theorem dX12_places_83 : decode cX12_places 83 = .ok (.iload 4, 2) := by decide +kernel
theorem dX12_places_85 : decode cX12_places 85 = .ok (.iaload, 1) := by decide +kernel
theorem dX12_places_86 : decode cX12_places 86 = .ok (.iastore, 1) := by decide +kernel
theorem dX12_places_87 : decode cX12_places 87 = .ok (.iinc 4 1, 3) := by decide +kernel
theorem dX12_places_90 : decode cX12_places 90 = .ok (.goto (-26), 3) := by decide +kernel
theorem dX12_places_93 : decode cX12_places 93 = .ok (.return_, 1) := by decide +kernel
theorem dX12_places_94 : decode cX12_places 94 = .ok (.aload_n 0, 1) := by decide +kernel
theorem dX12_places_95 : decode cX12_places 95 = .ok (.getfield 82, 3) := by decide +kernel
theorem dX12_places_98 : decode cX12_places 98 = .ok (.iload_n 1, 1) := by decide +kernel
theorem dX12_places_99 : decode cX12_places 99 = .ok (.iconst (-1), 1) := by decide +kernel
theorem dX12_places_100 : decode cX12_places 100 = .ok (.iastore, 1) := by decide +kernel
theorem dX12_places_101 : decode cX12_places 101 = .ok (.aload_n 0, 1) := by decide +kernel
theorem dX12_places_102 : decode cX12_places 102 = .ok (.getfield 31, 3) := by decide +kernel
theorem dX12_places_105 : decode cX12_places 105 = .ok (.iload_n 1, 1) := by decide +kernel
theorem dX12_places_106 : decode cX12_places 106 = .ok (.invokestatic 266, 3) := by decide +kernel
theorem dX12_places_109 : decode cX12_places 109 = .ok (.ifCond .ne 12, 3) := by decide +kernel
theorem dX12_places_112 : decode cX12_places 112 = .ok (.aload_n 0, 1) := by decide +kernel
theorem dX12_places_113 : decode cX12_places 113 = .ok (.iload_n 1, 1) := by decide +kernel
theorem dX12_places_114 : decode cX12_places 114 = .ok (.iconst 1, 1) := by decide +kernel
theorem dX12_places_115 : decode cX12_places 115 = .ok (.iadd, 1) := by decide +kernel
theorem dX12_places_116 : decode cX12_places 116 = .ok (.iload_n 2, 1) := by decide +kernel
theorem dX12_places_117 : decode cX12_places 117 = .ok (.invokevirtual 407, 3) := by decide +kernel
theorem dX12_places_120 : decode cX12_places 120 = .ok (.return_, 1) := by decide +kernel
theorem dX12_places_121 : decode cX12_places 121 = .ok (.iconst 0, 1) := by decide +kernel
theorem dX12_places_122 : decode cX12_places 122 = .ok (.istore_n 3, 1) := by decide +kernel
theorem dX12_places_123 : decode cX12_places 123 = .ok (.iload_n 3, 1) := by decide +kernel
theorem dX12_places_124 : decode cX12_places 124 = .ok (.aload_n 0, 1) := by decide +kernel
theorem dX12_places_125 : decode cX12_places 125 = .ok (.invokevirtual 192, 3) := by decide +kernel
theorem dX12_places_128 : decode cX12_places 128 = .ok (.if_icmp .ge 54, 3) := by decide +kernel
theorem dX12_places_131 : decode cX12_places 131 = .ok (.aload_n 0, 1) := by decide +kernel
theorem dX12_places_132 : decode cX12_places 132 = .ok (.aload_n 0, 1) := by decide +kernel
theorem dX12_places_133 : decode cX12_places 133 = .ok (.getfield 31, 3) := by decide +kernel
theorem dX12_places_136 : decode cX12_places 136 = .ok (.iload_n 3, 1) := by decide +kernel
theorem dX12_places_137 : decode cX12_places 137 = .ok (.invokevirtual 195, 3) := by decide +kernel
theorem dX12_places_140 : decode cX12_places 140 = .ok (.istore 4, 2) := by decide +kernel
theorem dX12_places_142 : decode cX12_places 142 = .ok (.iload 4, 2) := by decide +kernel
theorem dX12_places_144 : decode cX12_places 144 = .ok (.ifCond .lt 32, 3) := by decide +kernel
theorem dX12_places_147 : decode cX12_places 147 = .ok (.iload_n 2, 1) := by decide +kernel
theorem dX12_places_148 : decode cX12_places 148 = .ok (.iload 4, 2) := by decide +kernel
theorem dX12_places_150 : decode cX12_places 150 = .ok (.invokestatic 411, 3) := by decide +kernel
theorem dX12_places_153 : decode cX12_places 153 = .ok (.ifCond .ne 23, 3) := by decide +kernel
theorem dX12_places_156 : decode cX12_places 156 = .ok (.aload_n 0, 1) := by decide +kernel
theorem dX12_places_157 : decode cX12_places 157 = .ok (.getfield 82, 3) := by decide +kernel
theorem dX12_places_160 : decode cX12_places 160 = .ok (.iload_n 1, 1) := by decide +kernel
theorem dX12_places_161 : decode cX12_places 161 = .ok (.iload_n 3, 1) := by decide +kernel
theorem dX12_places_162 : decode cX12_places 162 = .ok (.iastore, 1) := by decide +kernel
theorem dX12_places_163 : decode cX12_places 163 = .ok (.aload_n 0, 1) := by decide +kernel
theorem dX12_places_164 : decode cX12_places 164 = .ok (.iload_n 1, 1) := by decide +kernel
theorem dX12_places_165 : decode cX12_places 165 = .ok (.iconst 1, 1) := by decide +kernel
theorem dX12_places_166 : decode cX12_places 166 = .ok (.iadd, 1) := by decide +kernel
theorem dX12_places_167 : decode cX12_places 167 = .ok (.iload_n 2, 1) := by decide +kernel
theorem dX12_places_168 : decode cX12_places 168 = .ok (.iconst 1, 1) := by decide +kernel
theorem dX12_places_169 : decode cX12_places 169 = .ok (.iload 4, 2) := by decide +kernel
theorem dX12_places_171 : decode cX12_places 171 = .ok (.ishl, 1) := by decide +kernel
theorem dX12_places_172 : decode cX12_places 172 = .ok (.ior, 1) := by decide +kernel
theorem dX12_places_173 : decode cX12_places 173 = .ok (.invokevirtual 407, 3) := by decide +kernel
theorem dX12_places_176 : decode cX12_places 176 = .ok (.iinc 3 1, 3) := by decide +kernel
theorem dX12_places_179 : decode cX12_places 179 = .ok (.goto (-56), 3) := by decide +kernel
theorem dX12_places_182 : decode cX12_places 182 = .ok (.return_, 1) := by decide +kernel
theorem dX12_order_0 : decode cX12_order 0 = .ok (.aload_n 0, 1) := by decide +kernel
theorem dX12_order_1 : decode cX12_order 1 = .ok (.iconst 0, 1) := by decide +kernel
theorem dX12_order_2 : decode cX12_order 2 = .ok (.putfield 112, 3) := by decide +kernel
theorem dX12_order_5 : decode cX12_order 5 = .ok (.aload_n 0, 1) := by decide +kernel
theorem dX12_order_6 : decode cX12_order 6 = .ok (.iconst (-1), 1) := by decide +kernel
theorem dX12_order_7 : decode cX12_order 7 = .ok (.putfield 404, 3) := by decide +kernel
theorem dX12_order_10 : decode cX12_order 10 = .ok (.aload_n 0, 1) := by decide +kernel
theorem dX12_order_11 : decode cX12_order 11 = .ok (.iconst 0, 1) := by decide +kernel
theorem dX12_order_12 : decode cX12_order 12 = .ok (.iconst 0, 1) := by decide +kernel
theorem dX12_order_13 : decode cX12_order 13 = .ok (.invokevirtual 407, 3) := by decide +kernel
theorem dX12_order_16 : decode cX12_order 16 = .ok (.aload_n 0, 1) := by decide +kernel
theorem dX12_order_17 : decode cX12_order 17 = .ok (.iconst 0, 1) := by decide +kernel
theorem dX12_order_18 : decode cX12_order 18 = .ok (.putfield 119, 3) := by decide +kernel
theorem dX12_order_21 : decode cX12_order 21 = .ok (.iconst 0, 1) := by decide +kernel
theorem dX12_order_22 : decode cX12_order 22 = .ok (.istore_n 1, 1) := by decide +kernel
theorem dX12_order_23 : decode cX12_order 23 = .ok (.iload_n 1, 1) := by decide +kernel
theorem dX12_order_24 : decode cX12_order 24 = .ok (.aload_n 0, 1) := by decide +kernel
theorem dX12_order_25 : decode cX12_order 25 = .ok (.getfield 122, 3) := by decide +kernel
theorem dX12_order_28 : decode cX12_order 28 = .ok (.if_icmp .ge 31, 3) := by decide +kernel
theorem dX12_order_31 : decode cX12_order 31 = .ok (.aload_n 0, 1) := by decide +kernel
theorem dX12_order_32 : decode cX12_order 32 = .ok (.getfield 31, 3) := by decide +kernel
theorem dX12_order_35 : decode cX12_order 35 = .ok (.iload_n 1, 1) := by decide +kernel
theorem dX12_order_36 : decode cX12_order 36 = .ok (.invokestatic 266, 3) := by decide +kernel
theorem dX12_order_39 : decode cX12_order 39 = .ok (.ifCond .eq 14, 3) := by decide +kernel
theorem dX12_order_42 : decode cX12_order 42 = .ok (.aload_n 0, 1) := by decide +kernel
theorem dX12_order_43 : decode cX12_order 43 = .ok (.aload_n 0, 1) := by decide +kernel
theorem dX12_order_44 : decode cX12_order 44 = .ok (.getfield 85, 3) := by decide +kernel
theorem dX12_order_47 : decode cX12_order 47 = .ok (.iload_n 1, 1) := by decide +kernel
theorem dX12_order_48 : decode cX12_order 48 = .ok (.iaload, 1) := by decide +kernel
theorem dX12_order_49 : decode cX12_order 49 = .ok (.i2l, 1) := by decide +kernel
theorem dX12_order_50 : decode cX12_order 50 = .ok (.invokevirtual 358, 3) := by decide +kernel
theorem dX12_order_53 : decode cX12_order 53 = .ok (.iinc 1 1, 3) := by decide +kernel
theorem dX12_order_56 : decode cX12_order 56 = .ok (.goto (-33), 3) := by decide +kernel
theorem dX12_order_59 : decode cX12_order 59 = .ok (.aload_n 0, 1) := by decide +kernel
theorem dX12_order_60 : decode cX12_order 60 = .ok (.getfield 404, 3) := by decide +kernel
theorem dX12_order_63 : decode cX12_order 63 = .ok (.ireturn, 1) := by decide +kernel
theorem dX12_stands_0 : decode cX12_stands 0 = .ok (.aload_n 0, 1) := by decide +kernel
theorem dX12_stands_1 : decode cX12_stands 1 = .ok (.iconst 0, 1) := by decide +kernel
theorem dX12_stands_2 : decode cX12_stands 2 = .ok (.putfield 112, 3) := by decide +kernel
theorem dX12_stands_5 : decode cX12_stands 5 = .ok (.aload_n 0, 1) := by decide +kernel
theorem dX12_stands_6 : decode cX12_stands 6 = .ok (.iload_n 1, 1) := by decide +kernel
theorem dX12_stands_7 : decode cX12_stands 7 = .ok (.invokevirtual 308, 3) := by decide +kernel
theorem dX12_stands_10 : decode cX12_stands 10 = .ok (.ifCond .ne 5, 3) := by decide +kernel
theorem dX12_stands_13 : decode cX12_stands 13 = .ok (.iconst (-1), 1) := by decide +kernel
theorem dX12_stands_14 : decode cX12_stands 14 = .ok (.ireturn, 1) := by decide +kernel
theorem dX12_stands_15 : decode cX12_stands 15 = .ok (.aload_n 0, 1) := by decide +kernel
theorem dX12_stands_16 : decode cX12_stands 16 = .ok (.getfield 31, 3) := by decide +kernel
theorem dX12_stands_19 : decode cX12_stands 19 = .ok (.iload_n 1, 1) := by decide +kernel
theorem dX12_stands_20 : decode cX12_stands 20 = .ok (.invokestatic 132, 3) := by decide +kernel
theorem dX12_stands_23 : decode cX12_stands 23 = .ok (.ifCond .eq 6, 3) := by decide +kernel
theorem dX12_stands_26 : decode cX12_stands 26 = .ok (.bipush (-2), 2) := by decide +kernel
theorem dX12_stands_28 : decode cX12_stands 28 = .ok (.ireturn, 1) := by decide +kernel
theorem dX12_stands_29 : decode cX12_stands 29 = .ok (.bipush (-2), 2) := by decide +kernel
theorem dX12_stands_31 : decode cX12_stands 31 = .ok (.istore_n 2, 1) := by decide +kernel
theorem dX12_stands_32 : decode cX12_stands 32 = .ok (.iconst 0, 1) := by decide +kernel
theorem dX12_stands_33 : decode cX12_stands 33 = .ok (.istore_n 3, 1) := by decide +kernel
theorem dX12_stands_34 : decode cX12_stands 34 = .ok (.aload_n 0, 1) := by decide +kernel
theorem dX12_stands_35 : decode cX12_stands 35 = .ok (.invokevirtual 192, 3) := by decide +kernel
theorem dX12_stands_38 : decode cX12_stands 38 = .ok (.iconst 1, 1) := by decide +kernel
theorem dX12_stands_39 : decode cX12_stands 39 = .ok (.isub, 1) := by decide +kernel
theorem dX12_stands_40 : decode cX12_stands 40 = .ok (.istore 4, 2) := by decide +kernel
theorem dX12_stands_42 : decode cX12_stands 42 = .ok (.iload 4, 2) := by decide +kernel
theorem dX12_stands_44 : decode cX12_stands 44 = .ok (.ifCond .lt 51, 3) := by decide +kernel
theorem dX12_stands_47 : decode cX12_stands 47 = .ok (.aload_n 0, 1) := by decide +kernel
theorem dX12_stands_48 : decode cX12_stands 48 = .ok (.invokevirtual 390, 3) := by decide +kernel
theorem dX12_stands_51 : decode cX12_stands 51 = .ok (.aload_n 0, 1) := by decide +kernel
theorem dX12_stands_52 : decode cX12_stands 52 = .ok (.getfield 34, 3) := by decide +kernel
theorem dX12_stands_55 : decode cX12_stands 55 = .ok (.bipush 13, 2) := by decide +kernel
theorem dX12_stands_57 : decode cX12_stands 57 = .ok (.iload_n 1, 1) := by decide +kernel
theorem dX12_stands_58 : decode cX12_stands 58 = .ok (.iadd, 1) := by decide +kernel
theorem dX12_stands_59 : decode cX12_stands 59 = .ok (.iload 4, 2) := by decide +kernel
theorem dX12_stands_61 : decode cX12_stands 61 = .ok (.iastore, 1) := by decide +kernel
theorem dX12_stands_62 : decode cX12_stands 62 = .ok (.aload_n 0, 1) := by decide +kernel
theorem dX12_stands_63 : decode cX12_stands 63 = .ok (.getfield 34, 3) := by decide +kernel
theorem dX12_stands_66 : decode cX12_stands 66 = .ok (.bipush 21, 2) := by decide +kernel
theorem dX12_stands_68 : decode cX12_stands 68 = .ok (.iload_n 1, 1) := by decide +kernel
theorem dX12_stands_69 : decode cX12_stands 69 = .ok (.iadd, 1) := by decide +kernel
theorem dX12_stands_70 : decode cX12_stands 70 = .ok (.iconst (-1), 1) := by decide +kernel
theorem dX12_stands_71 : decode cX12_stands 71 = .ok (.iastore, 1) := by decide +kernel
theorem dX12_stands_72 : decode cX12_stands 72 = .ok (.aload_n 0, 1) := by decide +kernel
theorem dX12_stands_73 : decode cX12_stands 73 = .ok (.invokevirtual 401, 3) := by decide +kernel
theorem dX12_stands_76 : decode cX12_stands 76 = .ok (.iload_n 1, 1) := by decide +kernel
theorem dX12_stands_77 : decode cX12_stands 77 = .ok (.invokestatic 411, 3) := by decide +kernel
theorem dX12_stands_80 : decode cX12_stands 80 = .ok (.ifCond .eq 9, 3) := by decide +kernel
theorem dX12_stands_83 : decode cX12_stands 83 = .ok (.iload 4, 2) := by decide +kernel
theorem dX12_stands_85 : decode cX12_stands 85 = .ok (.istore_n 2, 1) := by decide +kernel
theorem dX12_stands_86 : decode cX12_stands 86 = .ok (.iinc 3 1, 3) := by decide +kernel
theorem dX12_stands_89 : decode cX12_stands 89 = .ok (.iinc 4 (-1), 3) := by decide +kernel
theorem dX12_stands_92 : decode cX12_stands 92 = .ok (.goto (-50), 3) := by decide +kernel
theorem dX12_stands_95 : decode cX12_stands 95 = .ok (.iload_n 2, 1) := by decide +kernel
theorem dX12_stands_96 : decode cX12_stands 96 = .ok (.ifCond .lt 14, 3) := by decide +kernel
theorem dX12_stands_99 : decode cX12_stands 99 = .ok (.aload_n 0, 1) := by decide +kernel
theorem dX12_stands_100 : decode cX12_stands 100 = .ok (.iconst 0, 1) := by decide +kernel
theorem dX12_stands_101 : decode cX12_stands 101 = .ok (.putfield 119, 3) := by decide +kernel
theorem dX12_stands_104 : decode cX12_stands 104 = .ok (.aload_n 0, 1) := by decide +kernel
theorem dX12_stands_105 : decode cX12_stands 105 = .ok (.iload_n 3, 1) := by decide +kernel
theorem dX12_stands_106 : decode cX12_stands 106 = .ok (.i2l, 1) := by decide +kernel
theorem dX12_stands_107 : decode cX12_stands 107 = .ok (.invokevirtual 358, 3) := by decide +kernel
theorem dX12_stands_110 : decode cX12_stands 110 = .ok (.iload_n 2, 1) := by decide +kernel
theorem dX12_stands_111 : decode cX12_stands 111 = .ok (.ireturn, 1) := by decide +kernel
theorem dX12_when_0 : decode cX12_when 0 = .ok (.aload_n 0, 1) := by decide +kernel
theorem dX12_when_1 : decode cX12_when 1 = .ok (.iconst 0, 1) := by decide +kernel
theorem dX12_when_2 : decode cX12_when 2 = .ok (.putfield 112, 3) := by decide +kernel
theorem dX12_when_5 : decode cX12_when 5 = .ok (.aload_n 0, 1) := by decide +kernel
theorem dX12_when_6 : decode cX12_when 6 = .ok (.iload_n 1, 1) := by decide +kernel
theorem dX12_when_7 : decode cX12_when 7 = .ok (.invokevirtual 308, 3) := by decide +kernel
theorem dX12_when_10 : decode cX12_when 10 = .ok (.ifCond .ne 5, 3) := by decide +kernel
theorem dX12_when_13 : decode cX12_when 13 = .ok (.iconst (-1), 1) := by decide +kernel
theorem dX12_when_14 : decode cX12_when 14 = .ok (.ireturn, 1) := by decide +kernel
theorem dX12_when_15 : decode cX12_when 15 = .ok (.bipush (-2), 2) := by decide +kernel
theorem dX12_when_17 : decode cX12_when 17 = .ok (.istore_n 2, 1) := by decide +kernel
theorem dX12_when_18 : decode cX12_when 18 = .ok (.iconst 0, 1) := by decide +kernel
theorem dX12_when_19 : decode cX12_when 19 = .ok (.istore_n 3, 1) := by decide +kernel
theorem dX12_when_20 : decode cX12_when 20 = .ok (.bipush 60, 2) := by decide +kernel
theorem dX12_when_22 : decode cX12_when 22 = .ok (.istore 4, 2) := by decide +kernel
theorem dX12_when_24 : decode cX12_when 24 = .ok (.iload 4, 2) := by decide +kernel
theorem dX12_when_26 : decode cX12_when 26 = .ok (.ifCond .lt 116, 3) := by decide +kernel
theorem dX12_when_29 : decode cX12_when 29 = .ok (.aload_n 0, 1) := by decide +kernel
theorem dX12_when_30 : decode cX12_when 30 = .ok (.invokevirtual 390, 3) := by decide +kernel
theorem dX12_when_33 : decode cX12_when 33 = .ok (.aload_n 0, 1) := by decide +kernel
theorem dX12_when_34 : decode cX12_when 34 = .ok (.aload_n 0, 1) := by decide +kernel
theorem dX12_when_35 : decode cX12_when 35 = .ok (.getfield 34, 3) := by decide +kernel
theorem dX12_when_38 : decode cX12_when 38 = .ok (.iload 4, 2) := by decide +kernel
theorem dX12_when_40 : decode cX12_when 40 = .ok (.invokevirtual 355, 3) := by decide +kernel
theorem dX12_when_43 : decode cX12_when 43 = .ok (.aload_n 0, 1) := by decide +kernel
theorem dX12_when_44 : decode cX12_when 44 = .ok (.getfield 34, 3) := by decide +kernel
theorem dX12_when_47 : decode cX12_when 47 = .ok (.iload_n 1, 1) := by decide +kernel
theorem dX12_when_48 : decode cX12_when 48 = .ok (.invokestatic 132, 3) := by decide +kernel
theorem dX12_when_51 : decode cX12_when 51 = .ok (.ifCond .ne 25, 3) := by decide +kernel
theorem dX12_when_54 : decode cX12_when 54 = .ok (.aload_n 0, 1) := by decide +kernel
theorem dX12_when_55 : decode cX12_when 55 = .ok (.getfield 34, 3) := by decide +kernel
theorem dX12_when_58 : decode cX12_when 58 = .ok (.bipush 21, 2) := by decide +kernel
theorem dX12_when_60 : decode cX12_when 60 = .ok (.iload_n 1, 1) := by decide +kernel
theorem dX12_when_61 : decode cX12_when 61 = .ok (.iadd, 1) := by decide +kernel
theorem dX12_when_62 : decode cX12_when 62 = .ok (.iaload, 1) := by decide +kernel
theorem dX12_when_63 : decode cX12_when 63 = .ok (.aload_n 0, 1) := by decide +kernel
theorem dX12_when_64 : decode cX12_when 64 = .ok (.getfield 24, 3) := by decide +kernel
theorem dX12_when_67 : decode cX12_when 67 = .ok (.iload_n 1, 1) := by decide +kernel
theorem dX12_when_68 : decode cX12_when 68 = .ok (.iaload, 1) := by decide +kernel
theorem dX12_when_69 : decode cX12_when 69 = .ok (.if_icmp .ne 7, 3) := by decide +kernel
theorem dX12_when_72 : decode cX12_when 72 = .ok (.iconst 1, 1) := by decide +kernel
theorem dX12_when_73 : decode cX12_when 73 = .ok (.goto 4, 3) := by decide +kernel
theorem dX12_when_76 : decode cX12_when 76 = .ok (.iconst 0, 1) := by decide +kernel
theorem dX12_when_77 : decode cX12_when 77 = .ok (.istore 5, 2) := by decide +kernel
theorem dX12_when_79 : decode cX12_when 79 = .ok (.iload 5, 2) := by decide +kernel
theorem dX12_when_81 : decode cX12_when 81 = .ok (.ifCond .eq 7, 3) := by decide +kernel
theorem dX12_when_84 : decode cX12_when 84 = .ok (.iconst 0, 1) := by decide +kernel
theorem dX12_when_85 : decode cX12_when 85 = .ok (.goto 12, 3) := by decide +kernel
theorem dX12_when_88 : decode cX12_when 88 = .ok (.aload_n 0, 1) := by decide +kernel
theorem dX12_when_89 : decode cX12_when 89 = .ok (.aload_n 0, 1) := by decide +kernel
theorem dX12_when_90 : decode cX12_when 90 = .ok (.getfield 34, 3) := by decide +kernel
theorem dX12_when_93 : decode cX12_when 93 = .ok (.iload_n 1, 1) := by decide +kernel
theorem dX12_when_94 : decode cX12_when 94 = .ok (.invokevirtual 362, 3) := by decide +kernel
theorem dX12_when_97 : decode cX12_when 97 = .ok (.istore 6, 2) := by decide +kernel
theorem dX12_when_99 : decode cX12_when 99 = .ok (.iload 6, 2) := by decide +kernel
theorem dX12_when_101 : decode cX12_when 101 = .ok (.ifCond .ge 10, 3) := by decide +kernel
theorem dX12_when_104 : decode cX12_when 104 = .ok (.iload 6, 2) := by decide +kernel
theorem dX12_when_106 : decode cX12_when 106 = .ok (.bipush (-4), 2) := by decide +kernel
theorem dX12_when_108 : decode cX12_when 108 = .ok (.if_icmp .ne 28, 3) := by decide +kernel
theorem dX12_when_111 : decode cX12_when 111 = .ok (.aload_n 0, 1) := by decide +kernel
theorem dX12_when_112 : decode cX12_when 112 = .ok (.invokevirtual 401, 3) := by decide +kernel
theorem dX12_when_115 : decode cX12_when 115 = .ok (.iload_n 1, 1) := by decide +kernel
theorem dX12_when_116 : decode cX12_when 116 = .ok (.invokestatic 411, 3) := by decide +kernel
theorem dX12_when_119 : decode cX12_when 119 = .ok (.ifCond .eq 17, 3) := by decide +kernel
theorem dX12_when_122 : decode cX12_when 122 = .ok (.iload_n 2, 1) := by decide +kernel
theorem dX12_when_123 : decode cX12_when 123 = .ok (.ifCond .ge 8, 3) := by decide +kernel
theorem dX12_when_126 : decode cX12_when 126 = .ok (.iload 4, 2) := by decide +kernel
theorem dX12_when_128 : decode cX12_when 128 = .ok (.goto 4, 3) := by decide +kernel
theorem dX12_when_131 : decode cX12_when 131 = .ok (.iload_n 3, 1) := by decide +kernel
theorem dX12_when_132 : decode cX12_when 132 = .ok (.istore_n 3, 1) := by decide +kernel
theorem dX12_when_133 : decode cX12_when 133 = .ok (.iload 4, 2) := by decide +kernel
theorem dX12_when_135 : decode cX12_when 135 = .ok (.istore_n 2, 1) := by decide +kernel
theorem dX12_when_136 : decode cX12_when 136 = .ok (.iinc 4 (-1), 3) := by decide +kernel
theorem dX12_when_139 : decode cX12_when 139 = .ok (.goto (-115), 3) := by decide +kernel
theorem dX12_when_142 : decode cX12_when 142 = .ok (.iload_n 2, 1) := by decide +kernel
theorem dX12_when_143 : decode cX12_when 143 = .ok (.ifCond .lt 14, 3) := by decide +kernel
theorem dX12_when_146 : decode cX12_when 146 = .ok (.aload_n 0, 1) := by decide +kernel
theorem dX12_when_147 : decode cX12_when 147 = .ok (.iconst 0, 1) := by decide +kernel
theorem dX12_when_148 : decode cX12_when 148 = .ok (.putfield 119, 3) := by decide +kernel
theorem dX12_when_151 : decode cX12_when 151 = .ok (.aload_n 0, 1) := by decide +kernel
theorem dX12_when_152 : decode cX12_when 152 = .ok (.iload_n 3, 1) := by decide +kernel
theorem dX12_when_153 : decode cX12_when 153 = .ok (.i2l, 1) := by decide +kernel
theorem dX12_when_154 : decode cX12_when 154 = .ok (.invokevirtual 358, 3) := by decide +kernel
theorem dX12_when_157 : decode cX12_when 157 = .ok (.iload_n 2, 1) := by decide +kernel
theorem dX12_when_158 : decode cX12_when 158 = .ok (.ireturn, 1) := by decide +kernel
theorem dX12_mends_0 : decode cX12_mends 0 = .ok (.aload_n 0, 1) := by decide +kernel
theorem dX12_mends_1 : decode cX12_mends 1 = .ok (.iconst 0, 1) := by decide +kernel
theorem dX12_mends_2 : decode cX12_mends 2 = .ok (.putfield 112, 3) := by decide +kernel
theorem dX12_mends_5 : decode cX12_mends 5 = .ok (.iload_n 1, 1) := by decide +kernel
theorem dX12_mends_6 : decode cX12_mends 6 = .ok (.i2l, 1) := by decide +kernel
theorem dX12_mends_7 : decode cX12_mends 7 = .ok (.lconst 0, 1) := by decide +kernel
theorem dX12_mends_8 : decode cX12_mends 8 = .ok (.ldc2_w 415, 3) := by decide +kernel
theorem dX12_mends_11 : decode cX12_mends 11 = .ok (.invokestatic 125, 3) := by decide +kernel
theorem dX12_mends_14 : decode cX12_mends 14 = .ok (.ifCond .ne 5, 3) := by decide +kernel
theorem dX12_mends_17 : decode cX12_mends 17 = .ok (.iconst (-1), 1) := by decide +kernel
theorem dX12_mends_18 : decode cX12_mends 18 = .ok (.ireturn, 1) := by decide +kernel
theorem dX12_mends_19 : decode cX12_mends 19 = .ok (.iconst (-1), 1) := by decide +kernel
theorem dX12_mends_20 : decode cX12_mends 20 = .ok (.istore_n 2, 1) := by decide +kernel
theorem dX12_mends_21 : decode cX12_mends 21 = .ok (.iconst 0, 1) := by decide +kernel
theorem dX12_mends_22 : decode cX12_mends 22 = .ok (.istore_n 3, 1) := by decide +kernel
theorem dX12_mends_23 : decode cX12_mends 23 = .ok (.iload_n 3, 1) := by decide +kernel
theorem dX12_mends_24 : decode cX12_mends 24 = .ok (.iconst 1, 1) := by decide +kernel
theorem dX12_mends_25 : decode cX12_mends 25 = .ok (.aload_n 0, 1) := by decide +kernel
theorem dX12_mends_26 : decode cX12_mends 26 = .ok (.getfield 129, 3) := by decide +kernel
theorem dX12_mends_29 : decode cX12_mends 29 = .ok (.ishl, 1) := by decide +kernel
theorem dX12_mends_30 : decode cX12_mends 30 = .ok (.if_icmp .ge 120, 3) := by decide +kernel
theorem dX12_mends_33 : decode cX12_mends 33 = .ok (.iload_n 2, 1) := by decide +kernel
theorem dX12_mends_34 : decode cX12_mends 34 = .ok (.ifCond .lt 14, 3) := by decide +kernel
theorem dX12_mends_37 : decode cX12_mends 37 = .ok (.iload_n 3, 1) := by decide +kernel
theorem dX12_mends_38 : decode cX12_mends 38 = .ok (.invokestatic 279, 3) := by decide +kernel
theorem dX12_mends_41 : decode cX12_mends 41 = .ok (.iload_n 2, 1) := by decide +kernel
theorem dX12_mends_42 : decode cX12_mends 42 = .ok (.invokestatic 279, 3) := by decide +kernel
theorem dX12_mends_45 : decode cX12_mends 45 = .ok (.if_icmp .ge 99, 3) := by decide +kernel
theorem dX12_mends_48 : decode cX12_mends 48 = .ok (.aload_n 0, 1) := by decide +kernel
theorem dX12_mends_49 : decode cX12_mends 49 = .ok (.invokevirtual 390, 3) := by decide +kernel
theorem dX12_mends_52 : decode cX12_mends 52 = .ok (.iconst 1, 1) := by decide +kernel
theorem dX12_mends_53 : decode cX12_mends 53 = .ok (.istore 4, 2) := by decide +kernel
theorem dX12_mends_55 : decode cX12_mends 55 = .ok (.iconst 0, 1) := by decide +kernel
theorem dX12_mends_56 : decode cX12_mends 56 = .ok (.istore 5, 2) := by decide +kernel
theorem dX12_mends_58 : decode cX12_mends 58 = .ok (.iload 5, 2) := by decide +kernel
theorem dX12_mends_60 : decode cX12_mends 60 = .ok (.aload_n 0, 1) := by decide +kernel
theorem dX12_mends_61 : decode cX12_mends 61 = .ok (.getfield 129, 3) := by decide +kernel
theorem dX12_mends_64 : decode cX12_mends 64 = .ok (.if_icmp .ge 58, 3) := by decide +kernel
theorem dX12_mends_67 : decode cX12_mends 67 = .ok (.iload_n 3, 1) := by decide +kernel
theorem dX12_mends_68 : decode cX12_mends 68 = .ok (.iload 5, 2) := by decide +kernel
theorem dX12_mends_70 : decode cX12_mends 70 = .ok (.invokestatic 411, 3) := by decide +kernel
theorem dX12_mends_73 : decode cX12_mends 73 = .ok (.ifCond .eq 16, 3) := by decide +kernel
theorem dX12_mends_76 : decode cX12_mends 76 = .ok (.aload_n 0, 1) := by decide +kernel
theorem dX12_mends_77 : decode cX12_mends 77 = .ok (.aload_n 0, 1) := by decide +kernel
theorem dX12_mends_78 : decode cX12_mends 78 = .ok (.getfield 34, 3) := by decide +kernel
theorem dX12_mends_81 : decode cX12_mends 81 = .ok (.iload 5, 2) := by decide +kernel
theorem dX12_mends_83 : decode cX12_mends 83 = .ok (.invokevirtual 362, 3) := by decide +kernel
theorem dX12_mends_86 : decode cX12_mends 86 = .ok (.goto 4, 3) := by decide +kernel
theorem dX12_mends_89 : decode cX12_mends 89 = .ok (.iconst 0, 1) := by decide +kernel
theorem dX12_mends_90 : decode cX12_mends 90 = .ok (.istore 6, 2) := by decide +kernel
theorem dX12_mends_92 : decode cX12_mends 92 = .ok (.iload 4, 2) := by decide +kernel
theorem dX12_mends_94 : decode cX12_mends 94 = .ok (.ifCond .eq 19, 3) := by decide +kernel
theorem dX12_mends_97 : decode cX12_mends 97 = .ok (.iload 6, 2) := by decide +kernel
theorem dX12_mends_99 : decode cX12_mends 99 = .ok (.ifCond .ge 10, 3) := by decide +kernel
theorem dX12_mends_102 : decode cX12_mends 102 = .ok (.iload 6, 2) := by decide +kernel
theorem dX12_mends_104 : decode cX12_mends 104 = .ok (.bipush (-4), 2) := by decide +kernel
theorem dX12_mends_106 : decode cX12_mends 106 = .ok (.if_icmp .ne 7, 3) := by decide +kernel
theorem dX12_mends_109 : decode cX12_mends 109 = .ok (.iconst 1, 1) := by decide +kernel
theorem dX12_mends_110 : decode cX12_mends 110 = .ok (.goto 4, 3) := by decide +kernel
theorem dX12_mends_113 : decode cX12_mends 113 = .ok (.iconst 0, 1) := by decide +kernel
theorem dX12_mends_114 : decode cX12_mends 114 = .ok (.istore 4, 2) := by decide +kernel
theorem dX12_mends_116 : decode cX12_mends 116 = .ok (.iinc 5 1, 3) := by decide +kernel
theorem dX12_mends_119 : decode cX12_mends 119 = .ok (.goto (-61), 3) := by decide +kernel
theorem dX12_mends_122 : decode cX12_mends 122 = .ok (.iload 4, 2) := by decide +kernel
theorem dX12_mends_124 : decode cX12_mends 124 = .ok (.ifCond .eq 18, 3) := by decide +kernel
theorem dX12_mends_127 : decode cX12_mends 127 = .ok (.aload_n 0, 1) := by decide +kernel
theorem dX12_mends_128 : decode cX12_mends 128 = .ok (.invokevirtual 401, 3) := by decide +kernel
theorem dX12_mends_131 : decode cX12_mends 131 = .ok (.invokestatic 279, 3) := by decide +kernel
theorem dX12_mends_134 : decode cX12_mends 134 = .ok (.iload_n 1, 1) := by decide +kernel
theorem dX12_mends_135 : decode cX12_mends 135 = .ok (.if_icmp .lt 7, 3) := by decide +kernel
theorem dX12_mends_138 : decode cX12_mends 138 = .ok (.iload_n 3, 1) := by decide +kernel
theorem dX12_mends_139 : decode cX12_mends 139 = .ok (.goto 4, 3) := by decide +kernel
theorem dX12_mends_142 : decode cX12_mends 142 = .ok (.iload_n 2, 1) := by decide +kernel
theorem dX12_mends_143 : decode cX12_mends 143 = .ok (.istore_n 2, 1) := by decide +kernel
theorem dX12_mends_144 : decode cX12_mends 144 = .ok (.iinc 3 1, 3) := by decide +kernel
theorem dX12_mends_147 : decode cX12_mends 147 = .ok (.goto (-124), 3) := by decide +kernel
theorem dX12_mends_150 : decode cX12_mends 150 = .ok (.iload_n 2, 1) := by decide +kernel
theorem dX12_mends_151 : decode cX12_mends 151 = .ok (.ifCond .ge 6, 3) := by decide +kernel
theorem dX12_mends_154 : decode cX12_mends 154 = .ok (.bipush (-2), 2) := by decide +kernel
theorem dX12_mends_156 : decode cX12_mends 156 = .ok (.ireturn, 1) := by decide +kernel
theorem dX12_mends_157 : decode cX12_mends 157 = .ok (.aload_n 0, 1) := by decide +kernel
theorem dX12_mends_158 : decode cX12_mends 158 = .ok (.iconst 0, 1) := by decide +kernel
theorem dX12_mends_159 : decode cX12_mends 159 = .ok (.putfield 119, 3) := by decide +kernel
theorem dX12_mends_162 : decode cX12_mends 162 = .ok (.aload_n 0, 1) := by decide +kernel
theorem dX12_mends_163 : decode cX12_mends 163 = .ok (.iload_n 2, 1) := by decide +kernel
theorem dX12_mends_164 : decode cX12_mends 164 = .ok (.i2l, 1) := by decide +kernel
theorem dX12_mends_165 : decode cX12_mends 165 = .ok (.invokevirtual 358, 3) := by decide +kernel
theorem dX12_mends_168 : decode cX12_mends 168 = .ok (.iload_n 2, 1) := by decide +kernel
theorem dX12_mends_169 : decode cX12_mends 169 = .ok (.invokestatic 279, 3) := by decide +kernel
theorem dX12_mends_172 : decode cX12_mends 172 = .ok (.ireturn, 1) := by decide +kernel
theorem dX12_misleads_0 : decode cX12_misleads 0 = .ok (.aload_n 0, 1) := by decide +kernel
theorem dX12_misleads_1 : decode cX12_misleads 1 = .ok (.iconst 0, 1) := by decide +kernel
theorem dX12_misleads_2 : decode cX12_misleads 2 = .ok (.putfield 112, 3) := by decide +kernel
theorem dX12_misleads_5 : decode cX12_misleads 5 = .ok (.aload_n 0, 1) := by decide +kernel
theorem dX12_misleads_6 : decode cX12_misleads 6 = .ok (.invokevirtual 390, 3) := by decide +kernel
theorem dX12_misleads_9 : decode cX12_misleads 9 = .ok (.aload_n 0, 1) := by decide +kernel
theorem dX12_misleads_10 : decode cX12_misleads 10 = .ok (.invokevirtual 401, 3) := by decide +kernel
theorem dX12_misleads_13 : decode cX12_misleads 13 = .ok (.istore_n 1, 1) := by decide +kernel
theorem dX12_misleads_14 : decode cX12_misleads 14 = .ok (.bipush (-2), 2) := by decide +kernel
theorem dX12_misleads_16 : decode cX12_misleads 16 = .ok (.istore_n 2, 1) := by decide +kernel
theorem dX12_misleads_17 : decode cX12_misleads 17 = .ok (.iconst (-1), 1) := by decide +kernel
theorem dX12_misleads_18 : decode cX12_misleads 18 = .ok (.istore_n 3, 1) := by decide +kernel
theorem dX12_misleads_19 : decode cX12_misleads 19 = .ok (.iconst 0, 1) := by decide +kernel
theorem dX12_misleads_20 : decode cX12_misleads 20 = .ok (.istore 4, 2) := by decide +kernel
theorem dX12_misleads_22 : decode cX12_misleads 22 = .ok (.iload 4, 2) := by decide +kernel
theorem dX12_misleads_24 : decode cX12_misleads 24 = .ok (.aload_n 0, 1) := by decide +kernel
theorem dX12_misleads_25 : decode cX12_misleads 25 = .ok (.getfield 122, 3) := by decide +kernel
theorem dX12_misleads_28 : decode cX12_misleads 28 = .ok (.if_icmp .ge 140, 3) := by decide +kernel
theorem dX12_misleads_31 : decode cX12_misleads 31 = .ok (.aload_n 0, 1) := by decide +kernel
theorem dX12_misleads_32 : decode cX12_misleads 32 = .ok (.getfield 31, 3) := by decide +kernel
theorem dX12_misleads_35 : decode cX12_misleads 35 = .ok (.iload 4, 2) := by decide +kernel
theorem dX12_misleads_37 : decode cX12_misleads 37 = .ok (.invokestatic 266, 3) := by decide +kernel
theorem dX12_misleads_40 : decode cX12_misleads 40 = .ok (.ifCond .eq 122, 3) := by decide +kernel
theorem dX12_misleads_43 : decode cX12_misleads 43 = .ok (.aload_n 0, 1) := by decide +kernel
theorem dX12_misleads_44 : decode cX12_misleads 44 = .ok (.invokevirtual 390, 3) := by decide +kernel
theorem dX12_misleads_47 : decode cX12_misleads 47 = .ok (.aload_n 0, 1) := by decide +kernel
theorem dX12_misleads_48 : decode cX12_misleads 48 = .ok (.getfield 34, 3) := by decide +kernel
theorem dX12_misleads_51 : decode cX12_misleads 51 = .ok (.iload 4, 2) := by decide +kernel
theorem dX12_misleads_53 : decode cX12_misleads 53 = .ok (.iconst (-1), 1) := by decide +kernel
theorem dX12_misleads_54 : decode cX12_misleads 54 = .ok (.iastore, 1) := by decide +kernel
theorem dX12_misleads_55 : decode cX12_misleads 55 = .ok (.iconst 0, 1) := by decide +kernel
theorem dX12_misleads_56 : decode cX12_misleads 56 = .ok (.istore 5, 2) := by decide +kernel
theorem dX12_misleads_58 : decode cX12_misleads 58 = .ok (.iload 5, 2) := by decide +kernel
theorem dX12_misleads_60 : decode cX12_misleads 60 = .ok (.aload_n 0, 1) := by decide +kernel
theorem dX12_misleads_61 : decode cX12_misleads 61 = .ok (.getfield 129, 3) := by decide +kernel
theorem dX12_misleads_64 : decode cX12_misleads 64 = .ok (.if_icmp .ge 60, 3) := by decide +kernel
theorem dX12_misleads_67 : decode cX12_misleads 67 = .ok (.aload_n 0, 1) := by decide +kernel
theorem dX12_misleads_68 : decode cX12_misleads 68 = .ok (.getfield 34, 3) := by decide +kernel
theorem dX12_misleads_71 : decode cX12_misleads 71 = .ok (.bipush 21, 2) := by decide +kernel
theorem dX12_misleads_73 : decode cX12_misleads 73 = .ok (.iload 5, 2) := by decide +kernel
theorem dX12_misleads_75 : decode cX12_misleads 75 = .ok (.iadd, 1) := by decide +kernel
theorem dX12_misleads_76 : decode cX12_misleads 76 = .ok (.aload_n 0, 1) := by decide +kernel
theorem dX12_misleads_77 : decode cX12_misleads 77 = .ok (.getfield 34, 3) := by decide +kernel
theorem dX12_misleads_80 : decode cX12_misleads 80 = .ok (.iload 5, 2) := by decide +kernel
theorem dX12_misleads_82 : decode cX12_misleads 82 = .ok (.invokestatic 132, 3) := by decide +kernel
theorem dX12_misleads_85 : decode cX12_misleads 85 = .ok (.ifCond .ne 22, 3) := by decide +kernel
theorem dX12_misleads_88 : decode cX12_misleads 88 = .ok (.aload_n 0, 1) := by decide +kernel
theorem dX12_misleads_89 : decode cX12_misleads 89 = .ok (.getfield 34, 3) := by decide +kernel
theorem dX12_misleads_92 : decode cX12_misleads 92 = .ok (.bipush 21, 2) := by decide +kernel
theorem dX12_misleads_94 : decode cX12_misleads 94 = .ok (.iload 5, 2) := by decide +kernel
theorem dX12_misleads_96 : decode cX12_misleads 96 = .ok (.iadd, 1) := by decide +kernel
theorem dX12_misleads_97 : decode cX12_misleads 97 = .ok (.iaload, 1) := by decide +kernel
theorem dX12_misleads_98 : decode cX12_misleads 98 = .ok (.iload 4, 2) := by decide +kernel
theorem dX12_misleads_100 : decode cX12_misleads 100 = .ok (.if_icmp .ne 7, 3) := by decide +kernel
theorem dX12_misleads_103 : decode cX12_misleads 103 = .ok (.iconst (-1), 1) := by decide +kernel
theorem dX12_misleads_104 : decode cX12_misleads 104 = .ok (.goto 13, 3) := by decide +kernel
theorem dX12_misleads_107 : decode cX12_misleads 107 = .ok (.aload_n 0, 1) := by decide +kernel
theorem dX12_misleads_108 : decode cX12_misleads 108 = .ok (.getfield 34, 3) := by decide +kernel
theorem dX12_misleads_111 : decode cX12_misleads 111 = .ok (.bipush 21, 2) := by decide +kernel
theorem dX12_misleads_113 : decode cX12_misleads 113 = .ok (.iload 5, 2) := by decide +kernel
