theorem dX0_init_0 : decode cX0_init 0 = .ok (.aload_n 0, 1) := o_42 BX0_init rfl rfl
theorem dX0_init_1 : decode cX0_init 1 = .ok (.invokespecial 3, 3) := o_183 BX0_init rfl rfl rfl
theorem dX0_init_4 : decode cX0_init 4 = .ok (.aload_n 0, 1) := o_42 BX0_init rfl rfl
theorem dX0_init_5 : decode cX0_init 5 = .ok (.bipush 8, 2) := o_16 BX0_init rfl rfl rfl
theorem dX0_init_7 : decode cX0_init 7 = .ok (.newarray .int, 2) := o_188_10 BX0_init rfl rfl rfl
theorem dX0_init_9 : decode cX0_init 9 = .ok (.putfield 9, 3) := o_181 BX0_init rfl rfl rfl
theorem dX0_init_12 : decode cX0_init 12 = .ok (.aload_n 0, 1) := o_42 BX0_init rfl rfl
theorem dX0_init_13 : decode cX0_init 13 = .ok (.bipush 8, 2) := o_16 BX0_init rfl rfl rfl
theorem dX0_init_15 : decode cX0_init 15 = .ok (.newarray .int, 2) := o_188_10 BX0_init rfl rfl rfl
theorem dX0_init_17 : decode cX0_init 17 = .ok (.putfield 15, 3) := o_181 BX0_init rfl rfl rfl
theorem dX0_init_20 : decode cX0_init 20 = .ok (.aload_n 0, 1) := o_42 BX0_init rfl rfl
theorem dX0_init_21 : decode cX0_init 21 = .ok (.iconst 0, 1) := o_3 BX0_init rfl rfl
theorem dX0_init_22 : decode cX0_init 22 = .ok (.putfield 18, 3) := o_181 BX0_init rfl rfl rfl
theorem dX0_init_25 : decode cX0_init 25 = .ok (.return_, 1) := o_177 BX0_init rfl rfl
theorem dX0_add_0 : decode cX0_add 0 = .ok (.aload_n 0, 1) := o_42 BX0_add rfl rfl
theorem dX0_add_1 : decode cX0_add 1 = .ok (.getfield 18, 3) := o_180 BX0_add rfl rfl rfl
theorem dX0_add_4 : decode cX0_add 4 = .ok (.bipush 8, 2) := o_16 BX0_add rfl rfl rfl
theorem dX0_add_6 : decode cX0_add 6 = .ok (.if_icmp .ge 11, 3) := o_162 BX0_add rfl rfl rfl
theorem dX0_add_9 : decode cX0_add 9 = .ok (.iload_n 1, 1) := o_27 BX0_add rfl rfl
theorem dX0_add_10 : decode cX0_add 10 = .ok (.iload_n 2, 1) := o_28 BX0_add rfl rfl
theorem dX0_add_11 : decode cX0_add 11 = .ok (.invokestatic 22, 3) := o_184 BX0_add rfl rfl rfl
theorem dX0_add_14 : decode cX0_add 14 = .ok (.ifCond .ne 5, 3) := o_154 BX0_add rfl rfl rfl
theorem dX0_add_17 : decode cX0_add 17 = .ok (.iconst 0, 1) := o_3 BX0_add rfl rfl
theorem dX0_add_18 : decode cX0_add 18 = .ok (.ireturn, 1) := o_172 BX0_add rfl rfl
theorem dX0_add_19 : decode cX0_add 19 = .ok (.aload_n 0, 1) := o_42 BX0_add rfl rfl
theorem dX0_add_20 : decode cX0_add 20 = .ok (.getfield 9, 3) := o_180 BX0_add rfl rfl rfl
theorem dX0_add_23 : decode cX0_add 23 = .ok (.aload_n 0, 1) := o_42 BX0_add rfl rfl
theorem dX0_add_24 : decode cX0_add 24 = .ok (.getfield 18, 3) := o_180 BX0_add rfl rfl rfl
theorem dX0_add_27 : decode cX0_add 27 = .ok (.iload_n 1, 1) := o_27 BX0_add rfl rfl
theorem dX0_add_28 : decode cX0_add 28 = .ok (.iastore, 1) := o_79 BX0_add rfl rfl
theorem dX0_add_29 : decode cX0_add 29 = .ok (.aload_n 0, 1) := o_42 BX0_add rfl rfl
theorem dX0_add_30 : decode cX0_add 30 = .ok (.getfield 15, 3) := o_180 BX0_add rfl rfl rfl
theorem dX0_add_33 : decode cX0_add 33 = .ok (.aload_n 0, 1) := o_42 BX0_add rfl rfl
theorem dX0_add_34 : decode cX0_add 34 = .ok (.getfield 18, 3) := o_180 BX0_add rfl rfl rfl
theorem dX0_add_37 : decode cX0_add 37 = .ok (.iload_n 2, 1) := o_28 BX0_add rfl rfl
theorem dX0_add_38 : decode cX0_add 38 = .ok (.iastore, 1) := o_79 BX0_add rfl rfl
theorem dX0_add_39 : decode cX0_add 39 = .ok (.aload_n 0, 1) := o_42 BX0_add rfl rfl
theorem dX0_add_40 : decode cX0_add 40 = .ok (.dup, 1) := o_89 BX0_add rfl rfl
theorem dX0_add_41 : decode cX0_add 41 = .ok (.getfield 18, 3) := o_180 BX0_add rfl rfl rfl
theorem dX0_add_44 : decode cX0_add 44 = .ok (.iconst 1, 1) := o_4 BX0_add rfl rfl
theorem dX0_add_45 : decode cX0_add 45 = .ok (.iadd, 1) := o_96 BX0_add rfl rfl
theorem dX0_add_46 : decode cX0_add 46 = .ok (.putfield 18, 3) := o_181 BX0_add rfl rfl rfl
theorem dX0_add_49 : decode cX0_add 49 = .ok (.iconst 1, 1) := o_4 BX0_add rfl rfl
theorem dX0_add_50 : decode cX0_add 50 = .ok (.ireturn, 1) := o_172 BX0_add rfl rfl
theorem dX0_canBe_0 : decode cX0_canBe 0 = .ok (.iload_n 0, 1) := o_26 BX0_canBe rfl rfl
theorem dX0_canBe_1 : decode cX0_canBe 1 = .ok (.tableswitch 79 0 3 #[31, 47, 31, 64], 31) := by decide +kernel
theorem dX0_canBe_32 : decode cX0_canBe 32 = .ok (.iload_n 1, 1) := o_27 BX0_canBe rfl rfl
theorem dX0_canBe_33 : decode cX0_canBe 33 = .ok (.ifCond .lt 13, 3) := o_155 BX0_canBe rfl rfl rfl
theorem dX0_canBe_36 : decode cX0_canBe 36 = .ok (.iload_n 1, 1) := o_27 BX0_canBe rfl rfl
theorem dX0_canBe_37 : decode cX0_canBe 37 = .ok (.bipush 8, 2) := o_16 BX0_canBe rfl rfl rfl
theorem dX0_canBe_39 : decode cX0_canBe 39 = .ok (.if_icmp .gt 7, 3) := o_163 BX0_canBe rfl rfl rfl
theorem dX0_canBe_42 : decode cX0_canBe 42 = .ok (.iconst 1, 1) := o_4 BX0_canBe rfl rfl
theorem dX0_canBe_43 : decode cX0_canBe 43 = .ok (.goto 4, 3) := o_167 BX0_canBe rfl rfl rfl
theorem dX0_canBe_46 : decode cX0_canBe 46 = .ok (.iconst 0, 1) := o_3 BX0_canBe rfl rfl
theorem dX0_canBe_47 : decode cX0_canBe 47 = .ok (.ireturn, 1) := o_172 BX0_canBe rfl rfl
theorem dX0_canBe_48 : decode cX0_canBe 48 = .ok (.iload_n 1, 1) := o_27 BX0_canBe rfl rfl
theorem dX0_canBe_49 : decode cX0_canBe 49 = .ok (.iconst 1, 1) := o_4 BX0_canBe rfl rfl
theorem dX0_canBe_50 : decode cX0_canBe 50 = .ok (.if_icmp .lt 13, 3) := o_161 BX0_canBe rfl rfl rfl
theorem dX0_canBe_53 : decode cX0_canBe 53 = .ok (.iload_n 1, 1) := o_27 BX0_canBe rfl rfl
theorem dX0_canBe_54 : decode cX0_canBe 54 = .ok (.bipush 6, 2) := o_16 BX0_canBe rfl rfl rfl
theorem dX0_canBe_56 : decode cX0_canBe 56 = .ok (.if_icmp .gt 7, 3) := o_163 BX0_canBe rfl rfl rfl
theorem dX0_canBe_59 : decode cX0_canBe 59 = .ok (.iconst 1, 1) := o_4 BX0_canBe rfl rfl
theorem dX0_canBe_60 : decode cX0_canBe 60 = .ok (.goto 4, 3) := o_167 BX0_canBe rfl rfl rfl
theorem dX0_canBe_63 : decode cX0_canBe 63 = .ok (.iconst 0, 1) := o_3 BX0_canBe rfl rfl
theorem dX0_canBe_64 : decode cX0_canBe 64 = .ok (.ireturn, 1) := o_172 BX0_canBe rfl rfl
theorem dX0_canBe_65 : decode cX0_canBe 65 = .ok (.iload_n 1, 1) := o_27 BX0_canBe rfl rfl
theorem dX0_canBe_66 : decode cX0_canBe 66 = .ok (.ifCond .eq 8, 3) := o_153 BX0_canBe rfl rfl rfl
theorem dX0_canBe_69 : decode cX0_canBe 69 = .ok (.iload_n 1, 1) := o_27 BX0_canBe rfl rfl
theorem dX0_canBe_70 : decode cX0_canBe 70 = .ok (.iconst 1, 1) := o_4 BX0_canBe rfl rfl
theorem dX0_canBe_71 : decode cX0_canBe 71 = .ok (.if_icmp .ne 7, 3) := o_160 BX0_canBe rfl rfl rfl
theorem dX0_canBe_74 : decode cX0_canBe 74 = .ok (.iconst 1, 1) := o_4 BX0_canBe rfl rfl
theorem dX0_canBe_75 : decode cX0_canBe 75 = .ok (.goto 4, 3) := o_167 BX0_canBe rfl rfl rfl
theorem dX0_canBe_78 : decode cX0_canBe 78 = .ok (.iconst 0, 1) := o_3 BX0_canBe rfl rfl
theorem dX0_canBe_79 : decode cX0_canBe 79 = .ok (.ireturn, 1) := o_172 BX0_canBe rfl rfl
theorem dX0_canBe_80 : decode cX0_canBe 80 = .ok (.iconst 0, 1) := o_3 BX0_canBe rfl rfl
theorem dX0_canBe_81 : decode cX0_canBe 81 = .ok (.ireturn, 1) := o_172 BX0_canBe rfl rfl
theorem dX0_isTrueOf_0 : decode cX0_isTrueOf 0 = .ok (.iconst 0, 1) := o_3 BX0_isTrueOf rfl rfl
theorem dX0_isTrueOf_1 : decode cX0_isTrueOf 1 = .ok (.istore_n 3, 1) := o_62 BX0_isTrueOf rfl rfl
theorem dX0_isTrueOf_2 : decode cX0_isTrueOf 2 = .ok (.iload_n 3, 1) := o_29 BX0_isTrueOf rfl rfl
theorem dX0_isTrueOf_3 : decode cX0_isTrueOf 3 = .ok (.aload_n 0, 1) := o_42 BX0_isTrueOf rfl rfl
theorem dX0_isTrueOf_4 : decode cX0_isTrueOf 4 = .ok (.getfield 18, 3) := o_180 BX0_isTrueOf rfl rfl rfl
theorem dX0_isTrueOf_7 : decode cX0_isTrueOf 7 = .ok (.if_icmp .ge 21, 3) := o_162 BX0_isTrueOf rfl rfl rfl
theorem dX0_isTrueOf_10 : decode cX0_isTrueOf 10 = .ok (.aload_n 0, 1) := o_42 BX0_isTrueOf rfl rfl
theorem dX0_isTrueOf_11 : decode cX0_isTrueOf 11 = .ok (.aload_n 1, 1) := o_43 BX0_isTrueOf rfl rfl
theorem dX0_isTrueOf_12 : decode cX0_isTrueOf 12 = .ok (.iload_n 2, 1) := o_28 BX0_isTrueOf rfl rfl
theorem dX0_isTrueOf_13 : decode cX0_isTrueOf 13 = .ok (.iload_n 3, 1) := o_29 BX0_isTrueOf rfl rfl
theorem dX0_isTrueOf_14 : decode cX0_isTrueOf 14 = .ok (.invokevirtual 26, 3) := o_182 BX0_isTrueOf rfl rfl rfl
theorem dX0_isTrueOf_17 : decode cX0_isTrueOf 17 = .ok (.ifCond .ne 5, 3) := o_154 BX0_isTrueOf rfl rfl rfl
theorem dX0_isTrueOf_20 : decode cX0_isTrueOf 20 = .ok (.iconst 0, 1) := o_3 BX0_isTrueOf rfl rfl
theorem dX0_isTrueOf_21 : decode cX0_isTrueOf 21 = .ok (.ireturn, 1) := o_172 BX0_isTrueOf rfl rfl
theorem dX0_isTrueOf_22 : decode cX0_isTrueOf 22 = .ok (.iinc 3 1, 3) := o_132 BX0_isTrueOf rfl rfl rfl rfl
theorem dX0_isTrueOf_25 : decode cX0_isTrueOf 25 = .ok (.goto (-23), 3) := o_167 BX0_isTrueOf rfl rfl rfl
theorem dX0_isTrueOf_28 : decode cX0_isTrueOf 28 = .ok (.iconst 1, 1) := o_4 BX0_isTrueOf rfl rfl
theorem dX0_isTrueOf_29 : decode cX0_isTrueOf 29 = .ok (.ireturn, 1) := o_172 BX0_isTrueOf rfl rfl
theorem dX0_isOneTrueOf_0 : decode cX0_isOneTrueOf 0 = .ok (.aload_n 0, 1) := o_42 BX0_isOneTrueOf rfl rfl
theorem dX0_isOneTrueOf_1 : decode cX0_isOneTrueOf 1 = .ok (.getfield 9, 3) := o_180 BX0_isOneTrueOf rfl rfl rfl
theorem dX0_isOneTrueOf_4 : decode cX0_isOneTrueOf 4 = .ok (.iload_n 3, 1) := o_29 BX0_isOneTrueOf rfl rfl
theorem dX0_isOneTrueOf_5 : decode cX0_isOneTrueOf 5 = .ok (.iaload, 1) := o_46 BX0_isOneTrueOf rfl rfl
theorem dX0_isOneTrueOf_6 : decode cX0_isOneTrueOf 6 = .ok (.tableswitch 101 0 2 #[26, 53, 74], 26) := by decide +kernel
theorem dX0_isOneTrueOf_32 : decode cX0_isOneTrueOf 32 = .ok (.aload_n 1, 1) := o_43 BX0_isOneTrueOf rfl rfl
theorem dX0_isOneTrueOf_33 : decode cX0_isOneTrueOf 33 = .ok (.aload_n 1, 1) := o_43 BX0_isOneTrueOf rfl rfl
theorem dX0_isOneTrueOf_34 : decode cX0_isOneTrueOf 34 = .ok (.getfield 30, 3) := o_180 BX0_isOneTrueOf rfl rfl rfl
theorem dX0_isOneTrueOf_37 : decode cX0_isOneTrueOf 37 = .ok (.iload_n 2, 1) := o_28 BX0_isOneTrueOf rfl rfl
theorem dX0_isOneTrueOf_38 : decode cX0_isOneTrueOf 38 = .ok (.invokevirtual 35, 3) := o_182 BX0_isOneTrueOf rfl rfl rfl
theorem dX0_isOneTrueOf_41 : decode cX0_isOneTrueOf 41 = .ok (.invokestatic 39, 3) := o_184 BX0_isOneTrueOf rfl rfl rfl
theorem dX0_isOneTrueOf_44 : decode cX0_isOneTrueOf 44 = .ok (.aload_n 0, 1) := o_42 BX0_isOneTrueOf rfl rfl
theorem dX0_isOneTrueOf_45 : decode cX0_isOneTrueOf 45 = .ok (.getfield 15, 3) := o_180 BX0_isOneTrueOf rfl rfl rfl
theorem dX0_isOneTrueOf_48 : decode cX0_isOneTrueOf 48 = .ok (.iload_n 3, 1) := o_29 BX0_isOneTrueOf rfl rfl
theorem dX0_isOneTrueOf_49 : decode cX0_isOneTrueOf 49 = .ok (.iaload, 1) := o_46 BX0_isOneTrueOf rfl rfl
theorem dX0_isOneTrueOf_50 : decode cX0_isOneTrueOf 50 = .ok (.if_icmp .lt 7, 3) := o_161 BX0_isOneTrueOf rfl rfl rfl
theorem dX0_isOneTrueOf_53 : decode cX0_isOneTrueOf 53 = .ok (.iconst 1, 1) := o_4 BX0_isOneTrueOf rfl rfl
theorem dX0_isOneTrueOf_54 : decode cX0_isOneTrueOf 54 = .ok (.goto 4, 3) := o_167 BX0_isOneTrueOf rfl rfl rfl
theorem dX0_isOneTrueOf_57 : decode cX0_isOneTrueOf 57 = .ok (.iconst 0, 1) := o_3 BX0_isOneTrueOf rfl rfl
theorem dX0_isOneTrueOf_58 : decode cX0_isOneTrueOf 58 = .ok (.ireturn, 1) := o_172 BX0_isOneTrueOf rfl rfl
theorem dX0_isOneTrueOf_59 : decode cX0_isOneTrueOf 59 = .ok (.aload_n 1, 1) := o_43 BX0_isOneTrueOf rfl rfl
theorem dX0_isOneTrueOf_60 : decode cX0_isOneTrueOf 60 = .ok (.getfield 45, 3) := o_180 BX0_isOneTrueOf rfl rfl rfl
theorem dX0_isOneTrueOf_63 : decode cX0_isOneTrueOf 63 = .ok (.iload_n 2, 1) := o_28 BX0_isOneTrueOf rfl rfl
theorem dX0_isOneTrueOf_64 : decode cX0_isOneTrueOf 64 = .ok (.iaload, 1) := o_46 BX0_isOneTrueOf rfl rfl
theorem dX0_isOneTrueOf_65 : decode cX0_isOneTrueOf 65 = .ok (.aload_n 0, 1) := o_42 BX0_isOneTrueOf rfl rfl
theorem dX0_isOneTrueOf_66 : decode cX0_isOneTrueOf 66 = .ok (.getfield 15, 3) := o_180 BX0_isOneTrueOf rfl rfl rfl
theorem dX0_isOneTrueOf_69 : decode cX0_isOneTrueOf 69 = .ok (.iload_n 3, 1) := o_29 BX0_isOneTrueOf rfl rfl
theorem dX0_isOneTrueOf_70 : decode cX0_isOneTrueOf 70 = .ok (.iaload, 1) := o_46 BX0_isOneTrueOf rfl rfl
theorem dX0_isOneTrueOf_71 : decode cX0_isOneTrueOf 71 = .ok (.if_icmp .ne 7, 3) := o_160 BX0_isOneTrueOf rfl rfl rfl
theorem dX0_isOneTrueOf_74 : decode cX0_isOneTrueOf 74 = .ok (.iconst 1, 1) := o_4 BX0_isOneTrueOf rfl rfl
theorem dX0_isOneTrueOf_75 : decode cX0_isOneTrueOf 75 = .ok (.goto 4, 3) := o_167 BX0_isOneTrueOf rfl rfl rfl
theorem dX0_isOneTrueOf_78 : decode cX0_isOneTrueOf 78 = .ok (.iconst 0, 1) := o_3 BX0_isOneTrueOf rfl rfl
theorem dX0_isOneTrueOf_79 : decode cX0_isOneTrueOf 79 = .ok (.ireturn, 1) := o_172 BX0_isOneTrueOf rfl rfl
theorem dX0_isOneTrueOf_80 : decode cX0_isOneTrueOf 80 = .ok (.aload_n 1, 1) := o_43 BX0_isOneTrueOf rfl rfl
theorem dX0_isOneTrueOf_81 : decode cX0_isOneTrueOf 81 = .ok (.aload_n 1, 1) := o_43 BX0_isOneTrueOf rfl rfl
theorem dX0_isOneTrueOf_82 : decode cX0_isOneTrueOf 82 = .ok (.getfield 48, 3) := o_180 BX0_isOneTrueOf rfl rfl rfl
theorem dX0_isOneTrueOf_85 : decode cX0_isOneTrueOf 85 = .ok (.iload_n 2, 1) := o_28 BX0_isOneTrueOf rfl rfl
theorem dX0_isOneTrueOf_86 : decode cX0_isOneTrueOf 86 = .ok (.invokevirtual 35, 3) := o_182 BX0_isOneTrueOf rfl rfl rfl
theorem dX0_isOneTrueOf_89 : decode cX0_isOneTrueOf 89 = .ok (.invokestatic 39, 3) := o_184 BX0_isOneTrueOf rfl rfl rfl
theorem dX0_isOneTrueOf_92 : decode cX0_isOneTrueOf 92 = .ok (.aload_n 0, 1) := o_42 BX0_isOneTrueOf rfl rfl
theorem dX0_isOneTrueOf_93 : decode cX0_isOneTrueOf 93 = .ok (.getfield 15, 3) := o_180 BX0_isOneTrueOf rfl rfl rfl
theorem dX0_isOneTrueOf_96 : decode cX0_isOneTrueOf 96 = .ok (.iload_n 3, 1) := o_29 BX0_isOneTrueOf rfl rfl
theorem dX0_isOneTrueOf_97 : decode cX0_isOneTrueOf 97 = .ok (.iaload, 1) := o_46 BX0_isOneTrueOf rfl rfl
theorem dX0_isOneTrueOf_98 : decode cX0_isOneTrueOf 98 = .ok (.if_icmp .lt 7, 3) := o_161 BX0_isOneTrueOf rfl rfl rfl
theorem dX0_isOneTrueOf_101 : decode cX0_isOneTrueOf 101 = .ok (.iconst 1, 1) := o_4 BX0_isOneTrueOf rfl rfl
theorem dX0_isOneTrueOf_102 : decode cX0_isOneTrueOf 102 = .ok (.goto 4, 3) := o_167 BX0_isOneTrueOf rfl rfl rfl
theorem dX0_isOneTrueOf_105 : decode cX0_isOneTrueOf 105 = .ok (.iconst 0, 1) := o_3 BX0_isOneTrueOf rfl rfl
theorem dX0_isOneTrueOf_106 : decode cX0_isOneTrueOf 106 = .ok (.ireturn, 1) := o_172 BX0_isOneTrueOf rfl rfl
theorem dX0_isOneTrueOf_107 : decode cX0_isOneTrueOf 107 = .ok (.iload_n 2, 1) := o_28 BX0_isOneTrueOf rfl rfl
theorem dX0_isOneTrueOf_108 : decode cX0_isOneTrueOf 108 = .ok (.iconst 2, 1) := o_5 BX0_isOneTrueOf rfl rfl
theorem dX0_isOneTrueOf_109 : decode cX0_isOneTrueOf 109 = .ok (.irem, 1) := o_112 BX0_isOneTrueOf rfl rfl
theorem dX0_isOneTrueOf_110 : decode cX0_isOneTrueOf 110 = .ok (.aload_n 0, 1) := o_42 BX0_isOneTrueOf rfl rfl
theorem dX0_isOneTrueOf_111 : decode cX0_isOneTrueOf 111 = .ok (.getfield 15, 3) := o_180 BX0_isOneTrueOf rfl rfl rfl
theorem dX0_isOneTrueOf_114 : decode cX0_isOneTrueOf 114 = .ok (.iload_n 3, 1) := o_29 BX0_isOneTrueOf rfl rfl
theorem dX0_isOneTrueOf_115 : decode cX0_isOneTrueOf 115 = .ok (.iaload, 1) := o_46 BX0_isOneTrueOf rfl rfl
theorem dX0_isOneTrueOf_116 : decode cX0_isOneTrueOf 116 = .ok (.if_icmp .ne 7, 3) := o_160 BX0_isOneTrueOf rfl rfl rfl
theorem dX0_isOneTrueOf_119 : decode cX0_isOneTrueOf 119 = .ok (.iconst 1, 1) := o_4 BX0_isOneTrueOf rfl rfl
theorem dX0_isOneTrueOf_120 : decode cX0_isOneTrueOf 120 = .ok (.goto 4, 3) := o_167 BX0_isOneTrueOf rfl rfl rfl
theorem dX0_isOneTrueOf_123 : decode cX0_isOneTrueOf 123 = .ok (.iconst 0, 1) := o_3 BX0_isOneTrueOf rfl rfl
theorem dX0_isOneTrueOf_124 : decode cX0_isOneTrueOf 124 = .ok (.ireturn, 1) := o_172 BX0_isOneTrueOf rfl rfl
theorem dX1_init_0 : decode cX1_init 0 = .ok (.aload_n 0, 1) := o_42 BX1_init rfl rfl
theorem dX1_init_1 : decode cX1_init 1 = .ok (.invokespecial 3, 3) := o_183 BX1_init rfl rfl rfl
theorem dX1_init_4 : decode cX1_init 4 = .ok (.aload_n 0, 1) := o_42 BX1_init rfl rfl
theorem dX1_init_5 : decode cX1_init 5 = .ok (.bipush 15, 2) := o_16 BX1_init rfl rfl rfl
theorem dX1_init_7 : decode cX1_init 7 = .ok (.anewarray 9, 3) := o_189 BX1_init rfl rfl rfl
theorem dX1_init_10 : decode cX1_init 10 = .ok (.putfield 11, 3) := o_181 BX1_init rfl rfl rfl
theorem dX1_init_13 : decode cX1_init 13 = .ok (.aload_n 0, 1) := o_42 BX1_init rfl rfl
theorem dX1_init_14 : decode cX1_init 14 = .ok (.iconst 0, 1) := o_3 BX1_init rfl rfl
theorem dX1_init_15 : decode cX1_init 15 = .ok (.putfield 17, 3) := o_181 BX1_init rfl rfl rfl
theorem dX1_init_18 : decode cX1_init 18 = .ok (.aload_n 0, 1) := o_42 BX1_init rfl rfl
theorem dX1_init_19 : decode cX1_init 19 = .ok (.iconst 0, 1) := o_3 BX1_init rfl rfl
theorem dX1_init_20 : decode cX1_init 20 = .ok (.putfield 21, 3) := o_181 BX1_init rfl rfl rfl
theorem dX1_init_23 : decode cX1_init 23 = .ok (.iconst 0, 1) := o_3 BX1_init rfl rfl
theorem dX1_init_24 : decode cX1_init 24 = .ok (.istore_n 1, 1) := o_60 BX1_init rfl rfl
theorem dX1_init_25 : decode cX1_init 25 = .ok (.iload_n 1, 1) := o_27 BX1_init rfl rfl
theorem dX1_init_26 : decode cX1_init 26 = .ok (.bipush 15, 2) := o_16 BX1_init rfl rfl rfl
theorem dX1_init_28 : decode cX1_init 28 = .ok (.if_icmp .ge 22, 3) := o_162 BX1_init rfl rfl rfl
theorem dX1_init_31 : decode cX1_init 31 = .ok (.aload_n 0, 1) := o_42 BX1_init rfl rfl
theorem dX1_init_32 : decode cX1_init 32 = .ok (.getfield 11, 3) := o_180 BX1_init rfl rfl rfl
theorem dX1_init_35 : decode cX1_init 35 = .ok (.iload_n 1, 1) := o_27 BX1_init rfl rfl
theorem dX1_init_36 : decode cX1_init 36 = .ok (.new 9, 3) := o_187 BX1_init rfl rfl rfl
theorem dX1_init_39 : decode cX1_init 39 = .ok (.dup, 1) := o_89 BX1_init rfl rfl
theorem dX1_init_40 : decode cX1_init 40 = .ok (.invokespecial 24, 3) := o_183 BX1_init rfl rfl rfl
theorem dX1_init_43 : decode cX1_init 43 = .ok (.aastore, 1) := o_83 BX1_init rfl rfl
theorem dX1_init_44 : decode cX1_init 44 = .ok (.iinc 1 1, 3) := o_132 BX1_init rfl rfl rfl rfl
theorem dX1_init_47 : decode cX1_init 47 = .ok (.goto (-22), 3) := o_167 BX1_init rfl rfl rfl
theorem dX1_init_50 : decode cX1_init 50 = .ok (.return_, 1) := o_177 BX1_init rfl rfl
theorem dX1_clear_0 : decode cX1_clear 0 = .ok (.aload_n 0, 1) := o_42 BX1_clear rfl rfl
theorem dX1_clear_1 : decode cX1_clear 1 = .ok (.iconst 0, 1) := o_3 BX1_clear rfl rfl
theorem dX1_clear_2 : decode cX1_clear 2 = .ok (.putfield 21, 3) := o_181 BX1_clear rfl rfl rfl
theorem dX1_clear_5 : decode cX1_clear 5 = .ok (.return_, 1) := o_177 BX1_clear rfl rfl
theorem dX1_add_0 : decode cX1_add 0 = .ok (.aload_n 0, 1) := o_42 BX1_add rfl rfl
theorem dX1_add_1 : decode cX1_add 1 = .ok (.getfield 11, 3) := o_180 BX1_add rfl rfl rfl
theorem dX1_add_4 : decode cX1_add 4 = .ok (.aload_n 0, 1) := o_42 BX1_add rfl rfl
theorem dX1_add_5 : decode cX1_add 5 = .ok (.getfield 17, 3) := o_180 BX1_add rfl rfl rfl
theorem dX1_add_8 : decode cX1_add 8 = .ok (.aload_n 0, 1) := o_42 BX1_add rfl rfl
theorem dX1_add_9 : decode cX1_add 9 = .ok (.getfield 21, 3) := o_180 BX1_add rfl rfl rfl
theorem dX1_add_12 : decode cX1_add 12 = .ok (.iadd, 1) := o_96 BX1_add rfl rfl
theorem dX1_add_13 : decode cX1_add 13 = .ok (.bipush 15, 2) := o_16 BX1_add rfl rfl rfl
theorem dX1_add_15 : decode cX1_add 15 = .ok (.irem, 1) := o_112 BX1_add rfl rfl
theorem dX1_add_16 : decode cX1_add 16 = .ok (.aaload, 1) := o_50 BX1_add rfl rfl
theorem dX1_add_17 : decode cX1_add 17 = .ok (.aload_n 1, 1) := o_43 BX1_add rfl rfl
theorem dX1_add_18 : decode cX1_add 18 = .ok (.invokevirtual 25, 3) := o_182 BX1_add rfl rfl rfl
theorem dX1_add_21 : decode cX1_add 21 = .ok (.aload_n 0, 1) := o_42 BX1_add rfl rfl
theorem dX1_add_22 : decode cX1_add 22 = .ok (.getfield 21, 3) := o_180 BX1_add rfl rfl rfl
theorem dX1_add_25 : decode cX1_add 25 = .ok (.bipush 15, 2) := o_16 BX1_add rfl rfl rfl
theorem dX1_add_27 : decode cX1_add 27 = .ok (.if_icmp .ge 16, 3) := o_162 BX1_add rfl rfl rfl
theorem dX1_add_30 : decode cX1_add 30 = .ok (.aload_n 0, 1) := o_42 BX1_add rfl rfl
theorem dX1_add_31 : decode cX1_add 31 = .ok (.dup, 1) := o_89 BX1_add rfl rfl
theorem dX1_add_32 : decode cX1_add 32 = .ok (.getfield 21, 3) := o_180 BX1_add rfl rfl rfl
theorem dX1_add_35 : decode cX1_add 35 = .ok (.iconst 1, 1) := o_4 BX1_add rfl rfl
theorem dX1_add_36 : decode cX1_add 36 = .ok (.iadd, 1) := o_96 BX1_add rfl rfl
theorem dX1_add_37 : decode cX1_add 37 = .ok (.putfield 21, 3) := o_181 BX1_add rfl rfl rfl
theorem dX1_add_40 : decode cX1_add 40 = .ok (.goto 16, 3) := o_167 BX1_add rfl rfl rfl
theorem dX1_add_43 : decode cX1_add 43 = .ok (.aload_n 0, 1) := o_42 BX1_add rfl rfl
theorem dX1_add_44 : decode cX1_add 44 = .ok (.aload_n 0, 1) := o_42 BX1_add rfl rfl
theorem dX1_add_45 : decode cX1_add 45 = .ok (.getfield 17, 3) := o_180 BX1_add rfl rfl rfl
theorem dX1_add_48 : decode cX1_add 48 = .ok (.iconst 1, 1) := o_4 BX1_add rfl rfl
theorem dX1_add_49 : decode cX1_add 49 = .ok (.iadd, 1) := o_96 BX1_add rfl rfl
theorem dX1_add_50 : decode cX1_add 50 = .ok (.bipush 15, 2) := o_16 BX1_add rfl rfl rfl
theorem dX1_add_52 : decode cX1_add 52 = .ok (.irem, 1) := o_112 BX1_add rfl rfl
theorem dX1_add_53 : decode cX1_add 53 = .ok (.putfield 17, 3) := o_181 BX1_add rfl rfl rfl
theorem dX1_add_56 : decode cX1_add 56 = .ok (.return_, 1) := o_177 BX1_add rfl rfl
theorem dX1_takeBack_0 : decode cX1_takeBack 0 = .ok (.aload_n 0, 1) := o_42 BX1_takeBack rfl rfl
theorem dX1_takeBack_1 : decode cX1_takeBack 1 = .ok (.getfield 21, 3) := o_180 BX1_takeBack rfl rfl rfl
theorem dX1_takeBack_4 : decode cX1_takeBack 4 = .ok (.ifCond .ne 5, 3) := o_154 BX1_takeBack rfl rfl rfl
theorem dX1_takeBack_7 : decode cX1_takeBack 7 = .ok (.iconst 0, 1) := o_3 BX1_takeBack rfl rfl
theorem dX1_takeBack_8 : decode cX1_takeBack 8 = .ok (.ireturn, 1) := o_172 BX1_takeBack rfl rfl
theorem dX1_takeBack_9 : decode cX1_takeBack 9 = .ok (.aload_n 0, 1) := o_42 BX1_takeBack rfl rfl
theorem dX1_takeBack_10 : decode cX1_takeBack 10 = .ok (.dup, 1) := o_89 BX1_takeBack rfl rfl
theorem dX1_takeBack_11 : decode cX1_takeBack 11 = .ok (.getfield 21, 3) := o_180 BX1_takeBack rfl rfl rfl
theorem dX1_takeBack_14 : decode cX1_takeBack 14 = .ok (.iconst 1, 1) := o_4 BX1_takeBack rfl rfl
theorem dX1_takeBack_15 : decode cX1_takeBack 15 = .ok (.isub, 1) := o_100 BX1_takeBack rfl rfl
theorem dX1_takeBack_16 : decode cX1_takeBack 16 = .ok (.putfield 21, 3) := o_181 BX1_takeBack rfl rfl rfl
theorem dX1_takeBack_19 : decode cX1_takeBack 19 = .ok (.aload_n 1, 1) := o_43 BX1_takeBack rfl rfl
theorem dX1_takeBack_20 : decode cX1_takeBack 20 = .ok (.aload_n 0, 1) := o_42 BX1_takeBack rfl rfl
theorem dX1_takeBack_21 : decode cX1_takeBack 21 = .ok (.getfield 11, 3) := o_180 BX1_takeBack rfl rfl rfl
theorem dX1_takeBack_24 : decode cX1_takeBack 24 = .ok (.aload_n 0, 1) := o_42 BX1_takeBack rfl rfl
theorem dX1_takeBack_25 : decode cX1_takeBack 25 = .ok (.getfield 17, 3) := o_180 BX1_takeBack rfl rfl rfl
theorem dX1_takeBack_28 : decode cX1_takeBack 28 = .ok (.aload_n 0, 1) := o_42 BX1_takeBack rfl rfl
theorem dX1_takeBack_29 : decode cX1_takeBack 29 = .ok (.getfield 21, 3) := o_180 BX1_takeBack rfl rfl rfl
theorem dX1_takeBack_32 : decode cX1_takeBack 32 = .ok (.iadd, 1) := o_96 BX1_takeBack rfl rfl
theorem dX1_takeBack_33 : decode cX1_takeBack 33 = .ok (.bipush 15, 2) := o_16 BX1_takeBack rfl rfl rfl
theorem dX1_takeBack_35 : decode cX1_takeBack 35 = .ok (.irem, 1) := o_112 BX1_takeBack rfl rfl
theorem dX1_takeBack_36 : decode cX1_takeBack 36 = .ok (.aaload, 1) := o_50 BX1_takeBack rfl rfl
theorem dX1_takeBack_37 : decode cX1_takeBack 37 = .ok (.invokevirtual 25, 3) := o_182 BX1_takeBack rfl rfl rfl
theorem dX1_takeBack_40 : decode cX1_takeBack 40 = .ok (.iconst 1, 1) := o_4 BX1_takeBack rfl rfl
theorem dX1_takeBack_41 : decode cX1_takeBack 41 = .ok (.ireturn, 1) := o_172 BX1_takeBack rfl rfl
theorem dX2_init_0 : decode cX2_init 0 = .ok (.aload_n 0, 1) := o_42 BX2_init rfl rfl
theorem dX2_init_1 : decode cX2_init 1 = .ok (.invokespecial 3, 3) := o_183 BX2_init rfl rfl rfl
theorem dX2_init_4 : decode cX2_init 4 = .ok (.aload_n 0, 1) := o_42 BX2_init rfl rfl
theorem dX2_init_5 : decode cX2_init 5 = .ok (.bipush 40, 2) := o_16 BX2_init rfl rfl rfl
theorem dX2_init_7 : decode cX2_init 7 = .ok (.newarray .int, 2) := o_188_10 BX2_init rfl rfl rfl
theorem dX2_init_9 : decode cX2_init 9 = .ok (.putfield 9, 3) := o_181 BX2_init rfl rfl rfl
theorem dX2_init_12 : decode cX2_init 12 = .ok (.aload_n 0, 1) := o_42 BX2_init rfl rfl
theorem dX2_init_13 : decode cX2_init 13 = .ok (.bipush 40, 2) := o_16 BX2_init rfl rfl rfl
theorem dX2_init_15 : decode cX2_init 15 = .ok (.newarray .int, 2) := o_188_10 BX2_init rfl rfl rfl
theorem dX2_init_17 : decode cX2_init 17 = .ok (.putfield 15, 3) := o_181 BX2_init rfl rfl rfl
theorem dX2_init_20 : decode cX2_init 20 = .ok (.aload_n 0, 1) := o_42 BX2_init rfl rfl
theorem dX2_init_21 : decode cX2_init 21 = .ok (.bipush 40, 2) := o_16 BX2_init rfl rfl rfl
theorem dX2_init_23 : decode cX2_init 23 = .ok (.newarray .int, 2) := o_188_10 BX2_init rfl rfl rfl
theorem dX2_init_25 : decode cX2_init 25 = .ok (.putfield 18, 3) := o_181 BX2_init rfl rfl rfl
theorem dX2_init_28 : decode cX2_init 28 = .ok (.aload_n 0, 1) := o_42 BX2_init rfl rfl
theorem dX2_init_29 : decode cX2_init 29 = .ok (.bipush 7, 2) := o_16 BX2_init rfl rfl rfl
theorem dX2_init_31 : decode cX2_init 31 = .ok (.newarray .int, 2) := o_188_10 BX2_init rfl rfl rfl
theorem dX2_init_33 : decode cX2_init 33 = .ok (.putfield 21, 3) := o_181 BX2_init rfl rfl rfl
theorem dX2_init_36 : decode cX2_init 36 = .ok (.aload_n 0, 1) := o_42 BX2_init rfl rfl
theorem dX2_init_37 : decode cX2_init 37 = .ok (.iconst 0, 1) := o_3 BX2_init rfl rfl
theorem dX2_init_38 : decode cX2_init 38 = .ok (.putfield 24, 3) := o_181 BX2_init rfl rfl rfl
theorem dX2_init_41 : decode cX2_init 41 = .ok (.aload_n 0, 1) := o_42 BX2_init rfl rfl
theorem dX2_init_42 : decode cX2_init 42 = .ok (.iconst 0, 1) := o_3 BX2_init rfl rfl
theorem dX2_init_43 : decode cX2_init 43 = .ok (.putfield 28, 3) := o_181 BX2_init rfl rfl rfl
theorem dX2_init_46 : decode cX2_init 46 = .ok (.return_, 1) := o_177 BX2_init rfl rfl
theorem dX2_becomePlain_0 : decode cX2_becomePlain 0 = .ok (.aload_n 0, 1) := o_42 BX2_becomePlain rfl rfl
theorem dX2_becomePlain_1 : decode cX2_becomePlain 1 = .ok (.invokevirtual 31, 3) := o_182 BX2_becomePlain rfl rfl rfl
theorem dX2_becomePlain_4 : decode cX2_becomePlain 4 = .ok (.aload_n 0, 1) := o_42 BX2_becomePlain rfl rfl
theorem dX2_becomePlain_5 : decode cX2_becomePlain 5 = .ok (.sipush 300, 3) := o_17 BX2_becomePlain rfl rfl rfl
theorem dX2_becomePlain_8 : decode cX2_becomePlain 8 = .ok (.iconst 1, 1) := o_4 BX2_becomePlain rfl rfl
theorem dX2_becomePlain_9 : decode cX2_becomePlain 9 = .ok (.invokevirtual 34, 3) := o_182 BX2_becomePlain rfl rfl rfl
theorem dX2_becomePlain_12 : decode cX2_becomePlain 12 = .ok (.aload_n 0, 1) := o_42 BX2_becomePlain rfl rfl
theorem dX2_becomePlain_13 : decode cX2_becomePlain 13 = .ok (.iconst 1, 1) := o_4 BX2_becomePlain rfl rfl
theorem dX2_becomePlain_14 : decode cX2_becomePlain 14 = .ok (.invokevirtual 38, 3) := o_182 BX2_becomePlain rfl rfl rfl
theorem dX2_becomePlain_17 : decode cX2_becomePlain 17 = .ok (.aload_n 0, 1) := o_42 BX2_becomePlain rfl rfl
theorem dX2_becomePlain_18 : decode cX2_becomePlain 18 = .ok (.sipush 300, 3) := o_17 BX2_becomePlain rfl rfl rfl
theorem dX2_becomePlain_21 : decode cX2_becomePlain 21 = .ok (.iconst 2, 1) := o_5 BX2_becomePlain rfl rfl
theorem dX2_becomePlain_22 : decode cX2_becomePlain 22 = .ok (.invokevirtual 34, 3) := o_182 BX2_becomePlain rfl rfl rfl
theorem dX2_becomePlain_25 : decode cX2_becomePlain 25 = .ok (.aload_n 0, 1) := o_42 BX2_becomePlain rfl rfl
theorem dX2_becomePlain_26 : decode cX2_becomePlain 26 = .ok (.bipush 62, 2) := o_16 BX2_becomePlain rfl rfl rfl
theorem dX2_becomePlain_28 : decode cX2_becomePlain 28 = .ok (.iconst 0, 1) := o_3 BX2_becomePlain rfl rfl
theorem dX2_becomePlain_29 : decode cX2_becomePlain 29 = .ok (.invokevirtual 34, 3) := o_182 BX2_becomePlain rfl rfl rfl
theorem dX2_becomePlain_32 : decode cX2_becomePlain 32 = .ok (.aload_n 0, 1) := o_42 BX2_becomePlain rfl rfl
theorem dX2_becomePlain_33 : decode cX2_becomePlain 33 = .ok (.bipush 43, 2) := o_16 BX2_becomePlain rfl rfl rfl
theorem dX2_becomePlain_35 : decode cX2_becomePlain 35 = .ok (.iconst 0, 1) := o_3 BX2_becomePlain rfl rfl
theorem dX2_becomePlain_36 : decode cX2_becomePlain 36 = .ok (.invokevirtual 34, 3) := o_182 BX2_becomePlain rfl rfl rfl
theorem dX2_becomePlain_39 : decode cX2_becomePlain 39 = .ok (.return_, 1) := o_177 BX2_becomePlain rfl rfl
theorem dX2_clear_0 : decode cX2_clear 0 = .ok (.aload_n 0, 1) := o_42 BX2_clear rfl rfl
theorem dX2_clear_1 : decode cX2_clear 1 = .ok (.iconst 0, 1) := o_3 BX2_clear rfl rfl
theorem dX2_clear_2 : decode cX2_clear 2 = .ok (.putfield 24, 3) := o_181 BX2_clear rfl rfl rfl
theorem dX2_clear_5 : decode cX2_clear 5 = .ok (.aload_n 0, 1) := o_42 BX2_clear rfl rfl
theorem dX2_clear_6 : decode cX2_clear 6 = .ok (.iconst 0, 1) := o_3 BX2_clear rfl rfl
theorem dX2_clear_7 : decode cX2_clear 7 = .ok (.putfield 28, 3) := o_181 BX2_clear rfl rfl rfl
theorem dX2_clear_10 : decode cX2_clear 10 = .ok (.return_, 1) := o_177 BX2_clear rfl rfl
theorem dX2_add_0 : decode cX2_add 0 = .ok (.aload_n 0, 1) := o_42 BX2_add rfl rfl
theorem dX2_add_1 : decode cX2_add 1 = .ok (.getfield 24, 3) := o_180 BX2_add rfl rfl rfl
theorem dX2_add_4 : decode cX2_add 4 = .ok (.bipush 40, 2) := o_16 BX2_add rfl rfl rfl
theorem dX2_add_6 : decode cX2_add 6 = .ok (.if_icmp .ge 33, 3) := o_162 BX2_add rfl rfl rfl
theorem dX2_add_9 : decode cX2_add 9 = .ok (.aload_n 0, 1) := o_42 BX2_add rfl rfl
theorem dX2_add_10 : decode cX2_add 10 = .ok (.getfield 9, 3) := o_180 BX2_add rfl rfl rfl
theorem dX2_add_13 : decode cX2_add 13 = .ok (.aload_n 0, 1) := o_42 BX2_add rfl rfl
theorem dX2_add_14 : decode cX2_add 14 = .ok (.getfield 24, 3) := o_180 BX2_add rfl rfl rfl
theorem dX2_add_17 : decode cX2_add 17 = .ok (.iload_n 1, 1) := o_27 BX2_add rfl rfl
theorem dX2_add_18 : decode cX2_add 18 = .ok (.iastore, 1) := o_79 BX2_add rfl rfl
theorem dX2_add_19 : decode cX2_add 19 = .ok (.aload_n 0, 1) := o_42 BX2_add rfl rfl
theorem dX2_add_20 : decode cX2_add 20 = .ok (.getfield 15, 3) := o_180 BX2_add rfl rfl rfl
theorem dX2_add_23 : decode cX2_add 23 = .ok (.aload_n 0, 1) := o_42 BX2_add rfl rfl
theorem dX2_add_24 : decode cX2_add 24 = .ok (.getfield 24, 3) := o_180 BX2_add rfl rfl rfl
theorem dX2_add_27 : decode cX2_add 27 = .ok (.iload_n 2, 1) := o_28 BX2_add rfl rfl
theorem dX2_add_28 : decode cX2_add 28 = .ok (.iastore, 1) := o_79 BX2_add rfl rfl
theorem dX2_add_29 : decode cX2_add 29 = .ok (.aload_n 0, 1) := o_42 BX2_add rfl rfl
theorem dX2_add_30 : decode cX2_add 30 = .ok (.dup, 1) := o_89 BX2_add rfl rfl
theorem dX2_add_31 : decode cX2_add 31 = .ok (.getfield 24, 3) := o_180 BX2_add rfl rfl rfl
theorem dX2_add_34 : decode cX2_add 34 = .ok (.iconst 1, 1) := o_4 BX2_add rfl rfl
theorem dX2_add_35 : decode cX2_add 35 = .ok (.iadd, 1) := o_96 BX2_add rfl rfl
theorem dX2_add_36 : decode cX2_add 36 = .ok (.putfield 24, 3) := o_181 BX2_add rfl rfl rfl
theorem dX2_add_39 : decode cX2_add 39 = .ok (.return_, 1) := o_177 BX2_add rfl rfl
theorem dX2_addLetter_0 : decode cX2_addLetter 0 = .ok (.aload_n 0, 1) := o_42 BX2_addLetter rfl rfl
theorem dX2_addLetter_1 : decode cX2_addLetter 1 = .ok (.sipush 301, 3) := o_17 BX2_addLetter rfl rfl rfl
theorem dX2_addLetter_4 : decode cX2_addLetter 4 = .ok (.iload_n 1, 1) := o_27 BX2_addLetter rfl rfl
theorem dX2_addLetter_5 : decode cX2_addLetter 5 = .ok (.invokevirtual 34, 3) := o_182 BX2_addLetter rfl rfl rfl
theorem dX2_addLetter_8 : decode cX2_addLetter 8 = .ok (.aload_n 0, 1) := o_42 BX2_addLetter rfl rfl
theorem dX2_addLetter_9 : decode cX2_addLetter 9 = .ok (.dup, 1) := o_89 BX2_addLetter rfl rfl
theorem dX2_addLetter_10 : decode cX2_addLetter 10 = .ok (.getfield 28, 3) := o_180 BX2_addLetter rfl rfl rfl
theorem dX2_addLetter_13 : decode cX2_addLetter 13 = .ok (.iconst 1, 1) := o_4 BX2_addLetter rfl rfl
theorem dX2_addLetter_14 : decode cX2_addLetter 14 = .ok (.iload_n 1, 1) := o_27 BX2_addLetter rfl rfl
theorem dX2_addLetter_15 : decode cX2_addLetter 15 = .ok (.ishl, 1) := o_120 BX2_addLetter rfl rfl
theorem dX2_addLetter_16 : decode cX2_addLetter 16 = .ok (.ior, 1) := o_128 BX2_addLetter rfl rfl
theorem dX2_addLetter_17 : decode cX2_addLetter 17 = .ok (.putfield 28, 3) := o_181 BX2_addLetter rfl rfl rfl
theorem dX2_addLetter_20 : decode cX2_addLetter 20 = .ok (.return_, 1) := o_177 BX2_addLetter rfl rfl
theorem dX2_uses_0 : decode cX2_uses 0 = .ok (.aload_n 0, 1) := o_42 BX2_uses rfl rfl
theorem dX2_uses_1 : decode cX2_uses 1 = .ok (.getfield 28, 3) := o_180 BX2_uses rfl rfl rfl
theorem dX2_uses_4 : decode cX2_uses 4 = .ok (.iload_n 1, 1) := o_27 BX2_uses rfl rfl
theorem dX2_uses_5 : decode cX2_uses 5 = .ok (.ishr, 1) := o_122 BX2_uses rfl rfl
theorem dX2_uses_6 : decode cX2_uses 6 = .ok (.iconst 1, 1) := o_4 BX2_uses rfl rfl
theorem dX2_uses_7 : decode cX2_uses 7 = .ok (.iand, 1) := o_126 BX2_uses rfl rfl
theorem dX2_uses_8 : decode cX2_uses 8 = .ok (.iconst 1, 1) := o_4 BX2_uses rfl rfl
theorem dX2_uses_9 : decode cX2_uses 9 = .ok (.if_icmp .ne 7, 3) := o_160 BX2_uses rfl rfl rfl
theorem dX2_uses_12 : decode cX2_uses 12 = .ok (.iconst 1, 1) := o_4 BX2_uses rfl rfl
theorem dX2_uses_13 : decode cX2_uses 13 = .ok (.goto 4, 3) := o_167 BX2_uses rfl rfl rfl
theorem dX2_uses_16 : decode cX2_uses 16 = .ok (.iconst 0, 1) := o_3 BX2_uses rfl rfl
theorem dX2_uses_17 : decode cX2_uses 17 = .ok (.ireturn, 1) := o_172 BX2_uses rfl rfl
theorem dX2_period_0 : decode cX2_period 0 = .ok (.aload_n 0, 1) := o_42 BX2_period rfl rfl
theorem dX2_period_1 : decode cX2_period 1 = .ok (.iconst 4, 1) := o_7 BX2_period rfl rfl
theorem dX2_period_2 : decode cX2_period 2 = .ok (.invokevirtual 42, 3) := o_182 BX2_period rfl rfl rfl
theorem dX2_period_5 : decode cX2_period 5 = .ok (.ifCond .eq 8, 3) := o_153 BX2_period rfl rfl rfl
theorem dX2_period_8 : decode cX2_period 8 = .ok (.bipush 10, 2) := o_16 BX2_period rfl rfl rfl
theorem dX2_period_10 : decode cX2_period 10 = .ok (.goto 4, 3) := o_167 BX2_period rfl rfl rfl
theorem dX2_period_13 : decode cX2_period 13 = .ok (.iconst 1, 1) := o_4 BX2_period rfl rfl
theorem dX2_period_14 : decode cX2_period 14 = .ok (.aload_n 0, 1) := o_42 BX2_period rfl rfl
theorem dX2_period_15 : decode cX2_period 15 = .ok (.iconst 3, 1) := o_6 BX2_period rfl rfl
theorem dX2_period_16 : decode cX2_period 16 = .ok (.invokevirtual 42, 3) := o_182 BX2_period rfl rfl rfl
theorem dX2_period_19 : decode cX2_period 19 = .ok (.ifCond .eq 10, 3) := o_153 BX2_period rfl rfl rfl
theorem dX2_period_22 : decode cX2_period 22 = .ok (.aload_n 1, 1) := o_43 BX2_period rfl rfl
theorem dX2_period_23 : decode cX2_period 23 = .ok (.getfield 46, 3) := o_180 BX2_period rfl rfl rfl
theorem dX2_period_26 : decode cX2_period 26 = .ok (.goto 4, 3) := o_167 BX2_period rfl rfl rfl
theorem dX2_period_29 : decode cX2_period 29 = .ok (.iconst 1, 1) := o_4 BX2_period rfl rfl
theorem dX2_period_30 : decode cX2_period 30 = .ok (.imul, 1) := o_104 BX2_period rfl rfl
theorem dX2_period_31 : decode cX2_period 31 = .ok (.ireturn, 1) := o_172 BX2_period rfl rfl
theorem dX2_observe_0 : decode cX2_observe 0 = .ok (.aload_n 0, 1) := o_42 BX2_observe rfl rfl
theorem dX2_observe_1 : decode cX2_observe 1 = .ok (.getfield 21, 3) := o_180 BX2_observe rfl rfl rfl
theorem dX2_observe_4 : decode cX2_observe 4 = .ok (.iconst 0, 1) := o_3 BX2_observe rfl rfl
theorem dX2_observe_5 : decode cX2_observe 5 = .ok (.aload_n 1, 1) := o_43 BX2_observe rfl rfl
theorem dX2_observe_6 : decode cX2_observe 6 = .ok (.getfield 51, 3) := o_180 BX2_observe rfl rfl rfl
theorem dX2_observe_9 : decode cX2_observe 9 = .ok (.iload_n 3, 1) := o_29 BX2_observe rfl rfl
theorem dX2_observe_10 : decode cX2_observe 10 = .ok (.iaload, 1) := o_46 BX2_observe rfl rfl
theorem dX2_observe_11 : decode cX2_observe 11 = .ok (.iastore, 1) := o_79 BX2_observe rfl rfl
theorem dX2_observe_12 : decode cX2_observe 12 = .ok (.aload_n 0, 1) := o_42 BX2_observe rfl rfl
theorem dX2_observe_13 : decode cX2_observe 13 = .ok (.getfield 21, 3) := o_180 BX2_observe rfl rfl rfl
theorem dX2_observe_16 : decode cX2_observe 16 = .ok (.iconst 1, 1) := o_4 BX2_observe rfl rfl
theorem dX2_observe_17 : decode cX2_observe 17 = .ok (.aload_n 0, 1) := o_42 BX2_observe rfl rfl
theorem dX2_observe_18 : decode cX2_observe 18 = .ok (.iconst 1, 1) := o_4 BX2_observe rfl rfl
theorem dX2_observe_19 : decode cX2_observe 19 = .ok (.invokevirtual 42, 3) := o_182 BX2_observe rfl rfl rfl
theorem dX2_observe_22 : decode cX2_observe 22 = .ok (.ifCond .eq 15, 3) := o_153 BX2_observe rfl rfl rfl
theorem dX2_observe_25 : decode cX2_observe 25 = .ok (.aload_n 1, 1) := o_43 BX2_observe rfl rfl
theorem dX2_observe_26 : decode cX2_observe 26 = .ok (.iload_n 3, 1) := o_29 BX2_observe rfl rfl
theorem dX2_observe_27 : decode cX2_observe 27 = .ok (.aload_n 2, 1) := o_44 BX2_observe rfl rfl
theorem dX2_observe_28 : decode cX2_observe 28 = .ok (.invokevirtual 56, 3) := o_182 BX2_observe rfl rfl rfl
theorem dX2_observe_31 : decode cX2_observe 31 = .ok (.invokevirtual 60, 3) := o_182 BX2_observe rfl rfl rfl
theorem dX2_observe_34 : decode cX2_observe 34 = .ok (.goto 4, 3) := o_167 BX2_observe rfl rfl rfl
theorem dX2_observe_37 : decode cX2_observe 37 = .ok (.iconst 0, 1) := o_3 BX2_observe rfl rfl
theorem dX2_observe_38 : decode cX2_observe 38 = .ok (.iastore, 1) := o_79 BX2_observe rfl rfl
theorem dX2_observe_39 : decode cX2_observe 39 = .ok (.aload_n 0, 1) := o_42 BX2_observe rfl rfl
theorem dX2_observe_40 : decode cX2_observe 40 = .ok (.getfield 21, 3) := o_180 BX2_observe rfl rfl rfl
theorem dX2_observe_43 : decode cX2_observe 43 = .ok (.iconst 2, 1) := o_5 BX2_observe rfl rfl
theorem dX2_observe_44 : decode cX2_observe 44 = .ok (.aload_n 2, 1) := o_44 BX2_observe rfl rfl
theorem dX2_observe_45 : decode cX2_observe 45 = .ok (.aload_n 1, 1) := o_43 BX2_observe rfl rfl
theorem dX2_observe_46 : decode cX2_observe 46 = .ok (.getfield 51, 3) := o_180 BX2_observe rfl rfl rfl
theorem dX2_observe_49 : decode cX2_observe 49 = .ok (.iload_n 3, 1) := o_29 BX2_observe rfl rfl
theorem dX2_observe_50 : decode cX2_observe 50 = .ok (.iaload, 1) := o_46 BX2_observe rfl rfl
theorem dX2_observe_51 : decode cX2_observe 51 = .ok (.invokevirtual 64, 3) := o_182 BX2_observe rfl rfl rfl
theorem dX2_observe_54 : decode cX2_observe 54 = .ok (.ifCond .eq 7, 3) := o_153 BX2_observe rfl rfl rfl
theorem dX2_observe_57 : decode cX2_observe 57 = .ok (.iconst 1, 1) := o_4 BX2_observe rfl rfl
theorem dX2_observe_58 : decode cX2_observe 58 = .ok (.goto 4, 3) := o_167 BX2_observe rfl rfl rfl
theorem dX2_observe_61 : decode cX2_observe 61 = .ok (.iconst 0, 1) := o_3 BX2_observe rfl rfl
theorem dX2_observe_62 : decode cX2_observe 62 = .ok (.iastore, 1) := o_79 BX2_observe rfl rfl
theorem dX2_observe_63 : decode cX2_observe 63 = .ok (.aload_n 0, 1) := o_42 BX2_observe rfl rfl
theorem dX2_observe_64 : decode cX2_observe 64 = .ok (.getfield 21, 3) := o_180 BX2_observe rfl rfl rfl
theorem dX2_observe_67 : decode cX2_observe 67 = .ok (.iconst 3, 1) := o_6 BX2_observe rfl rfl
theorem dX2_observe_68 : decode cX2_observe 68 = .ok (.aload_n 2, 1) := o_44 BX2_observe rfl rfl
theorem dX2_observe_69 : decode cX2_observe 69 = .ok (.aload_n 1, 1) := o_43 BX2_observe rfl rfl
theorem dX2_observe_70 : decode cX2_observe 70 = .ok (.getfield 67, 3) := o_180 BX2_observe rfl rfl rfl
theorem dX2_observe_73 : decode cX2_observe 73 = .ok (.invokevirtual 70, 3) := o_182 BX2_observe rfl rfl rfl
theorem dX2_observe_76 : decode cX2_observe 76 = .ok (.iastore, 1) := o_79 BX2_observe rfl rfl
theorem dX2_observe_77 : decode cX2_observe 77 = .ok (.aload_n 0, 1) := o_42 BX2_observe rfl rfl
theorem dX2_observe_78 : decode cX2_observe 78 = .ok (.getfield 21, 3) := o_180 BX2_observe rfl rfl rfl
theorem dX2_observe_81 : decode cX2_observe 81 = .ok (.iconst 4, 1) := o_7 BX2_observe rfl rfl
theorem dX2_observe_82 : decode cX2_observe 82 = .ok (.aload_n 1, 1) := o_43 BX2_observe rfl rfl
theorem dX2_observe_83 : decode cX2_observe 83 = .ok (.getfield 67, 3) := o_180 BX2_observe rfl rfl rfl
theorem dX2_observe_86 : decode cX2_observe 86 = .ok (.bipush 10, 2) := o_16 BX2_observe rfl rfl rfl
theorem dX2_observe_88 : decode cX2_observe 88 = .ok (.irem, 1) := o_112 BX2_observe rfl rfl
theorem dX2_observe_89 : decode cX2_observe 89 = .ok (.iastore, 1) := o_79 BX2_observe rfl rfl
theorem dX2_observe_90 : decode cX2_observe 90 = .ok (.aload_n 0, 1) := o_42 BX2_observe rfl rfl
theorem dX2_observe_91 : decode cX2_observe 91 = .ok (.getfield 21, 3) := o_180 BX2_observe rfl rfl rfl
theorem dX2_observe_94 : decode cX2_observe 94 = .ok (.iconst 5, 1) := o_8 BX2_observe rfl rfl
theorem dX2_observe_95 : decode cX2_observe 95 = .ok (.iload_n 3, 1) := o_29 BX2_observe rfl rfl
theorem dX2_observe_96 : decode cX2_observe 96 = .ok (.iastore, 1) := o_79 BX2_observe rfl rfl
theorem dX2_observe_97 : decode cX2_observe 97 = .ok (.aload_n 0, 1) := o_42 BX2_observe rfl rfl
theorem dX2_observe_98 : decode cX2_observe 98 = .ok (.getfield 21, 3) := o_180 BX2_observe rfl rfl rfl
theorem dX2_observe_101 : decode cX2_observe 101 = .ok (.bipush 6, 2) := o_16 BX2_observe rfl rfl rfl
theorem dX2_observe_103 : decode cX2_observe 103 = .ok (.aload_n 0, 1) := o_42 BX2_observe rfl rfl
theorem dX2_observe_104 : decode cX2_observe 104 = .ok (.bipush 6, 2) := o_16 BX2_observe rfl rfl rfl
theorem dX2_observe_106 : decode cX2_observe 106 = .ok (.invokevirtual 42, 3) := o_182 BX2_observe rfl rfl rfl
theorem dX2_observe_109 : decode cX2_observe 109 = .ok (.ifCond .eq 18, 3) := o_153 BX2_observe rfl rfl rfl
theorem dX2_observe_112 : decode cX2_observe 112 = .ok (.aload_n 1, 1) := o_43 BX2_observe rfl rfl
theorem dX2_observe_113 : decode cX2_observe 113 = .ok (.aload_n 1, 1) := o_43 BX2_observe rfl rfl
theorem dX2_observe_114 : decode cX2_observe 114 = .ok (.getfield 74, 3) := o_180 BX2_observe rfl rfl rfl
theorem dX2_observe_117 : decode cX2_observe 117 = .ok (.iload_n 3, 1) := o_29 BX2_observe rfl rfl
theorem dX2_observe_118 : decode cX2_observe 118 = .ok (.invokevirtual 77, 3) := o_182 BX2_observe rfl rfl rfl
theorem dX2_observe_121 : decode cX2_observe 121 = .ok (.invokestatic 81, 3) := o_184 BX2_observe rfl rfl rfl
theorem dX2_observe_124 : decode cX2_observe 124 = .ok (.goto 4, 3) := o_167 BX2_observe rfl rfl rfl
theorem dX2_observe_127 : decode cX2_observe 127 = .ok (.iconst 0, 1) := o_3 BX2_observe rfl rfl
theorem dX2_observe_128 : decode cX2_observe 128 = .ok (.iastore, 1) := o_79 BX2_observe rfl rfl
theorem dX2_observe_129 : decode cX2_observe 129 = .ok (.return_, 1) := o_177 BX2_observe rfl rfl
theorem dX2_pace_0 : decode cX2_pace 0 = .ok (.iconst 0, 1) := o_3 BX2_pace rfl rfl
theorem dX2_pace_1 : decode cX2_pace 1 = .ok (.istore_n 1, 1) := o_60 BX2_pace rfl rfl
theorem dX2_pace_2 : decode cX2_pace 2 = .ok (.iconst 0, 1) := o_3 BX2_pace rfl rfl
theorem dX2_pace_3 : decode cX2_pace 3 = .ok (.istore_n 2, 1) := o_61 BX2_pace rfl rfl
theorem dX2_pace_4 : decode cX2_pace 4 = .ok (.iload_n 2, 1) := o_28 BX2_pace rfl rfl
theorem dX2_pace_5 : decode cX2_pace 5 = .ok (.aload_n 0, 1) := o_42 BX2_pace rfl rfl
theorem dX2_pace_6 : decode cX2_pace 6 = .ok (.getfield 24, 3) := o_180 BX2_pace rfl rfl rfl
theorem dX2_pace_9 : decode cX2_pace 9 = .ok (.if_icmp .ge 136, 3) := o_162 BX2_pace rfl rfl rfl
theorem dX2_pace_12 : decode cX2_pace 12 = .ok (.aload_n 0, 1) := o_42 BX2_pace rfl rfl
theorem dX2_pace_13 : decode cX2_pace 13 = .ok (.getfield 9, 3) := o_180 BX2_pace rfl rfl rfl
theorem dX2_pace_16 : decode cX2_pace 16 = .ok (.iload_n 2, 1) := o_28 BX2_pace rfl rfl
theorem dX2_pace_17 : decode cX2_pace 17 = .ok (.iaload, 1) := o_46 BX2_pace rfl rfl
theorem dX2_pace_18 : decode cX2_pace 18 = .ok (.istore_n 3, 1) := o_62 BX2_pace rfl rfl
theorem dX2_pace_19 : decode cX2_pace 19 = .ok (.iload_n 3, 1) := o_29 BX2_pace rfl rfl
theorem dX2_pace_20 : decode cX2_pace 20 = .ok (.sipush 300, 3) := o_17 BX2_pace rfl rfl rfl
theorem dX2_pace_23 : decode cX2_pace 23 = .ok (.if_icmp .ne 21, 3) := o_160 BX2_pace rfl rfl rfl
theorem dX2_pace_26 : decode cX2_pace 26 = .ok (.aload_n 0, 1) := o_42 BX2_pace rfl rfl
theorem dX2_pace_27 : decode cX2_pace 27 = .ok (.getfield 18, 3) := o_180 BX2_pace rfl rfl rfl
theorem dX2_pace_30 : decode cX2_pace 30 = .ok (.iload_n 1, 1) := o_27 BX2_pace rfl rfl
theorem dX2_pace_31 : decode cX2_pace 31 = .ok (.aload_n 0, 1) := o_42 BX2_pace rfl rfl
theorem dX2_pace_32 : decode cX2_pace 32 = .ok (.getfield 15, 3) := o_180 BX2_pace rfl rfl rfl
theorem dX2_pace_35 : decode cX2_pace 35 = .ok (.iload_n 2, 1) := o_28 BX2_pace rfl rfl
theorem dX2_pace_36 : decode cX2_pace 36 = .ok (.iaload, 1) := o_46 BX2_pace rfl rfl
theorem dX2_pace_37 : decode cX2_pace 37 = .ok (.iastore, 1) := o_79 BX2_pace rfl rfl
theorem dX2_pace_38 : decode cX2_pace 38 = .ok (.iinc 1 1, 3) := o_132 BX2_pace rfl rfl rfl rfl
theorem dX2_pace_41 : decode cX2_pace 41 = .ok (.goto 98, 3) := o_167 BX2_pace rfl rfl rfl
theorem dX2_pace_44 : decode cX2_pace 44 = .ok (.iload_n 3, 1) := o_29 BX2_pace rfl rfl
theorem dX2_pace_45 : decode cX2_pace 45 = .ok (.sipush 301, 3) := o_17 BX2_pace rfl rfl rfl
theorem dX2_pace_48 : decode cX2_pace 48 = .ok (.if_icmp .ne 26, 3) := o_160 BX2_pace rfl rfl rfl
theorem dX2_pace_51 : decode cX2_pace 51 = .ok (.aload_n 0, 1) := o_42 BX2_pace rfl rfl
theorem dX2_pace_52 : decode cX2_pace 52 = .ok (.getfield 18, 3) := o_180 BX2_pace rfl rfl rfl
theorem dX2_pace_55 : decode cX2_pace 55 = .ok (.iload_n 1, 1) := o_27 BX2_pace rfl rfl
theorem dX2_pace_56 : decode cX2_pace 56 = .ok (.aload_n 0, 1) := o_42 BX2_pace rfl rfl
theorem dX2_pace_57 : decode cX2_pace 57 = .ok (.getfield 21, 3) := o_180 BX2_pace rfl rfl rfl
theorem dX2_pace_60 : decode cX2_pace 60 = .ok (.aload_n 0, 1) := o_42 BX2_pace rfl rfl
theorem dX2_pace_61 : decode cX2_pace 61 = .ok (.getfield 15, 3) := o_180 BX2_pace rfl rfl rfl
theorem dX2_pace_64 : decode cX2_pace 64 = .ok (.iload_n 2, 1) := o_28 BX2_pace rfl rfl
theorem dX2_pace_65 : decode cX2_pace 65 = .ok (.iaload, 1) := o_46 BX2_pace rfl rfl
theorem dX2_pace_66 : decode cX2_pace 66 = .ok (.iaload, 1) := o_46 BX2_pace rfl rfl
theorem dX2_pace_67 : decode cX2_pace 67 = .ok (.iastore, 1) := o_79 BX2_pace rfl rfl
theorem dX2_pace_68 : decode cX2_pace 68 = .ok (.iinc 1 1, 3) := o_132 BX2_pace rfl rfl rfl rfl
theorem dX2_pace_71 : decode cX2_pace 71 = .ok (.goto 68, 3) := o_167 BX2_pace rfl rfl rfl
theorem dX2_pace_74 : decode cX2_pace 74 = .ok (.iload_n 3, 1) := o_29 BX2_pace rfl rfl
theorem dX2_pace_75 : decode cX2_pace 75 = .ok (.sipush 302, 3) := o_17 BX2_pace rfl rfl rfl
theorem dX2_pace_78 : decode cX2_pace 78 = .ok (.if_icmp .ne 27, 3) := o_160 BX2_pace rfl rfl rfl
theorem dX2_pace_81 : decode cX2_pace 81 = .ok (.iload_n 1, 1) := o_27 BX2_pace rfl rfl
theorem dX2_pace_82 : decode cX2_pace 82 = .ok (.ifCond .le 23, 3) := o_158 BX2_pace rfl rfl rfl
theorem dX2_pace_85 : decode cX2_pace 85 = .ok (.aload_n 0, 1) := o_42 BX2_pace rfl rfl
theorem dX2_pace_86 : decode cX2_pace 86 = .ok (.getfield 18, 3) := o_180 BX2_pace rfl rfl rfl
theorem dX2_pace_89 : decode cX2_pace 89 = .ok (.iload_n 1, 1) := o_27 BX2_pace rfl rfl
theorem dX2_pace_90 : decode cX2_pace 90 = .ok (.iconst 1, 1) := o_4 BX2_pace rfl rfl
theorem dX2_pace_91 : decode cX2_pace 91 = .ok (.isub, 1) := o_100 BX2_pace rfl rfl
theorem dX2_pace_92 : decode cX2_pace 92 = .ok (.aload_n 0, 1) := o_42 BX2_pace rfl rfl
theorem dX2_pace_93 : decode cX2_pace 93 = .ok (.getfield 18, 3) := o_180 BX2_pace rfl rfl rfl
theorem dX2_pace_96 : decode cX2_pace 96 = .ok (.iload_n 1, 1) := o_27 BX2_pace rfl rfl
theorem dX2_pace_97 : decode cX2_pace 97 = .ok (.iconst 1, 1) := o_4 BX2_pace rfl rfl
theorem dX2_pace_98 : decode cX2_pace 98 = .ok (.isub, 1) := o_100 BX2_pace rfl rfl
theorem dX2_pace_99 : decode cX2_pace 99 = .ok (.iaload, 1) := o_46 BX2_pace rfl rfl
theorem dX2_pace_100 : decode cX2_pace 100 = .ok (.ineg, 1) := o_116 BX2_pace rfl rfl
theorem dX2_pace_101 : decode cX2_pace 101 = .ok (.iastore, 1) := o_79 BX2_pace rfl rfl
theorem dX2_pace_102 : decode cX2_pace 102 = .ok (.goto 37, 3) := o_167 BX2_pace rfl rfl rfl
theorem dX2_pace_105 : decode cX2_pace 105 = .ok (.iload_n 1, 1) := o_27 BX2_pace rfl rfl
theorem dX2_pace_106 : decode cX2_pace 106 = .ok (.iconst 1, 1) := o_4 BX2_pace rfl rfl
theorem dX2_pace_107 : decode cX2_pace 107 = .ok (.if_icmp .le 32, 3) := o_164 BX2_pace rfl rfl rfl
theorem dX2_pace_110 : decode cX2_pace 110 = .ok (.iinc 1 (-1), 3) := o_132 BX2_pace rfl rfl rfl rfl
theorem dX2_pace_113 : decode cX2_pace 113 = .ok (.aload_n 0, 1) := o_42 BX2_pace rfl rfl
theorem dX2_pace_114 : decode cX2_pace 114 = .ok (.getfield 18, 3) := o_180 BX2_pace rfl rfl rfl
theorem dX2_pace_117 : decode cX2_pace 117 = .ok (.iload_n 1, 1) := o_27 BX2_pace rfl rfl
theorem dX2_pace_118 : decode cX2_pace 118 = .ok (.iconst 1, 1) := o_4 BX2_pace rfl rfl
theorem dX2_pace_119 : decode cX2_pace 119 = .ok (.isub, 1) := o_100 BX2_pace rfl rfl
theorem dX2_pace_120 : decode cX2_pace 120 = .ok (.iload_n 3, 1) := o_29 BX2_pace rfl rfl
theorem dX2_pace_121 : decode cX2_pace 121 = .ok (.aload_n 0, 1) := o_42 BX2_pace rfl rfl
theorem dX2_pace_122 : decode cX2_pace 122 = .ok (.getfield 18, 3) := o_180 BX2_pace rfl rfl rfl
theorem dX2_pace_125 : decode cX2_pace 125 = .ok (.iload_n 1, 1) := o_27 BX2_pace rfl rfl
theorem dX2_pace_126 : decode cX2_pace 126 = .ok (.iconst 1, 1) := o_4 BX2_pace rfl rfl
theorem dX2_pace_127 : decode cX2_pace 127 = .ok (.isub, 1) := o_100 BX2_pace rfl rfl
theorem dX2_pace_128 : decode cX2_pace 128 = .ok (.iaload, 1) := o_46 BX2_pace rfl rfl
theorem dX2_pace_129 : decode cX2_pace 129 = .ok (.aload_n 0, 1) := o_42 BX2_pace rfl rfl
theorem dX2_pace_130 : decode cX2_pace 130 = .ok (.getfield 18, 3) := o_180 BX2_pace rfl rfl rfl
theorem dX2_pace_133 : decode cX2_pace 133 = .ok (.iload_n 1, 1) := o_27 BX2_pace rfl rfl
theorem dX2_pace_134 : decode cX2_pace 134 = .ok (.iaload, 1) := o_46 BX2_pace rfl rfl
theorem dX2_pace_135 : decode cX2_pace 135 = .ok (.invokestatic 86, 3) := o_184 BX2_pace rfl rfl rfl
theorem dX2_pace_138 : decode cX2_pace 138 = .ok (.iastore, 1) := o_79 BX2_pace rfl rfl
theorem dX2_pace_139 : decode cX2_pace 139 = .ok (.iinc 2 1, 3) := o_132 BX2_pace rfl rfl rfl rfl
theorem dX2_pace_142 : decode cX2_pace 142 = .ok (.goto (-138), 3) := o_167 BX2_pace rfl rfl rfl
theorem dX2_pace_145 : decode cX2_pace 145 = .ok (.iconst 0, 1) := o_3 BX2_pace rfl rfl
theorem dX2_pace_146 : decode cX2_pace 146 = .ok (.aload_n 0, 1) := o_42 BX2_pace rfl rfl
theorem dX2_pace_147 : decode cX2_pace 147 = .ok (.getfield 18, 3) := o_180 BX2_pace rfl rfl rfl
theorem dX2_pace_150 : decode cX2_pace 150 = .ok (.iconst 0, 1) := o_3 BX2_pace rfl rfl
theorem dX2_pace_151 : decode cX2_pace 151 = .ok (.iaload, 1) := o_46 BX2_pace rfl rfl
theorem dX2_pace_152 : decode cX2_pace 152 = .ok (.iconst 3, 1) := o_6 BX2_pace rfl rfl
theorem dX2_pace_153 : decode cX2_pace 153 = .ok (.invokestatic 90, 3) := o_184 BX2_pace rfl rfl rfl
theorem dX2_pace_156 : decode cX2_pace 156 = .ok (.invokestatic 95, 3) := o_184 BX2_pace rfl rfl rfl
theorem dX2_pace_159 : decode cX2_pace 159 = .ok (.ireturn, 1) := o_172 BX2_pace rfl rfl
theorem dX2_join_0 : decode cX2_join 0 = .ok (.iload_n 0, 1) := o_26 BX2_join rfl rfl
theorem dX2_join_1 : decode cX2_join 1 = .ok (.lookupswitch 105 #[(42, 67), (43, 59), (45, 63), (47, 71), (60, 83), (62, 94)], 59) := by decide +kernel
theorem dX2_join_60 : decode cX2_join 60 = .ok (.iload_n 1, 1) := o_27 BX2_join rfl rfl
theorem dX2_join_61 : decode cX2_join 61 = .ok (.iload_n 2, 1) := o_28 BX2_join rfl rfl
theorem dX2_join_62 : decode cX2_join 62 = .ok (.iadd, 1) := o_96 BX2_join rfl rfl
theorem dX2_join_63 : decode cX2_join 63 = .ok (.ireturn, 1) := o_172 BX2_join rfl rfl
theorem dX2_join_64 : decode cX2_join 64 = .ok (.iload_n 1, 1) := o_27 BX2_join rfl rfl
theorem dX2_join_65 : decode cX2_join 65 = .ok (.iload_n 2, 1) := o_28 BX2_join rfl rfl
theorem dX2_join_66 : decode cX2_join 66 = .ok (.isub, 1) := o_100 BX2_join rfl rfl
theorem dX2_join_67 : decode cX2_join 67 = .ok (.ireturn, 1) := o_172 BX2_join rfl rfl
theorem dX2_join_68 : decode cX2_join 68 = .ok (.iload_n 1, 1) := o_27 BX2_join rfl rfl
theorem dX2_join_69 : decode cX2_join 69 = .ok (.iload_n 2, 1) := o_28 BX2_join rfl rfl
theorem dX2_join_70 : decode cX2_join 70 = .ok (.imul, 1) := o_104 BX2_join rfl rfl
theorem dX2_join_71 : decode cX2_join 71 = .ok (.ireturn, 1) := o_172 BX2_join rfl rfl
theorem dX2_join_72 : decode cX2_join 72 = .ok (.iload_n 2, 1) := o_28 BX2_join rfl rfl
theorem dX2_join_73 : decode cX2_join 73 = .ok (.ifCond .ne 7, 3) := o_154 BX2_join rfl rfl rfl
theorem dX2_join_76 : decode cX2_join 76 = .ok (.iconst 0, 1) := o_3 BX2_join rfl rfl
theorem dX2_join_77 : decode cX2_join 77 = .ok (.goto 6, 3) := o_167 BX2_join rfl rfl rfl
theorem dX2_join_80 : decode cX2_join 80 = .ok (.iload_n 1, 1) := o_27 BX2_join rfl rfl
theorem dX2_join_81 : decode cX2_join 81 = .ok (.iload_n 2, 1) := o_28 BX2_join rfl rfl
theorem dX2_join_82 : decode cX2_join 82 = .ok (.idiv, 1) := o_108 BX2_join rfl rfl
theorem dX2_join_83 : decode cX2_join 83 = .ok (.ireturn, 1) := o_172 BX2_join rfl rfl
theorem dX2_join_84 : decode cX2_join 84 = .ok (.iload_n 1, 1) := o_27 BX2_join rfl rfl
theorem dX2_join_85 : decode cX2_join 85 = .ok (.iload_n 2, 1) := o_28 BX2_join rfl rfl
theorem dX2_join_86 : decode cX2_join 86 = .ok (.if_icmp .ge 7, 3) := o_162 BX2_join rfl rfl rfl
theorem dX2_join_89 : decode cX2_join 89 = .ok (.iconst 1, 1) := o_4 BX2_join rfl rfl
theorem dX2_join_90 : decode cX2_join 90 = .ok (.goto 4, 3) := o_167 BX2_join rfl rfl rfl
theorem dX2_join_93 : decode cX2_join 93 = .ok (.iconst 0, 1) := o_3 BX2_join rfl rfl
theorem dX2_join_94 : decode cX2_join 94 = .ok (.ireturn, 1) := o_172 BX2_join rfl rfl
theorem dX2_join_95 : decode cX2_join 95 = .ok (.iload_n 1, 1) := o_27 BX2_join rfl rfl
theorem dX2_join_96 : decode cX2_join 96 = .ok (.iload_n 2, 1) := o_28 BX2_join rfl rfl
theorem dX2_join_97 : decode cX2_join 97 = .ok (.if_icmp .le 7, 3) := o_164 BX2_join rfl rfl rfl
theorem dX2_join_100 : decode cX2_join 100 = .ok (.iconst 1, 1) := o_4 BX2_join rfl rfl
theorem dX2_join_101 : decode cX2_join 101 = .ok (.goto 4, 3) := o_167 BX2_join rfl rfl rfl
theorem dX2_join_104 : decode cX2_join 104 = .ok (.iconst 0, 1) := o_3 BX2_join rfl rfl
theorem dX2_join_105 : decode cX2_join 105 = .ok (.ireturn, 1) := o_172 BX2_join rfl rfl
theorem dX2_join_106 : decode cX2_join 106 = .ok (.iload_n 1, 1) := o_27 BX2_join rfl rfl
theorem dX2_join_107 : decode cX2_join 107 = .ok (.iload_n 2, 1) := o_28 BX2_join rfl rfl
theorem dX2_join_108 : decode cX2_join 108 = .ok (.if_icmp .ne 7, 3) := o_160 BX2_join rfl rfl rfl
theorem dX2_join_111 : decode cX2_join 111 = .ok (.iconst 1, 1) := o_4 BX2_join rfl rfl
theorem dX2_join_112 : decode cX2_join 112 = .ok (.goto 4, 3) := o_167 BX2_join rfl rfl rfl
theorem dX2_join_115 : decode cX2_join 115 = .ok (.iconst 0, 1) := o_3 BX2_join rfl rfl
theorem dX2_join_116 : decode cX2_join 116 = .ok (.ireturn, 1) := o_172 BX2_join rfl rfl
theorem dX3_init_0 : decode cX3_init 0 = .ok (.aload_n 0, 1) := o_42 BX3_init rfl rfl
theorem dX3_init_1 : decode cX3_init 1 = .ok (.invokespecial 3, 3) := o_183 BX3_init rfl rfl rfl
theorem dX3_init_4 : decode cX3_init 4 = .ok (.aload_n 0, 1) := o_42 BX3_init rfl rfl
theorem dX3_init_5 : decode cX3_init 5 = .ok (.bipush 6, 2) := o_16 BX3_init rfl rfl rfl
theorem dX3_init_7 : decode cX3_init 7 = .ok (.newarray .int, 2) := o_188_10 BX3_init rfl rfl rfl
theorem dX3_init_9 : decode cX3_init 9 = .ok (.putfield 9, 3) := o_181 BX3_init rfl rfl rfl
theorem dX3_init_12 : decode cX3_init 12 = .ok (.aload_n 0, 1) := o_42 BX3_init rfl rfl
theorem dX3_init_13 : decode cX3_init 13 = .ok (.bipush 6, 2) := o_16 BX3_init rfl rfl rfl
theorem dX3_init_15 : decode cX3_init 15 = .ok (.newarray .int, 2) := o_188_10 BX3_init rfl rfl rfl
theorem dX3_init_17 : decode cX3_init 17 = .ok (.putfield 15, 3) := o_181 BX3_init rfl rfl rfl
theorem dX3_init_20 : decode cX3_init 20 = .ok (.aload_n 0, 1) := o_42 BX3_init rfl rfl
theorem dX3_init_21 : decode cX3_init 21 = .ok (.iconst 0, 1) := o_3 BX3_init rfl rfl
theorem dX3_init_22 : decode cX3_init 22 = .ok (.putfield 18, 3) := o_181 BX3_init rfl rfl rfl
theorem dX3_init_25 : decode cX3_init 25 = .ok (.return_, 1) := o_177 BX3_init rfl rfl
theorem dX3_begin_0 : decode cX3_begin 0 = .ok (.aload_n 0, 1) := o_42 BX3_begin rfl rfl
theorem dX3_begin_1 : decode cX3_begin 1 = .ok (.iconst 0, 1) := o_3 BX3_begin rfl rfl
theorem dX3_begin_2 : decode cX3_begin 2 = .ok (.putfield 18, 3) := o_181 BX3_begin rfl rfl rfl
theorem dX3_begin_5 : decode cX3_begin 5 = .ok (.iconst 0, 1) := o_3 BX3_begin rfl rfl
theorem dX3_begin_6 : decode cX3_begin 6 = .ok (.istore_n 3, 1) := o_62 BX3_begin rfl rfl
theorem dX3_begin_7 : decode cX3_begin 7 = .ok (.iload_n 3, 1) := o_29 BX3_begin rfl rfl
theorem dX3_begin_8 : decode cX3_begin 8 = .ok (.aload_n 2, 1) := o_44 BX3_begin rfl rfl
theorem dX3_begin_9 : decode cX3_begin 9 = .ok (.getfield 22, 3) := o_180 BX3_begin rfl rfl rfl
theorem dX3_begin_12 : decode cX3_begin 12 = .ok (.if_icmp .ge 47, 3) := o_162 BX3_begin rfl rfl rfl
theorem dX3_begin_15 : decode cX3_begin 15 = .ok (.aload_n 0, 1) := o_42 BX3_begin rfl rfl
theorem dX3_begin_16 : decode cX3_begin 16 = .ok (.getfield 18, 3) := o_180 BX3_begin rfl rfl rfl
theorem dX3_begin_19 : decode cX3_begin 19 = .ok (.bipush 6, 2) := o_16 BX3_begin rfl rfl rfl
theorem dX3_begin_21 : decode cX3_begin 21 = .ok (.if_icmp .ge 38, 3) := o_162 BX3_begin rfl rfl rfl
theorem dX3_begin_24 : decode cX3_begin 24 = .ok (.aload_n 1, 1) := o_43 BX3_begin rfl rfl
theorem dX3_begin_25 : decode cX3_begin 25 = .ok (.iload_n 3, 1) := o_29 BX3_begin rfl rfl
theorem dX3_begin_26 : decode cX3_begin 26 = .ok (.invokevirtual 26, 3) := o_182 BX3_begin rfl rfl rfl
theorem dX3_begin_29 : decode cX3_begin 29 = .ok (.iconst (-1), 1) := o_2 BX3_begin rfl rfl
theorem dX3_begin_30 : decode cX3_begin 30 = .ok (.if_icmp .eq 23, 3) := o_159 BX3_begin rfl rfl rfl
theorem dX3_begin_33 : decode cX3_begin 33 = .ok (.aload_n 0, 1) := o_42 BX3_begin rfl rfl
theorem dX3_begin_34 : decode cX3_begin 34 = .ok (.getfield 9, 3) := o_180 BX3_begin rfl rfl rfl
theorem dX3_begin_37 : decode cX3_begin 37 = .ok (.aload_n 0, 1) := o_42 BX3_begin rfl rfl
theorem dX3_begin_38 : decode cX3_begin 38 = .ok (.getfield 18, 3) := o_180 BX3_begin rfl rfl rfl
theorem dX3_begin_41 : decode cX3_begin 41 = .ok (.iload_n 3, 1) := o_29 BX3_begin rfl rfl
theorem dX3_begin_42 : decode cX3_begin 42 = .ok (.iastore, 1) := o_79 BX3_begin rfl rfl
theorem dX3_begin_43 : decode cX3_begin 43 = .ok (.aload_n 0, 1) := o_42 BX3_begin rfl rfl
theorem dX3_begin_44 : decode cX3_begin 44 = .ok (.dup, 1) := o_89 BX3_begin rfl rfl
theorem dX3_begin_45 : decode cX3_begin 45 = .ok (.getfield 18, 3) := o_180 BX3_begin rfl rfl rfl
theorem dX3_begin_48 : decode cX3_begin 48 = .ok (.iconst 1, 1) := o_4 BX3_begin rfl rfl
theorem dX3_begin_49 : decode cX3_begin 49 = .ok (.iadd, 1) := o_96 BX3_begin rfl rfl
theorem dX3_begin_50 : decode cX3_begin 50 = .ok (.putfield 18, 3) := o_181 BX3_begin rfl rfl rfl
theorem dX3_begin_53 : decode cX3_begin 53 = .ok (.iinc 3 1, 3) := o_132 BX3_begin rfl rfl rfl rfl
theorem dX3_begin_56 : decode cX3_begin 56 = .ok (.goto (-49), 3) := o_167 BX3_begin rfl rfl rfl
theorem dX3_begin_59 : decode cX3_begin 59 = .ok (.return_, 1) := o_177 BX3_begin rfl rfl
theorem dX3_markBest_0 : decode cX3_markBest 0 = .ok (.aload_n 0, 1) := o_42 BX3_markBest rfl rfl
theorem dX3_markBest_1 : decode cX3_markBest 1 = .ok (.getfield 9, 3) := o_180 BX3_markBest rfl rfl rfl
theorem dX3_markBest_4 : decode cX3_markBest 4 = .ok (.iconst 0, 1) := o_3 BX3_markBest rfl rfl
theorem dX3_markBest_5 : decode cX3_markBest 5 = .ok (.aload_n 0, 1) := o_42 BX3_markBest rfl rfl
theorem dX3_markBest_6 : decode cX3_markBest 6 = .ok (.getfield 15, 3) := o_180 BX3_markBest rfl rfl rfl
theorem dX3_markBest_9 : decode cX3_markBest 9 = .ok (.iconst 0, 1) := o_3 BX3_markBest rfl rfl
theorem dX3_markBest_10 : decode cX3_markBest 10 = .ok (.bipush 6, 2) := o_16 BX3_markBest rfl rfl rfl
theorem dX3_markBest_12 : decode cX3_markBest 12 = .ok (.invokestatic 32, 3) := o_184 BX3_markBest rfl rfl rfl
theorem dX3_markBest_15 : decode cX3_markBest 15 = .ok (.return_, 1) := o_177 BX3_markBest rfl rfl
theorem dX3_toNext_0 : decode cX3_toNext 0 = .ok (.aload_n 0, 1) := o_42 BX3_toNext rfl rfl
theorem dX3_toNext_1 : decode cX3_toNext 1 = .ok (.getfield 18, 3) := o_180 BX3_toNext rfl rfl rfl
theorem dX3_toNext_4 : decode cX3_toNext 4 = .ok (.iconst 2, 1) := o_5 BX3_toNext rfl rfl
theorem dX3_toNext_5 : decode cX3_toNext 5 = .ok (.isub, 1) := o_100 BX3_toNext rfl rfl
theorem dX3_toNext_6 : decode cX3_toNext 6 = .ok (.istore_n 1, 1) := o_60 BX3_toNext rfl rfl
theorem dX3_toNext_7 : decode cX3_toNext 7 = .ok (.iload_n 1, 1) := o_27 BX3_toNext rfl rfl
theorem dX3_toNext_8 : decode cX3_toNext 8 = .ok (.ifCond .lt 26, 3) := o_155 BX3_toNext rfl rfl rfl
theorem dX3_toNext_11 : decode cX3_toNext 11 = .ok (.aload_n 0, 1) := o_42 BX3_toNext rfl rfl
theorem dX3_toNext_12 : decode cX3_toNext 12 = .ok (.getfield 9, 3) := o_180 BX3_toNext rfl rfl rfl
theorem dX3_toNext_15 : decode cX3_toNext 15 = .ok (.iload_n 1, 1) := o_27 BX3_toNext rfl rfl
theorem dX3_toNext_16 : decode cX3_toNext 16 = .ok (.iaload, 1) := o_46 BX3_toNext rfl rfl
theorem dX3_toNext_17 : decode cX3_toNext 17 = .ok (.aload_n 0, 1) := o_42 BX3_toNext rfl rfl
theorem dX3_toNext_18 : decode cX3_toNext 18 = .ok (.getfield 9, 3) := o_180 BX3_toNext rfl rfl rfl
theorem dX3_toNext_21 : decode cX3_toNext 21 = .ok (.iload_n 1, 1) := o_27 BX3_toNext rfl rfl
theorem dX3_toNext_22 : decode cX3_toNext 22 = .ok (.iconst 1, 1) := o_4 BX3_toNext rfl rfl
theorem dX3_toNext_23 : decode cX3_toNext 23 = .ok (.iadd, 1) := o_96 BX3_toNext rfl rfl
theorem dX3_toNext_24 : decode cX3_toNext 24 = .ok (.iaload, 1) := o_46 BX3_toNext rfl rfl
theorem dX3_toNext_25 : decode cX3_toNext 25 = .ok (.if_icmp .le 9, 3) := o_164 BX3_toNext rfl rfl rfl
theorem dX3_toNext_28 : decode cX3_toNext 28 = .ok (.iinc 1 (-1), 3) := o_132 BX3_toNext rfl rfl rfl rfl
theorem dX3_toNext_31 : decode cX3_toNext 31 = .ok (.goto (-24), 3) := o_167 BX3_toNext rfl rfl rfl
theorem dX3_toNext_34 : decode cX3_toNext 34 = .ok (.iload_n 1, 1) := o_27 BX3_toNext rfl rfl
theorem dX3_toNext_35 : decode cX3_toNext 35 = .ok (.ifCond .ge 5, 3) := o_156 BX3_toNext rfl rfl rfl
theorem dX3_toNext_38 : decode cX3_toNext 38 = .ok (.iconst 0, 1) := o_3 BX3_toNext rfl rfl
theorem dX3_toNext_39 : decode cX3_toNext 39 = .ok (.ireturn, 1) := o_172 BX3_toNext rfl rfl
theorem dX3_toNext_40 : decode cX3_toNext 40 = .ok (.aload_n 0, 1) := o_42 BX3_toNext rfl rfl
theorem dX3_toNext_41 : decode cX3_toNext 41 = .ok (.getfield 18, 3) := o_180 BX3_toNext rfl rfl rfl
theorem dX3_toNext_44 : decode cX3_toNext 44 = .ok (.iconst 1, 1) := o_4 BX3_toNext rfl rfl
theorem dX3_toNext_45 : decode cX3_toNext 45 = .ok (.isub, 1) := o_100 BX3_toNext rfl rfl
theorem dX3_toNext_46 : decode cX3_toNext 46 = .ok (.istore_n 2, 1) := o_61 BX3_toNext rfl rfl
theorem dX3_toNext_47 : decode cX3_toNext 47 = .ok (.iload_n 2, 1) := o_28 BX3_toNext rfl rfl
theorem dX3_toNext_48 : decode cX3_toNext 48 = .ok (.iload_n 1, 1) := o_27 BX3_toNext rfl rfl
theorem dX3_toNext_49 : decode cX3_toNext 49 = .ok (.if_icmp .le 24, 3) := o_164 BX3_toNext rfl rfl rfl
theorem dX3_toNext_52 : decode cX3_toNext 52 = .ok (.aload_n 0, 1) := o_42 BX3_toNext rfl rfl
theorem dX3_toNext_53 : decode cX3_toNext 53 = .ok (.getfield 9, 3) := o_180 BX3_toNext rfl rfl rfl
theorem dX3_toNext_56 : decode cX3_toNext 56 = .ok (.iload_n 2, 1) := o_28 BX3_toNext rfl rfl
theorem dX3_toNext_57 : decode cX3_toNext 57 = .ok (.iaload, 1) := o_46 BX3_toNext rfl rfl
theorem dX3_toNext_58 : decode cX3_toNext 58 = .ok (.aload_n 0, 1) := o_42 BX3_toNext rfl rfl
theorem dX3_toNext_59 : decode cX3_toNext 59 = .ok (.getfield 9, 3) := o_180 BX3_toNext rfl rfl rfl
theorem dX3_toNext_62 : decode cX3_toNext 62 = .ok (.iload_n 1, 1) := o_27 BX3_toNext rfl rfl
theorem dX3_toNext_63 : decode cX3_toNext 63 = .ok (.iaload, 1) := o_46 BX3_toNext rfl rfl
theorem dX3_toNext_64 : decode cX3_toNext 64 = .ok (.if_icmp .ge 9, 3) := o_162 BX3_toNext rfl rfl rfl
theorem dX3_toNext_67 : decode cX3_toNext 67 = .ok (.iinc 2 (-1), 3) := o_132 BX3_toNext rfl rfl rfl rfl
theorem dX3_toNext_70 : decode cX3_toNext 70 = .ok (.goto (-23), 3) := o_167 BX3_toNext rfl rfl rfl
theorem dX3_toNext_73 : decode cX3_toNext 73 = .ok (.aload_n 0, 1) := o_42 BX3_toNext rfl rfl
theorem dX3_toNext_74 : decode cX3_toNext 74 = .ok (.iload_n 1, 1) := o_27 BX3_toNext rfl rfl
theorem dX3_toNext_75 : decode cX3_toNext 75 = .ok (.iload_n 2, 1) := o_28 BX3_toNext rfl rfl
theorem dX3_toNext_76 : decode cX3_toNext 76 = .ok (.invokevirtual 38, 3) := o_182 BX3_toNext rfl rfl rfl
theorem dX3_toNext_79 : decode cX3_toNext 79 = .ok (.iload_n 1, 1) := o_27 BX3_toNext rfl rfl
theorem dX3_toNext_80 : decode cX3_toNext 80 = .ok (.iconst 1, 1) := o_4 BX3_toNext rfl rfl
theorem dX3_toNext_81 : decode cX3_toNext 81 = .ok (.iadd, 1) := o_96 BX3_toNext rfl rfl
theorem dX3_toNext_82 : decode cX3_toNext 82 = .ok (.istore_n 3, 1) := o_62 BX3_toNext rfl rfl
theorem dX3_toNext_83 : decode cX3_toNext 83 = .ok (.aload_n 0, 1) := o_42 BX3_toNext rfl rfl
theorem dX3_toNext_84 : decode cX3_toNext 84 = .ok (.getfield 18, 3) := o_180 BX3_toNext rfl rfl rfl
theorem dX3_toNext_87 : decode cX3_toNext 87 = .ok (.iconst 1, 1) := o_4 BX3_toNext rfl rfl
theorem dX3_toNext_88 : decode cX3_toNext 88 = .ok (.isub, 1) := o_100 BX3_toNext rfl rfl
theorem dX3_toNext_89 : decode cX3_toNext 89 = .ok (.istore 4, 2) := o_54 BX3_toNext rfl rfl rfl
theorem dX3_toNext_91 : decode cX3_toNext 91 = .ok (.iload_n 3, 1) := o_29 BX3_toNext rfl rfl
theorem dX3_toNext_92 : decode cX3_toNext 92 = .ok (.iload 4, 2) := o_21 BX3_toNext rfl rfl rfl
theorem dX3_toNext_94 : decode cX3_toNext 94 = .ok (.if_icmp .ge 19, 3) := o_162 BX3_toNext rfl rfl rfl
theorem dX3_toNext_97 : decode cX3_toNext 97 = .ok (.aload_n 0, 1) := o_42 BX3_toNext rfl rfl
theorem dX3_toNext_98 : decode cX3_toNext 98 = .ok (.iload_n 3, 1) := o_29 BX3_toNext rfl rfl
theorem dX3_toNext_99 : decode cX3_toNext 99 = .ok (.iload 4, 2) := o_21 BX3_toNext rfl rfl rfl
theorem dX3_toNext_101 : decode cX3_toNext 101 = .ok (.invokevirtual 38, 3) := o_182 BX3_toNext rfl rfl rfl
theorem dX3_toNext_104 : decode cX3_toNext 104 = .ok (.iinc 3 1, 3) := o_132 BX3_toNext rfl rfl rfl rfl
theorem dX3_toNext_107 : decode cX3_toNext 107 = .ok (.iinc 4 (-1), 3) := o_132 BX3_toNext rfl rfl rfl rfl
theorem dX3_toNext_110 : decode cX3_toNext 110 = .ok (.goto (-19), 3) := o_167 BX3_toNext rfl rfl rfl
theorem dX3_toNext_113 : decode cX3_toNext 113 = .ok (.iconst 1, 1) := o_4 BX3_toNext rfl rfl
theorem dX3_toNext_114 : decode cX3_toNext 114 = .ok (.ireturn, 1) := o_172 BX3_toNext rfl rfl
theorem dX3_exchangeCells_0 : decode cX3_exchangeCells 0 = .ok (.aload_n 0, 1) := o_42 BX3_exchangeCells rfl rfl
theorem dX3_exchangeCells_1 : decode cX3_exchangeCells 1 = .ok (.getfield 9, 3) := o_180 BX3_exchangeCells rfl rfl rfl
theorem dX3_exchangeCells_4 : decode cX3_exchangeCells 4 = .ok (.iload_n 1, 1) := o_27 BX3_exchangeCells rfl rfl
theorem dX3_exchangeCells_5 : decode cX3_exchangeCells 5 = .ok (.iaload, 1) := o_46 BX3_exchangeCells rfl rfl
theorem dX3_exchangeCells_6 : decode cX3_exchangeCells 6 = .ok (.istore_n 3, 1) := o_62 BX3_exchangeCells rfl rfl
theorem dX3_exchangeCells_7 : decode cX3_exchangeCells 7 = .ok (.aload_n 0, 1) := o_42 BX3_exchangeCells rfl rfl
theorem dX3_exchangeCells_8 : decode cX3_exchangeCells 8 = .ok (.getfield 9, 3) := o_180 BX3_exchangeCells rfl rfl rfl
theorem dX3_exchangeCells_11 : decode cX3_exchangeCells 11 = .ok (.iload_n 1, 1) := o_27 BX3_exchangeCells rfl rfl
theorem dX3_exchangeCells_12 : decode cX3_exchangeCells 12 = .ok (.aload_n 0, 1) := o_42 BX3_exchangeCells rfl rfl
theorem dX3_exchangeCells_13 : decode cX3_exchangeCells 13 = .ok (.getfield 9, 3) := o_180 BX3_exchangeCells rfl rfl rfl
theorem dX3_exchangeCells_16 : decode cX3_exchangeCells 16 = .ok (.iload_n 2, 1) := o_28 BX3_exchangeCells rfl rfl
theorem dX3_exchangeCells_17 : decode cX3_exchangeCells 17 = .ok (.iaload, 1) := o_46 BX3_exchangeCells rfl rfl
theorem dX3_exchangeCells_18 : decode cX3_exchangeCells 18 = .ok (.iastore, 1) := o_79 BX3_exchangeCells rfl rfl
theorem dX3_exchangeCells_19 : decode cX3_exchangeCells 19 = .ok (.aload_n 0, 1) := o_42 BX3_exchangeCells rfl rfl
theorem dX3_exchangeCells_20 : decode cX3_exchangeCells 20 = .ok (.getfield 9, 3) := o_180 BX3_exchangeCells rfl rfl rfl
theorem dX3_exchangeCells_23 : decode cX3_exchangeCells 23 = .ok (.iload_n 2, 1) := o_28 BX3_exchangeCells rfl rfl
theorem dX3_exchangeCells_24 : decode cX3_exchangeCells 24 = .ok (.iload_n 3, 1) := o_29 BX3_exchangeCells rfl rfl
theorem dX3_exchangeCells_25 : decode cX3_exchangeCells 25 = .ok (.iastore, 1) := o_79 BX3_exchangeCells rfl rfl
theorem dX3_exchangeCells_26 : decode cX3_exchangeCells 26 = .ok (.return_, 1) := o_177 BX3_exchangeCells rfl rfl
theorem dX4_init_0 : decode cX4_init 0 = .ok (.aload_n 0, 1) := o_42 BX4_init rfl rfl
theorem dX4_init_1 : decode cX4_init 1 = .ok (.invokespecial 3, 3) := o_183 BX4_init rfl rfl rfl
theorem dX4_init_4 : decode cX4_init 4 = .ok (.aload_n 0, 1) := o_42 BX4_init rfl rfl
theorem dX4_init_5 : decode cX4_init 5 = .ok (.bipush 8, 2) := o_16 BX4_init rfl rfl rfl
theorem dX4_init_7 : decode cX4_init 7 = .ok (.newarray .long, 2) := o_188_11 BX4_init rfl rfl rfl
theorem dX4_init_9 : decode cX4_init 9 = .ok (.putfield 9, 3) := o_181 BX4_init rfl rfl rfl
theorem dX4_init_12 : decode cX4_init 12 = .ok (.aload_n 0, 1) := o_42 BX4_init rfl rfl
theorem dX4_init_13 : decode cX4_init 13 = .ok (.iconst 0, 1) := o_3 BX4_init rfl rfl
theorem dX4_init_14 : decode cX4_init 14 = .ok (.putfield 15, 3) := o_181 BX4_init rfl rfl rfl
theorem dX4_init_17 : decode cX4_init 17 = .ok (.return_, 1) := o_177 BX4_init rfl rfl
theorem dX4_clear_0 : decode cX4_clear 0 = .ok (.aload_n 0, 1) := o_42 BX4_clear rfl rfl
theorem dX4_clear_1 : decode cX4_clear 1 = .ok (.iconst 0, 1) := o_3 BX4_clear rfl rfl
theorem dX4_clear_2 : decode cX4_clear 2 = .ok (.putfield 15, 3) := o_181 BX4_clear rfl rfl rfl
theorem dX4_clear_5 : decode cX4_clear 5 = .ok (.return_, 1) := o_177 BX4_clear rfl rfl
theorem dX4_add_0 : decode cX4_add 0 = .ok (.aload_n 0, 1) := o_42 BX4_add rfl rfl
theorem dX4_add_1 : decode cX4_add 1 = .ok (.getfield 15, 3) := o_180 BX4_add rfl rfl rfl
theorem dX4_add_4 : decode cX4_add 4 = .ok (.bipush 8, 2) := o_16 BX4_add rfl rfl rfl
theorem dX4_add_6 : decode cX4_add 6 = .ok (.if_icmp .ge 23, 3) := o_162 BX4_add rfl rfl rfl
theorem dX4_add_9 : decode cX4_add 9 = .ok (.aload_n 0, 1) := o_42 BX4_add rfl rfl
theorem dX4_add_10 : decode cX4_add 10 = .ok (.getfield 9, 3) := o_180 BX4_add rfl rfl rfl
theorem dX4_add_13 : decode cX4_add 13 = .ok (.aload_n 0, 1) := o_42 BX4_add rfl rfl
theorem dX4_add_14 : decode cX4_add 14 = .ok (.getfield 15, 3) := o_180 BX4_add rfl rfl rfl
theorem dX4_add_17 : decode cX4_add 17 = .ok (.lload_n 1, 1) := o_31 BX4_add rfl rfl
theorem dX4_add_18 : decode cX4_add 18 = .ok (.lastore, 1) := o_80 BX4_add rfl rfl
theorem dX4_add_19 : decode cX4_add 19 = .ok (.aload_n 0, 1) := o_42 BX4_add rfl rfl
theorem dX4_add_20 : decode cX4_add 20 = .ok (.dup, 1) := o_89 BX4_add rfl rfl
theorem dX4_add_21 : decode cX4_add 21 = .ok (.getfield 15, 3) := o_180 BX4_add rfl rfl rfl
theorem dX4_add_24 : decode cX4_add 24 = .ok (.iconst 1, 1) := o_4 BX4_add rfl rfl
theorem dX4_add_25 : decode cX4_add 25 = .ok (.iadd, 1) := o_96 BX4_add rfl rfl
theorem dX4_add_26 : decode cX4_add 26 = .ok (.putfield 15, 3) := o_181 BX4_add rfl rfl rfl
theorem dX4_add_29 : decode cX4_add 29 = .ok (.return_, 1) := o_177 BX4_add rfl rfl
theorem dX4_tellOne_0 : decode cX4_tellOne 0 = .ok (.aload_n 0, 1) := o_42 BX4_tellOne rfl rfl
theorem dX4_tellOne_1 : decode cX4_tellOne 1 = .ok (.invokevirtual 19, 3) := o_182 BX4_tellOne rfl rfl rfl
theorem dX4_tellOne_4 : decode cX4_tellOne 4 = .ok (.aload_n 0, 1) := o_42 BX4_tellOne rfl rfl
theorem dX4_tellOne_5 : decode cX4_tellOne 5 = .ok (.lload_n 1, 1) := o_31 BX4_tellOne rfl rfl
theorem dX4_tellOne_6 : decode cX4_tellOne 6 = .ok (.invokevirtual 22, 3) := o_182 BX4_tellOne rfl rfl rfl
theorem dX4_tellOne_9 : decode cX4_tellOne 9 = .ok (.return_, 1) := o_177 BX4_tellOne rfl rfl
theorem dX4_tellTwo_0 : decode cX4_tellTwo 0 = .ok (.aload_n 0, 1) := o_42 BX4_tellTwo rfl rfl
theorem dX4_tellTwo_1 : decode cX4_tellTwo 1 = .ok (.invokevirtual 19, 3) := o_182 BX4_tellTwo rfl rfl rfl
theorem dX4_tellTwo_4 : decode cX4_tellTwo 4 = .ok (.aload_n 0, 1) := o_42 BX4_tellTwo rfl rfl
theorem dX4_tellTwo_5 : decode cX4_tellTwo 5 = .ok (.lload_n 1, 1) := o_31 BX4_tellTwo rfl rfl
theorem dX4_tellTwo_6 : decode cX4_tellTwo 6 = .ok (.invokevirtual 22, 3) := o_182 BX4_tellTwo rfl rfl rfl
theorem dX4_tellTwo_9 : decode cX4_tellTwo 9 = .ok (.aload_n 0, 1) := o_42 BX4_tellTwo rfl rfl
theorem dX4_tellTwo_10 : decode cX4_tellTwo 10 = .ok (.lload_n 3, 1) := o_33 BX4_tellTwo rfl rfl
theorem dX4_tellTwo_11 : decode cX4_tellTwo 11 = .ok (.invokevirtual 22, 3) := o_182 BX4_tellTwo rfl rfl rfl
theorem dX4_tellTwo_14 : decode cX4_tellTwo 14 = .ok (.return_, 1) := o_177 BX4_tellTwo rfl rfl
theorem dX5_init_0 : decode cX5_init 0 = .ok (.aload_n 0, 1) := o_42 BX5_init rfl rfl
theorem dX5_init_1 : decode cX5_init 1 = .ok (.invokespecial 3, 3) := o_183 BX5_init rfl rfl rfl
theorem dX5_init_4 : decode cX5_init 4 = .ok (.aload_n 0, 1) := o_42 BX5_init rfl rfl
theorem dX5_init_5 : decode cX5_init 5 = .ok (.bipush 40, 2) := o_16 BX5_init rfl rfl rfl
theorem dX5_init_7 : decode cX5_init 7 = .ok (.newarray .int, 2) := o_188_10 BX5_init rfl rfl rfl
theorem dX5_init_9 : decode cX5_init 9 = .ok (.putfield 9, 3) := o_181 BX5_init rfl rfl rfl
theorem dX5_init_12 : decode cX5_init 12 = .ok (.aload_n 0, 1) := o_42 BX5_init rfl rfl
theorem dX5_init_13 : decode cX5_init 13 = .ok (.iconst 0, 1) := o_3 BX5_init rfl rfl
theorem dX5_init_14 : decode cX5_init 14 = .ok (.putfield 15, 3) := o_181 BX5_init rfl rfl rfl
theorem dX5_init_17 : decode cX5_init 17 = .ok (.aload_n 0, 1) := o_42 BX5_init rfl rfl
theorem dX5_init_18 : decode cX5_init 18 = .ok (.iconst 0, 1) := o_3 BX5_init rfl rfl
theorem dX5_init_19 : decode cX5_init 19 = .ok (.putfield 19, 3) := o_181 BX5_init rfl rfl rfl
theorem dX5_init_22 : decode cX5_init 22 = .ok (.aload_n 0, 1) := o_42 BX5_init rfl rfl
theorem dX5_init_23 : decode cX5_init 23 = .ok (.iconst 1, 1) := o_4 BX5_init rfl rfl
theorem dX5_init_24 : decode cX5_init 24 = .ok (.putfield 22, 3) := o_181 BX5_init rfl rfl rfl
theorem dX5_init_27 : decode cX5_init 27 = .ok (.return_, 1) := o_177 BX5_init rfl rfl
theorem dX5_read_0 : decode cX5_read 0 = .ok (.aload_n 1, 1) := o_43 BX5_read rfl rfl
theorem dX5_read_1 : decode cX5_read 1 = .ok (.invokevirtual 26, 3) := o_182 BX5_read rfl rfl rfl
theorem dX5_read_4 : decode cX5_read 4 = .ok (.ifCond .eq 9, 3) := o_153 BX5_read rfl rfl rfl
theorem dX5_read_7 : decode cX5_read 7 = .ok (.aload_n 2, 1) := o_44 BX5_read rfl rfl
theorem dX5_read_8 : decode cX5_read 8 = .ok (.invokevirtual 32, 3) := o_182 BX5_read rfl rfl rfl
theorem dX5_read_11 : decode cX5_read 11 = .ok (.iconst (-1), 1) := o_2 BX5_read rfl rfl
theorem dX5_read_12 : decode cX5_read 12 = .ok (.ireturn, 1) := o_172 BX5_read rfl rfl
theorem dX5_read_13 : decode cX5_read 13 = .ok (.aload_n 2, 1) := o_44 BX5_read rfl rfl
theorem dX5_read_14 : decode cX5_read 14 = .ok (.invokevirtual 37, 3) := o_182 BX5_read rfl rfl rfl
theorem dX5_read_17 : decode cX5_read 17 = .ok (.aload_n 0, 1) := o_42 BX5_read rfl rfl
theorem dX5_read_18 : decode cX5_read 18 = .ok (.iconst 0, 1) := o_3 BX5_read rfl rfl
theorem dX5_read_19 : decode cX5_read 19 = .ok (.putfield 15, 3) := o_181 BX5_read rfl rfl rfl
theorem dX5_read_22 : decode cX5_read 22 = .ok (.aload_n 0, 1) := o_42 BX5_read rfl rfl
theorem dX5_read_23 : decode cX5_read 23 = .ok (.iconst 0, 1) := o_3 BX5_read rfl rfl
theorem dX5_read_24 : decode cX5_read 24 = .ok (.putfield 19, 3) := o_181 BX5_read rfl rfl rfl
theorem dX5_read_27 : decode cX5_read 27 = .ok (.aload_n 0, 1) := o_42 BX5_read rfl rfl
theorem dX5_read_28 : decode cX5_read 28 = .ok (.iconst 1, 1) := o_4 BX5_read rfl rfl
theorem dX5_read_29 : decode cX5_read 29 = .ok (.putfield 22, 3) := o_181 BX5_read rfl rfl rfl
theorem dX5_read_32 : decode cX5_read 32 = .ok (.aload_n 1, 1) := o_43 BX5_read rfl rfl
theorem dX5_read_33 : decode cX5_read 33 = .ok (.bipush 40, 2) := o_16 BX5_read rfl rfl rfl
theorem dX5_read_35 : decode cX5_read 35 = .ok (.invokevirtual 40, 3) := o_182 BX5_read rfl rfl rfl
theorem dX5_read_38 : decode cX5_read 38 = .ok (.iconst 0, 1) := o_3 BX5_read rfl rfl
theorem dX5_read_39 : decode cX5_read 39 = .ok (.istore_n 3, 1) := o_62 BX5_read rfl rfl
theorem dX5_read_40 : decode cX5_read 40 = .ok (.iload_n 3, 1) := o_29 BX5_read rfl rfl
theorem dX5_read_41 : decode cX5_read 41 = .ok (.bipush 40, 2) := o_16 BX5_read rfl rfl rfl
theorem dX5_read_43 : decode cX5_read 43 = .ok (.if_icmp .ge 49, 3) := o_162 BX5_read rfl rfl rfl
theorem dX5_read_46 : decode cX5_read 46 = .ok (.aload_n 1, 1) := o_43 BX5_read rfl rfl
theorem dX5_read_47 : decode cX5_read 47 = .ok (.invokevirtual 44, 3) := o_182 BX5_read rfl rfl rfl
theorem dX5_read_50 : decode cX5_read 50 = .ok (.ifCond .ne 42, 3) := o_154 BX5_read rfl rfl rfl
theorem dX5_read_53 : decode cX5_read 53 = .ok (.aload_n 0, 1) := o_42 BX5_read rfl rfl
theorem dX5_read_54 : decode cX5_read 54 = .ok (.getfield 22, 3) := o_180 BX5_read rfl rfl rfl
theorem dX5_read_57 : decode cX5_read 57 = .ok (.ifCond .eq 15, 3) := o_153 BX5_read rfl rfl rfl
theorem dX5_read_60 : decode cX5_read 60 = .ok (.aload_n 0, 1) := o_42 BX5_read rfl rfl
theorem dX5_read_61 : decode cX5_read 61 = .ok (.aload_n 1, 1) := o_43 BX5_read rfl rfl
theorem dX5_read_62 : decode cX5_read 62 = .ok (.aload_n 2, 1) := o_44 BX5_read rfl rfl
theorem dX5_read_63 : decode cX5_read 63 = .ok (.invokevirtual 47, 3) := o_182 BX5_read rfl rfl rfl
theorem dX5_read_66 : decode cX5_read 66 = .ok (.ifCond .eq 15, 3) := o_153 BX5_read rfl rfl rfl
theorem dX5_read_69 : decode cX5_read 69 = .ok (.goto 17, 3) := o_167 BX5_read rfl rfl rfl
theorem dX5_read_72 : decode cX5_read 72 = .ok (.aload_n 0, 1) := o_42 BX5_read rfl rfl
theorem dX5_read_73 : decode cX5_read 73 = .ok (.aload_n 1, 1) := o_43 BX5_read rfl rfl
theorem dX5_read_74 : decode cX5_read 74 = .ok (.aload_n 2, 1) := o_44 BX5_read rfl rfl
theorem dX5_read_75 : decode cX5_read 75 = .ok (.invokevirtual 51, 3) := o_182 BX5_read rfl rfl rfl
theorem dX5_read_78 : decode cX5_read 78 = .ok (.ifCond .ne 8, 3) := o_154 BX5_read rfl rfl rfl
theorem dX5_read_81 : decode cX5_read 81 = .ok (.aload_n 1, 1) := o_43 BX5_read rfl rfl
theorem dX5_read_82 : decode cX5_read 82 = .ok (.getfield 54, 3) := o_180 BX5_read rfl rfl rfl
theorem dX5_read_85 : decode cX5_read 85 = .ok (.ireturn, 1) := o_172 BX5_read rfl rfl
theorem dX5_read_86 : decode cX5_read 86 = .ok (.iinc 3 1, 3) := o_132 BX5_read rfl rfl rfl rfl
theorem dX5_read_89 : decode cX5_read 89 = .ok (.goto (-49), 3) := o_167 BX5_read rfl rfl rfl
theorem dX5_read_92 : decode cX5_read 92 = .ok (.aload_n 0, 1) := o_42 BX5_read rfl rfl
theorem dX5_read_93 : decode cX5_read 93 = .ok (.getfield 22, 3) := o_180 BX5_read rfl rfl rfl
theorem dX5_read_96 : decode cX5_read 96 = .ok (.ifCond .ne 17, 3) := o_154 BX5_read rfl rfl rfl
theorem dX5_read_99 : decode cX5_read 99 = .ok (.aload_n 0, 1) := o_42 BX5_read rfl rfl
theorem dX5_read_100 : decode cX5_read 100 = .ok (.getfield 19, 3) := o_180 BX5_read rfl rfl rfl
theorem dX5_read_103 : decode cX5_read 103 = .ok (.ifCond .gt 10, 3) := o_157 BX5_read rfl rfl rfl
theorem dX5_read_106 : decode cX5_read 106 = .ok (.aload_n 1, 1) := o_43 BX5_read rfl rfl
theorem dX5_read_107 : decode cX5_read 107 = .ok (.invokevirtual 57, 3) := o_182 BX5_read rfl rfl rfl
theorem dX5_read_110 : decode cX5_read 110 = .ok (.ifCond .ne 8, 3) := o_154 BX5_read rfl rfl rfl
theorem dX5_read_113 : decode cX5_read 113 = .ok (.aload_n 1, 1) := o_43 BX5_read rfl rfl
theorem dX5_read_114 : decode cX5_read 114 = .ok (.getfield 54, 3) := o_180 BX5_read rfl rfl rfl
theorem dX5_read_117 : decode cX5_read 117 = .ok (.ireturn, 1) := o_172 BX5_read rfl rfl
theorem dX5_read_118 : decode cX5_read 118 = .ok (.aload_n 0, 1) := o_42 BX5_read rfl rfl
theorem dX5_read_119 : decode cX5_read 119 = .ok (.aload_n 2, 1) := o_44 BX5_read rfl rfl
theorem dX5_read_120 : decode cX5_read 120 = .ok (.iconst 1, 1) := o_4 BX5_read rfl rfl
theorem dX5_read_121 : decode cX5_read 121 = .ok (.invokevirtual 60, 3) := o_182 BX5_read rfl rfl rfl
theorem dX5_read_124 : decode cX5_read 124 = .ok (.iconst (-1), 1) := o_2 BX5_read rfl rfl
theorem dX5_read_125 : decode cX5_read 125 = .ok (.ireturn, 1) := o_172 BX5_read rfl rfl
theorem dX5_takeThing_0 : decode cX5_takeThing 0 = .ok (.aload_n 1, 1) := o_43 BX5_takeThing rfl rfl
theorem dX5_takeThing_1 : decode cX5_takeThing 1 = .ok (.iconst 3, 1) := o_6 BX5_takeThing rfl rfl
theorem dX5_takeThing_2 : decode cX5_takeThing 2 = .ok (.invokevirtual 64, 3) := o_182 BX5_takeThing rfl rfl rfl
theorem dX5_takeThing_5 : decode cX5_takeThing 5 = .ok (.istore_n 3, 1) := o_62 BX5_takeThing rfl rfl
theorem dX5_takeThing_6 : decode cX5_takeThing 6 = .ok (.iload_n 3, 1) := o_29 BX5_takeThing rfl rfl
theorem dX5_takeThing_7 : decode cX5_takeThing 7 = .ok (.iconst (-1), 1) := o_2 BX5_takeThing rfl rfl
theorem dX5_takeThing_8 : decode cX5_takeThing 8 = .ok (.if_icmp .eq 18, 3) := o_159 BX5_takeThing rfl rfl rfl
theorem dX5_takeThing_11 : decode cX5_takeThing 11 = .ok (.aload_n 2, 1) := o_44 BX5_takeThing rfl rfl
theorem dX5_takeThing_12 : decode cX5_takeThing 12 = .ok (.sipush 300, 3) := o_17 BX5_takeThing rfl rfl rfl
theorem dX5_takeThing_15 : decode cX5_takeThing 15 = .ok (.iload_n 3, 1) := o_29 BX5_takeThing rfl rfl
theorem dX5_takeThing_16 : decode cX5_takeThing 16 = .ok (.invokevirtual 68, 3) := o_182 BX5_takeThing rfl rfl rfl
theorem dX5_takeThing_19 : decode cX5_takeThing 19 = .ok (.aload_n 0, 1) := o_42 BX5_takeThing rfl rfl
theorem dX5_takeThing_20 : decode cX5_takeThing 20 = .ok (.iconst 0, 1) := o_3 BX5_takeThing rfl rfl
theorem dX5_takeThing_21 : decode cX5_takeThing 21 = .ok (.putfield 22, 3) := o_181 BX5_takeThing rfl rfl rfl
theorem dX5_takeThing_24 : decode cX5_takeThing 24 = .ok (.iconst 1, 1) := o_4 BX5_takeThing rfl rfl
theorem dX5_takeThing_25 : decode cX5_takeThing 25 = .ok (.ireturn, 1) := o_172 BX5_takeThing rfl rfl
theorem dX5_takeThing_26 : decode cX5_takeThing 26 = .ok (.aload_n 1, 1) := o_43 BX5_takeThing rfl rfl
theorem dX5_takeThing_27 : decode cX5_takeThing 27 = .ok (.invokevirtual 72, 3) := o_182 BX5_takeThing rfl rfl rfl
theorem dX5_takeThing_30 : decode cX5_takeThing 30 = .ok (.istore 4, 2) := o_54 BX5_takeThing rfl rfl rfl
theorem dX5_takeThing_32 : decode cX5_takeThing 32 = .ok (.iload 4, 2) := o_21 BX5_takeThing rfl rfl rfl
theorem dX5_takeThing_34 : decode cX5_takeThing 34 = .ok (.bipush 45, 2) := o_16 BX5_takeThing rfl rfl rfl
theorem dX5_takeThing_36 : decode cX5_takeThing 36 = .ok (.if_icmp .ne 13, 3) := o_160 BX5_takeThing rfl rfl rfl
theorem dX5_takeThing_39 : decode cX5_takeThing 39 = .ok (.aload_n 0, 1) := o_42 BX5_takeThing rfl rfl
theorem dX5_takeThing_40 : decode cX5_takeThing 40 = .ok (.sipush 302, 3) := o_17 BX5_takeThing rfl rfl rfl
theorem dX5_takeThing_43 : decode cX5_takeThing 43 = .ok (.invokevirtual 76, 3) := o_182 BX5_takeThing rfl rfl rfl
theorem dX5_takeThing_46 : decode cX5_takeThing 46 = .ok (.goto 75, 3) := o_167 BX5_takeThing rfl rfl rfl
theorem dX5_takeThing_49 : decode cX5_takeThing 49 = .ok (.iload 4, 2) := o_21 BX5_takeThing rfl rfl rfl
theorem dX5_takeThing_51 : decode cX5_takeThing 51 = .ok (.bipush 40, 2) := o_16 BX5_takeThing rfl rfl rfl
theorem dX5_takeThing_53 : decode cX5_takeThing 53 = .ok (.if_icmp .ne 30, 3) := o_160 BX5_takeThing rfl rfl rfl
theorem dX5_takeThing_56 : decode cX5_takeThing 56 = .ok (.aload_n 0, 1) := o_42 BX5_takeThing rfl rfl
theorem dX5_takeThing_57 : decode cX5_takeThing 57 = .ok (.getfield 19, 3) := o_180 BX5_takeThing rfl rfl rfl
theorem dX5_takeThing_60 : decode cX5_takeThing 60 = .ok (.iconst 4, 1) := o_7 BX5_takeThing rfl rfl
theorem dX5_takeThing_61 : decode cX5_takeThing 61 = .ok (.if_icmp .ge 22, 3) := o_162 BX5_takeThing rfl rfl rfl
theorem dX5_takeThing_64 : decode cX5_takeThing 64 = .ok (.aload_n 0, 1) := o_42 BX5_takeThing rfl rfl
theorem dX5_takeThing_65 : decode cX5_takeThing 65 = .ok (.dup, 1) := o_89 BX5_takeThing rfl rfl
theorem dX5_takeThing_66 : decode cX5_takeThing 66 = .ok (.getfield 19, 3) := o_180 BX5_takeThing rfl rfl rfl
theorem dX5_takeThing_69 : decode cX5_takeThing 69 = .ok (.iconst 1, 1) := o_4 BX5_takeThing rfl rfl
theorem dX5_takeThing_70 : decode cX5_takeThing 70 = .ok (.iadd, 1) := o_96 BX5_takeThing rfl rfl
theorem dX5_takeThing_71 : decode cX5_takeThing 71 = .ok (.putfield 19, 3) := o_181 BX5_takeThing rfl rfl rfl
theorem dX5_takeThing_74 : decode cX5_takeThing 74 = .ok (.aload_n 0, 1) := o_42 BX5_takeThing rfl rfl
theorem dX5_takeThing_75 : decode cX5_takeThing 75 = .ok (.iload 4, 2) := o_21 BX5_takeThing rfl rfl rfl
theorem dX5_takeThing_77 : decode cX5_takeThing 77 = .ok (.invokevirtual 76, 3) := o_182 BX5_takeThing rfl rfl rfl
theorem dX5_takeThing_80 : decode cX5_takeThing 80 = .ok (.goto 41, 3) := o_167 BX5_takeThing rfl rfl rfl
theorem dX5_takeThing_83 : decode cX5_takeThing 83 = .ok (.iload 4, 2) := o_21 BX5_takeThing rfl rfl rfl
theorem dX5_takeThing_85 : decode cX5_takeThing 85 = .ok (.iconst (-1), 1) := o_2 BX5_takeThing rfl rfl
theorem dX5_takeThing_86 : decode cX5_takeThing 86 = .ok (.if_icmp .ne 7, 3) := o_160 BX5_takeThing rfl rfl rfl
theorem dX5_takeThing_89 : decode cX5_takeThing 89 = .ok (.iconst (-1), 1) := o_2 BX5_takeThing rfl rfl
theorem dX5_takeThing_90 : decode cX5_takeThing 90 = .ok (.goto 11, 3) := o_167 BX5_takeThing rfl rfl rfl
theorem dX5_takeThing_93 : decode cX5_takeThing 93 = .ok (.ldc 79, 2) := o_18 BX5_takeThing rfl rfl rfl
theorem dX5_takeThing_95 : decode cX5_takeThing 95 = .ok (.iload 4, 2) := o_21 BX5_takeThing rfl rfl rfl
theorem dX5_takeThing_97 : decode cX5_takeThing 97 = .ok (.i2c, 1) := o_146 BX5_takeThing rfl rfl
theorem dX5_takeThing_98 : decode cX5_takeThing 98 = .ok (.invokevirtual 81, 3) := o_182 BX5_takeThing rfl rfl rfl
theorem dX5_takeThing_101 : decode cX5_takeThing 101 = .ok (.istore 5, 2) := o_54 BX5_takeThing rfl rfl rfl
theorem dX5_takeThing_103 : decode cX5_takeThing 103 = .ok (.iload 5, 2) := o_21 BX5_takeThing rfl rfl rfl
theorem dX5_takeThing_105 : decode cX5_takeThing 105 = .ok (.ifCond .ge 5, 3) := o_156 BX5_takeThing rfl rfl rfl
theorem dX5_takeThing_108 : decode cX5_takeThing 108 = .ok (.iconst 0, 1) := o_3 BX5_takeThing rfl rfl
theorem dX5_takeThing_109 : decode cX5_takeThing 109 = .ok (.ireturn, 1) := o_172 BX5_takeThing rfl rfl
theorem dX5_takeThing_110 : decode cX5_takeThing 110 = .ok (.aload_n 2, 1) := o_44 BX5_takeThing rfl rfl
theorem dX5_takeThing_111 : decode cX5_takeThing 111 = .ok (.iload 5, 2) := o_21 BX5_takeThing rfl rfl rfl
theorem dX5_takeThing_113 : decode cX5_takeThing 113 = .ok (.invokevirtual 86, 3) := o_182 BX5_takeThing rfl rfl rfl
theorem dX5_takeThing_116 : decode cX5_takeThing 116 = .ok (.aload_n 0, 1) := o_42 BX5_takeThing rfl rfl
theorem dX5_takeThing_117 : decode cX5_takeThing 117 = .ok (.iconst 0, 1) := o_3 BX5_takeThing rfl rfl
theorem dX5_takeThing_118 : decode cX5_takeThing 118 = .ok (.putfield 22, 3) := o_181 BX5_takeThing rfl rfl rfl
theorem dX5_takeThing_121 : decode cX5_takeThing 121 = .ok (.aload_n 1, 1) := o_43 BX5_takeThing rfl rfl
theorem dX5_takeThing_122 : decode cX5_takeThing 122 = .ok (.invokevirtual 89, 3) := o_182 BX5_takeThing rfl rfl rfl
theorem dX5_takeThing_125 : decode cX5_takeThing 125 = .ok (.iconst 1, 1) := o_4 BX5_takeThing rfl rfl
theorem dX5_takeThing_126 : decode cX5_takeThing 126 = .ok (.ireturn, 1) := o_172 BX5_takeThing rfl rfl
theorem dX5_takeSign_0 : decode cX5_takeSign 0 = .ok (.aload_n 1, 1) := o_43 BX5_takeSign rfl rfl
theorem dX5_takeSign_1 : decode cX5_takeSign 1 = .ok (.invokevirtual 72, 3) := o_182 BX5_takeSign rfl rfl rfl
theorem dX5_takeSign_4 : decode cX5_takeSign 4 = .ok (.istore_n 3, 1) := o_62 BX5_takeSign rfl rfl
theorem dX5_takeSign_5 : decode cX5_takeSign 5 = .ok (.iload_n 3, 1) := o_29 BX5_takeSign rfl rfl
theorem dX5_takeSign_6 : decode cX5_takeSign 6 = .ok (.invokestatic 92, 3) := o_184 BX5_takeSign rfl rfl rfl
theorem dX5_takeSign_9 : decode cX5_takeSign 9 = .ok (.istore 4, 2) := o_54 BX5_takeSign rfl rfl rfl
theorem dX5_takeSign_11 : decode cX5_takeSign 11 = .ok (.iload_n 3, 1) := o_29 BX5_takeSign rfl rfl
theorem dX5_takeSign_12 : decode cX5_takeSign 12 = .ok (.bipush 41, 2) := o_16 BX5_takeSign rfl rfl rfl
theorem dX5_takeSign_14 : decode cX5_takeSign 14 = .ok (.if_icmp .ne 39, 3) := o_160 BX5_takeSign rfl rfl rfl
theorem dX5_takeSign_17 : decode cX5_takeSign 17 = .ok (.aload_n 0, 1) := o_42 BX5_takeSign rfl rfl
theorem dX5_takeSign_18 : decode cX5_takeSign 18 = .ok (.getfield 19, 3) := o_180 BX5_takeSign rfl rfl rfl
theorem dX5_takeSign_21 : decode cX5_takeSign 21 = .ok (.ifCond .le 32, 3) := o_158 BX5_takeSign rfl rfl rfl
theorem dX5_takeSign_24 : decode cX5_takeSign 24 = .ok (.aload_n 0, 1) := o_42 BX5_takeSign rfl rfl
theorem dX5_takeSign_25 : decode cX5_takeSign 25 = .ok (.aload_n 2, 1) := o_44 BX5_takeSign rfl rfl
theorem dX5_takeSign_26 : decode cX5_takeSign 26 = .ok (.iconst 1, 1) := o_4 BX5_takeSign rfl rfl
theorem dX5_takeSign_27 : decode cX5_takeSign 27 = .ok (.invokevirtual 60, 3) := o_182 BX5_takeSign rfl rfl rfl
theorem dX5_takeSign_30 : decode cX5_takeSign 30 = .ok (.aload_n 0, 1) := o_42 BX5_takeSign rfl rfl
theorem dX5_takeSign_31 : decode cX5_takeSign 31 = .ok (.dup, 1) := o_89 BX5_takeSign rfl rfl
theorem dX5_takeSign_32 : decode cX5_takeSign 32 = .ok (.getfield 15, 3) := o_180 BX5_takeSign rfl rfl rfl
theorem dX5_takeSign_35 : decode cX5_takeSign 35 = .ok (.iconst 1, 1) := o_4 BX5_takeSign rfl rfl
theorem dX5_takeSign_36 : decode cX5_takeSign 36 = .ok (.isub, 1) := o_100 BX5_takeSign rfl rfl
theorem dX5_takeSign_37 : decode cX5_takeSign 37 = .ok (.putfield 15, 3) := o_181 BX5_takeSign rfl rfl rfl
theorem dX5_takeSign_40 : decode cX5_takeSign 40 = .ok (.aload_n 0, 1) := o_42 BX5_takeSign rfl rfl
theorem dX5_takeSign_41 : decode cX5_takeSign 41 = .ok (.dup, 1) := o_89 BX5_takeSign rfl rfl
theorem dX5_takeSign_42 : decode cX5_takeSign 42 = .ok (.getfield 19, 3) := o_180 BX5_takeSign rfl rfl rfl
theorem dX5_takeSign_45 : decode cX5_takeSign 45 = .ok (.iconst 1, 1) := o_4 BX5_takeSign rfl rfl
theorem dX5_takeSign_46 : decode cX5_takeSign 46 = .ok (.isub, 1) := o_100 BX5_takeSign rfl rfl
theorem dX5_takeSign_47 : decode cX5_takeSign 47 = .ok (.putfield 19, 3) := o_181 BX5_takeSign rfl rfl rfl
theorem dX5_takeSign_50 : decode cX5_takeSign 50 = .ok (.goto 66, 3) := o_167 BX5_takeSign rfl rfl rfl
theorem dX5_takeSign_53 : decode cX5_takeSign 53 = .ok (.iload 4, 2) := o_21 BX5_takeSign rfl rfl rfl
theorem dX5_takeSign_55 : decode cX5_takeSign 55 = .ok (.iconst 1, 1) := o_4 BX5_takeSign rfl rfl
theorem dX5_takeSign_56 : decode cX5_takeSign 56 = .ok (.if_icmp .ne 32, 3) := o_160 BX5_takeSign rfl rfl rfl
theorem dX5_takeSign_59 : decode cX5_takeSign 59 = .ok (.aload_n 0, 1) := o_42 BX5_takeSign rfl rfl
theorem dX5_takeSign_60 : decode cX5_takeSign 60 = .ok (.aload_n 2, 1) := o_44 BX5_takeSign rfl rfl
theorem dX5_takeSign_61 : decode cX5_takeSign 61 = .ok (.iconst 2, 1) := o_5 BX5_takeSign rfl rfl
theorem dX5_takeSign_62 : decode cX5_takeSign 62 = .ok (.invokevirtual 60, 3) := o_182 BX5_takeSign rfl rfl rfl
theorem dX5_takeSign_65 : decode cX5_takeSign 65 = .ok (.aload_n 0, 1) := o_42 BX5_takeSign rfl rfl
theorem dX5_takeSign_66 : decode cX5_takeSign 66 = .ok (.invokevirtual 95, 3) := o_182 BX5_takeSign rfl rfl rfl
theorem dX5_takeSign_69 : decode cX5_takeSign 69 = .ok (.iconst 1, 1) := o_4 BX5_takeSign rfl rfl
theorem dX5_takeSign_70 : decode cX5_takeSign 70 = .ok (.if_icmp .ne 5, 3) := o_160 BX5_takeSign rfl rfl rfl
theorem dX5_takeSign_73 : decode cX5_takeSign 73 = .ok (.iconst 0, 1) := o_3 BX5_takeSign rfl rfl
theorem dX5_takeSign_74 : decode cX5_takeSign 74 = .ok (.ireturn, 1) := o_172 BX5_takeSign rfl rfl
theorem dX5_takeSign_75 : decode cX5_takeSign 75 = .ok (.aload_n 0, 1) := o_42 BX5_takeSign rfl rfl
theorem dX5_takeSign_76 : decode cX5_takeSign 76 = .ok (.iload_n 3, 1) := o_29 BX5_takeSign rfl rfl
theorem dX5_takeSign_77 : decode cX5_takeSign 77 = .ok (.invokevirtual 76, 3) := o_182 BX5_takeSign rfl rfl rfl
theorem dX5_takeSign_80 : decode cX5_takeSign 80 = .ok (.aload_n 0, 1) := o_42 BX5_takeSign rfl rfl
theorem dX5_takeSign_81 : decode cX5_takeSign 81 = .ok (.iconst 1, 1) := o_4 BX5_takeSign rfl rfl
theorem dX5_takeSign_82 : decode cX5_takeSign 82 = .ok (.putfield 22, 3) := o_181 BX5_takeSign rfl rfl rfl
theorem dX5_takeSign_85 : decode cX5_takeSign 85 = .ok (.goto 31, 3) := o_167 BX5_takeSign rfl rfl rfl
theorem dX5_takeSign_88 : decode cX5_takeSign 88 = .ok (.iload 4, 2) := o_21 BX5_takeSign rfl rfl rfl
theorem dX5_takeSign_90 : decode cX5_takeSign 90 = .ok (.iconst 1, 1) := o_4 BX5_takeSign rfl rfl
theorem dX5_takeSign_91 : decode cX5_takeSign 91 = .ok (.if_icmp .le 23, 3) := o_164 BX5_takeSign rfl rfl rfl
theorem dX5_takeSign_94 : decode cX5_takeSign 94 = .ok (.aload_n 0, 1) := o_42 BX5_takeSign rfl rfl
theorem dX5_takeSign_95 : decode cX5_takeSign 95 = .ok (.aload_n 2, 1) := o_44 BX5_takeSign rfl rfl
theorem dX5_takeSign_96 : decode cX5_takeSign 96 = .ok (.iload 4, 2) := o_21 BX5_takeSign rfl rfl rfl
theorem dX5_takeSign_98 : decode cX5_takeSign 98 = .ok (.invokevirtual 60, 3) := o_182 BX5_takeSign rfl rfl rfl
theorem dX5_takeSign_101 : decode cX5_takeSign 101 = .ok (.aload_n 0, 1) := o_42 BX5_takeSign rfl rfl
theorem dX5_takeSign_102 : decode cX5_takeSign 102 = .ok (.iload_n 3, 1) := o_29 BX5_takeSign rfl rfl
theorem dX5_takeSign_103 : decode cX5_takeSign 103 = .ok (.invokevirtual 76, 3) := o_182 BX5_takeSign rfl rfl rfl
theorem dX5_takeSign_106 : decode cX5_takeSign 106 = .ok (.aload_n 0, 1) := o_42 BX5_takeSign rfl rfl
theorem dX5_takeSign_107 : decode cX5_takeSign 107 = .ok (.iconst 1, 1) := o_4 BX5_takeSign rfl rfl
theorem dX5_takeSign_108 : decode cX5_takeSign 108 = .ok (.putfield 22, 3) := o_181 BX5_takeSign rfl rfl rfl
theorem dX5_takeSign_111 : decode cX5_takeSign 111 = .ok (.goto 5, 3) := o_167 BX5_takeSign rfl rfl rfl
theorem dX5_takeSign_114 : decode cX5_takeSign 114 = .ok (.iconst 0, 1) := o_3 BX5_takeSign rfl rfl
theorem dX5_takeSign_115 : decode cX5_takeSign 115 = .ok (.ireturn, 1) := o_172 BX5_takeSign rfl rfl
theorem dX5_takeSign_116 : decode cX5_takeSign 116 = .ok (.aload_n 1, 1) := o_43 BX5_takeSign rfl rfl
theorem dX5_takeSign_117 : decode cX5_takeSign 117 = .ok (.invokevirtual 89, 3) := o_182 BX5_takeSign rfl rfl rfl
theorem dX5_takeSign_120 : decode cX5_takeSign 120 = .ok (.iconst 1, 1) := o_4 BX5_takeSign rfl rfl
theorem dX5_takeSign_121 : decode cX5_takeSign 121 = .ok (.ireturn, 1) := o_172 BX5_takeSign rfl rfl
theorem dX5_hold_0 : decode cX5_hold 0 = .ok (.aload_n 0, 1) := o_42 BX5_hold rfl rfl
theorem dX5_hold_1 : decode cX5_hold 1 = .ok (.getfield 15, 3) := o_180 BX5_hold rfl rfl rfl
theorem dX5_hold_4 : decode cX5_hold 4 = .ok (.bipush 40, 2) := o_16 BX5_hold rfl rfl rfl
theorem dX5_hold_6 : decode cX5_hold 6 = .ok (.if_icmp .ge 23, 3) := o_162 BX5_hold rfl rfl rfl
theorem dX5_hold_9 : decode cX5_hold 9 = .ok (.aload_n 0, 1) := o_42 BX5_hold rfl rfl
theorem dX5_hold_10 : decode cX5_hold 10 = .ok (.getfield 9, 3) := o_180 BX5_hold rfl rfl rfl
theorem dX5_hold_13 : decode cX5_hold 13 = .ok (.aload_n 0, 1) := o_42 BX5_hold rfl rfl
theorem dX5_hold_14 : decode cX5_hold 14 = .ok (.getfield 15, 3) := o_180 BX5_hold rfl rfl rfl
theorem dX5_hold_17 : decode cX5_hold 17 = .ok (.iload_n 1, 1) := o_27 BX5_hold rfl rfl
theorem dX5_hold_18 : decode cX5_hold 18 = .ok (.iastore, 1) := o_79 BX5_hold rfl rfl
theorem dX5_hold_19 : decode cX5_hold 19 = .ok (.aload_n 0, 1) := o_42 BX5_hold rfl rfl
theorem dX5_hold_20 : decode cX5_hold 20 = .ok (.dup, 1) := o_89 BX5_hold rfl rfl
theorem dX5_hold_21 : decode cX5_hold 21 = .ok (.getfield 15, 3) := o_180 BX5_hold rfl rfl rfl
theorem dX5_hold_24 : decode cX5_hold 24 = .ok (.iconst 1, 1) := o_4 BX5_hold rfl rfl
theorem dX5_hold_25 : decode cX5_hold 25 = .ok (.iadd, 1) := o_96 BX5_hold rfl rfl
theorem dX5_hold_26 : decode cX5_hold 26 = .ok (.putfield 15, 3) := o_181 BX5_hold rfl rfl rfl
theorem dX5_hold_29 : decode cX5_hold 29 = .ok (.return_, 1) := o_177 BX5_hold rfl rfl
theorem dX5_release_0 : decode cX5_release 0 = .ok (.aload_n 0, 1) := o_42 BX5_release rfl rfl
theorem dX5_release_1 : decode cX5_release 1 = .ok (.getfield 15, 3) := o_180 BX5_release rfl rfl rfl
theorem dX5_release_4 : decode cX5_release 4 = .ok (.ifCond .le 38, 3) := o_158 BX5_release rfl rfl rfl
theorem dX5_release_7 : decode cX5_release 7 = .ok (.aload_n 0, 1) := o_42 BX5_release rfl rfl
theorem dX5_release_8 : decode cX5_release 8 = .ok (.invokevirtual 95, 3) := o_182 BX5_release rfl rfl rfl
theorem dX5_release_11 : decode cX5_release 11 = .ok (.iload_n 2, 1) := o_28 BX5_release rfl rfl
theorem dX5_release_12 : decode cX5_release 12 = .ok (.if_icmp .lt 30, 3) := o_161 BX5_release rfl rfl rfl
theorem dX5_release_15 : decode cX5_release 15 = .ok (.aload_n 0, 1) := o_42 BX5_release rfl rfl
theorem dX5_release_16 : decode cX5_release 16 = .ok (.dup, 1) := o_89 BX5_release rfl rfl
theorem dX5_release_17 : decode cX5_release 17 = .ok (.getfield 15, 3) := o_180 BX5_release rfl rfl rfl
theorem dX5_release_20 : decode cX5_release 20 = .ok (.iconst 1, 1) := o_4 BX5_release rfl rfl
theorem dX5_release_21 : decode cX5_release 21 = .ok (.isub, 1) := o_100 BX5_release rfl rfl
theorem dX5_release_22 : decode cX5_release 22 = .ok (.putfield 15, 3) := o_181 BX5_release rfl rfl rfl
theorem dX5_release_25 : decode cX5_release 25 = .ok (.aload_n 1, 1) := o_43 BX5_release rfl rfl
theorem dX5_release_26 : decode cX5_release 26 = .ok (.aload_n 0, 1) := o_42 BX5_release rfl rfl
theorem dX5_release_27 : decode cX5_release 27 = .ok (.getfield 9, 3) := o_180 BX5_release rfl rfl rfl
theorem dX5_release_30 : decode cX5_release 30 = .ok (.aload_n 0, 1) := o_42 BX5_release rfl rfl
theorem dX5_release_31 : decode cX5_release 31 = .ok (.getfield 15, 3) := o_180 BX5_release rfl rfl rfl
theorem dX5_release_34 : decode cX5_release 34 = .ok (.iaload, 1) := o_46 BX5_release rfl rfl
theorem dX5_release_35 : decode cX5_release 35 = .ok (.iconst 0, 1) := o_3 BX5_release rfl rfl
theorem dX5_release_36 : decode cX5_release 36 = .ok (.invokevirtual 68, 3) := o_182 BX5_release rfl rfl rfl
theorem dX5_release_39 : decode cX5_release 39 = .ok (.goto (-39), 3) := o_167 BX5_release rfl rfl rfl
theorem dX5_release_42 : decode cX5_release 42 = .ok (.return_, 1) := o_177 BX5_release rfl rfl
theorem dX5_latestBinding_0 : decode cX5_latestBinding 0 = .ok (.aload_n 0, 1) := o_42 BX5_latestBinding rfl rfl
theorem dX5_latestBinding_1 : decode cX5_latestBinding 1 = .ok (.getfield 15, 3) := o_180 BX5_latestBinding rfl rfl rfl
theorem dX5_latestBinding_4 : decode cX5_latestBinding 4 = .ok (.ifCond .le 20, 3) := o_158 BX5_latestBinding rfl rfl rfl
theorem dX5_latestBinding_7 : decode cX5_latestBinding 7 = .ok (.aload_n 0, 1) := o_42 BX5_latestBinding rfl rfl
theorem dX5_latestBinding_8 : decode cX5_latestBinding 8 = .ok (.getfield 9, 3) := o_180 BX5_latestBinding rfl rfl rfl
theorem dX5_latestBinding_11 : decode cX5_latestBinding 11 = .ok (.aload_n 0, 1) := o_42 BX5_latestBinding rfl rfl
theorem dX5_latestBinding_12 : decode cX5_latestBinding 12 = .ok (.getfield 15, 3) := o_180 BX5_latestBinding rfl rfl rfl
theorem dX5_latestBinding_15 : decode cX5_latestBinding 15 = .ok (.iconst 1, 1) := o_4 BX5_latestBinding rfl rfl
theorem dX5_latestBinding_16 : decode cX5_latestBinding 16 = .ok (.isub, 1) := o_100 BX5_latestBinding rfl rfl
theorem dX5_latestBinding_17 : decode cX5_latestBinding 17 = .ok (.iaload, 1) := o_46 BX5_latestBinding rfl rfl
theorem dX5_latestBinding_18 : decode cX5_latestBinding 18 = .ok (.invokestatic 92, 3) := o_184 BX5_latestBinding rfl rfl rfl
theorem dX5_latestBinding_21 : decode cX5_latestBinding 21 = .ok (.goto 4, 3) := o_167 BX5_latestBinding rfl rfl rfl
theorem dX5_latestBinding_24 : decode cX5_latestBinding 24 = .ok (.iconst 0, 1) := o_3 BX5_latestBinding rfl rfl
theorem dX5_latestBinding_25 : decode cX5_latestBinding 25 = .ok (.ireturn, 1) := o_172 BX5_latestBinding rfl rfl
theorem dX5_bindingOf_0 : decode cX5_bindingOf 0 = .ok (.iload_n 0, 1) := o_26 BX5_bindingOf rfl rfl
theorem dX5_bindingOf_1 : decode cX5_bindingOf 1 = .ok (.lookupswitch 83 #[(42, 79), (43, 77), (45, 77), (47, 79), (60, 75), (61, 75), (62, 75), (302, 81)], 75) := by decide +kernel
theorem dX5_bindingOf_76 : decode cX5_bindingOf 76 = .ok (.iconst 1, 1) := o_4 BX5_bindingOf rfl rfl
theorem dX5_bindingOf_77 : decode cX5_bindingOf 77 = .ok (.ireturn, 1) := o_172 BX5_bindingOf rfl rfl
theorem dX5_bindingOf_78 : decode cX5_bindingOf 78 = .ok (.iconst 2, 1) := o_5 BX5_bindingOf rfl rfl
theorem dX5_bindingOf_79 : decode cX5_bindingOf 79 = .ok (.ireturn, 1) := o_172 BX5_bindingOf rfl rfl
theorem dX5_bindingOf_80 : decode cX5_bindingOf 80 = .ok (.iconst 3, 1) := o_6 BX5_bindingOf rfl rfl
theorem dX5_bindingOf_81 : decode cX5_bindingOf 81 = .ok (.ireturn, 1) := o_172 BX5_bindingOf rfl rfl
theorem dX5_bindingOf_82 : decode cX5_bindingOf 82 = .ok (.iconst 4, 1) := o_7 BX5_bindingOf rfl rfl
theorem dX5_bindingOf_83 : decode cX5_bindingOf 83 = .ok (.ireturn, 1) := o_172 BX5_bindingOf rfl rfl
theorem dX5_bindingOf_84 : decode cX5_bindingOf 84 = .ok (.iconst 0, 1) := o_3 BX5_bindingOf rfl rfl
theorem dX5_bindingOf_85 : decode cX5_bindingOf 85 = .ok (.ireturn, 1) := o_172 BX5_bindingOf rfl rfl
theorem dX6_init_0 : decode cX6_init 0 = .ok (.aload_n 0, 1) := o_42 BX6_init rfl rfl
theorem dX6_init_1 : decode cX6_init 1 = .ok (.invokespecial 3, 3) := o_183 BX6_init rfl rfl rfl
theorem dX6_init_4 : decode cX6_init 4 = .ok (.aload_n 0, 1) := o_42 BX6_init rfl rfl
theorem dX6_init_5 : decode cX6_init 5 = .ok (.bipush 6, 2) := o_16 BX6_init rfl rfl rfl
theorem dX6_init_7 : decode cX6_init 7 = .ok (.newarray .int, 2) := o_188_10 BX6_init rfl rfl rfl
theorem dX6_init_9 : decode cX6_init 9 = .ok (.putfield 9, 3) := o_181 BX6_init rfl rfl rfl
theorem dX6_init_12 : decode cX6_init 12 = .ok (.aload_n 0, 1) := o_42 BX6_init rfl rfl
theorem dX6_init_13 : decode cX6_init 13 = .ok (.bipush 6, 2) := o_16 BX6_init rfl rfl rfl
theorem dX6_init_15 : decode cX6_init 15 = .ok (.newarray .int, 2) := o_188_10 BX6_init rfl rfl rfl
theorem dX6_init_17 : decode cX6_init 17 = .ok (.putfield 15, 3) := o_181 BX6_init rfl rfl rfl
theorem dX6_init_20 : decode cX6_init 20 = .ok (.aload_n 0, 1) := o_42 BX6_init rfl rfl
theorem dX6_init_21 : decode cX6_init 21 = .ok (.bipush 8, 2) := o_16 BX6_init rfl rfl rfl
theorem dX6_init_23 : decode cX6_init 23 = .ok (.newarray .int, 2) := o_188_10 BX6_init rfl rfl rfl
theorem dX6_init_25 : decode cX6_init 25 = .ok (.putfield 18, 3) := o_181 BX6_init rfl rfl rfl
theorem dX6_init_28 : decode cX6_init 28 = .ok (.aload_n 0, 1) := o_42 BX6_init rfl rfl
theorem dX6_init_29 : decode cX6_init 29 = .ok (.bipush 8, 2) := o_16 BX6_init rfl rfl rfl
theorem dX6_init_31 : decode cX6_init 31 = .ok (.newarray .int, 2) := o_188_10 BX6_init rfl rfl rfl
theorem dX6_init_33 : decode cX6_init 33 = .ok (.putfield 21, 3) := o_181 BX6_init rfl rfl rfl
theorem dX6_init_36 : decode cX6_init 36 = .ok (.aload_n 0, 1) := o_42 BX6_init rfl rfl
theorem dX6_init_37 : decode cX6_init 37 = .ok (.bipush 8, 2) := o_16 BX6_init rfl rfl rfl
theorem dX6_init_39 : decode cX6_init 39 = .ok (.newarray .int, 2) := o_188_10 BX6_init rfl rfl rfl
theorem dX6_init_41 : decode cX6_init 41 = .ok (.putfield 24, 3) := o_181 BX6_init rfl rfl rfl
theorem dX6_init_44 : decode cX6_init 44 = .ok (.aload_n 0, 1) := o_42 BX6_init rfl rfl
theorem dX6_init_45 : decode cX6_init 45 = .ok (.bipush 8, 2) := o_16 BX6_init rfl rfl rfl
theorem dX6_init_47 : decode cX6_init 47 = .ok (.newarray .int, 2) := o_188_10 BX6_init rfl rfl rfl
theorem dX6_init_49 : decode cX6_init 49 = .ok (.putfield 27, 3) := o_181 BX6_init rfl rfl rfl
theorem dX6_init_52 : decode cX6_init 52 = .ok (.aload_n 0, 1) := o_42 BX6_init rfl rfl
theorem dX6_init_53 : decode cX6_init 53 = .ok (.iconst 0, 1) := o_3 BX6_init rfl rfl
theorem dX6_init_54 : decode cX6_init 54 = .ok (.putfield 30, 3) := o_181 BX6_init rfl rfl rfl
theorem dX6_init_57 : decode cX6_init 57 = .ok (.aload_n 0, 1) := o_42 BX6_init rfl rfl
theorem dX6_init_58 : decode cX6_init 58 = .ok (.iconst 0, 1) := o_3 BX6_init rfl rfl
theorem dX6_init_59 : decode cX6_init 59 = .ok (.putfield 34, 3) := o_181 BX6_init rfl rfl rfl
theorem dX6_init_62 : decode cX6_init 62 = .ok (.aload_n 0, 1) := o_42 BX6_init rfl rfl
theorem dX6_init_63 : decode cX6_init 63 = .ok (.iconst 0, 1) := o_3 BX6_init rfl rfl
theorem dX6_init_64 : decode cX6_init 64 = .ok (.putfield 37, 3) := o_181 BX6_init rfl rfl rfl
theorem dX6_init_67 : decode cX6_init 67 = .ok (.aload_n 0, 1) := o_42 BX6_init rfl rfl
theorem dX6_init_68 : decode cX6_init 68 = .ok (.iconst 0, 1) := o_3 BX6_init rfl rfl
theorem dX6_init_69 : decode cX6_init 69 = .ok (.putfield 40, 3) := o_181 BX6_init rfl rfl rfl
theorem dX6_init_72 : decode cX6_init 72 = .ok (.aload_n 0, 1) := o_42 BX6_init rfl rfl
theorem dX6_init_73 : decode cX6_init 73 = .ok (.iconst 0, 1) := o_3 BX6_init rfl rfl
theorem dX6_init_74 : decode cX6_init 74 = .ok (.putfield 43, 3) := o_181 BX6_init rfl rfl rfl
theorem dX6_init_77 : decode cX6_init 77 = .ok (.return_, 1) := o_177 BX6_init rfl rfl
theorem dX6_clear_0 : decode cX6_clear 0 = .ok (.aload_n 0, 1) := o_42 BX6_clear rfl rfl
theorem dX6_clear_1 : decode cX6_clear 1 = .ok (.iconst 0, 1) := o_3 BX6_clear rfl rfl
theorem dX6_clear_2 : decode cX6_clear 2 = .ok (.putfield 30, 3) := o_181 BX6_clear rfl rfl rfl
theorem dX6_clear_5 : decode cX6_clear 5 = .ok (.aload_n 0, 1) := o_42 BX6_clear rfl rfl
theorem dX6_clear_6 : decode cX6_clear 6 = .ok (.iconst 0, 1) := o_3 BX6_clear rfl rfl
theorem dX6_clear_7 : decode cX6_clear 7 = .ok (.putfield 34, 3) := o_181 BX6_clear rfl rfl rfl
theorem dX6_clear_10 : decode cX6_clear 10 = .ok (.aload_n 0, 1) := o_42 BX6_clear rfl rfl
theorem dX6_clear_11 : decode cX6_clear 11 = .ok (.iconst 0, 1) := o_3 BX6_clear rfl rfl
theorem dX6_clear_12 : decode cX6_clear 12 = .ok (.putfield 37, 3) := o_181 BX6_clear rfl rfl rfl
theorem dX6_clear_15 : decode cX6_clear 15 = .ok (.aload_n 0, 1) := o_42 BX6_clear rfl rfl
theorem dX6_clear_16 : decode cX6_clear 16 = .ok (.iconst 0, 1) := o_3 BX6_clear rfl rfl
theorem dX6_clear_17 : decode cX6_clear 17 = .ok (.putfield 40, 3) := o_181 BX6_clear rfl rfl rfl
theorem dX6_clear_20 : decode cX6_clear 20 = .ok (.aload_n 0, 1) := o_42 BX6_clear rfl rfl
theorem dX6_clear_21 : decode cX6_clear 21 = .ok (.iconst 0, 1) := o_3 BX6_clear rfl rfl
theorem dX6_clear_22 : decode cX6_clear 22 = .ok (.putfield 43, 3) := o_181 BX6_clear rfl rfl rfl
theorem dX6_clear_25 : decode cX6_clear 25 = .ok (.return_, 1) := o_177 BX6_clear rfl rfl
theorem dX6_copyFrom_0 : decode cX6_copyFrom 0 = .ok (.aload_n 1, 1) := o_43 BX6_copyFrom rfl rfl
theorem dX6_copyFrom_1 : decode cX6_copyFrom 1 = .ok (.getfield 9, 3) := o_180 BX6_copyFrom rfl rfl rfl
theorem dX6_copyFrom_4 : decode cX6_copyFrom 4 = .ok (.iconst 0, 1) := o_3 BX6_copyFrom rfl rfl
theorem dX6_copyFrom_5 : decode cX6_copyFrom 5 = .ok (.aload_n 0, 1) := o_42 BX6_copyFrom rfl rfl
theorem dX6_copyFrom_6 : decode cX6_copyFrom 6 = .ok (.getfield 9, 3) := o_180 BX6_copyFrom rfl rfl rfl
theorem dX6_copyFrom_9 : decode cX6_copyFrom 9 = .ok (.iconst 0, 1) := o_3 BX6_copyFrom rfl rfl
theorem dX6_copyFrom_10 : decode cX6_copyFrom 10 = .ok (.bipush 6, 2) := o_16 BX6_copyFrom rfl rfl rfl
theorem dX6_copyFrom_12 : decode cX6_copyFrom 12 = .ok (.invokestatic 46, 3) := o_184 BX6_copyFrom rfl rfl rfl
theorem dX6_copyFrom_15 : decode cX6_copyFrom 15 = .ok (.aload_n 1, 1) := o_43 BX6_copyFrom rfl rfl
theorem dX6_copyFrom_16 : decode cX6_copyFrom 16 = .ok (.getfield 15, 3) := o_180 BX6_copyFrom rfl rfl rfl
theorem dX6_copyFrom_19 : decode cX6_copyFrom 19 = .ok (.iconst 0, 1) := o_3 BX6_copyFrom rfl rfl
theorem dX6_copyFrom_20 : decode cX6_copyFrom 20 = .ok (.aload_n 0, 1) := o_42 BX6_copyFrom rfl rfl
theorem dX6_copyFrom_21 : decode cX6_copyFrom 21 = .ok (.getfield 15, 3) := o_180 BX6_copyFrom rfl rfl rfl
theorem dX6_copyFrom_24 : decode cX6_copyFrom 24 = .ok (.iconst 0, 1) := o_3 BX6_copyFrom rfl rfl
theorem dX6_copyFrom_25 : decode cX6_copyFrom 25 = .ok (.bipush 6, 2) := o_16 BX6_copyFrom rfl rfl rfl
theorem dX6_copyFrom_27 : decode cX6_copyFrom 27 = .ok (.invokestatic 46, 3) := o_184 BX6_copyFrom rfl rfl rfl
theorem dX6_copyFrom_30 : decode cX6_copyFrom 30 = .ok (.aload_n 1, 1) := o_43 BX6_copyFrom rfl rfl
theorem dX6_copyFrom_31 : decode cX6_copyFrom 31 = .ok (.getfield 18, 3) := o_180 BX6_copyFrom rfl rfl rfl
theorem dX6_copyFrom_34 : decode cX6_copyFrom 34 = .ok (.iconst 0, 1) := o_3 BX6_copyFrom rfl rfl
theorem dX6_copyFrom_35 : decode cX6_copyFrom 35 = .ok (.aload_n 0, 1) := o_42 BX6_copyFrom rfl rfl
theorem dX6_copyFrom_36 : decode cX6_copyFrom 36 = .ok (.getfield 18, 3) := o_180 BX6_copyFrom rfl rfl rfl
theorem dX6_copyFrom_39 : decode cX6_copyFrom 39 = .ok (.iconst 0, 1) := o_3 BX6_copyFrom rfl rfl
theorem dX6_copyFrom_40 : decode cX6_copyFrom 40 = .ok (.bipush 8, 2) := o_16 BX6_copyFrom rfl rfl rfl
theorem dX6_copyFrom_42 : decode cX6_copyFrom 42 = .ok (.invokestatic 46, 3) := o_184 BX6_copyFrom rfl rfl rfl
theorem dX6_copyFrom_45 : decode cX6_copyFrom 45 = .ok (.aload_n 1, 1) := o_43 BX6_copyFrom rfl rfl
theorem dX6_copyFrom_46 : decode cX6_copyFrom 46 = .ok (.getfield 21, 3) := o_180 BX6_copyFrom rfl rfl rfl
theorem dX6_copyFrom_49 : decode cX6_copyFrom 49 = .ok (.iconst 0, 1) := o_3 BX6_copyFrom rfl rfl
theorem dX6_copyFrom_50 : decode cX6_copyFrom 50 = .ok (.aload_n 0, 1) := o_42 BX6_copyFrom rfl rfl
theorem dX6_copyFrom_51 : decode cX6_copyFrom 51 = .ok (.getfield 21, 3) := o_180 BX6_copyFrom rfl rfl rfl
theorem dX6_copyFrom_54 : decode cX6_copyFrom 54 = .ok (.iconst 0, 1) := o_3 BX6_copyFrom rfl rfl
theorem dX6_copyFrom_55 : decode cX6_copyFrom 55 = .ok (.bipush 8, 2) := o_16 BX6_copyFrom rfl rfl rfl
theorem dX6_copyFrom_57 : decode cX6_copyFrom 57 = .ok (.invokestatic 46, 3) := o_184 BX6_copyFrom rfl rfl rfl
theorem dX6_copyFrom_60 : decode cX6_copyFrom 60 = .ok (.aload_n 1, 1) := o_43 BX6_copyFrom rfl rfl
theorem dX6_copyFrom_61 : decode cX6_copyFrom 61 = .ok (.getfield 24, 3) := o_180 BX6_copyFrom rfl rfl rfl
theorem dX6_copyFrom_64 : decode cX6_copyFrom 64 = .ok (.iconst 0, 1) := o_3 BX6_copyFrom rfl rfl
theorem dX6_copyFrom_65 : decode cX6_copyFrom 65 = .ok (.aload_n 0, 1) := o_42 BX6_copyFrom rfl rfl
theorem dX6_copyFrom_66 : decode cX6_copyFrom 66 = .ok (.getfield 24, 3) := o_180 BX6_copyFrom rfl rfl rfl
theorem dX6_copyFrom_69 : decode cX6_copyFrom 69 = .ok (.iconst 0, 1) := o_3 BX6_copyFrom rfl rfl
theorem dX6_copyFrom_70 : decode cX6_copyFrom 70 = .ok (.bipush 8, 2) := o_16 BX6_copyFrom rfl rfl rfl
theorem dX6_copyFrom_72 : decode cX6_copyFrom 72 = .ok (.invokestatic 46, 3) := o_184 BX6_copyFrom rfl rfl rfl
theorem dX6_copyFrom_75 : decode cX6_copyFrom 75 = .ok (.aload_n 1, 1) := o_43 BX6_copyFrom rfl rfl
theorem dX6_copyFrom_76 : decode cX6_copyFrom 76 = .ok (.getfield 27, 3) := o_180 BX6_copyFrom rfl rfl rfl
theorem dX6_copyFrom_79 : decode cX6_copyFrom 79 = .ok (.iconst 0, 1) := o_3 BX6_copyFrom rfl rfl
theorem dX6_copyFrom_80 : decode cX6_copyFrom 80 = .ok (.aload_n 0, 1) := o_42 BX6_copyFrom rfl rfl
theorem dX6_copyFrom_81 : decode cX6_copyFrom 81 = .ok (.getfield 27, 3) := o_180 BX6_copyFrom rfl rfl rfl
theorem dX6_copyFrom_84 : decode cX6_copyFrom 84 = .ok (.iconst 0, 1) := o_3 BX6_copyFrom rfl rfl
theorem dX6_copyFrom_85 : decode cX6_copyFrom 85 = .ok (.bipush 8, 2) := o_16 BX6_copyFrom rfl rfl rfl
theorem dX6_copyFrom_87 : decode cX6_copyFrom 87 = .ok (.invokestatic 46, 3) := o_184 BX6_copyFrom rfl rfl rfl
theorem dX6_copyFrom_90 : decode cX6_copyFrom 90 = .ok (.aload_n 0, 1) := o_42 BX6_copyFrom rfl rfl
theorem dX6_copyFrom_91 : decode cX6_copyFrom 91 = .ok (.aload_n 1, 1) := o_43 BX6_copyFrom rfl rfl
theorem dX6_copyFrom_92 : decode cX6_copyFrom 92 = .ok (.getfield 30, 3) := o_180 BX6_copyFrom rfl rfl rfl
theorem dX6_copyFrom_95 : decode cX6_copyFrom 95 = .ok (.putfield 30, 3) := o_181 BX6_copyFrom rfl rfl rfl
theorem dX6_copyFrom_98 : decode cX6_copyFrom 98 = .ok (.aload_n 0, 1) := o_42 BX6_copyFrom rfl rfl
theorem dX6_copyFrom_99 : decode cX6_copyFrom 99 = .ok (.aload_n 1, 1) := o_43 BX6_copyFrom rfl rfl
theorem dX6_copyFrom_100 : decode cX6_copyFrom 100 = .ok (.getfield 34, 3) := o_180 BX6_copyFrom rfl rfl rfl
theorem dX6_copyFrom_103 : decode cX6_copyFrom 103 = .ok (.putfield 34, 3) := o_181 BX6_copyFrom rfl rfl rfl
theorem dX6_copyFrom_106 : decode cX6_copyFrom 106 = .ok (.aload_n 0, 1) := o_42 BX6_copyFrom rfl rfl
theorem dX6_copyFrom_107 : decode cX6_copyFrom 107 = .ok (.aload_n 1, 1) := o_43 BX6_copyFrom rfl rfl
theorem dX6_copyFrom_108 : decode cX6_copyFrom 108 = .ok (.getfield 37, 3) := o_180 BX6_copyFrom rfl rfl rfl
theorem dX6_copyFrom_111 : decode cX6_copyFrom 111 = .ok (.putfield 37, 3) := o_181 BX6_copyFrom rfl rfl rfl
theorem dX6_copyFrom_114 : decode cX6_copyFrom 114 = .ok (.aload_n 0, 1) := o_42 BX6_copyFrom rfl rfl
theorem dX6_copyFrom_115 : decode cX6_copyFrom 115 = .ok (.aload_n 1, 1) := o_43 BX6_copyFrom rfl rfl
theorem dX6_copyFrom_116 : decode cX6_copyFrom 116 = .ok (.getfield 40, 3) := o_180 BX6_copyFrom rfl rfl rfl
theorem dX6_copyFrom_119 : decode cX6_copyFrom 119 = .ok (.putfield 40, 3) := o_181 BX6_copyFrom rfl rfl rfl
theorem dX6_copyFrom_122 : decode cX6_copyFrom 122 = .ok (.aload_n 0, 1) := o_42 BX6_copyFrom rfl rfl
theorem dX6_copyFrom_123 : decode cX6_copyFrom 123 = .ok (.aload_n 1, 1) := o_43 BX6_copyFrom rfl rfl
theorem dX6_copyFrom_124 : decode cX6_copyFrom 124 = .ok (.getfield 43, 3) := o_180 BX6_copyFrom rfl rfl rfl
theorem dX6_copyFrom_127 : decode cX6_copyFrom 127 = .ok (.putfield 43, 3) := o_181 BX6_copyFrom rfl rfl rfl
theorem dX6_copyFrom_130 : decode cX6_copyFrom 130 = .ok (.return_, 1) := o_177 BX6_copyFrom rfl rfl
theorem dX6_isHearse_0 : decode cX6_isHearse 0 = .ok (.iload_n 1, 1) := o_27 BX6_isHearse rfl rfl
theorem dX6_isHearse_1 : decode cX6_isHearse 1 = .ok (.ifCond .lt 15, 3) := o_155 BX6_isHearse rfl rfl rfl
theorem dX6_isHearse_4 : decode cX6_isHearse 4 = .ok (.iload_n 1, 1) := o_27 BX6_isHearse rfl rfl
theorem dX6_isHearse_5 : decode cX6_isHearse 5 = .ok (.aload_n 0, 1) := o_42 BX6_isHearse rfl rfl
theorem dX6_isHearse_6 : decode cX6_isHearse 6 = .ok (.getfield 30, 3) := o_180 BX6_isHearse rfl rfl rfl
theorem dX6_isHearse_9 : decode cX6_isHearse 9 = .ok (.if_icmp .ge 7, 3) := o_162 BX6_isHearse rfl rfl rfl
theorem dX6_isHearse_12 : decode cX6_isHearse 12 = .ok (.iconst 1, 1) := o_4 BX6_isHearse rfl rfl
theorem dX6_isHearse_13 : decode cX6_isHearse 13 = .ok (.goto 4, 3) := o_167 BX6_isHearse rfl rfl rfl
theorem dX6_isHearse_16 : decode cX6_isHearse 16 = .ok (.iconst 0, 1) := o_3 BX6_isHearse rfl rfl
theorem dX6_isHearse_17 : decode cX6_isHearse 17 = .ok (.ireturn, 1) := o_172 BX6_isHearse rfl rfl
theorem dX6_isMourner_0 : decode cX6_isMourner 0 = .ok (.iload_n 1, 1) := o_27 BX6_isMourner rfl rfl
theorem dX6_isMourner_1 : decode cX6_isMourner 1 = .ok (.ifCond .lt 15, 3) := o_155 BX6_isMourner rfl rfl rfl
theorem dX6_isMourner_4 : decode cX6_isMourner 4 = .ok (.iload_n 1, 1) := o_27 BX6_isMourner rfl rfl
theorem dX6_isMourner_5 : decode cX6_isMourner 5 = .ok (.aload_n 0, 1) := o_42 BX6_isMourner rfl rfl
theorem dX6_isMourner_6 : decode cX6_isMourner 6 = .ok (.getfield 34, 3) := o_180 BX6_isMourner rfl rfl rfl
theorem dX6_isMourner_9 : decode cX6_isMourner 9 = .ok (.if_icmp .ge 7, 3) := o_162 BX6_isMourner rfl rfl rfl
theorem dX6_isMourner_12 : decode cX6_isMourner 12 = .ok (.iconst 1, 1) := o_4 BX6_isMourner rfl rfl
theorem dX6_isMourner_13 : decode cX6_isMourner 13 = .ok (.goto 4, 3) := o_167 BX6_isMourner rfl rfl rfl
theorem dX6_isMourner_16 : decode cX6_isMourner 16 = .ok (.iconst 0, 1) := o_3 BX6_isMourner rfl rfl
theorem dX6_isMourner_17 : decode cX6_isMourner 17 = .ok (.ireturn, 1) := o_172 BX6_isMourner rfl rfl
theorem dX6_hasArrived_0 : decode cX6_hasArrived 0 = .ok (.aload_n 0, 1) := o_42 BX6_hasArrived rfl rfl
theorem dX6_hasArrived_1 : decode cX6_hasArrived 1 = .ok (.getfield 15, 3) := o_180 BX6_hasArrived rfl rfl rfl
theorem dX6_hasArrived_4 : decode cX6_hasArrived 4 = .ok (.iload_n 1, 1) := o_27 BX6_hasArrived rfl rfl
theorem dX6_hasArrived_5 : decode cX6_hasArrived 5 = .ok (.iaload, 1) := o_46 BX6_hasArrived rfl rfl
theorem dX6_hasArrived_6 : decode cX6_hasArrived 6 = .ok (.ifCond .le 7, 3) := o_158 BX6_hasArrived rfl rfl rfl
theorem dX6_hasArrived_9 : decode cX6_hasArrived 9 = .ok (.iconst 1, 1) := o_4 BX6_hasArrived rfl rfl
theorem dX6_hasArrived_10 : decode cX6_hasArrived 10 = .ok (.goto 4, 3) := o_167 BX6_hasArrived rfl rfl rfl
theorem dX6_hasArrived_13 : decode cX6_hasArrived 13 = .ok (.iconst 0, 1) := o_3 BX6_hasArrived rfl rfl
theorem dX6_hasArrived_14 : decode cX6_hasArrived 14 = .ok (.ireturn, 1) := o_172 BX6_hasArrived rfl rfl
theorem dX6_hasEnded_0 : decode cX6_hasEnded 0 = .ok (.aload_n 0, 1) := o_42 BX6_hasEnded rfl rfl
theorem dX6_hasEnded_1 : decode cX6_hasEnded 1 = .ok (.getfield 27, 3) := o_180 BX6_hasEnded rfl rfl rfl
theorem dX6_hasEnded_4 : decode cX6_hasEnded 4 = .ok (.iload_n 1, 1) := o_27 BX6_hasEnded rfl rfl
theorem dX6_hasEnded_5 : decode cX6_hasEnded 5 = .ok (.iaload, 1) := o_46 BX6_hasEnded rfl rfl
theorem dX6_hasEnded_6 : decode cX6_hasEnded 6 = .ok (.iconst (-1), 1) := o_2 BX6_hasEnded rfl rfl
theorem dX6_hasEnded_7 : decode cX6_hasEnded 7 = .ok (.if_icmp .eq 7, 3) := o_159 BX6_hasEnded rfl rfl rfl
theorem dX6_hasEnded_10 : decode cX6_hasEnded 10 = .ok (.iconst 1, 1) := o_4 BX6_hasEnded rfl rfl
theorem dX6_hasEnded_11 : decode cX6_hasEnded 11 = .ok (.goto 4, 3) := o_167 BX6_hasEnded rfl rfl rfl
theorem dX6_hasEnded_14 : decode cX6_hasEnded 14 = .ok (.iconst 0, 1) := o_3 BX6_hasEnded rfl rfl
theorem dX6_hasEnded_15 : decode cX6_hasEnded 15 = .ok (.ireturn, 1) := o_172 BX6_hasEnded rfl rfl
theorem dX6_isRight_0 : decode cX6_isRight 0 = .ok (.aload_n 0, 1) := o_42 BX6_isRight rfl rfl
theorem dX6_isRight_1 : decode cX6_isRight 1 = .ok (.getfield 27, 3) := o_180 BX6_isRight rfl rfl rfl
theorem dX6_isRight_4 : decode cX6_isRight 4 = .ok (.iload_n 1, 1) := o_27 BX6_isRight rfl rfl
theorem dX6_isRight_5 : decode cX6_isRight 5 = .ok (.iaload, 1) := o_46 BX6_isRight rfl rfl
theorem dX6_isRight_6 : decode cX6_isRight 6 = .ok (.aload_n 0, 1) := o_42 BX6_isRight rfl rfl
theorem dX6_isRight_7 : decode cX6_isRight 7 = .ok (.getfield 21, 3) := o_180 BX6_isRight rfl rfl rfl
theorem dX6_isRight_10 : decode cX6_isRight 10 = .ok (.iload_n 1, 1) := o_27 BX6_isRight rfl rfl
theorem dX6_isRight_11 : decode cX6_isRight 11 = .ok (.iaload, 1) := o_46 BX6_isRight rfl rfl
theorem dX6_isRight_12 : decode cX6_isRight 12 = .ok (.if_icmp .ne 7, 3) := o_160 BX6_isRight rfl rfl rfl
theorem dX6_isRight_15 : decode cX6_isRight 15 = .ok (.iconst 1, 1) := o_4 BX6_isRight rfl rfl
theorem dX6_isRight_16 : decode cX6_isRight 16 = .ok (.goto 4, 3) := o_167 BX6_isRight rfl rfl rfl
theorem dX6_isRight_19 : decode cX6_isRight 19 = .ok (.iconst 0, 1) := o_3 BX6_isRight rfl rfl
theorem dX6_isRight_20 : decode cX6_isRight 20 = .ok (.ireturn, 1) := o_172 BX6_isRight rfl rfl
theorem dX6_addHearse_0 : decode cX6_addHearse 0 = .ok (.aload_n 0, 1) := o_42 BX6_addHearse rfl rfl
theorem dX6_addHearse_1 : decode cX6_addHearse 1 = .ok (.getfield 9, 3) := o_180 BX6_addHearse rfl rfl rfl
theorem dX6_addHearse_4 : decode cX6_addHearse 4 = .ok (.aload_n 0, 1) := o_42 BX6_addHearse rfl rfl
theorem dX6_addHearse_5 : decode cX6_addHearse 5 = .ok (.getfield 30, 3) := o_180 BX6_addHearse rfl rfl rfl
theorem dX6_addHearse_8 : decode cX6_addHearse 8 = .ok (.iload_n 1, 1) := o_27 BX6_addHearse rfl rfl
theorem dX6_addHearse_9 : decode cX6_addHearse 9 = .ok (.iastore, 1) := o_79 BX6_addHearse rfl rfl
theorem dX6_addHearse_10 : decode cX6_addHearse 10 = .ok (.aload_n 0, 1) := o_42 BX6_addHearse rfl rfl
theorem dX6_addHearse_11 : decode cX6_addHearse 11 = .ok (.getfield 15, 3) := o_180 BX6_addHearse rfl rfl rfl
theorem dX6_addHearse_14 : decode cX6_addHearse 14 = .ok (.aload_n 0, 1) := o_42 BX6_addHearse rfl rfl
theorem dX6_addHearse_15 : decode cX6_addHearse 15 = .ok (.getfield 30, 3) := o_180 BX6_addHearse rfl rfl rfl
theorem dX6_addHearse_18 : decode cX6_addHearse 18 = .ok (.iconst 0, 1) := o_3 BX6_addHearse rfl rfl
theorem dX6_addHearse_19 : decode cX6_addHearse 19 = .ok (.iastore, 1) := o_79 BX6_addHearse rfl rfl
theorem dX6_addHearse_20 : decode cX6_addHearse 20 = .ok (.aload_n 0, 1) := o_42 BX6_addHearse rfl rfl
theorem dX6_addHearse_21 : decode cX6_addHearse 21 = .ok (.dup, 1) := o_89 BX6_addHearse rfl rfl
theorem dX6_addHearse_22 : decode cX6_addHearse 22 = .ok (.getfield 30, 3) := o_180 BX6_addHearse rfl rfl rfl
theorem dX6_addHearse_25 : decode cX6_addHearse 25 = .ok (.iconst 1, 1) := o_4 BX6_addHearse rfl rfl
theorem dX6_addHearse_26 : decode cX6_addHearse 26 = .ok (.iadd, 1) := o_96 BX6_addHearse rfl rfl
theorem dX6_addHearse_27 : decode cX6_addHearse 27 = .ok (.putfield 30, 3) := o_181 BX6_addHearse rfl rfl rfl
theorem dX6_addHearse_30 : decode cX6_addHearse 30 = .ok (.return_, 1) := o_177 BX6_addHearse rfl rfl
theorem dX6_addMourner_0 : decode cX6_addMourner 0 = .ok (.aload_n 0, 1) := o_42 BX6_addMourner rfl rfl
theorem dX6_addMourner_1 : decode cX6_addMourner 1 = .ok (.getfield 18, 3) := o_180 BX6_addMourner rfl rfl rfl
theorem dX6_addMourner_4 : decode cX6_addMourner 4 = .ok (.aload_n 0, 1) := o_42 BX6_addMourner rfl rfl
theorem dX6_addMourner_5 : decode cX6_addMourner 5 = .ok (.getfield 34, 3) := o_180 BX6_addMourner rfl rfl rfl
theorem dX6_addMourner_8 : decode cX6_addMourner 8 = .ok (.iload_n 1, 1) := o_27 BX6_addMourner rfl rfl
theorem dX6_addMourner_9 : decode cX6_addMourner 9 = .ok (.iastore, 1) := o_79 BX6_addMourner rfl rfl
theorem dX6_addMourner_10 : decode cX6_addMourner 10 = .ok (.aload_n 0, 1) := o_42 BX6_addMourner rfl rfl
theorem dX6_addMourner_11 : decode cX6_addMourner 11 = .ok (.getfield 21, 3) := o_180 BX6_addMourner rfl rfl rfl
theorem dX6_addMourner_14 : decode cX6_addMourner 14 = .ok (.aload_n 0, 1) := o_42 BX6_addMourner rfl rfl
theorem dX6_addMourner_15 : decode cX6_addMourner 15 = .ok (.getfield 34, 3) := o_180 BX6_addMourner rfl rfl rfl
theorem dX6_addMourner_18 : decode cX6_addMourner 18 = .ok (.iload_n 2, 1) := o_28 BX6_addMourner rfl rfl
theorem dX6_addMourner_19 : decode cX6_addMourner 19 = .ok (.iastore, 1) := o_79 BX6_addMourner rfl rfl
theorem dX6_addMourner_20 : decode cX6_addMourner 20 = .ok (.aload_n 0, 1) := o_42 BX6_addMourner rfl rfl
theorem dX6_addMourner_21 : decode cX6_addMourner 21 = .ok (.getfield 24, 3) := o_180 BX6_addMourner rfl rfl rfl
theorem dX6_addMourner_24 : decode cX6_addMourner 24 = .ok (.aload_n 0, 1) := o_42 BX6_addMourner rfl rfl
theorem dX6_addMourner_25 : decode cX6_addMourner 25 = .ok (.getfield 34, 3) := o_180 BX6_addMourner rfl rfl rfl
theorem dX6_addMourner_28 : decode cX6_addMourner 28 = .ok (.iconst (-1), 1) := o_2 BX6_addMourner rfl rfl
theorem dX6_addMourner_29 : decode cX6_addMourner 29 = .ok (.iastore, 1) := o_79 BX6_addMourner rfl rfl
theorem dX6_addMourner_30 : decode cX6_addMourner 30 = .ok (.aload_n 0, 1) := o_42 BX6_addMourner rfl rfl
theorem dX6_addMourner_31 : decode cX6_addMourner 31 = .ok (.getfield 27, 3) := o_180 BX6_addMourner rfl rfl rfl
theorem dX6_addMourner_34 : decode cX6_addMourner 34 = .ok (.aload_n 0, 1) := o_42 BX6_addMourner rfl rfl
theorem dX6_addMourner_35 : decode cX6_addMourner 35 = .ok (.getfield 34, 3) := o_180 BX6_addMourner rfl rfl rfl
theorem dX6_addMourner_38 : decode cX6_addMourner 38 = .ok (.iconst (-1), 1) := o_2 BX6_addMourner rfl rfl
theorem dX6_addMourner_39 : decode cX6_addMourner 39 = .ok (.iastore, 1) := o_79 BX6_addMourner rfl rfl
theorem dX6_addMourner_40 : decode cX6_addMourner 40 = .ok (.aload_n 0, 1) := o_42 BX6_addMourner rfl rfl
theorem dX6_addMourner_41 : decode cX6_addMourner 41 = .ok (.dup, 1) := o_89 BX6_addMourner rfl rfl
theorem dX6_addMourner_42 : decode cX6_addMourner 42 = .ok (.getfield 34, 3) := o_180 BX6_addMourner rfl rfl rfl
theorem dX6_addMourner_45 : decode cX6_addMourner 45 = .ok (.iconst 1, 1) := o_4 BX6_addMourner rfl rfl
theorem dX6_addMourner_46 : decode cX6_addMourner 46 = .ok (.iadd, 1) := o_96 BX6_addMourner rfl rfl
theorem dX6_addMourner_47 : decode cX6_addMourner 47 = .ok (.putfield 34, 3) := o_181 BX6_addMourner rfl rfl rfl
theorem dX6_addMourner_50 : decode cX6_addMourner 50 = .ok (.return_, 1) := o_177 BX6_addMourner rfl rfl
theorem dX6_arrive_0 : decode cX6_arrive 0 = .ok (.aload_n 0, 1) := o_42 BX6_arrive rfl rfl
theorem dX6_arrive_1 : decode cX6_arrive 1 = .ok (.dup, 1) := o_89 BX6_arrive rfl rfl
theorem dX6_arrive_2 : decode cX6_arrive 2 = .ok (.getfield 37, 3) := o_180 BX6_arrive rfl rfl rfl
theorem dX6_arrive_5 : decode cX6_arrive 5 = .ok (.iconst 1, 1) := o_4 BX6_arrive rfl rfl
theorem dX6_arrive_6 : decode cX6_arrive 6 = .ok (.iadd, 1) := o_96 BX6_arrive rfl rfl
theorem dX6_arrive_7 : decode cX6_arrive 7 = .ok (.putfield 37, 3) := o_181 BX6_arrive rfl rfl rfl
theorem dX6_arrive_10 : decode cX6_arrive 10 = .ok (.aload_n 0, 1) := o_42 BX6_arrive rfl rfl
theorem dX6_arrive_11 : decode cX6_arrive 11 = .ok (.getfield 15, 3) := o_180 BX6_arrive rfl rfl rfl
theorem dX6_arrive_14 : decode cX6_arrive 14 = .ok (.iload_n 1, 1) := o_27 BX6_arrive rfl rfl
theorem dX6_arrive_15 : decode cX6_arrive 15 = .ok (.aload_n 0, 1) := o_42 BX6_arrive rfl rfl
theorem dX6_arrive_16 : decode cX6_arrive 16 = .ok (.getfield 37, 3) := o_180 BX6_arrive rfl rfl rfl
theorem dX6_arrive_19 : decode cX6_arrive 19 = .ok (.iastore, 1) := o_79 BX6_arrive rfl rfl
theorem dX6_arrive_20 : decode cX6_arrive 20 = .ok (.aload_n 0, 1) := o_42 BX6_arrive rfl rfl
theorem dX6_arrive_21 : decode cX6_arrive 21 = .ok (.getfield 9, 3) := o_180 BX6_arrive rfl rfl rfl
theorem dX6_arrive_24 : decode cX6_arrive 24 = .ok (.iload_n 1, 1) := o_27 BX6_arrive rfl rfl
theorem dX6_arrive_25 : decode cX6_arrive 25 = .ok (.iconst (-1), 1) := o_2 BX6_arrive rfl rfl
theorem dX6_arrive_26 : decode cX6_arrive 26 = .ok (.iastore, 1) := o_79 BX6_arrive rfl rfl
theorem dX6_arrive_27 : decode cX6_arrive 27 = .ok (.return_, 1) := o_177 BX6_arrive rfl rfl
theorem dX6_takeAway_0 : decode cX6_takeAway 0 = .ok (.aload_n 0, 1) := o_42 BX6_takeAway rfl rfl
theorem dX6_takeAway_1 : decode cX6_takeAway 1 = .ok (.iload_n 1, 1) := o_27 BX6_takeAway rfl rfl
theorem dX6_takeAway_2 : decode cX6_takeAway 2 = .ok (.invokevirtual 52, 3) := o_182 BX6_takeAway rfl rfl rfl
theorem dX6_takeAway_5 : decode cX6_takeAway 5 = .ok (.iconst 0, 1) := o_3 BX6_takeAway rfl rfl
theorem dX6_takeAway_6 : decode cX6_takeAway 6 = .ok (.istore_n 2, 1) := o_61 BX6_takeAway rfl rfl
theorem dX6_takeAway_7 : decode cX6_takeAway 7 = .ok (.iload_n 2, 1) := o_28 BX6_takeAway rfl rfl
theorem dX6_takeAway_8 : decode cX6_takeAway 8 = .ok (.aload_n 0, 1) := o_42 BX6_takeAway rfl rfl
theorem dX6_takeAway_9 : decode cX6_takeAway 9 = .ok (.getfield 34, 3) := o_180 BX6_takeAway rfl rfl rfl
theorem dX6_takeAway_12 : decode cX6_takeAway 12 = .ok (.if_icmp .ge 26, 3) := o_162 BX6_takeAway rfl rfl rfl
theorem dX6_takeAway_15 : decode cX6_takeAway 15 = .ok (.aload_n 0, 1) := o_42 BX6_takeAway rfl rfl
theorem dX6_takeAway_16 : decode cX6_takeAway 16 = .ok (.getfield 24, 3) := o_180 BX6_takeAway rfl rfl rfl
theorem dX6_takeAway_19 : decode cX6_takeAway 19 = .ok (.iload_n 2, 1) := o_28 BX6_takeAway rfl rfl
theorem dX6_takeAway_20 : decode cX6_takeAway 20 = .ok (.iaload, 1) := o_46 BX6_takeAway rfl rfl
theorem dX6_takeAway_21 : decode cX6_takeAway 21 = .ok (.iload_n 1, 1) := o_27 BX6_takeAway rfl rfl
theorem dX6_takeAway_22 : decode cX6_takeAway 22 = .ok (.if_icmp .ne 10, 3) := o_160 BX6_takeAway rfl rfl rfl
theorem dX6_takeAway_25 : decode cX6_takeAway 25 = .ok (.aload_n 0, 1) := o_42 BX6_takeAway rfl rfl
theorem dX6_takeAway_26 : decode cX6_takeAway 26 = .ok (.getfield 24, 3) := o_180 BX6_takeAway rfl rfl rfl
theorem dX6_takeAway_29 : decode cX6_takeAway 29 = .ok (.iload_n 2, 1) := o_28 BX6_takeAway rfl rfl
theorem dX6_takeAway_30 : decode cX6_takeAway 30 = .ok (.iconst (-1), 1) := o_2 BX6_takeAway rfl rfl
theorem dX6_takeAway_31 : decode cX6_takeAway 31 = .ok (.iastore, 1) := o_79 BX6_takeAway rfl rfl
theorem dX6_takeAway_32 : decode cX6_takeAway 32 = .ok (.iinc 2 1, 3) := o_132 BX6_takeAway rfl rfl rfl rfl
theorem dX6_takeAway_35 : decode cX6_takeAway 35 = .ok (.goto (-28), 3) := o_167 BX6_takeAway rfl rfl rfl
theorem dX6_takeAway_38 : decode cX6_takeAway 38 = .ok (.return_, 1) := o_177 BX6_takeAway rfl rfl
theorem dX6_endAt_0 : decode cX6_endAt 0 = .ok (.aload_n 0, 1) := o_42 BX6_endAt rfl rfl
theorem dX6_endAt_1 : decode cX6_endAt 1 = .ok (.getfield 27, 3) := o_180 BX6_endAt rfl rfl rfl
theorem dX6_endAt_4 : decode cX6_endAt 4 = .ok (.iload_n 1, 1) := o_27 BX6_endAt rfl rfl
theorem dX6_endAt_5 : decode cX6_endAt 5 = .ok (.iload_n 2, 1) := o_28 BX6_endAt rfl rfl
theorem dX6_endAt_6 : decode cX6_endAt 6 = .ok (.iastore, 1) := o_79 BX6_endAt rfl rfl
theorem dX6_endAt_7 : decode cX6_endAt 7 = .ok (.aload_n 0, 1) := o_42 BX6_endAt rfl rfl
theorem dX6_endAt_8 : decode cX6_endAt 8 = .ok (.dup, 1) := o_89 BX6_endAt rfl rfl
theorem dX6_endAt_9 : decode cX6_endAt 9 = .ok (.getfield 40, 3) := o_180 BX6_endAt rfl rfl rfl
theorem dX6_endAt_12 : decode cX6_endAt 12 = .ok (.iconst 1, 1) := o_4 BX6_endAt rfl rfl
theorem dX6_endAt_13 : decode cX6_endAt 13 = .ok (.iadd, 1) := o_96 BX6_endAt rfl rfl
theorem dX6_endAt_14 : decode cX6_endAt 14 = .ok (.putfield 40, 3) := o_181 BX6_endAt rfl rfl rfl
theorem dX6_endAt_17 : decode cX6_endAt 17 = .ok (.return_, 1) := o_177 BX6_endAt rfl rfl
theorem dX6_placeHearses_0 : decode cX6_placeHearses 0 = .ok (.iconst 0, 1) := o_3 BX6_placeHearses rfl rfl
theorem dX6_placeHearses_1 : decode cX6_placeHearses 1 = .ok (.istore_n 2, 1) := o_61 BX6_placeHearses rfl rfl
theorem dX6_placeHearses_2 : decode cX6_placeHearses 2 = .ok (.iconst 0, 1) := o_3 BX6_placeHearses rfl rfl
theorem dX6_placeHearses_3 : decode cX6_placeHearses 3 = .ok (.istore_n 3, 1) := o_62 BX6_placeHearses rfl rfl
theorem dX6_placeHearses_4 : decode cX6_placeHearses 4 = .ok (.iload_n 3, 1) := o_29 BX6_placeHearses rfl rfl
theorem dX6_placeHearses_5 : decode cX6_placeHearses 5 = .ok (.aload_n 0, 1) := o_42 BX6_placeHearses rfl rfl
theorem dX6_placeHearses_6 : decode cX6_placeHearses 6 = .ok (.getfield 30, 3) := o_180 BX6_placeHearses rfl rfl rfl
theorem dX6_placeHearses_9 : decode cX6_placeHearses 9 = .ok (.if_icmp .ge 29, 3) := o_162 BX6_placeHearses rfl rfl rfl
theorem dX6_placeHearses_12 : decode cX6_placeHearses 12 = .ok (.aload_n 0, 1) := o_42 BX6_placeHearses rfl rfl
theorem dX6_placeHearses_13 : decode cX6_placeHearses 13 = .ok (.iload_n 3, 1) := o_29 BX6_placeHearses rfl rfl
theorem dX6_placeHearses_14 : decode cX6_placeHearses 14 = .ok (.invokevirtual 56, 3) := o_182 BX6_placeHearses rfl rfl rfl
theorem dX6_placeHearses_17 : decode cX6_placeHearses 17 = .ok (.ifCond .ne 15, 3) := o_154 BX6_placeHearses rfl rfl rfl
theorem dX6_placeHearses_20 : decode cX6_placeHearses 20 = .ok (.aload_n 0, 1) := o_42 BX6_placeHearses rfl rfl
theorem dX6_placeHearses_21 : decode cX6_placeHearses 21 = .ok (.getfield 9, 3) := o_180 BX6_placeHearses rfl rfl rfl
theorem dX6_placeHearses_24 : decode cX6_placeHearses 24 = .ok (.iload_n 3, 1) := o_29 BX6_placeHearses rfl rfl
theorem dX6_placeHearses_25 : decode cX6_placeHearses 25 = .ok (.aload_n 1, 1) := o_43 BX6_placeHearses rfl rfl
theorem dX6_placeHearses_26 : decode cX6_placeHearses 26 = .ok (.iload_n 2, 1) := o_28 BX6_placeHearses rfl rfl
theorem dX6_placeHearses_27 : decode cX6_placeHearses 27 = .ok (.iaload, 1) := o_46 BX6_placeHearses rfl rfl
theorem dX6_placeHearses_28 : decode cX6_placeHearses 28 = .ok (.iastore, 1) := o_79 BX6_placeHearses rfl rfl
theorem dX6_placeHearses_29 : decode cX6_placeHearses 29 = .ok (.iinc 2 1, 3) := o_132 BX6_placeHearses rfl rfl rfl rfl
theorem dX6_placeHearses_32 : decode cX6_placeHearses 32 = .ok (.iinc 3 1, 3) := o_132 BX6_placeHearses rfl rfl rfl rfl
theorem dX6_placeHearses_35 : decode cX6_placeHearses 35 = .ok (.goto (-31), 3) := o_167 BX6_placeHearses rfl rfl rfl
theorem dX6_placeHearses_38 : decode cX6_placeHearses 38 = .ok (.return_, 1) := o_177 BX6_placeHearses rfl rfl
theorem dX6_turn_0 : decode cX6_turn 0 = .ok (.aload_n 0, 1) := o_42 BX6_turn rfl rfl
theorem dX6_turn_1 : decode cX6_turn 1 = .ok (.iload_n 1, 1) := o_27 BX6_turn rfl rfl
theorem dX6_turn_2 : decode cX6_turn 2 = .ok (.invokevirtual 60, 3) := o_182 BX6_turn rfl rfl rfl
theorem dX6_turn_5 : decode cX6_turn 5 = .ok (.ifCond .ne 5, 3) := o_154 BX6_turn rfl rfl rfl
theorem dX6_turn_8 : decode cX6_turn 8 = .ok (.iconst (-1), 1) := o_2 BX6_turn rfl rfl
theorem dX6_turn_9 : decode cX6_turn 9 = .ok (.ireturn, 1) := o_172 BX6_turn rfl rfl
theorem dX6_turn_10 : decode cX6_turn 10 = .ok (.aload_n 0, 1) := o_42 BX6_turn rfl rfl
theorem dX6_turn_11 : decode cX6_turn 11 = .ok (.iload_n 1, 1) := o_27 BX6_turn rfl rfl
theorem dX6_turn_12 : decode cX6_turn 12 = .ok (.invokevirtual 63, 3) := o_182 BX6_turn rfl rfl rfl
theorem dX6_turn_15 : decode cX6_turn 15 = .ok (.ifCond .eq 6, 3) := o_153 BX6_turn rfl rfl rfl
theorem dX6_turn_18 : decode cX6_turn 18 = .ok (.bipush (-2), 2) := o_16 BX6_turn rfl rfl rfl
theorem dX6_turn_20 : decode cX6_turn 20 = .ok (.ireturn, 1) := o_172 BX6_turn rfl rfl
theorem dX6_turn_21 : decode cX6_turn 21 = .ok (.aload_n 0, 1) := o_42 BX6_turn rfl rfl
theorem dX6_turn_22 : decode cX6_turn 22 = .ok (.getfield 24, 3) := o_180 BX6_turn rfl rfl rfl
theorem dX6_turn_25 : decode cX6_turn 25 = .ok (.iload_n 1, 1) := o_27 BX6_turn rfl rfl
theorem dX6_turn_26 : decode cX6_turn 26 = .ok (.iaload, 1) := o_46 BX6_turn rfl rfl
theorem dX6_turn_27 : decode cX6_turn 27 = .ok (.istore_n 2, 1) := o_61 BX6_turn rfl rfl
theorem dX6_turn_28 : decode cX6_turn 28 = .ok (.aload_n 0, 1) := o_42 BX6_turn rfl rfl
theorem dX6_turn_29 : decode cX6_turn 29 = .ok (.aload_n 0, 1) := o_42 BX6_turn rfl rfl
theorem dX6_turn_30 : decode cX6_turn 30 = .ok (.getfield 21, 3) := o_180 BX6_turn rfl rfl rfl
theorem dX6_turn_33 : decode cX6_turn 33 = .ok (.iload_n 1, 1) := o_27 BX6_turn rfl rfl
theorem dX6_turn_34 : decode cX6_turn 34 = .ok (.iaload, 1) := o_46 BX6_turn rfl rfl
theorem dX6_turn_35 : decode cX6_turn 35 = .ok (.invokevirtual 56, 3) := o_182 BX6_turn rfl rfl rfl
theorem dX6_turn_38 : decode cX6_turn 38 = .ok (.ifCond .ne 13, 3) := o_154 BX6_turn rfl rfl rfl
theorem dX6_turn_41 : decode cX6_turn 41 = .ok (.iload_n 2, 1) := o_28 BX6_turn rfl rfl
theorem dX6_turn_42 : decode cX6_turn 42 = .ok (.aload_n 0, 1) := o_42 BX6_turn rfl rfl
theorem dX6_turn_43 : decode cX6_turn 43 = .ok (.getfield 21, 3) := o_180 BX6_turn rfl rfl rfl
theorem dX6_turn_46 : decode cX6_turn 46 = .ok (.iload_n 1, 1) := o_27 BX6_turn rfl rfl
theorem dX6_turn_47 : decode cX6_turn 47 = .ok (.iaload, 1) := o_46 BX6_turn rfl rfl
theorem dX6_turn_48 : decode cX6_turn 48 = .ok (.if_icmp .ne 6, 3) := o_160 BX6_turn rfl rfl rfl
theorem dX6_turn_51 : decode cX6_turn 51 = .ok (.bipush (-3), 2) := o_16 BX6_turn rfl rfl rfl
theorem dX6_turn_53 : decode cX6_turn 53 = .ok (.ireturn, 1) := o_172 BX6_turn rfl rfl
theorem dX6_turn_54 : decode cX6_turn 54 = .ok (.aload_n 0, 1) := o_42 BX6_turn rfl rfl
theorem dX6_turn_55 : decode cX6_turn 55 = .ok (.getfield 24, 3) := o_180 BX6_turn rfl rfl rfl
theorem dX6_turn_58 : decode cX6_turn 58 = .ok (.iload_n 1, 1) := o_27 BX6_turn rfl rfl
theorem dX6_turn_59 : decode cX6_turn 59 = .ok (.aload_n 0, 1) := o_42 BX6_turn rfl rfl
theorem dX6_turn_60 : decode cX6_turn 60 = .ok (.getfield 21, 3) := o_180 BX6_turn rfl rfl rfl
theorem dX6_turn_63 : decode cX6_turn 63 = .ok (.iload_n 1, 1) := o_27 BX6_turn rfl rfl
theorem dX6_turn_64 : decode cX6_turn 64 = .ok (.iaload, 1) := o_46 BX6_turn rfl rfl
theorem dX6_turn_65 : decode cX6_turn 65 = .ok (.iastore, 1) := o_79 BX6_turn rfl rfl
theorem dX6_turn_66 : decode cX6_turn 66 = .ok (.iload_n 2, 1) := o_28 BX6_turn rfl rfl
theorem dX6_turn_67 : decode cX6_turn 67 = .ok (.iconst (-1), 1) := o_2 BX6_turn rfl rfl
theorem dX6_turn_68 : decode cX6_turn 68 = .ok (.if_icmp .ne 8, 3) := o_160 BX6_turn rfl rfl rfl
theorem dX6_turn_71 : decode cX6_turn 71 = .ok (.bipush (-4), 2) := o_16 BX6_turn rfl rfl rfl
theorem dX6_turn_73 : decode cX6_turn 73 = .ok (.goto 4, 3) := o_167 BX6_turn rfl rfl rfl
theorem dX6_turn_76 : decode cX6_turn 76 = .ok (.iload_n 2, 1) := o_28 BX6_turn rfl rfl
theorem dX6_turn_77 : decode cX6_turn 77 = .ok (.ireturn, 1) := o_172 BX6_turn rfl rfl
theorem dX6_shove_0 : decode cX6_shove 0 = .ok (.aload_n 0, 1) := o_42 BX6_shove rfl rfl
theorem dX6_shove_1 : decode cX6_shove 1 = .ok (.iload_n 1, 1) := o_27 BX6_shove rfl rfl
theorem dX6_shove_2 : decode cX6_shove 2 = .ok (.invokevirtual 60, 3) := o_182 BX6_shove rfl rfl rfl
theorem dX6_shove_5 : decode cX6_shove 5 = .ok (.ifCond .eq 19, 3) := o_153 BX6_shove rfl rfl rfl
theorem dX6_shove_8 : decode cX6_shove 8 = .ok (.iload_n 2, 1) := o_28 BX6_shove rfl rfl
theorem dX6_shove_9 : decode cX6_shove 9 = .ok (.bipush (-9), 2) := o_16 BX6_shove rfl rfl rfl
theorem dX6_shove_11 : decode cX6_shove 11 = .ok (.if_icmp .lt 13, 3) := o_161 BX6_shove rfl rfl rfl
theorem dX6_shove_14 : decode cX6_shove 14 = .ok (.iload_n 2, 1) := o_28 BX6_shove rfl rfl
theorem dX6_shove_15 : decode cX6_shove 15 = .ok (.bipush 9, 2) := o_16 BX6_shove rfl rfl rfl
theorem dX6_shove_17 : decode cX6_shove 17 = .ok (.if_icmp .gt 7, 3) := o_163 BX6_shove rfl rfl rfl
theorem dX6_shove_20 : decode cX6_shove 20 = .ok (.iload_n 2, 1) := o_28 BX6_shove rfl rfl
theorem dX6_shove_21 : decode cX6_shove 21 = .ok (.ifCond .ne 5, 3) := o_154 BX6_shove rfl rfl rfl
theorem dX6_shove_24 : decode cX6_shove 24 = .ok (.iconst (-1), 1) := o_2 BX6_shove rfl rfl
theorem dX6_shove_25 : decode cX6_shove 25 = .ok (.ireturn, 1) := o_172 BX6_shove rfl rfl
theorem dX6_shove_26 : decode cX6_shove 26 = .ok (.aload_n 0, 1) := o_42 BX6_shove rfl rfl
theorem dX6_shove_27 : decode cX6_shove 27 = .ok (.iload_n 1, 1) := o_27 BX6_shove rfl rfl
theorem dX6_shove_28 : decode cX6_shove 28 = .ok (.invokevirtual 63, 3) := o_182 BX6_shove rfl rfl rfl
theorem dX6_shove_31 : decode cX6_shove 31 = .ok (.ifCond .eq 6, 3) := o_153 BX6_shove rfl rfl rfl
theorem dX6_shove_34 : decode cX6_shove 34 = .ok (.bipush (-2), 2) := o_16 BX6_shove rfl rfl rfl
theorem dX6_shove_36 : decode cX6_shove 36 = .ok (.ireturn, 1) := o_172 BX6_shove rfl rfl
theorem dX6_shove_37 : decode cX6_shove 37 = .ok (.aload_n 0, 1) := o_42 BX6_shove rfl rfl
theorem dX6_shove_38 : decode cX6_shove 38 = .ok (.getfield 18, 3) := o_180 BX6_shove rfl rfl rfl
theorem dX6_shove_41 : decode cX6_shove 41 = .ok (.iload_n 1, 1) := o_27 BX6_shove rfl rfl
theorem dX6_shove_42 : decode cX6_shove 42 = .ok (.aload_n 3, 1) := o_45 BX6_shove rfl rfl
theorem dX6_shove_43 : decode cX6_shove 43 = .ok (.aload_n 0, 1) := o_42 BX6_shove rfl rfl
theorem dX6_shove_44 : decode cX6_shove 44 = .ok (.getfield 18, 3) := o_180 BX6_shove rfl rfl rfl
theorem dX6_shove_47 : decode cX6_shove 47 = .ok (.iload_n 1, 1) := o_27 BX6_shove rfl rfl
theorem dX6_shove_48 : decode cX6_shove 48 = .ok (.iaload, 1) := o_46 BX6_shove rfl rfl
theorem dX6_shove_49 : decode cX6_shove 49 = .ok (.iload_n 2, 1) := o_28 BX6_shove rfl rfl
theorem dX6_shove_50 : decode cX6_shove 50 = .ok (.iadd, 1) := o_96 BX6_shove rfl rfl
theorem dX6_shove_51 : decode cX6_shove 51 = .ok (.invokevirtual 66, 3) := o_182 BX6_shove rfl rfl rfl
theorem dX6_shove_54 : decode cX6_shove 54 = .ok (.iastore, 1) := o_79 BX6_shove rfl rfl
theorem dX6_shove_55 : decode cX6_shove 55 = .ok (.aload_n 0, 1) := o_42 BX6_shove rfl rfl
theorem dX6_shove_56 : decode cX6_shove 56 = .ok (.getfield 18, 3) := o_180 BX6_shove rfl rfl rfl
theorem dX6_shove_59 : decode cX6_shove 59 = .ok (.iload_n 1, 1) := o_27 BX6_shove rfl rfl
theorem dX6_shove_60 : decode cX6_shove 60 = .ok (.iaload, 1) := o_46 BX6_shove rfl rfl
theorem dX6_shove_61 : decode cX6_shove 61 = .ok (.ireturn, 1) := o_172 BX6_shove rfl rfl
theorem dX6_exchange_0 : decode cX6_exchange 0 = .ok (.aload_n 0, 1) := o_42 BX6_exchange rfl rfl
theorem dX6_exchange_1 : decode cX6_exchange 1 = .ok (.iload_n 1, 1) := o_27 BX6_exchange rfl rfl
theorem dX6_exchange_2 : decode cX6_exchange 2 = .ok (.invokevirtual 72, 3) := o_182 BX6_exchange rfl rfl rfl
theorem dX6_exchange_5 : decode cX6_exchange 5 = .ok (.ifCond .eq 16, 3) := o_153 BX6_exchange rfl rfl rfl
theorem dX6_exchange_8 : decode cX6_exchange 8 = .ok (.aload_n 0, 1) := o_42 BX6_exchange rfl rfl
theorem dX6_exchange_9 : decode cX6_exchange 9 = .ok (.iload_n 2, 1) := o_28 BX6_exchange rfl rfl
theorem dX6_exchange_10 : decode cX6_exchange 10 = .ok (.invokevirtual 72, 3) := o_182 BX6_exchange rfl rfl rfl
theorem dX6_exchange_13 : decode cX6_exchange 13 = .ok (.ifCond .eq 8, 3) := o_153 BX6_exchange rfl rfl rfl
theorem dX6_exchange_16 : decode cX6_exchange 16 = .ok (.iload_n 1, 1) := o_27 BX6_exchange rfl rfl
theorem dX6_exchange_17 : decode cX6_exchange 17 = .ok (.iload_n 2, 1) := o_28 BX6_exchange rfl rfl
theorem dX6_exchange_18 : decode cX6_exchange 18 = .ok (.if_icmp .ne 5, 3) := o_160 BX6_exchange rfl rfl rfl
theorem dX6_exchange_21 : decode cX6_exchange 21 = .ok (.iconst (-1), 1) := o_2 BX6_exchange rfl rfl
theorem dX6_exchange_22 : decode cX6_exchange 22 = .ok (.ireturn, 1) := o_172 BX6_exchange rfl rfl
theorem dX6_exchange_23 : decode cX6_exchange 23 = .ok (.aload_n 0, 1) := o_42 BX6_exchange rfl rfl
theorem dX6_exchange_24 : decode cX6_exchange 24 = .ok (.iload_n 1, 1) := o_27 BX6_exchange rfl rfl
theorem dX6_exchange_25 : decode cX6_exchange 25 = .ok (.invokevirtual 56, 3) := o_182 BX6_exchange rfl rfl rfl
theorem dX6_exchange_28 : decode cX6_exchange 28 = .ok (.ifCond .ne 11, 3) := o_154 BX6_exchange rfl rfl rfl
theorem dX6_exchange_31 : decode cX6_exchange 31 = .ok (.aload_n 0, 1) := o_42 BX6_exchange rfl rfl
theorem dX6_exchange_32 : decode cX6_exchange 32 = .ok (.iload_n 2, 1) := o_28 BX6_exchange rfl rfl
theorem dX6_exchange_33 : decode cX6_exchange 33 = .ok (.invokevirtual 56, 3) := o_182 BX6_exchange rfl rfl rfl
theorem dX6_exchange_36 : decode cX6_exchange 36 = .ok (.ifCond .eq 6, 3) := o_153 BX6_exchange rfl rfl rfl
theorem dX6_exchange_39 : decode cX6_exchange 39 = .ok (.bipush (-2), 2) := o_16 BX6_exchange rfl rfl rfl
theorem dX6_exchange_41 : decode cX6_exchange 41 = .ok (.ireturn, 1) := o_172 BX6_exchange rfl rfl
theorem dX6_exchange_42 : decode cX6_exchange 42 = .ok (.aload_n 0, 1) := o_42 BX6_exchange rfl rfl
theorem dX6_exchange_43 : decode cX6_exchange 43 = .ok (.getfield 9, 3) := o_180 BX6_exchange rfl rfl rfl
theorem dX6_exchange_46 : decode cX6_exchange 46 = .ok (.iload_n 1, 1) := o_27 BX6_exchange rfl rfl
theorem dX6_exchange_47 : decode cX6_exchange 47 = .ok (.iaload, 1) := o_46 BX6_exchange rfl rfl
theorem dX6_exchange_48 : decode cX6_exchange 48 = .ok (.istore_n 3, 1) := o_62 BX6_exchange rfl rfl
theorem dX6_exchange_49 : decode cX6_exchange 49 = .ok (.aload_n 0, 1) := o_42 BX6_exchange rfl rfl
theorem dX6_exchange_50 : decode cX6_exchange 50 = .ok (.getfield 9, 3) := o_180 BX6_exchange rfl rfl rfl
theorem dX6_exchange_53 : decode cX6_exchange 53 = .ok (.iload_n 1, 1) := o_27 BX6_exchange rfl rfl
theorem dX6_exchange_54 : decode cX6_exchange 54 = .ok (.aload_n 0, 1) := o_42 BX6_exchange rfl rfl
theorem dX6_exchange_55 : decode cX6_exchange 55 = .ok (.getfield 9, 3) := o_180 BX6_exchange rfl rfl rfl
theorem dX6_exchange_58 : decode cX6_exchange 58 = .ok (.iload_n 2, 1) := o_28 BX6_exchange rfl rfl
theorem dX6_exchange_59 : decode cX6_exchange 59 = .ok (.iaload, 1) := o_46 BX6_exchange rfl rfl
theorem dX6_exchange_60 : decode cX6_exchange 60 = .ok (.iastore, 1) := o_79 BX6_exchange rfl rfl
theorem dX6_exchange_61 : decode cX6_exchange 61 = .ok (.aload_n 0, 1) := o_42 BX6_exchange rfl rfl
theorem dX6_exchange_62 : decode cX6_exchange 62 = .ok (.getfield 9, 3) := o_180 BX6_exchange rfl rfl rfl
theorem dX6_exchange_65 : decode cX6_exchange 65 = .ok (.iload_n 2, 1) := o_28 BX6_exchange rfl rfl
theorem dX6_exchange_66 : decode cX6_exchange 66 = .ok (.iload_n 3, 1) := o_29 BX6_exchange rfl rfl
theorem dX6_exchange_67 : decode cX6_exchange 67 = .ok (.iastore, 1) := o_79 BX6_exchange rfl rfl
theorem dX6_exchange_68 : decode cX6_exchange 68 = .ok (.aload_n 0, 1) := o_42 BX6_exchange rfl rfl
theorem dX6_exchange_69 : decode cX6_exchange 69 = .ok (.getfield 9, 3) := o_180 BX6_exchange rfl rfl rfl
theorem dX6_exchange_72 : decode cX6_exchange 72 = .ok (.iload_n 1, 1) := o_27 BX6_exchange rfl rfl
theorem dX6_exchange_73 : decode cX6_exchange 73 = .ok (.iaload, 1) := o_46 BX6_exchange rfl rfl
theorem dX6_exchange_74 : decode cX6_exchange 74 = .ok (.aload_n 0, 1) := o_42 BX6_exchange rfl rfl
theorem dX6_exchange_75 : decode cX6_exchange 75 = .ok (.getfield 9, 3) := o_180 BX6_exchange rfl rfl rfl
theorem dX6_exchange_78 : decode cX6_exchange 78 = .ok (.iload_n 2, 1) := o_28 BX6_exchange rfl rfl
theorem dX6_exchange_79 : decode cX6_exchange 79 = .ok (.iaload, 1) := o_46 BX6_exchange rfl rfl
theorem dX6_exchange_80 : decode cX6_exchange 80 = .ok (.isub, 1) := o_100 BX6_exchange rfl rfl
theorem dX6_exchange_81 : decode cX6_exchange 81 = .ok (.invokestatic 75, 3) := o_184 BX6_exchange rfl rfl rfl
theorem dX6_exchange_84 : decode cX6_exchange 84 = .ok (.ireturn, 1) := o_172 BX6_exchange rfl rfl
theorem dX6_hearseOn_0 : decode cX6_hearseOn 0 = .ok (.iconst 0, 1) := o_3 BX6_hearseOn rfl rfl
theorem dX6_hearseOn_1 : decode cX6_hearseOn 1 = .ok (.istore_n 2, 1) := o_61 BX6_hearseOn rfl rfl
theorem dX6_hearseOn_2 : decode cX6_hearseOn 2 = .ok (.iload_n 2, 1) := o_28 BX6_hearseOn rfl rfl
theorem dX6_hearseOn_3 : decode cX6_hearseOn 3 = .ok (.aload_n 0, 1) := o_42 BX6_hearseOn rfl rfl
theorem dX6_hearseOn_4 : decode cX6_hearseOn 4 = .ok (.getfield 30, 3) := o_180 BX6_hearseOn rfl rfl rfl
theorem dX6_hearseOn_7 : decode cX6_hearseOn 7 = .ok (.if_icmp .ge 21, 3) := o_162 BX6_hearseOn rfl rfl rfl
theorem dX6_hearseOn_10 : decode cX6_hearseOn 10 = .ok (.aload_n 0, 1) := o_42 BX6_hearseOn rfl rfl
theorem dX6_hearseOn_11 : decode cX6_hearseOn 11 = .ok (.getfield 9, 3) := o_180 BX6_hearseOn rfl rfl rfl
theorem dX6_hearseOn_14 : decode cX6_hearseOn 14 = .ok (.iload_n 2, 1) := o_28 BX6_hearseOn rfl rfl
theorem dX6_hearseOn_15 : decode cX6_hearseOn 15 = .ok (.iaload, 1) := o_46 BX6_hearseOn rfl rfl
theorem dX6_hearseOn_16 : decode cX6_hearseOn 16 = .ok (.iload_n 1, 1) := o_27 BX6_hearseOn rfl rfl
theorem dX6_hearseOn_17 : decode cX6_hearseOn 17 = .ok (.if_icmp .ne 5, 3) := o_160 BX6_hearseOn rfl rfl rfl
theorem dX6_hearseOn_20 : decode cX6_hearseOn 20 = .ok (.iload_n 2, 1) := o_28 BX6_hearseOn rfl rfl
theorem dX6_hearseOn_21 : decode cX6_hearseOn 21 = .ok (.ireturn, 1) := o_172 BX6_hearseOn rfl rfl
theorem dX6_hearseOn_22 : decode cX6_hearseOn 22 = .ok (.iinc 2 1, 3) := o_132 BX6_hearseOn rfl rfl rfl rfl
theorem dX6_hearseOn_25 : decode cX6_hearseOn 25 = .ok (.goto (-23), 3) := o_167 BX6_hearseOn rfl rfl rfl
theorem dX6_hearseOn_28 : decode cX6_hearseOn 28 = .ok (.iconst (-1), 1) := o_2 BX6_hearseOn rfl rfl
theorem dX6_hearseOn_29 : decode cX6_hearseOn 29 = .ok (.ireturn, 1) := o_172 BX6_hearseOn rfl rfl
theorem dX6_takenCells_0 : decode cX6_takenCells 0 = .ok (.iconst 0, 1) := o_3 BX6_takenCells rfl rfl
theorem dX6_takenCells_1 : decode cX6_takenCells 1 = .ok (.istore_n 1, 1) := o_60 BX6_takenCells rfl rfl
theorem dX6_takenCells_2 : decode cX6_takenCells 2 = .ok (.iconst 0, 1) := o_3 BX6_takenCells rfl rfl
theorem dX6_takenCells_3 : decode cX6_takenCells 3 = .ok (.istore_n 2, 1) := o_61 BX6_takenCells rfl rfl
theorem dX6_takenCells_4 : decode cX6_takenCells 4 = .ok (.iload_n 2, 1) := o_28 BX6_takenCells rfl rfl
theorem dX6_takenCells_5 : decode cX6_takenCells 5 = .ok (.aload_n 0, 1) := o_42 BX6_takenCells rfl rfl
theorem dX6_takenCells_6 : decode cX6_takenCells 6 = .ok (.getfield 30, 3) := o_180 BX6_takenCells rfl rfl rfl
theorem dX6_takenCells_9 : decode cX6_takenCells 9 = .ok (.if_icmp .ge 33, 3) := o_162 BX6_takenCells rfl rfl rfl
theorem dX6_takenCells_12 : decode cX6_takenCells 12 = .ok (.iload_n 1, 1) := o_27 BX6_takenCells rfl rfl
theorem dX6_takenCells_13 : decode cX6_takenCells 13 = .ok (.aload_n 0, 1) := o_42 BX6_takenCells rfl rfl
theorem dX6_takenCells_14 : decode cX6_takenCells 14 = .ok (.getfield 9, 3) := o_180 BX6_takenCells rfl rfl rfl
theorem dX6_takenCells_17 : decode cX6_takenCells 17 = .ok (.iload_n 2, 1) := o_28 BX6_takenCells rfl rfl
theorem dX6_takenCells_18 : decode cX6_takenCells 18 = .ok (.iaload, 1) := o_46 BX6_takenCells rfl rfl
theorem dX6_takenCells_19 : decode cX6_takenCells 19 = .ok (.ifCond .ge 7, 3) := o_156 BX6_takenCells rfl rfl rfl
theorem dX6_takenCells_22 : decode cX6_takenCells 22 = .ok (.iconst 0, 1) := o_3 BX6_takenCells rfl rfl
theorem dX6_takenCells_23 : decode cX6_takenCells 23 = .ok (.goto 11, 3) := o_167 BX6_takenCells rfl rfl rfl
theorem dX6_takenCells_26 : decode cX6_takenCells 26 = .ok (.iconst 1, 1) := o_4 BX6_takenCells rfl rfl
theorem dX6_takenCells_27 : decode cX6_takenCells 27 = .ok (.aload_n 0, 1) := o_42 BX6_takenCells rfl rfl
theorem dX6_takenCells_28 : decode cX6_takenCells 28 = .ok (.getfield 9, 3) := o_180 BX6_takenCells rfl rfl rfl
theorem dX6_takenCells_31 : decode cX6_takenCells 31 = .ok (.iload_n 2, 1) := o_28 BX6_takenCells rfl rfl
theorem dX6_takenCells_32 : decode cX6_takenCells 32 = .ok (.iaload, 1) := o_46 BX6_takenCells rfl rfl
theorem dX6_takenCells_33 : decode cX6_takenCells 33 = .ok (.ishl, 1) := o_120 BX6_takenCells rfl rfl
theorem dX6_takenCells_34 : decode cX6_takenCells 34 = .ok (.ior, 1) := o_128 BX6_takenCells rfl rfl
theorem dX6_takenCells_35 : decode cX6_takenCells 35 = .ok (.istore_n 1, 1) := o_60 BX6_takenCells rfl rfl
theorem dX6_takenCells_36 : decode cX6_takenCells 36 = .ok (.iinc 2 1, 3) := o_132 BX6_takenCells rfl rfl rfl rfl
theorem dX6_takenCells_39 : decode cX6_takenCells 39 = .ok (.goto (-35), 3) := o_167 BX6_takenCells rfl rfl rfl
theorem dX6_takenCells_42 : decode cX6_takenCells 42 = .ok (.iload_n 1, 1) := o_27 BX6_takenCells rfl rfl
theorem dX6_takenCells_43 : decode cX6_takenCells 43 = .ok (.ireturn, 1) := o_172 BX6_takenCells rfl rfl
theorem dX6_foremostBelow_0 : decode cX6_foremostBelow 0 = .ok (.iconst (-1), 1) := o_2 BX6_foremostBelow rfl rfl
theorem dX6_foremostBelow_1 : decode cX6_foremostBelow 1 = .ok (.istore_n 2, 1) := o_61 BX6_foremostBelow rfl rfl
theorem dX6_foremostBelow_2 : decode cX6_foremostBelow 2 = .ok (.iconst (-1), 1) := o_2 BX6_foremostBelow rfl rfl
theorem dX6_foremostBelow_3 : decode cX6_foremostBelow 3 = .ok (.istore_n 3, 1) := o_62 BX6_foremostBelow rfl rfl
theorem dX6_foremostBelow_4 : decode cX6_foremostBelow 4 = .ok (.iconst 0, 1) := o_3 BX6_foremostBelow rfl rfl
theorem dX6_foremostBelow_5 : decode cX6_foremostBelow 5 = .ok (.istore 4, 2) := o_54 BX6_foremostBelow rfl rfl rfl
theorem dX6_foremostBelow_7 : decode cX6_foremostBelow 7 = .ok (.iload 4, 2) := o_21 BX6_foremostBelow rfl rfl rfl
theorem dX6_foremostBelow_9 : decode cX6_foremostBelow 9 = .ok (.aload_n 0, 1) := o_42 BX6_foremostBelow rfl rfl
theorem dX6_foremostBelow_10 : decode cX6_foremostBelow 10 = .ok (.getfield 30, 3) := o_180 BX6_foremostBelow rfl rfl rfl
theorem dX6_foremostBelow_13 : decode cX6_foremostBelow 13 = .ok (.if_icmp .ge 42, 3) := o_162 BX6_foremostBelow rfl rfl rfl
theorem dX6_foremostBelow_16 : decode cX6_foremostBelow 16 = .ok (.aload_n 0, 1) := o_42 BX6_foremostBelow rfl rfl
theorem dX6_foremostBelow_17 : decode cX6_foremostBelow 17 = .ok (.getfield 9, 3) := o_180 BX6_foremostBelow rfl rfl rfl
theorem dX6_foremostBelow_20 : decode cX6_foremostBelow 20 = .ok (.iload 4, 2) := o_21 BX6_foremostBelow rfl rfl rfl
theorem dX6_foremostBelow_22 : decode cX6_foremostBelow 22 = .ok (.iaload, 1) := o_46 BX6_foremostBelow rfl rfl
theorem dX6_foremostBelow_23 : decode cX6_foremostBelow 23 = .ok (.iload_n 1, 1) := o_27 BX6_foremostBelow rfl rfl
theorem dX6_foremostBelow_24 : decode cX6_foremostBelow 24 = .ok (.if_icmp .ge 25, 3) := o_162 BX6_foremostBelow rfl rfl rfl
theorem dX6_foremostBelow_27 : decode cX6_foremostBelow 27 = .ok (.aload_n 0, 1) := o_42 BX6_foremostBelow rfl rfl
theorem dX6_foremostBelow_28 : decode cX6_foremostBelow 28 = .ok (.getfield 9, 3) := o_180 BX6_foremostBelow rfl rfl rfl
theorem dX6_foremostBelow_31 : decode cX6_foremostBelow 31 = .ok (.iload 4, 2) := o_21 BX6_foremostBelow rfl rfl rfl
theorem dX6_foremostBelow_33 : decode cX6_foremostBelow 33 = .ok (.iaload, 1) := o_46 BX6_foremostBelow rfl rfl
theorem dX6_foremostBelow_34 : decode cX6_foremostBelow 34 = .ok (.iload_n 3, 1) := o_29 BX6_foremostBelow rfl rfl
theorem dX6_foremostBelow_35 : decode cX6_foremostBelow 35 = .ok (.if_icmp .le 14, 3) := o_164 BX6_foremostBelow rfl rfl rfl
theorem dX6_foremostBelow_38 : decode cX6_foremostBelow 38 = .ok (.iload 4, 2) := o_21 BX6_foremostBelow rfl rfl rfl
theorem dX6_foremostBelow_40 : decode cX6_foremostBelow 40 = .ok (.istore_n 2, 1) := o_61 BX6_foremostBelow rfl rfl
theorem dX6_foremostBelow_41 : decode cX6_foremostBelow 41 = .ok (.aload_n 0, 1) := o_42 BX6_foremostBelow rfl rfl
theorem dX6_foremostBelow_42 : decode cX6_foremostBelow 42 = .ok (.getfield 9, 3) := o_180 BX6_foremostBelow rfl rfl rfl
theorem dX6_foremostBelow_45 : decode cX6_foremostBelow 45 = .ok (.iload 4, 2) := o_21 BX6_foremostBelow rfl rfl rfl
theorem dX6_foremostBelow_47 : decode cX6_foremostBelow 47 = .ok (.iaload, 1) := o_46 BX6_foremostBelow rfl rfl
theorem dX6_foremostBelow_48 : decode cX6_foremostBelow 48 = .ok (.istore_n 3, 1) := o_62 BX6_foremostBelow rfl rfl
theorem dX6_foremostBelow_49 : decode cX6_foremostBelow 49 = .ok (.iinc 4 1, 3) := o_132 BX6_foremostBelow rfl rfl rfl rfl
theorem dX6_foremostBelow_52 : decode cX6_foremostBelow 52 = .ok (.goto (-45), 3) := o_167 BX6_foremostBelow rfl rfl rfl
theorem dX6_foremostBelow_55 : decode cX6_foremostBelow 55 = .ok (.iload_n 2, 1) := o_28 BX6_foremostBelow rfl rfl
theorem dX6_foremostBelow_56 : decode cX6_foremostBelow 56 = .ok (.ireturn, 1) := o_172 BX6_foremostBelow rfl rfl
theorem dX6_freeAhead_0 : decode cX6_freeAhead 0 = .ok (.aload_n 0, 1) := o_42 BX6_freeAhead rfl rfl
theorem dX6_freeAhead_1 : decode cX6_freeAhead 1 = .ok (.getfield 9, 3) := o_180 BX6_freeAhead rfl rfl rfl
theorem dX6_freeAhead_4 : decode cX6_freeAhead 4 = .ok (.iload_n 1, 1) := o_27 BX6_freeAhead rfl rfl
theorem dX6_freeAhead_5 : decode cX6_freeAhead 5 = .ok (.iaload, 1) := o_46 BX6_freeAhead rfl rfl
theorem dX6_freeAhead_6 : decode cX6_freeAhead 6 = .ok (.istore_n 3, 1) := o_62 BX6_freeAhead rfl rfl
theorem dX6_freeAhead_7 : decode cX6_freeAhead 7 = .ok (.iload_n 2, 1) := o_28 BX6_freeAhead rfl rfl
theorem dX6_freeAhead_8 : decode cX6_freeAhead 8 = .ok (.iload_n 3, 1) := o_29 BX6_freeAhead rfl rfl
theorem dX6_freeAhead_9 : decode cX6_freeAhead 9 = .ok (.isub, 1) := o_100 BX6_freeAhead rfl rfl
theorem dX6_freeAhead_10 : decode cX6_freeAhead 10 = .ok (.istore 4, 2) := o_54 BX6_freeAhead rfl rfl rfl
theorem dX6_freeAhead_12 : decode cX6_freeAhead 12 = .ok (.iconst 0, 1) := o_3 BX6_freeAhead rfl rfl
theorem dX6_freeAhead_13 : decode cX6_freeAhead 13 = .ok (.istore 5, 2) := o_54 BX6_freeAhead rfl rfl rfl
theorem dX6_freeAhead_15 : decode cX6_freeAhead 15 = .ok (.iload 5, 2) := o_21 BX6_freeAhead rfl rfl rfl
theorem dX6_freeAhead_17 : decode cX6_freeAhead 17 = .ok (.aload_n 0, 1) := o_42 BX6_freeAhead rfl rfl
theorem dX6_freeAhead_18 : decode cX6_freeAhead 18 = .ok (.getfield 30, 3) := o_180 BX6_freeAhead rfl rfl rfl
theorem dX6_freeAhead_21 : decode cX6_freeAhead 21 = .ok (.if_icmp .ge 43, 3) := o_162 BX6_freeAhead rfl rfl rfl
theorem dX6_freeAhead_24 : decode cX6_freeAhead 24 = .ok (.aload_n 0, 1) := o_42 BX6_freeAhead rfl rfl
theorem dX6_freeAhead_25 : decode cX6_freeAhead 25 = .ok (.getfield 9, 3) := o_180 BX6_freeAhead rfl rfl rfl
theorem dX6_freeAhead_28 : decode cX6_freeAhead 28 = .ok (.iload 5, 2) := o_21 BX6_freeAhead rfl rfl rfl
theorem dX6_freeAhead_30 : decode cX6_freeAhead 30 = .ok (.iaload, 1) := o_46 BX6_freeAhead rfl rfl
theorem dX6_freeAhead_31 : decode cX6_freeAhead 31 = .ok (.iload_n 3, 1) := o_29 BX6_freeAhead rfl rfl
theorem dX6_freeAhead_32 : decode cX6_freeAhead 32 = .ok (.isub, 1) := o_100 BX6_freeAhead rfl rfl
theorem dX6_freeAhead_33 : decode cX6_freeAhead 33 = .ok (.iconst 1, 1) := o_4 BX6_freeAhead rfl rfl
theorem dX6_freeAhead_34 : decode cX6_freeAhead 34 = .ok (.isub, 1) := o_100 BX6_freeAhead rfl rfl
theorem dX6_freeAhead_35 : decode cX6_freeAhead 35 = .ok (.istore 6, 2) := o_54 BX6_freeAhead rfl rfl rfl
theorem dX6_freeAhead_37 : decode cX6_freeAhead 37 = .ok (.iload 6, 2) := o_21 BX6_freeAhead rfl rfl rfl
theorem dX6_freeAhead_39 : decode cX6_freeAhead 39 = .ok (.ifCond .lt 15, 3) := o_155 BX6_freeAhead rfl rfl rfl
theorem dX6_freeAhead_42 : decode cX6_freeAhead 42 = .ok (.iload 6, 2) := o_21 BX6_freeAhead rfl rfl rfl
theorem dX6_freeAhead_44 : decode cX6_freeAhead 44 = .ok (.iload 4, 2) := o_21 BX6_freeAhead rfl rfl rfl
theorem dX6_freeAhead_46 : decode cX6_freeAhead 46 = .ok (.if_icmp .ge 8, 3) := o_162 BX6_freeAhead rfl rfl rfl
theorem dX6_freeAhead_49 : decode cX6_freeAhead 49 = .ok (.iload 6, 2) := o_21 BX6_freeAhead rfl rfl rfl
theorem dX6_freeAhead_51 : decode cX6_freeAhead 51 = .ok (.goto 5, 3) := o_167 BX6_freeAhead rfl rfl rfl
theorem dX6_freeAhead_54 : decode cX6_freeAhead 54 = .ok (.iload 4, 2) := o_21 BX6_freeAhead rfl rfl rfl
theorem dX6_freeAhead_56 : decode cX6_freeAhead 56 = .ok (.istore 4, 2) := o_54 BX6_freeAhead rfl rfl rfl
theorem dX6_freeAhead_58 : decode cX6_freeAhead 58 = .ok (.iinc 5 1, 3) := o_132 BX6_freeAhead rfl rfl rfl rfl
theorem dX6_freeAhead_61 : decode cX6_freeAhead 61 = .ok (.goto (-46), 3) := o_167 BX6_freeAhead rfl rfl rfl
theorem dX6_freeAhead_64 : decode cX6_freeAhead 64 = .ok (.iload 4, 2) := o_21 BX6_freeAhead rfl rfl rfl
theorem dX6_freeAhead_66 : decode cX6_freeAhead 66 = .ok (.ireturn, 1) := o_172 BX6_freeAhead rfl rfl
theorem dX6_isAheadOf_0 : decode cX6_isAheadOf 0 = .ok (.aload_n 0, 1) := o_42 BX6_isAheadOf rfl rfl
theorem dX6_isAheadOf_1 : decode cX6_isAheadOf 1 = .ok (.iload_n 1, 1) := o_27 BX6_isAheadOf rfl rfl
theorem dX6_isAheadOf_2 : decode cX6_isAheadOf 2 = .ok (.invokevirtual 56, 3) := o_182 BX6_isAheadOf rfl rfl rfl
theorem dX6_isAheadOf_5 : decode cX6_isAheadOf 5 = .ok (.ifCond .eq 32, 3) := o_153 BX6_isAheadOf rfl rfl rfl
theorem dX6_isAheadOf_8 : decode cX6_isAheadOf 8 = .ok (.aload_n 0, 1) := o_42 BX6_isAheadOf rfl rfl
theorem dX6_isAheadOf_9 : decode cX6_isAheadOf 9 = .ok (.iload_n 2, 1) := o_28 BX6_isAheadOf rfl rfl
theorem dX6_isAheadOf_10 : decode cX6_isAheadOf 10 = .ok (.invokevirtual 56, 3) := o_182 BX6_isAheadOf rfl rfl rfl
theorem dX6_isAheadOf_13 : decode cX6_isAheadOf 13 = .ok (.ifCond .eq 18, 3) := o_153 BX6_isAheadOf rfl rfl rfl
theorem dX6_isAheadOf_16 : decode cX6_isAheadOf 16 = .ok (.aload_n 0, 1) := o_42 BX6_isAheadOf rfl rfl
theorem dX6_isAheadOf_17 : decode cX6_isAheadOf 17 = .ok (.getfield 15, 3) := o_180 BX6_isAheadOf rfl rfl rfl
theorem dX6_isAheadOf_20 : decode cX6_isAheadOf 20 = .ok (.iload_n 1, 1) := o_27 BX6_isAheadOf rfl rfl
theorem dX6_isAheadOf_21 : decode cX6_isAheadOf 21 = .ok (.iaload, 1) := o_46 BX6_isAheadOf rfl rfl
theorem dX6_isAheadOf_22 : decode cX6_isAheadOf 22 = .ok (.aload_n 0, 1) := o_42 BX6_isAheadOf rfl rfl
theorem dX6_isAheadOf_23 : decode cX6_isAheadOf 23 = .ok (.getfield 15, 3) := o_180 BX6_isAheadOf rfl rfl rfl
theorem dX6_isAheadOf_26 : decode cX6_isAheadOf 26 = .ok (.iload_n 2, 1) := o_28 BX6_isAheadOf rfl rfl
theorem dX6_isAheadOf_27 : decode cX6_isAheadOf 27 = .ok (.iaload, 1) := o_46 BX6_isAheadOf rfl rfl
theorem dX6_isAheadOf_28 : decode cX6_isAheadOf 28 = .ok (.if_icmp .ge 7, 3) := o_162 BX6_isAheadOf rfl rfl rfl
theorem dX6_isAheadOf_31 : decode cX6_isAheadOf 31 = .ok (.iconst 1, 1) := o_4 BX6_isAheadOf rfl rfl
theorem dX6_isAheadOf_32 : decode cX6_isAheadOf 32 = .ok (.goto 4, 3) := o_167 BX6_isAheadOf rfl rfl rfl
theorem dX6_isAheadOf_35 : decode cX6_isAheadOf 35 = .ok (.iconst 0, 1) := o_3 BX6_isAheadOf rfl rfl
theorem dX6_isAheadOf_36 : decode cX6_isAheadOf 36 = .ok (.ireturn, 1) := o_172 BX6_isAheadOf rfl rfl
theorem dX6_isAheadOf_37 : decode cX6_isAheadOf 37 = .ok (.aload_n 0, 1) := o_42 BX6_isAheadOf rfl rfl
theorem dX6_isAheadOf_38 : decode cX6_isAheadOf 38 = .ok (.iload_n 2, 1) := o_28 BX6_isAheadOf rfl rfl
theorem dX6_isAheadOf_39 : decode cX6_isAheadOf 39 = .ok (.invokevirtual 56, 3) := o_182 BX6_isAheadOf rfl rfl rfl
theorem dX6_isAheadOf_42 : decode cX6_isAheadOf 42 = .ok (.ifCond .ne 22, 3) := o_154 BX6_isAheadOf rfl rfl rfl
theorem dX6_isAheadOf_45 : decode cX6_isAheadOf 45 = .ok (.aload_n 0, 1) := o_42 BX6_isAheadOf rfl rfl
theorem dX6_isAheadOf_46 : decode cX6_isAheadOf 46 = .ok (.getfield 9, 3) := o_180 BX6_isAheadOf rfl rfl rfl
theorem dX6_isAheadOf_49 : decode cX6_isAheadOf 49 = .ok (.iload_n 1, 1) := o_27 BX6_isAheadOf rfl rfl
theorem dX6_isAheadOf_50 : decode cX6_isAheadOf 50 = .ok (.iaload, 1) := o_46 BX6_isAheadOf rfl rfl
theorem dX6_isAheadOf_51 : decode cX6_isAheadOf 51 = .ok (.aload_n 0, 1) := o_42 BX6_isAheadOf rfl rfl
theorem dX6_isAheadOf_52 : decode cX6_isAheadOf 52 = .ok (.getfield 9, 3) := o_180 BX6_isAheadOf rfl rfl rfl
theorem dX6_isAheadOf_55 : decode cX6_isAheadOf 55 = .ok (.iload_n 2, 1) := o_28 BX6_isAheadOf rfl rfl
theorem dX6_isAheadOf_56 : decode cX6_isAheadOf 56 = .ok (.iaload, 1) := o_46 BX6_isAheadOf rfl rfl
theorem dX6_isAheadOf_57 : decode cX6_isAheadOf 57 = .ok (.if_icmp .le 7, 3) := o_164 BX6_isAheadOf rfl rfl rfl
theorem dX6_isAheadOf_60 : decode cX6_isAheadOf 60 = .ok (.iconst 1, 1) := o_4 BX6_isAheadOf rfl rfl
theorem dX6_isAheadOf_61 : decode cX6_isAheadOf 61 = .ok (.goto 4, 3) := o_167 BX6_isAheadOf rfl rfl rfl
theorem dX6_isAheadOf_64 : decode cX6_isAheadOf 64 = .ok (.iconst 0, 1) := o_3 BX6_isAheadOf rfl rfl
theorem dX6_isAheadOf_65 : decode cX6_isAheadOf 65 = .ok (.ireturn, 1) := o_172 BX6_isAheadOf rfl rfl
theorem dX6_nearestTo_0 : decode cX6_nearestTo 0 = .ok (.iconst (-1), 1) := o_2 BX6_nearestTo rfl rfl
theorem dX6_nearestTo_1 : decode cX6_nearestTo 1 = .ok (.istore_n 2, 1) := o_61 BX6_nearestTo rfl rfl
theorem dX6_nearestTo_2 : decode cX6_nearestTo 2 = .ok (.bipush 30, 2) := o_16 BX6_nearestTo rfl rfl rfl
theorem dX6_nearestTo_4 : decode cX6_nearestTo 4 = .ok (.istore_n 3, 1) := o_62 BX6_nearestTo rfl rfl
theorem dX6_nearestTo_5 : decode cX6_nearestTo 5 = .ok (.iconst 0, 1) := o_3 BX6_nearestTo rfl rfl
theorem dX6_nearestTo_6 : decode cX6_nearestTo 6 = .ok (.istore 4, 2) := o_54 BX6_nearestTo rfl rfl rfl
theorem dX6_nearestTo_8 : decode cX6_nearestTo 8 = .ok (.iload 4, 2) := o_21 BX6_nearestTo rfl rfl rfl
theorem dX6_nearestTo_10 : decode cX6_nearestTo 10 = .ok (.aload_n 0, 1) := o_42 BX6_nearestTo rfl rfl
theorem dX6_nearestTo_11 : decode cX6_nearestTo 11 = .ok (.getfield 30, 3) := o_180 BX6_nearestTo rfl rfl rfl
theorem dX6_nearestTo_14 : decode cX6_nearestTo 14 = .ok (.if_icmp .ge 74, 3) := o_162 BX6_nearestTo rfl rfl rfl
theorem dX6_nearestTo_17 : decode cX6_nearestTo 17 = .ok (.aload_n 0, 1) := o_42 BX6_nearestTo rfl rfl
theorem dX6_nearestTo_18 : decode cX6_nearestTo 18 = .ok (.getfield 9, 3) := o_180 BX6_nearestTo rfl rfl rfl
theorem dX6_nearestTo_21 : decode cX6_nearestTo 21 = .ok (.iload 4, 2) := o_21 BX6_nearestTo rfl rfl rfl
theorem dX6_nearestTo_23 : decode cX6_nearestTo 23 = .ok (.iaload, 1) := o_46 BX6_nearestTo rfl rfl
theorem dX6_nearestTo_24 : decode cX6_nearestTo 24 = .ok (.iload_n 1, 1) := o_27 BX6_nearestTo rfl rfl
theorem dX6_nearestTo_25 : decode cX6_nearestTo 25 = .ok (.isub, 1) := o_100 BX6_nearestTo rfl rfl
theorem dX6_nearestTo_26 : decode cX6_nearestTo 26 = .ok (.invokestatic 75, 3) := o_184 BX6_nearestTo rfl rfl rfl
theorem dX6_nearestTo_29 : decode cX6_nearestTo 29 = .ok (.istore 5, 2) := o_54 BX6_nearestTo rfl rfl rfl
theorem dX6_nearestTo_31 : decode cX6_nearestTo 31 = .ok (.iload 5, 2) := o_21 BX6_nearestTo rfl rfl rfl
theorem dX6_nearestTo_33 : decode cX6_nearestTo 33 = .ok (.iload_n 3, 1) := o_29 BX6_nearestTo rfl rfl
theorem dX6_nearestTo_34 : decode cX6_nearestTo 34 = .ok (.if_icmp .lt 20, 3) := o_161 BX6_nearestTo rfl rfl rfl
theorem dX6_nearestTo_37 : decode cX6_nearestTo 37 = .ok (.iload 5, 2) := o_21 BX6_nearestTo rfl rfl rfl
theorem dX6_nearestTo_39 : decode cX6_nearestTo 39 = .ok (.iload_n 3, 1) := o_29 BX6_nearestTo rfl rfl
theorem dX6_nearestTo_40 : decode cX6_nearestTo 40 = .ok (.if_icmp .ne 18, 3) := o_160 BX6_nearestTo rfl rfl rfl
theorem dX6_nearestTo_43 : decode cX6_nearestTo 43 = .ok (.aload_n 0, 1) := o_42 BX6_nearestTo rfl rfl
theorem dX6_nearestTo_44 : decode cX6_nearestTo 44 = .ok (.getfield 9, 3) := o_180 BX6_nearestTo rfl rfl rfl
theorem dX6_nearestTo_47 : decode cX6_nearestTo 47 = .ok (.iload 4, 2) := o_21 BX6_nearestTo rfl rfl rfl
theorem dX6_nearestTo_49 : decode cX6_nearestTo 49 = .ok (.iaload, 1) := o_46 BX6_nearestTo rfl rfl
theorem dX6_nearestTo_50 : decode cX6_nearestTo 50 = .ok (.iload_n 1, 1) := o_27 BX6_nearestTo rfl rfl
theorem dX6_nearestTo_51 : decode cX6_nearestTo 51 = .ok (.if_icmp .le 7, 3) := o_164 BX6_nearestTo rfl rfl rfl
theorem dX6_nearestTo_54 : decode cX6_nearestTo 54 = .ok (.iconst 1, 1) := o_4 BX6_nearestTo rfl rfl
theorem dX6_nearestTo_55 : decode cX6_nearestTo 55 = .ok (.goto 4, 3) := o_167 BX6_nearestTo rfl rfl rfl
theorem dX6_nearestTo_58 : decode cX6_nearestTo 58 = .ok (.iconst 0, 1) := o_3 BX6_nearestTo rfl rfl
theorem dX6_nearestTo_59 : decode cX6_nearestTo 59 = .ok (.istore 6, 2) := o_54 BX6_nearestTo rfl rfl rfl
theorem dX6_nearestTo_61 : decode cX6_nearestTo 61 = .ok (.iload 6, 2) := o_21 BX6_nearestTo rfl rfl rfl
theorem dX6_nearestTo_63 : decode cX6_nearestTo 63 = .ok (.ifCond .eq 19, 3) := o_153 BX6_nearestTo rfl rfl rfl
theorem dX6_nearestTo_66 : decode cX6_nearestTo 66 = .ok (.aload_n 0, 1) := o_42 BX6_nearestTo rfl rfl
theorem dX6_nearestTo_67 : decode cX6_nearestTo 67 = .ok (.getfield 9, 3) := o_180 BX6_nearestTo rfl rfl rfl
theorem dX6_nearestTo_70 : decode cX6_nearestTo 70 = .ok (.iload 4, 2) := o_21 BX6_nearestTo rfl rfl rfl
theorem dX6_nearestTo_72 : decode cX6_nearestTo 72 = .ok (.iaload, 1) := o_46 BX6_nearestTo rfl rfl
theorem dX6_nearestTo_73 : decode cX6_nearestTo 73 = .ok (.ifCond .lt 9, 3) := o_155 BX6_nearestTo rfl rfl rfl
theorem dX6_nearestTo_76 : decode cX6_nearestTo 76 = .ok (.iload 4, 2) := o_21 BX6_nearestTo rfl rfl rfl
theorem dX6_nearestTo_78 : decode cX6_nearestTo 78 = .ok (.istore_n 2, 1) := o_61 BX6_nearestTo rfl rfl
theorem dX6_nearestTo_79 : decode cX6_nearestTo 79 = .ok (.iload 5, 2) := o_21 BX6_nearestTo rfl rfl rfl
theorem dX6_nearestTo_81 : decode cX6_nearestTo 81 = .ok (.istore_n 3, 1) := o_62 BX6_nearestTo rfl rfl
theorem dX6_nearestTo_82 : decode cX6_nearestTo 82 = .ok (.iinc 4 1, 3) := o_132 BX6_nearestTo rfl rfl rfl rfl
theorem dX6_nearestTo_85 : decode cX6_nearestTo 85 = .ok (.goto (-77), 3) := o_167 BX6_nearestTo rfl rfl rfl
theorem dX6_nearestTo_88 : decode cX6_nearestTo 88 = .ok (.iload_n 2, 1) := o_28 BX6_nearestTo rfl rfl
theorem dX6_nearestTo_89 : decode cX6_nearestTo 89 = .ok (.ireturn, 1) := o_172 BX6_nearestTo rfl rfl
theorem dX6_isInDoubt_0 : decode cX6_isInDoubt 0 = .ok (.aload_n 0, 1) := o_42 BX6_isInDoubt rfl rfl
theorem dX6_isInDoubt_1 : decode cX6_isInDoubt 1 = .ok (.getfield 18, 3) := o_180 BX6_isInDoubt rfl rfl rfl
theorem dX6_isInDoubt_4 : decode cX6_isInDoubt 4 = .ok (.iload_n 1, 1) := o_27 BX6_isInDoubt rfl rfl
theorem dX6_isInDoubt_5 : decode cX6_isInDoubt 5 = .ok (.iaload, 1) := o_46 BX6_isInDoubt rfl rfl
theorem dX6_isInDoubt_6 : decode cX6_isInDoubt 6 = .ok (.istore_n 2, 1) := o_61 BX6_isInDoubt rfl rfl
theorem dX6_isInDoubt_7 : decode cX6_isInDoubt 7 = .ok (.aload_n 0, 1) := o_42 BX6_isInDoubt rfl rfl
theorem dX6_isInDoubt_8 : decode cX6_isInDoubt 8 = .ok (.iload_n 2, 1) := o_28 BX6_isInDoubt rfl rfl
theorem dX6_isInDoubt_9 : decode cX6_isInDoubt 9 = .ok (.invokevirtual 80, 3) := o_182 BX6_isInDoubt rfl rfl rfl
theorem dX6_isInDoubt_12 : decode cX6_isInDoubt 12 = .ok (.istore_n 3, 1) := o_62 BX6_isInDoubt rfl rfl
theorem dX6_isInDoubt_13 : decode cX6_isInDoubt 13 = .ok (.iload_n 3, 1) := o_29 BX6_isInDoubt rfl rfl
theorem dX6_isInDoubt_14 : decode cX6_isInDoubt 14 = .ok (.iconst (-1), 1) := o_2 BX6_isInDoubt rfl rfl
theorem dX6_isInDoubt_15 : decode cX6_isInDoubt 15 = .ok (.if_icmp .ne 5, 3) := o_160 BX6_isInDoubt rfl rfl rfl
theorem dX6_isInDoubt_18 : decode cX6_isInDoubt 18 = .ok (.iconst 0, 1) := o_3 BX6_isInDoubt rfl rfl
theorem dX6_isInDoubt_19 : decode cX6_isInDoubt 19 = .ok (.ireturn, 1) := o_172 BX6_isInDoubt rfl rfl
theorem dX6_isInDoubt_20 : decode cX6_isInDoubt 20 = .ok (.iconst 2, 1) := o_5 BX6_isInDoubt rfl rfl
theorem dX6_isInDoubt_21 : decode cX6_isInDoubt 21 = .ok (.iload_n 2, 1) := o_28 BX6_isInDoubt rfl rfl
theorem dX6_isInDoubt_22 : decode cX6_isInDoubt 22 = .ok (.imul, 1) := o_104 BX6_isInDoubt rfl rfl
theorem dX6_isInDoubt_23 : decode cX6_isInDoubt 23 = .ok (.aload_n 0, 1) := o_42 BX6_isInDoubt rfl rfl
theorem dX6_isInDoubt_24 : decode cX6_isInDoubt 24 = .ok (.getfield 9, 3) := o_180 BX6_isInDoubt rfl rfl rfl
theorem dX6_isInDoubt_27 : decode cX6_isInDoubt 27 = .ok (.iload_n 3, 1) := o_29 BX6_isInDoubt rfl rfl
theorem dX6_isInDoubt_28 : decode cX6_isInDoubt 28 = .ok (.iaload, 1) := o_46 BX6_isInDoubt rfl rfl
theorem dX6_isInDoubt_29 : decode cX6_isInDoubt 29 = .ok (.isub, 1) := o_100 BX6_isInDoubt rfl rfl
theorem dX6_isInDoubt_30 : decode cX6_isInDoubt 30 = .ok (.istore 4, 2) := o_54 BX6_isInDoubt rfl rfl rfl
theorem dX6_isInDoubt_32 : decode cX6_isInDoubt 32 = .ok (.iload 4, 2) := o_21 BX6_isInDoubt rfl rfl rfl
theorem dX6_isInDoubt_34 : decode cX6_isInDoubt 34 = .ok (.ifCond .lt 28, 3) := o_155 BX6_isInDoubt rfl rfl rfl
theorem dX6_isInDoubt_37 : decode cX6_isInDoubt 37 = .ok (.iload 4, 2) := o_21 BX6_isInDoubt rfl rfl rfl
theorem dX6_isInDoubt_39 : decode cX6_isInDoubt 39 = .ok (.aload_n 0, 1) := o_42 BX6_isInDoubt rfl rfl
theorem dX6_isInDoubt_40 : decode cX6_isInDoubt 40 = .ok (.getfield 9, 3) := o_180 BX6_isInDoubt rfl rfl rfl
theorem dX6_isInDoubt_43 : decode cX6_isInDoubt 43 = .ok (.iload_n 3, 1) := o_29 BX6_isInDoubt rfl rfl
theorem dX6_isInDoubt_44 : decode cX6_isInDoubt 44 = .ok (.iaload, 1) := o_46 BX6_isInDoubt rfl rfl
theorem dX6_isInDoubt_45 : decode cX6_isInDoubt 45 = .ok (.if_icmp .eq 17, 3) := o_159 BX6_isInDoubt rfl rfl rfl
theorem dX6_isInDoubt_48 : decode cX6_isInDoubt 48 = .ok (.aload_n 0, 1) := o_42 BX6_isInDoubt rfl rfl
theorem dX6_isInDoubt_49 : decode cX6_isInDoubt 49 = .ok (.iload 4, 2) := o_21 BX6_isInDoubt rfl rfl rfl
theorem dX6_isInDoubt_51 : decode cX6_isInDoubt 51 = .ok (.invokevirtual 83, 3) := o_182 BX6_isInDoubt rfl rfl rfl
theorem dX6_isInDoubt_54 : decode cX6_isInDoubt 54 = .ok (.iconst (-1), 1) := o_2 BX6_isInDoubt rfl rfl
theorem dX6_isInDoubt_55 : decode cX6_isInDoubt 55 = .ok (.if_icmp .eq 7, 3) := o_159 BX6_isInDoubt rfl rfl rfl
theorem dX6_isInDoubt_58 : decode cX6_isInDoubt 58 = .ok (.iconst 1, 1) := o_4 BX6_isInDoubt rfl rfl
theorem dX6_isInDoubt_59 : decode cX6_isInDoubt 59 = .ok (.goto 4, 3) := o_167 BX6_isInDoubt rfl rfl rfl
theorem dX6_isInDoubt_62 : decode cX6_isInDoubt 62 = .ok (.iconst 0, 1) := o_3 BX6_isInDoubt rfl rfl
theorem dX6_isInDoubt_63 : decode cX6_isInDoubt 63 = .ok (.ireturn, 1) := o_172 BX6_isInDoubt rfl rfl
theorem dX6_bitsOf_0 : decode cX6_bitsOf 0 = .ok (.iconst 0, 1) := o_3 BX6_bitsOf rfl rfl
theorem dX6_bitsOf_1 : decode cX6_bitsOf 1 = .ok (.istore_n 3, 1) := o_62 BX6_bitsOf rfl rfl
theorem dX6_bitsOf_2 : decode cX6_bitsOf 2 = .ok (.iconst 0, 1) := o_3 BX6_bitsOf rfl rfl
theorem dX6_bitsOf_3 : decode cX6_bitsOf 3 = .ok (.istore 4, 2) := o_54 BX6_bitsOf rfl rfl rfl
theorem dX6_bitsOf_5 : decode cX6_bitsOf 5 = .ok (.iload 4, 2) := o_21 BX6_bitsOf rfl rfl rfl
theorem dX6_bitsOf_7 : decode cX6_bitsOf 7 = .ok (.aload_n 0, 1) := o_42 BX6_bitsOf rfl rfl
theorem dX6_bitsOf_8 : decode cX6_bitsOf 8 = .ok (.getfield 34, 3) := o_180 BX6_bitsOf rfl rfl rfl
theorem dX6_bitsOf_11 : decode cX6_bitsOf 11 = .ok (.if_icmp .ge 28, 3) := o_162 BX6_bitsOf rfl rfl rfl
theorem dX6_bitsOf_14 : decode cX6_bitsOf 14 = .ok (.iload_n 3, 1) := o_29 BX6_bitsOf rfl rfl
theorem dX6_bitsOf_15 : decode cX6_bitsOf 15 = .ok (.aload_n 1, 1) := o_43 BX6_bitsOf rfl rfl
theorem dX6_bitsOf_16 : decode cX6_bitsOf 16 = .ok (.iload 4, 2) := o_21 BX6_bitsOf rfl rfl rfl
theorem dX6_bitsOf_18 : decode cX6_bitsOf 18 = .ok (.iaload, 1) := o_46 BX6_bitsOf rfl rfl
theorem dX6_bitsOf_19 : decode cX6_bitsOf 19 = .ok (.iload_n 2, 1) := o_28 BX6_bitsOf rfl rfl
theorem dX6_bitsOf_20 : decode cX6_bitsOf 20 = .ok (.if_icmp .ne 10, 3) := o_160 BX6_bitsOf rfl rfl rfl
theorem dX6_bitsOf_23 : decode cX6_bitsOf 23 = .ok (.iconst 1, 1) := o_4 BX6_bitsOf rfl rfl
theorem dX6_bitsOf_24 : decode cX6_bitsOf 24 = .ok (.iload 4, 2) := o_21 BX6_bitsOf rfl rfl rfl
theorem dX6_bitsOf_26 : decode cX6_bitsOf 26 = .ok (.ishl, 1) := o_120 BX6_bitsOf rfl rfl
theorem dX6_bitsOf_27 : decode cX6_bitsOf 27 = .ok (.goto 4, 3) := o_167 BX6_bitsOf rfl rfl rfl
theorem dX6_bitsOf_30 : decode cX6_bitsOf 30 = .ok (.iconst 0, 1) := o_3 BX6_bitsOf rfl rfl
theorem dX6_bitsOf_31 : decode cX6_bitsOf 31 = .ok (.ior, 1) := o_128 BX6_bitsOf rfl rfl
theorem dX6_bitsOf_32 : decode cX6_bitsOf 32 = .ok (.istore_n 3, 1) := o_62 BX6_bitsOf rfl rfl
theorem dX6_bitsOf_33 : decode cX6_bitsOf 33 = .ok (.iinc 4 1, 3) := o_132 BX6_bitsOf rfl rfl rfl rfl
theorem dX6_bitsOf_36 : decode cX6_bitsOf 36 = .ok (.goto (-31), 3) := o_167 BX6_bitsOf rfl rfl rfl
theorem dX6_bitsOf_39 : decode cX6_bitsOf 39 = .ok (.iload_n 3, 1) := o_29 BX6_bitsOf rfl rfl
theorem dX6_bitsOf_40 : decode cX6_bitsOf 40 = .ok (.ireturn, 1) := o_172 BX6_bitsOf rfl rfl
theorem dX6_rightBits_0 : decode cX6_rightBits 0 = .ok (.iconst 0, 1) := o_3 BX6_rightBits rfl rfl
theorem dX6_rightBits_1 : decode cX6_rightBits 1 = .ok (.istore_n 1, 1) := o_60 BX6_rightBits rfl rfl
theorem dX6_rightBits_2 : decode cX6_rightBits 2 = .ok (.iconst 0, 1) := o_3 BX6_rightBits rfl rfl
theorem dX6_rightBits_3 : decode cX6_rightBits 3 = .ok (.istore_n 2, 1) := o_61 BX6_rightBits rfl rfl
theorem dX6_rightBits_4 : decode cX6_rightBits 4 = .ok (.iload_n 2, 1) := o_28 BX6_rightBits rfl rfl
theorem dX6_rightBits_5 : decode cX6_rightBits 5 = .ok (.aload_n 0, 1) := o_42 BX6_rightBits rfl rfl
theorem dX6_rightBits_6 : decode cX6_rightBits 6 = .ok (.getfield 34, 3) := o_180 BX6_rightBits rfl rfl rfl
theorem dX6_rightBits_9 : decode cX6_rightBits 9 = .ok (.if_icmp .ge 27, 3) := o_162 BX6_rightBits rfl rfl rfl
theorem dX6_rightBits_12 : decode cX6_rightBits 12 = .ok (.iload_n 1, 1) := o_27 BX6_rightBits rfl rfl
theorem dX6_rightBits_13 : decode cX6_rightBits 13 = .ok (.aload_n 0, 1) := o_42 BX6_rightBits rfl rfl
theorem dX6_rightBits_14 : decode cX6_rightBits 14 = .ok (.iload_n 2, 1) := o_28 BX6_rightBits rfl rfl
theorem dX6_rightBits_15 : decode cX6_rightBits 15 = .ok (.invokevirtual 86, 3) := o_182 BX6_rightBits rfl rfl rfl
theorem dX6_rightBits_18 : decode cX6_rightBits 18 = .ok (.ifCond .eq 9, 3) := o_153 BX6_rightBits rfl rfl rfl
theorem dX6_rightBits_21 : decode cX6_rightBits 21 = .ok (.iconst 1, 1) := o_4 BX6_rightBits rfl rfl
theorem dX6_rightBits_22 : decode cX6_rightBits 22 = .ok (.iload_n 2, 1) := o_28 BX6_rightBits rfl rfl
theorem dX6_rightBits_23 : decode cX6_rightBits 23 = .ok (.ishl, 1) := o_120 BX6_rightBits rfl rfl
theorem dX6_rightBits_24 : decode cX6_rightBits 24 = .ok (.goto 4, 3) := o_167 BX6_rightBits rfl rfl rfl
theorem dX6_rightBits_27 : decode cX6_rightBits 27 = .ok (.iconst 0, 1) := o_3 BX6_rightBits rfl rfl
theorem dX6_rightBits_28 : decode cX6_rightBits 28 = .ok (.ior, 1) := o_128 BX6_rightBits rfl rfl
theorem dX6_rightBits_29 : decode cX6_rightBits 29 = .ok (.istore_n 1, 1) := o_60 BX6_rightBits rfl rfl
theorem dX6_rightBits_30 : decode cX6_rightBits 30 = .ok (.iinc 2 1, 3) := o_132 BX6_rightBits rfl rfl rfl rfl
theorem dX6_rightBits_33 : decode cX6_rightBits 33 = .ok (.goto (-29), 3) := o_167 BX6_rightBits rfl rfl rfl
theorem dX6_rightBits_36 : decode cX6_rightBits 36 = .ok (.iload_n 1, 1) := o_27 BX6_rightBits rfl rfl
theorem dX6_rightBits_37 : decode cX6_rightBits 37 = .ok (.ireturn, 1) := o_172 BX6_rightBits rfl rfl
theorem dX6_wrongBits_0 : decode cX6_wrongBits 0 = .ok (.iconst 0, 1) := o_3 BX6_wrongBits rfl rfl
theorem dX6_wrongBits_1 : decode cX6_wrongBits 1 = .ok (.istore_n 1, 1) := o_60 BX6_wrongBits rfl rfl
theorem dX6_wrongBits_2 : decode cX6_wrongBits 2 = .ok (.iconst 0, 1) := o_3 BX6_wrongBits rfl rfl
theorem dX6_wrongBits_3 : decode cX6_wrongBits 3 = .ok (.istore_n 2, 1) := o_61 BX6_wrongBits rfl rfl
theorem dX6_wrongBits_4 : decode cX6_wrongBits 4 = .ok (.iload_n 2, 1) := o_28 BX6_wrongBits rfl rfl
theorem dX6_wrongBits_5 : decode cX6_wrongBits 5 = .ok (.aload_n 0, 1) := o_42 BX6_wrongBits rfl rfl
theorem dX6_wrongBits_6 : decode cX6_wrongBits 6 = .ok (.getfield 34, 3) := o_180 BX6_wrongBits rfl rfl rfl
theorem dX6_wrongBits_9 : decode cX6_wrongBits 9 = .ok (.if_icmp .ge 35, 3) := o_162 BX6_wrongBits rfl rfl rfl
theorem dX6_wrongBits_12 : decode cX6_wrongBits 12 = .ok (.iload_n 1, 1) := o_27 BX6_wrongBits rfl rfl
theorem dX6_wrongBits_13 : decode cX6_wrongBits 13 = .ok (.aload_n 0, 1) := o_42 BX6_wrongBits rfl rfl
theorem dX6_wrongBits_14 : decode cX6_wrongBits 14 = .ok (.iload_n 2, 1) := o_28 BX6_wrongBits rfl rfl
theorem dX6_wrongBits_15 : decode cX6_wrongBits 15 = .ok (.invokevirtual 63, 3) := o_182 BX6_wrongBits rfl rfl rfl
theorem dX6_wrongBits_18 : decode cX6_wrongBits 18 = .ok (.ifCond .eq 17, 3) := o_153 BX6_wrongBits rfl rfl rfl
theorem dX6_wrongBits_21 : decode cX6_wrongBits 21 = .ok (.aload_n 0, 1) := o_42 BX6_wrongBits rfl rfl
theorem dX6_wrongBits_22 : decode cX6_wrongBits 22 = .ok (.iload_n 2, 1) := o_28 BX6_wrongBits rfl rfl
theorem dX6_wrongBits_23 : decode cX6_wrongBits 23 = .ok (.invokevirtual 86, 3) := o_182 BX6_wrongBits rfl rfl rfl
theorem dX6_wrongBits_26 : decode cX6_wrongBits 26 = .ok (.ifCond .ne 9, 3) := o_154 BX6_wrongBits rfl rfl rfl
theorem dX6_wrongBits_29 : decode cX6_wrongBits 29 = .ok (.iconst 1, 1) := o_4 BX6_wrongBits rfl rfl
theorem dX6_wrongBits_30 : decode cX6_wrongBits 30 = .ok (.iload_n 2, 1) := o_28 BX6_wrongBits rfl rfl
theorem dX6_wrongBits_31 : decode cX6_wrongBits 31 = .ok (.ishl, 1) := o_120 BX6_wrongBits rfl rfl
theorem dX6_wrongBits_32 : decode cX6_wrongBits 32 = .ok (.goto 4, 3) := o_167 BX6_wrongBits rfl rfl rfl
theorem dX6_wrongBits_35 : decode cX6_wrongBits 35 = .ok (.iconst 0, 1) := o_3 BX6_wrongBits rfl rfl
theorem dX6_wrongBits_36 : decode cX6_wrongBits 36 = .ok (.ior, 1) := o_128 BX6_wrongBits rfl rfl
theorem dX6_wrongBits_37 : decode cX6_wrongBits 37 = .ok (.istore_n 1, 1) := o_60 BX6_wrongBits rfl rfl
theorem dX6_wrongBits_38 : decode cX6_wrongBits 38 = .ok (.iinc 2 1, 3) := o_132 BX6_wrongBits rfl rfl rfl rfl
theorem dX6_wrongBits_41 : decode cX6_wrongBits 41 = .ok (.goto (-37), 3) := o_167 BX6_wrongBits rfl rfl rfl
theorem dX6_wrongBits_44 : decode cX6_wrongBits 44 = .ok (.iload_n 1, 1) := o_27 BX6_wrongBits rfl rfl
theorem dX6_wrongBits_45 : decode cX6_wrongBits 45 = .ok (.ireturn, 1) := o_172 BX6_wrongBits rfl rfl
theorem dX7_init_0 : decode cX7_init 0 = .ok (.aload_n 0, 1) := o_42 BX7_init rfl rfl
theorem dX7_init_1 : decode cX7_init 1 = .ok (.invokespecial 3, 3) := o_183 BX7_init rfl rfl rfl
theorem dX7_init_4 : decode cX7_init 4 = .ok (.aload_n 0, 1) := o_42 BX7_init rfl rfl
theorem dX7_init_5 : decode cX7_init 5 = .ok (.bipush 9, 2) := o_16 BX7_init rfl rfl rfl
theorem dX7_init_7 : decode cX7_init 7 = .ok (.bipush 64, 2) := o_16 BX7_init rfl rfl rfl
theorem dX7_init_9 : decode cX7_init 9 = .ok (.multianewarray 9 2, 4) := by decide +kernel
theorem dX7_init_13 : decode cX7_init 13 = .ok (.putfield 11, 3) := o_181 BX7_init rfl rfl rfl
theorem dX7_init_16 : decode cX7_init 16 = .ok (.aload_n 0, 1) := o_42 BX7_init rfl rfl
theorem dX7_init_17 : decode cX7_init 17 = .ok (.iconst 0, 1) := o_3 BX7_init rfl rfl
theorem dX7_init_18 : decode cX7_init 18 = .ok (.putfield 16, 3) := o_181 BX7_init rfl rfl rfl
theorem dX7_init_21 : decode cX7_init 21 = .ok (.return_, 1) := o_177 BX7_init rfl rfl
theorem dX7_weigh_0 : decode cX7_weigh 0 = .ok (.aload_n 0, 1) := o_42 BX7_weigh rfl rfl
theorem dX7_weigh_1 : decode cX7_weigh 1 = .ok (.iload_n 2, 1) := o_28 BX7_weigh rfl rfl
theorem dX7_weigh_2 : decode cX7_weigh 2 = .ok (.putfield 16, 3) := o_181 BX7_weigh rfl rfl rfl
theorem dX7_weigh_5 : decode cX7_weigh 5 = .ok (.iconst 1, 1) := o_4 BX7_weigh rfl rfl
theorem dX7_weigh_6 : decode cX7_weigh 6 = .ok (.aload_n 1, 1) := o_43 BX7_weigh rfl rfl
theorem dX7_weigh_7 : decode cX7_weigh 7 = .ok (.getfield 20, 3) := o_180 BX7_weigh rfl rfl rfl
theorem dX7_weigh_10 : decode cX7_weigh 10 = .ok (.ishl, 1) := o_120 BX7_weigh rfl rfl
theorem dX7_weigh_11 : decode cX7_weigh 11 = .ok (.istore_n 3, 1) := o_62 BX7_weigh rfl rfl
theorem dX7_weigh_12 : decode cX7_weigh 12 = .ok (.iconst 0, 1) := o_3 BX7_weigh rfl rfl
theorem dX7_weigh_13 : decode cX7_weigh 13 = .ok (.istore 4, 2) := o_54 BX7_weigh rfl rfl rfl
theorem dX7_weigh_15 : decode cX7_weigh 15 = .ok (.iload 4, 2) := o_21 BX7_weigh rfl rfl rfl
theorem dX7_weigh_17 : decode cX7_weigh 17 = .ok (.iload_n 3, 1) := o_29 BX7_weigh rfl rfl
theorem dX7_weigh_18 : decode cX7_weigh 18 = .ok (.if_icmp .ge 22, 3) := o_162 BX7_weigh rfl rfl rfl
theorem dX7_weigh_21 : decode cX7_weigh 21 = .ok (.aload_n 0, 1) := o_42 BX7_weigh rfl rfl
theorem dX7_weigh_22 : decode cX7_weigh 22 = .ok (.getfield 11, 3) := o_180 BX7_weigh rfl rfl rfl
theorem dX7_weigh_25 : decode cX7_weigh 25 = .ok (.aload_n 1, 1) := o_43 BX7_weigh rfl rfl
theorem dX7_weigh_26 : decode cX7_weigh 26 = .ok (.getfield 25, 3) := o_180 BX7_weigh rfl rfl rfl
theorem dX7_weigh_29 : decode cX7_weigh 29 = .ok (.aaload, 1) := o_50 BX7_weigh rfl rfl
theorem dX7_weigh_30 : decode cX7_weigh 30 = .ok (.iload 4, 2) := o_21 BX7_weigh rfl rfl rfl
theorem dX7_weigh_32 : decode cX7_weigh 32 = .ok (.iconst 0, 1) := o_3 BX7_weigh rfl rfl
theorem dX7_weigh_33 : decode cX7_weigh 33 = .ok (.iastore, 1) := o_79 BX7_weigh rfl rfl
theorem dX7_weigh_34 : decode cX7_weigh 34 = .ok (.iinc 4 1, 3) := o_132 BX7_weigh rfl rfl rfl rfl
theorem dX7_weigh_37 : decode cX7_weigh 37 = .ok (.goto (-22), 3) := o_167 BX7_weigh rfl rfl rfl
theorem dX7_weigh_40 : decode cX7_weigh 40 = .ok (.aload_n 1, 1) := o_43 BX7_weigh rfl rfl
theorem dX7_weigh_41 : decode cX7_weigh 41 = .ok (.getfield 25, 3) := o_180 BX7_weigh rfl rfl rfl
theorem dX7_weigh_44 : decode cX7_weigh 44 = .ok (.iconst 1, 1) := o_4 BX7_weigh rfl rfl
theorem dX7_weigh_45 : decode cX7_weigh 45 = .ok (.isub, 1) := o_100 BX7_weigh rfl rfl
theorem dX7_weigh_46 : decode cX7_weigh 46 = .ok (.istore 4, 2) := o_54 BX7_weigh rfl rfl rfl
theorem dX7_weigh_48 : decode cX7_weigh 48 = .ok (.iload 4, 2) := o_21 BX7_weigh rfl rfl rfl
theorem dX7_weigh_50 : decode cX7_weigh 50 = .ok (.ifCond .lt 43, 3) := o_155 BX7_weigh rfl rfl rfl
theorem dX7_weigh_53 : decode cX7_weigh 53 = .ok (.iconst 0, 1) := o_3 BX7_weigh rfl rfl
theorem dX7_weigh_54 : decode cX7_weigh 54 = .ok (.istore 5, 2) := o_54 BX7_weigh rfl rfl rfl
theorem dX7_weigh_56 : decode cX7_weigh 56 = .ok (.iload 5, 2) := o_21 BX7_weigh rfl rfl rfl
theorem dX7_weigh_58 : decode cX7_weigh 58 = .ok (.iload_n 3, 1) := o_29 BX7_weigh rfl rfl
theorem dX7_weigh_59 : decode cX7_weigh 59 = .ok (.if_icmp .ge 28, 3) := o_162 BX7_weigh rfl rfl rfl
theorem dX7_weigh_62 : decode cX7_weigh 62 = .ok (.aload_n 0, 1) := o_42 BX7_weigh rfl rfl
theorem dX7_weigh_63 : decode cX7_weigh 63 = .ok (.getfield 11, 3) := o_180 BX7_weigh rfl rfl rfl
theorem dX7_weigh_66 : decode cX7_weigh 66 = .ok (.iload 4, 2) := o_21 BX7_weigh rfl rfl rfl
theorem dX7_weigh_68 : decode cX7_weigh 68 = .ok (.aaload, 1) := o_50 BX7_weigh rfl rfl
theorem dX7_weigh_69 : decode cX7_weigh 69 = .ok (.iload 5, 2) := o_21 BX7_weigh rfl rfl rfl
theorem dX7_weigh_71 : decode cX7_weigh 71 = .ok (.aload_n 0, 1) := o_42 BX7_weigh rfl rfl
theorem dX7_weigh_72 : decode cX7_weigh 72 = .ok (.aload_n 1, 1) := o_43 BX7_weigh rfl rfl
theorem dX7_weigh_73 : decode cX7_weigh 73 = .ok (.iload 4, 2) := o_21 BX7_weigh rfl rfl rfl
theorem dX7_weigh_75 : decode cX7_weigh 75 = .ok (.iload 5, 2) := o_21 BX7_weigh rfl rfl rfl
theorem dX7_weigh_77 : decode cX7_weigh 77 = .ok (.invokevirtual 28, 3) := o_182 BX7_weigh rfl rfl rfl
theorem dX7_weigh_80 : decode cX7_weigh 80 = .ok (.iastore, 1) := o_79 BX7_weigh rfl rfl
theorem dX7_weigh_81 : decode cX7_weigh 81 = .ok (.iinc 5 1, 3) := o_132 BX7_weigh rfl rfl rfl rfl
theorem dX7_weigh_84 : decode cX7_weigh 84 = .ok (.goto (-28), 3) := o_167 BX7_weigh rfl rfl rfl
theorem dX7_weigh_87 : decode cX7_weigh 87 = .ok (.iinc 4 (-1), 3) := o_132 BX7_weigh rfl rfl rfl rfl
theorem dX7_weigh_90 : decode cX7_weigh 90 = .ok (.goto (-42), 3) := o_167 BX7_weigh rfl rfl rfl
theorem dX7_weigh_93 : decode cX7_weigh 93 = .ok (.aload_n 0, 1) := o_42 BX7_weigh rfl rfl
theorem dX7_weigh_94 : decode cX7_weigh 94 = .ok (.getfield 11, 3) := o_180 BX7_weigh rfl rfl rfl
theorem dX7_weigh_97 : decode cX7_weigh 97 = .ok (.iconst 0, 1) := o_3 BX7_weigh rfl rfl
theorem dX7_weigh_98 : decode cX7_weigh 98 = .ok (.aaload, 1) := o_50 BX7_weigh rfl rfl
theorem dX7_weigh_99 : decode cX7_weigh 99 = .ok (.iconst 0, 1) := o_3 BX7_weigh rfl rfl
theorem dX7_weigh_100 : decode cX7_weigh 100 = .ok (.iaload, 1) := o_46 BX7_weigh rfl rfl
theorem dX7_weigh_101 : decode cX7_weigh 101 = .ok (.ireturn, 1) := o_172 BX7_weigh rfl rfl
theorem dX7_mostFrom_0 : decode cX7_mostFrom 0 = .ok (.aload_n 0, 1) := o_42 BX7_mostFrom rfl rfl
theorem dX7_mostFrom_1 : decode cX7_mostFrom 1 = .ok (.getfield 11, 3) := o_180 BX7_mostFrom rfl rfl rfl
theorem dX7_mostFrom_4 : decode cX7_mostFrom 4 = .ok (.iload_n 2, 1) := o_28 BX7_mostFrom rfl rfl
theorem dX7_mostFrom_5 : decode cX7_mostFrom 5 = .ok (.iconst 1, 1) := o_4 BX7_mostFrom rfl rfl
theorem dX7_mostFrom_6 : decode cX7_mostFrom 6 = .ok (.iadd, 1) := o_96 BX7_mostFrom rfl rfl
theorem dX7_mostFrom_7 : decode cX7_mostFrom 7 = .ok (.aaload, 1) := o_50 BX7_mostFrom rfl rfl
theorem dX7_mostFrom_8 : decode cX7_mostFrom 8 = .ok (.iload_n 3, 1) := o_29 BX7_mostFrom rfl rfl
theorem dX7_mostFrom_9 : decode cX7_mostFrom 9 = .ok (.iaload, 1) := o_46 BX7_mostFrom rfl rfl
theorem dX7_mostFrom_10 : decode cX7_mostFrom 10 = .ok (.istore 4, 2) := o_54 BX7_mostFrom rfl rfl rfl
theorem dX7_mostFrom_12 : decode cX7_mostFrom 12 = .ok (.iconst 0, 1) := o_3 BX7_mostFrom rfl rfl
theorem dX7_mostFrom_13 : decode cX7_mostFrom 13 = .ok (.istore 5, 2) := o_54 BX7_mostFrom rfl rfl rfl
theorem dX7_mostFrom_15 : decode cX7_mostFrom 15 = .ok (.iload 5, 2) := o_21 BX7_mostFrom rfl rfl rfl
theorem dX7_mostFrom_17 : decode cX7_mostFrom 17 = .ok (.aload_n 1, 1) := o_43 BX7_mostFrom rfl rfl
theorem dX7_mostFrom_18 : decode cX7_mostFrom 18 = .ok (.getfield 20, 3) := o_180 BX7_mostFrom rfl rfl rfl
theorem dX7_mostFrom_21 : decode cX7_mostFrom 21 = .ok (.if_icmp .ge 45, 3) := o_162 BX7_mostFrom rfl rfl rfl
theorem dX7_mostFrom_24 : decode cX7_mostFrom 24 = .ok (.aload_n 0, 1) := o_42 BX7_mostFrom rfl rfl
theorem dX7_mostFrom_25 : decode cX7_mostFrom 25 = .ok (.aload_n 1, 1) := o_43 BX7_mostFrom rfl rfl
theorem dX7_mostFrom_26 : decode cX7_mostFrom 26 = .ok (.iload_n 2, 1) := o_28 BX7_mostFrom rfl rfl
theorem dX7_mostFrom_27 : decode cX7_mostFrom 27 = .ok (.iload 5, 2) := o_21 BX7_mostFrom rfl rfl rfl
theorem dX7_mostFrom_29 : decode cX7_mostFrom 29 = .ok (.iload_n 3, 1) := o_29 BX7_mostFrom rfl rfl
theorem dX7_mostFrom_30 : decode cX7_mostFrom 30 = .ok (.invokevirtual 32, 3) := o_182 BX7_mostFrom rfl rfl rfl
theorem dX7_mostFrom_33 : decode cX7_mostFrom 33 = .ok (.ifCond .eq 27, 3) := o_153 BX7_mostFrom rfl rfl rfl
theorem dX7_mostFrom_36 : decode cX7_mostFrom 36 = .ok (.iload 4, 2) := o_21 BX7_mostFrom rfl rfl rfl
theorem dX7_mostFrom_38 : decode cX7_mostFrom 38 = .ok (.iconst 1, 1) := o_4 BX7_mostFrom rfl rfl
theorem dX7_mostFrom_39 : decode cX7_mostFrom 39 = .ok (.aload_n 0, 1) := o_42 BX7_mostFrom rfl rfl
theorem dX7_mostFrom_40 : decode cX7_mostFrom 40 = .ok (.getfield 11, 3) := o_180 BX7_mostFrom rfl rfl rfl
theorem dX7_mostFrom_43 : decode cX7_mostFrom 43 = .ok (.iload_n 2, 1) := o_28 BX7_mostFrom rfl rfl
theorem dX7_mostFrom_44 : decode cX7_mostFrom 44 = .ok (.iconst 1, 1) := o_4 BX7_mostFrom rfl rfl
theorem dX7_mostFrom_45 : decode cX7_mostFrom 45 = .ok (.iadd, 1) := o_96 BX7_mostFrom rfl rfl
theorem dX7_mostFrom_46 : decode cX7_mostFrom 46 = .ok (.aaload, 1) := o_50 BX7_mostFrom rfl rfl
theorem dX7_mostFrom_47 : decode cX7_mostFrom 47 = .ok (.iload_n 3, 1) := o_29 BX7_mostFrom rfl rfl
theorem dX7_mostFrom_48 : decode cX7_mostFrom 48 = .ok (.iconst 1, 1) := o_4 BX7_mostFrom rfl rfl
theorem dX7_mostFrom_49 : decode cX7_mostFrom 49 = .ok (.iload 5, 2) := o_21 BX7_mostFrom rfl rfl rfl
theorem dX7_mostFrom_51 : decode cX7_mostFrom 51 = .ok (.ishl, 1) := o_120 BX7_mostFrom rfl rfl
theorem dX7_mostFrom_52 : decode cX7_mostFrom 52 = .ok (.ior, 1) := o_128 BX7_mostFrom rfl rfl
theorem dX7_mostFrom_53 : decode cX7_mostFrom 53 = .ok (.iaload, 1) := o_46 BX7_mostFrom rfl rfl
theorem dX7_mostFrom_54 : decode cX7_mostFrom 54 = .ok (.iadd, 1) := o_96 BX7_mostFrom rfl rfl
theorem dX7_mostFrom_55 : decode cX7_mostFrom 55 = .ok (.invokestatic 36, 3) := o_184 BX7_mostFrom rfl rfl rfl
theorem dX7_mostFrom_58 : decode cX7_mostFrom 58 = .ok (.istore 4, 2) := o_54 BX7_mostFrom rfl rfl rfl
theorem dX7_mostFrom_60 : decode cX7_mostFrom 60 = .ok (.iinc 5 1, 3) := o_132 BX7_mostFrom rfl rfl rfl rfl
theorem dX7_mostFrom_63 : decode cX7_mostFrom 63 = .ok (.goto (-48), 3) := o_167 BX7_mostFrom rfl rfl rfl
theorem dX7_mostFrom_66 : decode cX7_mostFrom 66 = .ok (.iload 4, 2) := o_21 BX7_mostFrom rfl rfl rfl
theorem dX7_mostFrom_68 : decode cX7_mostFrom 68 = .ok (.ireturn, 1) := o_172 BX7_mostFrom rfl rfl
theorem dX7_canHave_0 : decode cX7_canHave 0 = .ok (.iload 4, 2) := o_21 BX7_canHave rfl rfl rfl
theorem dX7_canHave_2 : decode cX7_canHave 2 = .ok (.iload_n 3, 1) := o_29 BX7_canHave rfl rfl
theorem dX7_canHave_3 : decode cX7_canHave 3 = .ok (.ishr, 1) := o_122 BX7_canHave rfl rfl
theorem dX7_canHave_4 : decode cX7_canHave 4 = .ok (.iconst 1, 1) := o_4 BX7_canHave rfl rfl
theorem dX7_canHave_5 : decode cX7_canHave 5 = .ok (.iand, 1) := o_126 BX7_canHave rfl rfl
theorem dX7_canHave_6 : decode cX7_canHave 6 = .ok (.ifCond .ne 46, 3) := o_154 BX7_canHave rfl rfl rfl
theorem dX7_canHave_9 : decode cX7_canHave 9 = .ok (.aload_n 1, 1) := o_43 BX7_canHave rfl rfl
theorem dX7_canHave_10 : decode cX7_canHave 10 = .ok (.iload_n 2, 1) := o_28 BX7_canHave rfl rfl
theorem dX7_canHave_11 : decode cX7_canHave 11 = .ok (.invokevirtual 42, 3) := o_182 BX7_canHave rfl rfl rfl
theorem dX7_canHave_14 : decode cX7_canHave 14 = .ok (.ifCond .ne 38, 3) := o_154 BX7_canHave rfl rfl rfl
theorem dX7_canHave_17 : decode cX7_canHave 17 = .ok (.aload_n 1, 1) := o_43 BX7_canHave rfl rfl
theorem dX7_canHave_18 : decode cX7_canHave 18 = .ok (.iload_n 3, 1) := o_29 BX7_canHave rfl rfl
theorem dX7_canHave_19 : decode cX7_canHave 19 = .ok (.invokevirtual 46, 3) := o_182 BX7_canHave rfl rfl rfl
theorem dX7_canHave_22 : decode cX7_canHave 22 = .ok (.ifCond .ne 30, 3) := o_154 BX7_canHave rfl rfl rfl
theorem dX7_canHave_25 : decode cX7_canHave 25 = .ok (.aload_n 1, 1) := o_43 BX7_canHave rfl rfl
theorem dX7_canHave_26 : decode cX7_canHave 26 = .ok (.getfield 49, 3) := o_180 BX7_canHave rfl rfl rfl
theorem dX7_canHave_29 : decode cX7_canHave 29 = .ok (.iload_n 3, 1) := o_29 BX7_canHave rfl rfl
theorem dX7_canHave_30 : decode cX7_canHave 30 = .ok (.iaload, 1) := o_46 BX7_canHave rfl rfl
theorem dX7_canHave_31 : decode cX7_canHave 31 = .ok (.aload_n 1, 1) := o_43 BX7_canHave rfl rfl
theorem dX7_canHave_32 : decode cX7_canHave 32 = .ok (.getfield 53, 3) := o_180 BX7_canHave rfl rfl rfl
theorem dX7_canHave_35 : decode cX7_canHave 35 = .ok (.iload_n 2, 1) := o_28 BX7_canHave rfl rfl
theorem dX7_canHave_36 : decode cX7_canHave 36 = .ok (.iaload, 1) := o_46 BX7_canHave rfl rfl
theorem dX7_canHave_37 : decode cX7_canHave 37 = .ok (.isub, 1) := o_100 BX7_canHave rfl rfl
theorem dX7_canHave_38 : decode cX7_canHave 38 = .ok (.invokestatic 56, 3) := o_184 BX7_canHave rfl rfl rfl
theorem dX7_canHave_41 : decode cX7_canHave 41 = .ok (.aload_n 0, 1) := o_42 BX7_canHave rfl rfl
theorem dX7_canHave_42 : decode cX7_canHave 42 = .ok (.getfield 16, 3) := o_180 BX7_canHave rfl rfl rfl
theorem dX7_canHave_45 : decode cX7_canHave 45 = .ok (.if_icmp .gt 7, 3) := o_163 BX7_canHave rfl rfl rfl
theorem dX7_canHave_48 : decode cX7_canHave 48 = .ok (.iconst 1, 1) := o_4 BX7_canHave rfl rfl
theorem dX7_canHave_49 : decode cX7_canHave 49 = .ok (.goto 4, 3) := o_167 BX7_canHave rfl rfl rfl
theorem dX7_canHave_52 : decode cX7_canHave 52 = .ok (.iconst 0, 1) := o_3 BX7_canHave rfl rfl
theorem dX7_canHave_53 : decode cX7_canHave 53 = .ok (.ireturn, 1) := o_172 BX7_canHave rfl rfl
theorem dX7_choice_0 : decode cX7_choice 0 = .ok (.aload_n 0, 1) := o_42 BX7_choice rfl rfl
theorem dX7_choice_1 : decode cX7_choice 1 = .ok (.getfield 11, 3) := o_180 BX7_choice rfl rfl rfl
theorem dX7_choice_4 : decode cX7_choice 4 = .ok (.iload_n 2, 1) := o_28 BX7_choice rfl rfl
theorem dX7_choice_5 : decode cX7_choice 5 = .ok (.aaload, 1) := o_50 BX7_choice rfl rfl
theorem dX7_choice_6 : decode cX7_choice 6 = .ok (.iload_n 3, 1) := o_29 BX7_choice rfl rfl
theorem dX7_choice_7 : decode cX7_choice 7 = .ok (.iaload, 1) := o_46 BX7_choice rfl rfl
theorem dX7_choice_8 : decode cX7_choice 8 = .ok (.istore 4, 2) := o_54 BX7_choice rfl rfl rfl
theorem dX7_choice_10 : decode cX7_choice 10 = .ok (.aload_n 0, 1) := o_42 BX7_choice rfl rfl
theorem dX7_choice_11 : decode cX7_choice 11 = .ok (.getfield 11, 3) := o_180 BX7_choice rfl rfl rfl
theorem dX7_choice_14 : decode cX7_choice 14 = .ok (.iload_n 2, 1) := o_28 BX7_choice rfl rfl
theorem dX7_choice_15 : decode cX7_choice 15 = .ok (.iconst 1, 1) := o_4 BX7_choice rfl rfl
theorem dX7_choice_16 : decode cX7_choice 16 = .ok (.iadd, 1) := o_96 BX7_choice rfl rfl
theorem dX7_choice_17 : decode cX7_choice 17 = .ok (.aaload, 1) := o_50 BX7_choice rfl rfl
theorem dX7_choice_18 : decode cX7_choice 18 = .ok (.iload_n 3, 1) := o_29 BX7_choice rfl rfl
theorem dX7_choice_19 : decode cX7_choice 19 = .ok (.iaload, 1) := o_46 BX7_choice rfl rfl
theorem dX7_choice_20 : decode cX7_choice 20 = .ok (.iload 4, 2) := o_21 BX7_choice rfl rfl rfl
theorem dX7_choice_22 : decode cX7_choice 22 = .ok (.if_icmp .ne 5, 3) := o_160 BX7_choice rfl rfl rfl
theorem dX7_choice_25 : decode cX7_choice 25 = .ok (.iconst (-1), 1) := o_2 BX7_choice rfl rfl
theorem dX7_choice_26 : decode cX7_choice 26 = .ok (.ireturn, 1) := o_172 BX7_choice rfl rfl
theorem dX7_choice_27 : decode cX7_choice 27 = .ok (.iconst 0, 1) := o_3 BX7_choice rfl rfl
theorem dX7_choice_28 : decode cX7_choice 28 = .ok (.istore 5, 2) := o_54 BX7_choice rfl rfl rfl
theorem dX7_choice_30 : decode cX7_choice 30 = .ok (.iload 5, 2) := o_21 BX7_choice rfl rfl rfl
theorem dX7_choice_32 : decode cX7_choice 32 = .ok (.aload_n 1, 1) := o_43 BX7_choice rfl rfl
theorem dX7_choice_33 : decode cX7_choice 33 = .ok (.getfield 20, 3) := o_180 BX7_choice rfl rfl rfl
theorem dX7_choice_36 : decode cX7_choice 36 = .ok (.if_icmp .ge 46, 3) := o_162 BX7_choice rfl rfl rfl
theorem dX7_choice_39 : decode cX7_choice 39 = .ok (.aload_n 0, 1) := o_42 BX7_choice rfl rfl
theorem dX7_choice_40 : decode cX7_choice 40 = .ok (.aload_n 1, 1) := o_43 BX7_choice rfl rfl
theorem dX7_choice_41 : decode cX7_choice 41 = .ok (.iload_n 2, 1) := o_28 BX7_choice rfl rfl
theorem dX7_choice_42 : decode cX7_choice 42 = .ok (.iload 5, 2) := o_21 BX7_choice rfl rfl rfl
theorem dX7_choice_44 : decode cX7_choice 44 = .ok (.iload_n 3, 1) := o_29 BX7_choice rfl rfl
theorem dX7_choice_45 : decode cX7_choice 45 = .ok (.invokevirtual 32, 3) := o_182 BX7_choice rfl rfl rfl
theorem dX7_choice_48 : decode cX7_choice 48 = .ok (.ifCond .eq 28, 3) := o_153 BX7_choice rfl rfl rfl
theorem dX7_choice_51 : decode cX7_choice 51 = .ok (.iconst 1, 1) := o_4 BX7_choice rfl rfl
theorem dX7_choice_52 : decode cX7_choice 52 = .ok (.aload_n 0, 1) := o_42 BX7_choice rfl rfl
theorem dX7_choice_53 : decode cX7_choice 53 = .ok (.getfield 11, 3) := o_180 BX7_choice rfl rfl rfl
theorem dX7_choice_56 : decode cX7_choice 56 = .ok (.iload_n 2, 1) := o_28 BX7_choice rfl rfl
theorem dX7_choice_57 : decode cX7_choice 57 = .ok (.iconst 1, 1) := o_4 BX7_choice rfl rfl
theorem dX7_choice_58 : decode cX7_choice 58 = .ok (.iadd, 1) := o_96 BX7_choice rfl rfl
theorem dX7_choice_59 : decode cX7_choice 59 = .ok (.aaload, 1) := o_50 BX7_choice rfl rfl
theorem dX7_choice_60 : decode cX7_choice 60 = .ok (.iload_n 3, 1) := o_29 BX7_choice rfl rfl
theorem dX7_choice_61 : decode cX7_choice 61 = .ok (.iconst 1, 1) := o_4 BX7_choice rfl rfl
theorem dX7_choice_62 : decode cX7_choice 62 = .ok (.iload 5, 2) := o_21 BX7_choice rfl rfl rfl
theorem dX7_choice_64 : decode cX7_choice 64 = .ok (.ishl, 1) := o_120 BX7_choice rfl rfl
theorem dX7_choice_65 : decode cX7_choice 65 = .ok (.ior, 1) := o_128 BX7_choice rfl rfl
theorem dX7_choice_66 : decode cX7_choice 66 = .ok (.iaload, 1) := o_46 BX7_choice rfl rfl
theorem dX7_choice_67 : decode cX7_choice 67 = .ok (.iadd, 1) := o_96 BX7_choice rfl rfl
theorem dX7_choice_68 : decode cX7_choice 68 = .ok (.iload 4, 2) := o_21 BX7_choice rfl rfl rfl
theorem dX7_choice_70 : decode cX7_choice 70 = .ok (.if_icmp .ne 6, 3) := o_160 BX7_choice rfl rfl rfl
theorem dX7_choice_73 : decode cX7_choice 73 = .ok (.iload 5, 2) := o_21 BX7_choice rfl rfl rfl
theorem dX7_choice_75 : decode cX7_choice 75 = .ok (.ireturn, 1) := o_172 BX7_choice rfl rfl
theorem dX7_choice_76 : decode cX7_choice 76 = .ok (.iinc 5 1, 3) := o_132 BX7_choice rfl rfl rfl rfl
theorem dX7_choice_79 : decode cX7_choice 79 = .ok (.goto (-49), 3) := o_167 BX7_choice rfl rfl rfl
theorem dX7_choice_82 : decode cX7_choice 82 = .ok (.iconst (-1), 1) := o_2 BX7_choice rfl rfl
theorem dX7_choice_83 : decode cX7_choice 83 = .ok (.ireturn, 1) := o_172 BX7_choice rfl rfl
theorem dX8_init_0 : decode cX8_init 0 = .ok (.aload_n 0, 1) := o_42 BX8_init rfl rfl
theorem dX8_init_1 : decode cX8_init 1 = .ok (.invokespecial 3, 3) := o_183 BX8_init rfl rfl rfl
theorem dX8_init_4 : decode cX8_init 4 = .ok (.aload_n 0, 1) := o_42 BX8_init rfl rfl
theorem dX8_init_5 : decode cX8_init 5 = .ok (.bipush 20, 2) := o_16 BX8_init rfl rfl rfl
theorem dX8_init_7 : decode cX8_init 7 = .ok (.newarray .int, 2) := o_188_10 BX8_init rfl rfl rfl
theorem dX8_init_9 : decode cX8_init 9 = .ok (.putfield 9, 3) := o_181 BX8_init rfl rfl rfl
theorem dX8_init_12 : decode cX8_init 12 = .ok (.aload_n 0, 1) := o_42 BX8_init rfl rfl
theorem dX8_init_13 : decode cX8_init 13 = .ok (.iconst 4, 1) := o_7 BX8_init rfl rfl
theorem dX8_init_14 : decode cX8_init 14 = .ok (.putfield 15, 3) := o_181 BX8_init rfl rfl rfl
theorem dX8_init_17 : decode cX8_init 17 = .ok (.aload_n 0, 1) := o_42 BX8_init rfl rfl
theorem dX8_init_18 : decode cX8_init 18 = .ok (.iconst 0, 1) := o_3 BX8_init rfl rfl
theorem dX8_init_19 : decode cX8_init 19 = .ok (.putfield 19, 3) := o_181 BX8_init rfl rfl rfl
theorem dX8_init_22 : decode cX8_init 22 = .ok (.aload_n 0, 1) := o_42 BX8_init rfl rfl
theorem dX8_init_23 : decode cX8_init 23 = .ok (.iconst 1, 1) := o_4 BX8_init rfl rfl
theorem dX8_init_24 : decode cX8_init 24 = .ok (.putfield 22, 3) := o_181 BX8_init rfl rfl rfl
theorem dX8_init_27 : decode cX8_init 27 = .ok (.return_, 1) := o_177 BX8_init rfl rfl
theorem dX8_become_0 : decode cX8_become 0 = .ok (.aload_n 0, 1) := o_42 BX8_become rfl rfl
theorem dX8_become_1 : decode cX8_become 1 = .ok (.aload_n 1, 1) := o_43 BX8_become rfl rfl
theorem dX8_become_2 : decode cX8_become 2 = .ok (.getfield 25, 3) := o_180 BX8_become rfl rfl rfl
theorem dX8_become_5 : decode cX8_become 5 = .ok (.putfield 15, 3) := o_181 BX8_become rfl rfl rfl
theorem dX8_become_8 : decode cX8_become 8 = .ok (.aload_n 0, 1) := o_42 BX8_become rfl rfl
theorem dX8_become_9 : decode cX8_become 9 = .ok (.iconst 0, 1) := o_3 BX8_become rfl rfl
theorem dX8_become_10 : decode cX8_become 10 = .ok (.putfield 19, 3) := o_181 BX8_become rfl rfl rfl
theorem dX8_become_13 : decode cX8_become 13 = .ok (.iconst 0, 1) := o_3 BX8_become rfl rfl
theorem dX8_become_14 : decode cX8_become 14 = .ok (.istore_n 2, 1) := o_61 BX8_become rfl rfl
theorem dX8_become_15 : decode cX8_become 15 = .ok (.iload_n 2, 1) := o_28 BX8_become rfl rfl
theorem dX8_become_16 : decode cX8_become 16 = .ok (.aload_n 0, 1) := o_42 BX8_become rfl rfl
theorem dX8_become_17 : decode cX8_become 17 = .ok (.getfield 15, 3) := o_180 BX8_become rfl rfl rfl
theorem dX8_become_20 : decode cX8_become 20 = .ok (.if_icmp .ge 35, 3) := o_162 BX8_become rfl rfl rfl
theorem dX8_become_23 : decode cX8_become 23 = .ok (.aload_n 0, 1) := o_42 BX8_become rfl rfl
theorem dX8_become_24 : decode cX8_become 24 = .ok (.dup, 1) := o_89 BX8_become rfl rfl
theorem dX8_become_25 : decode cX8_become 25 = .ok (.getfield 19, 3) := o_180 BX8_become rfl rfl rfl
theorem dX8_become_28 : decode cX8_become 28 = .ok (.aload_n 1, 1) := o_43 BX8_become rfl rfl
theorem dX8_become_29 : decode cX8_become 29 = .ok (.iload_n 2, 1) := o_28 BX8_become rfl rfl
theorem dX8_become_30 : decode cX8_become 30 = .ok (.invokevirtual 30, 3) := o_182 BX8_become rfl rfl rfl
theorem dX8_become_33 : decode cX8_become 33 = .ok (.bipush 99, 2) := o_16 BX8_become rfl rfl rfl
theorem dX8_become_35 : decode cX8_become 35 = .ok (.if_icmp .ne 9, 3) := o_160 BX8_become rfl rfl rfl
theorem dX8_become_38 : decode cX8_become 38 = .ok (.iconst 1, 1) := o_4 BX8_become rfl rfl
theorem dX8_become_39 : decode cX8_become 39 = .ok (.iload_n 2, 1) := o_28 BX8_become rfl rfl
theorem dX8_become_40 : decode cX8_become 40 = .ok (.ishl, 1) := o_120 BX8_become rfl rfl
theorem dX8_become_41 : decode cX8_become 41 = .ok (.goto 4, 3) := o_167 BX8_become rfl rfl rfl
theorem dX8_become_44 : decode cX8_become 44 = .ok (.iconst 0, 1) := o_3 BX8_become rfl rfl
theorem dX8_become_45 : decode cX8_become 45 = .ok (.ior, 1) := o_128 BX8_become rfl rfl
theorem dX8_become_46 : decode cX8_become 46 = .ok (.putfield 19, 3) := o_181 BX8_become rfl rfl rfl
theorem dX8_become_49 : decode cX8_become 49 = .ok (.iinc 2 1, 3) := o_132 BX8_become rfl rfl rfl rfl
theorem dX8_become_52 : decode cX8_become 52 = .ok (.goto (-37), 3) := o_167 BX8_become rfl rfl rfl
theorem dX8_become_55 : decode cX8_become 55 = .ok (.return_, 1) := o_177 BX8_become rfl rfl
theorem dX8_takeWeather_0 : decode cX8_takeWeather 0 = .ok (.aload_n 0, 1) := o_42 BX8_takeWeather rfl rfl
theorem dX8_takeWeather_1 : decode cX8_takeWeather 1 = .ok (.aload_n 1, 1) := o_43 BX8_takeWeather rfl rfl
theorem dX8_takeWeather_2 : decode cX8_takeWeather 2 = .ok (.getfield 25, 3) := o_180 BX8_takeWeather rfl rfl rfl
theorem dX8_takeWeather_5 : decode cX8_takeWeather 5 = .ok (.putfield 22, 3) := o_181 BX8_takeWeather rfl rfl rfl
theorem dX8_takeWeather_8 : decode cX8_takeWeather 8 = .ok (.iconst 0, 1) := o_3 BX8_takeWeather rfl rfl
theorem dX8_takeWeather_9 : decode cX8_takeWeather 9 = .ok (.istore_n 2, 1) := o_61 BX8_takeWeather rfl rfl
theorem dX8_takeWeather_10 : decode cX8_takeWeather 10 = .ok (.iload_n 2, 1) := o_28 BX8_takeWeather rfl rfl
theorem dX8_takeWeather_11 : decode cX8_takeWeather 11 = .ok (.aload_n 0, 1) := o_42 BX8_takeWeather rfl rfl
theorem dX8_takeWeather_12 : decode cX8_takeWeather 12 = .ok (.getfield 22, 3) := o_180 BX8_takeWeather rfl rfl rfl
theorem dX8_takeWeather_15 : decode cX8_takeWeather 15 = .ok (.if_icmp .ge 23, 3) := o_162 BX8_takeWeather rfl rfl rfl
theorem dX8_takeWeather_18 : decode cX8_takeWeather 18 = .ok (.aload_n 0, 1) := o_42 BX8_takeWeather rfl rfl
theorem dX8_takeWeather_19 : decode cX8_takeWeather 19 = .ok (.getfield 9, 3) := o_180 BX8_takeWeather rfl rfl rfl
theorem dX8_takeWeather_22 : decode cX8_takeWeather 22 = .ok (.iload_n 2, 1) := o_28 BX8_takeWeather rfl rfl
theorem dX8_takeWeather_23 : decode cX8_takeWeather 23 = .ok (.aload_n 1, 1) := o_43 BX8_takeWeather rfl rfl
theorem dX8_takeWeather_24 : decode cX8_takeWeather 24 = .ok (.iload_n 2, 1) := o_28 BX8_takeWeather rfl rfl
theorem dX8_takeWeather_25 : decode cX8_takeWeather 25 = .ok (.invokevirtual 30, 3) := o_182 BX8_takeWeather rfl rfl rfl
theorem dX8_takeWeather_28 : decode cX8_takeWeather 28 = .ok (.bipush 48, 2) := o_16 BX8_takeWeather rfl rfl rfl
theorem dX8_takeWeather_30 : decode cX8_takeWeather 30 = .ok (.isub, 1) := o_100 BX8_takeWeather rfl rfl
theorem dX8_takeWeather_31 : decode cX8_takeWeather 31 = .ok (.iastore, 1) := o_79 BX8_takeWeather rfl rfl
theorem dX8_takeWeather_32 : decode cX8_takeWeather 32 = .ok (.iinc 2 1, 3) := o_132 BX8_takeWeather rfl rfl rfl rfl
theorem dX8_takeWeather_35 : decode cX8_takeWeather 35 = .ok (.goto (-25), 3) := o_167 BX8_takeWeather rfl rfl rfl
theorem dX8_takeWeather_38 : decode cX8_takeWeather 38 = .ok (.return_, 1) := o_177 BX8_takeWeather rfl rfl
theorem dX8_gate_0 : decode cX8_gate 0 = .ok (.aload_n 0, 1) := o_42 BX8_gate rfl rfl
theorem dX8_gate_1 : decode cX8_gate 1 = .ok (.getfield 15, 3) := o_180 BX8_gate rfl rfl rfl
theorem dX8_gate_4 : decode cX8_gate 4 = .ok (.iconst 1, 1) := o_4 BX8_gate rfl rfl
theorem dX8_gate_5 : decode cX8_gate 5 = .ok (.isub, 1) := o_100 BX8_gate rfl rfl
theorem dX8_gate_6 : decode cX8_gate 6 = .ok (.ireturn, 1) := o_172 BX8_gate rfl rfl
theorem dX8_putOnStreet_0 : decode cX8_putOnStreet 0 = .ok (.iconst 0, 1) := o_3 BX8_putOnStreet rfl rfl
theorem dX8_putOnStreet_1 : decode cX8_putOnStreet 1 = .ok (.iload_n 1, 1) := o_27 BX8_putOnStreet rfl rfl
theorem dX8_putOnStreet_2 : decode cX8_putOnStreet 2 = .ok (.aload_n 0, 1) := o_42 BX8_putOnStreet rfl rfl
theorem dX8_putOnStreet_3 : decode cX8_putOnStreet 3 = .ok (.invokevirtual 34, 3) := o_182 BX8_putOnStreet rfl rfl rfl
theorem dX8_putOnStreet_6 : decode cX8_putOnStreet 6 = .ok (.iconst 1, 1) := o_4 BX8_putOnStreet rfl rfl
theorem dX8_putOnStreet_7 : decode cX8_putOnStreet 7 = .ok (.isub, 1) := o_100 BX8_putOnStreet rfl rfl
theorem dX8_putOnStreet_8 : decode cX8_putOnStreet 8 = .ok (.invokestatic 38, 3) := o_184 BX8_putOnStreet rfl rfl rfl
theorem dX8_putOnStreet_11 : decode cX8_putOnStreet 11 = .ok (.invokestatic 44, 3) := o_184 BX8_putOnStreet rfl rfl rfl
theorem dX8_putOnStreet_14 : decode cX8_putOnStreet 14 = .ok (.ireturn, 1) := o_172 BX8_putOnStreet rfl rfl
theorem dX8_weatherAt_0 : decode cX8_weatherAt 0 = .ok (.aload_n 0, 1) := o_42 BX8_weatherAt rfl rfl
theorem dX8_weatherAt_1 : decode cX8_weatherAt 1 = .ok (.getfield 22, 3) := o_180 BX8_weatherAt rfl rfl rfl
theorem dX8_weatherAt_4 : decode cX8_weatherAt 4 = .ok (.iconst 1, 1) := o_4 BX8_weatherAt rfl rfl
theorem dX8_weatherAt_5 : decode cX8_weatherAt 5 = .ok (.if_icmp .lt 7, 3) := o_161 BX8_weatherAt rfl rfl rfl
theorem dX8_weatherAt_8 : decode cX8_weatherAt 8 = .ok (.iload_n 1, 1) := o_27 BX8_weatherAt rfl rfl
theorem dX8_weatherAt_9 : decode cX8_weatherAt 9 = .ok (.ifCond .ge 7, 3) := o_156 BX8_weatherAt rfl rfl rfl
theorem dX8_weatherAt_12 : decode cX8_weatherAt 12 = .ok (.iconst 0, 1) := o_3 BX8_weatherAt rfl rfl
theorem dX8_weatherAt_13 : decode cX8_weatherAt 13 = .ok (.goto 14, 3) := o_167 BX8_weatherAt rfl rfl rfl
theorem dX8_weatherAt_16 : decode cX8_weatherAt 16 = .ok (.aload_n 0, 1) := o_42 BX8_weatherAt rfl rfl
theorem dX8_weatherAt_17 : decode cX8_weatherAt 17 = .ok (.getfield 9, 3) := o_180 BX8_weatherAt rfl rfl rfl
theorem dX8_weatherAt_20 : decode cX8_weatherAt 20 = .ok (.iload_n 1, 1) := o_27 BX8_weatherAt rfl rfl
theorem dX8_weatherAt_21 : decode cX8_weatherAt 21 = .ok (.aload_n 0, 1) := o_42 BX8_weatherAt rfl rfl
theorem dX8_weatherAt_22 : decode cX8_weatherAt 22 = .ok (.getfield 22, 3) := o_180 BX8_weatherAt rfl rfl rfl
theorem dX8_weatherAt_25 : decode cX8_weatherAt 25 = .ok (.irem, 1) := o_112 BX8_weatherAt rfl rfl
theorem dX8_weatherAt_26 : decode cX8_weatherAt 26 = .ok (.iaload, 1) := o_46 BX8_weatherAt rfl rfl
theorem dX8_weatherAt_27 : decode cX8_weatherAt 27 = .ok (.ireturn, 1) := o_172 BX8_weatherAt rfl rfl
theorem dX8_isCorner_0 : decode cX8_isCorner 0 = .ok (.aload_n 0, 1) := o_42 BX8_isCorner rfl rfl
theorem dX8_isCorner_1 : decode cX8_isCorner 1 = .ok (.getfield 19, 3) := o_180 BX8_isCorner rfl rfl rfl
theorem dX8_isCorner_4 : decode cX8_isCorner 4 = .ok (.iload_n 1, 1) := o_27 BX8_isCorner rfl rfl
theorem dX8_isCorner_5 : decode cX8_isCorner 5 = .ok (.ishr, 1) := o_122 BX8_isCorner rfl rfl
theorem dX8_isCorner_6 : decode cX8_isCorner 6 = .ok (.iconst 1, 1) := o_4 BX8_isCorner rfl rfl
theorem dX8_isCorner_7 : decode cX8_isCorner 7 = .ok (.iand, 1) := o_126 BX8_isCorner rfl rfl
theorem dX8_isCorner_8 : decode cX8_isCorner 8 = .ok (.iconst 1, 1) := o_4 BX8_isCorner rfl rfl
theorem dX8_isCorner_9 : decode cX8_isCorner 9 = .ok (.if_icmp .ne 7, 3) := o_160 BX8_isCorner rfl rfl rfl
theorem dX8_isCorner_12 : decode cX8_isCorner 12 = .ok (.iconst 1, 1) := o_4 BX8_isCorner rfl rfl
theorem dX8_isCorner_13 : decode cX8_isCorner 13 = .ok (.goto 4, 3) := o_167 BX8_isCorner rfl rfl rfl
theorem dX8_isCorner_16 : decode cX8_isCorner 16 = .ok (.iconst 0, 1) := o_3 BX8_isCorner rfl rfl
theorem dX8_isCorner_17 : decode cX8_isCorner 17 = .ok (.ireturn, 1) := o_172 BX8_isCorner rfl rfl
theorem dX9_init_0 : decode cX9_init 0 = .ok (.aload_n 0, 1) := o_42 BX9_init rfl rfl
theorem dX9_init_1 : decode cX9_init 1 = .ok (.invokespecial 3, 3) := o_183 BX9_init rfl rfl rfl
theorem dX9_init_4 : decode cX9_init 4 = .ok (.aload_n 0, 1) := o_42 BX9_init rfl rfl
theorem dX9_init_5 : decode cX9_init 5 = .ok (.bipush 80, 2) := o_16 BX9_init rfl rfl rfl
theorem dX9_init_7 : decode cX9_init 7 = .ok (.newarray .int, 2) := o_188_10 BX9_init rfl rfl rfl
theorem dX9_init_9 : decode cX9_init 9 = .ok (.putfield 9, 3) := o_181 BX9_init rfl rfl rfl
theorem dX9_init_12 : decode cX9_init 12 = .ok (.aload_n 0, 1) := o_42 BX9_init rfl rfl
theorem dX9_init_13 : decode cX9_init 13 = .ok (.iconst 0, 1) := o_3 BX9_init rfl rfl
theorem dX9_init_14 : decode cX9_init 14 = .ok (.putfield 15, 3) := o_181 BX9_init rfl rfl rfl
theorem dX9_init_17 : decode cX9_init 17 = .ok (.aload_n 0, 1) := o_42 BX9_init rfl rfl
theorem dX9_init_18 : decode cX9_init 18 = .ok (.iconst 0, 1) := o_3 BX9_init rfl rfl
theorem dX9_init_19 : decode cX9_init 19 = .ok (.putfield 19, 3) := o_181 BX9_init rfl rfl rfl
theorem dX9_init_22 : decode cX9_init 22 = .ok (.aload_n 0, 1) := o_42 BX9_init rfl rfl
theorem dX9_init_23 : decode cX9_init 23 = .ok (.iconst 0, 1) := o_3 BX9_init rfl rfl
theorem dX9_init_24 : decode cX9_init 24 = .ok (.putfield 22, 3) := o_181 BX9_init rfl rfl rfl
theorem dX9_init_27 : decode cX9_init 27 = .ok (.return_, 1) := o_177 BX9_init rfl rfl
theorem dX9_addFour_0 : decode cX9_addFour 0 = .ok (.aload_n 0, 1) := o_42 BX9_addFour rfl rfl
theorem dX9_addFour_1 : decode cX9_addFour 1 = .ok (.getfield 15, 3) := o_180 BX9_addFour rfl rfl rfl
theorem dX9_addFour_4 : decode cX9_addFour 4 = .ok (.iconst 4, 1) := o_7 BX9_addFour rfl rfl
theorem dX9_addFour_5 : decode cX9_addFour 5 = .ok (.iadd, 1) := o_96 BX9_addFour rfl rfl
theorem dX9_addFour_6 : decode cX9_addFour 6 = .ok (.bipush 80, 2) := o_16 BX9_addFour rfl rfl rfl
theorem dX9_addFour_8 : decode cX9_addFour 8 = .ok (.if_icmp .le 5, 3) := o_164 BX9_addFour rfl rfl rfl
theorem dX9_addFour_11 : decode cX9_addFour 11 = .ok (.iconst 0, 1) := o_3 BX9_addFour rfl rfl
theorem dX9_addFour_12 : decode cX9_addFour 12 = .ok (.ireturn, 1) := o_172 BX9_addFour rfl rfl
theorem dX9_addFour_13 : decode cX9_addFour 13 = .ok (.bipush 24, 2) := o_16 BX9_addFour rfl rfl rfl
theorem dX9_addFour_15 : decode cX9_addFour 15 = .ok (.istore_n 2, 1) := o_61 BX9_addFour rfl rfl
theorem dX9_addFour_16 : decode cX9_addFour 16 = .ok (.iload_n 2, 1) := o_28 BX9_addFour rfl rfl
theorem dX9_addFour_17 : decode cX9_addFour 17 = .ok (.ifCond .lt 35, 3) := o_155 BX9_addFour rfl rfl rfl
theorem dX9_addFour_20 : decode cX9_addFour 20 = .ok (.aload_n 0, 1) := o_42 BX9_addFour rfl rfl
theorem dX9_addFour_21 : decode cX9_addFour 21 = .ok (.getfield 9, 3) := o_180 BX9_addFour rfl rfl rfl
theorem dX9_addFour_24 : decode cX9_addFour 24 = .ok (.aload_n 0, 1) := o_42 BX9_addFour rfl rfl
theorem dX9_addFour_25 : decode cX9_addFour 25 = .ok (.getfield 15, 3) := o_180 BX9_addFour rfl rfl rfl
theorem dX9_addFour_28 : decode cX9_addFour 28 = .ok (.iload_n 1, 1) := o_27 BX9_addFour rfl rfl
theorem dX9_addFour_29 : decode cX9_addFour 29 = .ok (.iload_n 2, 1) := o_28 BX9_addFour rfl rfl
theorem dX9_addFour_30 : decode cX9_addFour 30 = .ok (.iushr, 1) := o_124 BX9_addFour rfl rfl
theorem dX9_addFour_31 : decode cX9_addFour 31 = .ok (.sipush 255, 3) := o_17 BX9_addFour rfl rfl rfl
theorem dX9_addFour_34 : decode cX9_addFour 34 = .ok (.iand, 1) := o_126 BX9_addFour rfl rfl
theorem dX9_addFour_35 : decode cX9_addFour 35 = .ok (.iastore, 1) := o_79 BX9_addFour rfl rfl
theorem dX9_addFour_36 : decode cX9_addFour 36 = .ok (.aload_n 0, 1) := o_42 BX9_addFour rfl rfl
theorem dX9_addFour_37 : decode cX9_addFour 37 = .ok (.dup, 1) := o_89 BX9_addFour rfl rfl
theorem dX9_addFour_38 : decode cX9_addFour 38 = .ok (.getfield 15, 3) := o_180 BX9_addFour rfl rfl rfl
theorem dX9_addFour_41 : decode cX9_addFour 41 = .ok (.iconst 1, 1) := o_4 BX9_addFour rfl rfl
theorem dX9_addFour_42 : decode cX9_addFour 42 = .ok (.iadd, 1) := o_96 BX9_addFour rfl rfl
theorem dX9_addFour_43 : decode cX9_addFour 43 = .ok (.putfield 15, 3) := o_181 BX9_addFour rfl rfl rfl
theorem dX9_addFour_46 : decode cX9_addFour 46 = .ok (.iinc 2 (-8), 3) := o_132 BX9_addFour rfl rfl rfl rfl
theorem dX9_addFour_49 : decode cX9_addFour 49 = .ok (.goto (-33), 3) := o_167 BX9_addFour rfl rfl rfl
theorem dX9_addFour_52 : decode cX9_addFour 52 = .ok (.iconst 1, 1) := o_4 BX9_addFour rfl rfl
theorem dX9_addFour_53 : decode cX9_addFour 53 = .ok (.ireturn, 1) := o_172 BX9_addFour rfl rfl
theorem dX9_cutTo_0 : decode cX9_cutTo 0 = .ok (.iload_n 1, 1) := o_27 BX9_cutTo rfl rfl
theorem dX9_cutTo_1 : decode cX9_cutTo 1 = .ok (.ifCond .lt 11, 3) := o_155 BX9_cutTo rfl rfl rfl
theorem dX9_cutTo_4 : decode cX9_cutTo 4 = .ok (.iload_n 1, 1) := o_27 BX9_cutTo rfl rfl
theorem dX9_cutTo_5 : decode cX9_cutTo 5 = .ok (.aload_n 0, 1) := o_42 BX9_cutTo rfl rfl
theorem dX9_cutTo_6 : decode cX9_cutTo 6 = .ok (.getfield 15, 3) := o_180 BX9_cutTo rfl rfl rfl
theorem dX9_cutTo_9 : decode cX9_cutTo 9 = .ok (.if_icmp .le 5, 3) := o_164 BX9_cutTo rfl rfl rfl
theorem dX9_cutTo_12 : decode cX9_cutTo 12 = .ok (.iconst 0, 1) := o_3 BX9_cutTo rfl rfl
theorem dX9_cutTo_13 : decode cX9_cutTo 13 = .ok (.ireturn, 1) := o_172 BX9_cutTo rfl rfl
theorem dX9_cutTo_14 : decode cX9_cutTo 14 = .ok (.aload_n 0, 1) := o_42 BX9_cutTo rfl rfl
theorem dX9_cutTo_15 : decode cX9_cutTo 15 = .ok (.iload_n 1, 1) := o_27 BX9_cutTo rfl rfl
theorem dX9_cutTo_16 : decode cX9_cutTo 16 = .ok (.putfield 15, 3) := o_181 BX9_cutTo rfl rfl rfl
theorem dX9_cutTo_19 : decode cX9_cutTo 19 = .ok (.iconst 1, 1) := o_4 BX9_cutTo rfl rfl
theorem dX9_cutTo_20 : decode cX9_cutTo 20 = .ok (.ireturn, 1) := o_172 BX9_cutTo rfl rfl
theorem dX9_clear_0 : decode cX9_clear 0 = .ok (.aload_n 0, 1) := o_42 BX9_clear rfl rfl
theorem dX9_clear_1 : decode cX9_clear 1 = .ok (.iconst 0, 1) := o_3 BX9_clear rfl rfl
theorem dX9_clear_2 : decode cX9_clear 2 = .ok (.putfield 15, 3) := o_181 BX9_clear rfl rfl rfl
theorem dX9_clear_5 : decode cX9_clear 5 = .ok (.return_, 1) := o_177 BX9_clear rfl rfl
theorem dX9_isEmpty_0 : decode cX9_isEmpty 0 = .ok (.aload_n 0, 1) := o_42 BX9_isEmpty rfl rfl
theorem dX9_isEmpty_1 : decode cX9_isEmpty 1 = .ok (.getfield 15, 3) := o_180 BX9_isEmpty rfl rfl rfl
theorem dX9_isEmpty_4 : decode cX9_isEmpty 4 = .ok (.ifCond .ne 7, 3) := o_154 BX9_isEmpty rfl rfl rfl
theorem dX9_isEmpty_7 : decode cX9_isEmpty 7 = .ok (.iconst 1, 1) := o_4 BX9_isEmpty rfl rfl
theorem dX9_isEmpty_8 : decode cX9_isEmpty 8 = .ok (.goto 4, 3) := o_167 BX9_isEmpty rfl rfl rfl
theorem dX9_isEmpty_11 : decode cX9_isEmpty 11 = .ok (.iconst 0, 1) := o_3 BX9_isEmpty rfl rfl
theorem dX9_isEmpty_12 : decode cX9_isEmpty 12 = .ok (.ireturn, 1) := o_172 BX9_isEmpty rfl rfl
theorem dX9_signAt_0 : decode cX9_signAt 0 = .ok (.iload_n 1, 1) := o_27 BX9_signAt rfl rfl
theorem dX9_signAt_1 : decode cX9_signAt 1 = .ok (.ifCond .lt 20, 3) := o_155 BX9_signAt rfl rfl rfl
theorem dX9_signAt_4 : decode cX9_signAt 4 = .ok (.iload_n 1, 1) := o_27 BX9_signAt rfl rfl
theorem dX9_signAt_5 : decode cX9_signAt 5 = .ok (.aload_n 0, 1) := o_42 BX9_signAt rfl rfl
theorem dX9_signAt_6 : decode cX9_signAt 6 = .ok (.getfield 15, 3) := o_180 BX9_signAt rfl rfl rfl
theorem dX9_signAt_9 : decode cX9_signAt 9 = .ok (.if_icmp .ge 12, 3) := o_162 BX9_signAt rfl rfl rfl
theorem dX9_signAt_12 : decode cX9_signAt 12 = .ok (.aload_n 0, 1) := o_42 BX9_signAt rfl rfl
theorem dX9_signAt_13 : decode cX9_signAt 13 = .ok (.getfield 9, 3) := o_180 BX9_signAt rfl rfl rfl
theorem dX9_signAt_16 : decode cX9_signAt 16 = .ok (.iload_n 1, 1) := o_27 BX9_signAt rfl rfl
theorem dX9_signAt_17 : decode cX9_signAt 17 = .ok (.iaload, 1) := o_46 BX9_signAt rfl rfl
theorem dX9_signAt_18 : decode cX9_signAt 18 = .ok (.goto 4, 3) := o_167 BX9_signAt rfl rfl rfl
theorem dX9_signAt_21 : decode cX9_signAt 21 = .ok (.iconst (-1), 1) := o_2 BX9_signAt rfl rfl
theorem dX9_signAt_22 : decode cX9_signAt 22 = .ok (.ireturn, 1) := o_172 BX9_signAt rfl rfl
theorem dX9_open_0 : decode cX9_open 0 = .ok (.aload_n 0, 1) := o_42 BX9_open rfl rfl
theorem dX9_open_1 : decode cX9_open 1 = .ok (.iconst 0, 1) := o_3 BX9_open rfl rfl
theorem dX9_open_2 : decode cX9_open 2 = .ok (.putfield 19, 3) := o_181 BX9_open rfl rfl rfl
theorem dX9_open_5 : decode cX9_open 5 = .ok (.aload_n 0, 1) := o_42 BX9_open rfl rfl
theorem dX9_open_6 : decode cX9_open 6 = .ok (.aload_n 0, 1) := o_42 BX9_open rfl rfl
theorem dX9_open_7 : decode cX9_open 7 = .ok (.getfield 15, 3) := o_180 BX9_open rfl rfl rfl
theorem dX9_open_10 : decode cX9_open 10 = .ok (.iload_n 1, 1) := o_27 BX9_open rfl rfl
theorem dX9_open_11 : decode cX9_open 11 = .ok (.invokestatic 25, 3) := o_184 BX9_open rfl rfl rfl
theorem dX9_open_14 : decode cX9_open 14 = .ok (.putfield 22, 3) := o_181 BX9_open rfl rfl rfl
theorem dX9_open_17 : decode cX9_open 17 = .ok (.return_, 1) := o_177 BX9_open rfl rfl
theorem dX9_look_0 : decode cX9_look 0 = .ok (.aload_n 0, 1) := o_42 BX9_look rfl rfl
theorem dX9_look_1 : decode cX9_look 1 = .ok (.getfield 19, 3) := o_180 BX9_look rfl rfl rfl
theorem dX9_look_4 : decode cX9_look 4 = .ok (.aload_n 0, 1) := o_42 BX9_look rfl rfl
theorem dX9_look_5 : decode cX9_look 5 = .ok (.getfield 22, 3) := o_180 BX9_look rfl rfl rfl
theorem dX9_look_8 : decode cX9_look 8 = .ok (.if_icmp .ge 15, 3) := o_162 BX9_look rfl rfl rfl
theorem dX9_look_11 : decode cX9_look 11 = .ok (.aload_n 0, 1) := o_42 BX9_look rfl rfl
theorem dX9_look_12 : decode cX9_look 12 = .ok (.getfield 9, 3) := o_180 BX9_look rfl rfl rfl
theorem dX9_look_15 : decode cX9_look 15 = .ok (.aload_n 0, 1) := o_42 BX9_look rfl rfl
theorem dX9_look_16 : decode cX9_look 16 = .ok (.getfield 19, 3) := o_180 BX9_look rfl rfl rfl
theorem dX9_look_19 : decode cX9_look 19 = .ok (.iaload, 1) := o_46 BX9_look rfl rfl
theorem dX9_look_20 : decode cX9_look 20 = .ok (.goto 4, 3) := o_167 BX9_look rfl rfl rfl
theorem dX9_look_23 : decode cX9_look 23 = .ok (.iconst (-1), 1) := o_2 BX9_look rfl rfl
theorem dX9_look_24 : decode cX9_look 24 = .ok (.ireturn, 1) := o_172 BX9_look rfl rfl
theorem dX9_pass_0 : decode cX9_pass 0 = .ok (.aload_n 0, 1) := o_42 BX9_pass rfl rfl
theorem dX9_pass_1 : decode cX9_pass 1 = .ok (.getfield 19, 3) := o_180 BX9_pass rfl rfl rfl
theorem dX9_pass_4 : decode cX9_pass 4 = .ok (.aload_n 0, 1) := o_42 BX9_pass rfl rfl
theorem dX9_pass_5 : decode cX9_pass 5 = .ok (.getfield 22, 3) := o_180 BX9_pass rfl rfl rfl
theorem dX9_pass_8 : decode cX9_pass 8 = .ok (.if_icmp .ge 13, 3) := o_162 BX9_pass rfl rfl rfl
theorem dX9_pass_11 : decode cX9_pass 11 = .ok (.aload_n 0, 1) := o_42 BX9_pass rfl rfl
theorem dX9_pass_12 : decode cX9_pass 12 = .ok (.dup, 1) := o_89 BX9_pass rfl rfl
theorem dX9_pass_13 : decode cX9_pass 13 = .ok (.getfield 19, 3) := o_180 BX9_pass rfl rfl rfl
theorem dX9_pass_16 : decode cX9_pass 16 = .ok (.iconst 1, 1) := o_4 BX9_pass rfl rfl
theorem dX9_pass_17 : decode cX9_pass 17 = .ok (.iadd, 1) := o_96 BX9_pass rfl rfl
theorem dX9_pass_18 : decode cX9_pass 18 = .ok (.putfield 19, 3) := o_181 BX9_pass rfl rfl rfl
theorem dX9_pass_21 : decode cX9_pass 21 = .ok (.return_, 1) := o_177 BX9_pass rfl rfl
theorem dX9_back_0 : decode cX9_back 0 = .ok (.aload_n 0, 1) := o_42 BX9_back rfl rfl
theorem dX9_back_1 : decode cX9_back 1 = .ok (.getfield 19, 3) := o_180 BX9_back rfl rfl rfl
theorem dX9_back_4 : decode cX9_back 4 = .ok (.ifCond .le 13, 3) := o_158 BX9_back rfl rfl rfl
theorem dX9_back_7 : decode cX9_back 7 = .ok (.aload_n 0, 1) := o_42 BX9_back rfl rfl
theorem dX9_back_8 : decode cX9_back 8 = .ok (.dup, 1) := o_89 BX9_back rfl rfl
theorem dX9_back_9 : decode cX9_back 9 = .ok (.getfield 19, 3) := o_180 BX9_back rfl rfl rfl
theorem dX9_back_12 : decode cX9_back 12 = .ok (.iconst 1, 1) := o_4 BX9_back rfl rfl
theorem dX9_back_13 : decode cX9_back 13 = .ok (.isub, 1) := o_100 BX9_back rfl rfl
theorem dX9_back_14 : decode cX9_back 14 = .ok (.putfield 19, 3) := o_181 BX9_back rfl rfl rfl
theorem dX9_back_17 : decode cX9_back 17 = .ok (.return_, 1) := o_177 BX9_back rfl rfl
theorem dX9_skip_0 : decode cX9_skip 0 = .ok (.aload_n 0, 1) := o_42 BX9_skip rfl rfl
theorem dX9_skip_1 : decode cX9_skip 1 = .ok (.invokevirtual 31, 3) := o_182 BX9_skip rfl rfl rfl
theorem dX9_skip_4 : decode cX9_skip 4 = .ok (.iload_n 1, 1) := o_27 BX9_skip rfl rfl
theorem dX9_skip_5 : decode cX9_skip 5 = .ok (.if_icmp .eq 5, 3) := o_159 BX9_skip rfl rfl rfl
theorem dX9_skip_8 : decode cX9_skip 8 = .ok (.iconst 0, 1) := o_3 BX9_skip rfl rfl
theorem dX9_skip_9 : decode cX9_skip 9 = .ok (.ireturn, 1) := o_172 BX9_skip rfl rfl
theorem dX9_skip_10 : decode cX9_skip 10 = .ok (.aload_n 0, 1) := o_42 BX9_skip rfl rfl
theorem dX9_skip_11 : decode cX9_skip 11 = .ok (.invokevirtual 35, 3) := o_182 BX9_skip rfl rfl rfl
theorem dX9_skip_14 : decode cX9_skip 14 = .ok (.iconst 1, 1) := o_4 BX9_skip rfl rfl
theorem dX9_skip_15 : decode cX9_skip 15 = .ok (.ireturn, 1) := o_172 BX9_skip rfl rfl
theorem dX9_digit_0 : decode cX9_digit 0 = .ok (.aload_n 0, 1) := o_42 BX9_digit rfl rfl
theorem dX9_digit_1 : decode cX9_digit 1 = .ok (.invokevirtual 31, 3) := o_182 BX9_digit rfl rfl rfl
theorem dX9_digit_4 : decode cX9_digit 4 = .ok (.istore_n 1, 1) := o_60 BX9_digit rfl rfl
theorem dX9_digit_5 : decode cX9_digit 5 = .ok (.iload_n 1, 1) := o_27 BX9_digit rfl rfl
theorem dX9_digit_6 : decode cX9_digit 6 = .ok (.bipush 48, 2) := o_16 BX9_digit rfl rfl rfl
theorem dX9_digit_8 : decode cX9_digit 8 = .ok (.if_icmp .lt 9, 3) := o_161 BX9_digit rfl rfl rfl
theorem dX9_digit_11 : decode cX9_digit 11 = .ok (.iload_n 1, 1) := o_27 BX9_digit rfl rfl
theorem dX9_digit_12 : decode cX9_digit 12 = .ok (.bipush 57, 2) := o_16 BX9_digit rfl rfl rfl
theorem dX9_digit_14 : decode cX9_digit 14 = .ok (.if_icmp .le 5, 3) := o_164 BX9_digit rfl rfl rfl
theorem dX9_digit_17 : decode cX9_digit 17 = .ok (.iconst (-1), 1) := o_2 BX9_digit rfl rfl
theorem dX9_digit_18 : decode cX9_digit 18 = .ok (.ireturn, 1) := o_172 BX9_digit rfl rfl
theorem dX9_digit_19 : decode cX9_digit 19 = .ok (.aload_n 0, 1) := o_42 BX9_digit rfl rfl
theorem dX9_digit_20 : decode cX9_digit 20 = .ok (.invokevirtual 35, 3) := o_182 BX9_digit rfl rfl rfl
theorem dX9_digit_23 : decode cX9_digit 23 = .ok (.iload_n 1, 1) := o_27 BX9_digit rfl rfl
theorem dX9_digit_24 : decode cX9_digit 24 = .ok (.bipush 48, 2) := o_16 BX9_digit rfl rfl rfl
theorem dX9_digit_26 : decode cX9_digit 26 = .ok (.isub, 1) := o_100 BX9_digit rfl rfl
theorem dX9_digit_27 : decode cX9_digit 27 = .ok (.ireturn, 1) := o_172 BX9_digit rfl rfl
theorem dX9_number_0 : decode cX9_number 0 = .ok (.aload_n 0, 1) := o_42 BX9_number rfl rfl
theorem dX9_number_1 : decode cX9_number 1 = .ok (.invokevirtual 38, 3) := o_182 BX9_number rfl rfl rfl
theorem dX9_number_4 : decode cX9_number 4 = .ok (.istore_n 2, 1) := o_61 BX9_number rfl rfl
theorem dX9_number_5 : decode cX9_number 5 = .ok (.iload_n 2, 1) := o_28 BX9_number rfl rfl
theorem dX9_number_6 : decode cX9_number 6 = .ok (.istore_n 3, 1) := o_62 BX9_number rfl rfl
theorem dX9_number_7 : decode cX9_number 7 = .ok (.iconst 1, 1) := o_4 BX9_number rfl rfl
theorem dX9_number_8 : decode cX9_number 8 = .ok (.istore 4, 2) := o_54 BX9_number rfl rfl rfl
theorem dX9_number_10 : decode cX9_number 10 = .ok (.iload 4, 2) := o_21 BX9_number rfl rfl rfl
theorem dX9_number_12 : decode cX9_number 12 = .ok (.iload_n 1, 1) := o_27 BX9_number rfl rfl
theorem dX9_number_13 : decode cX9_number 13 = .ok (.if_icmp .ge 35, 3) := o_162 BX9_number rfl rfl rfl
theorem dX9_number_16 : decode cX9_number 16 = .ok (.iload_n 3, 1) := o_29 BX9_number rfl rfl
theorem dX9_number_17 : decode cX9_number 17 = .ok (.iconst (-1), 1) := o_2 BX9_number rfl rfl
theorem dX9_number_18 : decode cX9_number 18 = .ok (.if_icmp .eq 30, 3) := o_159 BX9_number rfl rfl rfl
theorem dX9_number_21 : decode cX9_number 21 = .ok (.aload_n 0, 1) := o_42 BX9_number rfl rfl
theorem dX9_number_22 : decode cX9_number 22 = .ok (.invokevirtual 38, 3) := o_182 BX9_number rfl rfl rfl
theorem dX9_number_25 : decode cX9_number 25 = .ok (.istore_n 3, 1) := o_62 BX9_number rfl rfl
theorem dX9_number_26 : decode cX9_number 26 = .ok (.iload_n 3, 1) := o_29 BX9_number rfl rfl
theorem dX9_number_27 : decode cX9_number 27 = .ok (.iconst (-1), 1) := o_2 BX9_number rfl rfl
theorem dX9_number_28 : decode cX9_number 28 = .ok (.if_icmp .ne 7, 3) := o_160 BX9_number rfl rfl rfl
theorem dX9_number_31 : decode cX9_number 31 = .ok (.iload_n 2, 1) := o_28 BX9_number rfl rfl
theorem dX9_number_32 : decode cX9_number 32 = .ok (.goto 9, 3) := o_167 BX9_number rfl rfl rfl
theorem dX9_number_35 : decode cX9_number 35 = .ok (.iload_n 2, 1) := o_28 BX9_number rfl rfl
theorem dX9_number_36 : decode cX9_number 36 = .ok (.bipush 10, 2) := o_16 BX9_number rfl rfl rfl
theorem dX9_number_38 : decode cX9_number 38 = .ok (.imul, 1) := o_104 BX9_number rfl rfl
theorem dX9_number_39 : decode cX9_number 39 = .ok (.iload_n 3, 1) := o_29 BX9_number rfl rfl
theorem dX9_number_40 : decode cX9_number 40 = .ok (.iadd, 1) := o_96 BX9_number rfl rfl
theorem dX9_number_41 : decode cX9_number 41 = .ok (.istore_n 2, 1) := o_61 BX9_number rfl rfl
theorem dX9_number_42 : decode cX9_number 42 = .ok (.iinc 4 1, 3) := o_132 BX9_number rfl rfl rfl rfl
theorem dX9_number_45 : decode cX9_number 45 = .ok (.goto (-35), 3) := o_167 BX9_number rfl rfl rfl
theorem dX9_number_48 : decode cX9_number 48 = .ok (.iload_n 2, 1) := o_28 BX9_number rfl rfl
theorem dX9_number_49 : decode cX9_number 49 = .ok (.ireturn, 1) := o_172 BX9_number rfl rfl
theorem dX9_isRead_0 : decode cX9_isRead 0 = .ok (.aload_n 0, 1) := o_42 BX9_isRead rfl rfl
theorem dX9_isRead_1 : decode cX9_isRead 1 = .ok (.getfield 19, 3) := o_180 BX9_isRead rfl rfl rfl
theorem dX9_isRead_4 : decode cX9_isRead 4 = .ok (.aload_n 0, 1) := o_42 BX9_isRead rfl rfl
theorem dX9_isRead_5 : decode cX9_isRead 5 = .ok (.getfield 22, 3) := o_180 BX9_isRead rfl rfl rfl
theorem dX9_isRead_8 : decode cX9_isRead 8 = .ok (.if_icmp .lt 7, 3) := o_161 BX9_isRead rfl rfl rfl
theorem dX9_isRead_11 : decode cX9_isRead 11 = .ok (.iconst 1, 1) := o_4 BX9_isRead rfl rfl
theorem dX9_isRead_12 : decode cX9_isRead 12 = .ok (.goto 4, 3) := o_167 BX9_isRead rfl rfl rfl
theorem dX9_isRead_15 : decode cX9_isRead 15 = .ok (.iconst 0, 1) := o_3 BX9_isRead rfl rfl
theorem dX9_isRead_16 : decode cX9_isRead 16 = .ok (.ireturn, 1) := o_172 BX9_isRead rfl rfl
theorem dX9_isWhole_0 : decode cX9_isWhole 0 = .ok (.aload_n 0, 1) := o_42 BX9_isWhole rfl rfl
theorem dX9_isWhole_1 : decode cX9_isWhole 1 = .ok (.getfield 19, 3) := o_180 BX9_isWhole rfl rfl rfl
theorem dX9_isWhole_4 : decode cX9_isWhole 4 = .ok (.aload_n 0, 1) := o_42 BX9_isWhole rfl rfl
theorem dX9_isWhole_5 : decode cX9_isWhole 5 = .ok (.getfield 15, 3) := o_180 BX9_isWhole rfl rfl rfl
theorem dX9_isWhole_8 : decode cX9_isWhole 8 = .ok (.if_icmp .lt 7, 3) := o_161 BX9_isWhole rfl rfl rfl
theorem dX9_isWhole_11 : decode cX9_isWhole 11 = .ok (.iconst 1, 1) := o_4 BX9_isWhole rfl rfl
theorem dX9_isWhole_12 : decode cX9_isWhole 12 = .ok (.goto 4, 3) := o_167 BX9_isWhole rfl rfl rfl
theorem dX9_isWhole_15 : decode cX9_isWhole 15 = .ok (.iconst 0, 1) := o_3 BX9_isWhole rfl rfl
theorem dX9_isWhole_16 : decode cX9_isWhole 16 = .ok (.ireturn, 1) := o_172 BX9_isWhole rfl rfl
theorem dX10_init_0 : decode cX10_init 0 = .ok (.aload_n 0, 1) := o_42 BX10_init rfl rfl
theorem dX10_init_1 : decode cX10_init 1 = .ok (.invokespecial 3, 3) := o_183 BX10_init rfl rfl rfl
theorem dX10_init_4 : decode cX10_init 4 = .ok (.aload_n 0, 1) := o_42 BX10_init rfl rfl
theorem dX10_init_5 : decode cX10_init 5 = .ok (.bipush 30, 2) := o_16 BX10_init rfl rfl rfl
theorem dX10_init_7 : decode cX10_init 7 = .ok (.newarray .int, 2) := o_188_10 BX10_init rfl rfl rfl
theorem dX10_init_9 : decode cX10_init 9 = .ok (.putfield 9, 3) := o_181 BX10_init rfl rfl rfl
theorem dX10_init_12 : decode cX10_init 12 = .ok (.aload_n 0, 1) := o_42 BX10_init rfl rfl
theorem dX10_init_13 : decode cX10_init 13 = .ok (.bipush 8, 2) := o_16 BX10_init rfl rfl rfl
theorem dX10_init_15 : decode cX10_init 15 = .ok (.newarray .int, 2) := o_188_10 BX10_init rfl rfl rfl
theorem dX10_init_17 : decode cX10_init 17 = .ok (.putfield 15, 3) := o_181 BX10_init rfl rfl rfl
theorem dX10_init_20 : decode cX10_init 20 = .ok (.aload_n 0, 1) := o_42 BX10_init rfl rfl
theorem dX10_init_21 : decode cX10_init 21 = .ok (.iconst 0, 1) := o_3 BX10_init rfl rfl
theorem dX10_init_22 : decode cX10_init 22 = .ok (.putfield 18, 3) := o_181 BX10_init rfl rfl rfl
theorem dX10_init_25 : decode cX10_init 25 = .ok (.aload_n 0, 1) := o_42 BX10_init rfl rfl
theorem dX10_init_26 : decode cX10_init 26 = .ok (.iconst 0, 1) := o_3 BX10_init rfl rfl
theorem dX10_init_27 : decode cX10_init 27 = .ok (.putfield 22, 3) := o_181 BX10_init rfl rfl rfl
theorem dX10_init_30 : decode cX10_init 30 = .ok (.aload_n 0, 1) := o_42 BX10_init rfl rfl
theorem dX10_init_31 : decode cX10_init 31 = .ok (.iconst 0, 1) := o_3 BX10_init rfl rfl
theorem dX10_init_32 : decode cX10_init 32 = .ok (.putfield 25, 3) := o_181 BX10_init rfl rfl rfl
theorem dX10_init_35 : decode cX10_init 35 = .ok (.aload_n 0, 1) := o_42 BX10_init rfl rfl
theorem dX10_init_36 : decode cX10_init 36 = .ok (.aload_n 1, 1) := o_43 BX10_init rfl rfl
theorem dX10_init_37 : decode cX10_init 37 = .ok (.putfield 29, 3) := o_181 BX10_init rfl rfl rfl
theorem dX10_init_40 : decode cX10_init 40 = .ok (.return_, 1) := o_177 BX10_init rfl rfl
theorem dX10_forgetTallies_0 : decode cX10_forgetTallies 0 = .ok (.aload_n 0, 1) := o_42 BX10_forgetTallies rfl rfl
theorem dX10_forgetTallies_1 : decode cX10_forgetTallies 1 = .ok (.iconst 0, 1) := o_3 BX10_forgetTallies rfl rfl
theorem dX10_forgetTallies_2 : decode cX10_forgetTallies 2 = .ok (.putfield 18, 3) := o_181 BX10_forgetTallies rfl rfl rfl
theorem dX10_forgetTallies_5 : decode cX10_forgetTallies 5 = .ok (.aload_n 0, 1) := o_42 BX10_forgetTallies rfl rfl
theorem dX10_forgetTallies_6 : decode cX10_forgetTallies 6 = .ok (.iconst 0, 1) := o_3 BX10_forgetTallies rfl rfl
theorem dX10_forgetTallies_7 : decode cX10_forgetTallies 7 = .ok (.putfield 22, 3) := o_181 BX10_forgetTallies rfl rfl rfl
theorem dX10_forgetTallies_10 : decode cX10_forgetTallies 10 = .ok (.iconst 0, 1) := o_3 BX10_forgetTallies rfl rfl
theorem dX10_forgetTallies_11 : decode cX10_forgetTallies 11 = .ok (.istore_n 1, 1) := o_60 BX10_forgetTallies rfl rfl
theorem dX10_forgetTallies_12 : decode cX10_forgetTallies 12 = .ok (.iload_n 1, 1) := o_27 BX10_forgetTallies rfl rfl
theorem dX10_forgetTallies_13 : decode cX10_forgetTallies 13 = .ok (.bipush 30, 2) := o_16 BX10_forgetTallies rfl rfl rfl
theorem dX10_forgetTallies_15 : decode cX10_forgetTallies 15 = .ok (.if_icmp .ge 16, 3) := o_162 BX10_forgetTallies rfl rfl rfl
theorem dX10_forgetTallies_18 : decode cX10_forgetTallies 18 = .ok (.aload_n 0, 1) := o_42 BX10_forgetTallies rfl rfl
theorem dX10_forgetTallies_19 : decode cX10_forgetTallies 19 = .ok (.getfield 9, 3) := o_180 BX10_forgetTallies rfl rfl rfl
theorem dX10_forgetTallies_22 : decode cX10_forgetTallies 22 = .ok (.iload_n 1, 1) := o_27 BX10_forgetTallies rfl rfl
theorem dX10_forgetTallies_23 : decode cX10_forgetTallies 23 = .ok (.iconst 0, 1) := o_3 BX10_forgetTallies rfl rfl
theorem dX10_forgetTallies_24 : decode cX10_forgetTallies 24 = .ok (.iastore, 1) := o_79 BX10_forgetTallies rfl rfl
theorem dX10_forgetTallies_25 : decode cX10_forgetTallies 25 = .ok (.iinc 1 1, 3) := o_132 BX10_forgetTallies rfl rfl rfl rfl
theorem dX10_forgetTallies_28 : decode cX10_forgetTallies 28 = .ok (.goto (-16), 3) := o_167 BX10_forgetTallies rfl rfl rfl
theorem dX10_forgetTallies_31 : decode cX10_forgetTallies 31 = .ok (.iconst 0, 1) := o_3 BX10_forgetTallies rfl rfl
theorem dX10_forgetTallies_32 : decode cX10_forgetTallies 32 = .ok (.istore_n 1, 1) := o_60 BX10_forgetTallies rfl rfl
theorem dX10_forgetTallies_33 : decode cX10_forgetTallies 33 = .ok (.iload_n 1, 1) := o_27 BX10_forgetTallies rfl rfl
theorem dX10_forgetTallies_34 : decode cX10_forgetTallies 34 = .ok (.bipush 8, 2) := o_16 BX10_forgetTallies rfl rfl rfl
theorem dX10_forgetTallies_36 : decode cX10_forgetTallies 36 = .ok (.if_icmp .ge 16, 3) := o_162 BX10_forgetTallies rfl rfl rfl
theorem dX10_forgetTallies_39 : decode cX10_forgetTallies 39 = .ok (.aload_n 0, 1) := o_42 BX10_forgetTallies rfl rfl
theorem dX10_forgetTallies_40 : decode cX10_forgetTallies 40 = .ok (.getfield 15, 3) := o_180 BX10_forgetTallies rfl rfl rfl
theorem dX10_forgetTallies_43 : decode cX10_forgetTallies 43 = .ok (.iload_n 1, 1) := o_27 BX10_forgetTallies rfl rfl
theorem dX10_forgetTallies_44 : decode cX10_forgetTallies 44 = .ok (.iconst 0, 1) := o_3 BX10_forgetTallies rfl rfl
theorem dX10_forgetTallies_45 : decode cX10_forgetTallies 45 = .ok (.iastore, 1) := o_79 BX10_forgetTallies rfl rfl
theorem dX10_forgetTallies_46 : decode cX10_forgetTallies 46 = .ok (.iinc 1 1, 3) := o_132 BX10_forgetTallies rfl rfl rfl rfl
theorem dX10_forgetTallies_49 : decode cX10_forgetTallies 49 = .ok (.goto (-16), 3) := o_167 BX10_forgetTallies rfl rfl rfl
theorem dX10_forgetTallies_52 : decode cX10_forgetTallies 52 = .ok (.return_, 1) := o_177 BX10_forgetTallies rfl rfl
theorem dX10_walk_0 : decode cX10_walk 0 = .ok (.aload_n 0, 1) := o_42 BX10_walk rfl rfl
theorem dX10_walk_1 : decode cX10_walk 1 = .ok (.invokevirtual 33, 3) := o_182 BX10_walk rfl rfl rfl
theorem dX10_walk_4 : decode cX10_walk 4 = .ok (.iconst 0, 1) := o_3 BX10_walk rfl rfl
theorem dX10_walk_5 : decode cX10_walk 5 = .ok (.istore 4, 2) := o_54 BX10_walk rfl rfl rfl
theorem dX10_walk_7 : decode cX10_walk 7 = .ok (.iload 4, 2) := o_21 BX10_walk rfl rfl rfl
theorem dX10_walk_9 : decode cX10_walk 9 = .ok (.iload_n 3, 1) := o_29 BX10_walk rfl rfl
theorem dX10_walk_10 : decode cX10_walk 10 = .ok (.if_icmp .ge 15, 3) := o_162 BX10_walk rfl rfl rfl
theorem dX10_walk_13 : decode cX10_walk 13 = .ok (.aload_n 0, 1) := o_42 BX10_walk rfl rfl
theorem dX10_walk_14 : decode cX10_walk 14 = .ok (.aload_n 1, 1) := o_43 BX10_walk rfl rfl
theorem dX10_walk_15 : decode cX10_walk 15 = .ok (.aload_n 2, 1) := o_44 BX10_walk rfl rfl
theorem dX10_walk_16 : decode cX10_walk 16 = .ok (.invokevirtual 36, 3) := o_182 BX10_walk rfl rfl rfl
theorem dX10_walk_19 : decode cX10_walk 19 = .ok (.iinc 4 1, 3) := o_132 BX10_walk rfl rfl rfl rfl
theorem dX10_walk_22 : decode cX10_walk 22 = .ok (.goto (-15), 3) := o_167 BX10_walk rfl rfl rfl
theorem dX10_walk_25 : decode cX10_walk 25 = .ok (.return_, 1) := o_177 BX10_walk rfl rfl
theorem dX10_toEnd_0 : decode cX10_toEnd 0 = .ok (.aload_n 2, 1) := o_44 BX10_toEnd rfl rfl
theorem dX10_toEnd_1 : decode cX10_toEnd 1 = .ok (.aload_n 0, 1) := o_42 BX10_toEnd rfl rfl
theorem dX10_toEnd_2 : decode cX10_toEnd 2 = .ok (.getfield 29, 3) := o_180 BX10_toEnd rfl rfl rfl
theorem dX10_toEnd_5 : decode cX10_toEnd 5 = .ok (.invokevirtual 40, 3) := o_182 BX10_toEnd rfl rfl rfl
theorem dX10_toEnd_8 : decode cX10_toEnd 8 = .ok (.istore_n 3, 1) := o_62 BX10_toEnd rfl rfl
theorem dX10_toEnd_9 : decode cX10_toEnd 9 = .ok (.iconst 0, 1) := o_3 BX10_toEnd rfl rfl
theorem dX10_toEnd_10 : decode cX10_toEnd 10 = .ok (.istore 4, 2) := o_54 BX10_toEnd rfl rfl rfl
theorem dX10_toEnd_12 : decode cX10_toEnd 12 = .ok (.iconst 0, 1) := o_3 BX10_toEnd rfl rfl
theorem dX10_toEnd_13 : decode cX10_toEnd 13 = .ok (.istore 5, 2) := o_54 BX10_toEnd rfl rfl rfl
theorem dX10_toEnd_15 : decode cX10_toEnd 15 = .ok (.iload 5, 2) := o_21 BX10_toEnd rfl rfl rfl
theorem dX10_toEnd_17 : decode cX10_toEnd 17 = .ok (.sipush 200, 3) := o_17 BX10_toEnd rfl rfl rfl
theorem dX10_toEnd_20 : decode cX10_toEnd 20 = .ok (.if_icmp .ge 63, 3) := o_162 BX10_toEnd rfl rfl rfl
theorem dX10_toEnd_23 : decode cX10_toEnd 23 = .ok (.iload 4, 2) := o_21 BX10_toEnd rfl rfl rfl
theorem dX10_toEnd_25 : decode cX10_toEnd 25 = .ok (.iload_n 3, 1) := o_29 BX10_toEnd rfl rfl
theorem dX10_toEnd_26 : decode cX10_toEnd 26 = .ok (.if_icmp .ge 57, 3) := o_162 BX10_toEnd rfl rfl rfl
theorem dX10_toEnd_29 : decode cX10_toEnd 29 = .ok (.aload_n 1, 1) := o_43 BX10_toEnd rfl rfl
theorem dX10_toEnd_30 : decode cX10_toEnd 30 = .ok (.getfield 46, 3) := o_180 BX10_toEnd rfl rfl rfl
theorem dX10_toEnd_33 : decode cX10_toEnd 33 = .ok (.aload_n 1, 1) := o_43 BX10_toEnd rfl rfl
theorem dX10_toEnd_34 : decode cX10_toEnd 34 = .ok (.getfield 51, 3) := o_180 BX10_toEnd rfl rfl rfl
theorem dX10_toEnd_37 : decode cX10_toEnd 37 = .ok (.if_icmp .eq 46, 3) := o_159 BX10_toEnd rfl rfl rfl
theorem dX10_toEnd_40 : decode cX10_toEnd 40 = .ok (.aload_n 1, 1) := o_43 BX10_toEnd rfl rfl
theorem dX10_toEnd_41 : decode cX10_toEnd 41 = .ok (.getfield 54, 3) := o_180 BX10_toEnd rfl rfl rfl
theorem dX10_toEnd_44 : decode cX10_toEnd 44 = .ok (.aload_n 1, 1) := o_43 BX10_toEnd rfl rfl
theorem dX10_toEnd_45 : decode cX10_toEnd 45 = .ok (.getfield 57, 3) := o_180 BX10_toEnd rfl rfl rfl
theorem dX10_toEnd_48 : decode cX10_toEnd 48 = .ok (.if_icmp .ne 6, 3) := o_160 BX10_toEnd rfl rfl rfl
theorem dX10_toEnd_51 : decode cX10_toEnd 51 = .ok (.goto 32, 3) := o_167 BX10_toEnd rfl rfl rfl
theorem dX10_toEnd_54 : decode cX10_toEnd 54 = .ok (.aload_n 0, 1) := o_42 BX10_toEnd rfl rfl
theorem dX10_toEnd_55 : decode cX10_toEnd 55 = .ok (.aload_n 1, 1) := o_43 BX10_toEnd rfl rfl
theorem dX10_toEnd_56 : decode cX10_toEnd 56 = .ok (.aload_n 2, 1) := o_44 BX10_toEnd rfl rfl
theorem dX10_toEnd_57 : decode cX10_toEnd 57 = .ok (.invokevirtual 36, 3) := o_182 BX10_toEnd rfl rfl rfl
theorem dX10_toEnd_60 : decode cX10_toEnd 60 = .ok (.aload_n 0, 1) := o_42 BX10_toEnd rfl rfl
theorem dX10_toEnd_61 : decode cX10_toEnd 61 = .ok (.getfield 25, 3) := o_180 BX10_toEnd rfl rfl rfl
theorem dX10_toEnd_64 : decode cX10_toEnd 64 = .ok (.ifCond .eq 7, 3) := o_153 BX10_toEnd rfl rfl rfl
theorem dX10_toEnd_67 : decode cX10_toEnd 67 = .ok (.iconst 0, 1) := o_3 BX10_toEnd rfl rfl
theorem dX10_toEnd_68 : decode cX10_toEnd 68 = .ok (.goto 7, 3) := o_167 BX10_toEnd rfl rfl rfl
theorem dX10_toEnd_71 : decode cX10_toEnd 71 = .ok (.iload 4, 2) := o_21 BX10_toEnd rfl rfl rfl
theorem dX10_toEnd_73 : decode cX10_toEnd 73 = .ok (.iconst 1, 1) := o_4 BX10_toEnd rfl rfl
theorem dX10_toEnd_74 : decode cX10_toEnd 74 = .ok (.iadd, 1) := o_96 BX10_toEnd rfl rfl
theorem dX10_toEnd_75 : decode cX10_toEnd 75 = .ok (.istore 4, 2) := o_54 BX10_toEnd rfl rfl rfl
theorem dX10_toEnd_77 : decode cX10_toEnd 77 = .ok (.iinc 5 1, 3) := o_132 BX10_toEnd rfl rfl rfl rfl
theorem dX10_toEnd_80 : decode cX10_toEnd 80 = .ok (.goto (-65), 3) := o_167 BX10_toEnd rfl rfl rfl
theorem dX10_toEnd_83 : decode cX10_toEnd 83 = .ok (.return_, 1) := o_177 BX10_toEnd rfl rfl
theorem dX10_advance_0 : decode cX10_advance 0 = .ok (.aload_n 0, 1) := o_42 BX10_advance rfl rfl
theorem dX10_advance_1 : decode cX10_advance 1 = .ok (.iconst 0, 1) := o_3 BX10_advance rfl rfl
theorem dX10_advance_2 : decode cX10_advance 2 = .ok (.putfield 25, 3) := o_181 BX10_advance rfl rfl rfl
theorem dX10_advance_5 : decode cX10_advance 5 = .ok (.aload_n 0, 1) := o_42 BX10_advance rfl rfl
theorem dX10_advance_6 : decode cX10_advance 6 = .ok (.getfield 29, 3) := o_180 BX10_advance rfl rfl rfl
theorem dX10_advance_9 : decode cX10_advance 9 = .ok (.getfield 60, 3) := o_180 BX10_advance rfl rfl rfl
theorem dX10_advance_12 : decode cX10_advance 12 = .ok (.istore_n 3, 1) := o_62 BX10_advance rfl rfl
theorem dX10_advance_13 : decode cX10_advance 13 = .ok (.iconst 0, 1) := o_3 BX10_advance rfl rfl
theorem dX10_advance_14 : decode cX10_advance 14 = .ok (.istore 4, 2) := o_54 BX10_advance rfl rfl rfl
theorem dX10_advance_16 : decode cX10_advance 16 = .ok (.iload 4, 2) := o_21 BX10_advance rfl rfl rfl
theorem dX10_advance_18 : decode cX10_advance 18 = .ok (.bipush 6, 2) := o_16 BX10_advance rfl rfl rfl
theorem dX10_advance_20 : decode cX10_advance 20 = .ok (.if_icmp .ge 41, 3) := o_162 BX10_advance rfl rfl rfl
theorem dX10_advance_23 : decode cX10_advance 23 = .ok (.aload_n 1, 1) := o_43 BX10_advance rfl rfl
theorem dX10_advance_24 : decode cX10_advance 24 = .ok (.iload_n 3, 1) := o_29 BX10_advance rfl rfl
theorem dX10_advance_25 : decode cX10_advance 25 = .ok (.invokevirtual 65, 3) := o_182 BX10_advance rfl rfl rfl
theorem dX10_advance_28 : decode cX10_advance 28 = .ok (.istore 5, 2) := o_54 BX10_advance rfl rfl rfl
theorem dX10_advance_30 : decode cX10_advance 30 = .ok (.iload 5, 2) := o_21 BX10_advance rfl rfl rfl
theorem dX10_advance_32 : decode cX10_advance 32 = .ok (.iconst (-1), 1) := o_2 BX10_advance rfl rfl
theorem dX10_advance_33 : decode cX10_advance 33 = .ok (.if_icmp .ne 6, 3) := o_160 BX10_advance rfl rfl rfl
theorem dX10_advance_36 : decode cX10_advance 36 = .ok (.goto 25, 3) := o_167 BX10_advance rfl rfl rfl
theorem dX10_advance_39 : decode cX10_advance 39 = .ok (.aload_n 1, 1) := o_43 BX10_advance rfl rfl
theorem dX10_advance_40 : decode cX10_advance 40 = .ok (.getfield 69, 3) := o_180 BX10_advance rfl rfl rfl
theorem dX10_advance_43 : decode cX10_advance 43 = .ok (.iload 5, 2) := o_21 BX10_advance rfl rfl rfl
theorem dX10_advance_45 : decode cX10_advance 45 = .ok (.iaload, 1) := o_46 BX10_advance rfl rfl
theorem dX10_advance_46 : decode cX10_advance 46 = .ok (.istore_n 3, 1) := o_62 BX10_advance rfl rfl
theorem dX10_advance_47 : decode cX10_advance 47 = .ok (.aload_n 0, 1) := o_42 BX10_advance rfl rfl
theorem dX10_advance_48 : decode cX10_advance 48 = .ok (.aload_n 1, 1) := o_43 BX10_advance rfl rfl
theorem dX10_advance_49 : decode cX10_advance 49 = .ok (.aload_n 2, 1) := o_44 BX10_advance rfl rfl
theorem dX10_advance_50 : decode cX10_advance 50 = .ok (.iload 5, 2) := o_21 BX10_advance rfl rfl rfl
theorem dX10_advance_52 : decode cX10_advance 52 = .ok (.invokevirtual 72, 3) := o_182 BX10_advance rfl rfl rfl
theorem dX10_advance_55 : decode cX10_advance 55 = .ok (.iinc 4 1, 3) := o_132 BX10_advance rfl rfl rfl rfl
theorem dX10_advance_58 : decode cX10_advance 58 = .ok (.goto (-42), 3) := o_167 BX10_advance rfl rfl rfl
theorem dX10_advance_61 : decode cX10_advance 61 = .ok (.iconst 0, 1) := o_3 BX10_advance rfl rfl
theorem dX10_advance_62 : decode cX10_advance 62 = .ok (.istore 4, 2) := o_54 BX10_advance rfl rfl rfl
theorem dX10_advance_64 : decode cX10_advance 64 = .ok (.iload 4, 2) := o_21 BX10_advance rfl rfl rfl
theorem dX10_advance_66 : decode cX10_advance 66 = .ok (.aload_n 1, 1) := o_43 BX10_advance rfl rfl
theorem dX10_advance_67 : decode cX10_advance 67 = .ok (.getfield 51, 3) := o_180 BX10_advance rfl rfl rfl
theorem dX10_advance_70 : decode cX10_advance 70 = .ok (.if_icmp .ge 25, 3) := o_162 BX10_advance rfl rfl rfl
theorem dX10_advance_73 : decode cX10_advance 73 = .ok (.aload_n 1, 1) := o_43 BX10_advance rfl rfl
theorem dX10_advance_74 : decode cX10_advance 74 = .ok (.iload 4, 2) := o_21 BX10_advance rfl rfl rfl
theorem dX10_advance_76 : decode cX10_advance 76 = .ok (.invokevirtual 76, 3) := o_182 BX10_advance rfl rfl rfl
theorem dX10_advance_79 : decode cX10_advance 79 = .ok (.ifCond .ne 10, 3) := o_154 BX10_advance rfl rfl rfl
theorem dX10_advance_82 : decode cX10_advance 82 = .ok (.aload_n 0, 1) := o_42 BX10_advance rfl rfl
theorem dX10_advance_83 : decode cX10_advance 83 = .ok (.aload_n 1, 1) := o_43 BX10_advance rfl rfl
theorem dX10_advance_84 : decode cX10_advance 84 = .ok (.iload 4, 2) := o_21 BX10_advance rfl rfl rfl
theorem dX10_advance_86 : decode cX10_advance 86 = .ok (.invokevirtual 80, 3) := o_182 BX10_advance rfl rfl rfl
theorem dX10_advance_89 : decode cX10_advance 89 = .ok (.iinc 4 1, 3) := o_132 BX10_advance rfl rfl rfl rfl
theorem dX10_advance_92 : decode cX10_advance 92 = .ok (.goto (-28), 3) := o_167 BX10_advance rfl rfl rfl
theorem dX10_advance_95 : decode cX10_advance 95 = .ok (.aload_n 1, 1) := o_43 BX10_advance rfl rfl
theorem dX10_advance_96 : decode cX10_advance 96 = .ok (.dup, 1) := o_89 BX10_advance rfl rfl
theorem dX10_advance_97 : decode cX10_advance 97 = .ok (.getfield 84, 3) := o_180 BX10_advance rfl rfl rfl
theorem dX10_advance_100 : decode cX10_advance 100 = .ok (.iconst 1, 1) := o_4 BX10_advance rfl rfl
theorem dX10_advance_101 : decode cX10_advance 101 = .ok (.iadd, 1) := o_96 BX10_advance rfl rfl
theorem dX10_advance_102 : decode cX10_advance 102 = .ok (.putfield 84, 3) := o_181 BX10_advance rfl rfl rfl
theorem dX10_advance_105 : decode cX10_advance 105 = .ok (.return_, 1) := o_177 BX10_advance rfl rfl
theorem dX10_moveHearse_0 : decode cX10_moveHearse 0 = .ok (.aload_n 1, 1) := o_43 BX10_moveHearse rfl rfl
theorem dX10_moveHearse_1 : decode cX10_moveHearse 1 = .ok (.getfield 69, 3) := o_180 BX10_moveHearse rfl rfl rfl
theorem dX10_moveHearse_4 : decode cX10_moveHearse 4 = .ok (.iload_n 3, 1) := o_29 BX10_moveHearse rfl rfl
theorem dX10_moveHearse_5 : decode cX10_moveHearse 5 = .ok (.iaload, 1) := o_46 BX10_moveHearse rfl rfl
theorem dX10_moveHearse_6 : decode cX10_moveHearse 6 = .ok (.istore 4, 2) := o_54 BX10_moveHearse rfl rfl rfl
theorem dX10_moveHearse_8 : decode cX10_moveHearse 8 = .ok (.aload_n 2, 1) := o_44 BX10_moveHearse rfl rfl
theorem dX10_moveHearse_9 : decode cX10_moveHearse 9 = .ok (.aload_n 1, 1) := o_43 BX10_moveHearse rfl rfl
theorem dX10_moveHearse_10 : decode cX10_moveHearse 10 = .ok (.aload_n 0, 1) := o_42 BX10_moveHearse rfl rfl
theorem dX10_moveHearse_11 : decode cX10_moveHearse 11 = .ok (.getfield 29, 3) := o_180 BX10_moveHearse rfl rfl rfl
theorem dX10_moveHearse_14 : decode cX10_moveHearse 14 = .ok (.iload_n 3, 1) := o_29 BX10_moveHearse rfl rfl
theorem dX10_moveHearse_15 : decode cX10_moveHearse 15 = .ok (.invokevirtual 87, 3) := o_182 BX10_moveHearse rfl rfl rfl
theorem dX10_moveHearse_18 : decode cX10_moveHearse 18 = .ok (.aload_n 0, 1) := o_42 BX10_moveHearse rfl rfl
theorem dX10_moveHearse_19 : decode cX10_moveHearse 19 = .ok (.aload_n 1, 1) := o_43 BX10_moveHearse rfl rfl
theorem dX10_moveHearse_20 : decode cX10_moveHearse 20 = .ok (.invokevirtual 91, 3) := o_182 BX10_moveHearse rfl rfl rfl
theorem dX10_moveHearse_23 : decode cX10_moveHearse 23 = .ok (.iload 4, 2) := o_21 BX10_moveHearse rfl rfl rfl
theorem dX10_moveHearse_25 : decode cX10_moveHearse 25 = .ok (.aload_n 2, 1) := o_44 BX10_moveHearse rfl rfl
theorem dX10_moveHearse_26 : decode cX10_moveHearse 26 = .ok (.invokevirtual 95, 3) := o_182 BX10_moveHearse rfl rfl rfl
theorem dX10_moveHearse_29 : decode cX10_moveHearse 29 = .ok (.invokevirtual 98, 3) := o_182 BX10_moveHearse rfl rfl rfl
theorem dX10_moveHearse_32 : decode cX10_moveHearse 32 = .ok (.istore 5, 2) := o_54 BX10_moveHearse rfl rfl rfl
theorem dX10_moveHearse_34 : decode cX10_moveHearse 34 = .ok (.iload 5, 2) := o_21 BX10_moveHearse rfl rfl rfl
theorem dX10_moveHearse_36 : decode cX10_moveHearse 36 = .ok (.iconst (-1), 1) := o_2 BX10_moveHearse rfl rfl
theorem dX10_moveHearse_37 : decode cX10_moveHearse 37 = .ok (.if_icmp .ne 25, 3) := o_160 BX10_moveHearse rfl rfl rfl
theorem dX10_moveHearse_40 : decode cX10_moveHearse 40 = .ok (.aload_n 0, 1) := o_42 BX10_moveHearse rfl rfl
theorem dX10_moveHearse_41 : decode cX10_moveHearse 41 = .ok (.dup, 1) := o_89 BX10_moveHearse rfl rfl
theorem dX10_moveHearse_42 : decode cX10_moveHearse 42 = .ok (.getfield 18, 3) := o_180 BX10_moveHearse rfl rfl rfl
theorem dX10_moveHearse_45 : decode cX10_moveHearse 45 = .ok (.iconst 1, 1) := o_4 BX10_moveHearse rfl rfl
theorem dX10_moveHearse_46 : decode cX10_moveHearse 46 = .ok (.iadd, 1) := o_96 BX10_moveHearse rfl rfl
theorem dX10_moveHearse_47 : decode cX10_moveHearse 47 = .ok (.putfield 18, 3) := o_181 BX10_moveHearse rfl rfl rfl
theorem dX10_moveHearse_50 : decode cX10_moveHearse 50 = .ok (.aload_n 0, 1) := o_42 BX10_moveHearse rfl rfl
theorem dX10_moveHearse_51 : decode cX10_moveHearse 51 = .ok (.getfield 9, 3) := o_180 BX10_moveHearse rfl rfl rfl
theorem dX10_moveHearse_54 : decode cX10_moveHearse 54 = .ok (.iload 4, 2) := o_21 BX10_moveHearse rfl rfl rfl
theorem dX10_moveHearse_56 : decode cX10_moveHearse 56 = .ok (.dup2, 1) := o_92 BX10_moveHearse rfl rfl
theorem dX10_moveHearse_57 : decode cX10_moveHearse 57 = .ok (.iaload, 1) := o_46 BX10_moveHearse rfl rfl
theorem dX10_moveHearse_58 : decode cX10_moveHearse 58 = .ok (.iconst 1, 1) := o_4 BX10_moveHearse rfl rfl
theorem dX10_moveHearse_59 : decode cX10_moveHearse 59 = .ok (.iadd, 1) := o_96 BX10_moveHearse rfl rfl
theorem dX10_moveHearse_60 : decode cX10_moveHearse 60 = .ok (.iastore, 1) := o_79 BX10_moveHearse rfl rfl
theorem dX10_moveHearse_61 : decode cX10_moveHearse 61 = .ok (.return_, 1) := o_177 BX10_moveHearse rfl rfl
theorem dX10_moveHearse_62 : decode cX10_moveHearse 62 = .ok (.aload_n 0, 1) := o_42 BX10_moveHearse rfl rfl
theorem dX10_moveHearse_63 : decode cX10_moveHearse 63 = .ok (.iconst 1, 1) := o_4 BX10_moveHearse rfl rfl
theorem dX10_moveHearse_64 : decode cX10_moveHearse 64 = .ok (.putfield 25, 3) := o_181 BX10_moveHearse rfl rfl rfl
theorem dX10_moveHearse_67 : decode cX10_moveHearse 67 = .ok (.iload 5, 2) := o_21 BX10_moveHearse rfl rfl rfl
theorem dX10_moveHearse_69 : decode cX10_moveHearse 69 = .ok (.aload_n 0, 1) := o_42 BX10_moveHearse rfl rfl
theorem dX10_moveHearse_70 : decode cX10_moveHearse 70 = .ok (.getfield 29, 3) := o_180 BX10_moveHearse rfl rfl rfl
theorem dX10_moveHearse_73 : decode cX10_moveHearse 73 = .ok (.invokevirtual 102, 3) := o_182 BX10_moveHearse rfl rfl rfl
theorem dX10_moveHearse_76 : decode cX10_moveHearse 76 = .ok (.if_icmp .ne 11, 3) := o_160 BX10_moveHearse rfl rfl rfl
theorem dX10_moveHearse_79 : decode cX10_moveHearse 79 = .ok (.aload_n 1, 1) := o_43 BX10_moveHearse rfl rfl
theorem dX10_moveHearse_80 : decode cX10_moveHearse 80 = .ok (.iload_n 3, 1) := o_29 BX10_moveHearse rfl rfl
theorem dX10_moveHearse_81 : decode cX10_moveHearse 81 = .ok (.invokevirtual 105, 3) := o_182 BX10_moveHearse rfl rfl rfl
theorem dX10_moveHearse_84 : decode cX10_moveHearse 84 = .ok (.goto 11, 3) := o_167 BX10_moveHearse rfl rfl rfl
theorem dX10_moveHearse_87 : decode cX10_moveHearse 87 = .ok (.aload_n 1, 1) := o_43 BX10_moveHearse rfl rfl
theorem dX10_moveHearse_88 : decode cX10_moveHearse 88 = .ok (.getfield 69, 3) := o_180 BX10_moveHearse rfl rfl rfl
theorem dX10_moveHearse_91 : decode cX10_moveHearse 91 = .ok (.iload_n 3, 1) := o_29 BX10_moveHearse rfl rfl
theorem dX10_moveHearse_92 : decode cX10_moveHearse 92 = .ok (.iload 5, 2) := o_21 BX10_moveHearse rfl rfl rfl
theorem dX10_moveHearse_94 : decode cX10_moveHearse 94 = .ok (.iastore, 1) := o_79 BX10_moveHearse rfl rfl
theorem dX10_moveHearse_95 : decode cX10_moveHearse 95 = .ok (.return_, 1) := o_177 BX10_moveHearse rfl rfl
theorem dX10_goal_0 : decode cX10_goal 0 = .ok (.iload_n 2, 1) := o_28 BX10_goal rfl rfl
theorem dX10_goal_1 : decode cX10_goal 1 = .ok (.iload_n 3, 1) := o_29 BX10_goal rfl rfl
theorem dX10_goal_2 : decode cX10_goal 2 = .ok (.iadd, 1) := o_96 BX10_goal rfl rfl
theorem dX10_goal_3 : decode cX10_goal 3 = .ok (.aload_n 0, 1) := o_42 BX10_goal rfl rfl
theorem dX10_goal_4 : decode cX10_goal 4 = .ok (.getfield 29, 3) := o_180 BX10_goal rfl rfl rfl
theorem dX10_goal_7 : decode cX10_goal 7 = .ok (.invokevirtual 102, 3) := o_182 BX10_goal rfl rfl rfl
theorem dX10_goal_10 : decode cX10_goal 10 = .ok (.invokestatic 109, 3) := o_184 BX10_goal rfl rfl rfl
theorem dX10_goal_13 : decode cX10_goal 13 = .ok (.istore 4, 2) := o_54 BX10_goal rfl rfl rfl
theorem dX10_goal_15 : decode cX10_goal 15 = .ok (.iload 4, 2) := o_21 BX10_goal rfl rfl rfl
theorem dX10_goal_17 : decode cX10_goal 17 = .ok (.iload_n 2, 1) := o_28 BX10_goal rfl rfl
theorem dX10_goal_18 : decode cX10_goal 18 = .ok (.if_icmp .le 73, 3) := o_164 BX10_goal rfl rfl rfl
theorem dX10_goal_21 : decode cX10_goal 21 = .ok (.iconst 2, 1) := o_5 BX10_goal rfl rfl
theorem dX10_goal_22 : decode cX10_goal 22 = .ok (.iload 4, 2) := o_21 BX10_goal rfl rfl rfl
theorem dX10_goal_24 : decode cX10_goal 24 = .ok (.ishl, 1) := o_120 BX10_goal rfl rfl
theorem dX10_goal_25 : decode cX10_goal 25 = .ok (.iconst 1, 1) := o_4 BX10_goal rfl rfl
theorem dX10_goal_26 : decode cX10_goal 26 = .ok (.iload_n 2, 1) := o_28 BX10_goal rfl rfl
theorem dX10_goal_27 : decode cX10_goal 27 = .ok (.ishl, 1) := o_120 BX10_goal rfl rfl
theorem dX10_goal_28 : decode cX10_goal 28 = .ok (.isub, 1) := o_100 BX10_goal rfl rfl
theorem dX10_goal_29 : decode cX10_goal 29 = .ok (.istore 5, 2) := o_54 BX10_goal rfl rfl rfl
theorem dX10_goal_31 : decode cX10_goal 31 = .ok (.iconst 1, 1) := o_4 BX10_goal rfl rfl
theorem dX10_goal_32 : decode cX10_goal 32 = .ok (.iload 4, 2) := o_21 BX10_goal rfl rfl rfl
theorem dX10_goal_34 : decode cX10_goal 34 = .ok (.ishl, 1) := o_120 BX10_goal rfl rfl
theorem dX10_goal_35 : decode cX10_goal 35 = .ok (.iconst 2, 1) := o_5 BX10_goal rfl rfl
theorem dX10_goal_36 : decode cX10_goal 36 = .ok (.iload_n 2, 1) := o_28 BX10_goal rfl rfl
theorem dX10_goal_37 : decode cX10_goal 37 = .ok (.ishl, 1) := o_120 BX10_goal rfl rfl
theorem dX10_goal_38 : decode cX10_goal 38 = .ok (.isub, 1) := o_100 BX10_goal rfl rfl
theorem dX10_goal_39 : decode cX10_goal 39 = .ok (.istore 6, 2) := o_54 BX10_goal rfl rfl rfl
theorem dX10_goal_41 : decode cX10_goal 41 = .ok (.iload_n 1, 1) := o_27 BX10_goal rfl rfl
theorem dX10_goal_42 : decode cX10_goal 42 = .ok (.iload 4, 2) := o_21 BX10_goal rfl rfl rfl
theorem dX10_goal_44 : decode cX10_goal 44 = .ok (.ishr, 1) := o_122 BX10_goal rfl rfl
theorem dX10_goal_45 : decode cX10_goal 45 = .ok (.iconst 1, 1) := o_4 BX10_goal rfl rfl
theorem dX10_goal_46 : decode cX10_goal 46 = .ok (.iand, 1) := o_126 BX10_goal rfl rfl
theorem dX10_goal_47 : decode cX10_goal 47 = .ok (.ifCond .ne 7, 3) := o_154 BX10_goal rfl rfl rfl
theorem dX10_goal_50 : decode cX10_goal 50 = .ok (.iconst 1, 1) := o_4 BX10_goal rfl rfl
theorem dX10_goal_51 : decode cX10_goal 51 = .ok (.goto 4, 3) := o_167 BX10_goal rfl rfl rfl
theorem dX10_goal_54 : decode cX10_goal 54 = .ok (.iconst 0, 1) := o_3 BX10_goal rfl rfl
theorem dX10_goal_55 : decode cX10_goal 55 = .ok (.istore 7, 2) := o_54 BX10_goal rfl rfl rfl
theorem dX10_goal_57 : decode cX10_goal 57 = .ok (.iload 7, 2) := o_21 BX10_goal rfl rfl rfl
theorem dX10_goal_59 : decode cX10_goal 59 = .ok (.ifCond .eq 26, 3) := o_153 BX10_goal rfl rfl rfl
theorem dX10_goal_62 : decode cX10_goal 62 = .ok (.iload_n 1, 1) := o_27 BX10_goal rfl rfl
theorem dX10_goal_63 : decode cX10_goal 63 = .ok (.iload 6, 2) := o_21 BX10_goal rfl rfl rfl
theorem dX10_goal_65 : decode cX10_goal 65 = .ok (.iand, 1) := o_126 BX10_goal rfl rfl
theorem dX10_goal_66 : decode cX10_goal 66 = .ok (.ifCond .eq 16, 3) := o_153 BX10_goal rfl rfl rfl
theorem dX10_goal_69 : decode cX10_goal 69 = .ok (.aload_n 0, 1) := o_42 BX10_goal rfl rfl
theorem dX10_goal_70 : decode cX10_goal 70 = .ok (.getfield 29, 3) := o_180 BX10_goal rfl rfl rfl
theorem dX10_goal_73 : decode cX10_goal 73 = .ok (.getfield 115, 3) := o_180 BX10_goal rfl rfl rfl
theorem dX10_goal_76 : decode cX10_goal 76 = .ok (.iload 5, 2) := o_21 BX10_goal rfl rfl rfl
theorem dX10_goal_78 : decode cX10_goal 78 = .ok (.iand, 1) := o_126 BX10_goal rfl rfl
theorem dX10_goal_79 : decode cX10_goal 79 = .ok (.ifCond .ne 6, 3) := o_154 BX10_goal rfl rfl rfl
theorem dX10_goal_82 : decode cX10_goal 82 = .ok (.iload 4, 2) := o_21 BX10_goal rfl rfl rfl
theorem dX10_goal_84 : decode cX10_goal 84 = .ok (.ireturn, 1) := o_172 BX10_goal rfl rfl
theorem dX10_goal_85 : decode cX10_goal 85 = .ok (.iinc 4 (-1), 3) := o_132 BX10_goal rfl rfl rfl rfl
theorem dX10_goal_88 : decode cX10_goal 88 = .ok (.goto (-73), 3) := o_167 BX10_goal rfl rfl rfl
theorem dX10_goal_91 : decode cX10_goal 91 = .ok (.iconst (-1), 1) := o_2 BX10_goal rfl rfl
theorem dX10_goal_92 : decode cX10_goal 92 = .ok (.ireturn, 1) := o_172 BX10_goal rfl rfl
theorem dX10_moveMourner_0 : decode cX10_moveMourner 0 = .ok (.aload_n 1, 1) := o_43 BX10_moveMourner rfl rfl
theorem dX10_moveMourner_1 : decode cX10_moveMourner 1 = .ok (.getfield 118, 3) := o_180 BX10_moveMourner rfl rfl rfl
theorem dX10_moveMourner_4 : decode cX10_moveMourner 4 = .ok (.iload_n 2, 1) := o_28 BX10_moveMourner rfl rfl
theorem dX10_moveMourner_5 : decode cX10_moveMourner 5 = .ok (.iaload, 1) := o_46 BX10_moveMourner rfl rfl
theorem dX10_moveMourner_6 : decode cX10_moveMourner 6 = .ok (.istore_n 3, 1) := o_62 BX10_moveMourner rfl rfl
theorem dX10_moveMourner_7 : decode cX10_moveMourner 7 = .ok (.iload_n 3, 1) := o_29 BX10_moveMourner rfl rfl
theorem dX10_moveMourner_8 : decode cX10_moveMourner 8 = .ok (.iconst (-1), 1) := o_2 BX10_moveMourner rfl rfl
theorem dX10_moveMourner_9 : decode cX10_moveMourner 9 = .ok (.if_icmp .eq 23, 3) := o_159 BX10_moveMourner rfl rfl rfl
theorem dX10_moveMourner_12 : decode cX10_moveMourner 12 = .ok (.aload_n 1, 1) := o_43 BX10_moveMourner rfl rfl
theorem dX10_moveMourner_13 : decode cX10_moveMourner 13 = .ok (.iload_n 3, 1) := o_29 BX10_moveMourner rfl rfl
theorem dX10_moveMourner_14 : decode cX10_moveMourner 14 = .ok (.invokevirtual 121, 3) := o_182 BX10_moveMourner rfl rfl rfl
theorem dX10_moveMourner_17 : decode cX10_moveMourner 17 = .ok (.ifCond .eq 15, 3) := o_153 BX10_moveMourner rfl rfl rfl
theorem dX10_moveMourner_20 : decode cX10_moveMourner 20 = .ok (.aload_n 1, 1) := o_43 BX10_moveMourner rfl rfl
theorem dX10_moveMourner_21 : decode cX10_moveMourner 21 = .ok (.iload_n 2, 1) := o_28 BX10_moveMourner rfl rfl
theorem dX10_moveMourner_22 : decode cX10_moveMourner 22 = .ok (.iload_n 3, 1) := o_29 BX10_moveMourner rfl rfl
theorem dX10_moveMourner_23 : decode cX10_moveMourner 23 = .ok (.invokevirtual 124, 3) := o_182 BX10_moveMourner rfl rfl rfl
theorem dX10_moveMourner_26 : decode cX10_moveMourner 26 = .ok (.aload_n 0, 1) := o_42 BX10_moveMourner rfl rfl
theorem dX10_moveMourner_27 : decode cX10_moveMourner 27 = .ok (.iconst 1, 1) := o_4 BX10_moveMourner rfl rfl
theorem dX10_moveMourner_28 : decode cX10_moveMourner 28 = .ok (.putfield 25, 3) := o_181 BX10_moveMourner rfl rfl rfl
theorem dX10_moveMourner_31 : decode cX10_moveMourner 31 = .ok (.return_, 1) := o_177 BX10_moveMourner rfl rfl
theorem dX10_moveMourner_32 : decode cX10_moveMourner 32 = .ok (.aload_n 1, 1) := o_43 BX10_moveMourner rfl rfl
theorem dX10_moveMourner_33 : decode cX10_moveMourner 33 = .ok (.getfield 128, 3) := o_180 BX10_moveMourner rfl rfl rfl
theorem dX10_moveMourner_36 : decode cX10_moveMourner 36 = .ok (.iload_n 2, 1) := o_28 BX10_moveMourner rfl rfl
theorem dX10_moveMourner_37 : decode cX10_moveMourner 37 = .ok (.iaload, 1) := o_46 BX10_moveMourner rfl rfl
theorem dX10_moveMourner_38 : decode cX10_moveMourner 38 = .ok (.istore 4, 2) := o_54 BX10_moveMourner rfl rfl rfl
theorem dX10_moveMourner_40 : decode cX10_moveMourner 40 = .ok (.aload_n 1, 1) := o_43 BX10_moveMourner rfl rfl
theorem dX10_moveMourner_41 : decode cX10_moveMourner 41 = .ok (.iload 4, 2) := o_21 BX10_moveMourner rfl rfl rfl
theorem dX10_moveMourner_43 : decode cX10_moveMourner 43 = .ok (.invokevirtual 131, 3) := o_182 BX10_moveMourner rfl rfl rfl
theorem dX10_moveMourner_46 : decode cX10_moveMourner 46 = .ok (.istore 5, 2) := o_54 BX10_moveMourner rfl rfl rfl
theorem dX10_moveMourner_48 : decode cX10_moveMourner 48 = .ok (.iload 5, 2) := o_21 BX10_moveMourner rfl rfl rfl
theorem dX10_moveMourner_50 : decode cX10_moveMourner 50 = .ok (.iconst (-1), 1) := o_2 BX10_moveMourner rfl rfl
theorem dX10_moveMourner_51 : decode cX10_moveMourner 51 = .ok (.if_icmp .ne 4, 3) := o_160 BX10_moveMourner rfl rfl rfl
theorem dX10_moveMourner_54 : decode cX10_moveMourner 54 = .ok (.return_, 1) := o_177 BX10_moveMourner rfl rfl
theorem dX10_moveMourner_55 : decode cX10_moveMourner 55 = .ok (.aload_n 1, 1) := o_43 BX10_moveMourner rfl rfl
theorem dX10_moveMourner_56 : decode cX10_moveMourner 56 = .ok (.getfield 69, 3) := o_180 BX10_moveMourner rfl rfl rfl
theorem dX10_moveMourner_59 : decode cX10_moveMourner 59 = .ok (.iload 5, 2) := o_21 BX10_moveMourner rfl rfl rfl
theorem dX10_moveMourner_61 : decode cX10_moveMourner 61 = .ok (.iaload, 1) := o_46 BX10_moveMourner rfl rfl
theorem dX10_moveMourner_62 : decode cX10_moveMourner 62 = .ok (.iload 4, 2) := o_21 BX10_moveMourner rfl rfl rfl
theorem dX10_moveMourner_64 : decode cX10_moveMourner 64 = .ok (.isub, 1) := o_100 BX10_moveMourner rfl rfl
theorem dX10_moveMourner_65 : decode cX10_moveMourner 65 = .ok (.istore 6, 2) := o_54 BX10_moveMourner rfl rfl rfl
theorem dX10_moveMourner_67 : decode cX10_moveMourner 67 = .ok (.iload_n 3, 1) := o_29 BX10_moveMourner rfl rfl
theorem dX10_moveMourner_68 : decode cX10_moveMourner 68 = .ok (.iconst (-1), 1) := o_2 BX10_moveMourner rfl rfl
theorem dX10_moveMourner_69 : decode cX10_moveMourner 69 = .ok (.if_icmp .eq 23, 3) := o_159 BX10_moveMourner rfl rfl rfl
theorem dX10_moveMourner_72 : decode cX10_moveMourner 72 = .ok (.iload 6, 2) := o_21 BX10_moveMourner rfl rfl rfl
theorem dX10_moveMourner_74 : decode cX10_moveMourner 74 = .ok (.invokestatic 134, 3) := o_184 BX10_moveMourner rfl rfl rfl
theorem dX10_moveMourner_77 : decode cX10_moveMourner 77 = .ok (.aload_n 1, 1) := o_43 BX10_moveMourner rfl rfl
theorem dX10_moveMourner_78 : decode cX10_moveMourner 78 = .ok (.getfield 69, 3) := o_180 BX10_moveMourner rfl rfl rfl
theorem dX10_moveMourner_81 : decode cX10_moveMourner 81 = .ok (.iload_n 3, 1) := o_29 BX10_moveMourner rfl rfl
theorem dX10_moveMourner_82 : decode cX10_moveMourner 82 = .ok (.iaload, 1) := o_46 BX10_moveMourner rfl rfl
theorem dX10_moveMourner_83 : decode cX10_moveMourner 83 = .ok (.iload 4, 2) := o_21 BX10_moveMourner rfl rfl rfl
theorem dX10_moveMourner_85 : decode cX10_moveMourner 85 = .ok (.isub, 1) := o_100 BX10_moveMourner rfl rfl
theorem dX10_moveMourner_86 : decode cX10_moveMourner 86 = .ok (.invokestatic 134, 3) := o_184 BX10_moveMourner rfl rfl rfl
theorem dX10_moveMourner_89 : decode cX10_moveMourner 89 = .ok (.if_icmp .ge 39, 3) := o_162 BX10_moveMourner rfl rfl rfl
theorem dX10_moveMourner_92 : decode cX10_moveMourner 92 = .ok (.aload_n 1, 1) := o_43 BX10_moveMourner rfl rfl
theorem dX10_moveMourner_93 : decode cX10_moveMourner 93 = .ok (.getfield 118, 3) := o_180 BX10_moveMourner rfl rfl rfl
theorem dX10_moveMourner_96 : decode cX10_moveMourner 96 = .ok (.iload_n 2, 1) := o_28 BX10_moveMourner rfl rfl
theorem dX10_moveMourner_97 : decode cX10_moveMourner 97 = .ok (.iload 5, 2) := o_21 BX10_moveMourner rfl rfl rfl
theorem dX10_moveMourner_99 : decode cX10_moveMourner 99 = .ok (.iastore, 1) := o_79 BX10_moveMourner rfl rfl
theorem dX10_moveMourner_100 : decode cX10_moveMourner 100 = .ok (.aload_n 0, 1) := o_42 BX10_moveMourner rfl rfl
theorem dX10_moveMourner_101 : decode cX10_moveMourner 101 = .ok (.dup, 1) := o_89 BX10_moveMourner rfl rfl
theorem dX10_moveMourner_102 : decode cX10_moveMourner 102 = .ok (.getfield 22, 3) := o_180 BX10_moveMourner rfl rfl rfl
theorem dX10_moveMourner_105 : decode cX10_moveMourner 105 = .ok (.iconst 1, 1) := o_4 BX10_moveMourner rfl rfl
theorem dX10_moveMourner_106 : decode cX10_moveMourner 106 = .ok (.iadd, 1) := o_96 BX10_moveMourner rfl rfl
theorem dX10_moveMourner_107 : decode cX10_moveMourner 107 = .ok (.putfield 22, 3) := o_181 BX10_moveMourner rfl rfl rfl
theorem dX10_moveMourner_110 : decode cX10_moveMourner 110 = .ok (.aload_n 0, 1) := o_42 BX10_moveMourner rfl rfl
theorem dX10_moveMourner_111 : decode cX10_moveMourner 111 = .ok (.getfield 15, 3) := o_180 BX10_moveMourner rfl rfl rfl
theorem dX10_moveMourner_114 : decode cX10_moveMourner 114 = .ok (.iload_n 2, 1) := o_28 BX10_moveMourner rfl rfl
theorem dX10_moveMourner_115 : decode cX10_moveMourner 115 = .ok (.dup2, 1) := o_92 BX10_moveMourner rfl rfl
theorem dX10_moveMourner_116 : decode cX10_moveMourner 116 = .ok (.iaload, 1) := o_46 BX10_moveMourner rfl rfl
theorem dX10_moveMourner_117 : decode cX10_moveMourner 117 = .ok (.iconst 1, 1) := o_4 BX10_moveMourner rfl rfl
theorem dX10_moveMourner_118 : decode cX10_moveMourner 118 = .ok (.iadd, 1) := o_96 BX10_moveMourner rfl rfl
theorem dX10_moveMourner_119 : decode cX10_moveMourner 119 = .ok (.iastore, 1) := o_79 BX10_moveMourner rfl rfl
theorem dX10_moveMourner_120 : decode cX10_moveMourner 120 = .ok (.aload_n 0, 1) := o_42 BX10_moveMourner rfl rfl
theorem dX10_moveMourner_121 : decode cX10_moveMourner 121 = .ok (.iconst 1, 1) := o_4 BX10_moveMourner rfl rfl
theorem dX10_moveMourner_122 : decode cX10_moveMourner 122 = .ok (.putfield 25, 3) := o_181 BX10_moveMourner rfl rfl rfl
theorem dX10_moveMourner_125 : decode cX10_moveMourner 125 = .ok (.goto 14, 3) := o_167 BX10_moveMourner rfl rfl rfl
theorem dX10_moveMourner_128 : decode cX10_moveMourner 128 = .ok (.aload_n 1, 1) := o_43 BX10_moveMourner rfl rfl
theorem dX10_moveMourner_129 : decode cX10_moveMourner 129 = .ok (.getfield 69, 3) := o_180 BX10_moveMourner rfl rfl rfl
theorem dX10_moveMourner_132 : decode cX10_moveMourner 132 = .ok (.iload_n 3, 1) := o_29 BX10_moveMourner rfl rfl
theorem dX10_moveMourner_133 : decode cX10_moveMourner 133 = .ok (.iaload, 1) := o_46 BX10_moveMourner rfl rfl
theorem dX10_moveMourner_134 : decode cX10_moveMourner 134 = .ok (.iload 4, 2) := o_21 BX10_moveMourner rfl rfl rfl
theorem dX10_moveMourner_136 : decode cX10_moveMourner 136 = .ok (.isub, 1) := o_100 BX10_moveMourner rfl rfl
theorem dX10_moveMourner_137 : decode cX10_moveMourner 137 = .ok (.istore 6, 2) := o_54 BX10_moveMourner rfl rfl rfl
theorem dX10_moveMourner_139 : decode cX10_moveMourner 139 = .ok (.aload_n 1, 1) := o_43 BX10_moveMourner rfl rfl
theorem dX10_moveMourner_140 : decode cX10_moveMourner 140 = .ok (.getfield 128, 3) := o_180 BX10_moveMourner rfl rfl rfl
theorem dX10_moveMourner_143 : decode cX10_moveMourner 143 = .ok (.iload_n 2, 1) := o_28 BX10_moveMourner rfl rfl
theorem dX10_moveMourner_144 : decode cX10_moveMourner 144 = .ok (.iload 4, 2) := o_21 BX10_moveMourner rfl rfl rfl
theorem dX10_moveMourner_146 : decode cX10_moveMourner 146 = .ok (.bipush (-2), 2) := o_16 BX10_moveMourner rfl rfl rfl
theorem dX10_moveMourner_148 : decode cX10_moveMourner 148 = .ok (.iload 6, 2) := o_21 BX10_moveMourner rfl rfl rfl
theorem dX10_moveMourner_150 : decode cX10_moveMourner 150 = .ok (.iconst 2, 1) := o_5 BX10_moveMourner rfl rfl
theorem dX10_moveMourner_151 : decode cX10_moveMourner 151 = .ok (.invokestatic 109, 3) := o_184 BX10_moveMourner rfl rfl rfl
theorem dX10_moveMourner_154 : decode cX10_moveMourner 154 = .ok (.invokestatic 137, 3) := o_184 BX10_moveMourner rfl rfl rfl
theorem dX10_moveMourner_157 : decode cX10_moveMourner 157 = .ok (.iadd, 1) := o_96 BX10_moveMourner rfl rfl
theorem dX10_moveMourner_158 : decode cX10_moveMourner 158 = .ok (.iastore, 1) := o_79 BX10_moveMourner rfl rfl
theorem dX10_moveMourner_159 : decode cX10_moveMourner 159 = .ok (.aload_n 0, 1) := o_42 BX10_moveMourner rfl rfl
theorem dX10_moveMourner_160 : decode cX10_moveMourner 160 = .ok (.aload_n 0, 1) := o_42 BX10_moveMourner rfl rfl
theorem dX10_moveMourner_161 : decode cX10_moveMourner 161 = .ok (.getfield 25, 3) := o_180 BX10_moveMourner rfl rfl rfl
theorem dX10_moveMourner_164 : decode cX10_moveMourner 164 = .ok (.ifCond .ne 8, 3) := o_154 BX10_moveMourner rfl rfl rfl
theorem dX10_moveMourner_167 : decode cX10_moveMourner 167 = .ok (.iload 6, 2) := o_21 BX10_moveMourner rfl rfl rfl
theorem dX10_moveMourner_169 : decode cX10_moveMourner 169 = .ok (.ifCond .eq 7, 3) := o_153 BX10_moveMourner rfl rfl rfl
theorem dX10_moveMourner_172 : decode cX10_moveMourner 172 = .ok (.iconst 1, 1) := o_4 BX10_moveMourner rfl rfl
theorem dX10_moveMourner_173 : decode cX10_moveMourner 173 = .ok (.goto 4, 3) := o_167 BX10_moveMourner rfl rfl rfl
theorem dX10_moveMourner_176 : decode cX10_moveMourner 176 = .ok (.iconst 0, 1) := o_3 BX10_moveMourner rfl rfl
theorem dX10_moveMourner_177 : decode cX10_moveMourner 177 = .ok (.putfield 25, 3) := o_181 BX10_moveMourner rfl rfl rfl
theorem dX10_moveMourner_180 : decode cX10_moveMourner 180 = .ok (.return_, 1) := o_177 BX10_moveMourner rfl rfl
theorem dX11_init_0 : decode cX11_init 0 = .ok (.aload_n 0, 1) := o_42 BX11_init rfl rfl
theorem dX11_init_1 : decode cX11_init 1 = .ok (.invokespecial 1, 3) := o_183 BX11_init rfl rfl rfl
theorem dX11_init_4 : decode cX11_init 4 = .ok (.aload_n 0, 1) := o_42 BX11_init rfl rfl
theorem dX11_init_5 : decode cX11_init 5 = .ok (.new 7, 3) := o_187 BX11_init rfl rfl rfl
theorem dX11_init_8 : decode cX11_init 8 = .ok (.dup, 1) := o_89 BX11_init rfl rfl
theorem dX11_init_9 : decode cX11_init 9 = .ok (.invokespecial 9, 3) := o_183 BX11_init rfl rfl rfl
theorem dX11_init_12 : decode cX11_init 12 = .ok (.putfield 10, 3) := o_181 BX11_init rfl rfl rfl
theorem dX11_init_15 : decode cX11_init 15 = .ok (.aload_n 0, 1) := o_42 BX11_init rfl rfl
theorem dX11_init_16 : decode cX11_init 16 = .ok (.new 16, 3) := o_187 BX11_init rfl rfl rfl
theorem dX11_init_19 : decode cX11_init 19 = .ok (.dup, 1) := o_89 BX11_init rfl rfl
theorem dX11_init_20 : decode cX11_init 20 = .ok (.invokespecial 18, 3) := o_183 BX11_init rfl rfl rfl
theorem dX11_init_23 : decode cX11_init 23 = .ok (.putfield 19, 3) := o_181 BX11_init rfl rfl rfl
theorem dX11_init_26 : decode cX11_init 26 = .ok (.aload_n 0, 1) := o_42 BX11_init rfl rfl
theorem dX11_init_27 : decode cX11_init 27 = .ok (.new 23, 3) := o_187 BX11_init rfl rfl rfl
theorem dX11_init_30 : decode cX11_init 30 = .ok (.dup, 1) := o_89 BX11_init rfl rfl
theorem dX11_init_31 : decode cX11_init 31 = .ok (.invokespecial 25, 3) := o_183 BX11_init rfl rfl rfl
theorem dX11_init_34 : decode cX11_init 34 = .ok (.putfield 26, 3) := o_181 BX11_init rfl rfl rfl
theorem dX11_init_37 : decode cX11_init 37 = .ok (.aload_n 0, 1) := o_42 BX11_init rfl rfl
theorem dX11_init_38 : decode cX11_init 38 = .ok (.new 23, 3) := o_187 BX11_init rfl rfl rfl
theorem dX11_init_41 : decode cX11_init 41 = .ok (.dup, 1) := o_89 BX11_init rfl rfl
theorem dX11_init_42 : decode cX11_init 42 = .ok (.invokespecial 25, 3) := o_183 BX11_init rfl rfl rfl
theorem dX11_init_45 : decode cX11_init 45 = .ok (.putfield 30, 3) := o_181 BX11_init rfl rfl rfl
theorem dX11_init_48 : decode cX11_init 48 = .ok (.aload_n 0, 1) := o_42 BX11_init rfl rfl
theorem dX11_init_49 : decode cX11_init 49 = .ok (.new 23, 3) := o_187 BX11_init rfl rfl rfl
theorem dX11_init_52 : decode cX11_init 52 = .ok (.dup, 1) := o_89 BX11_init rfl rfl
theorem dX11_init_53 : decode cX11_init 53 = .ok (.invokespecial 25, 3) := o_183 BX11_init rfl rfl rfl
theorem dX11_init_56 : decode cX11_init 56 = .ok (.putfield 33, 3) := o_181 BX11_init rfl rfl rfl
theorem dX11_init_59 : decode cX11_init 59 = .ok (.aload_n 0, 1) := o_42 BX11_init rfl rfl
theorem dX11_init_60 : decode cX11_init 60 = .ok (.new 23, 3) := o_187 BX11_init rfl rfl rfl
theorem dX11_init_63 : decode cX11_init 63 = .ok (.dup, 1) := o_89 BX11_init rfl rfl
theorem dX11_init_64 : decode cX11_init 64 = .ok (.invokespecial 25, 3) := o_183 BX11_init rfl rfl rfl
theorem dX11_init_67 : decode cX11_init 67 = .ok (.putfield 36, 3) := o_181 BX11_init rfl rfl rfl
theorem dX11_init_70 : decode cX11_init 70 = .ok (.aload_n 0, 1) := o_42 BX11_init rfl rfl
theorem dX11_init_71 : decode cX11_init 71 = .ok (.new 39, 3) := o_187 BX11_init rfl rfl rfl
theorem dX11_init_74 : decode cX11_init 74 = .ok (.dup, 1) := o_89 BX11_init rfl rfl
theorem dX11_init_75 : decode cX11_init 75 = .ok (.aload_n 0, 1) := o_42 BX11_init rfl rfl
theorem dX11_init_76 : decode cX11_init 76 = .ok (.getfield 19, 3) := o_180 BX11_init rfl rfl rfl
theorem dX11_init_79 : decode cX11_init 79 = .ok (.invokespecial 41, 3) := o_183 BX11_init rfl rfl rfl
theorem dX11_init_82 : decode cX11_init 82 = .ok (.putfield 44, 3) := o_181 BX11_init rfl rfl rfl
theorem dX11_init_85 : decode cX11_init 85 = .ok (.aload_n 0, 1) := o_42 BX11_init rfl rfl
theorem dX11_init_86 : decode cX11_init 86 = .ok (.new 48, 3) := o_187 BX11_init rfl rfl rfl
theorem dX11_init_89 : decode cX11_init 89 = .ok (.dup, 1) := o_89 BX11_init rfl rfl
theorem dX11_init_90 : decode cX11_init 90 = .ok (.invokespecial 50, 3) := o_183 BX11_init rfl rfl rfl
theorem dX11_init_93 : decode cX11_init 93 = .ok (.putfield 51, 3) := o_181 BX11_init rfl rfl rfl
theorem dX11_init_96 : decode cX11_init 96 = .ok (.aload_n 0, 1) := o_42 BX11_init rfl rfl
theorem dX11_init_97 : decode cX11_init 97 = .ok (.iconst 3, 1) := o_6 BX11_init rfl rfl
theorem dX11_init_98 : decode cX11_init 98 = .ok (.anewarray 23, 3) := o_189 BX11_init rfl rfl rfl
theorem dX11_init_101 : decode cX11_init 101 = .ok (.putfield 55, 3) := o_181 BX11_init rfl rfl rfl
theorem dX11_init_104 : decode cX11_init 104 = .ok (.aload_n 0, 1) := o_42 BX11_init rfl rfl
theorem dX11_init_105 : decode cX11_init 105 = .ok (.iconst 3, 1) := o_6 BX11_init rfl rfl
theorem dX11_init_106 : decode cX11_init 106 = .ok (.newarray .boolean, 2) := o_188_4 BX11_init rfl rfl rfl
theorem dX11_init_108 : decode cX11_init 108 = .ok (.putfield 59, 3) := o_181 BX11_init rfl rfl rfl
theorem dX11_init_111 : decode cX11_init 111 = .ok (.aload_n 0, 1) := o_42 BX11_init rfl rfl
theorem dX11_init_112 : decode cX11_init 112 = .ok (.new 63, 3) := o_187 BX11_init rfl rfl rfl
theorem dX11_init_115 : decode cX11_init 115 = .ok (.dup, 1) := o_89 BX11_init rfl rfl
theorem dX11_init_116 : decode cX11_init 116 = .ok (.invokespecial 65, 3) := o_183 BX11_init rfl rfl rfl
theorem dX11_init_119 : decode cX11_init 119 = .ok (.putfield 66, 3) := o_181 BX11_init rfl rfl rfl
theorem dX11_init_122 : decode cX11_init 122 = .ok (.aload_n 0, 1) := o_42 BX11_init rfl rfl
theorem dX11_init_123 : decode cX11_init 123 = .ok (.new 70, 3) := o_187 BX11_init rfl rfl rfl
theorem dX11_init_126 : decode cX11_init 126 = .ok (.dup, 1) := o_89 BX11_init rfl rfl
theorem dX11_init_127 : decode cX11_init 127 = .ok (.invokespecial 72, 3) := o_183 BX11_init rfl rfl rfl
theorem dX11_init_130 : decode cX11_init 130 = .ok (.putfield 73, 3) := o_181 BX11_init rfl rfl rfl
theorem dX11_init_133 : decode cX11_init 133 = .ok (.aload_n 0, 1) := o_42 BX11_init rfl rfl
theorem dX11_init_134 : decode cX11_init 134 = .ok (.new 77, 3) := o_187 BX11_init rfl rfl rfl
theorem dX11_init_137 : decode cX11_init 137 = .ok (.dup, 1) := o_89 BX11_init rfl rfl
theorem dX11_init_138 : decode cX11_init 138 = .ok (.invokespecial 79, 3) := o_183 BX11_init rfl rfl rfl
theorem dX11_init_141 : decode cX11_init 141 = .ok (.putfield 80, 3) := o_181 BX11_init rfl rfl rfl
theorem dX11_init_144 : decode cX11_init 144 = .ok (.aload_n 0, 1) := o_42 BX11_init rfl rfl
theorem dX11_init_145 : decode cX11_init 145 = .ok (.new 84, 3) := o_187 BX11_init rfl rfl rfl
theorem dX11_init_148 : decode cX11_init 148 = .ok (.dup, 1) := o_89 BX11_init rfl rfl
theorem dX11_init_149 : decode cX11_init 149 = .ok (.invokespecial 86, 3) := o_183 BX11_init rfl rfl rfl
theorem dX11_init_152 : decode cX11_init 152 = .ok (.putfield 87, 3) := o_181 BX11_init rfl rfl rfl
theorem dX11_init_155 : decode cX11_init 155 = .ok (.aload_n 0, 1) := o_42 BX11_init rfl rfl
theorem dX11_init_156 : decode cX11_init 156 = .ok (.new 91, 3) := o_187 BX11_init rfl rfl rfl
theorem dX11_init_159 : decode cX11_init 159 = .ok (.dup, 1) := o_89 BX11_init rfl rfl
theorem dX11_init_160 : decode cX11_init 160 = .ok (.invokespecial 93, 3) := o_183 BX11_init rfl rfl rfl
theorem dX11_init_163 : decode cX11_init 163 = .ok (.putfield 94, 3) := o_181 BX11_init rfl rfl rfl
theorem dX11_init_166 : decode cX11_init 166 = .ok (.aload_n 0, 1) := o_42 BX11_init rfl rfl
theorem dX11_init_167 : decode cX11_init 167 = .ok (.iconst 0, 1) := o_3 BX11_init rfl rfl
theorem dX11_init_168 : decode cX11_init 168 = .ok (.putfield 98, 3) := o_181 BX11_init rfl rfl rfl
theorem dX11_init_171 : decode cX11_init 171 = .ok (.aload_n 0, 1) := o_42 BX11_init rfl rfl
theorem dX11_init_172 : decode cX11_init 172 = .ok (.new 102, 3) := o_187 BX11_init rfl rfl rfl
theorem dX11_init_175 : decode cX11_init 175 = .ok (.dup, 1) := o_89 BX11_init rfl rfl
theorem dX11_init_176 : decode cX11_init 176 = .ok (.invokespecial 104, 3) := o_183 BX11_init rfl rfl rfl
theorem dX11_init_179 : decode cX11_init 179 = .ok (.putfield 105, 3) := o_181 BX11_init rfl rfl rfl
theorem dX11_init_182 : decode cX11_init 182 = .ok (.aload_n 0, 1) := o_42 BX11_init rfl rfl
theorem dX11_init_183 : decode cX11_init 183 = .ok (.new 102, 3) := o_187 BX11_init rfl rfl rfl
theorem dX11_init_186 : decode cX11_init 186 = .ok (.dup, 1) := o_89 BX11_init rfl rfl
theorem dX11_init_187 : decode cX11_init 187 = .ok (.invokespecial 104, 3) := o_183 BX11_init rfl rfl rfl
theorem dX11_init_190 : decode cX11_init 190 = .ok (.putfield 109, 3) := o_181 BX11_init rfl rfl rfl
theorem dX11_init_193 : decode cX11_init 193 = .ok (.iconst 0, 1) := o_3 BX11_init rfl rfl
theorem dX11_init_194 : decode cX11_init 194 = .ok (.istore_n 1, 1) := o_60 BX11_init rfl rfl
theorem dX11_init_195 : decode cX11_init 195 = .ok (.iload_n 1, 1) := o_27 BX11_init rfl rfl
theorem dX11_init_196 : decode cX11_init 196 = .ok (.iconst 3, 1) := o_6 BX11_init rfl rfl
theorem dX11_init_197 : decode cX11_init 197 = .ok (.if_icmp .ge 22, 3) := o_162 BX11_init rfl rfl rfl
theorem dX11_init_200 : decode cX11_init 200 = .ok (.aload_n 0, 1) := o_42 BX11_init rfl rfl
theorem dX11_init_201 : decode cX11_init 201 = .ok (.getfield 55, 3) := o_180 BX11_init rfl rfl rfl
theorem dX11_init_204 : decode cX11_init 204 = .ok (.iload_n 1, 1) := o_27 BX11_init rfl rfl
theorem dX11_init_205 : decode cX11_init 205 = .ok (.new 23, 3) := o_187 BX11_init rfl rfl rfl
theorem dX11_init_208 : decode cX11_init 208 = .ok (.dup, 1) := o_89 BX11_init rfl rfl
theorem dX11_init_209 : decode cX11_init 209 = .ok (.invokespecial 25, 3) := o_183 BX11_init rfl rfl rfl
theorem dX11_init_212 : decode cX11_init 212 = .ok (.aastore, 1) := o_83 BX11_init rfl rfl
theorem dX11_init_213 : decode cX11_init 213 = .ok (.iinc 1 1, 3) := o_132 BX11_init rfl rfl rfl rfl
theorem dX11_init_216 : decode cX11_init 216 = .ok (.goto (-21), 3) := o_167 BX11_init rfl rfl rfl
theorem dX11_init_219 : decode cX11_init 219 = .ok (.aload_n 0, 1) := o_42 BX11_init rfl rfl
theorem dX11_init_220 : decode cX11_init 220 = .ok (.getfield 105, 3) := o_180 BX11_init rfl rfl rfl
theorem dX11_init_223 : decode cX11_init 223 = .ok (.invokevirtual 112, 3) := o_182 BX11_init rfl rfl rfl
theorem dX11_init_226 : decode cX11_init 226 = .ok (.aload_n 0, 1) := o_42 BX11_init rfl rfl
theorem dX11_init_227 : decode cX11_init 227 = .ok (.getfield 109, 3) := o_180 BX11_init rfl rfl rfl
theorem dX11_init_230 : decode cX11_init 230 = .ok (.invokevirtual 112, 3) := o_182 BX11_init rfl rfl rfl
theorem dX11_init_233 : decode cX11_init 233 = .ok (.return_, 1) := o_177 BX11_init rfl rfl
theorem dX11_sign_0 : decode cX11_sign 0 = .ok (.aload_n 0, 1) := o_42 BX11_sign rfl rfl
theorem dX11_sign_1 : decode cX11_sign 1 = .ok (.getfield 10, 3) := o_180 BX11_sign rfl rfl rfl
theorem dX11_sign_4 : decode cX11_sign 4 = .ok (.iload_n 1, 1) := o_27 BX11_sign rfl rfl
theorem dX11_sign_5 : decode cX11_sign 5 = .ok (.invokevirtual 115, 3) := o_182 BX11_sign rfl rfl rfl
theorem dX11_sign_8 : decode cX11_sign 8 = .ok (.ifCond .eq 13, 3) := o_153 BX11_sign rfl rfl rfl
theorem dX11_sign_11 : decode cX11_sign 11 = .ok (.aload_n 0, 1) := o_42 BX11_sign rfl rfl
theorem dX11_sign_12 : decode cX11_sign 12 = .ok (.getfield 10, 3) := o_180 BX11_sign rfl rfl rfl
theorem dX11_sign_15 : decode cX11_sign 15 = .ok (.getfield 119, 3) := o_180 BX11_sign rfl rfl rfl
theorem dX11_sign_18 : decode cX11_sign 18 = .ok (.goto 4, 3) := o_167 BX11_sign rfl rfl rfl
theorem dX11_sign_21 : decode cX11_sign 21 = .ok (.iconst (-1), 1) := o_2 BX11_sign rfl rfl
theorem dX11_sign_22 : decode cX11_sign 22 = .ok (.ireturn, 1) := o_172 BX11_sign rfl rfl
theorem dX11_end_0 : decode cX11_end 0 = .ok (.aload_n 0, 1) := o_42 BX11_end rfl rfl
theorem dX11_end_1 : decode cX11_end 1 = .ok (.getfield 10, 3) := o_180 BX11_end rfl rfl rfl
theorem dX11_end_4 : decode cX11_end 4 = .ok (.iload_n 1, 1) := o_27 BX11_end rfl rfl
theorem dX11_end_5 : decode cX11_end 5 = .ok (.invokevirtual 122, 3) := o_182 BX11_end rfl rfl rfl
theorem dX11_end_8 : decode cX11_end 8 = .ok (.ireturn, 1) := o_172 BX11_end rfl rfl
theorem dX11_avenue_0 : decode cX11_avenue 0 = .ok (.aload_n 0, 1) := o_42 BX11_avenue rfl rfl
theorem dX11_avenue_1 : decode cX11_avenue 1 = .ok (.invokevirtual 125, 3) := o_182 BX11_avenue rfl rfl rfl
theorem dX11_avenue_4 : decode cX11_avenue 4 = .ok (.istore_n 1, 1) := o_60 BX11_avenue rfl rfl
theorem dX11_avenue_5 : decode cX11_avenue 5 = .ok (.aload_n 0, 1) := o_42 BX11_avenue rfl rfl
theorem dX11_avenue_6 : decode cX11_avenue 6 = .ok (.getfield 10, 3) := o_180 BX11_avenue rfl rfl rfl
theorem dX11_avenue_9 : decode cX11_avenue 9 = .ok (.getfield 119, 3) := o_180 BX11_avenue rfl rfl rfl
theorem dX11_avenue_12 : decode cX11_avenue 12 = .ok (.istore_n 2, 1) := o_61 BX11_avenue rfl rfl
theorem dX11_avenue_13 : decode cX11_avenue 13 = .ok (.iload_n 1, 1) := o_27 BX11_avenue rfl rfl
theorem dX11_avenue_14 : decode cX11_avenue 14 = .ok (.iconst (-1), 1) := o_2 BX11_avenue rfl rfl
theorem dX11_avenue_15 : decode cX11_avenue 15 = .ok (.if_icmp .ne 32, 3) := o_160 BX11_avenue rfl rfl rfl
theorem dX11_avenue_18 : decode cX11_avenue 18 = .ok (.aload_n 0, 1) := o_42 BX11_avenue rfl rfl
theorem dX11_avenue_19 : decode cX11_avenue 19 = .ok (.getfield 19, 3) := o_180 BX11_avenue rfl rfl rfl
theorem dX11_avenue_22 : decode cX11_avenue 22 = .ok (.aload_n 0, 1) := o_42 BX11_avenue rfl rfl
theorem dX11_avenue_23 : decode cX11_avenue 23 = .ok (.getfield 10, 3) := o_180 BX11_avenue rfl rfl rfl
theorem dX11_avenue_26 : decode cX11_avenue 26 = .ok (.invokevirtual 129, 3) := o_182 BX11_avenue rfl rfl rfl
theorem dX11_avenue_29 : decode cX11_avenue 29 = .ok (.aload_n 0, 1) := o_42 BX11_avenue rfl rfl
theorem dX11_avenue_30 : decode cX11_avenue 30 = .ok (.getfield 26, 3) := o_180 BX11_avenue rfl rfl rfl
theorem dX11_avenue_33 : decode cX11_avenue 33 = .ok (.invokevirtual 133, 3) := o_182 BX11_avenue rfl rfl rfl
theorem dX11_avenue_36 : decode cX11_avenue 36 = .ok (.aload_n 0, 1) := o_42 BX11_avenue rfl rfl
theorem dX11_avenue_37 : decode cX11_avenue 37 = .ok (.getfield 51, 3) := o_180 BX11_avenue rfl rfl rfl
theorem dX11_avenue_40 : decode cX11_avenue 40 = .ok (.invokevirtual 136, 3) := o_182 BX11_avenue rfl rfl rfl
theorem dX11_avenue_43 : decode cX11_avenue 43 = .ok (.aload_n 0, 1) := o_42 BX11_avenue rfl rfl
theorem dX11_avenue_44 : decode cX11_avenue 44 = .ok (.invokevirtual 137, 3) := o_182 BX11_avenue rfl rfl rfl
theorem dX11_avenue_47 : decode cX11_avenue 47 = .ok (.aload_n 0, 1) := o_42 BX11_avenue rfl rfl
theorem dX11_avenue_48 : decode cX11_avenue 48 = .ok (.getfield 10, 3) := o_180 BX11_avenue rfl rfl rfl
theorem dX11_avenue_51 : decode cX11_avenue 51 = .ok (.invokevirtual 140, 3) := o_182 BX11_avenue rfl rfl rfl
theorem dX11_avenue_54 : decode cX11_avenue 54 = .ok (.iload_n 1, 1) := o_27 BX11_avenue rfl rfl
theorem dX11_avenue_55 : decode cX11_avenue 55 = .ok (.iconst (-1), 1) := o_2 BX11_avenue rfl rfl
theorem dX11_avenue_56 : decode cX11_avenue 56 = .ok (.if_icmp .ne 7, 3) := o_160 BX11_avenue rfl rfl rfl
theorem dX11_avenue_59 : decode cX11_avenue 59 = .ok (.iload_n 2, 1) := o_28 BX11_avenue rfl rfl
theorem dX11_avenue_60 : decode cX11_avenue 60 = .ok (.goto 6, 3) := o_167 BX11_avenue rfl rfl rfl
theorem dX11_avenue_63 : decode cX11_avenue 63 = .ok (.iconst (-1), 1) := o_2 BX11_avenue rfl rfl
theorem dX11_avenue_64 : decode cX11_avenue 64 = .ok (.iload_n 1, 1) := o_27 BX11_avenue rfl rfl
theorem dX11_avenue_65 : decode cX11_avenue 65 = .ok (.isub, 1) := o_100 BX11_avenue rfl rfl
theorem dX11_avenue_66 : decode cX11_avenue 66 = .ok (.ireturn, 1) := o_172 BX11_avenue rfl rfl
theorem dX11_avenueFault_0 : decode cX11_avenueFault 0 = .ok (.iconst 0, 1) := o_3 BX11_avenueFault rfl rfl
theorem dX11_avenueFault_1 : decode cX11_avenueFault 1 = .ok (.istore_n 1, 1) := o_60 BX11_avenueFault rfl rfl
theorem dX11_avenueFault_2 : decode cX11_avenueFault 2 = .ok (.iload_n 1, 1) := o_27 BX11_avenueFault rfl rfl
theorem dX11_avenueFault_3 : decode cX11_avenueFault 3 = .ok (.aload_n 0, 1) := o_42 BX11_avenueFault rfl rfl
theorem dX11_avenueFault_4 : decode cX11_avenueFault 4 = .ok (.getfield 10, 3) := o_180 BX11_avenueFault rfl rfl rfl
theorem dX11_avenueFault_7 : decode cX11_avenueFault 7 = .ok (.getfield 119, 3) := o_180 BX11_avenueFault rfl rfl rfl
theorem dX11_avenueFault_10 : decode cX11_avenueFault 10 = .ok (.if_icmp .ge 38, 3) := o_162 BX11_avenueFault rfl rfl rfl
theorem dX11_avenueFault_13 : decode cX11_avenueFault 13 = .ok (.aload_n 0, 1) := o_42 BX11_avenueFault rfl rfl
theorem dX11_avenueFault_14 : decode cX11_avenueFault 14 = .ok (.getfield 10, 3) := o_180 BX11_avenueFault rfl rfl rfl
theorem dX11_avenueFault_17 : decode cX11_avenueFault 17 = .ok (.iload_n 1, 1) := o_27 BX11_avenueFault rfl rfl
theorem dX11_avenueFault_18 : decode cX11_avenueFault 18 = .ok (.invokevirtual 141, 3) := o_182 BX11_avenueFault rfl rfl rfl
theorem dX11_avenueFault_21 : decode cX11_avenueFault 21 = .ok (.istore_n 2, 1) := o_61 BX11_avenueFault rfl rfl
theorem dX11_avenueFault_22 : decode cX11_avenueFault 22 = .ok (.iload_n 1, 1) := o_27 BX11_avenueFault rfl rfl
theorem dX11_avenueFault_23 : decode cX11_avenueFault 23 = .ok (.bipush 30, 2) := o_16 BX11_avenueFault rfl rfl rfl
theorem dX11_avenueFault_25 : decode cX11_avenueFault 25 = .ok (.if_icmp .eq 15, 3) := o_159 BX11_avenueFault rfl rfl rfl
theorem dX11_avenueFault_28 : decode cX11_avenueFault 28 = .ok (.iload_n 2, 1) := o_28 BX11_avenueFault rfl rfl
theorem dX11_avenueFault_29 : decode cX11_avenueFault 29 = .ok (.bipush 46, 2) := o_16 BX11_avenueFault rfl rfl rfl
theorem dX11_avenueFault_31 : decode cX11_avenueFault 31 = .ok (.if_icmp .eq 11, 3) := o_159 BX11_avenueFault rfl rfl rfl
theorem dX11_avenueFault_34 : decode cX11_avenueFault 34 = .ok (.iload_n 2, 1) := o_28 BX11_avenueFault rfl rfl
theorem dX11_avenueFault_35 : decode cX11_avenueFault 35 = .ok (.bipush 99, 2) := o_16 BX11_avenueFault rfl rfl rfl
theorem dX11_avenueFault_37 : decode cX11_avenueFault 37 = .ok (.if_icmp .eq 5, 3) := o_159 BX11_avenueFault rfl rfl rfl
theorem dX11_avenueFault_40 : decode cX11_avenueFault 40 = .ok (.iload_n 1, 1) := o_27 BX11_avenueFault rfl rfl
theorem dX11_avenueFault_41 : decode cX11_avenueFault 41 = .ok (.ireturn, 1) := o_172 BX11_avenueFault rfl rfl
theorem dX11_avenueFault_42 : decode cX11_avenueFault 42 = .ok (.iinc 1 1, 3) := o_132 BX11_avenueFault rfl rfl rfl rfl
theorem dX11_avenueFault_45 : decode cX11_avenueFault 45 = .ok (.goto (-43), 3) := o_167 BX11_avenueFault rfl rfl rfl
theorem dX11_avenueFault_48 : decode cX11_avenueFault 48 = .ok (.aload_n 0, 1) := o_42 BX11_avenueFault rfl rfl
theorem dX11_avenueFault_49 : decode cX11_avenueFault 49 = .ok (.getfield 10, 3) := o_180 BX11_avenueFault rfl rfl rfl
theorem dX11_avenueFault_52 : decode cX11_avenueFault 52 = .ok (.getfield 119, 3) := o_180 BX11_avenueFault rfl rfl rfl
theorem dX11_avenueFault_55 : decode cX11_avenueFault 55 = .ok (.iconst 4, 1) := o_7 BX11_avenueFault rfl rfl
theorem dX11_avenueFault_56 : decode cX11_avenueFault 56 = .ok (.if_icmp .ge 13, 3) := o_162 BX11_avenueFault rfl rfl rfl
theorem dX11_avenueFault_59 : decode cX11_avenueFault 59 = .ok (.aload_n 0, 1) := o_42 BX11_avenueFault rfl rfl
theorem dX11_avenueFault_60 : decode cX11_avenueFault 60 = .ok (.getfield 10, 3) := o_180 BX11_avenueFault rfl rfl rfl
theorem dX11_avenueFault_63 : decode cX11_avenueFault 63 = .ok (.getfield 119, 3) := o_180 BX11_avenueFault rfl rfl rfl
theorem dX11_avenueFault_66 : decode cX11_avenueFault 66 = .ok (.goto 4, 3) := o_167 BX11_avenueFault rfl rfl rfl
theorem dX11_avenueFault_69 : decode cX11_avenueFault 69 = .ok (.iconst (-1), 1) := o_2 BX11_avenueFault rfl rfl
theorem dX11_avenueFault_70 : decode cX11_avenueFault 70 = .ok (.ireturn, 1) := o_172 BX11_avenueFault rfl rfl
theorem dX11_forgetKept_0 : decode cX11_forgetKept 0 = .ok (.iconst 0, 1) := o_3 BX11_forgetKept rfl rfl
theorem dX11_forgetKept_1 : decode cX11_forgetKept 1 = .ok (.istore_n 1, 1) := o_60 BX11_forgetKept rfl rfl
theorem dX11_forgetKept_2 : decode cX11_forgetKept 2 = .ok (.iload_n 1, 1) := o_27 BX11_forgetKept rfl rfl
theorem dX11_forgetKept_3 : decode cX11_forgetKept 3 = .ok (.iconst 3, 1) := o_6 BX11_forgetKept rfl rfl
theorem dX11_forgetKept_4 : decode cX11_forgetKept 4 = .ok (.if_icmp .ge 16, 3) := o_162 BX11_forgetKept rfl rfl rfl
theorem dX11_forgetKept_7 : decode cX11_forgetKept 7 = .ok (.aload_n 0, 1) := o_42 BX11_forgetKept rfl rfl
theorem dX11_forgetKept_8 : decode cX11_forgetKept 8 = .ok (.getfield 59, 3) := o_180 BX11_forgetKept rfl rfl rfl
theorem dX11_forgetKept_11 : decode cX11_forgetKept 11 = .ok (.iload_n 1, 1) := o_27 BX11_forgetKept rfl rfl
theorem dX11_forgetKept_12 : decode cX11_forgetKept 12 = .ok (.iconst 0, 1) := o_3 BX11_forgetKept rfl rfl
theorem dX11_forgetKept_13 : decode cX11_forgetKept 13 = .ok (.bastore, 1) := o_84 BX11_forgetKept rfl rfl
theorem dX11_forgetKept_14 : decode cX11_forgetKept 14 = .ok (.iinc 1 1, 3) := o_132 BX11_forgetKept rfl rfl rfl rfl
theorem dX11_forgetKept_17 : decode cX11_forgetKept 17 = .ok (.goto (-15), 3) := o_167 BX11_forgetKept rfl rfl rfl
theorem dX11_forgetKept_20 : decode cX11_forgetKept 20 = .ok (.return_, 1) := o_177 BX11_forgetKept rfl rfl
theorem dX11_hearses_0 : decode cX11_hearses 0 = .ok (.aload_n 0, 1) := o_42 BX11_hearses rfl rfl
theorem dX11_hearses_1 : decode cX11_hearses 1 = .ok (.getfield 10, 3) := o_180 BX11_hearses rfl rfl rfl
theorem dX11_hearses_4 : decode cX11_hearses 4 = .ok (.invokevirtual 145, 3) := o_182 BX11_hearses rfl rfl rfl
theorem dX11_hearses_7 : decode cX11_hearses 7 = .ok (.ifCond .eq 7, 3) := o_153 BX11_hearses rfl rfl rfl
theorem dX11_hearses_10 : decode cX11_hearses 10 = .ok (.iconst 0, 1) := o_3 BX11_hearses rfl rfl
theorem dX11_hearses_11 : decode cX11_hearses 11 = .ok (.goto 8, 3) := o_167 BX11_hearses rfl rfl rfl
theorem dX11_hearses_14 : decode cX11_hearses 14 = .ok (.aload_n 0, 1) := o_42 BX11_hearses rfl rfl
theorem dX11_hearses_15 : decode cX11_hearses 15 = .ok (.iconst 1, 1) := o_4 BX11_hearses rfl rfl
theorem dX11_hearses_16 : decode cX11_hearses 16 = .ok (.invokevirtual 149, 3) := o_182 BX11_hearses rfl rfl rfl
theorem dX11_hearses_19 : decode cX11_hearses 19 = .ok (.istore_n 1, 1) := o_60 BX11_hearses rfl rfl
theorem dX11_hearses_20 : decode cX11_hearses 20 = .ok (.aload_n 0, 1) := o_42 BX11_hearses rfl rfl
theorem dX11_hearses_21 : decode cX11_hearses 21 = .ok (.getfield 10, 3) := o_180 BX11_hearses rfl rfl rfl
theorem dX11_hearses_24 : decode cX11_hearses 24 = .ok (.invokevirtual 140, 3) := o_182 BX11_hearses rfl rfl rfl
theorem dX11_hearses_27 : decode cX11_hearses 27 = .ok (.iload_n 1, 1) := o_27 BX11_hearses rfl rfl
theorem dX11_hearses_28 : decode cX11_hearses 28 = .ok (.ireturn, 1) := o_172 BX11_hearses rfl rfl
theorem dX11_mourners_0 : decode cX11_mourners 0 = .ok (.aload_n 0, 1) := o_42 BX11_mourners rfl rfl
theorem dX11_mourners_1 : decode cX11_mourners 1 = .ok (.getfield 10, 3) := o_180 BX11_mourners rfl rfl rfl
theorem dX11_mourners_4 : decode cX11_mourners 4 = .ok (.invokevirtual 145, 3) := o_182 BX11_mourners rfl rfl rfl
theorem dX11_mourners_7 : decode cX11_mourners 7 = .ok (.ifCond .eq 7, 3) := o_153 BX11_mourners rfl rfl rfl
theorem dX11_mourners_10 : decode cX11_mourners 10 = .ok (.iconst 0, 1) := o_3 BX11_mourners rfl rfl
theorem dX11_mourners_11 : decode cX11_mourners 11 = .ok (.goto 8, 3) := o_167 BX11_mourners rfl rfl rfl
theorem dX11_mourners_14 : decode cX11_mourners 14 = .ok (.aload_n 0, 1) := o_42 BX11_mourners rfl rfl
theorem dX11_mourners_15 : decode cX11_mourners 15 = .ok (.iconst 0, 1) := o_3 BX11_mourners rfl rfl
theorem dX11_mourners_16 : decode cX11_mourners 16 = .ok (.invokevirtual 149, 3) := o_182 BX11_mourners rfl rfl rfl
theorem dX11_mourners_19 : decode cX11_mourners 19 = .ok (.istore_n 1, 1) := o_60 BX11_mourners rfl rfl
theorem dX11_mourners_20 : decode cX11_mourners 20 = .ok (.aload_n 0, 1) := o_42 BX11_mourners rfl rfl
theorem dX11_mourners_21 : decode cX11_mourners 21 = .ok (.getfield 10, 3) := o_180 BX11_mourners rfl rfl rfl
theorem dX11_mourners_24 : decode cX11_mourners 24 = .ok (.invokevirtual 140, 3) := o_182 BX11_mourners rfl rfl rfl
theorem dX11_mourners_27 : decode cX11_mourners 27 = .ok (.iload_n 1, 1) := o_27 BX11_mourners rfl rfl
theorem dX11_mourners_28 : decode cX11_mourners 28 = .ok (.ireturn, 1) := o_172 BX11_mourners rfl rfl
theorem dX11_readLines_0 : decode cX11_readLines 0 = .ok (.aload_n 0, 1) := o_42 BX11_readLines rfl rfl
theorem dX11_readLines_1 : decode cX11_readLines 1 = .ok (.getfield 30, 3) := o_180 BX11_readLines rfl rfl rfl
theorem dX11_readLines_4 : decode cX11_readLines 4 = .ok (.aload_n 0, 1) := o_42 BX11_readLines rfl rfl
theorem dX11_readLines_5 : decode cX11_readLines 5 = .ok (.getfield 26, 3) := o_180 BX11_readLines rfl rfl rfl
theorem dX11_readLines_8 : decode cX11_readLines 8 = .ok (.invokevirtual 153, 3) := o_182 BX11_readLines rfl rfl rfl
theorem dX11_readLines_11 : decode cX11_readLines 11 = .ok (.aload_n 0, 1) := o_42 BX11_readLines rfl rfl
theorem dX11_readLines_12 : decode cX11_readLines 12 = .ok (.getfield 10, 3) := o_180 BX11_readLines rfl rfl rfl
theorem dX11_readLines_15 : decode cX11_readLines 15 = .ok (.iload_n 1, 1) := o_27 BX11_readLines rfl rfl
theorem dX11_readLines_16 : decode cX11_readLines 16 = .ok (.ifCond .eq 8, 3) := o_153 BX11_readLines rfl rfl rfl
theorem dX11_readLines_19 : decode cX11_readLines 19 = .ok (.bipush 17, 2) := o_16 BX11_readLines rfl rfl rfl
theorem dX11_readLines_21 : decode cX11_readLines 21 = .ok (.goto 5, 3) := o_167 BX11_readLines rfl rfl rfl
theorem dX11_readLines_24 : decode cX11_readLines 24 = .ok (.bipush 39, 2) := o_16 BX11_readLines rfl rfl rfl
theorem dX11_readLines_26 : decode cX11_readLines 26 = .ok (.invokevirtual 157, 3) := o_182 BX11_readLines rfl rfl rfl
theorem dX11_readLines_29 : decode cX11_readLines 29 = .ok (.iconst 0, 1) := o_3 BX11_readLines rfl rfl
theorem dX11_readLines_30 : decode cX11_readLines 30 = .ok (.istore_n 2, 1) := o_61 BX11_readLines rfl rfl
theorem dX11_readLines_31 : decode cX11_readLines 31 = .ok (.iconst 1, 1) := o_4 BX11_readLines rfl rfl
theorem dX11_readLines_32 : decode cX11_readLines 32 = .ok (.istore_n 3, 1) := o_62 BX11_readLines rfl rfl
theorem dX11_readLines_33 : decode cX11_readLines 33 = .ok (.iload_n 3, 1) := o_29 BX11_readLines rfl rfl
theorem dX11_readLines_34 : decode cX11_readLines 34 = .ok (.ifCond .eq 56, 3) := o_153 BX11_readLines rfl rfl rfl
theorem dX11_readLines_37 : decode cX11_readLines 37 = .ok (.iload_n 2, 1) := o_28 BX11_readLines rfl rfl
theorem dX11_readLines_38 : decode cX11_readLines 38 = .ok (.bipush 80, 2) := o_16 BX11_readLines rfl rfl rfl
theorem dX11_readLines_40 : decode cX11_readLines 40 = .ok (.if_icmp .gt 50, 3) := o_163 BX11_readLines rfl rfl rfl
theorem dX11_readLines_43 : decode cX11_readLines 43 = .ok (.iload_n 1, 1) := o_27 BX11_readLines rfl rfl
theorem dX11_readLines_44 : decode cX11_readLines 44 = .ok (.ifCond .eq 13, 3) := o_153 BX11_readLines rfl rfl rfl
theorem dX11_readLines_47 : decode cX11_readLines 47 = .ok (.aload_n 0, 1) := o_42 BX11_readLines rfl rfl
theorem dX11_readLines_48 : decode cX11_readLines 48 = .ok (.invokevirtual 161, 3) := o_182 BX11_readLines rfl rfl rfl
theorem dX11_readLines_51 : decode cX11_readLines 51 = .ok (.ifCond .eq 13, 3) := o_153 BX11_readLines rfl rfl rfl
theorem dX11_readLines_54 : decode cX11_readLines 54 = .ok (.goto 20, 3) := o_167 BX11_readLines rfl rfl rfl
theorem dX11_readLines_57 : decode cX11_readLines 57 = .ok (.aload_n 0, 1) := o_42 BX11_readLines rfl rfl
theorem dX11_readLines_58 : decode cX11_readLines 58 = .ok (.invokevirtual 164, 3) := o_182 BX11_readLines rfl rfl rfl
theorem dX11_readLines_61 : decode cX11_readLines 61 = .ok (.ifCond .ne 13, 3) := o_154 BX11_readLines rfl rfl rfl
theorem dX11_readLines_64 : decode cX11_readLines 64 = .ok (.iconst (-1), 1) := o_2 BX11_readLines rfl rfl
theorem dX11_readLines_65 : decode cX11_readLines 65 = .ok (.aload_n 0, 1) := o_42 BX11_readLines rfl rfl
theorem dX11_readLines_66 : decode cX11_readLines 66 = .ok (.getfield 10, 3) := o_180 BX11_readLines rfl rfl rfl
theorem dX11_readLines_69 : decode cX11_readLines 69 = .ok (.getfield 167, 3) := o_180 BX11_readLines rfl rfl rfl
theorem dX11_readLines_72 : decode cX11_readLines 72 = .ok (.isub, 1) := o_100 BX11_readLines rfl rfl
theorem dX11_readLines_73 : decode cX11_readLines 73 = .ok (.ireturn, 1) := o_172 BX11_readLines rfl rfl
theorem dX11_readLines_74 : decode cX11_readLines 74 = .ok (.iinc 2 1, 3) := o_132 BX11_readLines rfl rfl rfl rfl
theorem dX11_readLines_77 : decode cX11_readLines 77 = .ok (.aload_n 0, 1) := o_42 BX11_readLines rfl rfl
theorem dX11_readLines_78 : decode cX11_readLines 78 = .ok (.getfield 10, 3) := o_180 BX11_readLines rfl rfl rfl
theorem dX11_readLines_81 : decode cX11_readLines 81 = .ok (.bipush 59, 2) := o_16 BX11_readLines rfl rfl rfl
theorem dX11_readLines_83 : decode cX11_readLines 83 = .ok (.invokevirtual 170, 3) := o_182 BX11_readLines rfl rfl rfl
theorem dX11_readLines_86 : decode cX11_readLines 86 = .ok (.istore_n 3, 1) := o_62 BX11_readLines rfl rfl
theorem dX11_readLines_87 : decode cX11_readLines 87 = .ok (.goto (-54), 3) := o_167 BX11_readLines rfl rfl rfl
theorem dX11_readLines_90 : decode cX11_readLines 90 = .ok (.aload_n 0, 1) := o_42 BX11_readLines rfl rfl
theorem dX11_readLines_91 : decode cX11_readLines 91 = .ok (.getfield 10, 3) := o_180 BX11_readLines rfl rfl rfl
theorem dX11_readLines_94 : decode cX11_readLines 94 = .ok (.invokevirtual 173, 3) := o_182 BX11_readLines rfl rfl rfl
theorem dX11_readLines_97 : decode cX11_readLines 97 = .ok (.ifCond .ne 13, 3) := o_154 BX11_readLines rfl rfl rfl
theorem dX11_readLines_100 : decode cX11_readLines 100 = .ok (.iconst (-1), 1) := o_2 BX11_readLines rfl rfl
theorem dX11_readLines_101 : decode cX11_readLines 101 = .ok (.aload_n 0, 1) := o_42 BX11_readLines rfl rfl
theorem dX11_readLines_102 : decode cX11_readLines 102 = .ok (.getfield 10, 3) := o_180 BX11_readLines rfl rfl rfl
theorem dX11_readLines_105 : decode cX11_readLines 105 = .ok (.getfield 167, 3) := o_180 BX11_readLines rfl rfl rfl
theorem dX11_readLines_108 : decode cX11_readLines 108 = .ok (.isub, 1) := o_100 BX11_readLines rfl rfl
theorem dX11_readLines_109 : decode cX11_readLines 109 = .ok (.ireturn, 1) := o_172 BX11_readLines rfl rfl
theorem dX11_readLines_110 : decode cX11_readLines 110 = .ok (.aload_n 0, 1) := o_42 BX11_readLines rfl rfl
theorem dX11_readLines_111 : decode cX11_readLines 111 = .ok (.getfield 26, 3) := o_180 BX11_readLines rfl rfl rfl
theorem dX11_readLines_114 : decode cX11_readLines 114 = .ok (.aload_n 0, 1) := o_42 BX11_readLines rfl rfl
theorem dX11_readLines_115 : decode cX11_readLines 115 = .ok (.getfield 30, 3) := o_180 BX11_readLines rfl rfl rfl
theorem dX11_readLines_118 : decode cX11_readLines 118 = .ok (.invokevirtual 153, 3) := o_182 BX11_readLines rfl rfl rfl
