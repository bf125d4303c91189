theorem dX0_init_0 : decode cX0_init 0 = .ok (.aload_n 0, 1) := by decide +kernel
theorem dX0_init_1 : decode cX0_init 1 = .ok (.invokespecial 3, 3) := by decide +kernel
theorem dX0_init_4 : decode cX0_init 4 = .ok (.aload_n 0, 1) := by decide +kernel
theorem dX0_init_5 : decode cX0_init 5 = .ok (.bipush 8, 2) := by decide +kernel
theorem dX0_init_7 : decode cX0_init 7 = .ok (.newarray .int, 2) := by decide +kernel
theorem dX0_init_9 : decode cX0_init 9 = .ok (.putfield 9, 3) := by decide +kernel
theorem dX0_init_12 : decode cX0_init 12 = .ok (.aload_n 0, 1) := by decide +kernel
theorem dX0_init_13 : decode cX0_init 13 = .ok (.bipush 8, 2) := by decide +kernel
theorem dX0_init_15 : decode cX0_init 15 = .ok (.newarray .int, 2) := by decide +kernel
theorem dX0_init_17 : decode cX0_init 17 = .ok (.putfield 15, 3) := by decide +kernel
theorem dX0_init_20 : decode cX0_init 20 = .ok (.aload_n 0, 1) := by decide +kernel
theorem dX0_init_21 : decode cX0_init 21 = .ok (.iconst 0, 1) := by decide +kernel
theorem dX0_init_22 : decode cX0_init 22 = .ok (.putfield 18, 3) := by decide +kernel
theorem dX0_init_25 : decode cX0_init 25 = .ok (.return_, 1) := by decide +kernel
theorem dX0_add_0 : decode cX0_add 0 = .ok (.aload_n 0, 1) := by decide +kernel
theorem dX0_add_1 : decode cX0_add 1 = .ok (.getfield 18, 3) := by decide +kernel
theorem dX0_add_4 : decode cX0_add 4 = .ok (.bipush 8, 2) := by decide +kernel
theorem dX0_add_6 : decode cX0_add 6 = .ok (.if_icmp .ge 11, 3) := by decide +kernel
theorem dX0_add_9 : decode cX0_add 9 = .ok (.iload_n 1, 1) := by decide +kernel
theorem dX0_add_10 : decode cX0_add 10 = .ok (.iload_n 2, 1) := by decide +kernel
theorem dX0_add_11 : decode cX0_add 11 = .ok (.invokestatic 22, 3) := by decide +kernel
theorem dX0_add_14 : decode cX0_add 14 = .ok (.ifCond .ne 5, 3) := by decide +kernel
theorem dX0_add_17 : decode cX0_add 17 = .ok (.iconst 0, 1) := by decide +kernel
theorem dX0_add_18 : decode cX0_add 18 = .ok (.ireturn, 1) := by decide +kernel
theorem dX0_add_19 : decode cX0_add 19 = .ok (.aload_n 0, 1) := by decide +kernel
theorem dX0_add_20 : decode cX0_add 20 = .ok (.getfield 9, 3) := by decide +kernel
theorem dX0_add_23 : decode cX0_add 23 = .ok (.aload_n 0, 1) := by decide +kernel
theorem dX0_add_24 : decode cX0_add 24 = .ok (.getfield 18, 3) := by decide +kernel
theorem dX0_add_27 : decode cX0_add 27 = .ok (.iload_n 1, 1) := by decide +kernel
theorem dX0_add_28 : decode cX0_add 28 = .ok (.iastore, 1) := by decide +kernel
theorem dX0_add_29 : decode cX0_add 29 = .ok (.aload_n 0, 1) := by decide +kernel
theorem dX0_add_30 : decode cX0_add 30 = .ok (.getfield 15, 3) := by decide +kernel
theorem dX0_add_33 : decode cX0_add 33 = .ok (.aload_n 0, 1) := by decide +kernel
theorem dX0_add_34 : decode cX0_add 34 = .ok (.getfield 18, 3) := by decide +kernel
theorem dX0_add_37 : decode cX0_add 37 = .ok (.iload_n 2, 1) := by decide +kernel
theorem dX0_add_38 : decode cX0_add 38 = .ok (.iastore, 1) := by decide +kernel
theorem dX0_add_39 : decode cX0_add 39 = .ok (.aload_n 0, 1) := by decide +kernel
theorem dX0_add_40 : decode cX0_add 40 = .ok (.dup, 1) := by decide +kernel
theorem dX0_add_41 : decode cX0_add 41 = .ok (.getfield 18, 3) := by decide +kernel
theorem dX0_add_44 : decode cX0_add 44 = .ok (.iconst 1, 1) := by decide +kernel
theorem dX0_add_45 : decode cX0_add 45 = .ok (.iadd, 1) := by decide +kernel
theorem dX0_add_46 : decode cX0_add 46 = .ok (.putfield 18, 3) := by decide +kernel
theorem dX0_add_49 : decode cX0_add 49 = .ok (.iconst 1, 1) := by decide +kernel
theorem dX0_add_50 : decode cX0_add 50 = .ok (.ireturn, 1) := by decide +kernel
theorem dX0_canBe_0 : decode cX0_canBe 0 = .ok (.iload_n 0, 1) := by decide +kernel
theorem dX0_canBe_1 : decode cX0_canBe 1 = .ok (.tableswitch 79 0 3 #[31, 47, 31, 64], 31) := by decide +kernel
theorem dX0_canBe_32 : decode cX0_canBe 32 = .ok (.iload_n 1, 1) := by decide +kernel
theorem dX0_canBe_33 : decode cX0_canBe 33 = .ok (.ifCond .lt 13, 3) := by decide +kernel
theorem dX0_canBe_36 : decode cX0_canBe 36 = .ok (.iload_n 1, 1) := by decide +kernel
theorem dX0_canBe_37 : decode cX0_canBe 37 = .ok (.bipush 8, 2) := by decide +kernel
theorem dX0_canBe_39 : decode cX0_canBe 39 = .ok (.if_icmp .gt 7, 3) := by decide +kernel
theorem dX0_canBe_42 : decode cX0_canBe 42 = .ok (.iconst 1, 1) := by decide +kernel
theorem dX0_canBe_43 : decode cX0_canBe 43 = .ok (.goto 4, 3) := by decide +kernel
theorem dX0_canBe_46 : decode cX0_canBe 46 = .ok (.iconst 0, 1) := by decide +kernel
theorem dX0_canBe_47 : decode cX0_canBe 47 = .ok (.ireturn, 1) := by decide +kernel
theorem dX0_canBe_48 : decode cX0_canBe 48 = .ok (.iload_n 1, 1) := by decide +kernel
theorem dX0_canBe_49 : decode cX0_canBe 49 = .ok (.iconst 1, 1) := by decide +kernel
theorem dX0_canBe_50 : decode cX0_canBe 50 = .ok (.if_icmp .lt 13, 3) := by decide +kernel
theorem dX0_canBe_53 : decode cX0_canBe 53 = .ok (.iload_n 1, 1) := by decide +kernel
theorem dX0_canBe_54 : decode cX0_canBe 54 = .ok (.bipush 6, 2) := by decide +kernel
theorem dX0_canBe_56 : decode cX0_canBe 56 = .ok (.if_icmp .gt 7, 3) := by decide +kernel
theorem dX0_canBe_59 : decode cX0_canBe 59 = .ok (.iconst 1, 1) := by decide +kernel
theorem dX0_canBe_60 : decode cX0_canBe 60 = .ok (.goto 4, 3) := by decide +kernel
theorem dX0_canBe_63 : decode cX0_canBe 63 = .ok (.iconst 0, 1) := by decide +kernel
theorem dX0_canBe_64 : decode cX0_canBe 64 = .ok (.ireturn, 1) := by decide +kernel
theorem dX0_canBe_65 : decode cX0_canBe 65 = .ok (.iload_n 1, 1) := by decide +kernel
theorem dX0_canBe_66 : decode cX0_canBe 66 = .ok (.ifCond .eq 8, 3) := by decide +kernel
theorem dX0_canBe_69 : decode cX0_canBe 69 = .ok (.iload_n 1, 1) := by decide +kernel
theorem dX0_canBe_70 : decode cX0_canBe 70 = .ok (.iconst 1, 1) := by decide +kernel
theorem dX0_canBe_71 : decode cX0_canBe 71 = .ok (.if_icmp .ne 7, 3) := by decide +kernel
theorem dX0_canBe_74 : decode cX0_canBe 74 = .ok (.iconst 1, 1) := by decide +kernel
theorem dX0_canBe_75 : decode cX0_canBe 75 = .ok (.goto 4, 3) := by decide +kernel
theorem dX0_canBe_78 : decode cX0_canBe 78 = .ok (.iconst 0, 1) := by decide +kernel
theorem dX0_canBe_79 : decode cX0_canBe 79 = .ok (.ireturn, 1) := by decide +kernel
theorem dX0_canBe_80 : decode cX0_canBe 80 = .ok (.iconst 0, 1) := by decide +kernel
theorem dX0_canBe_81 : decode cX0_canBe 81 = .ok (.ireturn, 1) := by decide +kernel
theorem dX0_isTrueOf_0 : decode cX0_isTrueOf 0 = .ok (.iconst 0, 1) := by decide +kernel
theorem dX0_isTrueOf_1 : decode cX0_isTrueOf 1 = .ok (.istore_n 3, 1) := by decide +kernel
theorem dX0_isTrueOf_2 : decode cX0_isTrueOf 2 = .ok (.iload_n 3, 1) := by decide +kernel
theorem dX0_isTrueOf_3 : decode cX0_isTrueOf 3 = .ok (.aload_n 0, 1) := by decide +kernel
theorem dX0_isTrueOf_4 : decode cX0_isTrueOf 4 = .ok (.getfield 18, 3) := by decide +kernel
theorem dX0_isTrueOf_7 : decode cX0_isTrueOf 7 = .ok (.if_icmp .ge 21, 3) := by decide +kernel
theorem dX0_isTrueOf_10 : decode cX0_isTrueOf 10 = .ok (.aload_n 0, 1) := by decide +kernel
theorem dX0_isTrueOf_11 : decode cX0_isTrueOf 11 = .ok (.aload_n 1, 1) := by decide +kernel
theorem dX0_isTrueOf_12 : decode cX0_isTrueOf 12 = .ok (.iload_n 2, 1) := by decide +kernel
theorem dX0_isTrueOf_13 : decode cX0_isTrueOf 13 = .ok (.iload_n 3, 1) := by decide +kernel
theorem dX0_isTrueOf_14 : decode cX0_isTrueOf 14 = .ok (.invokevirtual 26, 3) := by decide +kernel
theorem dX0_isTrueOf_17 : decode cX0_isTrueOf 17 = .ok (.ifCond .ne 5, 3) := by decide +kernel
theorem dX0_isTrueOf_20 : decode cX0_isTrueOf 20 = .ok (.iconst 0, 1) := by decide +kernel
theorem dX0_isTrueOf_21 : decode cX0_isTrueOf 21 = .ok (.ireturn, 1) := by decide +kernel
theorem dX0_isTrueOf_22 : decode cX0_isTrueOf 22 = .ok (.iinc 3 1, 3) := by decide +kernel
theorem dX0_isTrueOf_25 : decode cX0_isTrueOf 25 = .ok (.goto (-23), 3) := by decide +kernel
theorem dX0_isTrueOf_28 : decode cX0_isTrueOf 28 = .ok (.iconst 1, 1) := by decide +kernel
theorem dX0_isTrueOf_29 : decode cX0_isTrueOf 29 = .ok (.ireturn, 1) := by decide +kernel
theorem dX0_isOneTrueOf_0 : decode cX0_isOneTrueOf 0 = .ok (.aload_n 0, 1) := by decide +kernel
theorem dX0_isOneTrueOf_1 : decode cX0_isOneTrueOf 1 = .ok (.getfield 9, 3) := by decide +kernel
theorem dX0_isOneTrueOf_4 : decode cX0_isOneTrueOf 4 = .ok (.iload_n 3, 1) := by decide +kernel
theorem dX0_isOneTrueOf_5 : decode cX0_isOneTrueOf 5 = .ok (.iaload, 1) := by decide +kernel
theorem dX0_isOneTrueOf_6 : decode cX0_isOneTrueOf 6 = .ok (.tableswitch 101 0 2 #[26, 53, 74], 26) := by decide +kernel
theorem dX0_isOneTrueOf_32 : decode cX0_isOneTrueOf 32 = .ok (.aload_n 1, 1) := by decide +kernel
theorem dX0_isOneTrueOf_33 : decode cX0_isOneTrueOf 33 = .ok (.aload_n 1, 1) := by decide +kernel
theorem dX0_isOneTrueOf_34 : decode cX0_isOneTrueOf 34 = .ok (.getfield 30, 3) := by decide +kernel
theorem dX0_isOneTrueOf_37 : decode cX0_isOneTrueOf 37 = .ok (.iload_n 2, 1) := by decide +kernel
theorem dX0_isOneTrueOf_38 : decode cX0_isOneTrueOf 38 = .ok (.invokevirtual 35, 3) := by decide +kernel
theorem dX0_isOneTrueOf_41 : decode cX0_isOneTrueOf 41 = .ok (.invokestatic 39, 3) := by decide +kernel
theorem dX0_isOneTrueOf_44 : decode cX0_isOneTrueOf 44 = .ok (.aload_n 0, 1) := by decide +kernel
theorem dX0_isOneTrueOf_45 : decode cX0_isOneTrueOf 45 = .ok (.getfield 15, 3) := by decide +kernel
theorem dX0_isOneTrueOf_48 : decode cX0_isOneTrueOf 48 = .ok (.iload_n 3, 1) := by decide +kernel
theorem dX0_isOneTrueOf_49 : decode cX0_isOneTrueOf 49 = .ok (.iaload, 1) := by decide +kernel
theorem dX0_isOneTrueOf_50 : decode cX0_isOneTrueOf 50 = .ok (.if_icmp .lt 7, 3) := by decide +kernel
theorem dX0_isOneTrueOf_53 : decode cX0_isOneTrueOf 53 = .ok (.iconst 1, 1) := by decide +kernel
theorem dX0_isOneTrueOf_54 : decode cX0_isOneTrueOf 54 = .ok (.goto 4, 3) := by decide +kernel
theorem dX0_isOneTrueOf_57 : decode cX0_isOneTrueOf 57 = .ok (.iconst 0, 1) := by decide +kernel
theorem dX0_isOneTrueOf_58 : decode cX0_isOneTrueOf 58 = .ok (.ireturn, 1) := by decide +kernel
theorem dX0_isOneTrueOf_59 : decode cX0_isOneTrueOf 59 = .ok (.aload_n 1, 1) := by decide +kernel
theorem dX0_isOneTrueOf_60 : decode cX0_isOneTrueOf 60 = .ok (.getfield 45, 3) := by decide +kernel
theorem dX0_isOneTrueOf_63 : decode cX0_isOneTrueOf 63 = .ok (.iload_n 2, 1) := by decide +kernel
theorem dX0_isOneTrueOf_64 : decode cX0_isOneTrueOf 64 = .ok (.iaload, 1) := by decide +kernel
theorem dX0_isOneTrueOf_65 : decode cX0_isOneTrueOf 65 = .ok (.aload_n 0, 1) := by decide +kernel
theorem dX0_isOneTrueOf_66 : decode cX0_isOneTrueOf 66 = .ok (.getfield 15, 3) := by decide +kernel
theorem dX0_isOneTrueOf_69 : decode cX0_isOneTrueOf 69 = .ok (.iload_n 3, 1) := by decide +kernel
theorem dX0_isOneTrueOf_70 : decode cX0_isOneTrueOf 70 = .ok (.iaload, 1) := by decide +kernel
theorem dX0_isOneTrueOf_71 : decode cX0_isOneTrueOf 71 = .ok (.if_icmp .ne 7, 3) := by decide +kernel
theorem dX0_isOneTrueOf_74 : decode cX0_isOneTrueOf 74 = .ok (.iconst 1, 1) := by decide +kernel
theorem dX0_isOneTrueOf_75 : decode cX0_isOneTrueOf 75 = .ok (.goto 4, 3) := by decide +kernel
theorem dX0_isOneTrueOf_78 : decode cX0_isOneTrueOf 78 = .ok (.iconst 0, 1) := by decide +kernel
theorem dX0_isOneTrueOf_79 : decode cX0_isOneTrueOf 79 = .ok (.ireturn, 1) := by decide +kernel
theorem dX0_isOneTrueOf_80 : decode cX0_isOneTrueOf 80 = .ok (.aload_n 1, 1) := by decide +kernel
theorem dX0_isOneTrueOf_81 : decode cX0_isOneTrueOf 81 = .ok (.aload_n 1, 1) := by decide +kernel
theorem dX0_isOneTrueOf_82 : decode cX0_isOneTrueOf 82 = .ok (.getfield 48, 3) := by decide +kernel
theorem dX0_isOneTrueOf_85 : decode cX0_isOneTrueOf 85 = .ok (.iload_n 2, 1) := by decide +kernel
theorem dX0_isOneTrueOf_86 : decode cX0_isOneTrueOf 86 = .ok (.invokevirtual 35, 3) := by decide +kernel
theorem dX0_isOneTrueOf_89 : decode cX0_isOneTrueOf 89 = .ok (.invokestatic 39, 3) := by decide +kernel
theorem dX0_isOneTrueOf_92 : decode cX0_isOneTrueOf 92 = .ok (.aload_n 0, 1) := by decide +kernel
theorem dX0_isOneTrueOf_93 : decode cX0_isOneTrueOf 93 = .ok (.getfield 15, 3) := by decide +kernel
theorem dX0_isOneTrueOf_96 : decode cX0_isOneTrueOf 96 = .ok (.iload_n 3, 1) := by decide +kernel
theorem dX0_isOneTrueOf_97 : decode cX0_isOneTrueOf 97 = .ok (.iaload, 1) := by decide +kernel
theorem dX0_isOneTrueOf_98 : decode cX0_isOneTrueOf 98 = .ok (.if_icmp .lt 7, 3) := by decide +kernel
theorem dX0_isOneTrueOf_101 : decode cX0_isOneTrueOf 101 = .ok (.iconst 1, 1) := by decide +kernel
theorem dX0_isOneTrueOf_102 : decode cX0_isOneTrueOf 102 = .ok (.goto 4, 3) := by decide +kernel
theorem dX0_isOneTrueOf_105 : decode cX0_isOneTrueOf 105 = .ok (.iconst 0, 1) := by decide +kernel
theorem dX0_isOneTrueOf_106 : decode cX0_isOneTrueOf 106 = .ok (.ireturn, 1) := by decide +kernel
theorem dX0_isOneTrueOf_107 : decode cX0_isOneTrueOf 107 = .ok (.iload_n 2, 1) := by decide +kernel
theorem dX0_isOneTrueOf_108 : decode cX0_isOneTrueOf 108 = .ok (.iconst 2, 1) := by decide +kernel
theorem dX0_isOneTrueOf_109 : decode cX0_isOneTrueOf 109 = .ok (.irem, 1) := by decide +kernel
theorem dX0_isOneTrueOf_110 : decode cX0_isOneTrueOf 110 = .ok (.aload_n 0, 1) := by decide +kernel
theorem dX0_isOneTrueOf_111 : decode cX0_isOneTrueOf 111 = .ok (.getfield 15, 3) := by decide +kernel
theorem dX0_isOneTrueOf_114 : decode cX0_isOneTrueOf 114 = .ok (.iload_n 3, 1) := by decide +kernel
theorem dX0_isOneTrueOf_115 : decode cX0_isOneTrueOf 115 = .ok (.iaload, 1) := by decide +kernel
theorem dX0_isOneTrueOf_116 : decode cX0_isOneTrueOf 116 = .ok (.if_icmp .ne 7, 3) := by decide +kernel
theorem dX0_isOneTrueOf_119 : decode cX0_isOneTrueOf 119 = .ok (.iconst 1, 1) := by decide +kernel
theorem dX0_isOneTrueOf_120 : decode cX0_isOneTrueOf 120 = .ok (.goto 4, 3) := by decide +kernel
theorem dX0_isOneTrueOf_123 : decode cX0_isOneTrueOf 123 = .ok (.iconst 0, 1) := by decide +kernel
theorem dX0_isOneTrueOf_124 : decode cX0_isOneTrueOf 124 = .ok (.ireturn, 1) := by decide +kernel
theorem dX1_init_0 : decode cX1_init 0 = .ok (.aload_n 0, 1) := by decide +kernel
theorem dX1_init_1 : decode cX1_init 1 = .ok (.invokespecial 3, 3) := by decide +kernel
theorem dX1_init_4 : decode cX1_init 4 = .ok (.aload_n 0, 1) := by decide +kernel
theorem dX1_init_5 : decode cX1_init 5 = .ok (.bipush 15, 2) := by decide +kernel
theorem dX1_init_7 : decode cX1_init 7 = .ok (.anewarray 9, 3) := by decide +kernel
theorem dX1_init_10 : decode cX1_init 10 = .ok (.putfield 11, 3) := by decide +kernel
theorem dX1_init_13 : decode cX1_init 13 = .ok (.aload_n 0, 1) := by decide +kernel
theorem dX1_init_14 : decode cX1_init 14 = .ok (.iconst 0, 1) := by decide +kernel
theorem dX1_init_15 : decode cX1_init 15 = .ok (.putfield 17, 3) := by decide +kernel
theorem dX1_init_18 : decode cX1_init 18 = .ok (.aload_n 0, 1) := by decide +kernel
theorem dX1_init_19 : decode cX1_init 19 = .ok (.iconst 0, 1) := by decide +kernel
theorem dX1_init_20 : decode cX1_init 20 = .ok (.putfield 21, 3) := by decide +kernel
theorem dX1_init_23 : decode cX1_init 23 = .ok (.iconst 0, 1) := by decide +kernel
theorem dX1_init_24 : decode cX1_init 24 = .ok (.istore_n 1, 1) := by decide +kernel
theorem dX1_init_25 : decode cX1_init 25 = .ok (.iload_n 1, 1) := by decide +kernel
theorem dX1_init_26 : decode cX1_init 26 = .ok (.bipush 15, 2) := by decide +kernel
theorem dX1_init_28 : decode cX1_init 28 = .ok (.if_icmp .ge 22, 3) := by decide +kernel
theorem dX1_init_31 : decode cX1_init 31 = .ok (.aload_n 0, 1) := by decide +kernel
theorem dX1_init_32 : decode cX1_init 32 = .ok (.getfield 11, 3) := by decide +kernel
theorem dX1_init_35 : decode cX1_init 35 = .ok (.iload_n 1, 1) := by decide +kernel
theorem dX1_init_36 : decode cX1_init 36 = .ok (.new 9, 3) := by decide +kernel
theorem dX1_init_39 : decode cX1_init 39 = .ok (.dup, 1) := by decide +kernel
theorem dX1_init_40 : decode cX1_init 40 = .ok (.invokespecial 24, 3) := by decide +kernel
theorem dX1_init_43 : decode cX1_init 43 = .ok (.aastore, 1) := by decide +kernel
theorem dX1_init_44 : decode cX1_init 44 = .ok (.iinc 1 1, 3) := by decide +kernel
theorem dX1_init_47 : decode cX1_init 47 = .ok (.goto (-22), 3) := by decide +kernel
theorem dX1_init_50 : decode cX1_init 50 = .ok (.return_, 1) := by decide +kernel
theorem dX1_clear_0 : decode cX1_clear 0 = .ok (.aload_n 0, 1) := by decide +kernel
theorem dX1_clear_1 : decode cX1_clear 1 = .ok (.iconst 0, 1) := by decide +kernel
theorem dX1_clear_2 : decode cX1_clear 2 = .ok (.putfield 21, 3) := by decide +kernel
theorem dX1_clear_5 : decode cX1_clear 5 = .ok (.return_, 1) := by decide +kernel
theorem dX1_add_0 : decode cX1_add 0 = .ok (.aload_n 0, 1) := by decide +kernel
theorem dX1_add_1 : decode cX1_add 1 = .ok (.getfield 11, 3) := by decide +kernel
theorem dX1_add_4 : decode cX1_add 4 = .ok (.aload_n 0, 1) := by decide +kernel
theorem dX1_add_5 : decode cX1_add 5 = .ok (.getfield 17, 3) := by decide +kernel
theorem dX1_add_8 : decode cX1_add 8 = .ok (.aload_n 0, 1) := by decide +kernel
theorem dX1_add_9 : decode cX1_add 9 = .ok (.getfield 21, 3) := by decide +kernel
theorem dX1_add_12 : decode cX1_add 12 = .ok (.iadd, 1) := by decide +kernel
theorem dX1_add_13 : decode cX1_add 13 = .ok (.bipush 15, 2) := by decide +kernel
theorem dX1_add_15 : decode cX1_add 15 = .ok (.irem, 1) := by decide +kernel
theorem dX1_add_16 : decode cX1_add 16 = .ok (.aaload, 1) := by decide +kernel
theorem dX1_add_17 : decode cX1_add 17 = .ok (.aload_n 1, 1) := by decide +kernel
theorem dX1_add_18 : decode cX1_add 18 = .ok (.invokevirtual 25, 3) := by decide +kernel
theorem dX1_add_21 : decode cX1_add 21 = .ok (.aload_n 0, 1) := by decide +kernel
theorem dX1_add_22 : decode cX1_add 22 = .ok (.getfield 21, 3) := by decide +kernel
theorem dX1_add_25 : decode cX1_add 25 = .ok (.bipush 15, 2) := by decide +kernel
theorem dX1_add_27 : decode cX1_add 27 = .ok (.if_icmp .ge 16, 3) := by decide +kernel
theorem dX1_add_30 : decode cX1_add 30 = .ok (.aload_n 0, 1) := by decide +kernel
theorem dX1_add_31 : decode cX1_add 31 = .ok (.dup, 1) := by decide +kernel
theorem dX1_add_32 : decode cX1_add 32 = .ok (.getfield 21, 3) := by decide +kernel
theorem dX1_add_35 : decode cX1_add 35 = .ok (.iconst 1, 1) := by decide +kernel
theorem dX1_add_36 : decode cX1_add 36 = .ok (.iadd, 1) := by decide +kernel
theorem dX1_add_37 : decode cX1_add 37 = .ok (.putfield 21, 3) := by decide +kernel
theorem dX1_add_40 : decode cX1_add 40 = .ok (.goto 16, 3) := by decide +kernel
theorem dX1_add_43 : decode cX1_add 43 = .ok (.aload_n 0, 1) := by decide +kernel
theorem dX1_add_44 : decode cX1_add 44 = .ok (.aload_n 0, 1) := by decide +kernel
theorem dX1_add_45 : decode cX1_add 45 = .ok (.getfield 17, 3) := by decide +kernel
theorem dX1_add_48 : decode cX1_add 48 = .ok (.iconst 1, 1) := by decide +kernel
theorem dX1_add_49 : decode cX1_add 49 = .ok (.iadd, 1) := by decide +kernel
theorem dX1_add_50 : decode cX1_add 50 = .ok (.bipush 15, 2) := by decide +kernel
theorem dX1_add_52 : decode cX1_add 52 = .ok (.irem, 1) := by decide +kernel
theorem dX1_add_53 : decode cX1_add 53 = .ok (.putfield 17, 3) := by decide +kernel
theorem dX1_add_56 : decode cX1_add 56 = .ok (.return_, 1) := by decide +kernel
theorem dX1_takeBack_0 : decode cX1_takeBack 0 = .ok (.aload_n 0, 1) := by decide +kernel
theorem dX1_takeBack_1 : decode cX1_takeBack 1 = .ok (.getfield 21, 3) := by decide +kernel
theorem dX1_takeBack_4 : decode cX1_takeBack 4 = .ok (.ifCond .ne 5, 3) := by decide +kernel
theorem dX1_takeBack_7 : decode cX1_takeBack 7 = .ok (.iconst 0, 1) := by decide +kernel
theorem dX1_takeBack_8 : decode cX1_takeBack 8 = .ok (.ireturn, 1) := by decide +kernel
theorem dX1_takeBack_9 : decode cX1_takeBack 9 = .ok (.aload_n 0, 1) := by decide +kernel
theorem dX1_takeBack_10 : decode cX1_takeBack 10 = .ok (.dup, 1) := by decide +kernel
theorem dX1_takeBack_11 : decode cX1_takeBack 11 = .ok (.getfield 21, 3) := by decide +kernel
theorem dX1_takeBack_14 : decode cX1_takeBack 14 = .ok (.iconst 1, 1) := by decide +kernel
theorem dX1_takeBack_15 : decode cX1_takeBack 15 = .ok (.isub, 1) := by decide +kernel
theorem dX1_takeBack_16 : decode cX1_takeBack 16 = .ok (.putfield 21, 3) := by decide +kernel
theorem dX1_takeBack_19 : decode cX1_takeBack 19 = .ok (.aload_n 1, 1) := by decide +kernel
theorem dX1_takeBack_20 : decode cX1_takeBack 20 = .ok (.aload_n 0, 1) := by decide +kernel
theorem dX1_takeBack_21 : decode cX1_takeBack 21 = .ok (.getfield 11, 3) := by decide +kernel
theorem dX1_takeBack_24 : decode cX1_takeBack 24 = .ok (.aload_n 0, 1) := by decide +kernel
theorem dX1_takeBack_25 : decode cX1_takeBack 25 = .ok (.getfield 17, 3) := by decide +kernel
theorem dX1_takeBack_28 : decode cX1_takeBack 28 = .ok (.aload_n 0, 1) := by decide +kernel
theorem dX1_takeBack_29 : decode cX1_takeBack 29 = .ok (.getfield 21, 3) := by decide +kernel
theorem dX1_takeBack_32 : decode cX1_takeBack 32 = .ok (.iadd, 1) := by decide +kernel
theorem dX1_takeBack_33 : decode cX1_takeBack 33 = .ok (.bipush 15, 2) := by decide +kernel
theorem dX1_takeBack_35 : decode cX1_takeBack 35 = .ok (.irem, 1) := by decide +kernel
theorem dX1_takeBack_36 : decode cX1_takeBack 36 = .ok (.aaload, 1) := by decide +kernel
theorem dX1_takeBack_37 : decode cX1_takeBack 37 = .ok (.invokevirtual 25, 3) := by decide +kernel
theorem dX1_takeBack_40 : decode cX1_takeBack 40 = .ok (.iconst 1, 1) := by decide +kernel
theorem dX1_takeBack_41 : decode cX1_takeBack 41 = .ok (.ireturn, 1) := by decide +kernel
theorem dX2_init_0 : decode cX2_init 0 = .ok (.aload_n 0, 1) := by decide +kernel
theorem dX2_init_1 : decode cX2_init 1 = .ok (.invokespecial 3, 3) := by decide +kernel
theorem dX2_init_4 : decode cX2_init 4 = .ok (.aload_n 0, 1) := by decide +kernel
theorem dX2_init_5 : decode cX2_init 5 = .ok (.bipush 40, 2) := by decide +kernel
theorem dX2_init_7 : decode cX2_init 7 = .ok (.newarray .int, 2) := by decide +kernel
theorem dX2_init_9 : decode cX2_init 9 = .ok (.putfield 9, 3) := by decide +kernel
theorem dX2_init_12 : decode cX2_init 12 = .ok (.aload_n 0, 1) := by decide +kernel
theorem dX2_init_13 : decode cX2_init 13 = .ok (.bipush 40, 2) := by decide +kernel
theorem dX2_init_15 : decode cX2_init 15 = .ok (.newarray .int, 2) := by decide +kernel
theorem dX2_init_17 : decode cX2_init 17 = .ok (.putfield 15, 3) := by decide +kernel
theorem dX2_init_20 : decode cX2_init 20 = .ok (.aload_n 0, 1) := by decide +kernel
theorem dX2_init_21 : decode cX2_init 21 = .ok (.bipush 40, 2) := by decide +kernel
theorem dX2_init_23 : decode cX2_init 23 = .ok (.newarray .int, 2) := by decide +kernel
theorem dX2_init_25 : decode cX2_init 25 = .ok (.putfield 18, 3) := by decide +kernel
theorem dX2_init_28 : decode cX2_init 28 = .ok (.aload_n 0, 1) := by decide +kernel
theorem dX2_init_29 : decode cX2_init 29 = .ok (.bipush 7, 2) := by decide +kernel
theorem dX2_init_31 : decode cX2_init 31 = .ok (.newarray .int, 2) := by decide +kernel
theorem dX2_init_33 : decode cX2_init 33 = .ok (.putfield 21, 3) := by decide +kernel
theorem dX2_init_36 : decode cX2_init 36 = .ok (.aload_n 0, 1) := by decide +kernel
theorem dX2_init_37 : decode cX2_init 37 = .ok (.iconst 0, 1) := by decide +kernel
theorem dX2_init_38 : decode cX2_init 38 = .ok (.putfield 24, 3) := by decide +kernel
theorem dX2_init_41 : decode cX2_init 41 = .ok (.aload_n 0, 1) := by decide +kernel
theorem dX2_init_42 : decode cX2_init 42 = .ok (.iconst 0, 1) := by decide +kernel
theorem dX2_init_43 : decode cX2_init 43 = .ok (.putfield 28, 3) := by decide +kernel
theorem dX2_init_46 : decode cX2_init 46 = .ok (.return_, 1) := by decide +kernel
theorem dX2_becomePlain_0 : decode cX2_becomePlain 0 = .ok (.aload_n 0, 1) := by decide +kernel
theorem dX2_becomePlain_1 : decode cX2_becomePlain 1 = .ok (.invokevirtual 31, 3) := by decide +kernel
theorem dX2_becomePlain_4 : decode cX2_becomePlain 4 = .ok (.aload_n 0, 1) := by decide +kernel
theorem dX2_becomePlain_5 : decode cX2_becomePlain 5 = .ok (.sipush 300, 3) := by decide +kernel
theorem dX2_becomePlain_8 : decode cX2_becomePlain 8 = .ok (.iconst 1, 1) := by decide +kernel
theorem dX2_becomePlain_9 : decode cX2_becomePlain 9 = .ok (.invokevirtual 34, 3) := by decide +kernel
theorem dX2_becomePlain_12 : decode cX2_becomePlain 12 = .ok (.aload_n 0, 1) := by decide +kernel
theorem dX2_becomePlain_13 : decode cX2_becomePlain 13 = .ok (.iconst 1, 1) := by decide +kernel
theorem dX2_becomePlain_14 : decode cX2_becomePlain 14 = .ok (.invokevirtual 38, 3) := by decide +kernel
theorem dX2_becomePlain_17 : decode cX2_becomePlain 17 = .ok (.aload_n 0, 1) := by decide +kernel
theorem dX2_becomePlain_18 : decode cX2_becomePlain 18 = .ok (.sipush 300, 3) := by decide +kernel
theorem dX2_becomePlain_21 : decode cX2_becomePlain 21 = .ok (.iconst 2, 1) := by decide +kernel
theorem dX2_becomePlain_22 : decode cX2_becomePlain 22 = .ok (.invokevirtual 34, 3) := by decide +kernel
theorem dX2_becomePlain_25 : decode cX2_becomePlain 25 = .ok (.aload_n 0, 1) := by decide +kernel
theorem dX2_becomePlain_26 : decode cX2_becomePlain 26 = .ok (.bipush 62, 2) := by decide +kernel
theorem dX2_becomePlain_28 : decode cX2_becomePlain 28 = .ok (.iconst 0, 1) := by decide +kernel
theorem dX2_becomePlain_29 : decode cX2_becomePlain 29 = .ok (.invokevirtual 34, 3) := by decide +kernel
theorem dX2_becomePlain_32 : decode cX2_becomePlain 32 = .ok (.aload_n 0, 1) := by decide +kernel
theorem dX2_becomePlain_33 : decode cX2_becomePlain 33 = .ok (.bipush 43, 2) := by decide +kernel
theorem dX2_becomePlain_35 : decode cX2_becomePlain 35 = .ok (.iconst 0, 1) := by decide +kernel
theorem dX2_becomePlain_36 : decode cX2_becomePlain 36 = .ok (.invokevirtual 34, 3) := by decide +kernel
theorem dX2_becomePlain_39 : decode cX2_becomePlain 39 = .ok (.return_, 1) := by decide +kernel
theorem dX2_clear_0 : decode cX2_clear 0 = .ok (.aload_n 0, 1) := by decide +kernel
theorem dX2_clear_1 : decode cX2_clear 1 = .ok (.iconst 0, 1) := by decide +kernel
theorem dX2_clear_2 : decode cX2_clear 2 = .ok (.putfield 24, 3) := by decide +kernel
theorem dX2_clear_5 : decode cX2_clear 5 = .ok (.aload_n 0, 1) := by decide +kernel
theorem dX2_clear_6 : decode cX2_clear 6 = .ok (.iconst 0, 1) := by decide +kernel
theorem dX2_clear_7 : decode cX2_clear 7 = .ok (.putfield 28, 3) := by decide +kernel
theorem dX2_clear_10 : decode cX2_clear 10 = .ok (.return_, 1) := by decide +kernel
theorem dX2_add_0 : decode cX2_add 0 = .ok (.aload_n 0, 1) := by decide +kernel
theorem dX2_add_1 : decode cX2_add 1 = .ok (.getfield 24, 3) := by decide +kernel
theorem dX2_add_4 : decode cX2_add 4 = .ok (.bipush 40, 2) := by decide +kernel
theorem dX2_add_6 : decode cX2_add 6 = .ok (.if_icmp .ge 33, 3) := by decide +kernel
theorem dX2_add_9 : decode cX2_add 9 = .ok (.aload_n 0, 1) := by decide +kernel
theorem dX2_add_10 : decode cX2_add 10 = .ok (.getfield 9, 3) := by decide +kernel
theorem dX2_add_13 : decode cX2_add 13 = .ok (.aload_n 0, 1) := by decide +kernel
theorem dX2_add_14 : decode cX2_add 14 = .ok (.getfield 24, 3) := by decide +kernel
theorem dX2_add_17 : decode cX2_add 17 = .ok (.iload_n 1, 1) := by decide +kernel
theorem dX2_add_18 : decode cX2_add 18 = .ok (.iastore, 1) := by decide +kernel
theorem dX2_add_19 : decode cX2_add 19 = .ok (.aload_n 0, 1) := by decide +kernel
theorem dX2_add_20 : decode cX2_add 20 = .ok (.getfield 15, 3) := by decide +kernel
theorem dX2_add_23 : decode cX2_add 23 = .ok (.aload_n 0, 1) := by decide +kernel
theorem dX2_add_24 : decode cX2_add 24 = .ok (.getfield 24, 3) := by decide +kernel
theorem dX2_add_27 : decode cX2_add 27 = .ok (.iload_n 2, 1) := by decide +kernel
theorem dX2_add_28 : decode cX2_add 28 = .ok (.iastore, 1) := by decide +kernel
theorem dX2_add_29 : decode cX2_add 29 = .ok (.aload_n 0, 1) := by decide +kernel
theorem dX2_add_30 : decode cX2_add 30 = .ok (.dup, 1) := by decide +kernel
theorem dX2_add_31 : decode cX2_add 31 = .ok (.getfield 24, 3) := by decide +kernel
theorem dX2_add_34 : decode cX2_add 34 = .ok (.iconst 1, 1) := by decide +kernel
theorem dX2_add_35 : decode cX2_add 35 = .ok (.iadd, 1) := by decide +kernel
theorem dX2_add_36 : decode cX2_add 36 = .ok (.putfield 24, 3) := by decide +kernel
theorem dX2_add_39 : decode cX2_add 39 = .ok (.return_, 1) := by decide +kernel
theorem dX2_addLetter_0 : decode cX2_addLetter 0 = .ok (.aload_n 0, 1) := by decide +kernel
theorem dX2_addLetter_1 : decode cX2_addLetter 1 = .ok (.sipush 301, 3) := by decide +kernel
theorem dX2_addLetter_4 : decode cX2_addLetter 4 = .ok (.iload_n 1, 1) := by decide +kernel
theorem dX2_addLetter_5 : decode cX2_addLetter 5 = .ok (.invokevirtual 34, 3) := by decide +kernel
theorem dX2_addLetter_8 : decode cX2_addLetter 8 = .ok (.aload_n 0, 1) := by decide +kernel
theorem dX2_addLetter_9 : decode cX2_addLetter 9 = .ok (.dup, 1) := by decide +kernel
theorem dX2_addLetter_10 : decode cX2_addLetter 10 = .ok (.getfield 28, 3) := by decide +kernel
theorem dX2_addLetter_13 : decode cX2_addLetter 13 = .ok (.iconst 1, 1) := by decide +kernel
theorem dX2_addLetter_14 : decode cX2_addLetter 14 = .ok (.iload_n 1, 1) := by decide +kernel
theorem dX2_addLetter_15 : decode cX2_addLetter 15 = .ok (.ishl, 1) := by decide +kernel
theorem dX2_addLetter_16 : decode cX2_addLetter 16 = .ok (.ior, 1) := by decide +kernel
theorem dX2_addLetter_17 : decode cX2_addLetter 17 = .ok (.putfield 28, 3) := by decide +kernel
theorem dX2_addLetter_20 : decode cX2_addLetter 20 = .ok (.return_, 1) := by decide +kernel
theorem dX2_uses_0 : decode cX2_uses 0 = .ok (.aload_n 0, 1) := by decide +kernel
theorem dX2_uses_1 : decode cX2_uses 1 = .ok (.getfield 28, 3) := by decide +kernel
theorem dX2_uses_4 : decode cX2_uses 4 = .ok (.iload_n 1, 1) := by decide +kernel
theorem dX2_uses_5 : decode cX2_uses 5 = .ok (.ishr, 1) := by decide +kernel
theorem dX2_uses_6 : decode cX2_uses 6 = .ok (.iconst 1, 1) := by decide +kernel
theorem dX2_uses_7 : decode cX2_uses 7 = .ok (.iand, 1) := by decide +kernel
theorem dX2_uses_8 : decode cX2_uses 8 = .ok (.iconst 1, 1) := by decide +kernel
theorem dX2_uses_9 : decode cX2_uses 9 = .ok (.if_icmp .ne 7, 3) := by decide +kernel
theorem dX2_uses_12 : decode cX2_uses 12 = .ok (.iconst 1, 1) := by decide +kernel
theorem dX2_uses_13 : decode cX2_uses 13 = .ok (.goto 4, 3) := by decide +kernel
theorem dX2_uses_16 : decode cX2_uses 16 = .ok (.iconst 0, 1) := by decide +kernel
theorem dX2_uses_17 : decode cX2_uses 17 = .ok (.ireturn, 1) := by decide +kernel
theorem dX2_period_0 : decode cX2_period 0 = .ok (.aload_n 0, 1) := by decide +kernel
theorem dX2_period_1 : decode cX2_period 1 = .ok (.iconst 4, 1) := by decide +kernel
theorem dX2_period_2 : decode cX2_period 2 = .ok (.invokevirtual 42, 3) := by decide +kernel
theorem dX2_period_5 : decode cX2_period 5 = .ok (.ifCond .eq 8, 3) := by decide +kernel
theorem dX2_period_8 : decode cX2_period 8 = .ok (.bipush 10, 2) := by decide +kernel
theorem dX2_period_10 : decode cX2_period 10 = .ok (.goto 4, 3) := by decide +kernel
theorem dX2_period_13 : decode cX2_period 13 = .ok (.iconst 1, 1) := by decide +kernel
theorem dX2_period_14 : decode cX2_period 14 = .ok (.aload_n 0, 1) := by decide +kernel
theorem dX2_period_15 : decode cX2_period 15 = .ok (.iconst 3, 1) := by decide +kernel
theorem dX2_period_16 : decode cX2_period 16 = .ok (.invokevirtual 42, 3) := by decide +kernel
theorem dX2_period_19 : decode cX2_period 19 = .ok (.ifCond .eq 10, 3) := by decide +kernel
theorem dX2_period_22 : decode cX2_period 22 = .ok (.aload_n 1, 1) := by decide +kernel
theorem dX2_period_23 : decode cX2_period 23 = .ok (.getfield 46, 3) := by decide +kernel
theorem dX2_period_26 : decode cX2_period 26 = .ok (.goto 4, 3) := by decide +kernel
theorem dX2_period_29 : decode cX2_period 29 = .ok (.iconst 1, 1) := by decide +kernel
theorem dX2_period_30 : decode cX2_period 30 = .ok (.imul, 1) := by decide +kernel
theorem dX2_period_31 : decode cX2_period 31 = .ok (.ireturn, 1) := by decide +kernel
theorem dX2_observe_0 : decode cX2_observe 0 = .ok (.aload_n 0, 1) := by decide +kernel
theorem dX2_observe_1 : decode cX2_observe 1 = .ok (.getfield 21, 3) := by decide +kernel
theorem dX2_observe_4 : decode cX2_observe 4 = .ok (.iconst 0, 1) := by decide +kernel
theorem dX2_observe_5 : decode cX2_observe 5 = .ok (.aload_n 1, 1) := by decide +kernel
theorem dX2_observe_6 : decode cX2_observe 6 = .ok (.getfield 51, 3) := by decide +kernel
theorem dX2_observe_9 : decode cX2_observe 9 = .ok (.iload_n 3, 1) := by decide +kernel
theorem dX2_observe_10 : decode cX2_observe 10 = .ok (.iaload, 1) := by decide +kernel
theorem dX2_observe_11 : decode cX2_observe 11 = .ok (.iastore, 1) := by decide +kernel
theorem dX2_observe_12 : decode cX2_observe 12 = .ok (.aload_n 0, 1) := by decide +kernel
theorem dX2_observe_13 : decode cX2_observe 13 = .ok (.getfield 21, 3) := by decide +kernel
theorem dX2_observe_16 : decode cX2_observe 16 = .ok (.iconst 1, 1) := by decide +kernel
theorem dX2_observe_17 : decode cX2_observe 17 = .ok (.aload_n 0, 1) := by decide +kernel
theorem dX2_observe_18 : decode cX2_observe 18 = .ok (.iconst 1, 1) := by decide +kernel
theorem dX2_observe_19 : decode cX2_observe 19 = .ok (.invokevirtual 42, 3) := by decide +kernel
theorem dX2_observe_22 : decode cX2_observe 22 = .ok (.ifCond .eq 15, 3) := by decide +kernel
theorem dX2_observe_25 : decode cX2_observe 25 = .ok (.aload_n 1, 1) := by decide +kernel
theorem dX2_observe_26 : decode cX2_observe 26 = .ok (.iload_n 3, 1) := by decide +kernel
theorem dX2_observe_27 : decode cX2_observe 27 = .ok (.aload_n 2, 1) := by decide +kernel
theorem dX2_observe_28 : decode cX2_observe 28 = .ok (.invokevirtual 56, 3) := by decide +kernel
theorem dX2_observe_31 : decode cX2_observe 31 = .ok (.invokevirtual 60, 3) := by decide +kernel
theorem dX2_observe_34 : decode cX2_observe 34 = .ok (.goto 4, 3) := by decide +kernel
theorem dX2_observe_37 : decode cX2_observe 37 = .ok (.iconst 0, 1) := by decide +kernel
theorem dX2_observe_38 : decode cX2_observe 38 = .ok (.iastore, 1) := by decide +kernel
theorem dX2_observe_39 : decode cX2_observe 39 = .ok (.aload_n 0, 1) := by decide +kernel
theorem dX2_observe_40 : decode cX2_observe 40 = .ok (.getfield 21, 3) := by decide +kernel
theorem dX2_observe_43 : decode cX2_observe 43 = .ok (.iconst 2, 1) := by decide +kernel
theorem dX2_observe_44 : decode cX2_observe 44 = .ok (.aload_n 2, 1) := by decide +kernel
theorem dX2_observe_45 : decode cX2_observe 45 = .ok (.aload_n 1, 1) := by decide +kernel
theorem dX2_observe_46 : decode cX2_observe 46 = .ok (.getfield 51, 3) := by decide +kernel
theorem dX2_observe_49 : decode cX2_observe 49 = .ok (.iload_n 3, 1) := by decide +kernel
theorem dX2_observe_50 : decode cX2_observe 50 = .ok (.iaload, 1) := by decide +kernel
theorem dX2_observe_51 : decode cX2_observe 51 = .ok (.invokevirtual 64, 3) := by decide +kernel
theorem dX2_observe_54 : decode cX2_observe 54 = .ok (.ifCond .eq 7, 3) := by decide +kernel
theorem dX2_observe_57 : decode cX2_observe 57 = .ok (.iconst 1, 1) := by decide +kernel
theorem dX2_observe_58 : decode cX2_observe 58 = .ok (.goto 4, 3) := by decide +kernel
theorem dX2_observe_61 : decode cX2_observe 61 = .ok (.iconst 0, 1) := by decide +kernel
theorem dX2_observe_62 : decode cX2_observe 62 = .ok (.iastore, 1) := by decide +kernel
theorem dX2_observe_63 : decode cX2_observe 63 = .ok (.aload_n 0, 1) := by decide +kernel
theorem dX2_observe_64 : decode cX2_observe 64 = .ok (.getfield 21, 3) := by decide +kernel
theorem dX2_observe_67 : decode cX2_observe 67 = .ok (.iconst 3, 1) := by decide +kernel
theorem dX2_observe_68 : decode cX2_observe 68 = .ok (.aload_n 2, 1) := by decide +kernel
theorem dX2_observe_69 : decode cX2_observe 69 = .ok (.aload_n 1, 1) := by decide +kernel
theorem dX2_observe_70 : decode cX2_observe 70 = .ok (.getfield 67, 3) := by decide +kernel
theorem dX2_observe_73 : decode cX2_observe 73 = .ok (.invokevirtual 70, 3) := by decide +kernel
theorem dX2_observe_76 : decode cX2_observe 76 = .ok (.iastore, 1) := by decide +kernel
theorem dX2_observe_77 : decode cX2_observe 77 = .ok (.aload_n 0, 1) := by decide +kernel
theorem dX2_observe_78 : decode cX2_observe 78 = .ok (.getfield 21, 3) := by decide +kernel
theorem dX2_observe_81 : decode cX2_observe 81 = .ok (.iconst 4, 1) := by decide +kernel
theorem dX2_observe_82 : decode cX2_observe 82 = .ok (.aload_n 1, 1) := by decide +kernel
theorem dX2_observe_83 : decode cX2_observe 83 = .ok (.getfield 67, 3) := by decide +kernel
theorem dX2_observe_86 : decode cX2_observe 86 = .ok (.bipush 10, 2) := by decide +kernel
theorem dX2_observe_88 : decode cX2_observe 88 = .ok (.irem, 1) := by decide +kernel
theorem dX2_observe_89 : decode cX2_observe 89 = .ok (.iastore, 1) := by decide +kernel
theorem dX2_observe_90 : decode cX2_observe 90 = .ok (.aload_n 0, 1) := by decide +kernel
theorem dX2_observe_91 : decode cX2_observe 91 = .ok (.getfield 21, 3) := by decide +kernel
theorem dX2_observe_94 : decode cX2_observe 94 = .ok (.iconst 5, 1) := by decide +kernel
theorem dX2_observe_95 : decode cX2_observe 95 = .ok (.iload_n 3, 1) := by decide +kernel
theorem dX2_observe_96 : decode cX2_observe 96 = .ok (.iastore, 1) := by decide +kernel
theorem dX2_observe_97 : decode cX2_observe 97 = .ok (.aload_n 0, 1) := by decide +kernel
theorem dX2_observe_98 : decode cX2_observe 98 = .ok (.getfield 21, 3) := by decide +kernel
theorem dX2_observe_101 : decode cX2_observe 101 = .ok (.bipush 6, 2) := by decide +kernel
theorem dX2_observe_103 : decode cX2_observe 103 = .ok (.aload_n 0, 1) := by decide +kernel
theorem dX2_observe_104 : decode cX2_observe 104 = .ok (.bipush 6, 2) := by decide +kernel
theorem dX2_observe_106 : decode cX2_observe 106 = .ok (.invokevirtual 42, 3) := by decide +kernel
theorem dX2_observe_109 : decode cX2_observe 109 = .ok (.ifCond .eq 18, 3) := by decide +kernel
theorem dX2_observe_112 : decode cX2_observe 112 = .ok (.aload_n 1, 1) := by decide +kernel
theorem dX2_observe_113 : decode cX2_observe 113 = .ok (.aload_n 1, 1) := by decide +kernel
theorem dX2_observe_114 : decode cX2_observe 114 = .ok (.getfield 74, 3) := by decide +kernel
theorem dX2_observe_117 : decode cX2_observe 117 = .ok (.iload_n 3, 1) := by decide +kernel
theorem dX2_observe_118 : decode cX2_observe 118 = .ok (.invokevirtual 77, 3) := by decide +kernel
theorem dX2_observe_121 : decode cX2_observe 121 = .ok (.invokestatic 81, 3) := by decide +kernel
theorem dX2_observe_124 : decode cX2_observe 124 = .ok (.goto 4, 3) := by decide +kernel
theorem dX2_observe_127 : decode cX2_observe 127 = .ok (.iconst 0, 1) := by decide +kernel
theorem dX2_observe_128 : decode cX2_observe 128 = .ok (.iastore, 1) := by decide +kernel
theorem dX2_observe_129 : decode cX2_observe 129 = .ok (.return_, 1) := by decide +kernel
theorem dX2_pace_0 : decode cX2_pace 0 = .ok (.iconst 0, 1) := by decide +kernel
theorem dX2_pace_1 : decode cX2_pace 1 = .ok (.istore_n 1, 1) := by decide +kernel
theorem dX2_pace_2 : decode cX2_pace 2 = .ok (.iconst 0, 1) := by decide +kernel
theorem dX2_pace_3 : decode cX2_pace 3 = .ok (.istore_n 2, 1) := by decide +kernel
theorem dX2_pace_4 : decode cX2_pace 4 = .ok (.iload_n 2, 1) := by decide +kernel
theorem dX2_pace_5 : decode cX2_pace 5 = .ok (.aload_n 0, 1) := by decide +kernel
theorem dX2_pace_6 : decode cX2_pace 6 = .ok (.getfield 24, 3) := by decide +kernel
theorem dX2_pace_9 : decode cX2_pace 9 = .ok (.if_icmp .ge 136, 3) := by decide +kernel
theorem dX2_pace_12 : decode cX2_pace 12 = .ok (.aload_n 0, 1) := by decide +kernel
theorem dX2_pace_13 : decode cX2_pace 13 = .ok (.getfield 9, 3) := by decide +kernel
theorem dX2_pace_16 : decode cX2_pace 16 = .ok (.iload_n 2, 1) := by decide +kernel
theorem dX2_pace_17 : decode cX2_pace 17 = .ok (.iaload, 1) := by decide +kernel
theorem dX2_pace_18 : decode cX2_pace 18 = .ok (.istore_n 3, 1) := by decide +kernel
theorem dX2_pace_19 : decode cX2_pace 19 = .ok (.iload_n 3, 1) := by decide +kernel
theorem dX2_pace_20 : decode cX2_pace 20 = .ok (.sipush 300, 3) := by decide +kernel
theorem dX2_pace_23 : decode cX2_pace 23 = .ok (.if_icmp .ne 21, 3) := by decide +kernel
theorem dX2_pace_26 : decode cX2_pace 26 = .ok (.aload_n 0, 1) := by decide +kernel
theorem dX2_pace_27 : decode cX2_pace 27 = .ok (.getfield 18, 3) := by decide +kernel
theorem dX2_pace_30 : decode cX2_pace 30 = .ok (.iload_n 1, 1) := by decide +kernel
theorem dX2_pace_31 : decode cX2_pace 31 = .ok (.aload_n 0, 1) := by decide +kernel
theorem dX2_pace_32 : decode cX2_pace 32 = .ok (.getfield 15, 3) := by decide +kernel
theorem dX2_pace_35 : decode cX2_pace 35 = .ok (.iload_n 2, 1) := by decide +kernel
theorem dX2_pace_36 : decode cX2_pace 36 = .ok (.iaload, 1) := by decide +kernel
theorem dX2_pace_37 : decode cX2_pace 37 = .ok (.iastore, 1) := by decide +kernel
theorem dX2_pace_38 : decode cX2_pace 38 = .ok (.iinc 1 1, 3) := by decide +kernel
theorem dX2_pace_41 : decode cX2_pace 41 = .ok (.goto 98, 3) := by decide +kernel
theorem dX2_pace_44 : decode cX2_pace 44 = .ok (.iload_n 3, 1) := by decide +kernel
theorem dX2_pace_45 : decode cX2_pace 45 = .ok (.sipush 301, 3) := by decide +kernel
theorem dX2_pace_48 : decode cX2_pace 48 = .ok (.if_icmp .ne 26, 3) := by decide +kernel
theorem dX2_pace_51 : decode cX2_pace 51 = .ok (.aload_n 0, 1) := by decide +kernel
theorem dX2_pace_52 : decode cX2_pace 52 = .ok (.getfield 18, 3) := by decide +kernel
theorem dX2_pace_55 : decode cX2_pace 55 = .ok (.iload_n 1, 1) := by decide +kernel
theorem dX2_pace_56 : decode cX2_pace 56 = .ok (.aload_n 0, 1) := by decide +kernel
theorem dX2_pace_57 : decode cX2_pace 57 = .ok (.getfield 21, 3) := by decide +kernel
theorem dX2_pace_60 : decode cX2_pace 60 = .ok (.aload_n 0, 1) := by decide +kernel
theorem dX2_pace_61 : decode cX2_pace 61 = .ok (.getfield 15, 3) := by decide +kernel
theorem dX2_pace_64 : decode cX2_pace 64 = .ok (.iload_n 2, 1) := by decide +kernel
theorem dX2_pace_65 : decode cX2_pace 65 = .ok (.iaload, 1) := by decide +kernel
theorem dX2_pace_66 : decode cX2_pace 66 = .ok (.iaload, 1) := by decide +kernel
theorem dX2_pace_67 : decode cX2_pace 67 = .ok (.iastore, 1) := by decide +kernel
theorem dX2_pace_68 : decode cX2_pace 68 = .ok (.iinc 1 1, 3) := by decide +kernel
theorem dX2_pace_71 : decode cX2_pace 71 = .ok (.goto 68, 3) := by decide +kernel
theorem dX2_pace_74 : decode cX2_pace 74 = .ok (.iload_n 3, 1) := by decide +kernel
theorem dX2_pace_75 : decode cX2_pace 75 = .ok (.sipush 302, 3) := by decide +kernel
theorem dX2_pace_78 : decode cX2_pace 78 = .ok (.if_icmp .ne 27, 3) := by decide +kernel
theorem dX2_pace_81 : decode cX2_pace 81 = .ok (.iload_n 1, 1) := by decide +kernel
theorem dX2_pace_82 : decode cX2_pace 82 = .ok (.ifCond .le 23, 3) := by decide +kernel
theorem dX2_pace_85 : decode cX2_pace 85 = .ok (.aload_n 0, 1) := by decide +kernel
theorem dX2_pace_86 : decode cX2_pace 86 = .ok (.getfield 18, 3) := by decide +kernel
theorem dX2_pace_89 : decode cX2_pace 89 = .ok (.iload_n 1, 1) := by decide +kernel
theorem dX2_pace_90 : decode cX2_pace 90 = .ok (.iconst 1, 1) := by decide +kernel
theorem dX2_pace_91 : decode cX2_pace 91 = .ok (.isub, 1) := by decide +kernel
theorem dX2_pace_92 : decode cX2_pace 92 = .ok (.aload_n 0, 1) := by decide +kernel
theorem dX2_pace_93 : decode cX2_pace 93 = .ok (.getfield 18, 3) := by decide +kernel
theorem dX2_pace_96 : decode cX2_pace 96 = .ok (.iload_n 1, 1) := by decide +kernel
theorem dX2_pace_97 : decode cX2_pace 97 = .ok (.iconst 1, 1) := by decide +kernel
theorem dX2_pace_98 : decode cX2_pace 98 = .ok (.isub, 1) := by decide +kernel
theorem dX2_pace_99 : decode cX2_pace 99 = .ok (.iaload, 1) := by decide +kernel
theorem dX2_pace_100 : decode cX2_pace 100 = .ok (.ineg, 1) := by decide +kernel
theorem dX2_pace_101 : decode cX2_pace 101 = .ok (.iastore, 1) := by decide +kernel
theorem dX2_pace_102 : decode cX2_pace 102 = .ok (.goto 37, 3) := by decide +kernel
theorem dX2_pace_105 : decode cX2_pace 105 = .ok (.iload_n 1, 1) := by decide +kernel
theorem dX2_pace_106 : decode cX2_pace 106 = .ok (.iconst 1, 1) := by decide +kernel
theorem dX2_pace_107 : decode cX2_pace 107 = .ok (.if_icmp .le 32, 3) := by decide +kernel
theorem dX2_pace_110 : decode cX2_pace 110 = .ok (.iinc 1 (-1), 3) := by decide +kernel
theorem dX2_pace_113 : decode cX2_pace 113 = .ok (.aload_n 0, 1) := by decide +kernel
theorem dX2_pace_114 : decode cX2_pace 114 = .ok (.getfield 18, 3) := by decide +kernel
theorem dX2_pace_117 : decode cX2_pace 117 = .ok (.iload_n 1, 1) := by decide +kernel
theorem dX2_pace_118 : decode cX2_pace 118 = .ok (.iconst 1, 1) := by decide +kernel
theorem dX2_pace_119 : decode cX2_pace 119 = .ok (.isub, 1) := by decide +kernel
theorem dX2_pace_120 : decode cX2_pace 120 = .ok (.iload_n 3, 1) := by decide +kernel
theorem dX2_pace_121 : decode cX2_pace 121 = .ok (.aload_n 0, 1) := by decide +kernel
theorem dX2_pace_122 : decode cX2_pace 122 = .ok (.getfield 18, 3) := by decide +kernel
theorem dX2_pace_125 : decode cX2_pace 125 = .ok (.iload_n 1, 1) := by decide +kernel
theorem dX2_pace_126 : decode cX2_pace 126 = .ok (.iconst 1, 1) := by decide +kernel
theorem dX2_pace_127 : decode cX2_pace 127 = .ok (.isub, 1) := by decide +kernel
theorem dX2_pace_128 : decode cX2_pace 128 = .ok (.iaload, 1) := by decide +kernel
theorem dX2_pace_129 : decode cX2_pace 129 = .ok (.aload_n 0, 1) := by decide +kernel
theorem dX2_pace_130 : decode cX2_pace 130 = .ok (.getfield 18, 3) := by decide +kernel
theorem dX2_pace_133 : decode cX2_pace 133 = .ok (.iload_n 1, 1) := by decide +kernel
theorem dX2_pace_134 : decode cX2_pace 134 = .ok (.iaload, 1) := by decide +kernel
theorem dX2_pace_135 : decode cX2_pace 135 = .ok (.invokestatic 86, 3) := by decide +kernel
theorem dX2_pace_138 : decode cX2_pace 138 = .ok (.iastore, 1) := by decide +kernel
theorem dX2_pace_139 : decode cX2_pace 139 = .ok (.iinc 2 1, 3) := by decide +kernel
theorem dX2_pace_142 : decode cX2_pace 142 = .ok (.goto (-138), 3) := by decide +kernel
theorem dX2_pace_145 : decode cX2_pace 145 = .ok (.iconst 0, 1) := by decide +kernel
theorem dX2_pace_146 : decode cX2_pace 146 = .ok (.aload_n 0, 1) := by decide +kernel
theorem dX2_pace_147 : decode cX2_pace 147 = .ok (.getfield 18, 3) := by decide +kernel
theorem dX2_pace_150 : decode cX2_pace 150 = .ok (.iconst 0, 1) := by decide +kernel
theorem dX2_pace_151 : decode cX2_pace 151 = .ok (.iaload, 1) := by decide +kernel
theorem dX2_pace_152 : decode cX2_pace 152 = .ok (.iconst 3, 1) := by decide +kernel
theorem dX2_pace_153 : decode cX2_pace 153 = .ok (.invokestatic 90, 3) := by decide +kernel
theorem dX2_pace_156 : decode cX2_pace 156 = .ok (.invokestatic 95, 3) := by decide +kernel
theorem dX2_pace_159 : decode cX2_pace 159 = .ok (.ireturn, 1) := by decide +kernel
theorem dX2_join_0 : decode cX2_join 0 = .ok (.iload_n 0, 1) := by decide +kernel
theorem dX2_join_1 : decode cX2_join 1 = .ok (.lookupswitch 105 #[(42, 67), (43, 59), (45, 63), (47, 71), (60, 83), (62, 94)], 59) := by decide +kernel
theorem dX2_join_60 : decode cX2_join 60 = .ok (.iload_n 1, 1) := by decide +kernel
theorem dX2_join_61 : decode cX2_join 61 = .ok (.iload_n 2, 1) := by decide +kernel
theorem dX2_join_62 : decode cX2_join 62 = .ok (.iadd, 1) := by decide +kernel
theorem dX2_join_63 : decode cX2_join 63 = .ok (.ireturn, 1) := by decide +kernel
theorem dX2_join_64 : decode cX2_join 64 = .ok (.iload_n 1, 1) := by decide +kernel
theorem dX2_join_65 : decode cX2_join 65 = .ok (.iload_n 2, 1) := by decide +kernel
theorem dX2_join_66 : decode cX2_join 66 = .ok (.isub, 1) := by decide +kernel
theorem dX2_join_67 : decode cX2_join 67 = .ok (.ireturn, 1) := by decide +kernel
theorem dX2_join_68 : decode cX2_join 68 = .ok (.iload_n 1, 1) := by decide +kernel
theorem dX2_join_69 : decode cX2_join 69 = .ok (.iload_n 2, 1) := by decide +kernel
theorem dX2_join_70 : decode cX2_join 70 = .ok (.imul, 1) := by decide +kernel
theorem dX2_join_71 : decode cX2_join 71 = .ok (.ireturn, 1) := by decide +kernel
theorem dX2_join_72 : decode cX2_join 72 = .ok (.iload_n 2, 1) := by decide +kernel
theorem dX2_join_73 : decode cX2_join 73 = .ok (.ifCond .ne 7, 3) := by decide +kernel
theorem dX2_join_76 : decode cX2_join 76 = .ok (.iconst 0, 1) := by decide +kernel
theorem dX2_join_77 : decode cX2_join 77 = .ok (.goto 6, 3) := by decide +kernel
theorem dX2_join_80 : decode cX2_join 80 = .ok (.iload_n 1, 1) := by decide +kernel
theorem dX2_join_81 : decode cX2_join 81 = .ok (.iload_n 2, 1) := by decide +kernel
theorem dX2_join_82 : decode cX2_join 82 = .ok (.idiv, 1) := by decide +kernel
theorem dX2_join_83 : decode cX2_join 83 = .ok (.ireturn, 1) := by decide +kernel
theorem dX2_join_84 : decode cX2_join 84 = .ok (.iload_n 1, 1) := by decide +kernel
theorem dX2_join_85 : decode cX2_join 85 = .ok (.iload_n 2, 1) := by decide +kernel
theorem dX2_join_86 : decode cX2_join 86 = .ok (.if_icmp .ge 7, 3) := by decide +kernel
theorem dX2_join_89 : decode cX2_join 89 = .ok (.iconst 1, 1) := by decide +kernel
theorem dX2_join_90 : decode cX2_join 90 = .ok (.goto 4, 3) := by decide +kernel
theorem dX2_join_93 : decode cX2_join 93 = .ok (.iconst 0, 1) := by decide +kernel
theorem dX2_join_94 : decode cX2_join 94 = .ok (.ireturn, 1) := by decide +kernel
theorem dX2_join_95 : decode cX2_join 95 = .ok (.iload_n 1, 1) := by decide +kernel
theorem dX2_join_96 : decode cX2_join 96 = .ok (.iload_n 2, 1) := by decide +kernel
theorem dX2_join_97 : decode cX2_join 97 = .ok (.if_icmp .le 7, 3) := by decide +kernel
theorem dX2_join_100 : decode cX2_join 100 = .ok (.iconst 1, 1) := by decide +kernel
theorem dX2_join_101 : decode cX2_join 101 = .ok (.goto 4, 3) := by decide +kernel
theorem dX2_join_104 : decode cX2_join 104 = .ok (.iconst 0, 1) := by decide +kernel
theorem dX2_join_105 : decode cX2_join 105 = .ok (.ireturn, 1) := by decide +kernel
theorem dX2_join_106 : decode cX2_join 106 = .ok (.iload_n 1, 1) := by decide +kernel
theorem dX2_join_107 : decode cX2_join 107 = .ok (.iload_n 2, 1) := by decide +kernel
theorem dX2_join_108 : decode cX2_join 108 = .ok (.if_icmp .ne 7, 3) := by decide +kernel
theorem dX2_join_111 : decode cX2_join 111 = .ok (.iconst 1, 1) := by decide +kernel
theorem dX2_join_112 : decode cX2_join 112 = .ok (.goto 4, 3) := by decide +kernel
theorem dX2_join_115 : decode cX2_join 115 = .ok (.iconst 0, 1) := by decide +kernel
theorem dX2_join_116 : decode cX2_join 116 = .ok (.ireturn, 1) := by decide +kernel
theorem dX3_init_0 : decode cX3_init 0 = .ok (.aload_n 0, 1) := by decide +kernel
theorem dX3_init_1 : decode cX3_init 1 = .ok (.invokespecial 3, 3) := by decide +kernel
theorem dX3_init_4 : decode cX3_init 4 = .ok (.aload_n 0, 1) := by decide +kernel
theorem dX3_init_5 : decode cX3_init 5 = .ok (.bipush 6, 2) := by decide +kernel
theorem dX3_init_7 : decode cX3_init 7 = .ok (.newarray .int, 2) := by decide +kernel
theorem dX3_init_9 : decode cX3_init 9 = .ok (.putfield 9, 3) := by decide +kernel
theorem dX3_init_12 : decode cX3_init 12 = .ok (.aload_n 0, 1) := by decide +kernel
theorem dX3_init_13 : decode cX3_init 13 = .ok (.bipush 6, 2) := by decide +kernel
theorem dX3_init_15 : decode cX3_init 15 = .ok (.newarray .int, 2) := by decide +kernel
theorem dX3_init_17 : decode cX3_init 17 = .ok (.putfield 15, 3) := by decide +kernel
theorem dX3_init_20 : decode cX3_init 20 = .ok (.aload_n 0, 1) := by decide +kernel
theorem dX3_init_21 : decode cX3_init 21 = .ok (.iconst 0, 1) := by decide +kernel
theorem dX3_init_22 : decode cX3_init 22 = .ok (.putfield 18, 3) := by decide +kernel
theorem dX3_init_25 : decode cX3_init 25 = .ok (.return_, 1) := by decide +kernel
theorem dX3_begin_0 : decode cX3_begin 0 = .ok (.aload_n 0, 1) := by decide +kernel
theorem dX3_begin_1 : decode cX3_begin 1 = .ok (.iconst 0, 1) := by decide +kernel
theorem dX3_begin_2 : decode cX3_begin 2 = .ok (.putfield 18, 3) := by decide +kernel
theorem dX3_begin_5 : decode cX3_begin 5 = .ok (.iconst 0, 1) := by decide +kernel
theorem dX3_begin_6 : decode cX3_begin 6 = .ok (.istore_n 3, 1) := by decide +kernel
theorem dX3_begin_7 : decode cX3_begin 7 = .ok (.iload_n 3, 1) := by decide +kernel
theorem dX3_begin_8 : decode cX3_begin 8 = .ok (.aload_n 2, 1) := by decide +kernel
theorem dX3_begin_9 : decode cX3_begin 9 = .ok (.getfield 22, 3) := by decide +kernel
theorem dX3_begin_12 : decode cX3_begin 12 = .ok (.if_icmp .ge 47, 3) := by decide +kernel
theorem dX3_begin_15 : decode cX3_begin 15 = .ok (.aload_n 0, 1) := by decide +kernel
theorem dX3_begin_16 : decode cX3_begin 16 = .ok (.getfield 18, 3) := by decide +kernel
theorem dX3_begin_19 : decode cX3_begin 19 = .ok (.bipush 6, 2) := by decide +kernel
theorem dX3_begin_21 : decode cX3_begin 21 = .ok (.if_icmp .ge 38, 3) := by decide +kernel
theorem dX3_begin_24 : decode cX3_begin 24 = .ok (.aload_n 1, 1) := by decide +kernel
theorem dX3_begin_25 : decode cX3_begin 25 = .ok (.iload_n 3, 1) := by decide +kernel
theorem dX3_begin_26 : decode cX3_begin 26 = .ok (.invokevirtual 26, 3) := by decide +kernel
theorem dX3_begin_29 : decode cX3_begin 29 = .ok (.iconst (-1), 1) := by decide +kernel
theorem dX3_begin_30 : decode cX3_begin 30 = .ok (.if_icmp .eq 23, 3) := by decide +kernel
theorem dX3_begin_33 : decode cX3_begin 33 = .ok (.aload_n 0, 1) := by decide +kernel
theorem dX3_begin_34 : decode cX3_begin 34 = .ok (.getfield 9, 3) := by decide +kernel
theorem dX3_begin_37 : decode cX3_begin 37 = .ok (.aload_n 0, 1) := by decide +kernel
theorem dX3_begin_38 : decode cX3_begin 38 = .ok (.getfield 18, 3) := by decide +kernel
theorem dX3_begin_41 : decode cX3_begin 41 = .ok (.iload_n 3, 1) := by decide +kernel
theorem dX3_begin_42 : decode cX3_begin 42 = .ok (.iastore, 1) := by decide +kernel
theorem dX3_begin_43 : decode cX3_begin 43 = .ok (.aload_n 0, 1) := by decide +kernel
theorem dX3_begin_44 : decode cX3_begin 44 = .ok (.dup, 1) := by decide +kernel
theorem dX3_begin_45 : decode cX3_begin 45 = .ok (.getfield 18, 3) := by decide +kernel
theorem dX3_begin_48 : decode cX3_begin 48 = .ok (.iconst 1, 1) := by decide +kernel
theorem dX3_begin_49 : decode cX3_begin 49 = .ok (.iadd, 1) := by decide +kernel
theorem dX3_begin_50 : decode cX3_begin 50 = .ok (.putfield 18, 3) := by decide +kernel
theorem dX3_begin_53 : decode cX3_begin 53 = .ok (.iinc 3 1, 3) := by decide +kernel
theorem dX3_begin_56 : decode cX3_begin 56 = .ok (.goto (-49), 3) := by decide +kernel
theorem dX3_begin_59 : decode cX3_begin 59 = .ok (.return_, 1) := by decide +kernel
theorem dX3_markBest_0 : decode cX3_markBest 0 = .ok (.aload_n 0, 1) := by decide +kernel
theorem dX3_markBest_1 : decode cX3_markBest 1 = .ok (.getfield 9, 3) := by decide +kernel
theorem dX3_markBest_4 : decode cX3_markBest 4 = .ok (.iconst 0, 1) := by decide +kernel
theorem dX3_markBest_5 : decode cX3_markBest 5 = .ok (.aload_n 0, 1) := by decide +kernel
theorem dX3_markBest_6 : decode cX3_markBest 6 = .ok (.getfield 15, 3) := by decide +kernel
theorem dX3_markBest_9 : decode cX3_markBest 9 = .ok (.iconst 0, 1) := by decide +kernel
theorem dX3_markBest_10 : decode cX3_markBest 10 = .ok (.bipush 6, 2) := by decide +kernel
theorem dX3_markBest_12 : decode cX3_markBest 12 = .ok (.invokestatic 32, 3) := by decide +kernel
theorem dX3_markBest_15 : decode cX3_markBest 15 = .ok (.return_, 1) := by decide +kernel
theorem dX3_toNext_0 : decode cX3_toNext 0 = .ok (.aload_n 0, 1) := by decide +kernel
theorem dX3_toNext_1 : decode cX3_toNext 1 = .ok (.getfield 18, 3) := by decide +kernel
theorem dX3_toNext_4 : decode cX3_toNext 4 = .ok (.iconst 2, 1) := by decide +kernel
theorem dX3_toNext_5 : decode cX3_toNext 5 = .ok (.isub, 1) := by decide +kernel
theorem dX3_toNext_6 : decode cX3_toNext 6 = .ok (.istore_n 1, 1) := by decide +kernel
theorem dX3_toNext_7 : decode cX3_toNext 7 = .ok (.iload_n 1, 1) := by decide +kernel
theorem dX3_toNext_8 : decode cX3_toNext 8 = .ok (.ifCond .lt 26, 3) := by decide +kernel
theorem dX3_toNext_11 : decode cX3_toNext 11 = .ok (.aload_n 0, 1) := by decide +kernel
theorem dX3_toNext_12 : decode cX3_toNext 12 = .ok (.getfield 9, 3) := by decide +kernel
theorem dX3_toNext_15 : decode cX3_toNext 15 = .ok (.iload_n 1, 1) := by decide +kernel
theorem dX3_toNext_16 : decode cX3_toNext 16 = .ok (.iaload, 1) := by decide +kernel
theorem dX3_toNext_17 : decode cX3_toNext 17 = .ok (.aload_n 0, 1) := by decide +kernel
theorem dX3_toNext_18 : decode cX3_toNext 18 = .ok (.getfield 9, 3) := by decide +kernel
theorem dX3_toNext_21 : decode cX3_toNext 21 = .ok (.iload_n 1, 1) := by decide +kernel
theorem dX3_toNext_22 : decode cX3_toNext 22 = .ok (.iconst 1, 1) := by decide +kernel
theorem dX3_toNext_23 : decode cX3_toNext 23 = .ok (.iadd, 1) := by decide +kernel
theorem dX3_toNext_24 : decode cX3_toNext 24 = .ok (.iaload, 1) := by decide +kernel
theorem dX3_toNext_25 : decode cX3_toNext 25 = .ok (.if_icmp .le 9, 3) := by decide +kernel
theorem dX3_toNext_28 : decode cX3_toNext 28 = .ok (.iinc 1 (-1), 3) := by decide +kernel
theorem dX3_toNext_31 : decode cX3_toNext 31 = .ok (.goto (-24), 3) := by decide +kernel
theorem dX3_toNext_34 : decode cX3_toNext 34 = .ok (.iload_n 1, 1) := by decide +kernel
theorem dX3_toNext_35 : decode cX3_toNext 35 = .ok (.ifCond .ge 5, 3) := by decide +kernel
theorem dX3_toNext_38 : decode cX3_toNext 38 = .ok (.iconst 0, 1) := by decide +kernel
theorem dX3_toNext_39 : decode cX3_toNext 39 = .ok (.ireturn, 1) := by decide +kernel
theorem dX3_toNext_40 : decode cX3_toNext 40 = .ok (.aload_n 0, 1) := by decide +kernel
theorem dX3_toNext_41 : decode cX3_toNext 41 = .ok (.getfield 18, 3) := by decide +kernel
theorem dX3_toNext_44 : decode cX3_toNext 44 = .ok (.iconst 1, 1) := by decide +kernel
theorem dX3_toNext_45 : decode cX3_toNext 45 = .ok (.isub, 1) := by decide +kernel
theorem dX3_toNext_46 : decode cX3_toNext 46 = .ok (.istore_n 2, 1) := by decide +kernel
theorem dX3_toNext_47 : decode cX3_toNext 47 = .ok (.iload_n 2, 1) := by decide +kernel
theorem dX3_toNext_48 : decode cX3_toNext 48 = .ok (.iload_n 1, 1) := by decide +kernel
theorem dX3_toNext_49 : decode cX3_toNext 49 = .ok (.if_icmp .le 24, 3) := by decide +kernel
theorem dX3_toNext_52 : decode cX3_toNext 52 = .ok (.aload_n 0, 1) := by decide +kernel
theorem dX3_toNext_53 : decode cX3_toNext 53 = .ok (.getfield 9, 3) := by decide +kernel
theorem dX3_toNext_56 : decode cX3_toNext 56 = .ok (.iload_n 2, 1) := by decide +kernel
theorem dX3_toNext_57 : decode cX3_toNext 57 = .ok (.iaload, 1) := by decide +kernel
theorem dX3_toNext_58 : decode cX3_toNext 58 = .ok (.aload_n 0, 1) := by decide +kernel
theorem dX3_toNext_59 : decode cX3_toNext 59 = .ok (.getfield 9, 3) := by decide +kernel
theorem dX3_toNext_62 : decode cX3_toNext 62 = .ok (.iload_n 1, 1) := by decide +kernel
theorem dX3_toNext_63 : decode cX3_toNext 63 = .ok (.iaload, 1) := by decide +kernel
theorem dX3_toNext_64 : decode cX3_toNext 64 = .ok (.if_icmp .ge 9, 3) := by decide +kernel
theorem dX3_toNext_67 : decode cX3_toNext 67 = .ok (.iinc 2 (-1), 3) := by decide +kernel
theorem dX3_toNext_70 : decode cX3_toNext 70 = .ok (.goto (-23), 3) := by decide +kernel
theorem dX3_toNext_73 : decode cX3_toNext 73 = .ok (.aload_n 0, 1) := by decide +kernel
theorem dX3_toNext_74 : decode cX3_toNext 74 = .ok (.iload_n 1, 1) := by decide +kernel
theorem dX3_toNext_75 : decode cX3_toNext 75 = .ok (.iload_n 2, 1) := by decide +kernel
theorem dX3_toNext_76 : decode cX3_toNext 76 = .ok (.invokevirtual 38, 3) := by decide +kernel
theorem dX3_toNext_79 : decode cX3_toNext 79 = .ok (.iload_n 1, 1) := by decide +kernel
theorem dX3_toNext_80 : decode cX3_toNext 80 = .ok (.iconst 1, 1) := by decide +kernel
theorem dX3_toNext_81 : decode cX3_toNext 81 = .ok (.iadd, 1) := by decide +kernel
theorem dX3_toNext_82 : decode cX3_toNext 82 = .ok (.istore_n 3, 1) := by decide +kernel
theorem dX3_toNext_83 : decode cX3_toNext 83 = .ok (.aload_n 0, 1) := by decide +kernel
theorem dX3_toNext_84 : decode cX3_toNext 84 = .ok (.getfield 18, 3) := by decide +kernel
theorem dX3_toNext_87 : decode cX3_toNext 87 = .ok (.iconst 1, 1) := by decide +kernel
theorem dX3_toNext_88 : decode cX3_toNext 88 = .ok (.isub, 1) := by decide +kernel
theorem dX3_toNext_89 : decode cX3_toNext 89 = .ok (.istore 4, 2) := by decide +kernel
theorem dX3_toNext_91 : decode cX3_toNext 91 = .ok (.iload_n 3, 1) := by decide +kernel
theorem dX3_toNext_92 : decode cX3_toNext 92 = .ok (.iload 4, 2) := by decide +kernel
theorem dX3_toNext_94 : decode cX3_toNext 94 = .ok (.if_icmp .ge 19, 3) := by decide +kernel
theorem dX3_toNext_97 : decode cX3_toNext 97 = .ok (.aload_n 0, 1) := by decide +kernel
theorem dX3_toNext_98 : decode cX3_toNext 98 = .ok (.iload_n 3, 1) := by decide +kernel
theorem dX3_toNext_99 : decode cX3_toNext 99 = .ok (.iload 4, 2) := by decide +kernel
theorem dX3_toNext_101 : decode cX3_toNext 101 = .ok (.invokevirtual 38, 3) := by decide +kernel
theorem dX3_toNext_104 : decode cX3_toNext 104 = .ok (.iinc 3 1, 3) := by decide +kernel
theorem dX3_toNext_107 : decode cX3_toNext 107 = .ok (.iinc 4 (-1), 3) := by decide +kernel
theorem dX3_toNext_110 : decode cX3_toNext 110 = .ok (.goto (-19), 3) := by decide +kernel
theorem dX3_toNext_113 : decode cX3_toNext 113 = .ok (.iconst 1, 1) := by decide +kernel
theorem dX3_toNext_114 : decode cX3_toNext 114 = .ok (.ireturn, 1) := by decide +kernel
theorem dX3_exchangeCells_0 : decode cX3_exchangeCells 0 = .ok (.aload_n 0, 1) := by decide +kernel
theorem dX3_exchangeCells_1 : decode cX3_exchangeCells 1 = .ok (.getfield 9, 3) := by decide +kernel
theorem dX3_exchangeCells_4 : decode cX3_exchangeCells 4 = .ok (.iload_n 1, 1) := by decide +kernel
theorem dX3_exchangeCells_5 : decode cX3_exchangeCells 5 = .ok (.iaload, 1) := by decide +kernel
theorem dX3_exchangeCells_6 : decode cX3_exchangeCells 6 = .ok (.istore_n 3, 1) := by decide +kernel
theorem dX3_exchangeCells_7 : decode cX3_exchangeCells 7 = .ok (.aload_n 0, 1) := by decide +kernel
theorem dX3_exchangeCells_8 : decode cX3_exchangeCells 8 = .ok (.getfield 9, 3) := by decide +kernel
theorem dX3_exchangeCells_11 : decode cX3_exchangeCells 11 = .ok (.iload_n 1, 1) := by decide +kernel
theorem dX3_exchangeCells_12 : decode cX3_exchangeCells 12 = .ok (.aload_n 0, 1) := by decide +kernel
theorem dX3_exchangeCells_13 : decode cX3_exchangeCells 13 = .ok (.getfield 9, 3) := by decide +kernel
theorem dX3_exchangeCells_16 : decode cX3_exchangeCells 16 = .ok (.iload_n 2, 1) := by decide +kernel
theorem dX3_exchangeCells_17 : decode cX3_exchangeCells 17 = .ok (.iaload, 1) := by decide +kernel
theorem dX3_exchangeCells_18 : decode cX3_exchangeCells 18 = .ok (.iastore, 1) := by decide +kernel
theorem dX3_exchangeCells_19 : decode cX3_exchangeCells 19 = .ok (.aload_n 0, 1) := by decide +kernel
theorem dX3_exchangeCells_20 : decode cX3_exchangeCells 20 = .ok (.getfield 9, 3) := by decide +kernel
theorem dX3_exchangeCells_23 : decode cX3_exchangeCells 23 = .ok (.iload_n 2, 1) := by decide +kernel
theorem dX3_exchangeCells_24 : decode cX3_exchangeCells 24 = .ok (.iload_n 3, 1) := by decide +kernel
theorem dX3_exchangeCells_25 : decode cX3_exchangeCells 25 = .ok (.iastore, 1) := by decide +kernel
theorem dX3_exchangeCells_26 : decode cX3_exchangeCells 26 = .ok (.return_, 1) := by decide +kernel
theorem dX4_init_0 : decode cX4_init 0 = .ok (.aload_n 0, 1) := by decide +kernel
theorem dX4_init_1 : decode cX4_init 1 = .ok (.invokespecial 3, 3) := by decide +kernel
theorem dX4_init_4 : decode cX4_init 4 = .ok (.aload_n 0, 1) := by decide +kernel
theorem dX4_init_5 : decode cX4_init 5 = .ok (.bipush 8, 2) := by decide +kernel
theorem dX4_init_7 : decode cX4_init 7 = .ok (.newarray .long, 2) := by decide +kernel
theorem dX4_init_9 : decode cX4_init 9 = .ok (.putfield 9, 3) := by decide +kernel
theorem dX4_init_12 : decode cX4_init 12 = .ok (.aload_n 0, 1) := by decide +kernel
theorem dX4_init_13 : decode cX4_init 13 = .ok (.iconst 0, 1) := by decide +kernel
theorem dX4_init_14 : decode cX4_init 14 = .ok (.putfield 15, 3) := by decide +kernel
theorem dX4_init_17 : decode cX4_init 17 = .ok (.return_, 1) := by decide +kernel
theorem dX4_clear_0 : decode cX4_clear 0 = .ok (.aload_n 0, 1) := by decide +kernel
theorem dX4_clear_1 : decode cX4_clear 1 = .ok (.iconst 0, 1) := by decide +kernel
theorem dX4_clear_2 : decode cX4_clear 2 = .ok (.putfield 15, 3) := by decide +kernel
theorem dX4_clear_5 : decode cX4_clear 5 = .ok (.return_, 1) := by decide +kernel
theorem dX4_add_0 : decode cX4_add 0 = .ok (.aload_n 0, 1) := by decide +kernel
theorem dX4_add_1 : decode cX4_add 1 = .ok (.getfield 15, 3) := by decide +kernel
theorem dX4_add_4 : decode cX4_add 4 = .ok (.bipush 8, 2) := by decide +kernel
theorem dX4_add_6 : decode cX4_add 6 = .ok (.if_icmp .ge 23, 3) := by decide +kernel
theorem dX4_add_9 : decode cX4_add 9 = .ok (.aload_n 0, 1) := by decide +kernel
theorem dX4_add_10 : decode cX4_add 10 = .ok (.getfield 9, 3) := by decide +kernel
theorem dX4_add_13 : decode cX4_add 13 = .ok (.aload_n 0, 1) := by decide +kernel
theorem dX4_add_14 : decode cX4_add 14 = .ok (.getfield 15, 3) := by decide +kernel
theorem dX4_add_17 : decode cX4_add 17 = .ok (.lload_n 1, 1) := by decide +kernel
theorem dX4_add_18 : decode cX4_add 18 = .ok (.lastore, 1) := by decide +kernel
theorem dX4_add_19 : decode cX4_add 19 = .ok (.aload_n 0, 1) := by decide +kernel
theorem dX4_add_20 : decode cX4_add 20 = .ok (.dup, 1) := by decide +kernel
theorem dX4_add_21 : decode cX4_add 21 = .ok (.getfield 15, 3) := by decide +kernel
theorem dX4_add_24 : decode cX4_add 24 = .ok (.iconst 1, 1) := by decide +kernel
theorem dX4_add_25 : decode cX4_add 25 = .ok (.iadd, 1) := by decide +kernel
theorem dX4_add_26 : decode cX4_add 26 = .ok (.putfield 15, 3) := by decide +kernel
theorem dX4_add_29 : decode cX4_add 29 = .ok (.return_, 1) := by decide +kernel
theorem dX4_tellOne_0 : decode cX4_tellOne 0 = .ok (.aload_n 0, 1) := by decide +kernel
theorem dX4_tellOne_1 : decode cX4_tellOne 1 = .ok (.invokevirtual 19, 3) := by decide +kernel
theorem dX4_tellOne_4 : decode cX4_tellOne 4 = .ok (.aload_n 0, 1) := by decide +kernel
theorem dX4_tellOne_5 : decode cX4_tellOne 5 = .ok (.lload_n 1, 1) := by decide +kernel
theorem dX4_tellOne_6 : decode cX4_tellOne 6 = .ok (.invokevirtual 22, 3) := by decide +kernel
theorem dX4_tellOne_9 : decode cX4_tellOne 9 = .ok (.return_, 1) := by decide +kernel
theorem dX4_tellTwo_0 : decode cX4_tellTwo 0 = .ok (.aload_n 0, 1) := by decide +kernel
theorem dX4_tellTwo_1 : decode cX4_tellTwo 1 = .ok (.invokevirtual 19, 3) := by decide +kernel
theorem dX4_tellTwo_4 : decode cX4_tellTwo 4 = .ok (.aload_n 0, 1) := by decide +kernel
theorem dX4_tellTwo_5 : decode cX4_tellTwo 5 = .ok (.lload_n 1, 1) := by decide +kernel
theorem dX4_tellTwo_6 : decode cX4_tellTwo 6 = .ok (.invokevirtual 22, 3) := by decide +kernel
theorem dX4_tellTwo_9 : decode cX4_tellTwo 9 = .ok (.aload_n 0, 1) := by decide +kernel
theorem dX4_tellTwo_10 : decode cX4_tellTwo 10 = .ok (.lload_n 3, 1) := by decide +kernel
theorem dX4_tellTwo_11 : decode cX4_tellTwo 11 = .ok (.invokevirtual 22, 3) := by decide +kernel
theorem dX4_tellTwo_14 : decode cX4_tellTwo 14 = .ok (.return_, 1) := by decide +kernel
theorem dX5_init_0 : decode cX5_init 0 = .ok (.aload_n 0, 1) := by decide +kernel
theorem dX5_init_1 : decode cX5_init 1 = .ok (.invokespecial 3, 3) := by decide +kernel
theorem dX5_init_4 : decode cX5_init 4 = .ok (.aload_n 0, 1) := by decide +kernel
theorem dX5_init_5 : decode cX5_init 5 = .ok (.bipush 40, 2) := by decide +kernel
theorem dX5_init_7 : decode cX5_init 7 = .ok (.newarray .int, 2) := by decide +kernel
theorem dX5_init_9 : decode cX5_init 9 = .ok (.putfield 9, 3) := by decide +kernel
theorem dX5_init_12 : decode cX5_init 12 = .ok (.aload_n 0, 1) := by decide +kernel
theorem dX5_init_13 : decode cX5_init 13 = .ok (.iconst 0, 1) := by decide +kernel
theorem dX5_init_14 : decode cX5_init 14 = .ok (.putfield 15, 3) := by decide +kernel
theorem dX5_init_17 : decode cX5_init 17 = .ok (.aload_n 0, 1) := by decide +kernel
theorem dX5_init_18 : decode cX5_init 18 = .ok (.iconst 0, 1) := by decide +kernel
theorem dX5_init_19 : decode cX5_init 19 = .ok (.putfield 19, 3) := by decide +kernel
theorem dX5_init_22 : decode cX5_init 22 = .ok (.aload_n 0, 1) := by decide +kernel
theorem dX5_init_23 : decode cX5_init 23 = .ok (.iconst 1, 1) := by decide +kernel
theorem dX5_init_24 : decode cX5_init 24 = .ok (.putfield 22, 3) := by decide +kernel
theorem dX5_init_27 : decode cX5_init 27 = .ok (.return_, 1) := by decide +kernel
theorem dX5_read_0 : decode cX5_read 0 = .ok (.aload_n 1, 1) := by decide +kernel
theorem dX5_read_1 : decode cX5_read 1 = .ok (.invokevirtual 26, 3) := by decide +kernel
theorem dX5_read_4 : decode cX5_read 4 = .ok (.ifCond .eq 9, 3) := by decide +kernel
theorem dX5_read_7 : decode cX5_read 7 = .ok (.aload_n 2, 1) := by decide +kernel
theorem dX5_read_8 : decode cX5_read 8 = .ok (.invokevirtual 32, 3) := by decide +kernel
theorem dX5_read_11 : decode cX5_read 11 = .ok (.iconst (-1), 1) := by decide +kernel
theorem dX5_read_12 : decode cX5_read 12 = .ok (.ireturn, 1) := by decide +kernel
theorem dX5_read_13 : decode cX5_read 13 = .ok (.aload_n 2, 1) := by decide +kernel
theorem dX5_read_14 : decode cX5_read 14 = .ok (.invokevirtual 37, 3) := by decide +kernel
theorem dX5_read_17 : decode cX5_read 17 = .ok (.aload_n 0, 1) := by decide +kernel
theorem dX5_read_18 : decode cX5_read 18 = .ok (.iconst 0, 1) := by decide +kernel
theorem dX5_read_19 : decode cX5_read 19 = .ok (.putfield 15, 3) := by decide +kernel
theorem dX5_read_22 : decode cX5_read 22 = .ok (.aload_n 0, 1) := by decide +kernel
theorem dX5_read_23 : decode cX5_read 23 = .ok (.iconst 0, 1) := by decide +kernel
theorem dX5_read_24 : decode cX5_read 24 = .ok (.putfield 19, 3) := by decide +kernel
theorem dX5_read_27 : decode cX5_read 27 = .ok (.aload_n 0, 1) := by decide +kernel
theorem dX5_read_28 : decode cX5_read 28 = .ok (.iconst 1, 1) := by decide +kernel
theorem dX5_read_29 : decode cX5_read 29 = .ok (.putfield 22, 3) := by decide +kernel
theorem dX5_read_32 : decode cX5_read 32 = .ok (.aload_n 1, 1) := by decide +kernel
theorem dX5_read_33 : decode cX5_read 33 = .ok (.bipush 40, 2) := by decide +kernel
theorem dX5_read_35 : decode cX5_read 35 = .ok (.invokevirtual 40, 3) := by decide +kernel
theorem dX5_read_38 : decode cX5_read 38 = .ok (.iconst 0, 1) := by decide +kernel
theorem dX5_read_39 : decode cX5_read 39 = .ok (.istore_n 3, 1) := by decide +kernel
theorem dX5_read_40 : decode cX5_read 40 = .ok (.iload_n 3, 1) := by decide +kernel
theorem dX5_read_41 : decode cX5_read 41 = .ok (.bipush 40, 2) := by decide +kernel
theorem dX5_read_43 : decode cX5_read 43 = .ok (.if_icmp .ge 49, 3) := by decide +kernel
theorem dX5_read_46 : decode cX5_read 46 = .ok (.aload_n 1, 1) := by decide +kernel
theorem dX5_read_47 : decode cX5_read 47 = .ok (.invokevirtual 44, 3) := by decide +kernel
theorem dX5_read_50 : decode cX5_read 50 = .ok (.ifCond .ne 42, 3) := by decide +kernel
theorem dX5_read_53 : decode cX5_read 53 = .ok (.aload_n 0, 1) := by decide +kernel
theorem dX5_read_54 : decode cX5_read 54 = .ok (.getfield 22, 3) := by decide +kernel
theorem dX5_read_57 : decode cX5_read 57 = .ok (.ifCond .eq 15, 3) := by decide +kernel
theorem dX5_read_60 : decode cX5_read 60 = .ok (.aload_n 0, 1) := by decide +kernel
theorem dX5_read_61 : decode cX5_read 61 = .ok (.aload_n 1, 1) := by decide +kernel
theorem dX5_read_62 : decode cX5_read 62 = .ok (.aload_n 2, 1) := by decide +kernel
theorem dX5_read_63 : decode cX5_read 63 = .ok (.invokevirtual 47, 3) := by decide +kernel
theorem dX5_read_66 : decode cX5_read 66 = .ok (.ifCond .eq 15, 3) := by decide +kernel
theorem dX5_read_69 : decode cX5_read 69 = .ok (.goto 17, 3) := by decide +kernel
theorem dX5_read_72 : decode cX5_read 72 = .ok (.aload_n 0, 1) := by decide +kernel
theorem dX5_read_73 : decode cX5_read 73 = .ok (.aload_n 1, 1) := by decide +kernel
theorem dX5_read_74 : decode cX5_read 74 = .ok (.aload_n 2, 1) := by decide +kernel
theorem dX5_read_75 : decode cX5_read 75 = .ok (.invokevirtual 51, 3) := by decide +kernel
theorem dX5_read_78 : decode cX5_read 78 = .ok (.ifCond .ne 8, 3) := by decide +kernel
theorem dX5_read_81 : decode cX5_read 81 = .ok (.aload_n 1, 1) := by decide +kernel
theorem dX5_read_82 : decode cX5_read 82 = .ok (.getfield 54, 3) := by decide +kernel
theorem dX5_read_85 : decode cX5_read 85 = .ok (.ireturn, 1) := by decide +kernel
theorem dX5_read_86 : decode cX5_read 86 = .ok (.iinc 3 1, 3) := by decide +kernel
theorem dX5_read_89 : decode cX5_read 89 = .ok (.goto (-49), 3) := by decide +kernel
theorem dX5_read_92 : decode cX5_read 92 = .ok (.aload_n 0, 1) := by decide +kernel
theorem dX5_read_93 : decode cX5_read 93 = .ok (.getfield 22, 3) := by decide +kernel
theorem dX5_read_96 : decode cX5_read 96 = .ok (.ifCond .ne 17, 3) := by decide +kernel
theorem dX5_read_99 : decode cX5_read 99 = .ok (.aload_n 0, 1) := by decide +kernel
theorem dX5_read_100 : decode cX5_read 100 = .ok (.getfield 19, 3) := by decide +kernel
theorem dX5_read_103 : decode cX5_read 103 = .ok (.ifCond .gt 10, 3) := by decide +kernel
theorem dX5_read_106 : decode cX5_read 106 = .ok (.aload_n 1, 1) := by decide +kernel
theorem dX5_read_107 : decode cX5_read 107 = .ok (.invokevirtual 57, 3) := by decide +kernel
theorem dX5_read_110 : decode cX5_read 110 = .ok (.ifCond .ne 8, 3) := by decide +kernel
theorem dX5_read_113 : decode cX5_read 113 = .ok (.aload_n 1, 1) := by decide +kernel
theorem dX5_read_114 : decode cX5_read 114 = .ok (.getfield 54, 3) := by decide +kernel
theorem dX5_read_117 : decode cX5_read 117 = .ok (.ireturn, 1) := by decide +kernel
theorem dX5_read_118 : decode cX5_read 118 = .ok (.aload_n 0, 1) := by decide +kernel
theorem dX5_read_119 : decode cX5_read 119 = .ok (.aload_n 2, 1) := by decide +kernel
theorem dX5_read_120 : decode cX5_read 120 = .ok (.iconst 1, 1) := by decide +kernel
theorem dX5_read_121 : decode cX5_read 121 = .ok (.invokevirtual 60, 3) := by decide +kernel
theorem dX5_read_124 : decode cX5_read 124 = .ok (.iconst (-1), 1) := by decide +kernel
theorem dX5_read_125 : decode cX5_read 125 = .ok (.ireturn, 1) := by decide +kernel
theorem dX5_takeThing_0 : decode cX5_takeThing 0 = .ok (.aload_n 1, 1) := by decide +kernel
theorem dX5_takeThing_1 : decode cX5_takeThing 1 = .ok (.iconst 3, 1) := by decide +kernel
theorem dX5_takeThing_2 : decode cX5_takeThing 2 = .ok (.invokevirtual 64, 3) := by decide +kernel
theorem dX5_takeThing_5 : decode cX5_takeThing 5 = .ok (.istore_n 3, 1) := by decide +kernel
theorem dX5_takeThing_6 : decode cX5_takeThing 6 = .ok (.iload_n 3, 1) := by decide +kernel
theorem dX5_takeThing_7 : decode cX5_takeThing 7 = .ok (.iconst (-1), 1) := by decide +kernel
theorem dX5_takeThing_8 : decode cX5_takeThing 8 = .ok (.if_icmp .eq 18, 3) := by decide +kernel
theorem dX5_takeThing_11 : decode cX5_takeThing 11 = .ok (.aload_n 2, 1) := by decide +kernel
theorem dX5_takeThing_12 : decode cX5_takeThing 12 = .ok (.sipush 300, 3) := by decide +kernel
theorem dX5_takeThing_15 : decode cX5_takeThing 15 = .ok (.iload_n 3, 1) := by decide +kernel
theorem dX5_takeThing_16 : decode cX5_takeThing 16 = .ok (.invokevirtual 68, 3) := by decide +kernel
theorem dX5_takeThing_19 : decode cX5_takeThing 19 = .ok (.aload_n 0, 1) := by decide +kernel
theorem dX5_takeThing_20 : decode cX5_takeThing 20 = .ok (.iconst 0, 1) := by decide +kernel
theorem dX5_takeThing_21 : decode cX5_takeThing 21 = .ok (.putfield 22, 3) := by decide +kernel
theorem dX5_takeThing_24 : decode cX5_takeThing 24 = .ok (.iconst 1, 1) := by decide +kernel
theorem dX5_takeThing_25 : decode cX5_takeThing 25 = .ok (.ireturn, 1) := by decide +kernel
theorem dX5_takeThing_26 : decode cX5_takeThing 26 = .ok (.aload_n 1, 1) := by decide +kernel
theorem dX5_takeThing_27 : decode cX5_takeThing 27 = .ok (.invokevirtual 72, 3) := by decide +kernel
theorem dX5_takeThing_30 : decode cX5_takeThing 30 = .ok (.istore 4, 2) := by decide +kernel
theorem dX5_takeThing_32 : decode cX5_takeThing 32 = .ok (.iload 4, 2) := by decide +kernel
theorem dX5_takeThing_34 : decode cX5_takeThing 34 = .ok (.bipush 45, 2) := by decide +kernel
theorem dX5_takeThing_36 : decode cX5_takeThing 36 = .ok (.if_icmp .ne 13, 3) := by decide +kernel
theorem dX5_takeThing_39 : decode cX5_takeThing 39 = .ok (.aload_n 0, 1) := by decide +kernel
theorem dX5_takeThing_40 : decode cX5_takeThing 40 = .ok (.sipush 302, 3) := by decide +kernel
theorem dX5_takeThing_43 : decode cX5_takeThing 43 = .ok (.invokevirtual 76, 3) := by decide +kernel
theorem dX5_takeThing_46 : decode cX5_takeThing 46 = .ok (.goto 75, 3) := by decide +kernel
theorem dX5_takeThing_49 : decode cX5_takeThing 49 = .ok (.iload 4, 2) := by decide +kernel
theorem dX5_takeThing_51 : decode cX5_takeThing 51 = .ok (.bipush 40, 2) := by decide +kernel
theorem dX5_takeThing_53 : decode cX5_takeThing 53 = .ok (.if_icmp .ne 30, 3) := by decide +kernel
theorem dX5_takeThing_56 : decode cX5_takeThing 56 = .ok (.aload_n 0, 1) := by decide +kernel
theorem dX5_takeThing_57 : decode cX5_takeThing 57 = .ok (.getfield 19, 3) := by decide +kernel
theorem dX5_takeThing_60 : decode cX5_takeThing 60 = .ok (.iconst 4, 1) := by decide +kernel
theorem dX5_takeThing_61 : decode cX5_takeThing 61 = .ok (.if_icmp .ge 22, 3) := by decide +kernel
theorem dX5_takeThing_64 : decode cX5_takeThing 64 = .ok (.aload_n 0, 1) := by decide +kernel
theorem dX5_takeThing_65 : decode cX5_takeThing 65 = .ok (.dup, 1) := by decide +kernel
theorem dX5_takeThing_66 : decode cX5_takeThing 66 = .ok (.getfield 19, 3) := by decide +kernel
theorem dX5_takeThing_69 : decode cX5_takeThing 69 = .ok (.iconst 1, 1) := by decide +kernel
theorem dX5_takeThing_70 : decode cX5_takeThing 70 = .ok (.iadd, 1) := by decide +kernel
theorem dX5_takeThing_71 : decode cX5_takeThing 71 = .ok (.putfield 19, 3) := by decide +kernel
theorem dX5_takeThing_74 : decode cX5_takeThing 74 = .ok (.aload_n 0, 1) := by decide +kernel
theorem dX5_takeThing_75 : decode cX5_takeThing 75 = .ok (.iload 4, 2) := by decide +kernel
theorem dX5_takeThing_77 : decode cX5_takeThing 77 = .ok (.invokevirtual 76, 3) := by decide +kernel
theorem dX5_takeThing_80 : decode cX5_takeThing 80 = .ok (.goto 41, 3) := by decide +kernel
theorem dX5_takeThing_83 : decode cX5_takeThing 83 = .ok (.iload 4, 2) := by decide +kernel
theorem dX5_takeThing_85 : decode cX5_takeThing 85 = .ok (.iconst (-1), 1) := by decide +kernel
theorem dX5_takeThing_86 : decode cX5_takeThing 86 = .ok (.if_icmp .ne 7, 3) := by decide +kernel
theorem dX5_takeThing_89 : decode cX5_takeThing 89 = .ok (.iconst (-1), 1) := by decide +kernel
theorem dX5_takeThing_90 : decode cX5_takeThing 90 = .ok (.goto 11, 3) := by decide +kernel
theorem dX5_takeThing_93 : decode cX5_takeThing 93 = .ok (.ldc 79, 2) := by decide +kernel
theorem dX5_takeThing_95 : decode cX5_takeThing 95 = .ok (.iload 4, 2) := by decide +kernel
theorem dX5_takeThing_97 : decode cX5_takeThing 97 = .ok (.i2c, 1) := by decide +kernel
theorem dX5_takeThing_98 : decode cX5_takeThing 98 = .ok (.invokevirtual 81, 3) := by decide +kernel
theorem dX5_takeThing_101 : decode cX5_takeThing 101 = .ok (.istore 5, 2) := by decide +kernel
theorem dX5_takeThing_103 : decode cX5_takeThing 103 = .ok (.iload 5, 2) := by decide +kernel
theorem dX5_takeThing_105 : decode cX5_takeThing 105 = .ok (.ifCond .ge 5, 3) := by decide +kernel
theorem dX5_takeThing_108 : decode cX5_takeThing 108 = .ok (.iconst 0, 1) := by decide +kernel
theorem dX5_takeThing_109 : decode cX5_takeThing 109 = .ok (.ireturn, 1) := by decide +kernel
theorem dX5_takeThing_110 : decode cX5_takeThing 110 = .ok (.aload_n 2, 1) := by decide +kernel
theorem dX5_takeThing_111 : decode cX5_takeThing 111 = .ok (.iload 5, 2) := by decide +kernel
theorem dX5_takeThing_113 : decode cX5_takeThing 113 = .ok (.invokevirtual 86, 3) := by decide +kernel
theorem dX5_takeThing_116 : decode cX5_takeThing 116 = .ok (.aload_n 0, 1) := by decide +kernel
theorem dX5_takeThing_117 : decode cX5_takeThing 117 = .ok (.iconst 0, 1) := by decide +kernel
theorem dX5_takeThing_118 : decode cX5_takeThing 118 = .ok (.putfield 22, 3) := by decide +kernel
theorem dX5_takeThing_121 : decode cX5_takeThing 121 = .ok (.aload_n 1, 1) := by decide +kernel
theorem dX5_takeThing_122 : decode cX5_takeThing 122 = .ok (.invokevirtual 89, 3) := by decide +kernel
theorem dX5_takeThing_125 : decode cX5_takeThing 125 = .ok (.iconst 1, 1) := by decide +kernel
theorem dX5_takeThing_126 : decode cX5_takeThing 126 = .ok (.ireturn, 1) := by decide +kernel
theorem dX5_takeSign_0 : decode cX5_takeSign 0 = .ok (.aload_n 1, 1) := by decide +kernel
theorem dX5_takeSign_1 : decode cX5_takeSign 1 = .ok (.invokevirtual 72, 3) := by decide +kernel
theorem dX5_takeSign_4 : decode cX5_takeSign 4 = .ok (.istore_n 3, 1) := by decide +kernel
theorem dX5_takeSign_5 : decode cX5_takeSign 5 = .ok (.iload_n 3, 1) := by decide +kernel
theorem dX5_takeSign_6 : decode cX5_takeSign 6 = .ok (.invokestatic 92, 3) := by decide +kernel
theorem dX5_takeSign_9 : decode cX5_takeSign 9 = .ok (.istore 4, 2) := by decide +kernel
theorem dX5_takeSign_11 : decode cX5_takeSign 11 = .ok (.iload_n 3, 1) := by decide +kernel
theorem dX5_takeSign_12 : decode cX5_takeSign 12 = .ok (.bipush 41, 2) := by decide +kernel
theorem dX5_takeSign_14 : decode cX5_takeSign 14 = .ok (.if_icmp .ne 39, 3) := by decide +kernel
theorem dX5_takeSign_17 : decode cX5_takeSign 17 = .ok (.aload_n 0, 1) := by decide +kernel
theorem dX5_takeSign_18 : decode cX5_takeSign 18 = .ok (.getfield 19, 3) := by decide +kernel
theorem dX5_takeSign_21 : decode cX5_takeSign 21 = .ok (.ifCond .le 32, 3) := by decide +kernel
theorem dX5_takeSign_24 : decode cX5_takeSign 24 = .ok (.aload_n 0, 1) := by decide +kernel
theorem dX5_takeSign_25 : decode cX5_takeSign 25 = .ok (.aload_n 2, 1) := by decide +kernel
theorem dX5_takeSign_26 : decode cX5_takeSign 26 = .ok (.iconst 1, 1) := by decide +kernel
theorem dX5_takeSign_27 : decode cX5_takeSign 27 = .ok (.invokevirtual 60, 3) := by decide +kernel
theorem dX5_takeSign_30 : decode cX5_takeSign 30 = .ok (.aload_n 0, 1) := by decide +kernel
theorem dX5_takeSign_31 : decode cX5_takeSign 31 = .ok (.dup, 1) := by decide +kernel
theorem dX5_takeSign_32 : decode cX5_takeSign 32 = .ok (.getfield 15, 3) := by decide +kernel
theorem dX5_takeSign_35 : decode cX5_takeSign 35 = .ok (.iconst 1, 1) := by decide +kernel
theorem dX5_takeSign_36 : decode cX5_takeSign 36 = .ok (.isub, 1) := by decide +kernel
theorem dX5_takeSign_37 : decode cX5_takeSign 37 = .ok (.putfield 15, 3) := by decide +kernel
theorem dX5_takeSign_40 : decode cX5_takeSign 40 = .ok (.aload_n 0, 1) := by decide +kernel
theorem dX5_takeSign_41 : decode cX5_takeSign 41 = .ok (.dup, 1) := by decide +kernel
theorem dX5_takeSign_42 : decode cX5_takeSign 42 = .ok (.getfield 19, 3) := by decide +kernel
theorem dX5_takeSign_45 : decode cX5_takeSign 45 = .ok (.iconst 1, 1) := by decide +kernel
theorem dX5_takeSign_46 : decode cX5_takeSign 46 = .ok (.isub, 1) := by decide +kernel
theorem dX5_takeSign_47 : decode cX5_takeSign 47 = .ok (.putfield 19, 3) := by decide +kernel
theorem dX5_takeSign_50 : decode cX5_takeSign 50 = .ok (.goto 66, 3) := by decide +kernel
theorem dX5_takeSign_53 : decode cX5_takeSign 53 = .ok (.iload 4, 2) := by decide +kernel
theorem dX5_takeSign_55 : decode cX5_takeSign 55 = .ok (.iconst 1, 1) := by decide +kernel
theorem dX5_takeSign_56 : decode cX5_takeSign 56 = .ok (.if_icmp .ne 32, 3) := by decide +kernel
theorem dX5_takeSign_59 : decode cX5_takeSign 59 = .ok (.aload_n 0, 1) := by decide +kernel
theorem dX5_takeSign_60 : decode cX5_takeSign 60 = .ok (.aload_n 2, 1) := by decide +kernel
theorem dX5_takeSign_61 : decode cX5_takeSign 61 = .ok (.iconst 2, 1) := by decide +kernel
theorem dX5_takeSign_62 : decode cX5_takeSign 62 = .ok (.invokevirtual 60, 3) := by decide +kernel
theorem dX5_takeSign_65 : decode cX5_takeSign 65 = .ok (.aload_n 0, 1) := by decide +kernel
theorem dX5_takeSign_66 : decode cX5_takeSign 66 = .ok (.invokevirtual 95, 3) := by decide +kernel
theorem dX5_takeSign_69 : decode cX5_takeSign 69 = .ok (.iconst 1, 1) := by decide +kernel
theorem dX5_takeSign_70 : decode cX5_takeSign 70 = .ok (.if_icmp .ne 5, 3) := by decide +kernel
theorem dX5_takeSign_73 : decode cX5_takeSign 73 = .ok (.iconst 0, 1) := by decide +kernel
theorem dX5_takeSign_74 : decode cX5_takeSign 74 = .ok (.ireturn, 1) := by decide +kernel
theorem dX5_takeSign_75 : decode cX5_takeSign 75 = .ok (.aload_n 0, 1) := by decide +kernel
theorem dX5_takeSign_76 : decode cX5_takeSign 76 = .ok (.iload_n 3, 1) := by decide +kernel
theorem dX5_takeSign_77 : decode cX5_takeSign 77 = .ok (.invokevirtual 76, 3) := by decide +kernel
theorem dX5_takeSign_80 : decode cX5_takeSign 80 = .ok (.aload_n 0, 1) := by decide +kernel
theorem dX5_takeSign_81 : decode cX5_takeSign 81 = .ok (.iconst 1, 1) := by decide +kernel
theorem dX5_takeSign_82 : decode cX5_takeSign 82 = .ok (.putfield 22, 3) := by decide +kernel
theorem dX5_takeSign_85 : decode cX5_takeSign 85 = .ok (.goto 31, 3) := by decide +kernel
theorem dX5_takeSign_88 : decode cX5_takeSign 88 = .ok (.iload 4, 2) := by decide +kernel
theorem dX5_takeSign_90 : decode cX5_takeSign 90 = .ok (.iconst 1, 1) := by decide +kernel
theorem dX5_takeSign_91 : decode cX5_takeSign 91 = .ok (.if_icmp .le 23, 3) := by decide +kernel
theorem dX5_takeSign_94 : decode cX5_takeSign 94 = .ok (.aload_n 0, 1) := by decide +kernel
theorem dX5_takeSign_95 : decode cX5_takeSign 95 = .ok (.aload_n 2, 1) := by decide +kernel
theorem dX5_takeSign_96 : decode cX5_takeSign 96 = .ok (.iload 4, 2) := by decide +kernel
theorem dX5_takeSign_98 : decode cX5_takeSign 98 = .ok (.invokevirtual 60, 3) := by decide +kernel
theorem dX5_takeSign_101 : decode cX5_takeSign 101 = .ok (.aload_n 0, 1) := by decide +kernel
theorem dX5_takeSign_102 : decode cX5_takeSign 102 = .ok (.iload_n 3, 1) := by decide +kernel
theorem dX5_takeSign_103 : decode cX5_takeSign 103 = .ok (.invokevirtual 76, 3) := by decide +kernel
theorem dX5_takeSign_106 : decode cX5_takeSign 106 = .ok (.aload_n 0, 1) := by decide +kernel
theorem dX5_takeSign_107 : decode cX5_takeSign 107 = .ok (.iconst 1, 1) := by decide +kernel
theorem dX5_takeSign_108 : decode cX5_takeSign 108 = .ok (.putfield 22, 3) := by decide +kernel
theorem dX5_takeSign_111 : decode cX5_takeSign 111 = .ok (.goto 5, 3) := by decide +kernel
theorem dX5_takeSign_114 : decode cX5_takeSign 114 = .ok (.iconst 0, 1) := by decide +kernel
theorem dX5_takeSign_115 : decode cX5_takeSign 115 = .ok (.ireturn, 1) := by decide +kernel
theorem dX5_takeSign_116 : decode cX5_takeSign 116 = .ok (.aload_n 1, 1) := by decide +kernel
theorem dX5_takeSign_117 : decode cX5_takeSign 117 = .ok (.invokevirtual 89, 3) := by decide +kernel
theorem dX5_takeSign_120 : decode cX5_takeSign 120 = .ok (.iconst 1, 1) := by decide +kernel
theorem dX5_takeSign_121 : decode cX5_takeSign 121 = .ok (.ireturn, 1) := by decide +kernel
theorem dX5_hold_0 : decode cX5_hold 0 = .ok (.aload_n 0, 1) := by decide +kernel
theorem dX5_hold_1 : decode cX5_hold 1 = .ok (.getfield 15, 3) := by decide +kernel
theorem dX5_hold_4 : decode cX5_hold 4 = .ok (.bipush 40, 2) := by decide +kernel
theorem dX5_hold_6 : decode cX5_hold 6 = .ok (.if_icmp .ge 23, 3) := by decide +kernel
theorem dX5_hold_9 : decode cX5_hold 9 = .ok (.aload_n 0, 1) := by decide +kernel
theorem dX5_hold_10 : decode cX5_hold 10 = .ok (.getfield 9, 3) := by decide +kernel
theorem dX5_hold_13 : decode cX5_hold 13 = .ok (.aload_n 0, 1) := by decide +kernel
theorem dX5_hold_14 : decode cX5_hold 14 = .ok (.getfield 15, 3) := by decide +kernel
theorem dX5_hold_17 : decode cX5_hold 17 = .ok (.iload_n 1, 1) := by decide +kernel
theorem dX5_hold_18 : decode cX5_hold 18 = .ok (.iastore, 1) := by decide +kernel
theorem dX5_hold_19 : decode cX5_hold 19 = .ok (.aload_n 0, 1) := by decide +kernel
theorem dX5_hold_20 : decode cX5_hold 20 = .ok (.dup, 1) := by decide +kernel
theorem dX5_hold_21 : decode cX5_hold 21 = .ok (.getfield 15, 3) := by decide +kernel
theorem dX5_hold_24 : decode cX5_hold 24 = .ok (.iconst 1, 1) := by decide +kernel
theorem dX5_hold_25 : decode cX5_hold 25 = .ok (.iadd, 1) := by decide +kernel
theorem dX5_hold_26 : decode cX5_hold 26 = .ok (.putfield 15, 3) := by decide +kernel
theorem dX5_hold_29 : decode cX5_hold 29 = .ok (.return_, 1) := by decide +kernel
theorem dX5_release_0 : decode cX5_release 0 = .ok (.aload_n 0, 1) := by decide +kernel
theorem dX5_release_1 : decode cX5_release 1 = .ok (.getfield 15, 3) := by decide +kernel
theorem dX5_release_4 : decode cX5_release 4 = .ok (.ifCond .le 38, 3) := by decide +kernel
theorem dX5_release_7 : decode cX5_release 7 = .ok (.aload_n 0, 1) := by decide +kernel
theorem dX5_release_8 : decode cX5_release 8 = .ok (.invokevirtual 95, 3) := by decide +kernel
theorem dX5_release_11 : decode cX5_release 11 = .ok (.iload_n 2, 1) := by decide +kernel
theorem dX5_release_12 : decode cX5_release 12 = .ok (.if_icmp .lt 30, 3) := by decide +kernel
theorem dX5_release_15 : decode cX5_release 15 = .ok (.aload_n 0, 1) := by decide +kernel
theorem dX5_release_16 : decode cX5_release 16 = .ok (.dup, 1) := by decide +kernel
theorem dX5_release_17 : decode cX5_release 17 = .ok (.getfield 15, 3) := by decide +kernel
theorem dX5_release_20 : decode cX5_release 20 = .ok (.iconst 1, 1) := by decide +kernel
theorem dX5_release_21 : decode cX5_release 21 = .ok (.isub, 1) := by decide +kernel
theorem dX5_release_22 : decode cX5_release 22 = .ok (.putfield 15, 3) := by decide +kernel
theorem dX5_release_25 : decode cX5_release 25 = .ok (.aload_n 1, 1) := by decide +kernel
theorem dX5_release_26 : decode cX5_release 26 = .ok (.aload_n 0, 1) := by decide +kernel
theorem dX5_release_27 : decode cX5_release 27 = .ok (.getfield 9, 3) := by decide +kernel
theorem dX5_release_30 : decode cX5_release 30 = .ok (.aload_n 0, 1) := by decide +kernel
theorem dX5_release_31 : decode cX5_release 31 = .ok (.getfield 15, 3) := by decide +kernel
theorem dX5_release_34 : decode cX5_release 34 = .ok (.iaload, 1) := by decide +kernel
theorem dX5_release_35 : decode cX5_release 35 = .ok (.iconst 0, 1) := by decide +kernel
theorem dX5_release_36 : decode cX5_release 36 = .ok (.invokevirtual 68, 3) := by decide +kernel
theorem dX5_release_39 : decode cX5_release 39 = .ok (.goto (-39), 3) := by decide +kernel
theorem dX5_release_42 : decode cX5_release 42 = .ok (.return_, 1) := by decide +kernel
theorem dX5_latestBinding_0 : decode cX5_latestBinding 0 = .ok (.aload_n 0, 1) := by decide +kernel
theorem dX5_latestBinding_1 : decode cX5_latestBinding 1 = .ok (.getfield 15, 3) := by decide +kernel
theorem dX5_latestBinding_4 : decode cX5_latestBinding 4 = .ok (.ifCond .le 20, 3) := by decide +kernel
theorem dX5_latestBinding_7 : decode cX5_latestBinding 7 = .ok (.aload_n 0, 1) := by decide +kernel
theorem dX5_latestBinding_8 : decode cX5_latestBinding 8 = .ok (.getfield 9, 3) := by decide +kernel
theorem dX5_latestBinding_11 : decode cX5_latestBinding 11 = .ok (.aload_n 0, 1) := by decide +kernel
theorem dX5_latestBinding_12 : decode cX5_latestBinding 12 = .ok (.getfield 15, 3) := by decide +kernel
theorem dX5_latestBinding_15 : decode cX5_latestBinding 15 = .ok (.iconst 1, 1) := by decide +kernel
theorem dX5_latestBinding_16 : decode cX5_latestBinding 16 = .ok (.isub, 1) := by decide +kernel
theorem dX5_latestBinding_17 : decode cX5_latestBinding 17 = .ok (.iaload, 1) := by decide +kernel
theorem dX5_latestBinding_18 : decode cX5_latestBinding 18 = .ok (.invokestatic 92, 3) := by decide +kernel
theorem dX5_latestBinding_21 : decode cX5_latestBinding 21 = .ok (.goto 4, 3) := by decide +kernel
theorem dX5_latestBinding_24 : decode cX5_latestBinding 24 = .ok (.iconst 0, 1) := by decide +kernel
theorem dX5_latestBinding_25 : decode cX5_latestBinding 25 = .ok (.ireturn, 1) := by decide +kernel
theorem dX5_bindingOf_0 : decode cX5_bindingOf 0 = .ok (.iload_n 0, 1) := by decide +kernel
theorem dX5_bindingOf_1 : decode cX5_bindingOf 1 = .ok (.lookupswitch 83 #[(42, 79), (43, 77), (45, 77), (47, 79), (60, 75), (61, 75), (62, 75), (302, 81)], 75) := by decide +kernel
theorem dX5_bindingOf_76 : decode cX5_bindingOf 76 = .ok (.iconst 1, 1) := by decide +kernel
theorem dX5_bindingOf_77 : decode cX5_bindingOf 77 = .ok (.ireturn, 1) := by decide +kernel
theorem dX5_bindingOf_78 : decode cX5_bindingOf 78 = .ok (.iconst 2, 1) := by decide +kernel
theorem dX5_bindingOf_79 : decode cX5_bindingOf 79 = .ok (.ireturn, 1) := by decide +kernel
theorem dX5_bindingOf_80 : decode cX5_bindingOf 80 = .ok (.iconst 3, 1) := by decide +kernel
theorem dX5_bindingOf_81 : decode cX5_bindingOf 81 = .ok (.ireturn, 1) := by decide +kernel
theorem dX5_bindingOf_82 : decode cX5_bindingOf 82 = .ok (.iconst 4, 1) := by decide +kernel
theorem dX5_bindingOf_83 : decode cX5_bindingOf 83 = .ok (.ireturn, 1) := by decide +kernel
theorem dX5_bindingOf_84 : decode cX5_bindingOf 84 = .ok (.iconst 0, 1) := by decide +kernel
theorem dX5_bindingOf_85 : decode cX5_bindingOf 85 = .ok (.ireturn, 1) := by decide +kernel
theorem dX6_init_0 : decode cX6_init 0 = .ok (.aload_n 0, 1) := by decide +kernel
theorem dX6_init_1 : decode cX6_init 1 = .ok (.invokespecial 3, 3) := by decide +kernel
theorem dX6_init_4 : decode cX6_init 4 = .ok (.aload_n 0, 1) := by decide +kernel
theorem dX6_init_5 : decode cX6_init 5 = .ok (.bipush 6, 2) := by decide +kernel
theorem dX6_init_7 : decode cX6_init 7 = .ok (.newarray .int, 2) := by decide +kernel
theorem dX6_init_9 : decode cX6_init 9 = .ok (.putfield 9, 3) := by decide +kernel
theorem dX6_init_12 : decode cX6_init 12 = .ok (.aload_n 0, 1) := by decide +kernel
theorem dX6_init_13 : decode cX6_init 13 = .ok (.bipush 6, 2) := by decide +kernel
theorem dX6_init_15 : decode cX6_init 15 = .ok (.newarray .int, 2) := by decide +kernel
theorem dX6_init_17 : decode cX6_init 17 = .ok (.putfield 15, 3) := by decide +kernel
theorem dX6_init_20 : decode cX6_init 20 = .ok (.aload_n 0, 1) := by decide +kernel
theorem dX6_init_21 : decode cX6_init 21 = .ok (.bipush 8, 2) := by decide +kernel
theorem dX6_init_23 : decode cX6_init 23 = .ok (.newarray .int, 2) := by decide +kernel
theorem dX6_init_25 : decode cX6_init 25 = .ok (.putfield 18, 3) := by decide +kernel
theorem dX6_init_28 : decode cX6_init 28 = .ok (.aload_n 0, 1) := by decide +kernel
theorem dX6_init_29 : decode cX6_init 29 = .ok (.bipush 8, 2) := by decide +kernel
theorem dX6_init_31 : decode cX6_init 31 = .ok (.newarray .int, 2) := by decide +kernel
theorem dX6_init_33 : decode cX6_init 33 = .ok (.putfield 21, 3) := by decide +kernel
theorem dX6_init_36 : decode cX6_init 36 = .ok (.aload_n 0, 1) := by decide +kernel
theorem dX6_init_37 : decode cX6_init 37 = .ok (.bipush 8, 2) := by decide +kernel
theorem dX6_init_39 : decode cX6_init 39 = .ok (.newarray .int, 2) := by decide +kernel
theorem dX6_init_41 : decode cX6_init 41 = .ok (.putfield 24, 3) := by decide +kernel
theorem dX6_init_44 : decode cX6_init 44 = .ok (.aload_n 0, 1) := by decide +kernel
theorem dX6_init_45 : decode cX6_init 45 = .ok (.bipush 8, 2) := by decide +kernel
theorem dX6_init_47 : decode cX6_init 47 = .ok (.newarray .int, 2) := by decide +kernel
theorem dX6_init_49 : decode cX6_init 49 = .ok (.putfield 27, 3) := by decide +kernel
theorem dX6_init_52 : decode cX6_init 52 = .ok (.aload_n 0, 1) := by decide +kernel
theorem dX6_init_53 : decode cX6_init 53 = .ok (.iconst 0, 1) := by decide +kernel
theorem dX6_init_54 : decode cX6_init 54 = .ok (.putfield 30, 3) := by decide +kernel
theorem dX6_init_57 : decode cX6_init 57 = .ok (.aload_n 0, 1) := by decide +kernel
theorem dX6_init_58 : decode cX6_init 58 = .ok (.iconst 0, 1) := by decide +kernel
theorem dX6_init_59 : decode cX6_init 59 = .ok (.putfield 34, 3) := by decide +kernel
theorem dX6_init_62 : decode cX6_init 62 = .ok (.aload_n 0, 1) := by decide +kernel
theorem dX6_init_63 : decode cX6_init 63 = .ok (.iconst 0, 1) := by decide +kernel
theorem dX6_init_64 : decode cX6_init 64 = .ok (.putfield 37, 3) := by decide +kernel
theorem dX6_init_67 : decode cX6_init 67 = .ok (.aload_n 0, 1) := by decide +kernel
theorem dX6_init_68 : decode cX6_init 68 = .ok (.iconst 0, 1) := by decide +kernel
theorem dX6_init_69 : decode cX6_init 69 = .ok (.putfield 40, 3) := by decide +kernel
theorem dX6_init_72 : decode cX6_init 72 = .ok (.aload_n 0, 1) := by decide +kernel
theorem dX6_init_73 : decode cX6_init 73 = .ok (.iconst 0, 1) := by decide +kernel
theorem dX6_init_74 : decode cX6_init 74 = .ok (.putfield 43, 3) := by decide +kernel
theorem dX6_init_77 : decode cX6_init 77 = .ok (.return_, 1) := by decide +kernel
theorem dX6_clear_0 : decode cX6_clear 0 = .ok (.aload_n 0, 1) := by decide +kernel
theorem dX6_clear_1 : decode cX6_clear 1 = .ok (.iconst 0, 1) := by decide +kernel
theorem dX6_clear_2 : decode cX6_clear 2 = .ok (.putfield 30, 3) := by decide +kernel
theorem dX6_clear_5 : decode cX6_clear 5 = .ok (.aload_n 0, 1) := by decide +kernel
theorem dX6_clear_6 : decode cX6_clear 6 = .ok (.iconst 0, 1) := by decide +kernel
theorem dX6_clear_7 : decode cX6_clear 7 = .ok (.putfield 34, 3) := by decide +kernel
theorem dX6_clear_10 : decode cX6_clear 10 = .ok (.aload_n 0, 1) := by decide +kernel
theorem dX6_clear_11 : decode cX6_clear 11 = .ok (.iconst 0, 1) := by decide +kernel
theorem dX6_clear_12 : decode cX6_clear 12 = .ok (.putfield 37, 3) := by decide +kernel
theorem dX6_clear_15 : decode cX6_clear 15 = .ok (.aload_n 0, 1) := by decide +kernel
theorem dX6_clear_16 : decode cX6_clear 16 = .ok (.iconst 0, 1) := by decide +kernel
theorem dX6_clear_17 : decode cX6_clear 17 = .ok (.putfield 40, 3) := by decide +kernel
theorem dX6_clear_20 : decode cX6_clear 20 = .ok (.aload_n 0, 1) := by decide +kernel
theorem dX6_clear_21 : decode cX6_clear 21 = .ok (.iconst 0, 1) := by decide +kernel
theorem dX6_clear_22 : decode cX6_clear 22 = .ok (.putfield 43, 3) := by decide +kernel
theorem dX6_clear_25 : decode cX6_clear 25 = .ok (.return_, 1) := by decide +kernel
theorem dX6_copyFrom_0 : decode cX6_copyFrom 0 = .ok (.aload_n 1, 1) := by decide +kernel
theorem dX6_copyFrom_1 : decode cX6_copyFrom 1 = .ok (.getfield 9, 3) := by decide +kernel
theorem dX6_copyFrom_4 : decode cX6_copyFrom 4 = .ok (.iconst 0, 1) := by decide +kernel
theorem dX6_copyFrom_5 : decode cX6_copyFrom 5 = .ok (.aload_n 0, 1) := by decide +kernel
theorem dX6_copyFrom_6 : decode cX6_copyFrom 6 = .ok (.getfield 9, 3) := by decide +kernel
theorem dX6_copyFrom_9 : decode cX6_copyFrom 9 = .ok (.iconst 0, 1) := by decide +kernel
theorem dX6_copyFrom_10 : decode cX6_copyFrom 10 = .ok (.bipush 6, 2) := by decide +kernel
theorem dX6_copyFrom_12 : decode cX6_copyFrom 12 = .ok (.invokestatic 46, 3) := by decide +kernel
theorem dX6_copyFrom_15 : decode cX6_copyFrom 15 = .ok (.aload_n 1, 1) := by decide +kernel
theorem dX6_copyFrom_16 : decode cX6_copyFrom 16 = .ok (.getfield 15, 3) := by decide +kernel
theorem dX6_copyFrom_19 : decode cX6_copyFrom 19 = .ok (.iconst 0, 1) := by decide +kernel
theorem dX6_copyFrom_20 : decode cX6_copyFrom 20 = .ok (.aload_n 0, 1) := by decide +kernel
theorem dX6_copyFrom_21 : decode cX6_copyFrom 21 = .ok (.getfield 15, 3) := by decide +kernel
theorem dX6_copyFrom_24 : decode cX6_copyFrom 24 = .ok (.iconst 0, 1) := by decide +kernel
theorem dX6_copyFrom_25 : decode cX6_copyFrom 25 = .ok (.bipush 6, 2) := by decide +kernel
theorem dX6_copyFrom_27 : decode cX6_copyFrom 27 = .ok (.invokestatic 46, 3) := by decide +kernel
theorem dX6_copyFrom_30 : decode cX6_copyFrom 30 = .ok (.aload_n 1, 1) := by decide +kernel
theorem dX6_copyFrom_31 : decode cX6_copyFrom 31 = .ok (.getfield 18, 3) := by decide +kernel
theorem dX6_copyFrom_34 : decode cX6_copyFrom 34 = .ok (.iconst 0, 1) := by decide +kernel
theorem dX6_copyFrom_35 : decode cX6_copyFrom 35 = .ok (.aload_n 0, 1) := by decide +kernel
theorem dX6_copyFrom_36 : decode cX6_copyFrom 36 = .ok (.getfield 18, 3) := by decide +kernel
theorem dX6_copyFrom_39 : decode cX6_copyFrom 39 = .ok (.iconst 0, 1) := by decide +kernel
theorem dX6_copyFrom_40 : decode cX6_copyFrom 40 = .ok (.bipush 8, 2) := by decide +kernel
theorem dX6_copyFrom_42 : decode cX6_copyFrom 42 = .ok (.invokestatic 46, 3) := by decide +kernel
theorem dX6_copyFrom_45 : decode cX6_copyFrom 45 = .ok (.aload_n 1, 1) := by decide +kernel
theorem dX6_copyFrom_46 : decode cX6_copyFrom 46 = .ok (.getfield 21, 3) := by decide +kernel
theorem dX6_copyFrom_49 : decode cX6_copyFrom 49 = .ok (.iconst 0, 1) := by decide +kernel
theorem dX6_copyFrom_50 : decode cX6_copyFrom 50 = .ok (.aload_n 0, 1) := by decide +kernel
theorem dX6_copyFrom_51 : decode cX6_copyFrom 51 = .ok (.getfield 21, 3) := by decide +kernel
theorem dX6_copyFrom_54 : decode cX6_copyFrom 54 = .ok (.iconst 0, 1) := by decide +kernel
theorem dX6_copyFrom_55 : decode cX6_copyFrom 55 = .ok (.bipush 8, 2) := by decide +kernel
theorem dX6_copyFrom_57 : decode cX6_copyFrom 57 = .ok (.invokestatic 46, 3) := by decide +kernel
theorem dX6_copyFrom_60 : decode cX6_copyFrom 60 = .ok (.aload_n 1, 1) := by decide +kernel
theorem dX6_copyFrom_61 : decode cX6_copyFrom 61 = .ok (.getfield 24, 3) := by decide +kernel
theorem dX6_copyFrom_64 : decode cX6_copyFrom 64 = .ok (.iconst 0, 1) := by decide +kernel
theorem dX6_copyFrom_65 : decode cX6_copyFrom 65 = .ok (.aload_n 0, 1) := by decide +kernel
theorem dX6_copyFrom_66 : decode cX6_copyFrom 66 = .ok (.getfield 24, 3) := by decide +kernel
theorem dX6_copyFrom_69 : decode cX6_copyFrom 69 = .ok (.iconst 0, 1) := by decide +kernel
theorem dX6_copyFrom_70 : decode cX6_copyFrom 70 = .ok (.bipush 8, 2) := by decide +kernel
theorem dX6_copyFrom_72 : decode cX6_copyFrom 72 = .ok (.invokestatic 46, 3) := by decide +kernel
theorem dX6_copyFrom_75 : decode cX6_copyFrom 75 = .ok (.aload_n 1, 1) := by decide +kernel
theorem dX6_copyFrom_76 : decode cX6_copyFrom 76 = .ok (.getfield 27, 3) := by decide +kernel
theorem dX6_copyFrom_79 : decode cX6_copyFrom 79 = .ok (.iconst 0, 1) := by decide +kernel
theorem dX6_copyFrom_80 : decode cX6_copyFrom 80 = .ok (.aload_n 0, 1) := by decide +kernel
theorem dX6_copyFrom_81 : decode cX6_copyFrom 81 = .ok (.getfield 27, 3) := by decide +kernel
theorem dX6_copyFrom_84 : decode cX6_copyFrom 84 = .ok (.iconst 0, 1) := by decide +kernel
theorem dX6_copyFrom_85 : decode cX6_copyFrom 85 = .ok (.bipush 8, 2) := by decide +kernel
theorem dX6_copyFrom_87 : decode cX6_copyFrom 87 = .ok (.invokestatic 46, 3) := by decide +kernel
theorem dX6_copyFrom_90 : decode cX6_copyFrom 90 = .ok (.aload_n 0, 1) := by decide +kernel
theorem dX6_copyFrom_91 : decode cX6_copyFrom 91 = .ok (.aload_n 1, 1) := by decide +kernel
theorem dX6_copyFrom_92 : decode cX6_copyFrom 92 = .ok (.getfield 30, 3) := by decide +kernel
theorem dX6_copyFrom_95 : decode cX6_copyFrom 95 = .ok (.putfield 30, 3) := by decide +kernel
theorem dX6_copyFrom_98 : decode cX6_copyFrom 98 = .ok (.aload_n 0, 1) := by decide +kernel
theorem dX6_copyFrom_99 : decode cX6_copyFrom 99 = .ok (.aload_n 1, 1) := by decide +kernel
theorem dX6_copyFrom_100 : decode cX6_copyFrom 100 = .ok (.getfield 34, 3) := by decide +kernel
theorem dX6_copyFrom_103 : decode cX6_copyFrom 103 = .ok (.putfield 34, 3) := by decide +kernel
theorem dX6_copyFrom_106 : decode cX6_copyFrom 106 = .ok (.aload_n 0, 1) := by decide +kernel
theorem dX6_copyFrom_107 : decode cX6_copyFrom 107 = .ok (.aload_n 1, 1) := by decide +kernel
theorem dX6_copyFrom_108 : decode cX6_copyFrom 108 = .ok (.getfield 37, 3) := by decide +kernel
theorem dX6_copyFrom_111 : decode cX6_copyFrom 111 = .ok (.putfield 37, 3) := by decide +kernel
theorem dX6_copyFrom_114 : decode cX6_copyFrom 114 = .ok (.aload_n 0, 1) := by decide +kernel
theorem dX6_copyFrom_115 : decode cX6_copyFrom 115 = .ok (.aload_n 1, 1) := by decide +kernel
theorem dX6_copyFrom_116 : decode cX6_copyFrom 116 = .ok (.getfield 40, 3) := by decide +kernel
theorem dX6_copyFrom_119 : decode cX6_copyFrom 119 = .ok (.putfield 40, 3) := by decide +kernel
theorem dX6_copyFrom_122 : decode cX6_copyFrom 122 = .ok (.aload_n 0, 1) := by decide +kernel
theorem dX6_copyFrom_123 : decode cX6_copyFrom 123 = .ok (.aload_n 1, 1) := by decide +kernel
theorem dX6_copyFrom_124 : decode cX6_copyFrom 124 = .ok (.getfield 43, 3) := by decide +kernel
theorem dX6_copyFrom_127 : decode cX6_copyFrom 127 = .ok (.putfield 43, 3) := by decide +kernel
theorem dX6_copyFrom_130 : decode cX6_copyFrom 130 = .ok (.return_, 1) := by decide +kernel
theorem dX6_isHearse_0 : decode cX6_isHearse 0 = .ok (.iload_n 1, 1) := by decide +kernel
theorem dX6_isHearse_1 : decode cX6_isHearse 1 = .ok (.ifCond .lt 15, 3) := by decide +kernel
theorem dX6_isHearse_4 : decode cX6_isHearse 4 = .ok (.iload_n 1, 1) := by decide +kernel
theorem dX6_isHearse_5 : decode cX6_isHearse 5 = .ok (.aload_n 0, 1) := by decide +kernel
theorem dX6_isHearse_6 : decode cX6_isHearse 6 = .ok (.getfield 30, 3) := by decide +kernel
theorem dX6_isHearse_9 : decode cX6_isHearse 9 = .ok (.if_icmp .ge 7, 3) := by decide +kernel
theorem dX6_isHearse_12 : decode cX6_isHearse 12 = .ok (.iconst 1, 1) := by decide +kernel
theorem dX6_isHearse_13 : decode cX6_isHearse 13 = .ok (.goto 4, 3) := by decide +kernel
theorem dX6_isHearse_16 : decode cX6_isHearse 16 = .ok (.iconst 0, 1) := by decide +kernel
theorem dX6_isHearse_17 : decode cX6_isHearse 17 = .ok (.ireturn, 1) := by decide +kernel
theorem dX6_isMourner_0 : decode cX6_isMourner 0 = .ok (.iload_n 1, 1) := by decide +kernel
theorem dX6_isMourner_1 : decode cX6_isMourner 1 = .ok (.ifCond .lt 15, 3) := by decide +kernel
theorem dX6_isMourner_4 : decode cX6_isMourner 4 = .ok (.iload_n 1, 1) := by decide +kernel
theorem dX6_isMourner_5 : decode cX6_isMourner 5 = .ok (.aload_n 0, 1) := by decide +kernel
theorem dX6_isMourner_6 : decode cX6_isMourner 6 = .ok (.getfield 34, 3) := by decide +kernel
theorem dX6_isMourner_9 : decode cX6_isMourner 9 = .ok (.if_icmp .ge 7, 3) := by decide +kernel
theorem dX6_isMourner_12 : decode cX6_isMourner 12 = .ok (.iconst 1, 1) := by decide +kernel
theorem dX6_isMourner_13 : decode cX6_isMourner 13 = .ok (.goto 4, 3) := by decide +kernel
theorem dX6_isMourner_16 : decode cX6_isMourner 16 = .ok (.iconst 0, 1) := by decide +kernel
theorem dX6_isMourner_17 : decode cX6_isMourner 17 = .ok (.ireturn, 1) := by decide +kernel
theorem dX6_hasArrived_0 : decode cX6_hasArrived 0 = .ok (.aload_n 0, 1) := by decide +kernel
theorem dX6_hasArrived_1 : decode cX6_hasArrived 1 = .ok (.getfield 15, 3) := by decide +kernel
theorem dX6_hasArrived_4 : decode cX6_hasArrived 4 = .ok (.iload_n 1, 1) := by decide +kernel
theorem dX6_hasArrived_5 : decode cX6_hasArrived 5 = .ok (.iaload, 1) := by decide +kernel
theorem dX6_hasArrived_6 : decode cX6_hasArrived 6 = .ok (.ifCond .le 7, 3) := by decide +kernel
theorem dX6_hasArrived_9 : decode cX6_hasArrived 9 = .ok (.iconst 1, 1) := by decide +kernel
theorem dX6_hasArrived_10 : decode cX6_hasArrived 10 = .ok (.goto 4, 3) := by decide +kernel
theorem dX6_hasArrived_13 : decode cX6_hasArrived 13 = .ok (.iconst 0, 1) := by decide +kernel
theorem dX6_hasArrived_14 : decode cX6_hasArrived 14 = .ok (.ireturn, 1) := by decide +kernel
theorem dX6_hasEnded_0 : decode cX6_hasEnded 0 = .ok (.aload_n 0, 1) := by decide +kernel
theorem dX6_hasEnded_1 : decode cX6_hasEnded 1 = .ok (.getfield 27, 3) := by decide +kernel
theorem dX6_hasEnded_4 : decode cX6_hasEnded 4 = .ok (.iload_n 1, 1) := by decide +kernel
theorem dX6_hasEnded_5 : decode cX6_hasEnded 5 = .ok (.iaload, 1) := by decide +kernel
theorem dX6_hasEnded_6 : decode cX6_hasEnded 6 = .ok (.iconst (-1), 1) := by decide +kernel
theorem dX6_hasEnded_7 : decode cX6_hasEnded 7 = .ok (.if_icmp .eq 7, 3) := by decide +kernel
theorem dX6_hasEnded_10 : decode cX6_hasEnded 10 = .ok (.iconst 1, 1) := by decide +kernel
theorem dX6_hasEnded_11 : decode cX6_hasEnded 11 = .ok (.goto 4, 3) := by decide +kernel
theorem dX6_hasEnded_14 : decode cX6_hasEnded 14 = .ok (.iconst 0, 1) := by decide +kernel
theorem dX6_hasEnded_15 : decode cX6_hasEnded 15 = .ok (.ireturn, 1) := by decide +kernel
theorem dX6_isRight_0 : decode cX6_isRight 0 = .ok (.aload_n 0, 1) := by decide +kernel
theorem dX6_isRight_1 : decode cX6_isRight 1 = .ok (.getfield 27, 3) := by decide +kernel
theorem dX6_isRight_4 : decode cX6_isRight 4 = .ok (.iload_n 1, 1) := by decide +kernel
theorem dX6_isRight_5 : decode cX6_isRight 5 = .ok (.iaload, 1) := by decide +kernel
theorem dX6_isRight_6 : decode cX6_isRight 6 = .ok (.aload_n 0, 1) := by decide +kernel
theorem dX6_isRight_7 : decode cX6_isRight 7 = .ok (.getfield 21, 3) := by decide +kernel
theorem dX6_isRight_10 : decode cX6_isRight 10 = .ok (.iload_n 1, 1) := by decide +kernel
theorem dX6_isRight_11 : decode cX6_isRight 11 = .ok (.iaload, 1) := by decide +kernel
theorem dX6_isRight_12 : decode cX6_isRight 12 = .ok (.if_icmp .ne 7, 3) := by decide +kernel
theorem dX6_isRight_15 : decode cX6_isRight 15 = .ok (.iconst 1, 1) := by decide +kernel
theorem dX6_isRight_16 : decode cX6_isRight 16 = .ok (.goto 4, 3) := by decide +kernel
theorem dX6_isRight_19 : decode cX6_isRight 19 = .ok (.iconst 0, 1) := by decide +kernel
theorem dX6_isRight_20 : decode cX6_isRight 20 = .ok (.ireturn, 1) := by decide +kernel
theorem dX6_addHearse_0 : decode cX6_addHearse 0 = .ok (.aload_n 0, 1) := by decide +kernel
theorem dX6_addHearse_1 : decode cX6_addHearse 1 = .ok (.getfield 9, 3) := by decide +kernel
theorem dX6_addHearse_4 : decode cX6_addHearse 4 = .ok (.aload_n 0, 1) := by decide +kernel
theorem dX6_addHearse_5 : decode cX6_addHearse 5 = .ok (.getfield 30, 3) := by decide +kernel
theorem dX6_addHearse_8 : decode cX6_addHearse 8 = .ok (.iload_n 1, 1) := by decide +kernel
theorem dX6_addHearse_9 : decode cX6_addHearse 9 = .ok (.iastore, 1) := by decide +kernel
theorem dX6_addHearse_10 : decode cX6_addHearse 10 = .ok (.aload_n 0, 1) := by decide +kernel
theorem dX6_addHearse_11 : decode cX6_addHearse 11 = .ok (.getfield 15, 3) := by decide +kernel
theorem dX6_addHearse_14 : decode cX6_addHearse 14 = .ok (.aload_n 0, 1) := by decide +kernel
theorem dX6_addHearse_15 : decode cX6_addHearse 15 = .ok (.getfield 30, 3) := by decide +kernel
theorem dX6_addHearse_18 : decode cX6_addHearse 18 = .ok (.iconst 0, 1) := by decide +kernel
theorem dX6_addHearse_19 : decode cX6_addHearse 19 = .ok (.iastore, 1) := by decide +kernel
theorem dX6_addHearse_20 : decode cX6_addHearse 20 = .ok (.aload_n 0, 1) := by decide +kernel
theorem dX6_addHearse_21 : decode cX6_addHearse 21 = .ok (.dup, 1) := by decide +kernel
theorem dX6_addHearse_22 : decode cX6_addHearse 22 = .ok (.getfield 30, 3) := by decide +kernel
theorem dX6_addHearse_25 : decode cX6_addHearse 25 = .ok (.iconst 1, 1) := by decide +kernel
theorem dX6_addHearse_26 : decode cX6_addHearse 26 = .ok (.iadd, 1) := by decide +kernel
theorem dX6_addHearse_27 : decode cX6_addHearse 27 = .ok (.putfield 30, 3) := by decide +kernel
theorem dX6_addHearse_30 : decode cX6_addHearse 30 = .ok (.return_, 1) := by decide +kernel
theorem dX6_addMourner_0 : decode cX6_addMourner 0 = .ok (.aload_n 0, 1) := by decide +kernel
theorem dX6_addMourner_1 : decode cX6_addMourner 1 = .ok (.getfield 18, 3) := by decide +kernel
theorem dX6_addMourner_4 : decode cX6_addMourner 4 = .ok (.aload_n 0, 1) := by decide +kernel
theorem dX6_addMourner_5 : decode cX6_addMourner 5 = .ok (.getfield 34, 3) := by decide +kernel
theorem dX6_addMourner_8 : decode cX6_addMourner 8 = .ok (.iload_n 1, 1) := by decide +kernel
theorem dX6_addMourner_9 : decode cX6_addMourner 9 = .ok (.iastore, 1) := by decide +kernel
theorem dX6_addMourner_10 : decode cX6_addMourner 10 = .ok (.aload_n 0, 1) := by decide +kernel
theorem dX6_addMourner_11 : decode cX6_addMourner 11 = .ok (.getfield 21, 3) := by decide +kernel
theorem dX6_addMourner_14 : decode cX6_addMourner 14 = .ok (.aload_n 0, 1) := by decide +kernel
theorem dX6_addMourner_15 : decode cX6_addMourner 15 = .ok (.getfield 34, 3) := by decide +kernel
theorem dX6_addMourner_18 : decode cX6_addMourner 18 = .ok (.iload_n 2, 1) := by decide +kernel
theorem dX6_addMourner_19 : decode cX6_addMourner 19 = .ok (.iastore, 1) := by decide +kernel
theorem dX6_addMourner_20 : decode cX6_addMourner 20 = .ok (.aload_n 0, 1) := by decide +kernel
theorem dX6_addMourner_21 : decode cX6_addMourner 21 = .ok (.getfield 24, 3) := by decide +kernel
theorem dX6_addMourner_24 : decode cX6_addMourner 24 = .ok (.aload_n 0, 1) := by decide +kernel
theorem dX6_addMourner_25 : decode cX6_addMourner 25 = .ok (.getfield 34, 3) := by decide +kernel
theorem dX6_addMourner_28 : decode cX6_addMourner 28 = .ok (.iconst (-1), 1) := by decide +kernel
theorem dX6_addMourner_29 : decode cX6_addMourner 29 = .ok (.iastore, 1) := by decide +kernel
theorem dX6_addMourner_30 : decode cX6_addMourner 30 = .ok (.aload_n 0, 1) := by decide +kernel
theorem dX6_addMourner_31 : decode cX6_addMourner 31 = .ok (.getfield 27, 3) := by decide +kernel
theorem dX6_addMourner_34 : decode cX6_addMourner 34 = .ok (.aload_n 0, 1) := by decide +kernel
theorem dX6_addMourner_35 : decode cX6_addMourner 35 = .ok (.getfield 34, 3) := by decide +kernel
theorem dX6_addMourner_38 : decode cX6_addMourner 38 = .ok (.iconst (-1), 1) := by decide +kernel
theorem dX6_addMourner_39 : decode cX6_addMourner 39 = .ok (.iastore, 1) := by decide +kernel
theorem dX6_addMourner_40 : decode cX6_addMourner 40 = .ok (.aload_n 0, 1) := by decide +kernel
theorem dX6_addMourner_41 : decode cX6_addMourner 41 = .ok (.dup, 1) := by decide +kernel
theorem dX6_addMourner_42 : decode cX6_addMourner 42 = .ok (.getfield 34, 3) := by decide +kernel
theorem dX6_addMourner_45 : decode cX6_addMourner 45 = .ok (.iconst 1, 1) := by decide +kernel
theorem dX6_addMourner_46 : decode cX6_addMourner 46 = .ok (.iadd, 1) := by decide +kernel
theorem dX6_addMourner_47 : decode cX6_addMourner 47 = .ok (.putfield 34, 3) := by decide +kernel
theorem dX6_addMourner_50 : decode cX6_addMourner 50 = .ok (.return_, 1) := by decide +kernel
theorem dX6_arrive_0 : decode cX6_arrive 0 = .ok (.aload_n 0, 1) := by decide +kernel
theorem dX6_arrive_1 : decode cX6_arrive 1 = .ok (.dup, 1) := by decide +kernel
theorem dX6_arrive_2 : decode cX6_arrive 2 = .ok (.getfield 37, 3) := by decide +kernel
theorem dX6_arrive_5 : decode cX6_arrive 5 = .ok (.iconst 1, 1) := by decide +kernel
theorem dX6_arrive_6 : decode cX6_arrive 6 = .ok (.iadd, 1) := by decide +kernel
theorem dX6_arrive_7 : decode cX6_arrive 7 = .ok (.putfield 37, 3) := by decide +kernel
theorem dX6_arrive_10 : decode cX6_arrive 10 = .ok (.aload_n 0, 1) := by decide +kernel
theorem dX6_arrive_11 : decode cX6_arrive 11 = .ok (.getfield 15, 3) := by decide +kernel
theorem dX6_arrive_14 : decode cX6_arrive 14 = .ok (.iload_n 1, 1) := by decide +kernel
theorem dX6_arrive_15 : decode cX6_arrive 15 = .ok (.aload_n 0, 1) := by decide +kernel
theorem dX6_arrive_16 : decode cX6_arrive 16 = .ok (.getfield 37, 3) := by decide +kernel
theorem dX6_arrive_19 : decode cX6_arrive 19 = .ok (.iastore, 1) := by decide +kernel
theorem dX6_arrive_20 : decode cX6_arrive 20 = .ok (.aload_n 0, 1) := by decide +kernel
theorem dX6_arrive_21 : decode cX6_arrive 21 = .ok (.getfield 9, 3) := by decide +kernel
theorem dX6_arrive_24 : decode cX6_arrive 24 = .ok (.iload_n 1, 1) := by decide +kernel
theorem dX6_arrive_25 : decode cX6_arrive 25 = .ok (.iconst (-1), 1) := by decide +kernel
theorem dX6_arrive_26 : decode cX6_arrive 26 = .ok (.iastore, 1) := by decide +kernel
theorem dX6_arrive_27 : decode cX6_arrive 27 = .ok (.return_, 1) := by decide +kernel
theorem dX6_takeAway_0 : decode cX6_takeAway 0 = .ok (.aload_n 0, 1) := by decide +kernel
theorem dX6_takeAway_1 : decode cX6_takeAway 1 = .ok (.iload_n 1, 1) := by decide +kernel
theorem dX6_takeAway_2 : decode cX6_takeAway 2 = .ok (.invokevirtual 52, 3) := by decide +kernel
theorem dX6_takeAway_5 : decode cX6_takeAway 5 = .ok (.iconst 0, 1) := by decide +kernel
theorem dX6_takeAway_6 : decode cX6_takeAway 6 = .ok (.istore_n 2, 1) := by decide +kernel
theorem dX6_takeAway_7 : decode cX6_takeAway 7 = .ok (.iload_n 2, 1) := by decide +kernel
theorem dX6_takeAway_8 : decode cX6_takeAway 8 = .ok (.aload_n 0, 1) := by decide +kernel
theorem dX6_takeAway_9 : decode cX6_takeAway 9 = .ok (.getfield 34, 3) := by decide +kernel
theorem dX6_takeAway_12 : decode cX6_takeAway 12 = .ok (.if_icmp .ge 26, 3) := by decide +kernel
theorem dX6_takeAway_15 : decode cX6_takeAway 15 = .ok (.aload_n 0, 1) := by decide +kernel
theorem dX6_takeAway_16 : decode cX6_takeAway 16 = .ok (.getfield 24, 3) := by decide +kernel
theorem dX6_takeAway_19 : decode cX6_takeAway 19 = .ok (.iload_n 2, 1) := by decide +kernel
theorem dX6_takeAway_20 : decode cX6_takeAway 20 = .ok (.iaload, 1) := by decide +kernel
theorem dX6_takeAway_21 : decode cX6_takeAway 21 = .ok (.iload_n 1, 1) := by decide +kernel
theorem dX6_takeAway_22 : decode cX6_takeAway 22 = .ok (.if_icmp .ne 10, 3) := by decide +kernel
theorem dX6_takeAway_25 : decode cX6_takeAway 25 = .ok (.aload_n 0, 1) := by decide +kernel
theorem dX6_takeAway_26 : decode cX6_takeAway 26 = .ok (.getfield 24, 3) := by decide +kernel
theorem dX6_takeAway_29 : decode cX6_takeAway 29 = .ok (.iload_n 2, 1) := by decide +kernel
theorem dX6_takeAway_30 : decode cX6_takeAway 30 = .ok (.iconst (-1), 1) := by decide +kernel
theorem dX6_takeAway_31 : decode cX6_takeAway 31 = .ok (.iastore, 1) := by decide +kernel
theorem dX6_takeAway_32 : decode cX6_takeAway 32 = .ok (.iinc 2 1, 3) := by decide +kernel
theorem dX6_takeAway_35 : decode cX6_takeAway 35 = .ok (.goto (-28), 3) := by decide +kernel
theorem dX6_takeAway_38 : decode cX6_takeAway 38 = .ok (.return_, 1) := by decide +kernel
theorem dX6_endAt_0 : decode cX6_endAt 0 = .ok (.aload_n 0, 1) := by decide +kernel
theorem dX6_endAt_1 : decode cX6_endAt 1 = .ok (.getfield 27, 3) := by decide +kernel
theorem dX6_endAt_4 : decode cX6_endAt 4 = .ok (.iload_n 1, 1) := by decide +kernel
theorem dX6_endAt_5 : decode cX6_endAt 5 = .ok (.iload_n 2, 1) := by decide +kernel
theorem dX6_endAt_6 : decode cX6_endAt 6 = .ok (.iastore, 1) := by decide +kernel
theorem dX6_endAt_7 : decode cX6_endAt 7 = .ok (.aload_n 0, 1) := by decide +kernel
theorem dX6_endAt_8 : decode cX6_endAt 8 = .ok (.dup, 1) := by decide +kernel
theorem dX6_endAt_9 : decode cX6_endAt 9 = .ok (.getfield 40, 3) := by decide +kernel
theorem dX6_endAt_12 : decode cX6_endAt 12 = .ok (.iconst 1, 1) := by decide +kernel
theorem dX6_endAt_13 : decode cX6_endAt 13 = .ok (.iadd, 1) := by decide +kernel
theorem dX6_endAt_14 : decode cX6_endAt 14 = .ok (.putfield 40, 3) := by decide +kernel
theorem dX6_endAt_17 : decode cX6_endAt 17 = .ok (.return_, 1) := by decide +kernel
theorem dX6_placeHearses_0 : decode cX6_placeHearses 0 = .ok (.iconst 0, 1) := by decide +kernel
theorem dX6_placeHearses_1 : decode cX6_placeHearses 1 = .ok (.istore_n 2, 1) := by decide +kernel
theorem dX6_placeHearses_2 : decode cX6_placeHearses 2 = .ok (.iconst 0, 1) := by decide +kernel
theorem dX6_placeHearses_3 : decode cX6_placeHearses 3 = .ok (.istore_n 3, 1) := by decide +kernel
theorem dX6_placeHearses_4 : decode cX6_placeHearses 4 = .ok (.iload_n 3, 1) := by decide +kernel
theorem dX6_placeHearses_5 : decode cX6_placeHearses 5 = .ok (.aload_n 0, 1) := by decide +kernel
theorem dX6_placeHearses_6 : decode cX6_placeHearses 6 = .ok (.getfield 30, 3) := by decide +kernel
theorem dX6_placeHearses_9 : decode cX6_placeHearses 9 = .ok (.if_icmp .ge 29, 3) := by decide +kernel
theorem dX6_placeHearses_12 : decode cX6_placeHearses 12 = .ok (.aload_n 0, 1) := by decide +kernel
theorem dX6_placeHearses_13 : decode cX6_placeHearses 13 = .ok (.iload_n 3, 1) := by decide +kernel
theorem dX6_placeHearses_14 : decode cX6_placeHearses 14 = .ok (.invokevirtual 56, 3) := by decide +kernel
theorem dX6_placeHearses_17 : decode cX6_placeHearses 17 = .ok (.ifCond .ne 15, 3) := by decide +kernel
theorem dX6_placeHearses_20 : decode cX6_placeHearses 20 = .ok (.aload_n 0, 1) := by decide +kernel
theorem dX6_placeHearses_21 : decode cX6_placeHearses 21 = .ok (.getfield 9, 3) := by decide +kernel
theorem dX6_placeHearses_24 : decode cX6_placeHearses 24 = .ok (.iload_n 3, 1) := by decide +kernel
theorem dX6_placeHearses_25 : decode cX6_placeHearses 25 = .ok (.aload_n 1, 1) := by decide +kernel
theorem dX6_placeHearses_26 : decode cX6_placeHearses 26 = .ok (.iload_n 2, 1) := by decide +kernel
theorem dX6_placeHearses_27 : decode cX6_placeHearses 27 = .ok (.iaload, 1) := by decide +kernel
theorem dX6_placeHearses_28 : decode cX6_placeHearses 28 = .ok (.iastore, 1) := by decide +kernel
theorem dX6_placeHearses_29 : decode cX6_placeHearses 29 = .ok (.iinc 2 1, 3) := by decide +kernel
theorem dX6_placeHearses_32 : decode cX6_placeHearses 32 = .ok (.iinc 3 1, 3) := by decide +kernel
theorem dX6_placeHearses_35 : decode cX6_placeHearses 35 = .ok (.goto (-31), 3) := by decide +kernel
theorem dX6_placeHearses_38 : decode cX6_placeHearses 38 = .ok (.return_, 1) := by decide +kernel
theorem dX6_turn_0 : decode cX6_turn 0 = .ok (.aload_n 0, 1) := by decide +kernel
theorem dX6_turn_1 : decode cX6_turn 1 = .ok (.iload_n 1, 1) := by decide +kernel
theorem dX6_turn_2 : decode cX6_turn 2 = .ok (.invokevirtual 60, 3) := by decide +kernel
theorem dX6_turn_5 : decode cX6_turn 5 = .ok (.ifCond .ne 5, 3) := by decide +kernel
theorem dX6_turn_8 : decode cX6_turn 8 = .ok (.iconst (-1), 1) := by decide +kernel
theorem dX6_turn_9 : decode cX6_turn 9 = .ok (.ireturn, 1) := by decide +kernel
theorem dX6_turn_10 : decode cX6_turn 10 = .ok (.aload_n 0, 1) := by decide +kernel
theorem dX6_turn_11 : decode cX6_turn 11 = .ok (.iload_n 1, 1) := by decide +kernel
theorem dX6_turn_12 : decode cX6_turn 12 = .ok (.invokevirtual 63, 3) := by decide +kernel
theorem dX6_turn_15 : decode cX6_turn 15 = .ok (.ifCond .eq 6, 3) := by decide +kernel
theorem dX6_turn_18 : decode cX6_turn 18 = .ok (.bipush (-2), 2) := by decide +kernel
theorem dX6_turn_20 : decode cX6_turn 20 = .ok (.ireturn, 1) := by decide +kernel
theorem dX6_turn_21 : decode cX6_turn 21 = .ok (.aload_n 0, 1) := by decide +kernel
theorem dX6_turn_22 : decode cX6_turn 22 = .ok (.getfield 24, 3) := by decide +kernel
theorem dX6_turn_25 : decode cX6_turn 25 = .ok (.iload_n 1, 1) := by decide +kernel
theorem dX6_turn_26 : decode cX6_turn 26 = .ok (.iaload, 1) := by decide +kernel
theorem dX6_turn_27 : decode cX6_turn 27 = .ok (.istore_n 2, 1) := by decide +kernel
theorem dX6_turn_28 : decode cX6_turn 28 = .ok (.aload_n 0, 1) := by decide +kernel
theorem dX6_turn_29 : decode cX6_turn 29 = .ok (.aload_n 0, 1) := by decide +kernel
theorem dX6_turn_30 : decode cX6_turn 30 = .ok (.getfield 21, 3) := by decide +kernel
theorem dX6_turn_33 : decode cX6_turn 33 = .ok (.iload_n 1, 1) := by decide +kernel
theorem dX6_turn_34 : decode cX6_turn 34 = .ok (.iaload, 1) := by decide +kernel
theorem dX6_turn_35 : decode cX6_turn 35 = .ok (.invokevirtual 56, 3) := by decide +kernel
theorem dX6_turn_38 : decode cX6_turn 38 = .ok (.ifCond .ne 13, 3) := by decide +kernel
theorem dX6_turn_41 : decode cX6_turn 41 = .ok (.iload_n 2, 1) := by decide +kernel
theorem dX6_turn_42 : decode cX6_turn 42 = .ok (.aload_n 0, 1) := by decide +kernel
theorem dX6_turn_43 : decode cX6_turn 43 = .ok (.getfield 21, 3) := by decide +kernel
theorem dX6_turn_46 : decode cX6_turn 46 = .ok (.iload_n 1, 1) := by decide +kernel
theorem dX6_turn_47 : decode cX6_turn 47 = .ok (.iaload, 1) := by decide +kernel
theorem dX6_turn_48 : decode cX6_turn 48 = .ok (.if_icmp .ne 6, 3) := by decide +kernel
theorem dX6_turn_51 : decode cX6_turn 51 = .ok (.bipush (-3), 2) := by decide +kernel
theorem dX6_turn_53 : decode cX6_turn 53 = .ok (.ireturn, 1) := by decide +kernel
theorem dX6_turn_54 : decode cX6_turn 54 = .ok (.aload_n 0, 1) := by decide +kernel
theorem dX6_turn_55 : decode cX6_turn 55 = .ok (.getfield 24, 3) := by decide +kernel
theorem dX6_turn_58 : decode cX6_turn 58 = .ok (.iload_n 1, 1) := by decide +kernel
theorem dX6_turn_59 : decode cX6_turn 59 = .ok (.aload_n 0, 1) := by decide +kernel
theorem dX6_turn_60 : decode cX6_turn 60 = .ok (.getfield 21, 3) := by decide +kernel
theorem dX6_turn_63 : decode cX6_turn 63 = .ok (.iload_n 1, 1) := by decide +kernel
theorem dX6_turn_64 : decode cX6_turn 64 = .ok (.iaload, 1) := by decide +kernel
theorem dX6_turn_65 : decode cX6_turn 65 = .ok (.iastore, 1) := by decide +kernel
theorem dX6_turn_66 : decode cX6_turn 66 = .ok (.iload_n 2, 1) := by decide +kernel
theorem dX6_turn_67 : decode cX6_turn 67 = .ok (.iconst (-1), 1) := by decide +kernel
theorem dX6_turn_68 : decode cX6_turn 68 = .ok (.if_icmp .ne 8, 3) := by decide +kernel
theorem dX6_turn_71 : decode cX6_turn 71 = .ok (.bipush (-4), 2) := by decide +kernel
theorem dX6_turn_73 : decode cX6_turn 73 = .ok (.goto 4, 3) := by decide +kernel
theorem dX6_turn_76 : decode cX6_turn 76 = .ok (.iload_n 2, 1) := by decide +kernel
theorem dX6_turn_77 : decode cX6_turn 77 = .ok (.ireturn, 1) := by decide +kernel
theorem dX6_shove_0 : decode cX6_shove 0 = .ok (.aload_n 0, 1) := by decide +kernel
theorem dX6_shove_1 : decode cX6_shove 1 = .ok (.iload_n 1, 1) := by decide +kernel
theorem dX6_shove_2 : decode cX6_shove 2 = .ok (.invokevirtual 60, 3) := by decide +kernel
theorem dX6_shove_5 : decode cX6_shove 5 = .ok (.ifCond .eq 19, 3) := by decide +kernel
theorem dX6_shove_8 : decode cX6_shove 8 = .ok (.iload_n 2, 1) := by decide +kernel
theorem dX6_shove_9 : decode cX6_shove 9 = .ok (.bipush (-9), 2) := by decide +kernel
theorem dX6_shove_11 : decode cX6_shove 11 = .ok (.if_icmp .lt 13, 3) := by decide +kernel
theorem dX6_shove_14 : decode cX6_shove 14 = .ok (.iload_n 2, 1) := by decide +kernel
theorem dX6_shove_15 : decode cX6_shove 15 = .ok (.bipush 9, 2) := by decide +kernel
theorem dX6_shove_17 : decode cX6_shove 17 = .ok (.if_icmp .gt 7, 3) := by decide +kernel
theorem dX6_shove_20 : decode cX6_shove 20 = .ok (.iload_n 2, 1) := by decide +kernel
theorem dX6_shove_21 : decode cX6_shove 21 = .ok (.ifCond .ne 5, 3) := by decide +kernel
theorem dX6_shove_24 : decode cX6_shove 24 = .ok (.iconst (-1), 1) := by decide +kernel
theorem dX6_shove_25 : decode cX6_shove 25 = .ok (.ireturn, 1) := by decide +kernel
theorem dX6_shove_26 : decode cX6_shove 26 = .ok (.aload_n 0, 1) := by decide +kernel
theorem dX6_shove_27 : decode cX6_shove 27 = .ok (.iload_n 1, 1) := by decide +kernel
theorem dX6_shove_28 : decode cX6_shove 28 = .ok (.invokevirtual 63, 3) := by decide +kernel
theorem dX6_shove_31 : decode cX6_shove 31 = .ok (.ifCond .eq 6, 3) := by decide +kernel
theorem dX6_shove_34 : decode cX6_shove 34 = .ok (.bipush (-2), 2) := by decide +kernel
theorem dX6_shove_36 : decode cX6_shove 36 = .ok (.ireturn, 1) := by decide +kernel
theorem dX6_shove_37 : decode cX6_shove 37 = .ok (.aload_n 0, 1) := by decide +kernel
theorem dX6_shove_38 : decode cX6_shove 38 = .ok (.getfield 18, 3) := by decide +kernel
theorem dX6_shove_41 : decode cX6_shove 41 = .ok (.iload_n 1, 1) := by decide +kernel
theorem dX6_shove_42 : decode cX6_shove 42 = .ok (.aload_n 3, 1) := by decide +kernel
theorem dX6_shove_43 : decode cX6_shove 43 = .ok (.aload_n 0, 1) := by decide +kernel
theorem dX6_shove_44 : decode cX6_shove 44 = .ok (.getfield 18, 3) := by decide +kernel
theorem dX6_shove_47 : decode cX6_shove 47 = .ok (.iload_n 1, 1) := by decide +kernel
theorem dX6_shove_48 : decode cX6_shove 48 = .ok (.iaload, 1) := by decide +kernel
theorem dX6_shove_49 : decode cX6_shove 49 = .ok (.iload_n 2, 1) := by decide +kernel
theorem dX6_shove_50 : decode cX6_shove 50 = .ok (.iadd, 1) := by decide +kernel
theorem dX6_shove_51 : decode cX6_shove 51 = .ok (.invokevirtual 66, 3) := by decide +kernel
theorem dX6_shove_54 : decode cX6_shove 54 = .ok (.iastore, 1) := by decide +kernel
theorem dX6_shove_55 : decode cX6_shove 55 = .ok (.aload_n 0, 1) := by decide +kernel
theorem dX6_shove_56 : decode cX6_shove 56 = .ok (.getfield 18, 3) := by decide +kernel
theorem dX6_shove_59 : decode cX6_shove 59 = .ok (.iload_n 1, 1) := by decide +kernel
theorem dX6_shove_60 : decode cX6_shove 60 = .ok (.iaload, 1) := by decide +kernel
theorem dX6_shove_61 : decode cX6_shove 61 = .ok (.ireturn, 1) := by decide +kernel
theorem dX6_exchange_0 : decode cX6_exchange 0 = .ok (.aload_n 0, 1) := by decide +kernel
theorem dX6_exchange_1 : decode cX6_exchange 1 = .ok (.iload_n 1, 1) := by decide +kernel
theorem dX6_exchange_2 : decode cX6_exchange 2 = .ok (.invokevirtual 72, 3) := by decide +kernel
theorem dX6_exchange_5 : decode cX6_exchange 5 = .ok (.ifCond .eq 16, 3) := by decide +kernel
theorem dX6_exchange_8 : decode cX6_exchange 8 = .ok (.aload_n 0, 1) := by decide +kernel
theorem dX6_exchange_9 : decode cX6_exchange 9 = .ok (.iload_n 2, 1) := by decide +kernel
theorem dX6_exchange_10 : decode cX6_exchange 10 = .ok (.invokevirtual 72, 3) := by decide +kernel
theorem dX6_exchange_13 : decode cX6_exchange 13 = .ok (.ifCond .eq 8, 3) := by decide +kernel
theorem dX6_exchange_16 : decode cX6_exchange 16 = .ok (.iload_n 1, 1) := by decide +kernel
theorem dX6_exchange_17 : decode cX6_exchange 17 = .ok (.iload_n 2, 1) := by decide +kernel
theorem dX6_exchange_18 : decode cX6_exchange 18 = .ok (.if_icmp .ne 5, 3) := by decide +kernel
theorem dX6_exchange_21 : decode cX6_exchange 21 = .ok (.iconst (-1), 1) := by decide +kernel
theorem dX6_exchange_22 : decode cX6_exchange 22 = .ok (.ireturn, 1) := by decide +kernel
theorem dX6_exchange_23 : decode cX6_exchange 23 = .ok (.aload_n 0, 1) := by decide +kernel
theorem dX6_exchange_24 : decode cX6_exchange 24 = .ok (.iload_n 1, 1) := by decide +kernel
theorem dX6_exchange_25 : decode cX6_exchange 25 = .ok (.invokevirtual 56, 3) := by decide +kernel
theorem dX6_exchange_28 : decode cX6_exchange 28 = .ok (.ifCond .ne 11, 3) := by decide +kernel
theorem dX6_exchange_31 : decode cX6_exchange 31 = .ok (.aload_n 0, 1) := by decide +kernel
theorem dX6_exchange_32 : decode cX6_exchange 32 = .ok (.iload_n 2, 1) := by decide +kernel
theorem dX6_exchange_33 : decode cX6_exchange 33 = .ok (.invokevirtual 56, 3) := by decide +kernel
theorem dX6_exchange_36 : decode cX6_exchange 36 = .ok (.ifCond .eq 6, 3) := by decide +kernel
theorem dX6_exchange_39 : decode cX6_exchange 39 = .ok (.bipush (-2), 2) := by decide +kernel
theorem dX6_exchange_41 : decode cX6_exchange 41 = .ok (.ireturn, 1) := by decide +kernel
theorem dX6_exchange_42 : decode cX6_exchange 42 = .ok (.aload_n 0, 1) := by decide +kernel
theorem dX6_exchange_43 : decode cX6_exchange 43 = .ok (.getfield 9, 3) := by decide +kernel
theorem dX6_exchange_46 : decode cX6_exchange 46 = .ok (.iload_n 1, 1) := by decide +kernel
theorem dX6_exchange_47 : decode cX6_exchange 47 = .ok (.iaload, 1) := by decide +kernel
theorem dX6_exchange_48 : decode cX6_exchange 48 = .ok (.istore_n 3, 1) := by decide +kernel
theorem dX6_exchange_49 : decode cX6_exchange 49 = .ok (.aload_n 0, 1) := by decide +kernel
theorem dX6_exchange_50 : decode cX6_exchange 50 = .ok (.getfield 9, 3) := by decide +kernel
theorem dX6_exchange_53 : decode cX6_exchange 53 = .ok (.iload_n 1, 1) := by decide +kernel
theorem dX6_exchange_54 : decode cX6_exchange 54 = .ok (.aload_n 0, 1) := by decide +kernel
theorem dX6_exchange_55 : decode cX6_exchange 55 = .ok (.getfield 9, 3) := by decide +kernel
theorem dX6_exchange_58 : decode cX6_exchange 58 = .ok (.iload_n 2, 1) := by decide +kernel
theorem dX6_exchange_59 : decode cX6_exchange 59 = .ok (.iaload, 1) := by decide +kernel
theorem dX6_exchange_60 : decode cX6_exchange 60 = .ok (.iastore, 1) := by decide +kernel
theorem dX6_exchange_61 : decode cX6_exchange 61 = .ok (.aload_n 0, 1) := by decide +kernel
theorem dX6_exchange_62 : decode cX6_exchange 62 = .ok (.getfield 9, 3) := by decide +kernel
theorem dX6_exchange_65 : decode cX6_exchange 65 = .ok (.iload_n 2, 1) := by decide +kernel
theorem dX6_exchange_66 : decode cX6_exchange 66 = .ok (.iload_n 3, 1) := by decide +kernel
theorem dX6_exchange_67 : decode cX6_exchange 67 = .ok (.iastore, 1) := by decide +kernel
theorem dX6_exchange_68 : decode cX6_exchange 68 = .ok (.aload_n 0, 1) := by decide +kernel
theorem dX6_exchange_69 : decode cX6_exchange 69 = .ok (.getfield 9, 3) := by decide +kernel
theorem dX6_exchange_72 : decode cX6_exchange 72 = .ok (.iload_n 1, 1) := by decide +kernel
theorem dX6_exchange_73 : decode cX6_exchange 73 = .ok (.iaload, 1) := by decide +kernel
theorem dX6_exchange_74 : decode cX6_exchange 74 = .ok (.aload_n 0, 1) := by decide +kernel
theorem dX6_exchange_75 : decode cX6_exchange 75 = .ok (.getfield 9, 3) := by decide +kernel
theorem dX6_exchange_78 : decode cX6_exchange 78 = .ok (.iload_n 2, 1) := by decide +kernel
theorem dX6_exchange_79 : decode cX6_exchange 79 = .ok (.iaload, 1) := by decide +kernel
theorem dX6_exchange_80 : decode cX6_exchange 80 = .ok (.isub, 1) := by decide +kernel
theorem dX6_exchange_81 : decode cX6_exchange 81 = .ok (.invokestatic 75, 3) := by decide +kernel
theorem dX6_exchange_84 : decode cX6_exchange 84 = .ok (.ireturn, 1) := by decide +kernel
theorem dX6_hearseOn_0 : decode cX6_hearseOn 0 = .ok (.iconst 0, 1) := by decide +kernel
theorem dX6_hearseOn_1 : decode cX6_hearseOn 1 = .ok (.istore_n 2, 1) := by decide +kernel
theorem dX6_hearseOn_2 : decode cX6_hearseOn 2 = .ok (.iload_n 2, 1) := by decide +kernel
theorem dX6_hearseOn_3 : decode cX6_hearseOn 3 = .ok (.aload_n 0, 1) := by decide +kernel
theorem dX6_hearseOn_4 : decode cX6_hearseOn 4 = .ok (.getfield 30, 3) := by decide +kernel
theorem dX6_hearseOn_7 : decode cX6_hearseOn 7 = .ok (.if_icmp .ge 21, 3) := by decide +kernel
theorem dX6_hearseOn_10 : decode cX6_hearseOn 10 = .ok (.aload_n 0, 1) := by decide +kernel
theorem dX6_hearseOn_11 : decode cX6_hearseOn 11 = .ok (.getfield 9, 3) := by decide +kernel
theorem dX6_hearseOn_14 : decode cX6_hearseOn 14 = .ok (.iload_n 2, 1) := by decide +kernel
theorem dX6_hearseOn_15 : decode cX6_hearseOn 15 = .ok (.iaload, 1) := by decide +kernel
theorem dX6_hearseOn_16 : decode cX6_hearseOn 16 = .ok (.iload_n 1, 1) := by decide +kernel
theorem dX6_hearseOn_17 : decode cX6_hearseOn 17 = .ok (.if_icmp .ne 5, 3) := by decide +kernel
theorem dX6_hearseOn_20 : decode cX6_hearseOn 20 = .ok (.iload_n 2, 1) := by decide +kernel
