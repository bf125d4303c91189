theorem dX11_readLines_121 : decode cX11_readLines 121 = .ok (.aload_n 0, 1) := by decide +kernel
theorem dX11_readLines_122 : decode cX11_readLines 122 = .ok (.getfield 51, 3) := by decide +kernel
theorem dX11_readLines_125 : decode cX11_readLines 125 = .ok (.invokevirtual 136, 3) := by decide +kernel
theorem dX11_readLines_128 : decode cX11_readLines 128 = .ok (.iload_n 2, 1) := by decide +kernel
theorem dX11_readLines_129 : decode cX11_readLines 129 = .ok (.ireturn, 1) := by decide +kernel
theorem dX11_readHearse_0 : decode cX11_readHearse 0 = .ok (.aload_n 0, 1) := by decide +kernel
theorem dX11_readHearse_1 : decode cX11_readHearse 1 = .ok (.getfield 30, 3) := by decide +kernel
theorem dX11_readHearse_4 : decode cX11_readHearse 4 = .ok (.getfield 176, 3) := by decide +kernel
theorem dX11_readHearse_7 : decode cX11_readHearse 7 = .ok (.bipush 6, 2) := by decide +kernel
theorem dX11_readHearse_9 : decode cX11_readHearse 9 = .ok (.if_icmp .lt 5, 3) := by decide +kernel
theorem dX11_readHearse_12 : decode cX11_readHearse 12 = .ok (.iconst 0, 1) := by decide +kernel
theorem dX11_readHearse_13 : decode cX11_readHearse 13 = .ok (.ireturn, 1) := by decide +kernel
theorem dX11_readHearse_14 : decode cX11_readHearse 14 = .ok (.aload_n 0, 1) := by decide +kernel
theorem dX11_readHearse_15 : decode cX11_readHearse 15 = .ok (.invokevirtual 179, 3) := by decide +kernel
theorem dX11_readHearse_18 : decode cX11_readHearse 18 = .ok (.istore_n 1, 1) := by decide +kernel
theorem dX11_readHearse_19 : decode cX11_readHearse 19 = .ok (.iload_n 1, 1) := by decide +kernel
theorem dX11_readHearse_20 : decode cX11_readHearse 20 = .ok (.iconst (-1), 1) := by decide +kernel
theorem dX11_readHearse_21 : decode cX11_readHearse 21 = .ok (.if_icmp .ne 5, 3) := by decide +kernel
theorem dX11_readHearse_24 : decode cX11_readHearse 24 = .ok (.iconst 0, 1) := by decide +kernel
theorem dX11_readHearse_25 : decode cX11_readHearse 25 = .ok (.ireturn, 1) := by decide +kernel
theorem dX11_readHearse_26 : decode cX11_readHearse 26 = .ok (.aload_n 0, 1) := by decide +kernel
theorem dX11_readHearse_27 : decode cX11_readHearse 27 = .ok (.getfield 30, 3) := by decide +kernel
theorem dX11_readHearse_30 : decode cX11_readHearse 30 = .ok (.iload_n 1, 1) := by decide +kernel
theorem dX11_readHearse_31 : decode cX11_readHearse 31 = .ok (.invokevirtual 182, 3) := by decide +kernel
theorem dX11_readHearse_34 : decode cX11_readHearse 34 = .ok (.iconst (-1), 1) := by decide +kernel
theorem dX11_readHearse_35 : decode cX11_readHearse 35 = .ok (.if_icmp .eq 12, 3) := by decide +kernel
theorem dX11_readHearse_38 : decode cX11_readHearse 38 = .ok (.aload_n 0, 1) := by decide +kernel
theorem dX11_readHearse_39 : decode cX11_readHearse 39 = .ok (.getfield 10, 3) := by decide +kernel
theorem dX11_readHearse_42 : decode cX11_readHearse 42 = .ok (.invokevirtual 185, 3) := by decide +kernel
theorem dX11_readHearse_45 : decode cX11_readHearse 45 = .ok (.iconst 0, 1) := by decide +kernel
theorem dX11_readHearse_46 : decode cX11_readHearse 46 = .ok (.ireturn, 1) := by decide +kernel
theorem dX11_readHearse_47 : decode cX11_readHearse 47 = .ok (.aload_n 0, 1) := by decide +kernel
theorem dX11_readHearse_48 : decode cX11_readHearse 48 = .ok (.getfield 30, 3) := by decide +kernel
theorem dX11_readHearse_51 : decode cX11_readHearse 51 = .ok (.iload_n 1, 1) := by decide +kernel
theorem dX11_readHearse_52 : decode cX11_readHearse 52 = .ok (.invokevirtual 188, 3) := by decide +kernel
theorem dX11_readHearse_55 : decode cX11_readHearse 55 = .ok (.iconst 1, 1) := by decide +kernel
theorem dX11_readHearse_56 : decode cX11_readHearse 56 = .ok (.ireturn, 1) := by decide +kernel
theorem dX11_readMourner_0 : decode cX11_readMourner 0 = .ok (.aload_n 0, 1) := by decide +kernel
theorem dX11_readMourner_1 : decode cX11_readMourner 1 = .ok (.getfield 30, 3) := by decide +kernel
theorem dX11_readMourner_4 : decode cX11_readMourner 4 = .ok (.getfield 191, 3) := by decide +kernel
theorem dX11_readMourner_7 : decode cX11_readMourner 7 = .ok (.bipush 8, 2) := by decide +kernel
theorem dX11_readMourner_9 : decode cX11_readMourner 9 = .ok (.if_icmp .lt 5, 3) := by decide +kernel
theorem dX11_readMourner_12 : decode cX11_readMourner 12 = .ok (.iconst 0, 1) := by decide +kernel
theorem dX11_readMourner_13 : decode cX11_readMourner 13 = .ok (.ireturn, 1) := by decide +kernel
theorem dX11_readMourner_14 : decode cX11_readMourner 14 = .ok (.aload_n 0, 1) := by decide +kernel
theorem dX11_readMourner_15 : decode cX11_readMourner 15 = .ok (.invokevirtual 179, 3) := by decide +kernel
theorem dX11_readMourner_18 : decode cX11_readMourner 18 = .ok (.istore_n 1, 1) := by decide +kernel
theorem dX11_readMourner_19 : decode cX11_readMourner 19 = .ok (.aload_n 0, 1) := by decide +kernel
theorem dX11_readMourner_20 : decode cX11_readMourner 20 = .ok (.getfield 10, 3) := by decide +kernel
theorem dX11_readMourner_23 : decode cX11_readMourner 23 = .ok (.invokevirtual 194, 3) := by decide +kernel
theorem dX11_readMourner_26 : decode cX11_readMourner 26 = .ok (.bipush 97, 2) := by decide +kernel
theorem dX11_readMourner_28 : decode cX11_readMourner 28 = .ok (.isub, 1) := by decide +kernel
theorem dX11_readMourner_29 : decode cX11_readMourner 29 = .ok (.istore_n 2, 1) := by decide +kernel
theorem dX11_readMourner_30 : decode cX11_readMourner 30 = .ok (.iload_n 1, 1) := by decide +kernel
theorem dX11_readMourner_31 : decode cX11_readMourner 31 = .ok (.iconst (-1), 1) := by decide +kernel
theorem dX11_readMourner_32 : decode cX11_readMourner 32 = .ok (.if_icmp .eq 18, 3) := by decide +kernel
theorem dX11_readMourner_35 : decode cX11_readMourner 35 = .ok (.iload_n 2, 1) := by decide +kernel
theorem dX11_readMourner_36 : decode cX11_readMourner 36 = .ok (.ifCond .lt 14, 3) := by decide +kernel
theorem dX11_readMourner_39 : decode cX11_readMourner 39 = .ok (.iload_n 2, 1) := by decide +kernel
theorem dX11_readMourner_40 : decode cX11_readMourner 40 = .ok (.aload_n 0, 1) := by decide +kernel
theorem dX11_readMourner_41 : decode cX11_readMourner 41 = .ok (.getfield 30, 3) := by decide +kernel
theorem dX11_readMourner_44 : decode cX11_readMourner 44 = .ok (.getfield 176, 3) := by decide +kernel
theorem dX11_readMourner_47 : decode cX11_readMourner 47 = .ok (.if_icmp .lt 5, 3) := by decide +kernel
theorem dX11_readMourner_50 : decode cX11_readMourner 50 = .ok (.iconst 0, 1) := by decide +kernel
theorem dX11_readMourner_51 : decode cX11_readMourner 51 = .ok (.ireturn, 1) := by decide +kernel
theorem dX11_readMourner_52 : decode cX11_readMourner 52 = .ok (.aload_n 0, 1) := by decide +kernel
theorem dX11_readMourner_53 : decode cX11_readMourner 53 = .ok (.getfield 10, 3) := by decide +kernel
theorem dX11_readMourner_56 : decode cX11_readMourner 56 = .ok (.invokevirtual 197, 3) := by decide +kernel
theorem dX11_readMourner_59 : decode cX11_readMourner 59 = .ok (.aload_n 0, 1) := by decide +kernel
theorem dX11_readMourner_60 : decode cX11_readMourner 60 = .ok (.getfield 30, 3) := by decide +kernel
theorem dX11_readMourner_63 : decode cX11_readMourner 63 = .ok (.iload_n 1, 1) := by decide +kernel
theorem dX11_readMourner_64 : decode cX11_readMourner 64 = .ok (.iload_n 2, 1) := by decide +kernel
theorem dX11_readMourner_65 : decode cX11_readMourner 65 = .ok (.invokevirtual 200, 3) := by decide +kernel
theorem dX11_readMourner_68 : decode cX11_readMourner 68 = .ok (.iconst 1, 1) := by decide +kernel
theorem dX11_readMourner_69 : decode cX11_readMourner 69 = .ok (.ireturn, 1) := by decide +kernel
theorem dX11_readCell_0 : decode cX11_readCell 0 = .ok (.aload_n 0, 1) := by decide +kernel
theorem dX11_readCell_1 : decode cX11_readCell 1 = .ok (.getfield 10, 3) := by decide +kernel
theorem dX11_readCell_4 : decode cX11_readCell 4 = .ok (.iconst 2, 1) := by decide +kernel
theorem dX11_readCell_5 : decode cX11_readCell 5 = .ok (.invokevirtual 204, 3) := by decide +kernel
theorem dX11_readCell_8 : decode cX11_readCell 8 = .ok (.istore_n 1, 1) := by decide +kernel
theorem dX11_readCell_9 : decode cX11_readCell 9 = .ok (.iload_n 1, 1) := by decide +kernel
theorem dX11_readCell_10 : decode cX11_readCell 10 = .ok (.aload_n 0, 1) := by decide +kernel
theorem dX11_readCell_11 : decode cX11_readCell 11 = .ok (.getfield 19, 3) := by decide +kernel
theorem dX11_readCell_14 : decode cX11_readCell 14 = .ok (.invokevirtual 207, 3) := by decide +kernel
theorem dX11_readCell_17 : decode cX11_readCell 17 = .ok (.if_icmp .lt 12, 3) := by decide +kernel
theorem dX11_readCell_20 : decode cX11_readCell 20 = .ok (.aload_n 0, 1) := by decide +kernel
theorem dX11_readCell_21 : decode cX11_readCell 21 = .ok (.getfield 10, 3) := by decide +kernel
theorem dX11_readCell_24 : decode cX11_readCell 24 = .ok (.invokevirtual 185, 3) := by decide +kernel
theorem dX11_readCell_27 : decode cX11_readCell 27 = .ok (.iconst (-1), 1) := by decide +kernel
theorem dX11_readCell_28 : decode cX11_readCell 28 = .ok (.ireturn, 1) := by decide +kernel
theorem dX11_readCell_29 : decode cX11_readCell 29 = .ok (.iload_n 1, 1) := by decide +kernel
theorem dX11_readCell_30 : decode cX11_readCell 30 = .ok (.ireturn, 1) := by decide +kernel
theorem dX11_weather_0 : decode cX11_weather 0 = .ok (.aload_n 0, 1) := by decide +kernel
theorem dX11_weather_1 : decode cX11_weather 1 = .ok (.invokevirtual 210, 3) := by decide +kernel
theorem dX11_weather_4 : decode cX11_weather 4 = .ok (.istore_n 1, 1) := by decide +kernel
theorem dX11_weather_5 : decode cX11_weather 5 = .ok (.aload_n 0, 1) := by decide +kernel
theorem dX11_weather_6 : decode cX11_weather 6 = .ok (.getfield 10, 3) := by decide +kernel
theorem dX11_weather_9 : decode cX11_weather 9 = .ok (.getfield 119, 3) := by decide +kernel
theorem dX11_weather_12 : decode cX11_weather 12 = .ok (.istore_n 2, 1) := by decide +kernel
theorem dX11_weather_13 : decode cX11_weather 13 = .ok (.iload_n 1, 1) := by decide +kernel
theorem dX11_weather_14 : decode cX11_weather 14 = .ok (.iconst (-1), 1) := by decide +kernel
theorem dX11_weather_15 : decode cX11_weather 15 = .ok (.if_icmp .ne 14, 3) := by decide +kernel
theorem dX11_weather_18 : decode cX11_weather 18 = .ok (.aload_n 0, 1) := by decide +kernel
theorem dX11_weather_19 : decode cX11_weather 19 = .ok (.getfield 19, 3) := by decide +kernel
theorem dX11_weather_22 : decode cX11_weather 22 = .ok (.aload_n 0, 1) := by decide +kernel
theorem dX11_weather_23 : decode cX11_weather 23 = .ok (.getfield 10, 3) := by decide +kernel
theorem dX11_weather_26 : decode cX11_weather 26 = .ok (.invokevirtual 213, 3) := by decide +kernel
theorem dX11_weather_29 : decode cX11_weather 29 = .ok (.aload_n 0, 1) := by decide +kernel
theorem dX11_weather_30 : decode cX11_weather 30 = .ok (.getfield 10, 3) := by decide +kernel
theorem dX11_weather_33 : decode cX11_weather 33 = .ok (.invokevirtual 140, 3) := by decide +kernel
theorem dX11_weather_36 : decode cX11_weather 36 = .ok (.iload_n 1, 1) := by decide +kernel
theorem dX11_weather_37 : decode cX11_weather 37 = .ok (.iconst (-1), 1) := by decide +kernel
theorem dX11_weather_38 : decode cX11_weather 38 = .ok (.if_icmp .ne 7, 3) := by decide +kernel
theorem dX11_weather_41 : decode cX11_weather 41 = .ok (.iload_n 2, 1) := by decide +kernel
theorem dX11_weather_42 : decode cX11_weather 42 = .ok (.goto 6, 3) := by decide +kernel
theorem dX11_weather_45 : decode cX11_weather 45 = .ok (.iconst (-1), 1) := by decide +kernel
theorem dX11_weather_46 : decode cX11_weather 46 = .ok (.iload_n 1, 1) := by decide +kernel
theorem dX11_weather_47 : decode cX11_weather 47 = .ok (.isub, 1) := by decide +kernel
theorem dX11_weather_48 : decode cX11_weather 48 = .ok (.ireturn, 1) := by decide +kernel
theorem dX11_weatherFault_0 : decode cX11_weatherFault 0 = .ok (.iconst 0, 1) := by decide +kernel
theorem dX11_weatherFault_1 : decode cX11_weatherFault 1 = .ok (.istore_n 1, 1) := by decide +kernel
theorem dX11_weatherFault_2 : decode cX11_weatherFault 2 = .ok (.iload_n 1, 1) := by decide +kernel
theorem dX11_weatherFault_3 : decode cX11_weatherFault 3 = .ok (.aload_n 0, 1) := by decide +kernel
theorem dX11_weatherFault_4 : decode cX11_weatherFault 4 = .ok (.getfield 10, 3) := by decide +kernel
theorem dX11_weatherFault_7 : decode cX11_weatherFault 7 = .ok (.getfield 119, 3) := by decide +kernel
theorem dX11_weatherFault_10 : decode cX11_weatherFault 10 = .ok (.if_icmp .ge 38, 3) := by decide +kernel
theorem dX11_weatherFault_13 : decode cX11_weatherFault 13 = .ok (.aload_n 0, 1) := by decide +kernel
theorem dX11_weatherFault_14 : decode cX11_weatherFault 14 = .ok (.getfield 10, 3) := by decide +kernel
theorem dX11_weatherFault_17 : decode cX11_weatherFault 17 = .ok (.iload_n 1, 1) := by decide +kernel
theorem dX11_weatherFault_18 : decode cX11_weatherFault 18 = .ok (.invokevirtual 141, 3) := by decide +kernel
theorem dX11_weatherFault_21 : decode cX11_weatherFault 21 = .ok (.istore_n 2, 1) := by decide +kernel
theorem dX11_weatherFault_22 : decode cX11_weatherFault 22 = .ok (.iload_n 1, 1) := by decide +kernel
theorem dX11_weatherFault_23 : decode cX11_weatherFault 23 = .ok (.bipush 20, 2) := by decide +kernel
theorem dX11_weatherFault_25 : decode cX11_weatherFault 25 = .ok (.if_icmp .eq 15, 3) := by decide +kernel
theorem dX11_weatherFault_28 : decode cX11_weatherFault 28 = .ok (.iload_n 2, 1) := by decide +kernel
theorem dX11_weatherFault_29 : decode cX11_weatherFault 29 = .ok (.bipush 48, 2) := by decide +kernel
theorem dX11_weatherFault_31 : decode cX11_weatherFault 31 = .ok (.if_icmp .lt 9, 3) := by decide +kernel
theorem dX11_weatherFault_34 : decode cX11_weatherFault 34 = .ok (.iload_n 2, 1) := by decide +kernel
theorem dX11_weatherFault_35 : decode cX11_weatherFault 35 = .ok (.bipush 57, 2) := by decide +kernel
theorem dX11_weatherFault_37 : decode cX11_weatherFault 37 = .ok (.if_icmp .le 5, 3) := by decide +kernel
theorem dX11_weatherFault_40 : decode cX11_weatherFault 40 = .ok (.iload_n 1, 1) := by decide +kernel
theorem dX11_weatherFault_41 : decode cX11_weatherFault 41 = .ok (.ireturn, 1) := by decide +kernel
theorem dX11_weatherFault_42 : decode cX11_weatherFault 42 = .ok (.iinc 1 1, 3) := by decide +kernel
theorem dX11_weatherFault_45 : decode cX11_weatherFault 45 = .ok (.goto (-43), 3) := by decide +kernel
theorem dX11_weatherFault_48 : decode cX11_weatherFault 48 = .ok (.aload_n 0, 1) := by decide +kernel
theorem dX11_weatherFault_49 : decode cX11_weatherFault 49 = .ok (.getfield 10, 3) := by decide +kernel
theorem dX11_weatherFault_52 : decode cX11_weatherFault 52 = .ok (.invokevirtual 145, 3) := by decide +kernel
theorem dX11_weatherFault_55 : decode cX11_weatherFault 55 = .ok (.ifCond .eq 7, 3) := by decide +kernel
theorem dX11_weatherFault_58 : decode cX11_weatherFault 58 = .ok (.iconst 0, 1) := by decide +kernel
theorem dX11_weatherFault_59 : decode cX11_weatherFault 59 = .ok (.goto 4, 3) := by decide +kernel
theorem dX11_weatherFault_62 : decode cX11_weatherFault 62 = .ok (.iconst (-1), 1) := by decide +kernel
theorem dX11_weatherFault_63 : decode cX11_weatherFault 63 = .ok (.ireturn, 1) := by decide +kernel
theorem dX11_rule_0 : decode cX11_rule 0 = .ok (.aload_n 0, 1) := by decide +kernel
theorem dX11_rule_1 : decode cX11_rule 1 = .ok (.getfield 94, 3) := by decide +kernel
theorem dX11_rule_4 : decode cX11_rule 4 = .ok (.aload_n 0, 1) := by decide +kernel
theorem dX11_rule_5 : decode cX11_rule 5 = .ok (.getfield 10, 3) := by decide +kernel
theorem dX11_rule_8 : decode cX11_rule 8 = .ok (.aload_n 0, 1) := by decide +kernel
theorem dX11_rule_9 : decode cX11_rule 9 = .ok (.getfield 109, 3) := by decide +kernel
theorem dX11_rule_12 : decode cX11_rule 12 = .ok (.invokevirtual 216, 3) := by decide +kernel
theorem dX11_rule_15 : decode cX11_rule 15 = .ok (.istore_n 1, 1) := by decide +kernel
theorem dX11_rule_16 : decode cX11_rule 16 = .ok (.aload_n 0, 1) := by decide +kernel
theorem dX11_rule_17 : decode cX11_rule 17 = .ok (.getfield 10, 3) := by decide +kernel
theorem dX11_rule_20 : decode cX11_rule 20 = .ok (.invokevirtual 140, 3) := by decide +kernel
theorem dX11_rule_23 : decode cX11_rule 23 = .ok (.iload_n 1, 1) := by decide +kernel
theorem dX11_rule_24 : decode cX11_rule 24 = .ok (.iconst (-1), 1) := by decide +kernel
theorem dX11_rule_25 : decode cX11_rule 25 = .ok (.if_icmp .eq 7, 3) := by decide +kernel
theorem dX11_rule_28 : decode cX11_rule 28 = .ok (.iconst (-1), 1) := by decide +kernel
theorem dX11_rule_29 : decode cX11_rule 29 = .ok (.iload_n 1, 1) := by decide +kernel
theorem dX11_rule_30 : decode cX11_rule 30 = .ok (.isub, 1) := by decide +kernel
theorem dX11_rule_31 : decode cX11_rule 31 = .ok (.ireturn, 1) := by decide +kernel
theorem dX11_rule_32 : decode cX11_rule 32 = .ok (.aload_n 0, 1) := by decide +kernel
theorem dX11_rule_33 : decode cX11_rule 33 = .ok (.getfield 105, 3) := by decide +kernel
theorem dX11_rule_36 : decode cX11_rule 36 = .ok (.astore_n 2, 1) := by decide +kernel
theorem dX11_rule_37 : decode cX11_rule 37 = .ok (.aload_n 0, 1) := by decide +kernel
theorem dX11_rule_38 : decode cX11_rule 38 = .ok (.aload_n 0, 1) := by decide +kernel
theorem dX11_rule_39 : decode cX11_rule 39 = .ok (.getfield 109, 3) := by decide +kernel
theorem dX11_rule_42 : decode cX11_rule 42 = .ok (.putfield 105, 3) := by decide +kernel
theorem dX11_rule_45 : decode cX11_rule 45 = .ok (.aload_n 0, 1) := by decide +kernel
theorem dX11_rule_46 : decode cX11_rule 46 = .ok (.aload_n 2, 1) := by decide +kernel
theorem dX11_rule_47 : decode cX11_rule 47 = .ok (.putfield 109, 3) := by decide +kernel
theorem dX11_rule_50 : decode cX11_rule 50 = .ok (.iconst 0, 1) := by decide +kernel
theorem dX11_rule_51 : decode cX11_rule 51 = .ok (.ireturn, 1) := by decide +kernel
theorem dX11_hearse_0 : decode cX11_hearse 0 = .ok (.aload_n 0, 1) := by decide +kernel
theorem dX11_hearse_1 : decode cX11_hearse 1 = .ok (.getfield 26, 3) := by decide +kernel
theorem dX11_hearse_4 : decode cX11_hearse 4 = .ok (.iload_n 1, 1) := by decide +kernel
theorem dX11_hearse_5 : decode cX11_hearse 5 = .ok (.invokevirtual 220, 3) := by decide +kernel
theorem dX11_hearse_8 : decode cX11_hearse 8 = .ok (.ifCond .ne 13, 3) := by decide +kernel
theorem dX11_hearse_11 : decode cX11_hearse 11 = .ok (.new 223, 3) := by decide +kernel
theorem dX11_hearse_14 : decode cX11_hearse 14 = .ok (.dup, 1) := by decide +kernel
theorem dX11_hearse_15 : decode cX11_hearse 15 = .ok (.ldc 225, 2) := by decide +kernel
theorem dX11_hearse_17 : decode cX11_hearse 17 = .ok (.invokespecial 227, 3) := by decide +kernel
theorem dX11_hearse_20 : decode cX11_hearse 20 = .ok (.athrow, 1) := by decide +kernel
theorem dX11_hearse_21 : decode cX11_hearse 21 = .ok (.iload_n 2, 1) := by decide +kernel
theorem dX11_hearse_22 : decode cX11_hearse 22 = .ok (.tableswitch 112 0 5 #[38, 48, 58, 64, 80, 96], 38) := by decide +kernel
theorem dX11_hearse_60 : decode cX11_hearse 60 = .ok (.aload_n 0, 1) := by decide +kernel
theorem dX11_hearse_61 : decode cX11_hearse 61 = .ok (.getfield 26, 3) := by decide +kernel
theorem dX11_hearse_64 : decode cX11_hearse 64 = .ok (.getfield 230, 3) := by decide +kernel
theorem dX11_hearse_67 : decode cX11_hearse 67 = .ok (.iload_n 1, 1) := by decide +kernel
theorem dX11_hearse_68 : decode cX11_hearse 68 = .ok (.iaload, 1) := by decide +kernel
theorem dX11_hearse_69 : decode cX11_hearse 69 = .ok (.ireturn, 1) := by decide +kernel
theorem dX11_hearse_70 : decode cX11_hearse 70 = .ok (.aload_n 0, 1) := by decide +kernel
theorem dX11_hearse_71 : decode cX11_hearse 71 = .ok (.getfield 26, 3) := by decide +kernel
theorem dX11_hearse_74 : decode cX11_hearse 74 = .ok (.getfield 234, 3) := by decide +kernel
theorem dX11_hearse_77 : decode cX11_hearse 77 = .ok (.iload_n 1, 1) := by decide +kernel
theorem dX11_hearse_78 : decode cX11_hearse 78 = .ok (.iaload, 1) := by decide +kernel
theorem dX11_hearse_79 : decode cX11_hearse 79 = .ok (.ireturn, 1) := by decide +kernel
theorem dX11_hearse_80 : decode cX11_hearse 80 = .ok (.aload_n 0, 1) := by decide +kernel
theorem dX11_hearse_81 : decode cX11_hearse 81 = .ok (.iload_n 1, 1) := by decide +kernel
theorem dX11_hearse_82 : decode cX11_hearse 82 = .ok (.invokevirtual 237, 3) := by decide +kernel
theorem dX11_hearse_85 : decode cX11_hearse 85 = .ok (.ireturn, 1) := by decide +kernel
theorem dX11_hearse_86 : decode cX11_hearse 86 = .ok (.aload_n 0, 1) := by decide +kernel
theorem dX11_hearse_87 : decode cX11_hearse 87 = .ok (.getfield 26, 3) := by decide +kernel
theorem dX11_hearse_90 : decode cX11_hearse 90 = .ok (.aload_n 0, 1) := by decide +kernel
theorem dX11_hearse_91 : decode cX11_hearse 91 = .ok (.getfield 26, 3) := by decide +kernel
theorem dX11_hearse_94 : decode cX11_hearse 94 = .ok (.getfield 240, 3) := by decide +kernel
theorem dX11_hearse_97 : decode cX11_hearse 97 = .ok (.iload_n 1, 1) := by decide +kernel
theorem dX11_hearse_98 : decode cX11_hearse 98 = .ok (.invokevirtual 243, 3) := by decide +kernel
theorem dX11_hearse_101 : decode cX11_hearse 101 = .ok (.ireturn, 1) := by decide +kernel
theorem dX11_hearse_102 : decode cX11_hearse 102 = .ok (.aload_n 0, 1) := by decide +kernel
theorem dX11_hearse_103 : decode cX11_hearse 103 = .ok (.getfield 26, 3) := by decide +kernel
theorem dX11_hearse_106 : decode cX11_hearse 106 = .ok (.aload_n 0, 1) := by decide +kernel
theorem dX11_hearse_107 : decode cX11_hearse 107 = .ok (.getfield 26, 3) := by decide +kernel
theorem dX11_hearse_110 : decode cX11_hearse 110 = .ok (.getfield 247, 3) := by decide +kernel
theorem dX11_hearse_113 : decode cX11_hearse 113 = .ok (.iload_n 1, 1) := by decide +kernel
theorem dX11_hearse_114 : decode cX11_hearse 114 = .ok (.invokevirtual 243, 3) := by decide +kernel
theorem dX11_hearse_117 : decode cX11_hearse 117 = .ok (.ireturn, 1) := by decide +kernel
theorem dX11_hearse_118 : decode cX11_hearse 118 = .ok (.aload_n 0, 1) := by decide +kernel
theorem dX11_hearse_119 : decode cX11_hearse 119 = .ok (.getfield 26, 3) := by decide +kernel
theorem dX11_hearse_122 : decode cX11_hearse 122 = .ok (.aload_n 0, 1) := by decide +kernel
theorem dX11_hearse_123 : decode cX11_hearse 123 = .ok (.getfield 26, 3) := by decide +kernel
theorem dX11_hearse_126 : decode cX11_hearse 126 = .ok (.getfield 250, 3) := by decide +kernel
theorem dX11_hearse_129 : decode cX11_hearse 129 = .ok (.iload_n 1, 1) := by decide +kernel
theorem dX11_hearse_130 : decode cX11_hearse 130 = .ok (.invokevirtual 243, 3) := by decide +kernel
theorem dX11_hearse_133 : decode cX11_hearse 133 = .ok (.ireturn, 1) := by decide +kernel
theorem dX11_hearse_134 : decode cX11_hearse 134 = .ok (.new 223, 3) := by decide +kernel
theorem dX11_hearse_137 : decode cX11_hearse 137 = .ok (.dup, 1) := by decide +kernel
theorem dX11_hearse_138 : decode cX11_hearse 138 = .ok (.ldc 253, 2) := by decide +kernel
theorem dX11_hearse_140 : decode cX11_hearse 140 = .ok (.invokespecial 227, 3) := by decide +kernel
theorem dX11_hearse_143 : decode cX11_hearse 143 = .ok (.athrow, 1) := by decide +kernel
theorem dX11_paceNow_0 : decode cX11_paceNow 0 = .ok (.aload_n 0, 1) := by decide +kernel
theorem dX11_paceNow_1 : decode cX11_paceNow 1 = .ok (.getfield 26, 3) := by decide +kernel
theorem dX11_paceNow_4 : decode cX11_paceNow 4 = .ok (.iload_n 1, 1) := by decide +kernel
theorem dX11_paceNow_5 : decode cX11_paceNow 5 = .ok (.invokevirtual 255, 3) := by decide +kernel
theorem dX11_paceNow_8 : decode cX11_paceNow 8 = .ok (.ifCond .eq 5, 3) := by decide +kernel
theorem dX11_paceNow_11 : decode cX11_paceNow 11 = .ok (.iconst 0, 1) := by decide +kernel
theorem dX11_paceNow_12 : decode cX11_paceNow 12 = .ok (.ireturn, 1) := by decide +kernel
theorem dX11_paceNow_13 : decode cX11_paceNow 13 = .ok (.aload_n 0, 1) := by decide +kernel
theorem dX11_paceNow_14 : decode cX11_paceNow 14 = .ok (.getfield 105, 3) := by decide +kernel
theorem dX11_paceNow_17 : decode cX11_paceNow 17 = .ok (.aload_n 0, 1) := by decide +kernel
theorem dX11_paceNow_18 : decode cX11_paceNow 18 = .ok (.getfield 26, 3) := by decide +kernel
theorem dX11_paceNow_21 : decode cX11_paceNow 21 = .ok (.aload_n 0, 1) := by decide +kernel
theorem dX11_paceNow_22 : decode cX11_paceNow 22 = .ok (.getfield 19, 3) := by decide +kernel
theorem dX11_paceNow_25 : decode cX11_paceNow 25 = .ok (.iload_n 1, 1) := by decide +kernel
theorem dX11_paceNow_26 : decode cX11_paceNow 26 = .ok (.invokevirtual 258, 3) := by decide +kernel
theorem dX11_paceNow_29 : decode cX11_paceNow 29 = .ok (.aload_n 0, 1) := by decide +kernel
theorem dX11_paceNow_30 : decode cX11_paceNow 30 = .ok (.getfield 105, 3) := by decide +kernel
theorem dX11_paceNow_33 : decode cX11_paceNow 33 = .ok (.invokevirtual 262, 3) := by decide +kernel
theorem dX11_paceNow_36 : decode cX11_paceNow 36 = .ok (.ireturn, 1) := by decide +kernel
theorem dX11_mourner_0 : decode cX11_mourner 0 = .ok (.aload_n 0, 1) := by decide +kernel
theorem dX11_mourner_1 : decode cX11_mourner 1 = .ok (.getfield 26, 3) := by decide +kernel
theorem dX11_mourner_4 : decode cX11_mourner 4 = .ok (.iload_n 1, 1) := by decide +kernel
theorem dX11_mourner_5 : decode cX11_mourner 5 = .ok (.invokevirtual 265, 3) := by decide +kernel
theorem dX11_mourner_8 : decode cX11_mourner 8 = .ok (.ifCond .ne 14, 3) := by decide +kernel
theorem dX11_mourner_11 : decode cX11_mourner 11 = .ok (.new 223, 3) := by decide +kernel
theorem dX11_mourner_14 : decode cX11_mourner 14 = .ok (.dup, 1) := by decide +kernel
theorem dX11_mourner_15 : decode cX11_mourner 15 = .ok (.ldc_w 268, 3) := by decide +kernel
theorem dX11_mourner_18 : decode cX11_mourner 18 = .ok (.invokespecial 227, 3) := by decide +kernel
theorem dX11_mourner_21 : decode cX11_mourner 21 = .ok (.athrow, 1) := by decide +kernel
theorem dX11_mourner_22 : decode cX11_mourner 22 = .ok (.iload_n 2, 1) := by decide +kernel
theorem dX11_mourner_23 : decode cX11_mourner 23 = .ok (.tableswitch 90 0 4 #[33, 43, 53, 63, 73], 33) := by decide +kernel
theorem dX11_mourner_56 : decode cX11_mourner 56 = .ok (.aload_n 0, 1) := by decide +kernel
theorem dX11_mourner_57 : decode cX11_mourner 57 = .ok (.getfield 26, 3) := by decide +kernel
theorem dX11_mourner_60 : decode cX11_mourner 60 = .ok (.getfield 270, 3) := by decide +kernel
theorem dX11_mourner_63 : decode cX11_mourner 63 = .ok (.iload_n 1, 1) := by decide +kernel
theorem dX11_mourner_64 : decode cX11_mourner 64 = .ok (.iaload, 1) := by decide +kernel
theorem dX11_mourner_65 : decode cX11_mourner 65 = .ok (.ireturn, 1) := by decide +kernel
theorem dX11_mourner_66 : decode cX11_mourner 66 = .ok (.aload_n 0, 1) := by decide +kernel
theorem dX11_mourner_67 : decode cX11_mourner 67 = .ok (.getfield 26, 3) := by decide +kernel
theorem dX11_mourner_70 : decode cX11_mourner 70 = .ok (.getfield 250, 3) := by decide +kernel
theorem dX11_mourner_73 : decode cX11_mourner 73 = .ok (.iload_n 1, 1) := by decide +kernel
theorem dX11_mourner_74 : decode cX11_mourner 74 = .ok (.iaload, 1) := by decide +kernel
theorem dX11_mourner_75 : decode cX11_mourner 75 = .ok (.ireturn, 1) := by decide +kernel
theorem dX11_mourner_76 : decode cX11_mourner 76 = .ok (.aload_n 0, 1) := by decide +kernel
theorem dX11_mourner_77 : decode cX11_mourner 77 = .ok (.getfield 26, 3) := by decide +kernel
theorem dX11_mourner_80 : decode cX11_mourner 80 = .ok (.getfield 240, 3) := by decide +kernel
theorem dX11_mourner_83 : decode cX11_mourner 83 = .ok (.iload_n 1, 1) := by decide +kernel
theorem dX11_mourner_84 : decode cX11_mourner 84 = .ok (.iaload, 1) := by decide +kernel
theorem dX11_mourner_85 : decode cX11_mourner 85 = .ok (.ireturn, 1) := by decide +kernel
theorem dX11_mourner_86 : decode cX11_mourner 86 = .ok (.aload_n 0, 1) := by decide +kernel
theorem dX11_mourner_87 : decode cX11_mourner 87 = .ok (.getfield 26, 3) := by decide +kernel
theorem dX11_mourner_90 : decode cX11_mourner 90 = .ok (.getfield 247, 3) := by decide +kernel
theorem dX11_mourner_93 : decode cX11_mourner 93 = .ok (.iload_n 1, 1) := by decide +kernel
theorem dX11_mourner_94 : decode cX11_mourner 94 = .ok (.iaload, 1) := by decide +kernel
theorem dX11_mourner_95 : decode cX11_mourner 95 = .ok (.ireturn, 1) := by decide +kernel
theorem dX11_mourner_96 : decode cX11_mourner 96 = .ok (.aload_n 0, 1) := by decide +kernel
theorem dX11_mourner_97 : decode cX11_mourner 97 = .ok (.getfield 26, 3) := by decide +kernel
theorem dX11_mourner_100 : decode cX11_mourner 100 = .ok (.aload_n 0, 1) := by decide +kernel
theorem dX11_mourner_101 : decode cX11_mourner 101 = .ok (.getfield 26, 3) := by decide +kernel
theorem dX11_mourner_104 : decode cX11_mourner 104 = .ok (.getfield 270, 3) := by decide +kernel
theorem dX11_mourner_107 : decode cX11_mourner 107 = .ok (.iload_n 1, 1) := by decide +kernel
theorem dX11_mourner_108 : decode cX11_mourner 108 = .ok (.iaload, 1) := by decide +kernel
theorem dX11_mourner_109 : decode cX11_mourner 109 = .ok (.invokevirtual 273, 3) := by decide +kernel
theorem dX11_mourner_112 : decode cX11_mourner 112 = .ok (.ireturn, 1) := by decide +kernel
theorem dX11_mourner_113 : decode cX11_mourner 113 = .ok (.new 223, 3) := by decide +kernel
theorem dX11_mourner_116 : decode cX11_mourner 116 = .ok (.dup, 1) := by decide +kernel
theorem dX11_mourner_117 : decode cX11_mourner 117 = .ok (.ldc_w 276, 3) := by decide +kernel
theorem dX11_mourner_120 : decode cX11_mourner 120 = .ok (.invokespecial 227, 3) := by decide +kernel
theorem dX11_mourner_123 : decode cX11_mourner 123 = .ok (.athrow, 1) := by decide +kernel
theorem dX11_sheet_0 : decode cX11_sheet 0 = .ok (.iload_n 1, 1) := by decide +kernel
theorem dX11_sheet_1 : decode cX11_sheet 1 = .ok (.ifCond .lt 14, 3) := by decide +kernel
theorem dX11_sheet_4 : decode cX11_sheet 4 = .ok (.iload_n 1, 1) := by decide +kernel
theorem dX11_sheet_5 : decode cX11_sheet 5 = .ok (.iconst 3, 1) := by decide +kernel
theorem dX11_sheet_6 : decode cX11_sheet 6 = .ok (.if_icmp .gt 9, 3) := by decide +kernel
theorem dX11_sheet_9 : decode cX11_sheet 9 = .ok (.iload_n 2, 1) := by decide +kernel
theorem dX11_sheet_10 : decode cX11_sheet 10 = .ok (.bipush 8, 2) := by decide +kernel
theorem dX11_sheet_12 : decode cX11_sheet 12 = .ok (.if_icmp .le 5, 3) := by decide +kernel
theorem dX11_sheet_15 : decode cX11_sheet 15 = .ok (.iconst (-1), 1) := by decide +kernel
theorem dX11_sheet_16 : decode cX11_sheet 16 = .ok (.ireturn, 1) := by decide +kernel
theorem dX11_sheet_17 : decode cX11_sheet 17 = .ok (.iload_n 1, 1) := by decide +kernel
theorem dX11_sheet_18 : decode cX11_sheet 18 = .ok (.iconst 3, 1) := by decide +kernel
theorem dX11_sheet_19 : decode cX11_sheet 19 = .ok (.if_icmp .ge 10, 3) := by decide +kernel
theorem dX11_sheet_22 : decode cX11_sheet 22 = .ok (.iload_n 2, 1) := by decide +kernel
theorem dX11_sheet_23 : decode cX11_sheet 23 = .ok (.ifCond .ge 6, 3) := by decide +kernel
theorem dX11_sheet_26 : decode cX11_sheet 26 = .ok (.bipush (-2), 2) := by decide +kernel
theorem dX11_sheet_28 : decode cX11_sheet 28 = .ok (.ireturn, 1) := by decide +kernel
theorem dX11_sheet_29 : decode cX11_sheet 29 = .ok (.iload_n 1, 1) := by decide +kernel
theorem dX11_sheet_30 : decode cX11_sheet 30 = .ok (.iconst 3, 1) := by decide +kernel
theorem dX11_sheet_31 : decode cX11_sheet 31 = .ok (.if_icmp .ne 7, 3) := by decide +kernel
theorem dX11_sheet_34 : decode cX11_sheet 34 = .ok (.iconst 0, 1) := by decide +kernel
theorem dX11_sheet_35 : decode cX11_sheet 35 = .ok (.goto 4, 3) := by decide +kernel
theorem dX11_sheet_38 : decode cX11_sheet 38 = .ok (.iload_n 2, 1) := by decide +kernel
theorem dX11_sheet_39 : decode cX11_sheet 39 = .ok (.istore 5, 2) := by decide +kernel
theorem dX11_sheet_41 : decode cX11_sheet 41 = .ok (.iconst 0, 1) := by decide +kernel
theorem dX11_sheet_42 : decode cX11_sheet 42 = .ok (.istore 6, 2) := by decide +kernel
theorem dX11_sheet_44 : decode cX11_sheet 44 = .ok (.iconst 0, 1) := by decide +kernel
theorem dX11_sheet_45 : decode cX11_sheet 45 = .ok (.istore 7, 2) := by decide +kernel
theorem dX11_sheet_47 : decode cX11_sheet 47 = .ok (.iload 7, 2) := by decide +kernel
theorem dX11_sheet_49 : decode cX11_sheet 49 = .ok (.aload_n 0, 1) := by decide +kernel
theorem dX11_sheet_50 : decode cX11_sheet 50 = .ok (.getfield 26, 3) := by decide +kernel
theorem dX11_sheet_53 : decode cX11_sheet 53 = .ok (.getfield 191, 3) := by decide +kernel
theorem dX11_sheet_56 : decode cX11_sheet 56 = .ok (.if_icmp .ge 69, 3) := by decide +kernel
theorem dX11_sheet_59 : decode cX11_sheet 59 = .ok (.aload_n 0, 1) := by decide +kernel
theorem dX11_sheet_60 : decode cX11_sheet 60 = .ok (.getfield 26, 3) := by decide +kernel
theorem dX11_sheet_63 : decode cX11_sheet 63 = .ok (.iload 7, 2) := by decide +kernel
theorem dX11_sheet_65 : decode cX11_sheet 65 = .ok (.invokevirtual 278, 3) := by decide +kernel
theorem dX11_sheet_68 : decode cX11_sheet 68 = .ok (.ifCond .ne 36, 3) := by decide +kernel
theorem dX11_sheet_71 : decode cX11_sheet 71 = .ok (.aload_n 0, 1) := by decide +kernel
theorem dX11_sheet_72 : decode cX11_sheet 72 = .ok (.getfield 26, 3) := by decide +kernel
theorem dX11_sheet_75 : decode cX11_sheet 75 = .ok (.getfield 270, 3) := by decide +kernel
theorem dX11_sheet_78 : decode cX11_sheet 78 = .ok (.iload 7, 2) := by decide +kernel
theorem dX11_sheet_80 : decode cX11_sheet 80 = .ok (.iload 7, 2) := by decide +kernel
theorem dX11_sheet_82 : decode cX11_sheet 82 = .ok (.iload 5, 2) := by decide +kernel
theorem dX11_sheet_84 : decode cX11_sheet 84 = .ok (.if_icmp .ge 18, 3) := by decide +kernel
theorem dX11_sheet_87 : decode cX11_sheet 87 = .ok (.aload_n 0, 1) := by decide +kernel
theorem dX11_sheet_88 : decode cX11_sheet 88 = .ok (.iload_n 1, 1) := by decide +kernel
theorem dX11_sheet_89 : decode cX11_sheet 89 = .ok (.iload_n 3, 1) := by decide +kernel
theorem dX11_sheet_90 : decode cX11_sheet 90 = .ok (.iload 7, 2) := by decide +kernel
theorem dX11_sheet_92 : decode cX11_sheet 92 = .ok (.iload 4, 2) := by decide +kernel
theorem dX11_sheet_94 : decode cX11_sheet 94 = .ok (.imul, 1) := by decide +kernel
theorem dX11_sheet_95 : decode cX11_sheet 95 = .ok (.iadd, 1) := by decide +kernel
theorem dX11_sheet_96 : decode cX11_sheet 96 = .ok (.invokevirtual 281, 3) := by decide +kernel
theorem dX11_sheet_99 : decode cX11_sheet 99 = .ok (.goto 4, 3) := by decide +kernel
theorem dX11_sheet_102 : decode cX11_sheet 102 = .ok (.iconst 0, 1) := by decide +kernel
theorem dX11_sheet_103 : decode cX11_sheet 103 = .ok (.iastore, 1) := by decide +kernel
theorem dX11_sheet_104 : decode cX11_sheet 104 = .ok (.iload 6, 2) := by decide +kernel
theorem dX11_sheet_106 : decode cX11_sheet 106 = .ok (.aload_n 0, 1) := by decide +kernel
theorem dX11_sheet_107 : decode cX11_sheet 107 = .ok (.getfield 26, 3) := by decide +kernel
theorem dX11_sheet_110 : decode cX11_sheet 110 = .ok (.getfield 270, 3) := by decide +kernel
theorem dX11_sheet_113 : decode cX11_sheet 113 = .ok (.iload 7, 2) := by decide +kernel
theorem dX11_sheet_115 : decode cX11_sheet 115 = .ok (.iaload, 1) := by decide +kernel
theorem dX11_sheet_116 : decode cX11_sheet 116 = .ok (.iadd, 1) := by decide +kernel
theorem dX11_sheet_117 : decode cX11_sheet 117 = .ok (.istore 6, 2) := by decide +kernel
theorem dX11_sheet_119 : decode cX11_sheet 119 = .ok (.iinc 7 1, 3) := by decide +kernel
theorem dX11_sheet_122 : decode cX11_sheet 122 = .ok (.goto (-75), 3) := by decide +kernel
theorem dX11_sheet_125 : decode cX11_sheet 125 = .ok (.iload_n 1, 1) := by decide +kernel
theorem dX11_sheet_126 : decode cX11_sheet 126 = .ok (.iconst 3, 1) := by decide +kernel
theorem dX11_sheet_127 : decode cX11_sheet 127 = .ok (.if_icmp .ne 8, 3) := by decide +kernel
theorem dX11_sheet_130 : decode cX11_sheet 130 = .ok (.bipush (-3), 2) := by decide +kernel
theorem dX11_sheet_132 : decode cX11_sheet 132 = .ok (.goto 5, 3) := by decide +kernel
theorem dX11_sheet_135 : decode cX11_sheet 135 = .ok (.iload 6, 2) := by decide +kernel
theorem dX11_sheet_137 : decode cX11_sheet 137 = .ok (.ireturn, 1) := by decide +kernel
theorem dX11_cellOfEntry_0 : decode cX11_cellOfEntry 0 = .ok (.iload_n 2, 1) := by decide +kernel
theorem dX11_cellOfEntry_1 : decode cX11_cellOfEntry 1 = .ok (.istore_n 3, 1) := by decide +kernel
theorem dX11_cellOfEntry_2 : decode cX11_cellOfEntry 2 = .ok (.iload_n 1, 1) := by decide +kernel
theorem dX11_cellOfEntry_3 : decode cX11_cellOfEntry 3 = .ok (.ifCond .ne 9, 3) := by decide +kernel
theorem dX11_cellOfEntry_6 : decode cX11_cellOfEntry 6 = .ok (.iload_n 2, 1) := by decide +kernel
theorem dX11_cellOfEntry_7 : decode cX11_cellOfEntry 7 = .ok (.i2b, 1) := by decide +kernel
theorem dX11_cellOfEntry_8 : decode cX11_cellOfEntry 8 = .ok (.istore_n 3, 1) := by decide +kernel
theorem dX11_cellOfEntry_9 : decode cX11_cellOfEntry 9 = .ok (.goto 11, 3) := by decide +kernel
theorem dX11_cellOfEntry_12 : decode cX11_cellOfEntry 12 = .ok (.iload_n 1, 1) := by decide +kernel
theorem dX11_cellOfEntry_13 : decode cX11_cellOfEntry 13 = .ok (.iconst 1, 1) := by decide +kernel
theorem dX11_cellOfEntry_14 : decode cX11_cellOfEntry 14 = .ok (.if_icmp .ne 6, 3) := by decide +kernel
theorem dX11_cellOfEntry_17 : decode cX11_cellOfEntry 17 = .ok (.iload_n 2, 1) := by decide +kernel
theorem dX11_cellOfEntry_18 : decode cX11_cellOfEntry 18 = .ok (.i2s, 1) := by decide +kernel
theorem dX11_cellOfEntry_19 : decode cX11_cellOfEntry 19 = .ok (.istore_n 3, 1) := by decide +kernel
theorem dX11_cellOfEntry_20 : decode cX11_cellOfEntry 20 = .ok (.aload_n 0, 1) := by decide +kernel
theorem dX11_cellOfEntry_21 : decode cX11_cellOfEntry 21 = .ok (.getfield 19, 3) := by decide +kernel
theorem dX11_cellOfEntry_24 : decode cX11_cellOfEntry 24 = .ok (.iload_n 3, 1) := by decide +kernel
theorem dX11_cellOfEntry_25 : decode cX11_cellOfEntry 25 = .ok (.invokevirtual 285, 3) := by decide +kernel
theorem dX11_cellOfEntry_28 : decode cX11_cellOfEntry 28 = .ok (.ireturn, 1) := by decide +kernel
theorem dX11_steps_0 : decode cX11_steps 0 = .ok (.iload_n 1, 1) := by decide +kernel
theorem dX11_steps_1 : decode cX11_steps 1 = .ok (.ifCond .lt 9, 3) := by decide +kernel
theorem dX11_steps_4 : decode cX11_steps 4 = .ok (.iload_n 1, 1) := by decide +kernel
theorem dX11_steps_5 : decode cX11_steps 5 = .ok (.bipush 60, 2) := by decide +kernel
theorem dX11_steps_7 : decode cX11_steps 7 = .ok (.if_icmp .le 5, 3) := by decide +kernel
theorem dX11_steps_10 : decode cX11_steps 10 = .ok (.iconst (-1), 1) := by decide +kernel
theorem dX11_steps_11 : decode cX11_steps 11 = .ok (.ireturn, 1) := by decide +kernel
theorem dX11_steps_12 : decode cX11_steps 12 = .ok (.aload_n 0, 1) := by decide +kernel
theorem dX11_steps_13 : decode cX11_steps 13 = .ok (.getfield 36, 3) := by decide +kernel
theorem dX11_steps_16 : decode cX11_steps 16 = .ok (.aload_n 0, 1) := by decide +kernel
theorem dX11_steps_17 : decode cX11_steps 17 = .ok (.getfield 26, 3) := by decide +kernel
theorem dX11_steps_20 : decode cX11_steps 20 = .ok (.invokevirtual 153, 3) := by decide +kernel
theorem dX11_steps_23 : decode cX11_steps 23 = .ok (.aload_n 0, 1) := by decide +kernel
theorem dX11_steps_24 : decode cX11_steps 24 = .ok (.getfield 44, 3) := by decide +kernel
theorem dX11_steps_27 : decode cX11_steps 27 = .ok (.aload_n 0, 1) := by decide +kernel
theorem dX11_steps_28 : decode cX11_steps 28 = .ok (.getfield 26, 3) := by decide +kernel
theorem dX11_steps_31 : decode cX11_steps 31 = .ok (.aload_n 0, 1) := by decide +kernel
theorem dX11_steps_32 : decode cX11_steps 32 = .ok (.getfield 105, 3) := by decide +kernel
theorem dX11_steps_35 : decode cX11_steps 35 = .ok (.iload_n 1, 1) := by decide +kernel
theorem dX11_steps_36 : decode cX11_steps 36 = .ok (.invokevirtual 288, 3) := by decide +kernel
theorem dX11_steps_39 : decode cX11_steps 39 = .ok (.aload_n 0, 1) := by decide +kernel
theorem dX11_steps_40 : decode cX11_steps 40 = .ok (.getfield 66, 3) := by decide +kernel
theorem dX11_steps_43 : decode cX11_steps 43 = .ok (.aload_n 0, 1) := by decide +kernel
theorem dX11_steps_44 : decode cX11_steps 44 = .ok (.getfield 44, 3) := by decide +kernel
theorem dX11_steps_47 : decode cX11_steps 47 = .ok (.getfield 292, 3) := by decide +kernel
theorem dX11_steps_50 : decode cX11_steps 50 = .ok (.i2l, 1) := by decide +kernel
theorem dX11_steps_51 : decode cX11_steps 51 = .ok (.aload_n 0, 1) := by decide +kernel
theorem dX11_steps_52 : decode cX11_steps 52 = .ok (.getfield 44, 3) := by decide +kernel
theorem dX11_steps_55 : decode cX11_steps 55 = .ok (.getfield 295, 3) := by decide +kernel
theorem dX11_steps_58 : decode cX11_steps 58 = .ok (.i2l, 1) := by decide +kernel
theorem dX11_steps_59 : decode cX11_steps 59 = .ok (.invokevirtual 298, 3) := by decide +kernel
theorem dX11_steps_62 : decode cX11_steps 62 = .ok (.aload_n 0, 1) := by decide +kernel
theorem dX11_steps_63 : decode cX11_steps 63 = .ok (.aload_n 0, 1) := by decide +kernel
theorem dX11_steps_64 : decode cX11_steps 64 = .ok (.getfield 26, 3) := by decide +kernel
theorem dX11_steps_67 : decode cX11_steps 67 = .ok (.getfield 302, 3) := by decide +kernel
theorem dX11_steps_70 : decode cX11_steps 70 = .ok (.invokevirtual 305, 3) := by decide +kernel
theorem dX11_steps_73 : decode cX11_steps 73 = .ok (.ireturn, 1) := by decide +kernel
theorem dX11_turnsTo_0 : decode cX11_turnsTo 0 = .ok (.aload_n 0, 1) := by decide +kernel
theorem dX11_turnsTo_1 : decode cX11_turnsTo 1 = .ok (.getfield 36, 3) := by decide +kernel
theorem dX11_turnsTo_4 : decode cX11_turnsTo 4 = .ok (.aload_n 0, 1) := by decide +kernel
theorem dX11_turnsTo_5 : decode cX11_turnsTo 5 = .ok (.getfield 26, 3) := by decide +kernel
theorem dX11_turnsTo_8 : decode cX11_turnsTo 8 = .ok (.invokevirtual 153, 3) := by decide +kernel
theorem dX11_turnsTo_11 : decode cX11_turnsTo 11 = .ok (.aload_n 0, 1) := by decide +kernel
theorem dX11_turnsTo_12 : decode cX11_turnsTo 12 = .ok (.aload_n 0, 1) := by decide +kernel
theorem dX11_turnsTo_13 : decode cX11_turnsTo 13 = .ok (.getfield 26, 3) := by decide +kernel
theorem dX11_turnsTo_16 : decode cX11_turnsTo 16 = .ok (.iload_n 1, 1) := by decide +kernel
theorem dX11_turnsTo_17 : decode cX11_turnsTo 17 = .ok (.invokevirtual 308, 3) := by decide +kernel
theorem dX11_turnsTo_20 : decode cX11_turnsTo 20 = .ok (.invokevirtual 305, 3) := by decide +kernel
theorem dX11_turnsTo_23 : decode cX11_turnsTo 23 = .ok (.ireturn, 1) := by decide +kernel
theorem dX11_pushes_0 : decode cX11_pushes 0 = .ok (.aload_n 0, 1) := by decide +kernel
theorem dX11_pushes_1 : decode cX11_pushes 1 = .ok (.getfield 36, 3) := by decide +kernel
theorem dX11_pushes_4 : decode cX11_pushes 4 = .ok (.aload_n 0, 1) := by decide +kernel
theorem dX11_pushes_5 : decode cX11_pushes 5 = .ok (.getfield 26, 3) := by decide +kernel
theorem dX11_pushes_8 : decode cX11_pushes 8 = .ok (.invokevirtual 153, 3) := by decide +kernel
theorem dX11_pushes_11 : decode cX11_pushes 11 = .ok (.aload_n 0, 1) := by decide +kernel
theorem dX11_pushes_12 : decode cX11_pushes 12 = .ok (.aload_n 0, 1) := by decide +kernel
theorem dX11_pushes_13 : decode cX11_pushes 13 = .ok (.getfield 26, 3) := by decide +kernel
theorem dX11_pushes_16 : decode cX11_pushes 16 = .ok (.iload_n 1, 1) := by decide +kernel
theorem dX11_pushes_17 : decode cX11_pushes 17 = .ok (.iload_n 2, 1) := by decide +kernel
theorem dX11_pushes_18 : decode cX11_pushes 18 = .ok (.aload_n 0, 1) := by decide +kernel
theorem dX11_pushes_19 : decode cX11_pushes 19 = .ok (.getfield 19, 3) := by decide +kernel
theorem dX11_pushes_22 : decode cX11_pushes 22 = .ok (.invokevirtual 311, 3) := by decide +kernel
theorem dX11_pushes_25 : decode cX11_pushes 25 = .ok (.invokevirtual 305, 3) := by decide +kernel
theorem dX11_pushes_28 : decode cX11_pushes 28 = .ok (.ireturn, 1) := by decide +kernel
theorem dX11_swaps_0 : decode cX11_swaps 0 = .ok (.aload_n 0, 1) := by decide +kernel
theorem dX11_swaps_1 : decode cX11_swaps 1 = .ok (.getfield 36, 3) := by decide +kernel
theorem dX11_swaps_4 : decode cX11_swaps 4 = .ok (.aload_n 0, 1) := by decide +kernel
theorem dX11_swaps_5 : decode cX11_swaps 5 = .ok (.getfield 26, 3) := by decide +kernel
theorem dX11_swaps_8 : decode cX11_swaps 8 = .ok (.invokevirtual 153, 3) := by decide +kernel
theorem dX11_swaps_11 : decode cX11_swaps 11 = .ok (.aload_n 0, 1) := by decide +kernel
theorem dX11_swaps_12 : decode cX11_swaps 12 = .ok (.aload_n 0, 1) := by decide +kernel
theorem dX11_swaps_13 : decode cX11_swaps 13 = .ok (.getfield 26, 3) := by decide +kernel
theorem dX11_swaps_16 : decode cX11_swaps 16 = .ok (.iload_n 1, 1) := by decide +kernel
theorem dX11_swaps_17 : decode cX11_swaps 17 = .ok (.iload_n 2, 1) := by decide +kernel
theorem dX11_swaps_18 : decode cX11_swaps 18 = .ok (.invokevirtual 315, 3) := by decide +kernel
theorem dX11_swaps_21 : decode cX11_swaps 21 = .ok (.invokevirtual 305, 3) := by decide +kernel
theorem dX11_swaps_24 : decode cX11_swaps 24 = .ok (.ireturn, 1) := by decide +kernel
theorem dX11_isDone_0 : decode cX11_isDone 0 = .ok (.iload_n 0, 1) := by decide +kernel
theorem dX11_isDone_1 : decode cX11_isDone 1 = .ok (.ifCond .ge 9, 3) := by decide +kernel
theorem dX11_isDone_4 : decode cX11_isDone 4 = .ok (.iload_n 0, 1) := by decide +kernel
theorem dX11_isDone_5 : decode cX11_isDone 5 = .ok (.bipush (-4), 2) := by decide +kernel
theorem dX11_isDone_7 : decode cX11_isDone 7 = .ok (.if_icmp .ne 7, 3) := by decide +kernel
theorem dX11_isDone_10 : decode cX11_isDone 10 = .ok (.iconst 1, 1) := by decide +kernel
theorem dX11_isDone_11 : decode cX11_isDone 11 = .ok (.goto 4, 3) := by decide +kernel
theorem dX11_isDone_14 : decode cX11_isDone 14 = .ok (.iconst 0, 1) := by decide +kernel
theorem dX11_isDone_15 : decode cX11_isDone 15 = .ok (.ireturn, 1) := by decide +kernel
theorem dX11_undoable_0 : decode cX11_undoable 0 = .ok (.iload_n 1, 1) := by decide +kernel
theorem dX11_undoable_1 : decode cX11_undoable 1 = .ok (.invokestatic 318, 3) := by decide +kernel
theorem dX11_undoable_4 : decode cX11_undoable 4 = .ok (.ifCond .eq 14, 3) := by decide +kernel
theorem dX11_undoable_7 : decode cX11_undoable 7 = .ok (.aload_n 0, 1) := by decide +kernel
theorem dX11_undoable_8 : decode cX11_undoable 8 = .ok (.getfield 51, 3) := by decide +kernel
theorem dX11_undoable_11 : decode cX11_undoable 11 = .ok (.aload_n 0, 1) := by decide +kernel
theorem dX11_undoable_12 : decode cX11_undoable 12 = .ok (.getfield 36, 3) := by decide +kernel
theorem dX11_undoable_15 : decode cX11_undoable 15 = .ok (.invokevirtual 321, 3) := by decide +kernel
theorem dX11_undoable_18 : decode cX11_undoable 18 = .ok (.iload_n 1, 1) := by decide +kernel
theorem dX11_undoable_19 : decode cX11_undoable 19 = .ok (.ireturn, 1) := by decide +kernel
theorem dX11_hour_0 : decode cX11_hour 0 = .ok (.aload_n 0, 1) := by decide +kernel
theorem dX11_hour_1 : decode cX11_hour 1 = .ok (.invokevirtual 324, 3) := by decide +kernel
theorem dX11_hour_4 : decode cX11_hour 4 = .ok (.istore_n 1, 1) := by decide +kernel
theorem dX11_hour_5 : decode cX11_hour 5 = .ok (.iconst 0, 1) := by decide +kernel
theorem dX11_hour_6 : decode cX11_hour 6 = .ok (.istore_n 2, 1) := by decide +kernel
theorem dX11_hour_7 : decode cX11_hour 7 = .ok (.iconst 0, 1) := by decide +kernel
theorem dX11_hour_8 : decode cX11_hour 8 = .ok (.istore_n 3, 1) := by decide +kernel
theorem dX11_hour_9 : decode cX11_hour 9 = .ok (.aload_n 0, 1) := by decide +kernel
theorem dX11_hour_10 : decode cX11_hour 10 = .ok (.getfield 36, 3) := by decide +kernel
theorem dX11_hour_13 : decode cX11_hour 13 = .ok (.aload_n 0, 1) := by decide +kernel
theorem dX11_hour_14 : decode cX11_hour 14 = .ok (.getfield 26, 3) := by decide +kernel
theorem dX11_hour_17 : decode cX11_hour 17 = .ok (.invokevirtual 153, 3) := by decide +kernel
theorem dX11_hour_20 : decode cX11_hour 20 = .ok (.aload_n 0, 1) := by decide +kernel
theorem dX11_hour_21 : decode cX11_hour 21 = .ok (.getfield 10, 3) := by decide +kernel
theorem dX11_hour_24 : decode cX11_hour 24 = .ok (.bipush 60, 2) := by decide +kernel
theorem dX11_hour_26 : decode cX11_hour 26 = .ok (.invokevirtual 157, 3) := by decide +kernel
theorem dX11_hour_29 : decode cX11_hour 29 = .ok (.iconst 0, 1) := by decide +kernel
theorem dX11_hour_30 : decode cX11_hour 30 = .ok (.istore 4, 2) := by decide +kernel
theorem dX11_hour_32 : decode cX11_hour 32 = .ok (.iload 4, 2) := by decide +kernel
theorem dX11_hour_34 : decode cX11_hour 34 = .ok (.bipush 60, 2) := by decide +kernel
theorem dX11_hour_36 : decode cX11_hour 36 = .ok (.if_icmp .ge 56, 3) := by decide +kernel
theorem dX11_hour_39 : decode cX11_hour 39 = .ok (.iload_n 1, 1) := by decide +kernel
theorem dX11_hour_40 : decode cX11_hour 40 = .ok (.iconst (-1), 1) := by decide +kernel
theorem dX11_hour_41 : decode cX11_hour 41 = .ok (.if_icmp .ne 51, 3) := by decide +kernel
theorem dX11_hour_44 : decode cX11_hour 44 = .ok (.iload_n 3, 1) := by decide +kernel
theorem dX11_hour_45 : decode cX11_hour 45 = .ok (.ifCond .ne 47, 3) := by decide +kernel
theorem dX11_hour_48 : decode cX11_hour 48 = .ok (.aload_n 0, 1) := by decide +kernel
theorem dX11_hour_49 : decode cX11_hour 49 = .ok (.getfield 10, 3) := by decide +kernel
theorem dX11_hour_52 : decode cX11_hour 52 = .ok (.invokevirtual 327, 3) := by decide +kernel
theorem dX11_hour_55 : decode cX11_hour 55 = .ok (.ifCond .ne 37, 3) := by decide +kernel
theorem dX11_hour_58 : decode cX11_hour 58 = .ok (.aload_n 0, 1) := by decide +kernel
theorem dX11_hour_59 : decode cX11_hour 59 = .ok (.invokevirtual 330, 3) := by decide +kernel
theorem dX11_hour_62 : decode cX11_hour 62 = .ok (.invokestatic 318, 3) := by decide +kernel
theorem dX11_hour_65 : decode cX11_hour 65 = .ok (.ifCond .ne 7, 3) := by decide +kernel
theorem dX11_hour_68 : decode cX11_hour 68 = .ok (.iconst 1, 1) := by decide +kernel
theorem dX11_hour_69 : decode cX11_hour 69 = .ok (.goto 4, 3) := by decide +kernel
theorem dX11_hour_72 : decode cX11_hour 72 = .ok (.iconst 0, 1) := by decide +kernel
theorem dX11_hour_73 : decode cX11_hour 73 = .ok (.istore_n 3, 1) := by decide +kernel
theorem dX11_hour_74 : decode cX11_hour 74 = .ok (.iload_n 2, 1) := by decide +kernel
theorem dX11_hour_75 : decode cX11_hour 75 = .ok (.iload_n 3, 1) := by decide +kernel
theorem dX11_hour_76 : decode cX11_hour 76 = .ok (.ifCond .eq 7, 3) := by decide +kernel
theorem dX11_hour_79 : decode cX11_hour 79 = .ok (.iconst 0, 1) := by decide +kernel
theorem dX11_hour_80 : decode cX11_hour 80 = .ok (.goto 4, 3) := by decide +kernel
theorem dX11_hour_83 : decode cX11_hour 83 = .ok (.iconst 1, 1) := by decide +kernel
theorem dX11_hour_84 : decode cX11_hour 84 = .ok (.iadd, 1) := by decide +kernel
theorem dX11_hour_85 : decode cX11_hour 85 = .ok (.istore_n 2, 1) := by decide +kernel
theorem dX11_hour_86 : decode cX11_hour 86 = .ok (.iinc 4 1, 3) := by decide +kernel
theorem dX11_hour_89 : decode cX11_hour 89 = .ok (.goto (-57), 3) := by decide +kernel
theorem dX11_hour_92 : decode cX11_hour 92 = .ok (.aload_n 0, 1) := by decide +kernel
theorem dX11_hour_93 : decode cX11_hour 93 = .ok (.getfield 10, 3) := by decide +kernel
theorem dX11_hour_96 : decode cX11_hour 96 = .ok (.invokevirtual 140, 3) := by decide +kernel
theorem dX11_hour_99 : decode cX11_hour 99 = .ok (.iload_n 1, 1) := by decide +kernel
theorem dX11_hour_100 : decode cX11_hour 100 = .ok (.iconst (-1), 1) := by decide +kernel
theorem dX11_hour_101 : decode cX11_hour 101 = .ok (.if_icmp .eq 7, 3) := by decide +kernel
theorem dX11_hour_104 : decode cX11_hour 104 = .ok (.iconst (-1), 1) := by decide +kernel
theorem dX11_hour_105 : decode cX11_hour 105 = .ok (.iload_n 1, 1) := by decide +kernel
theorem dX11_hour_106 : decode cX11_hour 106 = .ok (.isub, 1) := by decide +kernel
theorem dX11_hour_107 : decode cX11_hour 107 = .ok (.ireturn, 1) := by decide +kernel
theorem dX11_hour_108 : decode cX11_hour 108 = .ok (.iload_n 2, 1) := by decide +kernel
theorem dX11_hour_109 : decode cX11_hour 109 = .ok (.ifCond .le 14, 3) := by decide +kernel
theorem dX11_hour_112 : decode cX11_hour 112 = .ok (.aload_n 0, 1) := by decide +kernel
theorem dX11_hour_113 : decode cX11_hour 113 = .ok (.getfield 51, 3) := by decide +kernel
theorem dX11_hour_116 : decode cX11_hour 116 = .ok (.aload_n 0, 1) := by decide +kernel
theorem dX11_hour_117 : decode cX11_hour 117 = .ok (.getfield 36, 3) := by decide +kernel
theorem dX11_hour_120 : decode cX11_hour 120 = .ok (.invokevirtual 321, 3) := by decide +kernel
theorem dX11_hour_123 : decode cX11_hour 123 = .ok (.aload_n 0, 1) := by decide +kernel
theorem dX11_hour_124 : decode cX11_hour 124 = .ok (.getfield 66, 3) := by decide +kernel
theorem dX11_hour_127 : decode cX11_hour 127 = .ok (.iload_n 3, 1) := by decide +kernel
theorem dX11_hour_128 : decode cX11_hour 128 = .ok (.ifCond .eq 7, 3) := by decide +kernel
theorem dX11_hour_131 : decode cX11_hour 131 = .ok (.lconst 1, 1) := by decide +kernel
theorem dX11_hour_132 : decode cX11_hour 132 = .ok (.goto 4, 3) := by decide +kernel
theorem dX11_hour_135 : decode cX11_hour 135 = .ok (.lconst 0, 1) := by decide +kernel
theorem dX11_hour_136 : decode cX11_hour 136 = .ok (.aload_n 0, 1) := by decide +kernel
theorem dX11_hour_137 : decode cX11_hour 137 = .ok (.getfield 26, 3) := by decide +kernel
theorem dX11_hour_140 : decode cX11_hour 140 = .ok (.getfield 333, 3) := by decide +kernel
theorem dX11_hour_143 : decode cX11_hour 143 = .ok (.i2l, 1) := by decide +kernel
theorem dX11_hour_144 : decode cX11_hour 144 = .ok (.invokevirtual 298, 3) := by decide +kernel
theorem dX11_hour_147 : decode cX11_hour 147 = .ok (.iload_n 2, 1) := by decide +kernel
theorem dX11_hour_148 : decode cX11_hour 148 = .ok (.ireturn, 1) := by decide +kernel
theorem dX11_hourFault_0 : decode cX11_hourFault 0 = .ok (.aload_n 0, 1) := by decide +kernel
theorem dX11_hourFault_1 : decode cX11_hourFault 1 = .ok (.getfield 10, 3) := by decide +kernel
theorem dX11_hourFault_4 : decode cX11_hourFault 4 = .ok (.bipush 60, 2) := by decide +kernel
theorem dX11_hourFault_6 : decode cX11_hourFault 6 = .ok (.invokevirtual 157, 3) := by decide +kernel
theorem dX11_hourFault_9 : decode cX11_hourFault 9 = .ok (.iconst 0, 1) := by decide +kernel
theorem dX11_hourFault_10 : decode cX11_hourFault 10 = .ok (.istore_n 1, 1) := by decide +kernel
theorem dX11_hourFault_11 : decode cX11_hourFault 11 = .ok (.iload_n 1, 1) := by decide +kernel
theorem dX11_hourFault_12 : decode cX11_hourFault 12 = .ok (.bipush 60, 2) := by decide +kernel
theorem dX11_hourFault_14 : decode cX11_hourFault 14 = .ok (.if_icmp .ge 34, 3) := by decide +kernel
theorem dX11_hourFault_17 : decode cX11_hourFault 17 = .ok (.aload_n 0, 1) := by decide +kernel
theorem dX11_hourFault_18 : decode cX11_hourFault 18 = .ok (.getfield 10, 3) := by decide +kernel
theorem dX11_hourFault_21 : decode cX11_hourFault 21 = .ok (.invokevirtual 327, 3) := by decide +kernel
theorem dX11_hourFault_24 : decode cX11_hourFault 24 = .ok (.ifCond .ne 24, 3) := by decide +kernel
theorem dX11_hourFault_27 : decode cX11_hourFault 27 = .ok (.aload_n 0, 1) := by decide +kernel
theorem dX11_hourFault_28 : decode cX11_hourFault 28 = .ok (.invokevirtual 336, 3) := by decide +kernel
theorem dX11_hourFault_31 : decode cX11_hourFault 31 = .ok (.ifCond .ne 11, 3) := by decide +kernel
theorem dX11_hourFault_34 : decode cX11_hourFault 34 = .ok (.aload_n 0, 1) := by decide +kernel
theorem dX11_hourFault_35 : decode cX11_hourFault 35 = .ok (.getfield 10, 3) := by decide +kernel
theorem dX11_hourFault_38 : decode cX11_hourFault 38 = .ok (.getfield 167, 3) := by decide +kernel
theorem dX11_hourFault_41 : decode cX11_hourFault 41 = .ok (.ireturn, 1) := by decide +kernel
theorem dX11_hourFault_42 : decode cX11_hourFault 42 = .ok (.iinc 1 1, 3) := by decide +kernel
theorem dX11_hourFault_45 : decode cX11_hourFault 45 = .ok (.goto (-34), 3) := by decide +kernel
theorem dX11_hourFault_48 : decode cX11_hourFault 48 = .ok (.aload_n 0, 1) := by decide +kernel
theorem dX11_hourFault_49 : decode cX11_hourFault 49 = .ok (.getfield 10, 3) := by decide +kernel
theorem dX11_hourFault_52 : decode cX11_hourFault 52 = .ok (.invokevirtual 173, 3) := by decide +kernel
theorem dX11_hourFault_55 : decode cX11_hourFault 55 = .ok (.ifCond .eq 7, 3) := by decide +kernel
theorem dX11_hourFault_58 : decode cX11_hourFault 58 = .ok (.iconst (-1), 1) := by decide +kernel
theorem dX11_hourFault_59 : decode cX11_hourFault 59 = .ok (.goto 10, 3) := by decide +kernel
theorem dX11_hourFault_62 : decode cX11_hourFault 62 = .ok (.aload_n 0, 1) := by decide +kernel
theorem dX11_hourFault_63 : decode cX11_hourFault 63 = .ok (.getfield 10, 3) := by decide +kernel
theorem dX11_hourFault_66 : decode cX11_hourFault 66 = .ok (.getfield 167, 3) := by decide +kernel
theorem dX11_hourFault_69 : decode cX11_hourFault 69 = .ok (.ireturn, 1) := by decide +kernel
theorem dX11_passAct_0 : decode cX11_passAct 0 = .ok (.aload_n 0, 1) := by decide +kernel
theorem dX11_passAct_1 : decode cX11_passAct 1 = .ok (.getfield 10, 3) := by decide +kernel
theorem dX11_passAct_4 : decode cX11_passAct 4 = .ok (.invokevirtual 194, 3) := by decide +kernel
theorem dX11_passAct_7 : decode cX11_passAct 7 = .ok (.istore_n 1, 1) := by decide +kernel
theorem dX11_passAct_8 : decode cX11_passAct 8 = .ok (.iload_n 1, 1) := by decide +kernel
theorem dX11_passAct_9 : decode cX11_passAct 9 = .ok (.bipush 112, 2) := by decide +kernel
theorem dX11_passAct_11 : decode cX11_passAct 11 = .ok (.if_icmp .eq 9, 3) := by decide +kernel
theorem dX11_passAct_14 : decode cX11_passAct 14 = .ok (.iload_n 1, 1) := by decide +kernel
theorem dX11_passAct_15 : decode cX11_passAct 15 = .ok (.bipush 98, 2) := by decide +kernel
theorem dX11_passAct_17 : decode cX11_passAct 17 = .ok (.if_icmp .ne 7, 3) := by decide +kernel
theorem dX11_passAct_20 : decode cX11_passAct 20 = .ok (.iconst 1, 1) := by decide +kernel
theorem dX11_passAct_21 : decode cX11_passAct 21 = .ok (.goto 4, 3) := by decide +kernel
theorem dX11_passAct_24 : decode cX11_passAct 24 = .ok (.iconst 0, 1) := by decide +kernel
theorem dX11_passAct_25 : decode cX11_passAct 25 = .ok (.istore_n 2, 1) := by decide +kernel
theorem dX11_passAct_26 : decode cX11_passAct 26 = .ok (.iload_n 2, 1) := by decide +kernel
theorem dX11_passAct_27 : decode cX11_passAct 27 = .ok (.ifCond .ne 23, 3) := by decide +kernel
theorem dX11_passAct_30 : decode cX11_passAct 30 = .ok (.iload_n 1, 1) := by decide +kernel
theorem dX11_passAct_31 : decode cX11_passAct 31 = .ok (.bipush 110, 2) := by decide +kernel
theorem dX11_passAct_33 : decode cX11_passAct 33 = .ok (.if_icmp .eq 17, 3) := by decide +kernel
theorem dX11_passAct_36 : decode cX11_passAct 36 = .ok (.iload_n 1, 1) := by decide +kernel
theorem dX11_passAct_37 : decode cX11_passAct 37 = .ok (.bipush 116, 2) := by decide +kernel
theorem dX11_passAct_39 : decode cX11_passAct 39 = .ok (.if_icmp .eq 11, 3) := by decide +kernel
theorem dX11_passAct_42 : decode cX11_passAct 42 = .ok (.iload_n 1, 1) := by decide +kernel
theorem dX11_passAct_43 : decode cX11_passAct 43 = .ok (.bipush 120, 2) := by decide +kernel
theorem dX11_passAct_45 : decode cX11_passAct 45 = .ok (.if_icmp .eq 5, 3) := by decide +kernel
theorem dX11_passAct_48 : decode cX11_passAct 48 = .ok (.iconst 0, 1) := by decide +kernel
theorem dX11_passAct_49 : decode cX11_passAct 49 = .ok (.ireturn, 1) := by decide +kernel
theorem dX11_passAct_50 : decode cX11_passAct 50 = .ok (.aload_n 0, 1) := by decide +kernel
theorem dX11_passAct_51 : decode cX11_passAct 51 = .ok (.getfield 10, 3) := by decide +kernel
theorem dX11_passAct_54 : decode cX11_passAct 54 = .ok (.invokevirtual 197, 3) := by decide +kernel
theorem dX11_passAct_57 : decode cX11_passAct 57 = .ok (.aload_n 0, 1) := by decide +kernel
theorem dX11_passAct_58 : decode cX11_passAct 58 = .ok (.getfield 10, 3) := by decide +kernel
theorem dX11_passAct_61 : decode cX11_passAct 61 = .ok (.invokevirtual 339, 3) := by decide +kernel
theorem dX11_passAct_64 : decode cX11_passAct 64 = .ok (.iconst (-1), 1) := by decide +kernel
theorem dX11_passAct_65 : decode cX11_passAct 65 = .ok (.if_icmp .eq 19, 3) := by decide +kernel
theorem dX11_passAct_68 : decode cX11_passAct 68 = .ok (.iload_n 2, 1) := by decide +kernel
theorem dX11_passAct_69 : decode cX11_passAct 69 = .ok (.ifCond .eq 17, 3) := by decide +kernel
theorem dX11_passAct_72 : decode cX11_passAct 72 = .ok (.aload_n 0, 1) := by decide +kernel
theorem dX11_passAct_73 : decode cX11_passAct 73 = .ok (.getfield 10, 3) := by decide +kernel
theorem dX11_passAct_76 : decode cX11_passAct 76 = .ok (.invokevirtual 194, 3) := by decide +kernel
theorem dX11_passAct_79 : decode cX11_passAct 79 = .ok (.bipush 48, 2) := by decide +kernel
theorem dX11_passAct_81 : decode cX11_passAct 81 = .ok (.if_icmp .ne 5, 3) := by decide +kernel
theorem dX11_passAct_84 : decode cX11_passAct 84 = .ok (.iconst 0, 1) := by decide +kernel
theorem dX11_passAct_85 : decode cX11_passAct 85 = .ok (.ireturn, 1) := by decide +kernel
theorem dX11_passAct_86 : decode cX11_passAct 86 = .ok (.iload_n 2, 1) := by decide +kernel
theorem dX11_passAct_87 : decode cX11_passAct 87 = .ok (.ifCond .ne 9, 3) := by decide +kernel
theorem dX11_passAct_90 : decode cX11_passAct 90 = .ok (.iload_n 1, 1) := by decide +kernel
theorem dX11_passAct_91 : decode cX11_passAct 91 = .ok (.bipush 120, 2) := by decide +kernel
theorem dX11_passAct_93 : decode cX11_passAct 93 = .ok (.if_icmp .ne 14, 3) := by decide +kernel
theorem dX11_passAct_96 : decode cX11_passAct 96 = .ok (.aload_n 0, 1) := by decide +kernel
theorem dX11_passAct_97 : decode cX11_passAct 97 = .ok (.getfield 10, 3) := by decide +kernel
theorem dX11_passAct_100 : decode cX11_passAct 100 = .ok (.invokevirtual 339, 3) := by decide +kernel
theorem dX11_passAct_103 : decode cX11_passAct 103 = .ok (.iconst (-1), 1) := by decide +kernel
theorem dX11_passAct_104 : decode cX11_passAct 104 = .ok (.if_icmp .eq 7, 3) := by decide +kernel
theorem dX11_passAct_107 : decode cX11_passAct 107 = .ok (.iconst 1, 1) := by decide +kernel
theorem dX11_passAct_108 : decode cX11_passAct 108 = .ok (.goto 4, 3) := by decide +kernel
theorem dX11_passAct_111 : decode cX11_passAct 111 = .ok (.iconst 0, 1) := by decide +kernel
theorem dX11_passAct_112 : decode cX11_passAct 112 = .ok (.ireturn, 1) := by decide +kernel
theorem dX11_doAct_0 : decode cX11_doAct 0 = .ok (.aload_n 0, 1) := by decide +kernel
theorem dX11_doAct_1 : decode cX11_doAct 1 = .ok (.getfield 10, 3) := by decide +kernel
theorem dX11_doAct_4 : decode cX11_doAct 4 = .ok (.invokevirtual 194, 3) := by decide +kernel
theorem dX11_doAct_7 : decode cX11_doAct 7 = .ok (.istore_n 1, 1) := by decide +kernel
theorem dX11_doAct_8 : decode cX11_doAct 8 = .ok (.aload_n 0, 1) := by decide +kernel
theorem dX11_doAct_9 : decode cX11_doAct 9 = .ok (.getfield 10, 3) := by decide +kernel
theorem dX11_doAct_12 : decode cX11_doAct 12 = .ok (.invokevirtual 197, 3) := by decide +kernel
theorem dX11_doAct_15 : decode cX11_doAct 15 = .ok (.aload_n 0, 1) := by decide +kernel
theorem dX11_doAct_16 : decode cX11_doAct 16 = .ok (.getfield 10, 3) := by decide +kernel
theorem dX11_doAct_19 : decode cX11_doAct 19 = .ok (.invokevirtual 339, 3) := by decide +kernel
theorem dX11_doAct_22 : decode cX11_doAct 22 = .ok (.istore_n 2, 1) := by decide +kernel
theorem dX11_doAct_23 : decode cX11_doAct 23 = .ok (.iload_n 1, 1) := by decide +kernel
theorem dX11_doAct_24 : decode cX11_doAct 24 = .ok (.lookupswitch 118 #[(98, 97), (110, 44), (112, 77), (116, 68)], 44) := by decide +kernel
theorem dX11_doAct_68 : decode cX11_doAct 68 = .ok (.aload_n 0, 1) := by decide +kernel
theorem dX11_doAct_69 : decode cX11_doAct 69 = .ok (.getfield 44, 3) := by decide +kernel
theorem dX11_doAct_72 : decode cX11_doAct 72 = .ok (.aload_n 0, 1) := by decide +kernel
theorem dX11_doAct_73 : decode cX11_doAct 73 = .ok (.getfield 26, 3) := by decide +kernel
theorem dX11_doAct_76 : decode cX11_doAct 76 = .ok (.aload_n 0, 1) := by decide +kernel
theorem dX11_doAct_77 : decode cX11_doAct 77 = .ok (.getfield 105, 3) := by decide +kernel
theorem dX11_doAct_80 : decode cX11_doAct 80 = .ok (.iload_n 2, 1) := by decide +kernel
theorem dX11_doAct_81 : decode cX11_doAct 81 = .ok (.invokevirtual 288, 3) := by decide +kernel
theorem dX11_doAct_84 : decode cX11_doAct 84 = .ok (.aload_n 0, 1) := by decide +kernel
theorem dX11_doAct_85 : decode cX11_doAct 85 = .ok (.getfield 26, 3) := by decide +kernel
theorem dX11_doAct_88 : decode cX11_doAct 88 = .ok (.getfield 302, 3) := by decide +kernel
theorem dX11_doAct_91 : decode cX11_doAct 91 = .ok (.ireturn, 1) := by decide +kernel
theorem dX11_doAct_92 : decode cX11_doAct 92 = .ok (.aload_n 0, 1) := by decide +kernel
theorem dX11_doAct_93 : decode cX11_doAct 93 = .ok (.getfield 26, 3) := by decide +kernel
theorem dX11_doAct_96 : decode cX11_doAct 96 = .ok (.iload_n 2, 1) := by decide +kernel
theorem dX11_doAct_97 : decode cX11_doAct 97 = .ok (.invokevirtual 308, 3) := by decide +kernel
theorem dX11_doAct_100 : decode cX11_doAct 100 = .ok (.ireturn, 1) := by decide +kernel
theorem dX11_doAct_101 : decode cX11_doAct 101 = .ok (.aload_n 0, 1) := by decide +kernel
theorem dX11_doAct_102 : decode cX11_doAct 102 = .ok (.getfield 26, 3) := by decide +kernel
theorem dX11_doAct_105 : decode cX11_doAct 105 = .ok (.iload_n 2, 1) := by decide +kernel
theorem dX11_doAct_106 : decode cX11_doAct 106 = .ok (.aload_n 0, 1) := by decide +kernel
theorem dX11_doAct_107 : decode cX11_doAct 107 = .ok (.getfield 10, 3) := by decide +kernel
theorem dX11_doAct_110 : decode cX11_doAct 110 = .ok (.invokevirtual 339, 3) := by decide +kernel
theorem dX11_doAct_113 : decode cX11_doAct 113 = .ok (.aload_n 0, 1) := by decide +kernel
theorem dX11_doAct_114 : decode cX11_doAct 114 = .ok (.getfield 19, 3) := by decide +kernel
theorem dX11_doAct_117 : decode cX11_doAct 117 = .ok (.invokevirtual 311, 3) := by decide +kernel
theorem dX11_doAct_120 : decode cX11_doAct 120 = .ok (.ireturn, 1) := by decide +kernel
theorem dX11_doAct_121 : decode cX11_doAct 121 = .ok (.aload_n 0, 1) := by decide +kernel
theorem dX11_doAct_122 : decode cX11_doAct 122 = .ok (.getfield 26, 3) := by decide +kernel
theorem dX11_doAct_125 : decode cX11_doAct 125 = .ok (.iload_n 2, 1) := by decide +kernel
theorem dX11_doAct_126 : decode cX11_doAct 126 = .ok (.aload_n 0, 1) := by decide +kernel
theorem dX11_doAct_127 : decode cX11_doAct 127 = .ok (.getfield 10, 3) := by decide +kernel
theorem dX11_doAct_130 : decode cX11_doAct 130 = .ok (.invokevirtual 339, 3) := by decide +kernel
theorem dX11_doAct_133 : decode cX11_doAct 133 = .ok (.ineg, 1) := by decide +kernel
theorem dX11_doAct_134 : decode cX11_doAct 134 = .ok (.aload_n 0, 1) := by decide +kernel
theorem dX11_doAct_135 : decode cX11_doAct 135 = .ok (.getfield 19, 3) := by decide +kernel
theorem dX11_doAct_138 : decode cX11_doAct 138 = .ok (.invokevirtual 311, 3) := by decide +kernel
theorem dX11_doAct_141 : decode cX11_doAct 141 = .ok (.ireturn, 1) := by decide +kernel
theorem dX11_doAct_142 : decode cX11_doAct 142 = .ok (.aload_n 0, 1) := by decide +kernel
theorem dX11_doAct_143 : decode cX11_doAct 143 = .ok (.getfield 26, 3) := by decide +kernel
theorem dX11_doAct_146 : decode cX11_doAct 146 = .ok (.iload_n 2, 1) := by decide +kernel
theorem dX11_doAct_147 : decode cX11_doAct 147 = .ok (.aload_n 0, 1) := by decide +kernel
theorem dX11_doAct_148 : decode cX11_doAct 148 = .ok (.getfield 10, 3) := by decide +kernel
theorem dX11_doAct_151 : decode cX11_doAct 151 = .ok (.invokevirtual 339, 3) := by decide +kernel
theorem dX11_doAct_154 : decode cX11_doAct 154 = .ok (.invokevirtual 315, 3) := by decide +kernel
theorem dX11_doAct_157 : decode cX11_doAct 157 = .ok (.ireturn, 1) := by decide +kernel
theorem dX11_undo_0 : decode cX11_undo 0 = .ok (.aload_n 0, 1) := by decide +kernel
theorem dX11_undo_1 : decode cX11_undo 1 = .ok (.getfield 51, 3) := by decide +kernel
theorem dX11_undo_4 : decode cX11_undo 4 = .ok (.aload_n 0, 1) := by decide +kernel
theorem dX11_undo_5 : decode cX11_undo 5 = .ok (.getfield 26, 3) := by decide +kernel
theorem dX11_undo_8 : decode cX11_undo 8 = .ok (.invokevirtual 342, 3) := by decide +kernel
theorem dX11_undo_11 : decode cX11_undo 11 = .ok (.ifCond .eq 13, 3) := by decide +kernel
theorem dX11_undo_14 : decode cX11_undo 14 = .ok (.aload_n 0, 1) := by decide +kernel
theorem dX11_undo_15 : decode cX11_undo 15 = .ok (.getfield 51, 3) := by decide +kernel
theorem dX11_undo_18 : decode cX11_undo 18 = .ok (.getfield 346, 3) := by decide +kernel
theorem dX11_undo_21 : decode cX11_undo 21 = .ok (.goto 4, 3) := by decide +kernel
theorem dX11_undo_24 : decode cX11_undo 24 = .ok (.iconst (-1), 1) := by decide +kernel
theorem dX11_undo_25 : decode cX11_undo 25 = .ok (.ireturn, 1) := by decide +kernel
theorem dX11_line_0 : decode cX11_line 0 = .ok (.aload_n 0, 1) := by decide +kernel
theorem dX11_line_1 : decode cX11_line 1 = .ok (.getfield 66, 3) := by decide +kernel
theorem dX11_line_4 : decode cX11_line 4 = .ok (.invokevirtual 349, 3) := by decide +kernel
theorem dX11_line_7 : decode cX11_line 7 = .ok (.aload_n 0, 1) := by decide +kernel
theorem dX11_line_8 : decode cX11_line 8 = .ok (.getfield 19, 3) := by decide +kernel
theorem dX11_line_11 : decode cX11_line 11 = .ok (.getfield 350, 3) := by decide +kernel
theorem dX11_line_14 : decode cX11_line 14 = .ok (.istore_n 1, 1) := by decide +kernel
theorem dX11_line_15 : decode cX11_line 15 = .ok (.iconst 0, 1) := by decide +kernel
theorem dX11_line_16 : decode cX11_line 16 = .ok (.istore_n 2, 1) := by decide +kernel
theorem dX11_line_17 : decode cX11_line 17 = .ok (.iload_n 2, 1) := by decide +kernel
theorem dX11_line_18 : decode cX11_line 18 = .ok (.bipush 6, 2) := by decide +kernel
theorem dX11_line_20 : decode cX11_line 20 = .ok (.if_icmp .ge 45, 3) := by decide +kernel
theorem dX11_line_23 : decode cX11_line 23 = .ok (.aload_n 0, 1) := by decide +kernel
theorem dX11_line_24 : decode cX11_line 24 = .ok (.getfield 26, 3) := by decide +kernel
theorem dX11_line_27 : decode cX11_line 27 = .ok (.iload_n 1, 1) := by decide +kernel
theorem dX11_line_28 : decode cX11_line 28 = .ok (.invokevirtual 353, 3) := by decide +kernel
theorem dX11_line_31 : decode cX11_line 31 = .ok (.istore_n 3, 1) := by decide +kernel
theorem dX11_line_32 : decode cX11_line 32 = .ok (.iload_n 3, 1) := by decide +kernel
theorem dX11_line_33 : decode cX11_line 33 = .ok (.iconst (-1), 1) := by decide +kernel
theorem dX11_line_34 : decode cX11_line 34 = .ok (.if_icmp .ne 6, 3) := by decide +kernel
theorem dX11_line_37 : decode cX11_line 37 = .ok (.goto 28, 3) := by decide +kernel
theorem dX11_line_40 : decode cX11_line 40 = .ok (.aload_n 0, 1) := by decide +kernel
theorem dX11_line_41 : decode cX11_line 41 = .ok (.getfield 26, 3) := by decide +kernel
theorem dX11_line_44 : decode cX11_line 44 = .ok (.getfield 230, 3) := by decide +kernel
theorem dX11_line_47 : decode cX11_line 47 = .ok (.iload_n 3, 1) := by decide +kernel
theorem dX11_line_48 : decode cX11_line 48 = .ok (.iaload, 1) := by decide +kernel
theorem dX11_line_49 : decode cX11_line 49 = .ok (.istore_n 1, 1) := by decide +kernel
theorem dX11_line_50 : decode cX11_line 50 = .ok (.aload_n 0, 1) := by decide +kernel
theorem dX11_line_51 : decode cX11_line 51 = .ok (.getfield 66, 3) := by decide +kernel
theorem dX11_line_54 : decode cX11_line 54 = .ok (.iload_n 3, 1) := by decide +kernel
theorem dX11_line_55 : decode cX11_line 55 = .ok (.i2l, 1) := by decide +kernel
theorem dX11_line_56 : decode cX11_line 56 = .ok (.invokevirtual 356, 3) := by decide +kernel
theorem dX11_line_59 : decode cX11_line 59 = .ok (.iinc 2 1, 3) := by decide +kernel
theorem dX11_line_62 : decode cX11_line 62 = .ok (.goto (-45), 3) := by decide +kernel
theorem dX11_line_65 : decode cX11_line 65 = .ok (.aload_n 0, 1) := by decide +kernel
theorem dX11_line_66 : decode cX11_line 66 = .ok (.getfield 66, 3) := by decide +kernel
theorem dX11_line_69 : decode cX11_line 69 = .ok (.getfield 359, 3) := by decide +kernel
theorem dX11_line_72 : decode cX11_line 72 = .ok (.ireturn, 1) := by decide +kernel
theorem dX11_ahead_0 : decode cX11_ahead 0 = .ok (.iload_n 1, 1) := by decide +kernel
theorem dX11_ahead_1 : decode cX11_ahead 1 = .ok (.ifCond .lt 9, 3) := by decide +kernel
theorem dX11_ahead_4 : decode cX11_ahead 4 = .ok (.iload_n 1, 1) := by decide +kernel
theorem dX11_ahead_5 : decode cX11_ahead 5 = .ok (.bipush 99, 2) := by decide +kernel
theorem dX11_ahead_7 : decode cX11_ahead 7 = .ok (.if_icmp .le 5, 3) := by decide +kernel
theorem dX11_ahead_10 : decode cX11_ahead 10 = .ok (.iconst (-1), 1) := by decide +kernel
theorem dX11_ahead_11 : decode cX11_ahead 11 = .ok (.ireturn, 1) := by decide +kernel
theorem dX11_ahead_12 : decode cX11_ahead 12 = .ok (.aload_n 0, 1) := by decide +kernel
theorem dX11_ahead_13 : decode cX11_ahead 13 = .ok (.getfield 30, 3) := by decide +kernel
theorem dX11_ahead_16 : decode cX11_ahead 16 = .ok (.aload_n 0, 1) := by decide +kernel
theorem dX11_ahead_17 : decode cX11_ahead 17 = .ok (.getfield 26, 3) := by decide +kernel
theorem dX11_ahead_20 : decode cX11_ahead 20 = .ok (.invokevirtual 153, 3) := by decide +kernel
theorem dX11_ahead_23 : decode cX11_ahead 23 = .ok (.aload_n 0, 1) := by decide +kernel
theorem dX11_ahead_24 : decode cX11_ahead 24 = .ok (.getfield 44, 3) := by decide +kernel
theorem dX11_ahead_27 : decode cX11_ahead 27 = .ok (.aload_n 0, 1) := by decide +kernel
theorem dX11_ahead_28 : decode cX11_ahead 28 = .ok (.getfield 30, 3) := by decide +kernel
theorem dX11_ahead_31 : decode cX11_ahead 31 = .ok (.aload_n 0, 1) := by decide +kernel
theorem dX11_ahead_32 : decode cX11_ahead 32 = .ok (.getfield 105, 3) := by decide +kernel
theorem dX11_ahead_35 : decode cX11_ahead 35 = .ok (.iload_n 1, 1) := by decide +kernel
theorem dX11_ahead_36 : decode cX11_ahead 36 = .ok (.invokevirtual 288, 3) := by decide +kernel
theorem dX11_ahead_39 : decode cX11_ahead 39 = .ok (.aload_n 0, 1) := by decide +kernel
theorem dX11_ahead_40 : decode cX11_ahead 40 = .ok (.getfield 66, 3) := by decide +kernel
theorem dX11_ahead_43 : decode cX11_ahead 43 = .ok (.invokevirtual 349, 3) := by decide +kernel
theorem dX11_ahead_46 : decode cX11_ahead 46 = .ok (.iconst 0, 1) := by decide +kernel
theorem dX11_ahead_47 : decode cX11_ahead 47 = .ok (.istore_n 2, 1) := by decide +kernel
theorem dX11_ahead_48 : decode cX11_ahead 48 = .ok (.iload_n 2, 1) := by decide +kernel
theorem dX11_ahead_49 : decode cX11_ahead 49 = .ok (.aload_n 0, 1) := by decide +kernel
theorem dX11_ahead_50 : decode cX11_ahead 50 = .ok (.getfield 30, 3) := by decide +kernel
theorem dX11_ahead_53 : decode cX11_ahead 53 = .ok (.getfield 176, 3) := by decide +kernel
theorem dX11_ahead_56 : decode cX11_ahead 56 = .ok (.if_icmp .ge 26, 3) := by decide +kernel
theorem dX11_ahead_59 : decode cX11_ahead 59 = .ok (.aload_n 0, 1) := by decide +kernel
theorem dX11_ahead_60 : decode cX11_ahead 60 = .ok (.getfield 66, 3) := by decide +kernel
theorem dX11_ahead_63 : decode cX11_ahead 63 = .ok (.aload_n 0, 1) := by decide +kernel
theorem dX11_ahead_64 : decode cX11_ahead 64 = .ok (.getfield 30, 3) := by decide +kernel
theorem dX11_ahead_67 : decode cX11_ahead 67 = .ok (.getfield 230, 3) := by decide +kernel
theorem dX11_ahead_70 : decode cX11_ahead 70 = .ok (.iload_n 2, 1) := by decide +kernel
theorem dX11_ahead_71 : decode cX11_ahead 71 = .ok (.iaload, 1) := by decide +kernel
theorem dX11_ahead_72 : decode cX11_ahead 72 = .ok (.i2l, 1) := by decide +kernel
theorem dX11_ahead_73 : decode cX11_ahead 73 = .ok (.invokevirtual 356, 3) := by decide +kernel
theorem dX11_ahead_76 : decode cX11_ahead 76 = .ok (.iinc 2 1, 3) := by decide +kernel
theorem dX11_ahead_79 : decode cX11_ahead 79 = .ok (.goto (-31), 3) := by decide +kernel
theorem dX11_ahead_82 : decode cX11_ahead 82 = .ok (.aload_n 0, 1) := by decide +kernel
theorem dX11_ahead_83 : decode cX11_ahead 83 = .ok (.getfield 30, 3) := by decide +kernel
theorem dX11_ahead_86 : decode cX11_ahead 86 = .ok (.getfield 302, 3) := by decide +kernel
theorem dX11_ahead_89 : decode cX11_ahead 89 = .ok (.ireturn, 1) := by decide +kernel
theorem dX11_arrives_0 : decode cX11_arrives 0 = .ok (.aload_n 0, 1) := by decide +kernel
theorem dX11_arrives_1 : decode cX11_arrives 1 = .ok (.getfield 26, 3) := by decide +kernel
theorem dX11_arrives_4 : decode cX11_arrives 4 = .ok (.iload_n 1, 1) := by decide +kernel
theorem dX11_arrives_5 : decode cX11_arrives 5 = .ok (.invokevirtual 220, 3) := by decide +kernel
theorem dX11_arrives_8 : decode cX11_arrives 8 = .ok (.ifCond .ne 5, 3) := by decide +kernel
theorem dX11_arrives_11 : decode cX11_arrives 11 = .ok (.iconst (-1), 1) := by decide +kernel
theorem dX11_arrives_12 : decode cX11_arrives 12 = .ok (.ireturn, 1) := by decide +kernel
theorem dX11_arrives_13 : decode cX11_arrives 13 = .ok (.aload_n 0, 1) := by decide +kernel
theorem dX11_arrives_14 : decode cX11_arrives 14 = .ok (.getfield 30, 3) := by decide +kernel
theorem dX11_arrives_17 : decode cX11_arrives 17 = .ok (.aload_n 0, 1) := by decide +kernel
theorem dX11_arrives_18 : decode cX11_arrives 18 = .ok (.getfield 26, 3) := by decide +kernel
theorem dX11_arrives_21 : decode cX11_arrives 21 = .ok (.invokevirtual 153, 3) := by decide +kernel
theorem dX11_arrives_24 : decode cX11_arrives 24 = .ok (.iconst 0, 1) := by decide +kernel
theorem dX11_arrives_25 : decode cX11_arrives 25 = .ok (.istore_n 2, 1) := by decide +kernel
theorem dX11_arrives_26 : decode cX11_arrives 26 = .ok (.iload_n 2, 1) := by decide +kernel
theorem dX11_arrives_27 : decode cX11_arrives 27 = .ok (.sipush 200, 3) := by decide +kernel
theorem dX11_arrives_30 : decode cX11_arrives 30 = .ok (.if_icmp .ge 35, 3) := by decide +kernel
theorem dX11_arrives_33 : decode cX11_arrives 33 = .ok (.aload_n 0, 1) := by decide +kernel
theorem dX11_arrives_34 : decode cX11_arrives 34 = .ok (.getfield 30, 3) := by decide +kernel
theorem dX11_arrives_37 : decode cX11_arrives 37 = .ok (.iload_n 1, 1) := by decide +kernel
theorem dX11_arrives_38 : decode cX11_arrives 38 = .ok (.invokevirtual 255, 3) := by decide +kernel
theorem dX11_arrives_41 : decode cX11_arrives 41 = .ok (.ifCond .ne 24, 3) := by decide +kernel
theorem dX11_arrives_44 : decode cX11_arrives 44 = .ok (.aload_n 0, 1) := by decide +kernel
theorem dX11_arrives_45 : decode cX11_arrives 45 = .ok (.getfield 44, 3) := by decide +kernel
theorem dX11_arrives_48 : decode cX11_arrives 48 = .ok (.aload_n 0, 1) := by decide +kernel
theorem dX11_arrives_49 : decode cX11_arrives 49 = .ok (.getfield 30, 3) := by decide +kernel
theorem dX11_arrives_52 : decode cX11_arrives 52 = .ok (.aload_n 0, 1) := by decide +kernel
theorem dX11_arrives_53 : decode cX11_arrives 53 = .ok (.getfield 105, 3) := by decide +kernel
theorem dX11_arrives_56 : decode cX11_arrives 56 = .ok (.invokevirtual 362, 3) := by decide +kernel
theorem dX11_arrives_59 : decode cX11_arrives 59 = .ok (.iinc 2 1, 3) := by decide +kernel
theorem dX11_arrives_62 : decode cX11_arrives 62 = .ok (.goto (-36), 3) := by decide +kernel
theorem dX11_arrives_65 : decode cX11_arrives 65 = .ok (.aload_n 0, 1) := by decide +kernel
theorem dX11_arrives_66 : decode cX11_arrives 66 = .ok (.getfield 30, 3) := by decide +kernel
theorem dX11_arrives_69 : decode cX11_arrives 69 = .ok (.iload_n 1, 1) := by decide +kernel
theorem dX11_arrives_70 : decode cX11_arrives 70 = .ok (.invokevirtual 255, 3) := by decide +kernel
theorem dX11_arrives_73 : decode cX11_arrives 73 = .ok (.ifCond .ne 6, 3) := by decide +kernel
theorem dX11_arrives_76 : decode cX11_arrives 76 = .ok (.bipush (-2), 2) := by decide +kernel
theorem dX11_arrives_78 : decode cX11_arrives 78 = .ok (.ireturn, 1) := by decide +kernel
theorem dX11_arrives_79 : decode cX11_arrives 79 = .ok (.aload_n 0, 1) := by decide +kernel
theorem dX11_arrives_80 : decode cX11_arrives 80 = .ok (.getfield 66, 3) := by decide +kernel
theorem dX11_arrives_83 : decode cX11_arrives 83 = .ok (.aload_n 0, 1) := by decide +kernel
theorem dX11_arrives_84 : decode cX11_arrives 84 = .ok (.getfield 30, 3) := by decide +kernel
theorem dX11_arrives_87 : decode cX11_arrives 87 = .ok (.getfield 234, 3) := by decide +kernel
theorem dX11_arrives_90 : decode cX11_arrives 90 = .ok (.iload_n 1, 1) := by decide +kernel
theorem dX11_arrives_91 : decode cX11_arrives 91 = .ok (.iaload, 1) := by decide +kernel
theorem dX11_arrives_92 : decode cX11_arrives 92 = .ok (.i2l, 1) := by decide +kernel
theorem dX11_arrives_93 : decode cX11_arrives 93 = .ok (.invokevirtual 366, 3) := by decide +kernel
theorem dX11_arrives_96 : decode cX11_arrives 96 = .ok (.iload_n 2, 1) := by decide +kernel
theorem dX11_arrives_97 : decode cX11_arrives 97 = .ok (.ireturn, 1) := by decide +kernel
theorem dX11_jam_0 : decode cX11_jam 0 = .ok (.iload_n 1, 1) := by decide +kernel
theorem dX11_jam_1 : decode cX11_jam 1 = .ok (.iconst 1, 1) := by decide +kernel
theorem dX11_jam_2 : decode cX11_jam 2 = .ok (.if_icmp .lt 9, 3) := by decide +kernel
theorem dX11_jam_5 : decode cX11_jam 5 = .ok (.iload_n 1, 1) := by decide +kernel
theorem dX11_jam_6 : decode cX11_jam 6 = .ok (.bipush 60, 2) := by decide +kernel
theorem dX11_jam_8 : decode cX11_jam 8 = .ok (.if_icmp .le 5, 3) := by decide +kernel
theorem dX11_jam_11 : decode cX11_jam 11 = .ok (.iconst (-1), 1) := by decide +kernel
theorem dX11_jam_12 : decode cX11_jam 12 = .ok (.ireturn, 1) := by decide +kernel
theorem dX11_jam_13 : decode cX11_jam 13 = .ok (.aload_n 0, 1) := by decide +kernel
theorem dX11_jam_14 : decode cX11_jam 14 = .ok (.getfield 30, 3) := by decide +kernel
theorem dX11_jam_17 : decode cX11_jam 17 = .ok (.aload_n 0, 1) := by decide +kernel
theorem dX11_jam_18 : decode cX11_jam 18 = .ok (.getfield 26, 3) := by decide +kernel
theorem dX11_jam_21 : decode cX11_jam 21 = .ok (.invokevirtual 153, 3) := by decide +kernel
theorem dX11_jam_24 : decode cX11_jam 24 = .ok (.aload_n 0, 1) := by decide +kernel
theorem dX11_jam_25 : decode cX11_jam 25 = .ok (.getfield 44, 3) := by decide +kernel
theorem dX11_jam_28 : decode cX11_jam 28 = .ok (.aload_n 0, 1) := by decide +kernel
theorem dX11_jam_29 : decode cX11_jam 29 = .ok (.getfield 30, 3) := by decide +kernel
theorem dX11_jam_32 : decode cX11_jam 32 = .ok (.aload_n 0, 1) := by decide +kernel
theorem dX11_jam_33 : decode cX11_jam 33 = .ok (.getfield 105, 3) := by decide +kernel
theorem dX11_jam_36 : decode cX11_jam 36 = .ok (.iload_n 1, 1) := by decide +kernel
theorem dX11_jam_37 : decode cX11_jam 37 = .ok (.invokevirtual 288, 3) := by decide +kernel
theorem dX11_jam_40 : decode cX11_jam 40 = .ok (.iconst 0, 1) := by decide +kernel
theorem dX11_jam_41 : decode cX11_jam 41 = .ok (.istore_n 2, 1) := by decide +kernel
theorem dX11_jam_42 : decode cX11_jam 42 = .ok (.iconst 1, 1) := by decide +kernel
theorem dX11_jam_43 : decode cX11_jam 43 = .ok (.istore_n 3, 1) := by decide +kernel
theorem dX11_jam_44 : decode cX11_jam 44 = .ok (.iload_n 3, 1) := by decide +kernel
theorem dX11_jam_45 : decode cX11_jam 45 = .ok (.aload_n 0, 1) := by decide +kernel
theorem dX11_jam_46 : decode cX11_jam 46 = .ok (.getfield 19, 3) := by decide +kernel
theorem dX11_jam_49 : decode cX11_jam 49 = .ok (.getfield 350, 3) := by decide +kernel
theorem dX11_jam_52 : decode cX11_jam 52 = .ok (.if_icmp .ge 32, 3) := by decide +kernel
theorem dX11_jam_55 : decode cX11_jam 55 = .ok (.aload_n 0, 1) := by decide +kernel
theorem dX11_jam_56 : decode cX11_jam 56 = .ok (.getfield 44, 3) := by decide +kernel
theorem dX11_jam_59 : decode cX11_jam 59 = .ok (.getfield 369, 3) := by decide +kernel
theorem dX11_jam_62 : decode cX11_jam 62 = .ok (.iload_n 3, 1) := by decide +kernel
theorem dX11_jam_63 : decode cX11_jam 63 = .ok (.iaload, 1) := by decide +kernel
theorem dX11_jam_64 : decode cX11_jam 64 = .ok (.aload_n 0, 1) := by decide +kernel
theorem dX11_jam_65 : decode cX11_jam 65 = .ok (.getfield 44, 3) := by decide +kernel
theorem dX11_jam_68 : decode cX11_jam 68 = .ok (.getfield 369, 3) := by decide +kernel
theorem dX11_jam_71 : decode cX11_jam 71 = .ok (.iload_n 2, 1) := by decide +kernel
theorem dX11_jam_72 : decode cX11_jam 72 = .ok (.iaload, 1) := by decide +kernel
theorem dX11_jam_73 : decode cX11_jam 73 = .ok (.if_icmp .le 5, 3) := by decide +kernel
theorem dX11_jam_76 : decode cX11_jam 76 = .ok (.iload_n 3, 1) := by decide +kernel
theorem dX11_jam_77 : decode cX11_jam 77 = .ok (.istore_n 2, 1) := by decide +kernel
theorem dX11_jam_78 : decode cX11_jam 78 = .ok (.iinc 3 1, 3) := by decide +kernel
theorem dX11_jam_81 : decode cX11_jam 81 = .ok (.goto (-37), 3) := by decide +kernel
theorem dX11_jam_84 : decode cX11_jam 84 = .ok (.aload_n 0, 1) := by decide +kernel
theorem dX11_jam_85 : decode cX11_jam 85 = .ok (.getfield 66, 3) := by decide +kernel
theorem dX11_jam_88 : decode cX11_jam 88 = .ok (.aload_n 0, 1) := by decide +kernel
theorem dX11_jam_89 : decode cX11_jam 89 = .ok (.getfield 44, 3) := by decide +kernel
theorem dX11_jam_92 : decode cX11_jam 92 = .ok (.getfield 369, 3) := by decide +kernel
theorem dX11_jam_95 : decode cX11_jam 95 = .ok (.iload_n 2, 1) := by decide +kernel
theorem dX11_jam_96 : decode cX11_jam 96 = .ok (.iaload, 1) := by decide +kernel
theorem dX11_jam_97 : decode cX11_jam 97 = .ok (.i2l, 1) := by decide +kernel
theorem dX11_jam_98 : decode cX11_jam 98 = .ok (.aload_n 0, 1) := by decide +kernel
theorem dX11_jam_99 : decode cX11_jam 99 = .ok (.getfield 44, 3) := by decide +kernel
theorem dX11_jam_102 : decode cX11_jam 102 = .ok (.getfield 292, 3) := by decide +kernel
theorem dX11_jam_105 : decode cX11_jam 105 = .ok (.i2l, 1) := by decide +kernel
theorem dX11_jam_106 : decode cX11_jam 106 = .ok (.invokevirtual 298, 3) := by decide +kernel
theorem dX11_jam_109 : decode cX11_jam 109 = .ok (.iload_n 2, 1) := by decide +kernel
theorem dX11_jam_110 : decode cX11_jam 110 = .ok (.ireturn, 1) := by decide +kernel
theorem dX11_passes_0 : decode cX11_passes 0 = .ok (.aload_n 0, 1) := by decide +kernel
theorem dX11_passes_1 : decode cX11_passes 1 = .ok (.getfield 26, 3) := by decide +kernel
theorem dX11_passes_4 : decode cX11_passes 4 = .ok (.iload_n 1, 1) := by decide +kernel
theorem dX11_passes_5 : decode cX11_passes 5 = .ok (.invokevirtual 220, 3) := by decide +kernel
theorem dX11_passes_8 : decode cX11_passes 8 = .ok (.ifCond .eq 19, 3) := by decide +kernel
theorem dX11_passes_11 : decode cX11_passes 11 = .ok (.aload_n 0, 1) := by decide +kernel
theorem dX11_passes_12 : decode cX11_passes 12 = .ok (.getfield 26, 3) := by decide +kernel
theorem dX11_passes_15 : decode cX11_passes 15 = .ok (.iload_n 2, 1) := by decide +kernel
theorem dX11_passes_16 : decode cX11_passes 16 = .ok (.invokevirtual 220, 3) := by decide +kernel
theorem dX11_passes_19 : decode cX11_passes 19 = .ok (.ifCond .eq 8, 3) := by decide +kernel
theorem dX11_passes_22 : decode cX11_passes 22 = .ok (.iload_n 1, 1) := by decide +kernel
theorem dX11_passes_23 : decode cX11_passes 23 = .ok (.iload_n 2, 1) := by decide +kernel
theorem dX11_passes_24 : decode cX11_passes 24 = .ok (.if_icmp .ne 5, 3) := by decide +kernel
theorem dX11_passes_27 : decode cX11_passes 27 = .ok (.iconst (-1), 1) := by decide +kernel
theorem dX11_passes_28 : decode cX11_passes 28 = .ok (.ireturn, 1) := by decide +kernel
theorem dX11_passes_29 : decode cX11_passes 29 = .ok (.aload_n 0, 1) := by decide +kernel
theorem dX11_passes_30 : decode cX11_passes 30 = .ok (.getfield 26, 3) := by decide +kernel
theorem dX11_passes_33 : decode cX11_passes 33 = .ok (.iload_n 1, 1) := by decide +kernel
theorem dX11_passes_34 : decode cX11_passes 34 = .ok (.invokevirtual 255, 3) := by decide +kernel
theorem dX11_passes_37 : decode cX11_passes 37 = .ok (.ifCond .ne 35, 3) := by decide +kernel
theorem dX11_passes_40 : decode cX11_passes 40 = .ok (.aload_n 0, 1) := by decide +kernel
theorem dX11_passes_41 : decode cX11_passes 41 = .ok (.getfield 26, 3) := by decide +kernel
theorem dX11_passes_44 : decode cX11_passes 44 = .ok (.iload_n 2, 1) := by decide +kernel
theorem dX11_passes_45 : decode cX11_passes 45 = .ok (.invokevirtual 255, 3) := by decide +kernel
theorem dX11_passes_48 : decode cX11_passes 48 = .ok (.ifCond .ne 24, 3) := by decide +kernel
theorem dX11_passes_51 : decode cX11_passes 51 = .ok (.aload_n 0, 1) := by decide +kernel
theorem dX11_passes_52 : decode cX11_passes 52 = .ok (.getfield 26, 3) := by decide +kernel
theorem dX11_passes_55 : decode cX11_passes 55 = .ok (.getfield 230, 3) := by decide +kernel
theorem dX11_passes_58 : decode cX11_passes 58 = .ok (.iload_n 1, 1) := by decide +kernel
theorem dX11_passes_59 : decode cX11_passes 59 = .ok (.iaload, 1) := by decide +kernel
theorem dX11_passes_60 : decode cX11_passes 60 = .ok (.aload_n 0, 1) := by decide +kernel
theorem dX11_passes_61 : decode cX11_passes 61 = .ok (.getfield 26, 3) := by decide +kernel
theorem dX11_passes_64 : decode cX11_passes 64 = .ok (.getfield 230, 3) := by decide +kernel
theorem dX11_passes_67 : decode cX11_passes 67 = .ok (.iload_n 2, 1) := by decide +kernel
theorem dX11_passes_68 : decode cX11_passes 68 = .ok (.iaload, 1) := by decide +kernel
theorem dX11_passes_69 : decode cX11_passes 69 = .ok (.if_icmp .le 6, 3) := by decide +kernel
theorem dX11_passes_72 : decode cX11_passes 72 = .ok (.bipush (-2), 2) := by decide +kernel
theorem dX11_passes_74 : decode cX11_passes 74 = .ok (.ireturn, 1) := by decide +kernel
theorem dX11_passes_75 : decode cX11_passes 75 = .ok (.aload_n 0, 1) := by decide +kernel
theorem dX11_passes_76 : decode cX11_passes 76 = .ok (.getfield 30, 3) := by decide +kernel
theorem dX11_passes_79 : decode cX11_passes 79 = .ok (.aload_n 0, 1) := by decide +kernel
theorem dX11_passes_80 : decode cX11_passes 80 = .ok (.getfield 26, 3) := by decide +kernel
theorem dX11_passes_83 : decode cX11_passes 83 = .ok (.invokevirtual 153, 3) := by decide +kernel
theorem dX11_passes_86 : decode cX11_passes 86 = .ok (.iconst 1, 1) := by decide +kernel
theorem dX11_passes_87 : decode cX11_passes 87 = .ok (.istore_n 3, 1) := by decide +kernel
theorem dX11_passes_88 : decode cX11_passes 88 = .ok (.iload_n 3, 1) := by decide +kernel
theorem dX11_passes_89 : decode cX11_passes 89 = .ok (.bipush 60, 2) := by decide +kernel
theorem dX11_passes_91 : decode cX11_passes 91 = .ok (.if_icmp .gt 55, 3) := by decide +kernel
theorem dX11_passes_94 : decode cX11_passes 94 = .ok (.aload_n 0, 1) := by decide +kernel
theorem dX11_passes_95 : decode cX11_passes 95 = .ok (.getfield 44, 3) := by decide +kernel
theorem dX11_passes_98 : decode cX11_passes 98 = .ok (.aload_n 0, 1) := by decide +kernel
theorem dX11_passes_99 : decode cX11_passes 99 = .ok (.getfield 30, 3) := by decide +kernel
theorem dX11_passes_102 : decode cX11_passes 102 = .ok (.aload_n 0, 1) := by decide +kernel
theorem dX11_passes_103 : decode cX11_passes 103 = .ok (.getfield 105, 3) := by decide +kernel
theorem dX11_passes_106 : decode cX11_passes 106 = .ok (.invokevirtual 362, 3) := by decide +kernel
theorem dX11_passes_109 : decode cX11_passes 109 = .ok (.aload_n 0, 1) := by decide +kernel
theorem dX11_passes_110 : decode cX11_passes 110 = .ok (.getfield 30, 3) := by decide +kernel
theorem dX11_passes_113 : decode cX11_passes 113 = .ok (.iload_n 1, 1) := by decide +kernel
theorem dX11_passes_114 : decode cX11_passes 114 = .ok (.iload_n 2, 1) := by decide +kernel
theorem dX11_passes_115 : decode cX11_passes 115 = .ok (.invokevirtual 372, 3) := by decide +kernel
theorem dX11_passes_118 : decode cX11_passes 118 = .ok (.ifCond .eq 22, 3) := by decide +kernel
theorem dX11_passes_121 : decode cX11_passes 121 = .ok (.aload_n 0, 1) := by decide +kernel
theorem dX11_passes_122 : decode cX11_passes 122 = .ok (.getfield 66, 3) := by decide +kernel
theorem dX11_passes_125 : decode cX11_passes 125 = .ok (.aload_n 0, 1) := by decide +kernel
theorem dX11_passes_126 : decode cX11_passes 126 = .ok (.getfield 30, 3) := by decide +kernel
theorem dX11_passes_129 : decode cX11_passes 129 = .ok (.getfield 230, 3) := by decide +kernel
theorem dX11_passes_132 : decode cX11_passes 132 = .ok (.iload_n 1, 1) := by decide +kernel
theorem dX11_passes_133 : decode cX11_passes 133 = .ok (.iaload, 1) := by decide +kernel
theorem dX11_passes_134 : decode cX11_passes 134 = .ok (.i2l, 1) := by decide +kernel
theorem dX11_passes_135 : decode cX11_passes 135 = .ok (.invokevirtual 366, 3) := by decide +kernel
theorem dX11_passes_138 : decode cX11_passes 138 = .ok (.iload_n 3, 1) := by decide +kernel
theorem dX11_passes_139 : decode cX11_passes 139 = .ok (.ireturn, 1) := by decide +kernel
theorem dX11_passes_140 : decode cX11_passes 140 = .ok (.iinc 3 1, 3) := by decide +kernel
theorem dX11_passes_143 : decode cX11_passes 143 = .ok (.goto (-55), 3) := by decide +kernel
theorem dX11_passes_146 : decode cX11_passes 146 = .ok (.bipush (-2), 2) := by decide +kernel
theorem dX11_passes_148 : decode cX11_passes 148 = .ok (.ireturn, 1) := by decide +kernel
theorem dX11_ends_0 : decode cX11_ends 0 = .ok (.aload_n 0, 1) := by decide +kernel
theorem dX11_ends_1 : decode cX11_ends 1 = .ok (.getfield 26, 3) := by decide +kernel
theorem dX11_ends_4 : decode cX11_ends 4 = .ok (.iload_n 1, 1) := by decide +kernel
theorem dX11_ends_5 : decode cX11_ends 5 = .ok (.invokevirtual 265, 3) := by decide +kernel
theorem dX11_ends_8 : decode cX11_ends 8 = .ok (.ifCond .ne 5, 3) := by decide +kernel
theorem dX11_ends_11 : decode cX11_ends 11 = .ok (.iconst (-1), 1) := by decide +kernel
theorem dX11_ends_12 : decode cX11_ends 12 = .ok (.ireturn, 1) := by decide +kernel
theorem dX11_ends_13 : decode cX11_ends 13 = .ok (.aload_n 0, 1) := by decide +kernel
theorem dX11_ends_14 : decode cX11_ends 14 = .ok (.getfield 30, 3) := by decide +kernel
theorem dX11_ends_17 : decode cX11_ends 17 = .ok (.aload_n 0, 1) := by decide +kernel
theorem dX11_ends_18 : decode cX11_ends 18 = .ok (.getfield 26, 3) := by decide +kernel
theorem dX11_ends_21 : decode cX11_ends 21 = .ok (.invokevirtual 153, 3) := by decide +kernel
theorem dX11_ends_24 : decode cX11_ends 24 = .ok (.aload_n 0, 1) := by decide +kernel
theorem dX11_ends_25 : decode cX11_ends 25 = .ok (.getfield 44, 3) := by decide +kernel
theorem dX11_ends_28 : decode cX11_ends 28 = .ok (.invokevirtual 376, 3) := by decide +kernel
theorem dX11_ends_31 : decode cX11_ends 31 = .ok (.iconst 0, 1) := by decide +kernel
theorem dX11_ends_32 : decode cX11_ends 32 = .ok (.istore_n 2, 1) := by decide +kernel
theorem dX11_ends_33 : decode cX11_ends 33 = .ok (.iload_n 2, 1) := by decide +kernel
theorem dX11_ends_34 : decode cX11_ends 34 = .ok (.sipush 200, 3) := by decide +kernel
theorem dX11_ends_37 : decode cX11_ends 37 = .ok (.if_icmp .ge 35, 3) := by decide +kernel
theorem dX11_ends_40 : decode cX11_ends 40 = .ok (.aload_n 0, 1) := by decide +kernel
theorem dX11_ends_41 : decode cX11_ends 41 = .ok (.getfield 30, 3) := by decide +kernel
theorem dX11_ends_44 : decode cX11_ends 44 = .ok (.iload_n 1, 1) := by decide +kernel
theorem dX11_ends_45 : decode cX11_ends 45 = .ok (.invokevirtual 278, 3) := by decide +kernel
theorem dX11_ends_48 : decode cX11_ends 48 = .ok (.ifCond .ne 24, 3) := by decide +kernel
theorem dX11_ends_51 : decode cX11_ends 51 = .ok (.aload_n 0, 1) := by decide +kernel
theorem dX11_ends_52 : decode cX11_ends 52 = .ok (.getfield 44, 3) := by decide +kernel
theorem dX11_ends_55 : decode cX11_ends 55 = .ok (.aload_n 0, 1) := by decide +kernel
theorem dX11_ends_56 : decode cX11_ends 56 = .ok (.getfield 30, 3) := by decide +kernel
theorem dX11_ends_59 : decode cX11_ends 59 = .ok (.aload_n 0, 1) := by decide +kernel
theorem dX11_ends_60 : decode cX11_ends 60 = .ok (.getfield 105, 3) := by decide +kernel
theorem dX11_ends_63 : decode cX11_ends 63 = .ok (.invokevirtual 362, 3) := by decide +kernel
theorem dX11_ends_66 : decode cX11_ends 66 = .ok (.iinc 2 1, 3) := by decide +kernel
theorem dX11_ends_69 : decode cX11_ends 69 = .ok (.goto (-36), 3) := by decide +kernel
theorem dX11_ends_72 : decode cX11_ends 72 = .ok (.aload_n 0, 1) := by decide +kernel
theorem dX11_ends_73 : decode cX11_ends 73 = .ok (.getfield 30, 3) := by decide +kernel
theorem dX11_ends_76 : decode cX11_ends 76 = .ok (.iload_n 1, 1) := by decide +kernel
theorem dX11_ends_77 : decode cX11_ends 77 = .ok (.invokevirtual 278, 3) := by decide +kernel
theorem dX11_ends_80 : decode cX11_ends 80 = .ok (.ifCond .ne 6, 3) := by decide +kernel
theorem dX11_ends_83 : decode cX11_ends 83 = .ok (.bipush (-2), 2) := by decide +kernel
theorem dX11_ends_85 : decode cX11_ends 85 = .ok (.ireturn, 1) := by decide +kernel
theorem dX11_ends_86 : decode cX11_ends 86 = .ok (.aload_n 0, 1) := by decide +kernel
theorem dX11_ends_87 : decode cX11_ends 87 = .ok (.getfield 66, 3) := by decide +kernel
theorem dX11_ends_90 : decode cX11_ends 90 = .ok (.iload_n 2, 1) := by decide +kernel
theorem dX11_ends_91 : decode cX11_ends 91 = .ok (.i2l, 1) := by decide +kernel
theorem dX11_ends_92 : decode cX11_ends 92 = .ok (.aload_n 0, 1) := by decide +kernel
theorem dX11_ends_93 : decode cX11_ends 93 = .ok (.getfield 44, 3) := by decide +kernel
theorem dX11_ends_96 : decode cX11_ends 96 = .ok (.getfield 379, 3) := by decide +kernel
theorem dX11_ends_99 : decode cX11_ends 99 = .ok (.iload_n 1, 1) := by decide +kernel
theorem dX11_ends_100 : decode cX11_ends 100 = .ok (.iaload, 1) := by decide +kernel
theorem dX11_ends_101 : decode cX11_ends 101 = .ok (.i2l, 1) := by decide +kernel
theorem dX11_ends_102 : decode cX11_ends 102 = .ok (.invokevirtual 298, 3) := by decide +kernel
theorem dX11_ends_105 : decode cX11_ends 105 = .ok (.aload_n 0, 1) := by decide +kernel
theorem dX11_ends_106 : decode cX11_ends 106 = .ok (.getfield 30, 3) := by decide +kernel
theorem dX11_ends_109 : decode cX11_ends 109 = .ok (.getfield 247, 3) := by decide +kernel
theorem dX11_ends_112 : decode cX11_ends 112 = .ok (.iload_n 1, 1) := by decide +kernel
theorem dX11_ends_113 : decode cX11_ends 113 = .ok (.iaload, 1) := by decide +kernel
theorem dX11_ends_114 : decode cX11_ends 114 = .ok (.ireturn, 1) := by decide +kernel
theorem dX11_right_0 : decode cX11_right 0 = .ok (.aload_n 0, 1) := by decide +kernel
theorem dX11_right_1 : decode cX11_right 1 = .ok (.getfield 30, 3) := by decide +kernel
theorem dX11_right_4 : decode cX11_right 4 = .ok (.aload_n 0, 1) := by decide +kernel
theorem dX11_right_5 : decode cX11_right 5 = .ok (.getfield 26, 3) := by decide +kernel
theorem dX11_right_8 : decode cX11_right 8 = .ok (.invokevirtual 153, 3) := by decide +kernel
theorem dX11_right_11 : decode cX11_right 11 = .ok (.aload_n 0, 1) := by decide +kernel
theorem dX11_right_12 : decode cX11_right 12 = .ok (.aload_n 0, 1) := by decide +kernel
theorem dX11_right_13 : decode cX11_right 13 = .ok (.getfield 105, 3) := by decide +kernel
theorem dX11_right_16 : decode cX11_right 16 = .ok (.invokevirtual 382, 3) := by decide +kernel
theorem dX11_right_19 : decode cX11_right 19 = .ok (.istore_n 1, 1) := by decide +kernel
theorem dX11_right_20 : decode cX11_right 20 = .ok (.aload_n 0, 1) := by decide +kernel
theorem dX11_right_21 : decode cX11_right 21 = .ok (.getfield 66, 3) := by decide +kernel
theorem dX11_right_24 : decode cX11_right 24 = .ok (.iload_n 1, 1) := by decide +kernel
theorem dX11_right_25 : decode cX11_right 25 = .ok (.i2l, 1) := by decide +kernel
theorem dX11_right_26 : decode cX11_right 26 = .ok (.aload_n 0, 1) := by decide +kernel
theorem dX11_right_27 : decode cX11_right 27 = .ok (.getfield 30, 3) := by decide +kernel
theorem dX11_right_30 : decode cX11_right 30 = .ok (.invokevirtual 386, 3) := by decide +kernel
theorem dX11_right_33 : decode cX11_right 33 = .ok (.i2l, 1) := by decide +kernel
theorem dX11_right_34 : decode cX11_right 34 = .ok (.invokevirtual 298, 3) := by decide +kernel
theorem dX11_right_37 : decode cX11_right 37 = .ok (.iload_n 1, 1) := by decide +kernel
theorem dX11_right_38 : decode cX11_right 38 = .ok (.invokestatic 389, 3) := by decide +kernel
theorem dX11_right_41 : decode cX11_right 41 = .ok (.ireturn, 1) := by decide +kernel
theorem dX11_rightOnesOfTrial_0 : decode cX11_rightOnesOfTrial 0 = .ok (.aload_n 0, 1) := by decide +kernel
theorem dX11_rightOnesOfTrial_1 : decode cX11_rightOnesOfTrial 1 = .ok (.getfield 44, 3) := by decide +kernel
theorem dX11_rightOnesOfTrial_4 : decode cX11_rightOnesOfTrial 4 = .ok (.aload_n 0, 1) := by decide +kernel
theorem dX11_rightOnesOfTrial_5 : decode cX11_rightOnesOfTrial 5 = .ok (.getfield 30, 3) := by decide +kernel
theorem dX11_rightOnesOfTrial_8 : decode cX11_rightOnesOfTrial 8 = .ok (.aload_n 1, 1) := by decide +kernel
theorem dX11_rightOnesOfTrial_9 : decode cX11_rightOnesOfTrial 9 = .ok (.invokevirtual 394, 3) := by decide +kernel
theorem dX11_rightOnesOfTrial_12 : decode cX11_rightOnesOfTrial 12 = .ok (.aload_n 0, 1) := by decide +kernel
theorem dX11_rightOnesOfTrial_13 : decode cX11_rightOnesOfTrial 13 = .ok (.getfield 30, 3) := by decide +kernel
theorem dX11_rightOnesOfTrial_16 : decode cX11_rightOnesOfTrial 16 = .ok (.invokevirtual 397, 3) := by decide +kernel
theorem dX11_rightOnesOfTrial_19 : decode cX11_rightOnesOfTrial 19 = .ok (.ireturn, 1) := by decide +kernel
theorem dX11_order_0 : decode cX11_order 0 = .ok (.aload_n 0, 1) := by decide +kernel
theorem dX11_order_1 : decode cX11_order 1 = .ok (.getfield 80, 3) := by decide +kernel
theorem dX11_order_4 : decode cX11_order 4 = .ok (.aload_n 0, 1) := by decide +kernel
theorem dX11_order_5 : decode cX11_order 5 = .ok (.getfield 26, 3) := by decide +kernel
theorem dX11_order_8 : decode cX11_order 8 = .ok (.aload_n 0, 1) := by decide +kernel
theorem dX11_order_9 : decode cX11_order 9 = .ok (.getfield 19, 3) := by decide +kernel
theorem dX11_order_12 : decode cX11_order 12 = .ok (.invokevirtual 400, 3) := by decide +kernel
theorem dX11_order_15 : decode cX11_order 15 = .ok (.iconst (-1), 1) := by decide +kernel
theorem dX11_order_16 : decode cX11_order 16 = .ok (.istore_n 1, 1) := by decide +kernel
theorem dX11_order_17 : decode cX11_order 17 = .ok (.iconst 1, 1) := by decide +kernel
theorem dX11_order_18 : decode cX11_order 18 = .ok (.istore_n 2, 1) := by decide +kernel
theorem dX11_order_19 : decode cX11_order 19 = .ok (.iconst 0, 1) := by decide +kernel
theorem dX11_order_20 : decode cX11_order 20 = .ok (.istore_n 3, 1) := by decide +kernel
theorem dX11_order_21 : decode cX11_order 21 = .ok (.iload_n 3, 1) := by decide +kernel
theorem dX11_order_22 : decode cX11_order 22 = .ok (.sipush 720, 3) := by decide +kernel
theorem dX11_order_25 : decode cX11_order 25 = .ok (.if_icmp .ge 86, 3) := by decide +kernel
theorem dX11_order_28 : decode cX11_order 28 = .ok (.iload_n 2, 1) := by decide +kernel
theorem dX11_order_29 : decode cX11_order 29 = .ok (.ifCond .eq 82, 3) := by decide +kernel
theorem dX11_order_32 : decode cX11_order 32 = .ok (.iload_n 1, 1) := by decide +kernel
theorem dX11_order_33 : decode cX11_order 33 = .ok (.aload_n 0, 1) := by decide +kernel
theorem dX11_order_34 : decode cX11_order 34 = .ok (.getfield 26, 3) := by decide +kernel
theorem dX11_order_37 : decode cX11_order 37 = .ok (.getfield 191, 3) := by decide +kernel
theorem dX11_order_40 : decode cX11_order 40 = .ok (.if_icmp .ge 71, 3) := by decide +kernel
theorem dX11_order_43 : decode cX11_order 43 = .ok (.aload_n 0, 1) := by decide +kernel
theorem dX11_order_44 : decode cX11_order 44 = .ok (.getfield 30, 3) := by decide +kernel
theorem dX11_order_47 : decode cX11_order 47 = .ok (.aload_n 0, 1) := by decide +kernel
theorem dX11_order_48 : decode cX11_order 48 = .ok (.getfield 26, 3) := by decide +kernel
theorem dX11_order_51 : decode cX11_order 51 = .ok (.invokevirtual 153, 3) := by decide +kernel
theorem dX11_order_54 : decode cX11_order 54 = .ok (.aload_n 0, 1) := by decide +kernel
theorem dX11_order_55 : decode cX11_order 55 = .ok (.getfield 30, 3) := by decide +kernel
theorem dX11_order_58 : decode cX11_order 58 = .ok (.aload_n 0, 1) := by decide +kernel
theorem dX11_order_59 : decode cX11_order 59 = .ok (.getfield 80, 3) := by decide +kernel
theorem dX11_order_62 : decode cX11_order 62 = .ok (.getfield 404, 3) := by decide +kernel
theorem dX11_order_65 : decode cX11_order 65 = .ok (.invokevirtual 406, 3) := by decide +kernel
theorem dX11_order_68 : decode cX11_order 68 = .ok (.aload_n 0, 1) := by decide +kernel
theorem dX11_order_69 : decode cX11_order 69 = .ok (.aload_n 0, 1) := by decide +kernel
theorem dX11_order_70 : decode cX11_order 70 = .ok (.getfield 105, 3) := by decide +kernel
theorem dX11_order_73 : decode cX11_order 73 = .ok (.invokevirtual 382, 3) := by decide +kernel
theorem dX11_order_76 : decode cX11_order 76 = .ok (.invokestatic 389, 3) := by decide +kernel
theorem dX11_order_79 : decode cX11_order 79 = .ok (.istore 4, 2) := by decide +kernel
theorem dX11_order_81 : decode cX11_order 81 = .ok (.iload 4, 2) := by decide +kernel
theorem dX11_order_83 : decode cX11_order 83 = .ok (.iload_n 1, 1) := by decide +kernel
theorem dX11_order_84 : decode cX11_order 84 = .ok (.if_icmp .le 13, 3) := by decide +kernel
theorem dX11_order_87 : decode cX11_order 87 = .ok (.iload 4, 2) := by decide +kernel
theorem dX11_order_89 : decode cX11_order 89 = .ok (.istore_n 1, 1) := by decide +kernel
theorem dX11_order_90 : decode cX11_order 90 = .ok (.aload_n 0, 1) := by decide +kernel
theorem dX11_order_91 : decode cX11_order 91 = .ok (.getfield 80, 3) := by decide +kernel
theorem dX11_order_94 : decode cX11_order 94 = .ok (.invokevirtual 410, 3) := by decide +kernel
theorem dX11_order_97 : decode cX11_order 97 = .ok (.aload_n 0, 1) := by decide +kernel
theorem dX11_order_98 : decode cX11_order 98 = .ok (.getfield 80, 3) := by decide +kernel
theorem dX11_order_101 : decode cX11_order 101 = .ok (.invokevirtual 413, 3) := by decide +kernel
theorem dX11_order_104 : decode cX11_order 104 = .ok (.istore_n 2, 1) := by decide +kernel
theorem dX11_order_105 : decode cX11_order 105 = .ok (.iinc 3 1, 3) := by decide +kernel
theorem dX11_order_108 : decode cX11_order 108 = .ok (.goto (-87), 3) := by decide +kernel
theorem dX11_order_111 : decode cX11_order 111 = .ok (.aload_n 0, 1) := by decide +kernel
theorem dX11_order_112 : decode cX11_order 112 = .ok (.getfield 66, 3) := by decide +kernel
theorem dX11_order_115 : decode cX11_order 115 = .ok (.invokevirtual 349, 3) := by decide +kernel
theorem dX11_order_118 : decode cX11_order 118 = .ok (.iconst 0, 1) := by decide +kernel
theorem dX11_order_119 : decode cX11_order 119 = .ok (.istore_n 3, 1) := by decide +kernel
theorem dX11_order_120 : decode cX11_order 120 = .ok (.iload_n 3, 1) := by decide +kernel
theorem dX11_order_121 : decode cX11_order 121 = .ok (.aload_n 0, 1) := by decide +kernel
theorem dX11_order_122 : decode cX11_order 122 = .ok (.getfield 80, 3) := by decide +kernel
theorem dX11_order_125 : decode cX11_order 125 = .ok (.getfield 416, 3) := by decide +kernel
theorem dX11_order_128 : decode cX11_order 128 = .ok (.if_icmp .ge 26, 3) := by decide +kernel
theorem dX11_order_131 : decode cX11_order 131 = .ok (.aload_n 0, 1) := by decide +kernel
theorem dX11_order_132 : decode cX11_order 132 = .ok (.getfield 66, 3) := by decide +kernel
theorem dX11_order_135 : decode cX11_order 135 = .ok (.aload_n 0, 1) := by decide +kernel
theorem dX11_order_136 : decode cX11_order 136 = .ok (.getfield 80, 3) := by decide +kernel
theorem dX11_order_139 : decode cX11_order 139 = .ok (.getfield 417, 3) := by decide +kernel
theorem dX11_order_142 : decode cX11_order 142 = .ok (.iload_n 3, 1) := by decide +kernel
theorem dX11_order_143 : decode cX11_order 143 = .ok (.iaload, 1) := by decide +kernel
theorem dX11_order_144 : decode cX11_order 144 = .ok (.i2l, 1) := by decide +kernel
theorem dX11_order_145 : decode cX11_order 145 = .ok (.invokevirtual 356, 3) := by decide +kernel
theorem dX11_order_148 : decode cX11_order 148 = .ok (.iinc 3 1, 3) := by decide +kernel
theorem dX11_order_151 : decode cX11_order 151 = .ok (.goto (-31), 3) := by decide +kernel
theorem dX11_order_154 : decode cX11_order 154 = .ok (.iload_n 1, 1) := by decide +kernel
theorem dX11_order_155 : decode cX11_order 155 = .ok (.ireturn, 1) := by decide +kernel
theorem dX11_stands_0 : decode cX11_stands 0 = .ok (.aload_n 0, 1) := by decide +kernel
theorem dX11_stands_1 : decode cX11_stands 1 = .ok (.getfield 26, 3) := by decide +kernel
theorem dX11_stands_4 : decode cX11_stands 4 = .ok (.iload_n 1, 1) := by decide +kernel
theorem dX11_stands_5 : decode cX11_stands 5 = .ok (.invokevirtual 265, 3) := by decide +kernel
theorem dX11_stands_8 : decode cX11_stands 8 = .ok (.ifCond .ne 5, 3) := by decide +kernel
theorem dX11_stands_11 : decode cX11_stands 11 = .ok (.iconst (-1), 1) := by decide +kernel
theorem dX11_stands_12 : decode cX11_stands 12 = .ok (.ireturn, 1) := by decide +kernel
theorem dX11_stands_13 : decode cX11_stands 13 = .ok (.aload_n 0, 1) := by decide +kernel
theorem dX11_stands_14 : decode cX11_stands 14 = .ok (.getfield 26, 3) := by decide +kernel
theorem dX11_stands_17 : decode cX11_stands 17 = .ok (.iload_n 1, 1) := by decide +kernel
theorem dX11_stands_18 : decode cX11_stands 18 = .ok (.invokevirtual 278, 3) := by decide +kernel
theorem dX11_stands_21 : decode cX11_stands 21 = .ok (.ifCond .eq 6, 3) := by decide +kernel
theorem dX11_stands_24 : decode cX11_stands 24 = .ok (.bipush (-2), 2) := by decide +kernel
theorem dX11_stands_26 : decode cX11_stands 26 = .ok (.ireturn, 1) := by decide +kernel
theorem dX11_stands_27 : decode cX11_stands 27 = .ok (.iconst (-1), 1) := by decide +kernel
theorem dX11_stands_28 : decode cX11_stands 28 = .ok (.istore_n 2, 1) := by decide +kernel
theorem dX11_stands_29 : decode cX11_stands 29 = .ok (.iconst 0, 1) := by decide +kernel
theorem dX11_stands_30 : decode cX11_stands 30 = .ok (.istore_n 3, 1) := by decide +kernel
theorem dX11_stands_31 : decode cX11_stands 31 = .ok (.aload_n 0, 1) := by decide +kernel
theorem dX11_stands_32 : decode cX11_stands 32 = .ok (.getfield 19, 3) := by decide +kernel
theorem dX11_stands_35 : decode cX11_stands 35 = .ok (.invokevirtual 207, 3) := by decide +kernel
theorem dX11_stands_38 : decode cX11_stands 38 = .ok (.iconst 1, 1) := by decide +kernel
theorem dX11_stands_39 : decode cX11_stands 39 = .ok (.isub, 1) := by decide +kernel
theorem dX11_stands_40 : decode cX11_stands 40 = .ok (.istore 4, 2) := by decide +kernel
theorem dX11_stands_42 : decode cX11_stands 42 = .ok (.iload 4, 2) := by decide +kernel
theorem dX11_stands_44 : decode cX11_stands 44 = .ok (.ifCond .lt 73, 3) := by decide +kernel
theorem dX11_stands_47 : decode cX11_stands 47 = .ok (.aload_n 0, 1) := by decide +kernel
theorem dX11_stands_48 : decode cX11_stands 48 = .ok (.getfield 30, 3) := by decide +kernel
theorem dX11_stands_51 : decode cX11_stands 51 = .ok (.aload_n 0, 1) := by decide +kernel
theorem dX11_stands_52 : decode cX11_stands 52 = .ok (.getfield 26, 3) := by decide +kernel
theorem dX11_stands_55 : decode cX11_stands 55 = .ok (.invokevirtual 153, 3) := by decide +kernel
theorem dX11_stands_58 : decode cX11_stands 58 = .ok (.aload_n 0, 1) := by decide +kernel
theorem dX11_stands_59 : decode cX11_stands 59 = .ok (.getfield 30, 3) := by decide +kernel
theorem dX11_stands_62 : decode cX11_stands 62 = .ok (.getfield 270, 3) := by decide +kernel
theorem dX11_stands_65 : decode cX11_stands 65 = .ok (.iload_n 1, 1) := by decide +kernel
theorem dX11_stands_66 : decode cX11_stands 66 = .ok (.iload 4, 2) := by decide +kernel
theorem dX11_stands_68 : decode cX11_stands 68 = .ok (.iastore, 1) := by decide +kernel
theorem dX11_stands_69 : decode cX11_stands 69 = .ok (.aload_n 0, 1) := by decide +kernel
theorem dX11_stands_70 : decode cX11_stands 70 = .ok (.getfield 30, 3) := by decide +kernel
theorem dX11_stands_73 : decode cX11_stands 73 = .ok (.getfield 240, 3) := by decide +kernel
theorem dX11_stands_76 : decode cX11_stands 76 = .ok (.iload_n 1, 1) := by decide +kernel
theorem dX11_stands_77 : decode cX11_stands 77 = .ok (.iconst (-1), 1) := by decide +kernel
theorem dX11_stands_78 : decode cX11_stands 78 = .ok (.iastore, 1) := by decide +kernel
theorem dX11_stands_79 : decode cX11_stands 79 = .ok (.aload_n 0, 1) := by decide +kernel
theorem dX11_stands_80 : decode cX11_stands 80 = .ok (.getfield 44, 3) := by decide +kernel
theorem dX11_stands_83 : decode cX11_stands 83 = .ok (.aload_n 0, 1) := by decide +kernel
theorem dX11_stands_84 : decode cX11_stands 84 = .ok (.getfield 30, 3) := by decide +kernel
theorem dX11_stands_87 : decode cX11_stands 87 = .ok (.aload_n 0, 1) := by decide +kernel
theorem dX11_stands_88 : decode cX11_stands 88 = .ok (.getfield 105, 3) := by decide +kernel
theorem dX11_stands_91 : decode cX11_stands 91 = .ok (.invokevirtual 394, 3) := by decide +kernel
theorem dX11_stands_94 : decode cX11_stands 94 = .ok (.aload_n 0, 1) := by decide +kernel
theorem dX11_stands_95 : decode cX11_stands 95 = .ok (.getfield 30, 3) := by decide +kernel
theorem dX11_stands_98 : decode cX11_stands 98 = .ok (.iload_n 1, 1) := by decide +kernel
theorem dX11_stands_99 : decode cX11_stands 99 = .ok (.invokevirtual 420, 3) := by decide +kernel
theorem dX11_stands_102 : decode cX11_stands 102 = .ok (.ifCond .eq 9, 3) := by decide +kernel
theorem dX11_stands_105 : decode cX11_stands 105 = .ok (.iload 4, 2) := by decide +kernel
theorem dX11_stands_107 : decode cX11_stands 107 = .ok (.istore_n 2, 1) := by decide +kernel
theorem dX11_stands_108 : decode cX11_stands 108 = .ok (.iinc 3 1, 3) := by decide +kernel
theorem dX11_stands_111 : decode cX11_stands 111 = .ok (.iinc 4 (-1), 3) := by decide +kernel
theorem dX11_stands_114 : decode cX11_stands 114 = .ok (.goto (-72), 3) := by decide +kernel
theorem dX11_stands_117 : decode cX11_stands 117 = .ok (.iload_n 3, 1) := by decide +kernel
theorem dX11_stands_118 : decode cX11_stands 118 = .ok (.ifCond .ne 6, 3) := by decide +kernel
theorem dX11_stands_121 : decode cX11_stands 121 = .ok (.bipush (-2), 2) := by decide +kernel
theorem dX11_stands_123 : decode cX11_stands 123 = .ok (.ireturn, 1) := by decide +kernel
theorem dX11_stands_124 : decode cX11_stands 124 = .ok (.aload_n 0, 1) := by decide +kernel
theorem dX11_stands_125 : decode cX11_stands 125 = .ok (.getfield 66, 3) := by decide +kernel
theorem dX11_stands_128 : decode cX11_stands 128 = .ok (.iload_n 3, 1) := by decide +kernel
theorem dX11_stands_129 : decode cX11_stands 129 = .ok (.i2l, 1) := by decide +kernel
theorem dX11_stands_130 : decode cX11_stands 130 = .ok (.invokevirtual 366, 3) := by decide +kernel
theorem dX11_stands_133 : decode cX11_stands 133 = .ok (.iload_n 2, 1) := by decide +kernel
theorem dX11_stands_134 : decode cX11_stands 134 = .ok (.ireturn, 1) := by decide +kernel
theorem dX11_when_0 : decode cX11_when 0 = .ok (.aload_n 0, 1) := by decide +kernel
theorem dX11_when_1 : decode cX11_when 1 = .ok (.getfield 26, 3) := by decide +kernel
theorem dX11_when_4 : decode cX11_when 4 = .ok (.iload_n 1, 1) := by decide +kernel
theorem dX11_when_5 : decode cX11_when 5 = .ok (.invokevirtual 265, 3) := by decide +kernel
theorem dX11_when_8 : decode cX11_when 8 = .ok (.ifCond .ne 5, 3) := by decide +kernel
theorem dX11_when_11 : decode cX11_when 11 = .ok (.iconst (-1), 1) := by decide +kernel
theorem dX11_when_12 : decode cX11_when 12 = .ok (.ireturn, 1) := by decide +kernel
theorem dX11_when_13 : decode cX11_when 13 = .ok (.aload_n 0, 1) := by decide +kernel
theorem dX11_when_14 : decode cX11_when 14 = .ok (.getfield 33, 3) := by decide +kernel
theorem dX11_when_17 : decode cX11_when 17 = .ok (.aload_n 0, 1) := by decide +kernel
theorem dX11_when_18 : decode cX11_when 18 = .ok (.getfield 26, 3) := by decide +kernel
theorem dX11_when_21 : decode cX11_when 21 = .ok (.invokevirtual 153, 3) := by decide +kernel
theorem dX11_when_24 : decode cX11_when 24 = .ok (.iconst (-1), 1) := by decide +kernel
theorem dX11_when_25 : decode cX11_when 25 = .ok (.istore_n 2, 1) := by decide +kernel
theorem dX11_when_26 : decode cX11_when 26 = .ok (.iconst (-1), 1) := by decide +kernel
theorem dX11_when_27 : decode cX11_when 27 = .ok (.istore_n 3, 1) := by decide +kernel
theorem dX11_when_28 : decode cX11_when 28 = .ok (.iconst 0, 1) := by decide +kernel
theorem dX11_when_29 : decode cX11_when 29 = .ok (.istore 4, 2) := by decide +kernel
theorem dX11_when_31 : decode cX11_when 31 = .ok (.iload 4, 2) := by decide +kernel
theorem dX11_when_33 : decode cX11_when 33 = .ok (.bipush 60, 2) := by decide +kernel
theorem dX11_when_35 : decode cX11_when 35 = .ok (.if_icmp .gt 84, 3) := by decide +kernel
theorem dX11_when_38 : decode cX11_when 38 = .ok (.aload_n 0, 1) := by decide +kernel
theorem dX11_when_39 : decode cX11_when 39 = .ok (.getfield 30, 3) := by decide +kernel
theorem dX11_when_42 : decode cX11_when 42 = .ok (.aload_n 0, 1) := by decide +kernel
theorem dX11_when_43 : decode cX11_when 43 = .ok (.getfield 33, 3) := by decide +kernel
theorem dX11_when_46 : decode cX11_when 46 = .ok (.invokevirtual 153, 3) := by decide +kernel
theorem dX11_when_49 : decode cX11_when 49 = .ok (.aload_n 0, 1) := by decide +kernel
theorem dX11_when_50 : decode cX11_when 50 = .ok (.iload_n 1, 1) := by decide +kernel
theorem dX11_when_51 : decode cX11_when 51 = .ok (.invokevirtual 423, 3) := by decide +kernel
theorem dX11_when_54 : decode cX11_when 54 = .ok (.ifCond .eq 44, 3) := by decide +kernel
theorem dX11_when_57 : decode cX11_when 57 = .ok (.aload_n 0, 1) := by decide +kernel
theorem dX11_when_58 : decode cX11_when 58 = .ok (.getfield 44, 3) := by decide +kernel
theorem dX11_when_61 : decode cX11_when 61 = .ok (.aload_n 0, 1) := by decide +kernel
theorem dX11_when_62 : decode cX11_when 62 = .ok (.getfield 30, 3) := by decide +kernel
theorem dX11_when_65 : decode cX11_when 65 = .ok (.aload_n 0, 1) := by decide +kernel
theorem dX11_when_66 : decode cX11_when 66 = .ok (.getfield 105, 3) := by decide +kernel
theorem dX11_when_69 : decode cX11_when 69 = .ok (.invokevirtual 394, 3) := by decide +kernel
theorem dX11_when_72 : decode cX11_when 72 = .ok (.aload_n 0, 1) := by decide +kernel
theorem dX11_when_73 : decode cX11_when 73 = .ok (.getfield 30, 3) := by decide +kernel
theorem dX11_when_76 : decode cX11_when 76 = .ok (.iload_n 1, 1) := by decide +kernel
theorem dX11_when_77 : decode cX11_when 77 = .ok (.invokevirtual 420, 3) := by decide +kernel
theorem dX11_when_80 : decode cX11_when 80 = .ok (.ifCond .eq 18, 3) := by decide +kernel
theorem dX11_when_83 : decode cX11_when 83 = .ok (.iload_n 2, 1) := by decide +kernel
theorem dX11_when_84 : decode cX11_when 84 = .ok (.iconst (-1), 1) := by decide +kernel
theorem dX11_when_85 : decode cX11_when 85 = .ok (.if_icmp .ne 8, 3) := by decide +kernel
theorem dX11_when_88 : decode cX11_when 88 = .ok (.iload 4, 2) := by decide +kernel
theorem dX11_when_90 : decode cX11_when 90 = .ok (.goto 4, 3) := by decide +kernel
theorem dX11_when_93 : decode cX11_when 93 = .ok (.iload_n 2, 1) := by decide +kernel
theorem dX11_when_94 : decode cX11_when 94 = .ok (.istore_n 2, 1) := by decide +kernel
theorem dX11_when_95 : decode cX11_when 95 = .ok (.iload 4, 2) := by decide +kernel
theorem dX11_when_97 : decode cX11_when 97 = .ok (.istore_n 3, 1) := by decide +kernel
theorem dX11_when_98 : decode cX11_when 98 = .ok (.aload_n 0, 1) := by decide +kernel
theorem dX11_when_99 : decode cX11_when 99 = .ok (.getfield 44, 3) := by decide +kernel
theorem dX11_when_102 : decode cX11_when 102 = .ok (.aload_n 0, 1) := by decide +kernel
theorem dX11_when_103 : decode cX11_when 103 = .ok (.getfield 33, 3) := by decide +kernel
theorem dX11_when_106 : decode cX11_when 106 = .ok (.aload_n 0, 1) := by decide +kernel
theorem dX11_when_107 : decode cX11_when 107 = .ok (.getfield 105, 3) := by decide +kernel
theorem dX11_when_110 : decode cX11_when 110 = .ok (.invokevirtual 362, 3) := by decide +kernel
theorem dX11_when_113 : decode cX11_when 113 = .ok (.iinc 4 1, 3) := by decide +kernel
theorem dX11_when_116 : decode cX11_when 116 = .ok (.goto (-85), 3) := by decide +kernel
theorem dX11_when_119 : decode cX11_when 119 = .ok (.iload_n 2, 1) := by decide +kernel
theorem dX11_when_120 : decode cX11_when 120 = .ok (.iconst (-1), 1) := by decide +kernel
theorem dX11_when_121 : decode cX11_when 121 = .ok (.if_icmp .ne 6, 3) := by decide +kernel
theorem dX11_when_124 : decode cX11_when 124 = .ok (.bipush (-2), 2) := by decide +kernel
theorem dX11_when_126 : decode cX11_when 126 = .ok (.ireturn, 1) := by decide +kernel
theorem dX11_when_127 : decode cX11_when 127 = .ok (.aload_n 0, 1) := by decide +kernel
theorem dX11_when_128 : decode cX11_when 128 = .ok (.getfield 66, 3) := by decide +kernel
theorem dX11_when_131 : decode cX11_when 131 = .ok (.iload_n 3, 1) := by decide +kernel
theorem dX11_when_132 : decode cX11_when 132 = .ok (.i2l, 1) := by decide +kernel
theorem dX11_when_133 : decode cX11_when 133 = .ok (.invokevirtual 366, 3) := by decide +kernel
theorem dX11_when_136 : decode cX11_when 136 = .ok (.iload_n 2, 1) := by decide +kernel
theorem dX11_when_137 : decode cX11_when 137 = .ok (.ireturn, 1) := by decide +kernel
theorem dX11_isTurned_0 : decode cX11_isTurned 0 = .ok (.aload_n 0, 1) := by decide +kernel
theorem dX11_isTurned_1 : decode cX11_isTurned 1 = .ok (.getfield 30, 3) := by decide +kernel
theorem dX11_isTurned_4 : decode cX11_isTurned 4 = .ok (.iload_n 1, 1) := by decide +kernel
theorem dX11_isTurned_5 : decode cX11_isTurned 5 = .ok (.invokevirtual 278, 3) := by decide +kernel
theorem dX11_isTurned_8 : decode cX11_isTurned 8 = .ok (.ifCond .ne 28, 3) := by decide +kernel
theorem dX11_isTurned_11 : decode cX11_isTurned 11 = .ok (.aload_n 0, 1) := by decide +kernel
theorem dX11_isTurned_12 : decode cX11_isTurned 12 = .ok (.getfield 30, 3) := by decide +kernel
theorem dX11_isTurned_15 : decode cX11_isTurned 15 = .ok (.getfield 240, 3) := by decide +kernel
theorem dX11_isTurned_18 : decode cX11_isTurned 18 = .ok (.iload_n 1, 1) := by decide +kernel
theorem dX11_isTurned_19 : decode cX11_isTurned 19 = .ok (.iaload, 1) := by decide +kernel
theorem dX11_isTurned_20 : decode cX11_isTurned 20 = .ok (.aload_n 0, 1) := by decide +kernel
theorem dX11_isTurned_21 : decode cX11_isTurned 21 = .ok (.getfield 30, 3) := by decide +kernel
theorem dX11_isTurned_24 : decode cX11_isTurned 24 = .ok (.getfield 250, 3) := by decide +kernel
theorem dX11_isTurned_27 : decode cX11_isTurned 27 = .ok (.iload_n 1, 1) := by decide +kernel
theorem dX11_isTurned_28 : decode cX11_isTurned 28 = .ok (.iaload, 1) := by decide +kernel
theorem dX11_isTurned_29 : decode cX11_isTurned 29 = .ok (.if_icmp .ne 7, 3) := by decide +kernel
theorem dX11_isTurned_32 : decode cX11_isTurned 32 = .ok (.iconst 1, 1) := by decide +kernel
theorem dX11_isTurned_33 : decode cX11_isTurned 33 = .ok (.goto 4, 3) := by decide +kernel
theorem dX11_isTurned_36 : decode cX11_isTurned 36 = .ok (.iconst 0, 1) := by decide +kernel
theorem dX11_isTurned_37 : decode cX11_isTurned 37 = .ok (.istore_n 2, 1) := by decide +kernel
theorem dX11_isTurned_38 : decode cX11_isTurned 38 = .ok (.iload_n 2, 1) := by decide +kernel
theorem dX11_isTurned_39 : decode cX11_isTurned 39 = .ok (.ifCond .ne 17, 3) := by decide +kernel
theorem dX11_isTurned_42 : decode cX11_isTurned 42 = .ok (.aload_n 0, 1) := by decide +kernel
theorem dX11_isTurned_43 : decode cX11_isTurned 43 = .ok (.getfield 30, 3) := by decide +kernel
theorem dX11_isTurned_46 : decode cX11_isTurned 46 = .ok (.iload_n 1, 1) := by decide +kernel
theorem dX11_isTurned_47 : decode cX11_isTurned 47 = .ok (.invokevirtual 308, 3) := by decide +kernel
theorem dX11_isTurned_50 : decode cX11_isTurned 50 = .ok (.invokestatic 318, 3) := by decide +kernel
theorem dX11_isTurned_53 : decode cX11_isTurned 53 = .ok (.ifCond .eq 7, 3) := by decide +kernel
theorem dX11_isTurned_56 : decode cX11_isTurned 56 = .ok (.iconst 1, 1) := by decide +kernel
theorem dX11_isTurned_57 : decode cX11_isTurned 57 = .ok (.goto 4, 3) := by decide +kernel
theorem dX11_isTurned_60 : decode cX11_isTurned 60 = .ok (.iconst 0, 1) := by decide +kernel
theorem dX11_isTurned_61 : decode cX11_isTurned 61 = .ok (.ireturn, 1) := by decide +kernel
theorem dX11_mends_0 : decode cX11_mends 0 = .ok (.iload_n 1, 1) := by decide +kernel
theorem dX11_mends_1 : decode cX11_mends 1 = .ok (.ifCond .lt 9, 3) := by decide +kernel
theorem dX11_mends_4 : decode cX11_mends 4 = .ok (.iload_n 1, 1) := by decide +kernel
theorem dX11_mends_5 : decode cX11_mends 5 = .ok (.bipush 8, 2) := by decide +kernel
theorem dX11_mends_7 : decode cX11_mends 7 = .ok (.if_icmp .le 5, 3) := by decide +kernel
theorem dX11_mends_10 : decode cX11_mends 10 = .ok (.iconst (-1), 1) := by decide +kernel
theorem dX11_mends_11 : decode cX11_mends 11 = .ok (.ireturn, 1) := by decide +kernel
theorem dX11_mends_12 : decode cX11_mends 12 = .ok (.aload_n 0, 1) := by decide +kernel
theorem dX11_mends_13 : decode cX11_mends 13 = .ok (.invokevirtual 426, 3) := by decide +kernel
theorem dX11_mends_16 : decode cX11_mends 16 = .ok (.istore_n 2, 1) := by decide +kernel
theorem dX11_mends_17 : decode cX11_mends 17 = .ok (.iconst 0, 1) := by decide +kernel
theorem dX11_mends_18 : decode cX11_mends 18 = .ok (.istore_n 3, 1) := by decide +kernel
theorem dX11_mends_19 : decode cX11_mends 19 = .ok (.iload_n 3, 1) := by decide +kernel
theorem dX11_mends_20 : decode cX11_mends 20 = .ok (.aload_n 0, 1) := by decide +kernel
theorem dX11_mends_21 : decode cX11_mends 21 = .ok (.getfield 26, 3) := by decide +kernel
theorem dX11_mends_24 : decode cX11_mends 24 = .ok (.getfield 191, 3) := by decide +kernel
theorem dX11_mends_27 : decode cX11_mends 27 = .ok (.if_icmp .gt 95, 3) := by decide +kernel
theorem dX11_mends_30 : decode cX11_mends 30 = .ok (.iconst 0, 1) := by decide +kernel
theorem dX11_mends_31 : decode cX11_mends 31 = .ok (.istore 4, 2) := by decide +kernel
theorem dX11_mends_33 : decode cX11_mends 33 = .ok (.iload 4, 2) := by decide +kernel
theorem dX11_mends_35 : decode cX11_mends 35 = .ok (.iconst 1, 1) := by decide +kernel
theorem dX11_mends_36 : decode cX11_mends 36 = .ok (.aload_n 0, 1) := by decide +kernel
theorem dX11_mends_37 : decode cX11_mends 37 = .ok (.getfield 26, 3) := by decide +kernel
theorem dX11_mends_40 : decode cX11_mends 40 = .ok (.getfield 191, 3) := by decide +kernel
theorem dX11_mends_43 : decode cX11_mends 43 = .ok (.ishl, 1) := by decide +kernel
theorem dX11_mends_44 : decode cX11_mends 44 = .ok (.if_icmp .ge 72, 3) := by decide +kernel
theorem dX11_mends_47 : decode cX11_mends 47 = .ok (.iload 4, 2) := by decide +kernel
theorem dX11_mends_49 : decode cX11_mends 49 = .ok (.iload_n 2, 1) := by decide +kernel
theorem dX11_mends_50 : decode cX11_mends 50 = .ok (.iconst (-1), 1) := by decide +kernel
theorem dX11_mends_51 : decode cX11_mends 51 = .ok (.ixor, 1) := by decide +kernel
theorem dX11_mends_52 : decode cX11_mends 52 = .ok (.iand, 1) := by decide +kernel
theorem dX11_mends_53 : decode cX11_mends 53 = .ok (.ifCond .ne 16, 3) := by decide +kernel
theorem dX11_mends_56 : decode cX11_mends 56 = .ok (.iload 4, 2) := by decide +kernel
theorem dX11_mends_58 : decode cX11_mends 58 = .ok (.invokestatic 389, 3) := by decide +kernel
theorem dX11_mends_61 : decode cX11_mends 61 = .ok (.iload_n 3, 1) := by decide +kernel
theorem dX11_mends_62 : decode cX11_mends 62 = .ok (.if_icmp .ne 7, 3) := by decide +kernel
theorem dX11_mends_65 : decode cX11_mends 65 = .ok (.iconst 1, 1) := by decide +kernel
theorem dX11_mends_66 : decode cX11_mends 66 = .ok (.goto 4, 3) := by decide +kernel
theorem dX11_mends_69 : decode cX11_mends 69 = .ok (.iconst 0, 1) := by decide +kernel
theorem dX11_mends_70 : decode cX11_mends 70 = .ok (.istore 5, 2) := by decide +kernel
theorem dX11_mends_72 : decode cX11_mends 72 = .ok (.iload 5, 2) := by decide +kernel
theorem dX11_mends_74 : decode cX11_mends 74 = .ok (.ifCond .eq 36, 3) := by decide +kernel
theorem dX11_mends_77 : decode cX11_mends 77 = .ok (.aload_n 0, 1) := by decide +kernel
theorem dX11_mends_78 : decode cX11_mends 78 = .ok (.iload 4, 2) := by decide +kernel
theorem dX11_mends_80 : decode cX11_mends 80 = .ok (.invokevirtual 429, 3) := by decide +kernel
theorem dX11_mends_83 : decode cX11_mends 83 = .ok (.aload_n 0, 1) := by decide +kernel
theorem dX11_mends_84 : decode cX11_mends 84 = .ok (.aload_n 0, 1) := by decide +kernel
theorem dX11_mends_85 : decode cX11_mends 85 = .ok (.getfield 105, 3) := by decide +kernel
theorem dX11_mends_88 : decode cX11_mends 88 = .ok (.invokevirtual 382, 3) := by decide +kernel
theorem dX11_mends_91 : decode cX11_mends 91 = .ok (.invokestatic 389, 3) := by decide +kernel
theorem dX11_mends_94 : decode cX11_mends 94 = .ok (.iload_n 1, 1) := by decide +kernel
theorem dX11_mends_95 : decode cX11_mends 95 = .ok (.if_icmp .lt 15, 3) := by decide +kernel
theorem dX11_mends_98 : decode cX11_mends 98 = .ok (.aload_n 0, 1) := by decide +kernel
theorem dX11_mends_99 : decode cX11_mends 99 = .ok (.getfield 66, 3) := by decide +kernel
theorem dX11_mends_102 : decode cX11_mends 102 = .ok (.iload 4, 2) := by decide +kernel
theorem dX11_mends_104 : decode cX11_mends 104 = .ok (.i2l, 1) := by decide +kernel
theorem dX11_mends_105 : decode cX11_mends 105 = .ok (.invokevirtual 366, 3) := by decide +kernel
theorem dX11_mends_108 : decode cX11_mends 108 = .ok (.iload_n 3, 1) := by decide +kernel
theorem dX11_mends_109 : decode cX11_mends 109 = .ok (.ireturn, 1) := by decide +kernel
theorem dX11_mends_110 : decode cX11_mends 110 = .ok (.iinc 4 1, 3) := by decide +kernel
theorem dX11_mends_113 : decode cX11_mends 113 = .ok (.goto (-80), 3) := by decide +kernel
theorem dX11_mends_116 : decode cX11_mends 116 = .ok (.iinc 3 1, 3) := by decide +kernel
theorem dX11_mends_119 : decode cX11_mends 119 = .ok (.goto (-100), 3) := by decide +kernel
theorem dX11_mends_122 : decode cX11_mends 122 = .ok (.bipush (-2), 2) := by decide +kernel
theorem dX11_mends_124 : decode cX11_mends 124 = .ok (.ireturn, 1) := by decide +kernel
theorem dX11_ableToTurn_0 : decode cX11_ableToTurn 0 = .ok (.aload_n 0, 1) := by decide +kernel
theorem dX11_ableToTurn_1 : decode cX11_ableToTurn 1 = .ok (.getfield 30, 3) := by decide +kernel
theorem dX11_ableToTurn_4 : decode cX11_ableToTurn 4 = .ok (.aload_n 0, 1) := by decide +kernel
theorem dX11_ableToTurn_5 : decode cX11_ableToTurn 5 = .ok (.getfield 26, 3) := by decide +kernel
theorem dX11_ableToTurn_8 : decode cX11_ableToTurn 8 = .ok (.invokevirtual 153, 3) := by decide +kernel
theorem dX11_ableToTurn_11 : decode cX11_ableToTurn 11 = .ok (.iconst 0, 1) := by decide +kernel
theorem dX11_ableToTurn_12 : decode cX11_ableToTurn 12 = .ok (.istore_n 1, 1) := by decide +kernel
theorem dX11_ableToTurn_13 : decode cX11_ableToTurn 13 = .ok (.iconst 0, 1) := by decide +kernel
theorem dX11_ableToTurn_14 : decode cX11_ableToTurn 14 = .ok (.istore_n 2, 1) := by decide +kernel
theorem dX11_ableToTurn_15 : decode cX11_ableToTurn 15 = .ok (.iload_n 2, 1) := by decide +kernel
theorem dX11_ableToTurn_16 : decode cX11_ableToTurn 16 = .ok (.aload_n 0, 1) := by decide +kernel
theorem dX11_ableToTurn_17 : decode cX11_ableToTurn 17 = .ok (.getfield 26, 3) := by decide +kernel
theorem dX11_ableToTurn_20 : decode cX11_ableToTurn 20 = .ok (.getfield 191, 3) := by decide +kernel
theorem dX11_ableToTurn_23 : decode cX11_ableToTurn 23 = .ok (.if_icmp .ge 33, 3) := by decide +kernel
theorem dX11_ableToTurn_26 : decode cX11_ableToTurn 26 = .ok (.iload_n 1, 1) := by decide +kernel
theorem dX11_ableToTurn_27 : decode cX11_ableToTurn 27 = .ok (.aload_n 0, 1) := by decide +kernel
theorem dX11_ableToTurn_28 : decode cX11_ableToTurn 28 = .ok (.getfield 30, 3) := by decide +kernel
theorem dX11_ableToTurn_31 : decode cX11_ableToTurn 31 = .ok (.iload_n 2, 1) := by decide +kernel
theorem dX11_ableToTurn_32 : decode cX11_ableToTurn 32 = .ok (.invokevirtual 308, 3) := by decide +kernel
theorem dX11_ableToTurn_35 : decode cX11_ableToTurn 35 = .ok (.invokestatic 318, 3) := by decide +kernel
theorem dX11_ableToTurn_38 : decode cX11_ableToTurn 38 = .ok (.ifCond .eq 9, 3) := by decide +kernel
theorem dX11_ableToTurn_41 : decode cX11_ableToTurn 41 = .ok (.iconst 1, 1) := by decide +kernel
theorem dX11_ableToTurn_42 : decode cX11_ableToTurn 42 = .ok (.iload_n 2, 1) := by decide +kernel
theorem dX11_ableToTurn_43 : decode cX11_ableToTurn 43 = .ok (.ishl, 1) := by decide +kernel
theorem dX11_ableToTurn_44 : decode cX11_ableToTurn 44 = .ok (.goto 4, 3) := by decide +kernel
theorem dX11_ableToTurn_47 : decode cX11_ableToTurn 47 = .ok (.iconst 0, 1) := by decide +kernel
theorem dX11_ableToTurn_48 : decode cX11_ableToTurn 48 = .ok (.ior, 1) := by decide +kernel
theorem dX11_ableToTurn_49 : decode cX11_ableToTurn 49 = .ok (.istore_n 1, 1) := by decide +kernel
theorem dX11_ableToTurn_50 : decode cX11_ableToTurn 50 = .ok (.iinc 2 1, 3) := by decide +kernel
theorem dX11_ableToTurn_53 : decode cX11_ableToTurn 53 = .ok (.goto (-38), 3) := by decide +kernel
theorem dX11_ableToTurn_56 : decode cX11_ableToTurn 56 = .ok (.iload_n 1, 1) := by decide +kernel
theorem dX11_ableToTurn_57 : decode cX11_ableToTurn 57 = .ok (.ireturn, 1) := by decide +kernel
theorem dX11_turnInTrial_0 : decode cX11_turnInTrial 0 = .ok (.aload_n 0, 1) := by decide +kernel
theorem dX11_turnInTrial_1 : decode cX11_turnInTrial 1 = .ok (.getfield 30, 3) := by decide +kernel
theorem dX11_turnInTrial_4 : decode cX11_turnInTrial 4 = .ok (.aload_n 0, 1) := by decide +kernel
theorem dX11_turnInTrial_5 : decode cX11_turnInTrial 5 = .ok (.getfield 26, 3) := by decide +kernel
theorem dX11_turnInTrial_8 : decode cX11_turnInTrial 8 = .ok (.invokevirtual 153, 3) := by decide +kernel
theorem dX11_turnInTrial_11 : decode cX11_turnInTrial 11 = .ok (.iconst 0, 1) := by decide +kernel
theorem dX11_turnInTrial_12 : decode cX11_turnInTrial 12 = .ok (.istore_n 2, 1) := by decide +kernel
theorem dX11_turnInTrial_13 : decode cX11_turnInTrial 13 = .ok (.iload_n 2, 1) := by decide +kernel
theorem dX11_turnInTrial_14 : decode cX11_turnInTrial 14 = .ok (.aload_n 0, 1) := by decide +kernel
theorem dX11_turnInTrial_15 : decode cX11_turnInTrial 15 = .ok (.getfield 26, 3) := by decide +kernel
theorem dX11_turnInTrial_18 : decode cX11_turnInTrial 18 = .ok (.getfield 191, 3) := by decide +kernel
theorem dX11_turnInTrial_21 : decode cX11_turnInTrial 21 = .ok (.if_icmp .ge 27, 3) := by decide +kernel
theorem dX11_turnInTrial_24 : decode cX11_turnInTrial 24 = .ok (.iload_n 1, 1) := by decide +kernel
theorem dX11_turnInTrial_25 : decode cX11_turnInTrial 25 = .ok (.iload_n 2, 1) := by decide +kernel
theorem dX11_turnInTrial_26 : decode cX11_turnInTrial 26 = .ok (.ishr, 1) := by decide +kernel
theorem dX11_turnInTrial_27 : decode cX11_turnInTrial 27 = .ok (.iconst 1, 1) := by decide +kernel
theorem dX11_turnInTrial_28 : decode cX11_turnInTrial 28 = .ok (.iand, 1) := by decide +kernel
theorem dX11_turnInTrial_29 : decode cX11_turnInTrial 29 = .ok (.iconst 1, 1) := by decide +kernel
theorem dX11_turnInTrial_30 : decode cX11_turnInTrial 30 = .ok (.if_icmp .ne 12, 3) := by decide +kernel
theorem dX11_turnInTrial_33 : decode cX11_turnInTrial 33 = .ok (.aload_n 0, 1) := by decide +kernel
theorem dX11_turnInTrial_34 : decode cX11_turnInTrial 34 = .ok (.getfield 30, 3) := by decide +kernel
theorem dX11_turnInTrial_37 : decode cX11_turnInTrial 37 = .ok (.iload_n 2, 1) := by decide +kernel
theorem dX11_turnInTrial_38 : decode cX11_turnInTrial 38 = .ok (.invokevirtual 308, 3) := by decide +kernel
theorem dX11_turnInTrial_41 : decode cX11_turnInTrial 41 = .ok (.pop, 1) := by decide +kernel
theorem dX11_turnInTrial_42 : decode cX11_turnInTrial 42 = .ok (.iinc 2 1, 3) := by decide +kernel
theorem dX11_turnInTrial_45 : decode cX11_turnInTrial 45 = .ok (.goto (-32), 3) := by decide +kernel
theorem dX11_turnInTrial_48 : decode cX11_turnInTrial 48 = .ok (.return_, 1) := by decide +kernel
theorem dX11_misleads_0 : decode cX11_misleads 0 = .ok (.aload_n 0, 1) := by decide +kernel
theorem dX11_misleads_1 : decode cX11_misleads 1 = .ok (.getfield 30, 3) := by decide +kernel
theorem dX11_misleads_4 : decode cX11_misleads 4 = .ok (.aload_n 0, 1) := by decide +kernel
theorem dX11_misleads_5 : decode cX11_misleads 5 = .ok (.getfield 26, 3) := by decide +kernel
theorem dX11_misleads_8 : decode cX11_misleads 8 = .ok (.invokevirtual 153, 3) := by decide +kernel
theorem dX11_misleads_11 : decode cX11_misleads 11 = .ok (.aload_n 0, 1) := by decide +kernel
theorem dX11_misleads_12 : decode cX11_misleads 12 = .ok (.aload_n 0, 1) := by decide +kernel
theorem dX11_misleads_13 : decode cX11_misleads 13 = .ok (.getfield 105, 3) := by decide +kernel
theorem dX11_misleads_16 : decode cX11_misleads 16 = .ok (.invokevirtual 382, 3) := by decide +kernel
theorem dX11_misleads_19 : decode cX11_misleads 19 = .ok (.istore_n 1, 1) := by decide +kernel
theorem dX11_misleads_20 : decode cX11_misleads 20 = .ok (.iconst (-1), 1) := by decide +kernel
theorem dX11_misleads_21 : decode cX11_misleads 21 = .ok (.istore_n 2, 1) := by decide +kernel
theorem dX11_misleads_22 : decode cX11_misleads 22 = .ok (.iconst (-1), 1) := by decide +kernel
theorem dX11_misleads_23 : decode cX11_misleads 23 = .ok (.istore_n 3, 1) := by decide +kernel
theorem dX11_misleads_24 : decode cX11_misleads 24 = .ok (.iconst 0, 1) := by decide +kernel
theorem dX11_misleads_25 : decode cX11_misleads 25 = .ok (.istore 4, 2) := by decide +kernel
theorem dX11_misleads_27 : decode cX11_misleads 27 = .ok (.iload 4, 2) := by decide +kernel
theorem dX11_misleads_29 : decode cX11_misleads 29 = .ok (.aload_n 0, 1) := by decide +kernel
theorem dX11_misleads_30 : decode cX11_misleads 30 = .ok (.getfield 26, 3) := by decide +kernel
theorem dX11_misleads_33 : decode cX11_misleads 33 = .ok (.getfield 176, 3) := by decide +kernel
theorem dX11_misleads_36 : decode cX11_misleads 36 = .ok (.if_icmp .ge 93, 3) := by decide +kernel
theorem dX11_misleads_39 : decode cX11_misleads 39 = .ok (.aload_n 0, 1) := by decide +kernel
theorem dX11_misleads_40 : decode cX11_misleads 40 = .ok (.getfield 26, 3) := by decide +kernel
theorem dX11_misleads_43 : decode cX11_misleads 43 = .ok (.iload 4, 2) := by decide +kernel
theorem dX11_misleads_45 : decode cX11_misleads 45 = .ok (.invokevirtual 255, 3) := by decide +kernel
theorem dX11_misleads_48 : decode cX11_misleads 48 = .ok (.ifCond .ne 75, 3) := by decide +kernel
theorem dX11_misleads_51 : decode cX11_misleads 51 = .ok (.aload_n 0, 1) := by decide +kernel
theorem dX11_misleads_52 : decode cX11_misleads 52 = .ok (.getfield 30, 3) := by decide +kernel
theorem dX11_misleads_55 : decode cX11_misleads 55 = .ok (.aload_n 0, 1) := by decide +kernel
theorem dX11_misleads_56 : decode cX11_misleads 56 = .ok (.getfield 26, 3) := by decide +kernel
