theorem dX11_readLines_121 : decode cX11_readLines 121 = .ok (.aload_n 0, 1) := o_42 BX11_readLines rfl rfl
theorem dX11_readLines_122 : decode cX11_readLines 122 = .ok (.getfield 51, 3) := o_180 BX11_readLines rfl rfl rfl
theorem dX11_readLines_125 : decode cX11_readLines 125 = .ok (.invokevirtual 136, 3) := o_182 BX11_readLines rfl rfl rfl
theorem dX11_readLines_128 : decode cX11_readLines 128 = .ok (.iload_n 2, 1) := o_28 BX11_readLines rfl rfl
theorem dX11_readLines_129 : decode cX11_readLines 129 = .ok (.ireturn, 1) := o_172 BX11_readLines rfl rfl
theorem dX11_readHearse_0 : decode cX11_readHearse 0 = .ok (.aload_n 0, 1) := o_42 BX11_readHearse rfl rfl
theorem dX11_readHearse_1 : decode cX11_readHearse 1 = .ok (.getfield 30, 3) := o_180 BX11_readHearse rfl rfl rfl
theorem dX11_readHearse_4 : decode cX11_readHearse 4 = .ok (.getfield 176, 3) := o_180 BX11_readHearse rfl rfl rfl
theorem dX11_readHearse_7 : decode cX11_readHearse 7 = .ok (.bipush 6, 2) := o_16 BX11_readHearse rfl rfl rfl
theorem dX11_readHearse_9 : decode cX11_readHearse 9 = .ok (.if_icmp .lt 5, 3) := o_161 BX11_readHearse rfl rfl rfl
theorem dX11_readHearse_12 : decode cX11_readHearse 12 = .ok (.iconst 0, 1) := o_3 BX11_readHearse rfl rfl
theorem dX11_readHearse_13 : decode cX11_readHearse 13 = .ok (.ireturn, 1) := o_172 BX11_readHearse rfl rfl
theorem dX11_readHearse_14 : decode cX11_readHearse 14 = .ok (.aload_n 0, 1) := o_42 BX11_readHearse rfl rfl
theorem dX11_readHearse_15 : decode cX11_readHearse 15 = .ok (.invokevirtual 179, 3) := o_182 BX11_readHearse rfl rfl rfl
theorem dX11_readHearse_18 : decode cX11_readHearse 18 = .ok (.istore_n 1, 1) := o_60 BX11_readHearse rfl rfl
theorem dX11_readHearse_19 : decode cX11_readHearse 19 = .ok (.iload_n 1, 1) := o_27 BX11_readHearse rfl rfl
theorem dX11_readHearse_20 : decode cX11_readHearse 20 = .ok (.iconst (-1), 1) := o_2 BX11_readHearse rfl rfl
theorem dX11_readHearse_21 : decode cX11_readHearse 21 = .ok (.if_icmp .ne 5, 3) := o_160 BX11_readHearse rfl rfl rfl
theorem dX11_readHearse_24 : decode cX11_readHearse 24 = .ok (.iconst 0, 1) := o_3 BX11_readHearse rfl rfl
theorem dX11_readHearse_25 : decode cX11_readHearse 25 = .ok (.ireturn, 1) := o_172 BX11_readHearse rfl rfl
theorem dX11_readHearse_26 : decode cX11_readHearse 26 = .ok (.aload_n 0, 1) := o_42 BX11_readHearse rfl rfl
theorem dX11_readHearse_27 : decode cX11_readHearse 27 = .ok (.getfield 30, 3) := o_180 BX11_readHearse rfl rfl rfl
theorem dX11_readHearse_30 : decode cX11_readHearse 30 = .ok (.iload_n 1, 1) := o_27 BX11_readHearse rfl rfl
theorem dX11_readHearse_31 : decode cX11_readHearse 31 = .ok (.invokevirtual 182, 3) := o_182 BX11_readHearse rfl rfl rfl
theorem dX11_readHearse_34 : decode cX11_readHearse 34 = .ok (.iconst (-1), 1) := o_2 BX11_readHearse rfl rfl
theorem dX11_readHearse_35 : decode cX11_readHearse 35 = .ok (.if_icmp .eq 12, 3) := o_159 BX11_readHearse rfl rfl rfl
theorem dX11_readHearse_38 : decode cX11_readHearse 38 = .ok (.aload_n 0, 1) := o_42 BX11_readHearse rfl rfl
theorem dX11_readHearse_39 : decode cX11_readHearse 39 = .ok (.getfield 10, 3) := o_180 BX11_readHearse rfl rfl rfl
theorem dX11_readHearse_42 : decode cX11_readHearse 42 = .ok (.invokevirtual 185, 3) := o_182 BX11_readHearse rfl rfl rfl
theorem dX11_readHearse_45 : decode cX11_readHearse 45 = .ok (.iconst 0, 1) := o_3 BX11_readHearse rfl rfl
theorem dX11_readHearse_46 : decode cX11_readHearse 46 = .ok (.ireturn, 1) := o_172 BX11_readHearse rfl rfl
theorem dX11_readHearse_47 : decode cX11_readHearse 47 = .ok (.aload_n 0, 1) := o_42 BX11_readHearse rfl rfl
theorem dX11_readHearse_48 : decode cX11_readHearse 48 = .ok (.getfield 30, 3) := o_180 BX11_readHearse rfl rfl rfl
theorem dX11_readHearse_51 : decode cX11_readHearse 51 = .ok (.iload_n 1, 1) := o_27 BX11_readHearse rfl rfl
theorem dX11_readHearse_52 : decode cX11_readHearse 52 = .ok (.invokevirtual 188, 3) := o_182 BX11_readHearse rfl rfl rfl
theorem dX11_readHearse_55 : decode cX11_readHearse 55 = .ok (.iconst 1, 1) := o_4 BX11_readHearse rfl rfl
theorem dX11_readHearse_56 : decode cX11_readHearse 56 = .ok (.ireturn, 1) := o_172 BX11_readHearse rfl rfl
theorem dX11_readMourner_0 : decode cX11_readMourner 0 = .ok (.aload_n 0, 1) := o_42 BX11_readMourner rfl rfl
theorem dX11_readMourner_1 : decode cX11_readMourner 1 = .ok (.getfield 30, 3) := o_180 BX11_readMourner rfl rfl rfl
theorem dX11_readMourner_4 : decode cX11_readMourner 4 = .ok (.getfield 191, 3) := o_180 BX11_readMourner rfl rfl rfl
theorem dX11_readMourner_7 : decode cX11_readMourner 7 = .ok (.bipush 8, 2) := o_16 BX11_readMourner rfl rfl rfl
theorem dX11_readMourner_9 : decode cX11_readMourner 9 = .ok (.if_icmp .lt 5, 3) := o_161 BX11_readMourner rfl rfl rfl
theorem dX11_readMourner_12 : decode cX11_readMourner 12 = .ok (.iconst 0, 1) := o_3 BX11_readMourner rfl rfl
theorem dX11_readMourner_13 : decode cX11_readMourner 13 = .ok (.ireturn, 1) := o_172 BX11_readMourner rfl rfl
theorem dX11_readMourner_14 : decode cX11_readMourner 14 = .ok (.aload_n 0, 1) := o_42 BX11_readMourner rfl rfl
theorem dX11_readMourner_15 : decode cX11_readMourner 15 = .ok (.invokevirtual 179, 3) := o_182 BX11_readMourner rfl rfl rfl
theorem dX11_readMourner_18 : decode cX11_readMourner 18 = .ok (.istore_n 1, 1) := o_60 BX11_readMourner rfl rfl
theorem dX11_readMourner_19 : decode cX11_readMourner 19 = .ok (.aload_n 0, 1) := o_42 BX11_readMourner rfl rfl
theorem dX11_readMourner_20 : decode cX11_readMourner 20 = .ok (.getfield 10, 3) := o_180 BX11_readMourner rfl rfl rfl
theorem dX11_readMourner_23 : decode cX11_readMourner 23 = .ok (.invokevirtual 194, 3) := o_182 BX11_readMourner rfl rfl rfl
theorem dX11_readMourner_26 : decode cX11_readMourner 26 = .ok (.bipush 97, 2) := o_16 BX11_readMourner rfl rfl rfl
theorem dX11_readMourner_28 : decode cX11_readMourner 28 = .ok (.isub, 1) := o_100 BX11_readMourner rfl rfl
theorem dX11_readMourner_29 : decode cX11_readMourner 29 = .ok (.istore_n 2, 1) := o_61 BX11_readMourner rfl rfl
theorem dX11_readMourner_30 : decode cX11_readMourner 30 = .ok (.iload_n 1, 1) := o_27 BX11_readMourner rfl rfl
theorem dX11_readMourner_31 : decode cX11_readMourner 31 = .ok (.iconst (-1), 1) := o_2 BX11_readMourner rfl rfl
theorem dX11_readMourner_32 : decode cX11_readMourner 32 = .ok (.if_icmp .eq 18, 3) := o_159 BX11_readMourner rfl rfl rfl
theorem dX11_readMourner_35 : decode cX11_readMourner 35 = .ok (.iload_n 2, 1) := o_28 BX11_readMourner rfl rfl
theorem dX11_readMourner_36 : decode cX11_readMourner 36 = .ok (.ifCond .lt 14, 3) := o_155 BX11_readMourner rfl rfl rfl
theorem dX11_readMourner_39 : decode cX11_readMourner 39 = .ok (.iload_n 2, 1) := o_28 BX11_readMourner rfl rfl
theorem dX11_readMourner_40 : decode cX11_readMourner 40 = .ok (.aload_n 0, 1) := o_42 BX11_readMourner rfl rfl
theorem dX11_readMourner_41 : decode cX11_readMourner 41 = .ok (.getfield 30, 3) := o_180 BX11_readMourner rfl rfl rfl
theorem dX11_readMourner_44 : decode cX11_readMourner 44 = .ok (.getfield 176, 3) := o_180 BX11_readMourner rfl rfl rfl
theorem dX11_readMourner_47 : decode cX11_readMourner 47 = .ok (.if_icmp .lt 5, 3) := o_161 BX11_readMourner rfl rfl rfl
theorem dX11_readMourner_50 : decode cX11_readMourner 50 = .ok (.iconst 0, 1) := o_3 BX11_readMourner rfl rfl
theorem dX11_readMourner_51 : decode cX11_readMourner 51 = .ok (.ireturn, 1) := o_172 BX11_readMourner rfl rfl
theorem dX11_readMourner_52 : decode cX11_readMourner 52 = .ok (.aload_n 0, 1) := o_42 BX11_readMourner rfl rfl
theorem dX11_readMourner_53 : decode cX11_readMourner 53 = .ok (.getfield 10, 3) := o_180 BX11_readMourner rfl rfl rfl
theorem dX11_readMourner_56 : decode cX11_readMourner 56 = .ok (.invokevirtual 197, 3) := o_182 BX11_readMourner rfl rfl rfl
theorem dX11_readMourner_59 : decode cX11_readMourner 59 = .ok (.aload_n 0, 1) := o_42 BX11_readMourner rfl rfl
theorem dX11_readMourner_60 : decode cX11_readMourner 60 = .ok (.getfield 30, 3) := o_180 BX11_readMourner rfl rfl rfl
theorem dX11_readMourner_63 : decode cX11_readMourner 63 = .ok (.iload_n 1, 1) := o_27 BX11_readMourner rfl rfl
theorem dX11_readMourner_64 : decode cX11_readMourner 64 = .ok (.iload_n 2, 1) := o_28 BX11_readMourner rfl rfl
theorem dX11_readMourner_65 : decode cX11_readMourner 65 = .ok (.invokevirtual 200, 3) := o_182 BX11_readMourner rfl rfl rfl
theorem dX11_readMourner_68 : decode cX11_readMourner 68 = .ok (.iconst 1, 1) := o_4 BX11_readMourner rfl rfl
theorem dX11_readMourner_69 : decode cX11_readMourner 69 = .ok (.ireturn, 1) := o_172 BX11_readMourner rfl rfl
theorem dX11_readCell_0 : decode cX11_readCell 0 = .ok (.aload_n 0, 1) := o_42 BX11_readCell rfl rfl
theorem dX11_readCell_1 : decode cX11_readCell 1 = .ok (.getfield 10, 3) := o_180 BX11_readCell rfl rfl rfl
theorem dX11_readCell_4 : decode cX11_readCell 4 = .ok (.iconst 2, 1) := o_5 BX11_readCell rfl rfl
theorem dX11_readCell_5 : decode cX11_readCell 5 = .ok (.invokevirtual 204, 3) := o_182 BX11_readCell rfl rfl rfl
theorem dX11_readCell_8 : decode cX11_readCell 8 = .ok (.istore_n 1, 1) := o_60 BX11_readCell rfl rfl
theorem dX11_readCell_9 : decode cX11_readCell 9 = .ok (.iload_n 1, 1) := o_27 BX11_readCell rfl rfl
theorem dX11_readCell_10 : decode cX11_readCell 10 = .ok (.aload_n 0, 1) := o_42 BX11_readCell rfl rfl
theorem dX11_readCell_11 : decode cX11_readCell 11 = .ok (.getfield 19, 3) := o_180 BX11_readCell rfl rfl rfl
theorem dX11_readCell_14 : decode cX11_readCell 14 = .ok (.invokevirtual 207, 3) := o_182 BX11_readCell rfl rfl rfl
theorem dX11_readCell_17 : decode cX11_readCell 17 = .ok (.if_icmp .lt 12, 3) := o_161 BX11_readCell rfl rfl rfl
theorem dX11_readCell_20 : decode cX11_readCell 20 = .ok (.aload_n 0, 1) := o_42 BX11_readCell rfl rfl
theorem dX11_readCell_21 : decode cX11_readCell 21 = .ok (.getfield 10, 3) := o_180 BX11_readCell rfl rfl rfl
theorem dX11_readCell_24 : decode cX11_readCell 24 = .ok (.invokevirtual 185, 3) := o_182 BX11_readCell rfl rfl rfl
theorem dX11_readCell_27 : decode cX11_readCell 27 = .ok (.iconst (-1), 1) := o_2 BX11_readCell rfl rfl
theorem dX11_readCell_28 : decode cX11_readCell 28 = .ok (.ireturn, 1) := o_172 BX11_readCell rfl rfl
theorem dX11_readCell_29 : decode cX11_readCell 29 = .ok (.iload_n 1, 1) := o_27 BX11_readCell rfl rfl
theorem dX11_readCell_30 : decode cX11_readCell 30 = .ok (.ireturn, 1) := o_172 BX11_readCell rfl rfl
theorem dX11_weather_0 : decode cX11_weather 0 = .ok (.aload_n 0, 1) := o_42 BX11_weather rfl rfl
theorem dX11_weather_1 : decode cX11_weather 1 = .ok (.invokevirtual 210, 3) := o_182 BX11_weather rfl rfl rfl
theorem dX11_weather_4 : decode cX11_weather 4 = .ok (.istore_n 1, 1) := o_60 BX11_weather rfl rfl
theorem dX11_weather_5 : decode cX11_weather 5 = .ok (.aload_n 0, 1) := o_42 BX11_weather rfl rfl
theorem dX11_weather_6 : decode cX11_weather 6 = .ok (.getfield 10, 3) := o_180 BX11_weather rfl rfl rfl
theorem dX11_weather_9 : decode cX11_weather 9 = .ok (.getfield 119, 3) := o_180 BX11_weather rfl rfl rfl
theorem dX11_weather_12 : decode cX11_weather 12 = .ok (.istore_n 2, 1) := o_61 BX11_weather rfl rfl
theorem dX11_weather_13 : decode cX11_weather 13 = .ok (.iload_n 1, 1) := o_27 BX11_weather rfl rfl
theorem dX11_weather_14 : decode cX11_weather 14 = .ok (.iconst (-1), 1) := o_2 BX11_weather rfl rfl
theorem dX11_weather_15 : decode cX11_weather 15 = .ok (.if_icmp .ne 14, 3) := o_160 BX11_weather rfl rfl rfl
theorem dX11_weather_18 : decode cX11_weather 18 = .ok (.aload_n 0, 1) := o_42 BX11_weather rfl rfl
theorem dX11_weather_19 : decode cX11_weather 19 = .ok (.getfield 19, 3) := o_180 BX11_weather rfl rfl rfl
theorem dX11_weather_22 : decode cX11_weather 22 = .ok (.aload_n 0, 1) := o_42 BX11_weather rfl rfl
theorem dX11_weather_23 : decode cX11_weather 23 = .ok (.getfield 10, 3) := o_180 BX11_weather rfl rfl rfl
theorem dX11_weather_26 : decode cX11_weather 26 = .ok (.invokevirtual 213, 3) := o_182 BX11_weather rfl rfl rfl
theorem dX11_weather_29 : decode cX11_weather 29 = .ok (.aload_n 0, 1) := o_42 BX11_weather rfl rfl
theorem dX11_weather_30 : decode cX11_weather 30 = .ok (.getfield 10, 3) := o_180 BX11_weather rfl rfl rfl
theorem dX11_weather_33 : decode cX11_weather 33 = .ok (.invokevirtual 140, 3) := o_182 BX11_weather rfl rfl rfl
theorem dX11_weather_36 : decode cX11_weather 36 = .ok (.iload_n 1, 1) := o_27 BX11_weather rfl rfl
theorem dX11_weather_37 : decode cX11_weather 37 = .ok (.iconst (-1), 1) := o_2 BX11_weather rfl rfl
theorem dX11_weather_38 : decode cX11_weather 38 = .ok (.if_icmp .ne 7, 3) := o_160 BX11_weather rfl rfl rfl
theorem dX11_weather_41 : decode cX11_weather 41 = .ok (.iload_n 2, 1) := o_28 BX11_weather rfl rfl
theorem dX11_weather_42 : decode cX11_weather 42 = .ok (.goto 6, 3) := o_167 BX11_weather rfl rfl rfl
theorem dX11_weather_45 : decode cX11_weather 45 = .ok (.iconst (-1), 1) := o_2 BX11_weather rfl rfl
theorem dX11_weather_46 : decode cX11_weather 46 = .ok (.iload_n 1, 1) := o_27 BX11_weather rfl rfl
theorem dX11_weather_47 : decode cX11_weather 47 = .ok (.isub, 1) := o_100 BX11_weather rfl rfl
theorem dX11_weather_48 : decode cX11_weather 48 = .ok (.ireturn, 1) := o_172 BX11_weather rfl rfl
theorem dX11_weatherFault_0 : decode cX11_weatherFault 0 = .ok (.iconst 0, 1) := o_3 BX11_weatherFault rfl rfl
theorem dX11_weatherFault_1 : decode cX11_weatherFault 1 = .ok (.istore_n 1, 1) := o_60 BX11_weatherFault rfl rfl
theorem dX11_weatherFault_2 : decode cX11_weatherFault 2 = .ok (.iload_n 1, 1) := o_27 BX11_weatherFault rfl rfl
theorem dX11_weatherFault_3 : decode cX11_weatherFault 3 = .ok (.aload_n 0, 1) := o_42 BX11_weatherFault rfl rfl
theorem dX11_weatherFault_4 : decode cX11_weatherFault 4 = .ok (.getfield 10, 3) := o_180 BX11_weatherFault rfl rfl rfl
theorem dX11_weatherFault_7 : decode cX11_weatherFault 7 = .ok (.getfield 119, 3) := o_180 BX11_weatherFault rfl rfl rfl
theorem dX11_weatherFault_10 : decode cX11_weatherFault 10 = .ok (.if_icmp .ge 38, 3) := o_162 BX11_weatherFault rfl rfl rfl
theorem dX11_weatherFault_13 : decode cX11_weatherFault 13 = .ok (.aload_n 0, 1) := o_42 BX11_weatherFault rfl rfl
theorem dX11_weatherFault_14 : decode cX11_weatherFault 14 = .ok (.getfield 10, 3) := o_180 BX11_weatherFault rfl rfl rfl
theorem dX11_weatherFault_17 : decode cX11_weatherFault 17 = .ok (.iload_n 1, 1) := o_27 BX11_weatherFault rfl rfl
theorem dX11_weatherFault_18 : decode cX11_weatherFault 18 = .ok (.invokevirtual 141, 3) := o_182 BX11_weatherFault rfl rfl rfl
theorem dX11_weatherFault_21 : decode cX11_weatherFault 21 = .ok (.istore_n 2, 1) := o_61 BX11_weatherFault rfl rfl
theorem dX11_weatherFault_22 : decode cX11_weatherFault 22 = .ok (.iload_n 1, 1) := o_27 BX11_weatherFault rfl rfl
theorem dX11_weatherFault_23 : decode cX11_weatherFault 23 = .ok (.bipush 20, 2) := o_16 BX11_weatherFault rfl rfl rfl
theorem dX11_weatherFault_25 : decode cX11_weatherFault 25 = .ok (.if_icmp .eq 15, 3) := o_159 BX11_weatherFault rfl rfl rfl
theorem dX11_weatherFault_28 : decode cX11_weatherFault 28 = .ok (.iload_n 2, 1) := o_28 BX11_weatherFault rfl rfl
theorem dX11_weatherFault_29 : decode cX11_weatherFault 29 = .ok (.bipush 48, 2) := o_16 BX11_weatherFault rfl rfl rfl
theorem dX11_weatherFault_31 : decode cX11_weatherFault 31 = .ok (.if_icmp .lt 9, 3) := o_161 BX11_weatherFault rfl rfl rfl
theorem dX11_weatherFault_34 : decode cX11_weatherFault 34 = .ok (.iload_n 2, 1) := o_28 BX11_weatherFault rfl rfl
theorem dX11_weatherFault_35 : decode cX11_weatherFault 35 = .ok (.bipush 57, 2) := o_16 BX11_weatherFault rfl rfl rfl
theorem dX11_weatherFault_37 : decode cX11_weatherFault 37 = .ok (.if_icmp .le 5, 3) := o_164 BX11_weatherFault rfl rfl rfl
theorem dX11_weatherFault_40 : decode cX11_weatherFault 40 = .ok (.iload_n 1, 1) := o_27 BX11_weatherFault rfl rfl
theorem dX11_weatherFault_41 : decode cX11_weatherFault 41 = .ok (.ireturn, 1) := o_172 BX11_weatherFault rfl rfl
theorem dX11_weatherFault_42 : decode cX11_weatherFault 42 = .ok (.iinc 1 1, 3) := o_132 BX11_weatherFault rfl rfl rfl rfl
theorem dX11_weatherFault_45 : decode cX11_weatherFault 45 = .ok (.goto (-43), 3) := o_167 BX11_weatherFault rfl rfl rfl
theorem dX11_weatherFault_48 : decode cX11_weatherFault 48 = .ok (.aload_n 0, 1) := o_42 BX11_weatherFault rfl rfl
theorem dX11_weatherFault_49 : decode cX11_weatherFault 49 = .ok (.getfield 10, 3) := o_180 BX11_weatherFault rfl rfl rfl
theorem dX11_weatherFault_52 : decode cX11_weatherFault 52 = .ok (.invokevirtual 145, 3) := o_182 BX11_weatherFault rfl rfl rfl
theorem dX11_weatherFault_55 : decode cX11_weatherFault 55 = .ok (.ifCond .eq 7, 3) := o_153 BX11_weatherFault rfl rfl rfl
theorem dX11_weatherFault_58 : decode cX11_weatherFault 58 = .ok (.iconst 0, 1) := o_3 BX11_weatherFault rfl rfl
theorem dX11_weatherFault_59 : decode cX11_weatherFault 59 = .ok (.goto 4, 3) := o_167 BX11_weatherFault rfl rfl rfl
theorem dX11_weatherFault_62 : decode cX11_weatherFault 62 = .ok (.iconst (-1), 1) := o_2 BX11_weatherFault rfl rfl
theorem dX11_weatherFault_63 : decode cX11_weatherFault 63 = .ok (.ireturn, 1) := o_172 BX11_weatherFault rfl rfl
theorem dX11_rule_0 : decode cX11_rule 0 = .ok (.aload_n 0, 1) := o_42 BX11_rule rfl rfl
theorem dX11_rule_1 : decode cX11_rule 1 = .ok (.getfield 94, 3) := o_180 BX11_rule rfl rfl rfl
theorem dX11_rule_4 : decode cX11_rule 4 = .ok (.aload_n 0, 1) := o_42 BX11_rule rfl rfl
theorem dX11_rule_5 : decode cX11_rule 5 = .ok (.getfield 10, 3) := o_180 BX11_rule rfl rfl rfl
theorem dX11_rule_8 : decode cX11_rule 8 = .ok (.aload_n 0, 1) := o_42 BX11_rule rfl rfl
theorem dX11_rule_9 : decode cX11_rule 9 = .ok (.getfield 109, 3) := o_180 BX11_rule rfl rfl rfl
theorem dX11_rule_12 : decode cX11_rule 12 = .ok (.invokevirtual 216, 3) := o_182 BX11_rule rfl rfl rfl
theorem dX11_rule_15 : decode cX11_rule 15 = .ok (.istore_n 1, 1) := o_60 BX11_rule rfl rfl
theorem dX11_rule_16 : decode cX11_rule 16 = .ok (.aload_n 0, 1) := o_42 BX11_rule rfl rfl
theorem dX11_rule_17 : decode cX11_rule 17 = .ok (.getfield 10, 3) := o_180 BX11_rule rfl rfl rfl
theorem dX11_rule_20 : decode cX11_rule 20 = .ok (.invokevirtual 140, 3) := o_182 BX11_rule rfl rfl rfl
theorem dX11_rule_23 : decode cX11_rule 23 = .ok (.iload_n 1, 1) := o_27 BX11_rule rfl rfl
theorem dX11_rule_24 : decode cX11_rule 24 = .ok (.iconst (-1), 1) := o_2 BX11_rule rfl rfl
theorem dX11_rule_25 : decode cX11_rule 25 = .ok (.if_icmp .eq 7, 3) := o_159 BX11_rule rfl rfl rfl
theorem dX11_rule_28 : decode cX11_rule 28 = .ok (.iconst (-1), 1) := o_2 BX11_rule rfl rfl
theorem dX11_rule_29 : decode cX11_rule 29 = .ok (.iload_n 1, 1) := o_27 BX11_rule rfl rfl
theorem dX11_rule_30 : decode cX11_rule 30 = .ok (.isub, 1) := o_100 BX11_rule rfl rfl
theorem dX11_rule_31 : decode cX11_rule 31 = .ok (.ireturn, 1) := o_172 BX11_rule rfl rfl
theorem dX11_rule_32 : decode cX11_rule 32 = .ok (.aload_n 0, 1) := o_42 BX11_rule rfl rfl
theorem dX11_rule_33 : decode cX11_rule 33 = .ok (.getfield 105, 3) := o_180 BX11_rule rfl rfl rfl
theorem dX11_rule_36 : decode cX11_rule 36 = .ok (.astore_n 2, 1) := o_77 BX11_rule rfl rfl
theorem dX11_rule_37 : decode cX11_rule 37 = .ok (.aload_n 0, 1) := o_42 BX11_rule rfl rfl
theorem dX11_rule_38 : decode cX11_rule 38 = .ok (.aload_n 0, 1) := o_42 BX11_rule rfl rfl
theorem dX11_rule_39 : decode cX11_rule 39 = .ok (.getfield 109, 3) := o_180 BX11_rule rfl rfl rfl
theorem dX11_rule_42 : decode cX11_rule 42 = .ok (.putfield 105, 3) := o_181 BX11_rule rfl rfl rfl
theorem dX11_rule_45 : decode cX11_rule 45 = .ok (.aload_n 0, 1) := o_42 BX11_rule rfl rfl
theorem dX11_rule_46 : decode cX11_rule 46 = .ok (.aload_n 2, 1) := o_44 BX11_rule rfl rfl
theorem dX11_rule_47 : decode cX11_rule 47 = .ok (.putfield 109, 3) := o_181 BX11_rule rfl rfl rfl
theorem dX11_rule_50 : decode cX11_rule 50 = .ok (.iconst 0, 1) := o_3 BX11_rule rfl rfl
theorem dX11_rule_51 : decode cX11_rule 51 = .ok (.ireturn, 1) := o_172 BX11_rule rfl rfl
theorem dX11_hearse_0 : decode cX11_hearse 0 = .ok (.aload_n 0, 1) := o_42 BX11_hearse rfl rfl
theorem dX11_hearse_1 : decode cX11_hearse 1 = .ok (.getfield 26, 3) := o_180 BX11_hearse rfl rfl rfl
theorem dX11_hearse_4 : decode cX11_hearse 4 = .ok (.iload_n 1, 1) := o_27 BX11_hearse rfl rfl
theorem dX11_hearse_5 : decode cX11_hearse 5 = .ok (.invokevirtual 220, 3) := o_182 BX11_hearse rfl rfl rfl
theorem dX11_hearse_8 : decode cX11_hearse 8 = .ok (.ifCond .ne 13, 3) := o_154 BX11_hearse rfl rfl rfl
theorem dX11_hearse_11 : decode cX11_hearse 11 = .ok (.new 223, 3) := o_187 BX11_hearse rfl rfl rfl
theorem dX11_hearse_14 : decode cX11_hearse 14 = .ok (.dup, 1) := o_89 BX11_hearse rfl rfl
theorem dX11_hearse_15 : decode cX11_hearse 15 = .ok (.ldc 225, 2) := o_18 BX11_hearse rfl rfl rfl
theorem dX11_hearse_17 : decode cX11_hearse 17 = .ok (.invokespecial 227, 3) := o_183 BX11_hearse rfl rfl rfl
theorem dX11_hearse_20 : decode cX11_hearse 20 = .ok (.athrow, 1) := o_191 BX11_hearse rfl rfl
theorem dX11_hearse_21 : decode cX11_hearse 21 = .ok (.iload_n 2, 1) := o_28 BX11_hearse rfl rfl
theorem dX11_hearse_22 : decode cX11_hearse 22 = .ok (.tableswitch 112 0 5 #[38, 48, 58, 64, 80, 96], 38) := by decide +kernel
theorem dX11_hearse_60 : decode cX11_hearse 60 = .ok (.aload_n 0, 1) := o_42 BX11_hearse rfl rfl
theorem dX11_hearse_61 : decode cX11_hearse 61 = .ok (.getfield 26, 3) := o_180 BX11_hearse rfl rfl rfl
theorem dX11_hearse_64 : decode cX11_hearse 64 = .ok (.getfield 230, 3) := o_180 BX11_hearse rfl rfl rfl
theorem dX11_hearse_67 : decode cX11_hearse 67 = .ok (.iload_n 1, 1) := o_27 BX11_hearse rfl rfl
theorem dX11_hearse_68 : decode cX11_hearse 68 = .ok (.iaload, 1) := o_46 BX11_hearse rfl rfl
theorem dX11_hearse_69 : decode cX11_hearse 69 = .ok (.ireturn, 1) := o_172 BX11_hearse rfl rfl
theorem dX11_hearse_70 : decode cX11_hearse 70 = .ok (.aload_n 0, 1) := o_42 BX11_hearse rfl rfl
theorem dX11_hearse_71 : decode cX11_hearse 71 = .ok (.getfield 26, 3) := o_180 BX11_hearse rfl rfl rfl
theorem dX11_hearse_74 : decode cX11_hearse 74 = .ok (.getfield 234, 3) := o_180 BX11_hearse rfl rfl rfl
theorem dX11_hearse_77 : decode cX11_hearse 77 = .ok (.iload_n 1, 1) := o_27 BX11_hearse rfl rfl
theorem dX11_hearse_78 : decode cX11_hearse 78 = .ok (.iaload, 1) := o_46 BX11_hearse rfl rfl
theorem dX11_hearse_79 : decode cX11_hearse 79 = .ok (.ireturn, 1) := o_172 BX11_hearse rfl rfl
theorem dX11_hearse_80 : decode cX11_hearse 80 = .ok (.aload_n 0, 1) := o_42 BX11_hearse rfl rfl
theorem dX11_hearse_81 : decode cX11_hearse 81 = .ok (.iload_n 1, 1) := o_27 BX11_hearse rfl rfl
theorem dX11_hearse_82 : decode cX11_hearse 82 = .ok (.invokevirtual 237, 3) := o_182 BX11_hearse rfl rfl rfl
theorem dX11_hearse_85 : decode cX11_hearse 85 = .ok (.ireturn, 1) := o_172 BX11_hearse rfl rfl
theorem dX11_hearse_86 : decode cX11_hearse 86 = .ok (.aload_n 0, 1) := o_42 BX11_hearse rfl rfl
theorem dX11_hearse_87 : decode cX11_hearse 87 = .ok (.getfield 26, 3) := o_180 BX11_hearse rfl rfl rfl
theorem dX11_hearse_90 : decode cX11_hearse 90 = .ok (.aload_n 0, 1) := o_42 BX11_hearse rfl rfl
theorem dX11_hearse_91 : decode cX11_hearse 91 = .ok (.getfield 26, 3) := o_180 BX11_hearse rfl rfl rfl
theorem dX11_hearse_94 : decode cX11_hearse 94 = .ok (.getfield 240, 3) := o_180 BX11_hearse rfl rfl rfl
theorem dX11_hearse_97 : decode cX11_hearse 97 = .ok (.iload_n 1, 1) := o_27 BX11_hearse rfl rfl
theorem dX11_hearse_98 : decode cX11_hearse 98 = .ok (.invokevirtual 243, 3) := o_182 BX11_hearse rfl rfl rfl
theorem dX11_hearse_101 : decode cX11_hearse 101 = .ok (.ireturn, 1) := o_172 BX11_hearse rfl rfl
theorem dX11_hearse_102 : decode cX11_hearse 102 = .ok (.aload_n 0, 1) := o_42 BX11_hearse rfl rfl
theorem dX11_hearse_103 : decode cX11_hearse 103 = .ok (.getfield 26, 3) := o_180 BX11_hearse rfl rfl rfl
theorem dX11_hearse_106 : decode cX11_hearse 106 = .ok (.aload_n 0, 1) := o_42 BX11_hearse rfl rfl
theorem dX11_hearse_107 : decode cX11_hearse 107 = .ok (.getfield 26, 3) := o_180 BX11_hearse rfl rfl rfl
theorem dX11_hearse_110 : decode cX11_hearse 110 = .ok (.getfield 247, 3) := o_180 BX11_hearse rfl rfl rfl
theorem dX11_hearse_113 : decode cX11_hearse 113 = .ok (.iload_n 1, 1) := o_27 BX11_hearse rfl rfl
theorem dX11_hearse_114 : decode cX11_hearse 114 = .ok (.invokevirtual 243, 3) := o_182 BX11_hearse rfl rfl rfl
theorem dX11_hearse_117 : decode cX11_hearse 117 = .ok (.ireturn, 1) := o_172 BX11_hearse rfl rfl
theorem dX11_hearse_118 : decode cX11_hearse 118 = .ok (.aload_n 0, 1) := o_42 BX11_hearse rfl rfl
theorem dX11_hearse_119 : decode cX11_hearse 119 = .ok (.getfield 26, 3) := o_180 BX11_hearse rfl rfl rfl
theorem dX11_hearse_122 : decode cX11_hearse 122 = .ok (.aload_n 0, 1) := o_42 BX11_hearse rfl rfl
theorem dX11_hearse_123 : decode cX11_hearse 123 = .ok (.getfield 26, 3) := o_180 BX11_hearse rfl rfl rfl
theorem dX11_hearse_126 : decode cX11_hearse 126 = .ok (.getfield 250, 3) := o_180 BX11_hearse rfl rfl rfl
theorem dX11_hearse_129 : decode cX11_hearse 129 = .ok (.iload_n 1, 1) := o_27 BX11_hearse rfl rfl
theorem dX11_hearse_130 : decode cX11_hearse 130 = .ok (.invokevirtual 243, 3) := o_182 BX11_hearse rfl rfl rfl
theorem dX11_hearse_133 : decode cX11_hearse 133 = .ok (.ireturn, 1) := o_172 BX11_hearse rfl rfl
theorem dX11_hearse_134 : decode cX11_hearse 134 = .ok (.new 223, 3) := o_187 BX11_hearse rfl rfl rfl
theorem dX11_hearse_137 : decode cX11_hearse 137 = .ok (.dup, 1) := o_89 BX11_hearse rfl rfl
theorem dX11_hearse_138 : decode cX11_hearse 138 = .ok (.ldc 253, 2) := o_18 BX11_hearse rfl rfl rfl
theorem dX11_hearse_140 : decode cX11_hearse 140 = .ok (.invokespecial 227, 3) := o_183 BX11_hearse rfl rfl rfl
theorem dX11_hearse_143 : decode cX11_hearse 143 = .ok (.athrow, 1) := o_191 BX11_hearse rfl rfl
theorem dX11_paceNow_0 : decode cX11_paceNow 0 = .ok (.aload_n 0, 1) := o_42 BX11_paceNow rfl rfl
theorem dX11_paceNow_1 : decode cX11_paceNow 1 = .ok (.getfield 26, 3) := o_180 BX11_paceNow rfl rfl rfl
theorem dX11_paceNow_4 : decode cX11_paceNow 4 = .ok (.iload_n 1, 1) := o_27 BX11_paceNow rfl rfl
theorem dX11_paceNow_5 : decode cX11_paceNow 5 = .ok (.invokevirtual 255, 3) := o_182 BX11_paceNow rfl rfl rfl
theorem dX11_paceNow_8 : decode cX11_paceNow 8 = .ok (.ifCond .eq 5, 3) := o_153 BX11_paceNow rfl rfl rfl
theorem dX11_paceNow_11 : decode cX11_paceNow 11 = .ok (.iconst 0, 1) := o_3 BX11_paceNow rfl rfl
theorem dX11_paceNow_12 : decode cX11_paceNow 12 = .ok (.ireturn, 1) := o_172 BX11_paceNow rfl rfl
theorem dX11_paceNow_13 : decode cX11_paceNow 13 = .ok (.aload_n 0, 1) := o_42 BX11_paceNow rfl rfl
theorem dX11_paceNow_14 : decode cX11_paceNow 14 = .ok (.getfield 105, 3) := o_180 BX11_paceNow rfl rfl rfl
theorem dX11_paceNow_17 : decode cX11_paceNow 17 = .ok (.aload_n 0, 1) := o_42 BX11_paceNow rfl rfl
theorem dX11_paceNow_18 : decode cX11_paceNow 18 = .ok (.getfield 26, 3) := o_180 BX11_paceNow rfl rfl rfl
theorem dX11_paceNow_21 : decode cX11_paceNow 21 = .ok (.aload_n 0, 1) := o_42 BX11_paceNow rfl rfl
theorem dX11_paceNow_22 : decode cX11_paceNow 22 = .ok (.getfield 19, 3) := o_180 BX11_paceNow rfl rfl rfl
theorem dX11_paceNow_25 : decode cX11_paceNow 25 = .ok (.iload_n 1, 1) := o_27 BX11_paceNow rfl rfl
theorem dX11_paceNow_26 : decode cX11_paceNow 26 = .ok (.invokevirtual 258, 3) := o_182 BX11_paceNow rfl rfl rfl
theorem dX11_paceNow_29 : decode cX11_paceNow 29 = .ok (.aload_n 0, 1) := o_42 BX11_paceNow rfl rfl
theorem dX11_paceNow_30 : decode cX11_paceNow 30 = .ok (.getfield 105, 3) := o_180 BX11_paceNow rfl rfl rfl
theorem dX11_paceNow_33 : decode cX11_paceNow 33 = .ok (.invokevirtual 262, 3) := o_182 BX11_paceNow rfl rfl rfl
theorem dX11_paceNow_36 : decode cX11_paceNow 36 = .ok (.ireturn, 1) := o_172 BX11_paceNow rfl rfl
theorem dX11_mourner_0 : decode cX11_mourner 0 = .ok (.aload_n 0, 1) := o_42 BX11_mourner rfl rfl
theorem dX11_mourner_1 : decode cX11_mourner 1 = .ok (.getfield 26, 3) := o_180 BX11_mourner rfl rfl rfl
theorem dX11_mourner_4 : decode cX11_mourner 4 = .ok (.iload_n 1, 1) := o_27 BX11_mourner rfl rfl
theorem dX11_mourner_5 : decode cX11_mourner 5 = .ok (.invokevirtual 265, 3) := o_182 BX11_mourner rfl rfl rfl
theorem dX11_mourner_8 : decode cX11_mourner 8 = .ok (.ifCond .ne 14, 3) := o_154 BX11_mourner rfl rfl rfl
theorem dX11_mourner_11 : decode cX11_mourner 11 = .ok (.new 223, 3) := o_187 BX11_mourner rfl rfl rfl
theorem dX11_mourner_14 : decode cX11_mourner 14 = .ok (.dup, 1) := o_89 BX11_mourner rfl rfl
theorem dX11_mourner_15 : decode cX11_mourner 15 = .ok (.ldc_w 268, 3) := o_19 BX11_mourner rfl rfl rfl
theorem dX11_mourner_18 : decode cX11_mourner 18 = .ok (.invokespecial 227, 3) := o_183 BX11_mourner rfl rfl rfl
theorem dX11_mourner_21 : decode cX11_mourner 21 = .ok (.athrow, 1) := o_191 BX11_mourner rfl rfl
theorem dX11_mourner_22 : decode cX11_mourner 22 = .ok (.iload_n 2, 1) := o_28 BX11_mourner rfl rfl
theorem dX11_mourner_23 : decode cX11_mourner 23 = .ok (.tableswitch 90 0 4 #[33, 43, 53, 63, 73], 33) := by decide +kernel
theorem dX11_mourner_56 : decode cX11_mourner 56 = .ok (.aload_n 0, 1) := o_42 BX11_mourner rfl rfl
theorem dX11_mourner_57 : decode cX11_mourner 57 = .ok (.getfield 26, 3) := o_180 BX11_mourner rfl rfl rfl
theorem dX11_mourner_60 : decode cX11_mourner 60 = .ok (.getfield 270, 3) := o_180 BX11_mourner rfl rfl rfl
theorem dX11_mourner_63 : decode cX11_mourner 63 = .ok (.iload_n 1, 1) := o_27 BX11_mourner rfl rfl
theorem dX11_mourner_64 : decode cX11_mourner 64 = .ok (.iaload, 1) := o_46 BX11_mourner rfl rfl
theorem dX11_mourner_65 : decode cX11_mourner 65 = .ok (.ireturn, 1) := o_172 BX11_mourner rfl rfl
theorem dX11_mourner_66 : decode cX11_mourner 66 = .ok (.aload_n 0, 1) := o_42 BX11_mourner rfl rfl
theorem dX11_mourner_67 : decode cX11_mourner 67 = .ok (.getfield 26, 3) := o_180 BX11_mourner rfl rfl rfl
theorem dX11_mourner_70 : decode cX11_mourner 70 = .ok (.getfield 250, 3) := o_180 BX11_mourner rfl rfl rfl
theorem dX11_mourner_73 : decode cX11_mourner 73 = .ok (.iload_n 1, 1) := o_27 BX11_mourner rfl rfl
theorem dX11_mourner_74 : decode cX11_mourner 74 = .ok (.iaload, 1) := o_46 BX11_mourner rfl rfl
theorem dX11_mourner_75 : decode cX11_mourner 75 = .ok (.ireturn, 1) := o_172 BX11_mourner rfl rfl
theorem dX11_mourner_76 : decode cX11_mourner 76 = .ok (.aload_n 0, 1) := o_42 BX11_mourner rfl rfl
theorem dX11_mourner_77 : decode cX11_mourner 77 = .ok (.getfield 26, 3) := o_180 BX11_mourner rfl rfl rfl
theorem dX11_mourner_80 : decode cX11_mourner 80 = .ok (.getfield 240, 3) := o_180 BX11_mourner rfl rfl rfl
theorem dX11_mourner_83 : decode cX11_mourner 83 = .ok (.iload_n 1, 1) := o_27 BX11_mourner rfl rfl
theorem dX11_mourner_84 : decode cX11_mourner 84 = .ok (.iaload, 1) := o_46 BX11_mourner rfl rfl
theorem dX11_mourner_85 : decode cX11_mourner 85 = .ok (.ireturn, 1) := o_172 BX11_mourner rfl rfl
theorem dX11_mourner_86 : decode cX11_mourner 86 = .ok (.aload_n 0, 1) := o_42 BX11_mourner rfl rfl
theorem dX11_mourner_87 : decode cX11_mourner 87 = .ok (.getfield 26, 3) := o_180 BX11_mourner rfl rfl rfl
theorem dX11_mourner_90 : decode cX11_mourner 90 = .ok (.getfield 247, 3) := o_180 BX11_mourner rfl rfl rfl
theorem dX11_mourner_93 : decode cX11_mourner 93 = .ok (.iload_n 1, 1) := o_27 BX11_mourner rfl rfl
theorem dX11_mourner_94 : decode cX11_mourner 94 = .ok (.iaload, 1) := o_46 BX11_mourner rfl rfl
theorem dX11_mourner_95 : decode cX11_mourner 95 = .ok (.ireturn, 1) := o_172 BX11_mourner rfl rfl
theorem dX11_mourner_96 : decode cX11_mourner 96 = .ok (.aload_n 0, 1) := o_42 BX11_mourner rfl rfl
theorem dX11_mourner_97 : decode cX11_mourner 97 = .ok (.getfield 26, 3) := o_180 BX11_mourner rfl rfl rfl
theorem dX11_mourner_100 : decode cX11_mourner 100 = .ok (.aload_n 0, 1) := o_42 BX11_mourner rfl rfl
theorem dX11_mourner_101 : decode cX11_mourner 101 = .ok (.getfield 26, 3) := o_180 BX11_mourner rfl rfl rfl
theorem dX11_mourner_104 : decode cX11_mourner 104 = .ok (.getfield 270, 3) := o_180 BX11_mourner rfl rfl rfl
theorem dX11_mourner_107 : decode cX11_mourner 107 = .ok (.iload_n 1, 1) := o_27 BX11_mourner rfl rfl
theorem dX11_mourner_108 : decode cX11_mourner 108 = .ok (.iaload, 1) := o_46 BX11_mourner rfl rfl
theorem dX11_mourner_109 : decode cX11_mourner 109 = .ok (.invokevirtual 273, 3) := o_182 BX11_mourner rfl rfl rfl
theorem dX11_mourner_112 : decode cX11_mourner 112 = .ok (.ireturn, 1) := o_172 BX11_mourner rfl rfl
theorem dX11_mourner_113 : decode cX11_mourner 113 = .ok (.new 223, 3) := o_187 BX11_mourner rfl rfl rfl
theorem dX11_mourner_116 : decode cX11_mourner 116 = .ok (.dup, 1) := o_89 BX11_mourner rfl rfl
theorem dX11_mourner_117 : decode cX11_mourner 117 = .ok (.ldc_w 276, 3) := o_19 BX11_mourner rfl rfl rfl
theorem dX11_mourner_120 : decode cX11_mourner 120 = .ok (.invokespecial 227, 3) := o_183 BX11_mourner rfl rfl rfl
theorem dX11_mourner_123 : decode cX11_mourner 123 = .ok (.athrow, 1) := o_191 BX11_mourner rfl rfl
theorem dX11_sheet_0 : decode cX11_sheet 0 = .ok (.iload_n 1, 1) := o_27 BX11_sheet rfl rfl
theorem dX11_sheet_1 : decode cX11_sheet 1 = .ok (.ifCond .lt 14, 3) := o_155 BX11_sheet rfl rfl rfl
theorem dX11_sheet_4 : decode cX11_sheet 4 = .ok (.iload_n 1, 1) := o_27 BX11_sheet rfl rfl
theorem dX11_sheet_5 : decode cX11_sheet 5 = .ok (.iconst 3, 1) := o_6 BX11_sheet rfl rfl
theorem dX11_sheet_6 : decode cX11_sheet 6 = .ok (.if_icmp .gt 9, 3) := o_163 BX11_sheet rfl rfl rfl
theorem dX11_sheet_9 : decode cX11_sheet 9 = .ok (.iload_n 2, 1) := o_28 BX11_sheet rfl rfl
theorem dX11_sheet_10 : decode cX11_sheet 10 = .ok (.bipush 8, 2) := o_16 BX11_sheet rfl rfl rfl
theorem dX11_sheet_12 : decode cX11_sheet 12 = .ok (.if_icmp .le 5, 3) := o_164 BX11_sheet rfl rfl rfl
theorem dX11_sheet_15 : decode cX11_sheet 15 = .ok (.iconst (-1), 1) := o_2 BX11_sheet rfl rfl
theorem dX11_sheet_16 : decode cX11_sheet 16 = .ok (.ireturn, 1) := o_172 BX11_sheet rfl rfl
theorem dX11_sheet_17 : decode cX11_sheet 17 = .ok (.iload_n 1, 1) := o_27 BX11_sheet rfl rfl
theorem dX11_sheet_18 : decode cX11_sheet 18 = .ok (.iconst 3, 1) := o_6 BX11_sheet rfl rfl
theorem dX11_sheet_19 : decode cX11_sheet 19 = .ok (.if_icmp .ge 10, 3) := o_162 BX11_sheet rfl rfl rfl
theorem dX11_sheet_22 : decode cX11_sheet 22 = .ok (.iload_n 2, 1) := o_28 BX11_sheet rfl rfl
theorem dX11_sheet_23 : decode cX11_sheet 23 = .ok (.ifCond .ge 6, 3) := o_156 BX11_sheet rfl rfl rfl
theorem dX11_sheet_26 : decode cX11_sheet 26 = .ok (.bipush (-2), 2) := o_16 BX11_sheet rfl rfl rfl
theorem dX11_sheet_28 : decode cX11_sheet 28 = .ok (.ireturn, 1) := o_172 BX11_sheet rfl rfl
theorem dX11_sheet_29 : decode cX11_sheet 29 = .ok (.iload_n 1, 1) := o_27 BX11_sheet rfl rfl
theorem dX11_sheet_30 : decode cX11_sheet 30 = .ok (.iconst 3, 1) := o_6 BX11_sheet rfl rfl
theorem dX11_sheet_31 : decode cX11_sheet 31 = .ok (.if_icmp .ne 7, 3) := o_160 BX11_sheet rfl rfl rfl
theorem dX11_sheet_34 : decode cX11_sheet 34 = .ok (.iconst 0, 1) := o_3 BX11_sheet rfl rfl
theorem dX11_sheet_35 : decode cX11_sheet 35 = .ok (.goto 4, 3) := o_167 BX11_sheet rfl rfl rfl
theorem dX11_sheet_38 : decode cX11_sheet 38 = .ok (.iload_n 2, 1) := o_28 BX11_sheet rfl rfl
theorem dX11_sheet_39 : decode cX11_sheet 39 = .ok (.istore 5, 2) := o_54 BX11_sheet rfl rfl rfl
theorem dX11_sheet_41 : decode cX11_sheet 41 = .ok (.iconst 0, 1) := o_3 BX11_sheet rfl rfl
theorem dX11_sheet_42 : decode cX11_sheet 42 = .ok (.istore 6, 2) := o_54 BX11_sheet rfl rfl rfl
theorem dX11_sheet_44 : decode cX11_sheet 44 = .ok (.iconst 0, 1) := o_3 BX11_sheet rfl rfl
theorem dX11_sheet_45 : decode cX11_sheet 45 = .ok (.istore 7, 2) := o_54 BX11_sheet rfl rfl rfl
theorem dX11_sheet_47 : decode cX11_sheet 47 = .ok (.iload 7, 2) := o_21 BX11_sheet rfl rfl rfl
theorem dX11_sheet_49 : decode cX11_sheet 49 = .ok (.aload_n 0, 1) := o_42 BX11_sheet rfl rfl
theorem dX11_sheet_50 : decode cX11_sheet 50 = .ok (.getfield 26, 3) := o_180 BX11_sheet rfl rfl rfl
theorem dX11_sheet_53 : decode cX11_sheet 53 = .ok (.getfield 191, 3) := o_180 BX11_sheet rfl rfl rfl
theorem dX11_sheet_56 : decode cX11_sheet 56 = .ok (.if_icmp .ge 69, 3) := o_162 BX11_sheet rfl rfl rfl
theorem dX11_sheet_59 : decode cX11_sheet 59 = .ok (.aload_n 0, 1) := o_42 BX11_sheet rfl rfl
theorem dX11_sheet_60 : decode cX11_sheet 60 = .ok (.getfield 26, 3) := o_180 BX11_sheet rfl rfl rfl
theorem dX11_sheet_63 : decode cX11_sheet 63 = .ok (.iload 7, 2) := o_21 BX11_sheet rfl rfl rfl
theorem dX11_sheet_65 : decode cX11_sheet 65 = .ok (.invokevirtual 278, 3) := o_182 BX11_sheet rfl rfl rfl
theorem dX11_sheet_68 : decode cX11_sheet 68 = .ok (.ifCond .ne 36, 3) := o_154 BX11_sheet rfl rfl rfl
theorem dX11_sheet_71 : decode cX11_sheet 71 = .ok (.aload_n 0, 1) := o_42 BX11_sheet rfl rfl
theorem dX11_sheet_72 : decode cX11_sheet 72 = .ok (.getfield 26, 3) := o_180 BX11_sheet rfl rfl rfl
theorem dX11_sheet_75 : decode cX11_sheet 75 = .ok (.getfield 270, 3) := o_180 BX11_sheet rfl rfl rfl
theorem dX11_sheet_78 : decode cX11_sheet 78 = .ok (.iload 7, 2) := o_21 BX11_sheet rfl rfl rfl
theorem dX11_sheet_80 : decode cX11_sheet 80 = .ok (.iload 7, 2) := o_21 BX11_sheet rfl rfl rfl
theorem dX11_sheet_82 : decode cX11_sheet 82 = .ok (.iload 5, 2) := o_21 BX11_sheet rfl rfl rfl
theorem dX11_sheet_84 : decode cX11_sheet 84 = .ok (.if_icmp .ge 18, 3) := o_162 BX11_sheet rfl rfl rfl
theorem dX11_sheet_87 : decode cX11_sheet 87 = .ok (.aload_n 0, 1) := o_42 BX11_sheet rfl rfl
theorem dX11_sheet_88 : decode cX11_sheet 88 = .ok (.iload_n 1, 1) := o_27 BX11_sheet rfl rfl
theorem dX11_sheet_89 : decode cX11_sheet 89 = .ok (.iload_n 3, 1) := o_29 BX11_sheet rfl rfl
theorem dX11_sheet_90 : decode cX11_sheet 90 = .ok (.iload 7, 2) := o_21 BX11_sheet rfl rfl rfl
theorem dX11_sheet_92 : decode cX11_sheet 92 = .ok (.iload 4, 2) := o_21 BX11_sheet rfl rfl rfl
theorem dX11_sheet_94 : decode cX11_sheet 94 = .ok (.imul, 1) := o_104 BX11_sheet rfl rfl
theorem dX11_sheet_95 : decode cX11_sheet 95 = .ok (.iadd, 1) := o_96 BX11_sheet rfl rfl
theorem dX11_sheet_96 : decode cX11_sheet 96 = .ok (.invokevirtual 281, 3) := o_182 BX11_sheet rfl rfl rfl
theorem dX11_sheet_99 : decode cX11_sheet 99 = .ok (.goto 4, 3) := o_167 BX11_sheet rfl rfl rfl
theorem dX11_sheet_102 : decode cX11_sheet 102 = .ok (.iconst 0, 1) := o_3 BX11_sheet rfl rfl
theorem dX11_sheet_103 : decode cX11_sheet 103 = .ok (.iastore, 1) := o_79 BX11_sheet rfl rfl
theorem dX11_sheet_104 : decode cX11_sheet 104 = .ok (.iload 6, 2) := o_21 BX11_sheet rfl rfl rfl
theorem dX11_sheet_106 : decode cX11_sheet 106 = .ok (.aload_n 0, 1) := o_42 BX11_sheet rfl rfl
theorem dX11_sheet_107 : decode cX11_sheet 107 = .ok (.getfield 26, 3) := o_180 BX11_sheet rfl rfl rfl
theorem dX11_sheet_110 : decode cX11_sheet 110 = .ok (.getfield 270, 3) := o_180 BX11_sheet rfl rfl rfl
theorem dX11_sheet_113 : decode cX11_sheet 113 = .ok (.iload 7, 2) := o_21 BX11_sheet rfl rfl rfl
theorem dX11_sheet_115 : decode cX11_sheet 115 = .ok (.iaload, 1) := o_46 BX11_sheet rfl rfl
theorem dX11_sheet_116 : decode cX11_sheet 116 = .ok (.iadd, 1) := o_96 BX11_sheet rfl rfl
theorem dX11_sheet_117 : decode cX11_sheet 117 = .ok (.istore 6, 2) := o_54 BX11_sheet rfl rfl rfl
theorem dX11_sheet_119 : decode cX11_sheet 119 = .ok (.iinc 7 1, 3) := o_132 BX11_sheet rfl rfl rfl rfl
theorem dX11_sheet_122 : decode cX11_sheet 122 = .ok (.goto (-75), 3) := o_167 BX11_sheet rfl rfl rfl
theorem dX11_sheet_125 : decode cX11_sheet 125 = .ok (.iload_n 1, 1) := o_27 BX11_sheet rfl rfl
theorem dX11_sheet_126 : decode cX11_sheet 126 = .ok (.iconst 3, 1) := o_6 BX11_sheet rfl rfl
theorem dX11_sheet_127 : decode cX11_sheet 127 = .ok (.if_icmp .ne 8, 3) := o_160 BX11_sheet rfl rfl rfl
theorem dX11_sheet_130 : decode cX11_sheet 130 = .ok (.bipush (-3), 2) := o_16 BX11_sheet rfl rfl rfl
theorem dX11_sheet_132 : decode cX11_sheet 132 = .ok (.goto 5, 3) := o_167 BX11_sheet rfl rfl rfl
theorem dX11_sheet_135 : decode cX11_sheet 135 = .ok (.iload 6, 2) := o_21 BX11_sheet rfl rfl rfl
theorem dX11_sheet_137 : decode cX11_sheet 137 = .ok (.ireturn, 1) := o_172 BX11_sheet rfl rfl
theorem dX11_cellOfEntry_0 : decode cX11_cellOfEntry 0 = .ok (.iload_n 2, 1) := o_28 BX11_cellOfEntry rfl rfl
theorem dX11_cellOfEntry_1 : decode cX11_cellOfEntry 1 = .ok (.istore_n 3, 1) := o_62 BX11_cellOfEntry rfl rfl
theorem dX11_cellOfEntry_2 : decode cX11_cellOfEntry 2 = .ok (.iload_n 1, 1) := o_27 BX11_cellOfEntry rfl rfl
theorem dX11_cellOfEntry_3 : decode cX11_cellOfEntry 3 = .ok (.ifCond .ne 9, 3) := o_154 BX11_cellOfEntry rfl rfl rfl
theorem dX11_cellOfEntry_6 : decode cX11_cellOfEntry 6 = .ok (.iload_n 2, 1) := o_28 BX11_cellOfEntry rfl rfl
theorem dX11_cellOfEntry_7 : decode cX11_cellOfEntry 7 = .ok (.i2b, 1) := o_145 BX11_cellOfEntry rfl rfl
theorem dX11_cellOfEntry_8 : decode cX11_cellOfEntry 8 = .ok (.istore_n 3, 1) := o_62 BX11_cellOfEntry rfl rfl
theorem dX11_cellOfEntry_9 : decode cX11_cellOfEntry 9 = .ok (.goto 11, 3) := o_167 BX11_cellOfEntry rfl rfl rfl
theorem dX11_cellOfEntry_12 : decode cX11_cellOfEntry 12 = .ok (.iload_n 1, 1) := o_27 BX11_cellOfEntry rfl rfl
theorem dX11_cellOfEntry_13 : decode cX11_cellOfEntry 13 = .ok (.iconst 1, 1) := o_4 BX11_cellOfEntry rfl rfl
theorem dX11_cellOfEntry_14 : decode cX11_cellOfEntry 14 = .ok (.if_icmp .ne 6, 3) := o_160 BX11_cellOfEntry rfl rfl rfl
theorem dX11_cellOfEntry_17 : decode cX11_cellOfEntry 17 = .ok (.iload_n 2, 1) := o_28 BX11_cellOfEntry rfl rfl
theorem dX11_cellOfEntry_18 : decode cX11_cellOfEntry 18 = .ok (.i2s, 1) := o_147 BX11_cellOfEntry rfl rfl
theorem dX11_cellOfEntry_19 : decode cX11_cellOfEntry 19 = .ok (.istore_n 3, 1) := o_62 BX11_cellOfEntry rfl rfl
theorem dX11_cellOfEntry_20 : decode cX11_cellOfEntry 20 = .ok (.aload_n 0, 1) := o_42 BX11_cellOfEntry rfl rfl
theorem dX11_cellOfEntry_21 : decode cX11_cellOfEntry 21 = .ok (.getfield 19, 3) := o_180 BX11_cellOfEntry rfl rfl rfl
theorem dX11_cellOfEntry_24 : decode cX11_cellOfEntry 24 = .ok (.iload_n 3, 1) := o_29 BX11_cellOfEntry rfl rfl
theorem dX11_cellOfEntry_25 : decode cX11_cellOfEntry 25 = .ok (.invokevirtual 285, 3) := o_182 BX11_cellOfEntry rfl rfl rfl
theorem dX11_cellOfEntry_28 : decode cX11_cellOfEntry 28 = .ok (.ireturn, 1) := o_172 BX11_cellOfEntry rfl rfl
theorem dX11_steps_0 : decode cX11_steps 0 = .ok (.iload_n 1, 1) := o_27 BX11_steps rfl rfl
theorem dX11_steps_1 : decode cX11_steps 1 = .ok (.ifCond .lt 9, 3) := o_155 BX11_steps rfl rfl rfl
theorem dX11_steps_4 : decode cX11_steps 4 = .ok (.iload_n 1, 1) := o_27 BX11_steps rfl rfl
theorem dX11_steps_5 : decode cX11_steps 5 = .ok (.bipush 60, 2) := o_16 BX11_steps rfl rfl rfl
theorem dX11_steps_7 : decode cX11_steps 7 = .ok (.if_icmp .le 5, 3) := o_164 BX11_steps rfl rfl rfl
theorem dX11_steps_10 : decode cX11_steps 10 = .ok (.iconst (-1), 1) := o_2 BX11_steps rfl rfl
theorem dX11_steps_11 : decode cX11_steps 11 = .ok (.ireturn, 1) := o_172 BX11_steps rfl rfl
theorem dX11_steps_12 : decode cX11_steps 12 = .ok (.aload_n 0, 1) := o_42 BX11_steps rfl rfl
theorem dX11_steps_13 : decode cX11_steps 13 = .ok (.getfield 36, 3) := o_180 BX11_steps rfl rfl rfl
theorem dX11_steps_16 : decode cX11_steps 16 = .ok (.aload_n 0, 1) := o_42 BX11_steps rfl rfl
theorem dX11_steps_17 : decode cX11_steps 17 = .ok (.getfield 26, 3) := o_180 BX11_steps rfl rfl rfl
theorem dX11_steps_20 : decode cX11_steps 20 = .ok (.invokevirtual 153, 3) := o_182 BX11_steps rfl rfl rfl
theorem dX11_steps_23 : decode cX11_steps 23 = .ok (.aload_n 0, 1) := o_42 BX11_steps rfl rfl
theorem dX11_steps_24 : decode cX11_steps 24 = .ok (.getfield 44, 3) := o_180 BX11_steps rfl rfl rfl
theorem dX11_steps_27 : decode cX11_steps 27 = .ok (.aload_n 0, 1) := o_42 BX11_steps rfl rfl
theorem dX11_steps_28 : decode cX11_steps 28 = .ok (.getfield 26, 3) := o_180 BX11_steps rfl rfl rfl
theorem dX11_steps_31 : decode cX11_steps 31 = .ok (.aload_n 0, 1) := o_42 BX11_steps rfl rfl
theorem dX11_steps_32 : decode cX11_steps 32 = .ok (.getfield 105, 3) := o_180 BX11_steps rfl rfl rfl
theorem dX11_steps_35 : decode cX11_steps 35 = .ok (.iload_n 1, 1) := o_27 BX11_steps rfl rfl
theorem dX11_steps_36 : decode cX11_steps 36 = .ok (.invokevirtual 288, 3) := o_182 BX11_steps rfl rfl rfl
theorem dX11_steps_39 : decode cX11_steps 39 = .ok (.aload_n 0, 1) := o_42 BX11_steps rfl rfl
theorem dX11_steps_40 : decode cX11_steps 40 = .ok (.getfield 66, 3) := o_180 BX11_steps rfl rfl rfl
theorem dX11_steps_43 : decode cX11_steps 43 = .ok (.aload_n 0, 1) := o_42 BX11_steps rfl rfl
theorem dX11_steps_44 : decode cX11_steps 44 = .ok (.getfield 44, 3) := o_180 BX11_steps rfl rfl rfl
theorem dX11_steps_47 : decode cX11_steps 47 = .ok (.getfield 292, 3) := o_180 BX11_steps rfl rfl rfl
theorem dX11_steps_50 : decode cX11_steps 50 = .ok (.i2l, 1) := o_133 BX11_steps rfl rfl
theorem dX11_steps_51 : decode cX11_steps 51 = .ok (.aload_n 0, 1) := o_42 BX11_steps rfl rfl
theorem dX11_steps_52 : decode cX11_steps 52 = .ok (.getfield 44, 3) := o_180 BX11_steps rfl rfl rfl
theorem dX11_steps_55 : decode cX11_steps 55 = .ok (.getfield 295, 3) := o_180 BX11_steps rfl rfl rfl
theorem dX11_steps_58 : decode cX11_steps 58 = .ok (.i2l, 1) := o_133 BX11_steps rfl rfl
theorem dX11_steps_59 : decode cX11_steps 59 = .ok (.invokevirtual 298, 3) := o_182 BX11_steps rfl rfl rfl
theorem dX11_steps_62 : decode cX11_steps 62 = .ok (.aload_n 0, 1) := o_42 BX11_steps rfl rfl
theorem dX11_steps_63 : decode cX11_steps 63 = .ok (.aload_n 0, 1) := o_42 BX11_steps rfl rfl
theorem dX11_steps_64 : decode cX11_steps 64 = .ok (.getfield 26, 3) := o_180 BX11_steps rfl rfl rfl
theorem dX11_steps_67 : decode cX11_steps 67 = .ok (.getfield 302, 3) := o_180 BX11_steps rfl rfl rfl
theorem dX11_steps_70 : decode cX11_steps 70 = .ok (.invokevirtual 305, 3) := o_182 BX11_steps rfl rfl rfl
theorem dX11_steps_73 : decode cX11_steps 73 = .ok (.ireturn, 1) := o_172 BX11_steps rfl rfl
theorem dX11_turnsTo_0 : decode cX11_turnsTo 0 = .ok (.aload_n 0, 1) := o_42 BX11_turnsTo rfl rfl
theorem dX11_turnsTo_1 : decode cX11_turnsTo 1 = .ok (.getfield 36, 3) := o_180 BX11_turnsTo rfl rfl rfl
theorem dX11_turnsTo_4 : decode cX11_turnsTo 4 = .ok (.aload_n 0, 1) := o_42 BX11_turnsTo rfl rfl
theorem dX11_turnsTo_5 : decode cX11_turnsTo 5 = .ok (.getfield 26, 3) := o_180 BX11_turnsTo rfl rfl rfl
theorem dX11_turnsTo_8 : decode cX11_turnsTo 8 = .ok (.invokevirtual 153, 3) := o_182 BX11_turnsTo rfl rfl rfl
theorem dX11_turnsTo_11 : decode cX11_turnsTo 11 = .ok (.aload_n 0, 1) := o_42 BX11_turnsTo rfl rfl
theorem dX11_turnsTo_12 : decode cX11_turnsTo 12 = .ok (.aload_n 0, 1) := o_42 BX11_turnsTo rfl rfl
theorem dX11_turnsTo_13 : decode cX11_turnsTo 13 = .ok (.getfield 26, 3) := o_180 BX11_turnsTo rfl rfl rfl
theorem dX11_turnsTo_16 : decode cX11_turnsTo 16 = .ok (.iload_n 1, 1) := o_27 BX11_turnsTo rfl rfl
theorem dX11_turnsTo_17 : decode cX11_turnsTo 17 = .ok (.invokevirtual 308, 3) := o_182 BX11_turnsTo rfl rfl rfl
theorem dX11_turnsTo_20 : decode cX11_turnsTo 20 = .ok (.invokevirtual 305, 3) := o_182 BX11_turnsTo rfl rfl rfl
theorem dX11_turnsTo_23 : decode cX11_turnsTo 23 = .ok (.ireturn, 1) := o_172 BX11_turnsTo rfl rfl
theorem dX11_pushes_0 : decode cX11_pushes 0 = .ok (.aload_n 0, 1) := o_42 BX11_pushes rfl rfl
theorem dX11_pushes_1 : decode cX11_pushes 1 = .ok (.getfield 36, 3) := o_180 BX11_pushes rfl rfl rfl
theorem dX11_pushes_4 : decode cX11_pushes 4 = .ok (.aload_n 0, 1) := o_42 BX11_pushes rfl rfl
theorem dX11_pushes_5 : decode cX11_pushes 5 = .ok (.getfield 26, 3) := o_180 BX11_pushes rfl rfl rfl
theorem dX11_pushes_8 : decode cX11_pushes 8 = .ok (.invokevirtual 153, 3) := o_182 BX11_pushes rfl rfl rfl
theorem dX11_pushes_11 : decode cX11_pushes 11 = .ok (.aload_n 0, 1) := o_42 BX11_pushes rfl rfl
theorem dX11_pushes_12 : decode cX11_pushes 12 = .ok (.aload_n 0, 1) := o_42 BX11_pushes rfl rfl
theorem dX11_pushes_13 : decode cX11_pushes 13 = .ok (.getfield 26, 3) := o_180 BX11_pushes rfl rfl rfl
theorem dX11_pushes_16 : decode cX11_pushes 16 = .ok (.iload_n 1, 1) := o_27 BX11_pushes rfl rfl
theorem dX11_pushes_17 : decode cX11_pushes 17 = .ok (.iload_n 2, 1) := o_28 BX11_pushes rfl rfl
theorem dX11_pushes_18 : decode cX11_pushes 18 = .ok (.aload_n 0, 1) := o_42 BX11_pushes rfl rfl
theorem dX11_pushes_19 : decode cX11_pushes 19 = .ok (.getfield 19, 3) := o_180 BX11_pushes rfl rfl rfl
theorem dX11_pushes_22 : decode cX11_pushes 22 = .ok (.invokevirtual 311, 3) := o_182 BX11_pushes rfl rfl rfl
theorem dX11_pushes_25 : decode cX11_pushes 25 = .ok (.invokevirtual 305, 3) := o_182 BX11_pushes rfl rfl rfl
theorem dX11_pushes_28 : decode cX11_pushes 28 = .ok (.ireturn, 1) := o_172 BX11_pushes rfl rfl
theorem dX11_swaps_0 : decode cX11_swaps 0 = .ok (.aload_n 0, 1) := o_42 BX11_swaps rfl rfl
theorem dX11_swaps_1 : decode cX11_swaps 1 = .ok (.getfield 36, 3) := o_180 BX11_swaps rfl rfl rfl
theorem dX11_swaps_4 : decode cX11_swaps 4 = .ok (.aload_n 0, 1) := o_42 BX11_swaps rfl rfl
theorem dX11_swaps_5 : decode cX11_swaps 5 = .ok (.getfield 26, 3) := o_180 BX11_swaps rfl rfl rfl
theorem dX11_swaps_8 : decode cX11_swaps 8 = .ok (.invokevirtual 153, 3) := o_182 BX11_swaps rfl rfl rfl
theorem dX11_swaps_11 : decode cX11_swaps 11 = .ok (.aload_n 0, 1) := o_42 BX11_swaps rfl rfl
theorem dX11_swaps_12 : decode cX11_swaps 12 = .ok (.aload_n 0, 1) := o_42 BX11_swaps rfl rfl
theorem dX11_swaps_13 : decode cX11_swaps 13 = .ok (.getfield 26, 3) := o_180 BX11_swaps rfl rfl rfl
theorem dX11_swaps_16 : decode cX11_swaps 16 = .ok (.iload_n 1, 1) := o_27 BX11_swaps rfl rfl
theorem dX11_swaps_17 : decode cX11_swaps 17 = .ok (.iload_n 2, 1) := o_28 BX11_swaps rfl rfl
theorem dX11_swaps_18 : decode cX11_swaps 18 = .ok (.invokevirtual 315, 3) := o_182 BX11_swaps rfl rfl rfl
theorem dX11_swaps_21 : decode cX11_swaps 21 = .ok (.invokevirtual 305, 3) := o_182 BX11_swaps rfl rfl rfl
theorem dX11_swaps_24 : decode cX11_swaps 24 = .ok (.ireturn, 1) := o_172 BX11_swaps rfl rfl
theorem dX11_isDone_0 : decode cX11_isDone 0 = .ok (.iload_n 0, 1) := o_26 BX11_isDone rfl rfl
theorem dX11_isDone_1 : decode cX11_isDone 1 = .ok (.ifCond .ge 9, 3) := o_156 BX11_isDone rfl rfl rfl
theorem dX11_isDone_4 : decode cX11_isDone 4 = .ok (.iload_n 0, 1) := o_26 BX11_isDone rfl rfl
theorem dX11_isDone_5 : decode cX11_isDone 5 = .ok (.bipush (-4), 2) := o_16 BX11_isDone rfl rfl rfl
theorem dX11_isDone_7 : decode cX11_isDone 7 = .ok (.if_icmp .ne 7, 3) := o_160 BX11_isDone rfl rfl rfl
theorem dX11_isDone_10 : decode cX11_isDone 10 = .ok (.iconst 1, 1) := o_4 BX11_isDone rfl rfl
theorem dX11_isDone_11 : decode cX11_isDone 11 = .ok (.goto 4, 3) := o_167 BX11_isDone rfl rfl rfl
theorem dX11_isDone_14 : decode cX11_isDone 14 = .ok (.iconst 0, 1) := o_3 BX11_isDone rfl rfl
theorem dX11_isDone_15 : decode cX11_isDone 15 = .ok (.ireturn, 1) := o_172 BX11_isDone rfl rfl
theorem dX11_undoable_0 : decode cX11_undoable 0 = .ok (.iload_n 1, 1) := o_27 BX11_undoable rfl rfl
theorem dX11_undoable_1 : decode cX11_undoable 1 = .ok (.invokestatic 318, 3) := o_184 BX11_undoable rfl rfl rfl
theorem dX11_undoable_4 : decode cX11_undoable 4 = .ok (.ifCond .eq 14, 3) := o_153 BX11_undoable rfl rfl rfl
theorem dX11_undoable_7 : decode cX11_undoable 7 = .ok (.aload_n 0, 1) := o_42 BX11_undoable rfl rfl
theorem dX11_undoable_8 : decode cX11_undoable 8 = .ok (.getfield 51, 3) := o_180 BX11_undoable rfl rfl rfl
theorem dX11_undoable_11 : decode cX11_undoable 11 = .ok (.aload_n 0, 1) := o_42 BX11_undoable rfl rfl
theorem dX11_undoable_12 : decode cX11_undoable 12 = .ok (.getfield 36, 3) := o_180 BX11_undoable rfl rfl rfl
theorem dX11_undoable_15 : decode cX11_undoable 15 = .ok (.invokevirtual 321, 3) := o_182 BX11_undoable rfl rfl rfl
theorem dX11_undoable_18 : decode cX11_undoable 18 = .ok (.iload_n 1, 1) := o_27 BX11_undoable rfl rfl
theorem dX11_undoable_19 : decode cX11_undoable 19 = .ok (.ireturn, 1) := o_172 BX11_undoable rfl rfl
theorem dX11_hour_0 : decode cX11_hour 0 = .ok (.aload_n 0, 1) := o_42 BX11_hour rfl rfl
theorem dX11_hour_1 : decode cX11_hour 1 = .ok (.invokevirtual 324, 3) := o_182 BX11_hour rfl rfl rfl
theorem dX11_hour_4 : decode cX11_hour 4 = .ok (.istore_n 1, 1) := o_60 BX11_hour rfl rfl
theorem dX11_hour_5 : decode cX11_hour 5 = .ok (.iconst 0, 1) := o_3 BX11_hour rfl rfl
theorem dX11_hour_6 : decode cX11_hour 6 = .ok (.istore_n 2, 1) := o_61 BX11_hour rfl rfl
theorem dX11_hour_7 : decode cX11_hour 7 = .ok (.iconst 0, 1) := o_3 BX11_hour rfl rfl
theorem dX11_hour_8 : decode cX11_hour 8 = .ok (.istore_n 3, 1) := o_62 BX11_hour rfl rfl
theorem dX11_hour_9 : decode cX11_hour 9 = .ok (.aload_n 0, 1) := o_42 BX11_hour rfl rfl
theorem dX11_hour_10 : decode cX11_hour 10 = .ok (.getfield 36, 3) := o_180 BX11_hour rfl rfl rfl
theorem dX11_hour_13 : decode cX11_hour 13 = .ok (.aload_n 0, 1) := o_42 BX11_hour rfl rfl
theorem dX11_hour_14 : decode cX11_hour 14 = .ok (.getfield 26, 3) := o_180 BX11_hour rfl rfl rfl
theorem dX11_hour_17 : decode cX11_hour 17 = .ok (.invokevirtual 153, 3) := o_182 BX11_hour rfl rfl rfl
theorem dX11_hour_20 : decode cX11_hour 20 = .ok (.aload_n 0, 1) := o_42 BX11_hour rfl rfl
theorem dX11_hour_21 : decode cX11_hour 21 = .ok (.getfield 10, 3) := o_180 BX11_hour rfl rfl rfl
theorem dX11_hour_24 : decode cX11_hour 24 = .ok (.bipush 60, 2) := o_16 BX11_hour rfl rfl rfl
theorem dX11_hour_26 : decode cX11_hour 26 = .ok (.invokevirtual 157, 3) := o_182 BX11_hour rfl rfl rfl
theorem dX11_hour_29 : decode cX11_hour 29 = .ok (.iconst 0, 1) := o_3 BX11_hour rfl rfl
theorem dX11_hour_30 : decode cX11_hour 30 = .ok (.istore 4, 2) := o_54 BX11_hour rfl rfl rfl
theorem dX11_hour_32 : decode cX11_hour 32 = .ok (.iload 4, 2) := o_21 BX11_hour rfl rfl rfl
theorem dX11_hour_34 : decode cX11_hour 34 = .ok (.bipush 60, 2) := o_16 BX11_hour rfl rfl rfl
theorem dX11_hour_36 : decode cX11_hour 36 = .ok (.if_icmp .ge 56, 3) := o_162 BX11_hour rfl rfl rfl
theorem dX11_hour_39 : decode cX11_hour 39 = .ok (.iload_n 1, 1) := o_27 BX11_hour rfl rfl
theorem dX11_hour_40 : decode cX11_hour 40 = .ok (.iconst (-1), 1) := o_2 BX11_hour rfl rfl
theorem dX11_hour_41 : decode cX11_hour 41 = .ok (.if_icmp .ne 51, 3) := o_160 BX11_hour rfl rfl rfl
theorem dX11_hour_44 : decode cX11_hour 44 = .ok (.iload_n 3, 1) := o_29 BX11_hour rfl rfl
theorem dX11_hour_45 : decode cX11_hour 45 = .ok (.ifCond .ne 47, 3) := o_154 BX11_hour rfl rfl rfl
theorem dX11_hour_48 : decode cX11_hour 48 = .ok (.aload_n 0, 1) := o_42 BX11_hour rfl rfl
theorem dX11_hour_49 : decode cX11_hour 49 = .ok (.getfield 10, 3) := o_180 BX11_hour rfl rfl rfl
theorem dX11_hour_52 : decode cX11_hour 52 = .ok (.invokevirtual 327, 3) := o_182 BX11_hour rfl rfl rfl
theorem dX11_hour_55 : decode cX11_hour 55 = .ok (.ifCond .ne 37, 3) := o_154 BX11_hour rfl rfl rfl
theorem dX11_hour_58 : decode cX11_hour 58 = .ok (.aload_n 0, 1) := o_42 BX11_hour rfl rfl
theorem dX11_hour_59 : decode cX11_hour 59 = .ok (.invokevirtual 330, 3) := o_182 BX11_hour rfl rfl rfl
theorem dX11_hour_62 : decode cX11_hour 62 = .ok (.invokestatic 318, 3) := o_184 BX11_hour rfl rfl rfl
theorem dX11_hour_65 : decode cX11_hour 65 = .ok (.ifCond .ne 7, 3) := o_154 BX11_hour rfl rfl rfl
theorem dX11_hour_68 : decode cX11_hour 68 = .ok (.iconst 1, 1) := o_4 BX11_hour rfl rfl
theorem dX11_hour_69 : decode cX11_hour 69 = .ok (.goto 4, 3) := o_167 BX11_hour rfl rfl rfl
theorem dX11_hour_72 : decode cX11_hour 72 = .ok (.iconst 0, 1) := o_3 BX11_hour rfl rfl
theorem dX11_hour_73 : decode cX11_hour 73 = .ok (.istore_n 3, 1) := o_62 BX11_hour rfl rfl
theorem dX11_hour_74 : decode cX11_hour 74 = .ok (.iload_n 2, 1) := o_28 BX11_hour rfl rfl
theorem dX11_hour_75 : decode cX11_hour 75 = .ok (.iload_n 3, 1) := o_29 BX11_hour rfl rfl
theorem dX11_hour_76 : decode cX11_hour 76 = .ok (.ifCond .eq 7, 3) := o_153 BX11_hour rfl rfl rfl
theorem dX11_hour_79 : decode cX11_hour 79 = .ok (.iconst 0, 1) := o_3 BX11_hour rfl rfl
theorem dX11_hour_80 : decode cX11_hour 80 = .ok (.goto 4, 3) := o_167 BX11_hour rfl rfl rfl
theorem dX11_hour_83 : decode cX11_hour 83 = .ok (.iconst 1, 1) := o_4 BX11_hour rfl rfl
theorem dX11_hour_84 : decode cX11_hour 84 = .ok (.iadd, 1) := o_96 BX11_hour rfl rfl
theorem dX11_hour_85 : decode cX11_hour 85 = .ok (.istore_n 2, 1) := o_61 BX11_hour rfl rfl
theorem dX11_hour_86 : decode cX11_hour 86 = .ok (.iinc 4 1, 3) := o_132 BX11_hour rfl rfl rfl rfl
theorem dX11_hour_89 : decode cX11_hour 89 = .ok (.goto (-57), 3) := o_167 BX11_hour rfl rfl rfl
theorem dX11_hour_92 : decode cX11_hour 92 = .ok (.aload_n 0, 1) := o_42 BX11_hour rfl rfl
theorem dX11_hour_93 : decode cX11_hour 93 = .ok (.getfield 10, 3) := o_180 BX11_hour rfl rfl rfl
theorem dX11_hour_96 : decode cX11_hour 96 = .ok (.invokevirtual 140, 3) := o_182 BX11_hour rfl rfl rfl
theorem dX11_hour_99 : decode cX11_hour 99 = .ok (.iload_n 1, 1) := o_27 BX11_hour rfl rfl
theorem dX11_hour_100 : decode cX11_hour 100 = .ok (.iconst (-1), 1) := o_2 BX11_hour rfl rfl
theorem dX11_hour_101 : decode cX11_hour 101 = .ok (.if_icmp .eq 7, 3) := o_159 BX11_hour rfl rfl rfl
theorem dX11_hour_104 : decode cX11_hour 104 = .ok (.iconst (-1), 1) := o_2 BX11_hour rfl rfl
theorem dX11_hour_105 : decode cX11_hour 105 = .ok (.iload_n 1, 1) := o_27 BX11_hour rfl rfl
theorem dX11_hour_106 : decode cX11_hour 106 = .ok (.isub, 1) := o_100 BX11_hour rfl rfl
theorem dX11_hour_107 : decode cX11_hour 107 = .ok (.ireturn, 1) := o_172 BX11_hour rfl rfl
theorem dX11_hour_108 : decode cX11_hour 108 = .ok (.iload_n 2, 1) := o_28 BX11_hour rfl rfl
theorem dX11_hour_109 : decode cX11_hour 109 = .ok (.ifCond .le 14, 3) := o_158 BX11_hour rfl rfl rfl
theorem dX11_hour_112 : decode cX11_hour 112 = .ok (.aload_n 0, 1) := o_42 BX11_hour rfl rfl
theorem dX11_hour_113 : decode cX11_hour 113 = .ok (.getfield 51, 3) := o_180 BX11_hour rfl rfl rfl
theorem dX11_hour_116 : decode cX11_hour 116 = .ok (.aload_n 0, 1) := o_42 BX11_hour rfl rfl
theorem dX11_hour_117 : decode cX11_hour 117 = .ok (.getfield 36, 3) := o_180 BX11_hour rfl rfl rfl
theorem dX11_hour_120 : decode cX11_hour 120 = .ok (.invokevirtual 321, 3) := o_182 BX11_hour rfl rfl rfl
theorem dX11_hour_123 : decode cX11_hour 123 = .ok (.aload_n 0, 1) := o_42 BX11_hour rfl rfl
theorem dX11_hour_124 : decode cX11_hour 124 = .ok (.getfield 66, 3) := o_180 BX11_hour rfl rfl rfl
theorem dX11_hour_127 : decode cX11_hour 127 = .ok (.iload_n 3, 1) := o_29 BX11_hour rfl rfl
theorem dX11_hour_128 : decode cX11_hour 128 = .ok (.ifCond .eq 7, 3) := o_153 BX11_hour rfl rfl rfl
theorem dX11_hour_131 : decode cX11_hour 131 = .ok (.lconst 1, 1) := o_10 BX11_hour rfl rfl
theorem dX11_hour_132 : decode cX11_hour 132 = .ok (.goto 4, 3) := o_167 BX11_hour rfl rfl rfl
theorem dX11_hour_135 : decode cX11_hour 135 = .ok (.lconst 0, 1) := o_9 BX11_hour rfl rfl
theorem dX11_hour_136 : decode cX11_hour 136 = .ok (.aload_n 0, 1) := o_42 BX11_hour rfl rfl
theorem dX11_hour_137 : decode cX11_hour 137 = .ok (.getfield 26, 3) := o_180 BX11_hour rfl rfl rfl
theorem dX11_hour_140 : decode cX11_hour 140 = .ok (.getfield 333, 3) := o_180 BX11_hour rfl rfl rfl
theorem dX11_hour_143 : decode cX11_hour 143 = .ok (.i2l, 1) := o_133 BX11_hour rfl rfl
theorem dX11_hour_144 : decode cX11_hour 144 = .ok (.invokevirtual 298, 3) := o_182 BX11_hour rfl rfl rfl
theorem dX11_hour_147 : decode cX11_hour 147 = .ok (.iload_n 2, 1) := o_28 BX11_hour rfl rfl
theorem dX11_hour_148 : decode cX11_hour 148 = .ok (.ireturn, 1) := o_172 BX11_hour rfl rfl
theorem dX11_hourFault_0 : decode cX11_hourFault 0 = .ok (.aload_n 0, 1) := o_42 BX11_hourFault rfl rfl
theorem dX11_hourFault_1 : decode cX11_hourFault 1 = .ok (.getfield 10, 3) := o_180 BX11_hourFault rfl rfl rfl
theorem dX11_hourFault_4 : decode cX11_hourFault 4 = .ok (.bipush 60, 2) := o_16 BX11_hourFault rfl rfl rfl
theorem dX11_hourFault_6 : decode cX11_hourFault 6 = .ok (.invokevirtual 157, 3) := o_182 BX11_hourFault rfl rfl rfl
theorem dX11_hourFault_9 : decode cX11_hourFault 9 = .ok (.iconst 0, 1) := o_3 BX11_hourFault rfl rfl
theorem dX11_hourFault_10 : decode cX11_hourFault 10 = .ok (.istore_n 1, 1) := o_60 BX11_hourFault rfl rfl
theorem dX11_hourFault_11 : decode cX11_hourFault 11 = .ok (.iload_n 1, 1) := o_27 BX11_hourFault rfl rfl
theorem dX11_hourFault_12 : decode cX11_hourFault 12 = .ok (.bipush 60, 2) := o_16 BX11_hourFault rfl rfl rfl
theorem dX11_hourFault_14 : decode cX11_hourFault 14 = .ok (.if_icmp .ge 34, 3) := o_162 BX11_hourFault rfl rfl rfl
theorem dX11_hourFault_17 : decode cX11_hourFault 17 = .ok (.aload_n 0, 1) := o_42 BX11_hourFault rfl rfl
theorem dX11_hourFault_18 : decode cX11_hourFault 18 = .ok (.getfield 10, 3) := o_180 BX11_hourFault rfl rfl rfl
theorem dX11_hourFault_21 : decode cX11_hourFault 21 = .ok (.invokevirtual 327, 3) := o_182 BX11_hourFault rfl rfl rfl
theorem dX11_hourFault_24 : decode cX11_hourFault 24 = .ok (.ifCond .ne 24, 3) := o_154 BX11_hourFault rfl rfl rfl
theorem dX11_hourFault_27 : decode cX11_hourFault 27 = .ok (.aload_n 0, 1) := o_42 BX11_hourFault rfl rfl
theorem dX11_hourFault_28 : decode cX11_hourFault 28 = .ok (.invokevirtual 336, 3) := o_182 BX11_hourFault rfl rfl rfl
theorem dX11_hourFault_31 : decode cX11_hourFault 31 = .ok (.ifCond .ne 11, 3) := o_154 BX11_hourFault rfl rfl rfl
theorem dX11_hourFault_34 : decode cX11_hourFault 34 = .ok (.aload_n 0, 1) := o_42 BX11_hourFault rfl rfl
theorem dX11_hourFault_35 : decode cX11_hourFault 35 = .ok (.getfield 10, 3) := o_180 BX11_hourFault rfl rfl rfl
theorem dX11_hourFault_38 : decode cX11_hourFault 38 = .ok (.getfield 167, 3) := o_180 BX11_hourFault rfl rfl rfl
theorem dX11_hourFault_41 : decode cX11_hourFault 41 = .ok (.ireturn, 1) := o_172 BX11_hourFault rfl rfl
theorem dX11_hourFault_42 : decode cX11_hourFault 42 = .ok (.iinc 1 1, 3) := o_132 BX11_hourFault rfl rfl rfl rfl
theorem dX11_hourFault_45 : decode cX11_hourFault 45 = .ok (.goto (-34), 3) := o_167 BX11_hourFault rfl rfl rfl
theorem dX11_hourFault_48 : decode cX11_hourFault 48 = .ok (.aload_n 0, 1) := o_42 BX11_hourFault rfl rfl
theorem dX11_hourFault_49 : decode cX11_hourFault 49 = .ok (.getfield 10, 3) := o_180 BX11_hourFault rfl rfl rfl
theorem dX11_hourFault_52 : decode cX11_hourFault 52 = .ok (.invokevirtual 173, 3) := o_182 BX11_hourFault rfl rfl rfl
theorem dX11_hourFault_55 : decode cX11_hourFault 55 = .ok (.ifCond .eq 7, 3) := o_153 BX11_hourFault rfl rfl rfl
theorem dX11_hourFault_58 : decode cX11_hourFault 58 = .ok (.iconst (-1), 1) := o_2 BX11_hourFault rfl rfl
theorem dX11_hourFault_59 : decode cX11_hourFault 59 = .ok (.goto 10, 3) := o_167 BX11_hourFault rfl rfl rfl
theorem dX11_hourFault_62 : decode cX11_hourFault 62 = .ok (.aload_n 0, 1) := o_42 BX11_hourFault rfl rfl
theorem dX11_hourFault_63 : decode cX11_hourFault 63 = .ok (.getfield 10, 3) := o_180 BX11_hourFault rfl rfl rfl
theorem dX11_hourFault_66 : decode cX11_hourFault 66 = .ok (.getfield 167, 3) := o_180 BX11_hourFault rfl rfl rfl
theorem dX11_hourFault_69 : decode cX11_hourFault 69 = .ok (.ireturn, 1) := o_172 BX11_hourFault rfl rfl
theorem dX11_passAct_0 : decode cX11_passAct 0 = .ok (.aload_n 0, 1) := o_42 BX11_passAct rfl rfl
theorem dX11_passAct_1 : decode cX11_passAct 1 = .ok (.getfield 10, 3) := o_180 BX11_passAct rfl rfl rfl
theorem dX11_passAct_4 : decode cX11_passAct 4 = .ok (.invokevirtual 194, 3) := o_182 BX11_passAct rfl rfl rfl
theorem dX11_passAct_7 : decode cX11_passAct 7 = .ok (.istore_n 1, 1) := o_60 BX11_passAct rfl rfl
theorem dX11_passAct_8 : decode cX11_passAct 8 = .ok (.iload_n 1, 1) := o_27 BX11_passAct rfl rfl
theorem dX11_passAct_9 : decode cX11_passAct 9 = .ok (.bipush 112, 2) := o_16 BX11_passAct rfl rfl rfl
theorem dX11_passAct_11 : decode cX11_passAct 11 = .ok (.if_icmp .eq 9, 3) := o_159 BX11_passAct rfl rfl rfl
theorem dX11_passAct_14 : decode cX11_passAct 14 = .ok (.iload_n 1, 1) := o_27 BX11_passAct rfl rfl
theorem dX11_passAct_15 : decode cX11_passAct 15 = .ok (.bipush 98, 2) := o_16 BX11_passAct rfl rfl rfl
theorem dX11_passAct_17 : decode cX11_passAct 17 = .ok (.if_icmp .ne 7, 3) := o_160 BX11_passAct rfl rfl rfl
theorem dX11_passAct_20 : decode cX11_passAct 20 = .ok (.iconst 1, 1) := o_4 BX11_passAct rfl rfl
theorem dX11_passAct_21 : decode cX11_passAct 21 = .ok (.goto 4, 3) := o_167 BX11_passAct rfl rfl rfl
theorem dX11_passAct_24 : decode cX11_passAct 24 = .ok (.iconst 0, 1) := o_3 BX11_passAct rfl rfl
theorem dX11_passAct_25 : decode cX11_passAct 25 = .ok (.istore_n 2, 1) := o_61 BX11_passAct rfl rfl
theorem dX11_passAct_26 : decode cX11_passAct 26 = .ok (.iload_n 2, 1) := o_28 BX11_passAct rfl rfl
theorem dX11_passAct_27 : decode cX11_passAct 27 = .ok (.ifCond .ne 23, 3) := o_154 BX11_passAct rfl rfl rfl
theorem dX11_passAct_30 : decode cX11_passAct 30 = .ok (.iload_n 1, 1) := o_27 BX11_passAct rfl rfl
theorem dX11_passAct_31 : decode cX11_passAct 31 = .ok (.bipush 110, 2) := o_16 BX11_passAct rfl rfl rfl
theorem dX11_passAct_33 : decode cX11_passAct 33 = .ok (.if_icmp .eq 17, 3) := o_159 BX11_passAct rfl rfl rfl
theorem dX11_passAct_36 : decode cX11_passAct 36 = .ok (.iload_n 1, 1) := o_27 BX11_passAct rfl rfl
theorem dX11_passAct_37 : decode cX11_passAct 37 = .ok (.bipush 116, 2) := o_16 BX11_passAct rfl rfl rfl
theorem dX11_passAct_39 : decode cX11_passAct 39 = .ok (.if_icmp .eq 11, 3) := o_159 BX11_passAct rfl rfl rfl
theorem dX11_passAct_42 : decode cX11_passAct 42 = .ok (.iload_n 1, 1) := o_27 BX11_passAct rfl rfl
theorem dX11_passAct_43 : decode cX11_passAct 43 = .ok (.bipush 120, 2) := o_16 BX11_passAct rfl rfl rfl
theorem dX11_passAct_45 : decode cX11_passAct 45 = .ok (.if_icmp .eq 5, 3) := o_159 BX11_passAct rfl rfl rfl
theorem dX11_passAct_48 : decode cX11_passAct 48 = .ok (.iconst 0, 1) := o_3 BX11_passAct rfl rfl
theorem dX11_passAct_49 : decode cX11_passAct 49 = .ok (.ireturn, 1) := o_172 BX11_passAct rfl rfl
theorem dX11_passAct_50 : decode cX11_passAct 50 = .ok (.aload_n 0, 1) := o_42 BX11_passAct rfl rfl
theorem dX11_passAct_51 : decode cX11_passAct 51 = .ok (.getfield 10, 3) := o_180 BX11_passAct rfl rfl rfl
theorem dX11_passAct_54 : decode cX11_passAct 54 = .ok (.invokevirtual 197, 3) := o_182 BX11_passAct rfl rfl rfl
theorem dX11_passAct_57 : decode cX11_passAct 57 = .ok (.aload_n 0, 1) := o_42 BX11_passAct rfl rfl
theorem dX11_passAct_58 : decode cX11_passAct 58 = .ok (.getfield 10, 3) := o_180 BX11_passAct rfl rfl rfl
theorem dX11_passAct_61 : decode cX11_passAct 61 = .ok (.invokevirtual 339, 3) := o_182 BX11_passAct rfl rfl rfl
theorem dX11_passAct_64 : decode cX11_passAct 64 = .ok (.iconst (-1), 1) := o_2 BX11_passAct rfl rfl
theorem dX11_passAct_65 : decode cX11_passAct 65 = .ok (.if_icmp .eq 19, 3) := o_159 BX11_passAct rfl rfl rfl
theorem dX11_passAct_68 : decode cX11_passAct 68 = .ok (.iload_n 2, 1) := o_28 BX11_passAct rfl rfl
theorem dX11_passAct_69 : decode cX11_passAct 69 = .ok (.ifCond .eq 17, 3) := o_153 BX11_passAct rfl rfl rfl
theorem dX11_passAct_72 : decode cX11_passAct 72 = .ok (.aload_n 0, 1) := o_42 BX11_passAct rfl rfl
theorem dX11_passAct_73 : decode cX11_passAct 73 = .ok (.getfield 10, 3) := o_180 BX11_passAct rfl rfl rfl
theorem dX11_passAct_76 : decode cX11_passAct 76 = .ok (.invokevirtual 194, 3) := o_182 BX11_passAct rfl rfl rfl
theorem dX11_passAct_79 : decode cX11_passAct 79 = .ok (.bipush 48, 2) := o_16 BX11_passAct rfl rfl rfl
theorem dX11_passAct_81 : decode cX11_passAct 81 = .ok (.if_icmp .ne 5, 3) := o_160 BX11_passAct rfl rfl rfl
theorem dX11_passAct_84 : decode cX11_passAct 84 = .ok (.iconst 0, 1) := o_3 BX11_passAct rfl rfl
theorem dX11_passAct_85 : decode cX11_passAct 85 = .ok (.ireturn, 1) := o_172 BX11_passAct rfl rfl
theorem dX11_passAct_86 : decode cX11_passAct 86 = .ok (.iload_n 2, 1) := o_28 BX11_passAct rfl rfl
theorem dX11_passAct_87 : decode cX11_passAct 87 = .ok (.ifCond .ne 9, 3) := o_154 BX11_passAct rfl rfl rfl
theorem dX11_passAct_90 : decode cX11_passAct 90 = .ok (.iload_n 1, 1) := o_27 BX11_passAct rfl rfl
theorem dX11_passAct_91 : decode cX11_passAct 91 = .ok (.bipush 120, 2) := o_16 BX11_passAct rfl rfl rfl
theorem dX11_passAct_93 : decode cX11_passAct 93 = .ok (.if_icmp .ne 14, 3) := o_160 BX11_passAct rfl rfl rfl
theorem dX11_passAct_96 : decode cX11_passAct 96 = .ok (.aload_n 0, 1) := o_42 BX11_passAct rfl rfl
theorem dX11_passAct_97 : decode cX11_passAct 97 = .ok (.getfield 10, 3) := o_180 BX11_passAct rfl rfl rfl
theorem dX11_passAct_100 : decode cX11_passAct 100 = .ok (.invokevirtual 339, 3) := o_182 BX11_passAct rfl rfl rfl
theorem dX11_passAct_103 : decode cX11_passAct 103 = .ok (.iconst (-1), 1) := o_2 BX11_passAct rfl rfl
theorem dX11_passAct_104 : decode cX11_passAct 104 = .ok (.if_icmp .eq 7, 3) := o_159 BX11_passAct rfl rfl rfl
theorem dX11_passAct_107 : decode cX11_passAct 107 = .ok (.iconst 1, 1) := o_4 BX11_passAct rfl rfl
theorem dX11_passAct_108 : decode cX11_passAct 108 = .ok (.goto 4, 3) := o_167 BX11_passAct rfl rfl rfl
theorem dX11_passAct_111 : decode cX11_passAct 111 = .ok (.iconst 0, 1) := o_3 BX11_passAct rfl rfl
theorem dX11_passAct_112 : decode cX11_passAct 112 = .ok (.ireturn, 1) := o_172 BX11_passAct rfl rfl
theorem dX11_doAct_0 : decode cX11_doAct 0 = .ok (.aload_n 0, 1) := o_42 BX11_doAct rfl rfl
theorem dX11_doAct_1 : decode cX11_doAct 1 = .ok (.getfield 10, 3) := o_180 BX11_doAct rfl rfl rfl
theorem dX11_doAct_4 : decode cX11_doAct 4 = .ok (.invokevirtual 194, 3) := o_182 BX11_doAct rfl rfl rfl
theorem dX11_doAct_7 : decode cX11_doAct 7 = .ok (.istore_n 1, 1) := o_60 BX11_doAct rfl rfl
theorem dX11_doAct_8 : decode cX11_doAct 8 = .ok (.aload_n 0, 1) := o_42 BX11_doAct rfl rfl
theorem dX11_doAct_9 : decode cX11_doAct 9 = .ok (.getfield 10, 3) := o_180 BX11_doAct rfl rfl rfl
theorem dX11_doAct_12 : decode cX11_doAct 12 = .ok (.invokevirtual 197, 3) := o_182 BX11_doAct rfl rfl rfl
theorem dX11_doAct_15 : decode cX11_doAct 15 = .ok (.aload_n 0, 1) := o_42 BX11_doAct rfl rfl
theorem dX11_doAct_16 : decode cX11_doAct 16 = .ok (.getfield 10, 3) := o_180 BX11_doAct rfl rfl rfl
theorem dX11_doAct_19 : decode cX11_doAct 19 = .ok (.invokevirtual 339, 3) := o_182 BX11_doAct rfl rfl rfl
theorem dX11_doAct_22 : decode cX11_doAct 22 = .ok (.istore_n 2, 1) := o_61 BX11_doAct rfl rfl
theorem dX11_doAct_23 : decode cX11_doAct 23 = .ok (.iload_n 1, 1) := o_27 BX11_doAct rfl rfl
theorem dX11_doAct_24 : decode cX11_doAct 24 = .ok (.lookupswitch 118 #[(98, 97), (110, 44), (112, 77), (116, 68)], 44) := by decide +kernel
theorem dX11_doAct_68 : decode cX11_doAct 68 = .ok (.aload_n 0, 1) := o_42 BX11_doAct rfl rfl
theorem dX11_doAct_69 : decode cX11_doAct 69 = .ok (.getfield 44, 3) := o_180 BX11_doAct rfl rfl rfl
theorem dX11_doAct_72 : decode cX11_doAct 72 = .ok (.aload_n 0, 1) := o_42 BX11_doAct rfl rfl
theorem dX11_doAct_73 : decode cX11_doAct 73 = .ok (.getfield 26, 3) := o_180 BX11_doAct rfl rfl rfl
theorem dX11_doAct_76 : decode cX11_doAct 76 = .ok (.aload_n 0, 1) := o_42 BX11_doAct rfl rfl
theorem dX11_doAct_77 : decode cX11_doAct 77 = .ok (.getfield 105, 3) := o_180 BX11_doAct rfl rfl rfl
theorem dX11_doAct_80 : decode cX11_doAct 80 = .ok (.iload_n 2, 1) := o_28 BX11_doAct rfl rfl
theorem dX11_doAct_81 : decode cX11_doAct 81 = .ok (.invokevirtual 288, 3) := o_182 BX11_doAct rfl rfl rfl
theorem dX11_doAct_84 : decode cX11_doAct 84 = .ok (.aload_n 0, 1) := o_42 BX11_doAct rfl rfl
theorem dX11_doAct_85 : decode cX11_doAct 85 = .ok (.getfield 26, 3) := o_180 BX11_doAct rfl rfl rfl
theorem dX11_doAct_88 : decode cX11_doAct 88 = .ok (.getfield 302, 3) := o_180 BX11_doAct rfl rfl rfl
theorem dX11_doAct_91 : decode cX11_doAct 91 = .ok (.ireturn, 1) := o_172 BX11_doAct rfl rfl
theorem dX11_doAct_92 : decode cX11_doAct 92 = .ok (.aload_n 0, 1) := o_42 BX11_doAct rfl rfl
theorem dX11_doAct_93 : decode cX11_doAct 93 = .ok (.getfield 26, 3) := o_180 BX11_doAct rfl rfl rfl
theorem dX11_doAct_96 : decode cX11_doAct 96 = .ok (.iload_n 2, 1) := o_28 BX11_doAct rfl rfl
theorem dX11_doAct_97 : decode cX11_doAct 97 = .ok (.invokevirtual 308, 3) := o_182 BX11_doAct rfl rfl rfl
theorem dX11_doAct_100 : decode cX11_doAct 100 = .ok (.ireturn, 1) := o_172 BX11_doAct rfl rfl
theorem dX11_doAct_101 : decode cX11_doAct 101 = .ok (.aload_n 0, 1) := o_42 BX11_doAct rfl rfl
theorem dX11_doAct_102 : decode cX11_doAct 102 = .ok (.getfield 26, 3) := o_180 BX11_doAct rfl rfl rfl
theorem dX11_doAct_105 : decode cX11_doAct 105 = .ok (.iload_n 2, 1) := o_28 BX11_doAct rfl rfl
theorem dX11_doAct_106 : decode cX11_doAct 106 = .ok (.aload_n 0, 1) := o_42 BX11_doAct rfl rfl
theorem dX11_doAct_107 : decode cX11_doAct 107 = .ok (.getfield 10, 3) := o_180 BX11_doAct rfl rfl rfl
theorem dX11_doAct_110 : decode cX11_doAct 110 = .ok (.invokevirtual 339, 3) := o_182 BX11_doAct rfl rfl rfl
theorem dX11_doAct_113 : decode cX11_doAct 113 = .ok (.aload_n 0, 1) := o_42 BX11_doAct rfl rfl
theorem dX11_doAct_114 : decode cX11_doAct 114 = .ok (.getfield 19, 3) := o_180 BX11_doAct rfl rfl rfl
theorem dX11_doAct_117 : decode cX11_doAct 117 = .ok (.invokevirtual 311, 3) := o_182 BX11_doAct rfl rfl rfl
theorem dX11_doAct_120 : decode cX11_doAct 120 = .ok (.ireturn, 1) := o_172 BX11_doAct rfl rfl
theorem dX11_doAct_121 : decode cX11_doAct 121 = .ok (.aload_n 0, 1) := o_42 BX11_doAct rfl rfl
theorem dX11_doAct_122 : decode cX11_doAct 122 = .ok (.getfield 26, 3) := o_180 BX11_doAct rfl rfl rfl
theorem dX11_doAct_125 : decode cX11_doAct 125 = .ok (.iload_n 2, 1) := o_28 BX11_doAct rfl rfl
theorem dX11_doAct_126 : decode cX11_doAct 126 = .ok (.aload_n 0, 1) := o_42 BX11_doAct rfl rfl
theorem dX11_doAct_127 : decode cX11_doAct 127 = .ok (.getfield 10, 3) := o_180 BX11_doAct rfl rfl rfl
theorem dX11_doAct_130 : decode cX11_doAct 130 = .ok (.invokevirtual 339, 3) := o_182 BX11_doAct rfl rfl rfl
theorem dX11_doAct_133 : decode cX11_doAct 133 = .ok (.ineg, 1) := o_116 BX11_doAct rfl rfl
theorem dX11_doAct_134 : decode cX11_doAct 134 = .ok (.aload_n 0, 1) := o_42 BX11_doAct rfl rfl
theorem dX11_doAct_135 : decode cX11_doAct 135 = .ok (.getfield 19, 3) := o_180 BX11_doAct rfl rfl rfl
theorem dX11_doAct_138 : decode cX11_doAct 138 = .ok (.invokevirtual 311, 3) := o_182 BX11_doAct rfl rfl rfl
theorem dX11_doAct_141 : decode cX11_doAct 141 = .ok (.ireturn, 1) := o_172 BX11_doAct rfl rfl
theorem dX11_doAct_142 : decode cX11_doAct 142 = .ok (.aload_n 0, 1) := o_42 BX11_doAct rfl rfl
theorem dX11_doAct_143 : decode cX11_doAct 143 = .ok (.getfield 26, 3) := o_180 BX11_doAct rfl rfl rfl
theorem dX11_doAct_146 : decode cX11_doAct 146 = .ok (.iload_n 2, 1) := o_28 BX11_doAct rfl rfl
theorem dX11_doAct_147 : decode cX11_doAct 147 = .ok (.aload_n 0, 1) := o_42 BX11_doAct rfl rfl
theorem dX11_doAct_148 : decode cX11_doAct 148 = .ok (.getfield 10, 3) := o_180 BX11_doAct rfl rfl rfl
theorem dX11_doAct_151 : decode cX11_doAct 151 = .ok (.invokevirtual 339, 3) := o_182 BX11_doAct rfl rfl rfl
theorem dX11_doAct_154 : decode cX11_doAct 154 = .ok (.invokevirtual 315, 3) := o_182 BX11_doAct rfl rfl rfl
theorem dX11_doAct_157 : decode cX11_doAct 157 = .ok (.ireturn, 1) := o_172 BX11_doAct rfl rfl
theorem dX11_undo_0 : decode cX11_undo 0 = .ok (.aload_n 0, 1) := o_42 BX11_undo rfl rfl
theorem dX11_undo_1 : decode cX11_undo 1 = .ok (.getfield 51, 3) := o_180 BX11_undo rfl rfl rfl
theorem dX11_undo_4 : decode cX11_undo 4 = .ok (.aload_n 0, 1) := o_42 BX11_undo rfl rfl
theorem dX11_undo_5 : decode cX11_undo 5 = .ok (.getfield 26, 3) := o_180 BX11_undo rfl rfl rfl
theorem dX11_undo_8 : decode cX11_undo 8 = .ok (.invokevirtual 342, 3) := o_182 BX11_undo rfl rfl rfl
theorem dX11_undo_11 : decode cX11_undo 11 = .ok (.ifCond .eq 13, 3) := o_153 BX11_undo rfl rfl rfl
theorem dX11_undo_14 : decode cX11_undo 14 = .ok (.aload_n 0, 1) := o_42 BX11_undo rfl rfl
theorem dX11_undo_15 : decode cX11_undo 15 = .ok (.getfield 51, 3) := o_180 BX11_undo rfl rfl rfl
theorem dX11_undo_18 : decode cX11_undo 18 = .ok (.getfield 346, 3) := o_180 BX11_undo rfl rfl rfl
theorem dX11_undo_21 : decode cX11_undo 21 = .ok (.goto 4, 3) := o_167 BX11_undo rfl rfl rfl
theorem dX11_undo_24 : decode cX11_undo 24 = .ok (.iconst (-1), 1) := o_2 BX11_undo rfl rfl
theorem dX11_undo_25 : decode cX11_undo 25 = .ok (.ireturn, 1) := o_172 BX11_undo rfl rfl
theorem dX11_line_0 : decode cX11_line 0 = .ok (.aload_n 0, 1) := o_42 BX11_line rfl rfl
theorem dX11_line_1 : decode cX11_line 1 = .ok (.getfield 66, 3) := o_180 BX11_line rfl rfl rfl
theorem dX11_line_4 : decode cX11_line 4 = .ok (.invokevirtual 349, 3) := o_182 BX11_line rfl rfl rfl
theorem dX11_line_7 : decode cX11_line 7 = .ok (.aload_n 0, 1) := o_42 BX11_line rfl rfl
theorem dX11_line_8 : decode cX11_line 8 = .ok (.getfield 19, 3) := o_180 BX11_line rfl rfl rfl
theorem dX11_line_11 : decode cX11_line 11 = .ok (.getfield 350, 3) := o_180 BX11_line rfl rfl rfl
theorem dX11_line_14 : decode cX11_line 14 = .ok (.istore_n 1, 1) := o_60 BX11_line rfl rfl
theorem dX11_line_15 : decode cX11_line 15 = .ok (.iconst 0, 1) := o_3 BX11_line rfl rfl
theorem dX11_line_16 : decode cX11_line 16 = .ok (.istore_n 2, 1) := o_61 BX11_line rfl rfl
theorem dX11_line_17 : decode cX11_line 17 = .ok (.iload_n 2, 1) := o_28 BX11_line rfl rfl
theorem dX11_line_18 : decode cX11_line 18 = .ok (.bipush 6, 2) := o_16 BX11_line rfl rfl rfl
theorem dX11_line_20 : decode cX11_line 20 = .ok (.if_icmp .ge 45, 3) := o_162 BX11_line rfl rfl rfl
theorem dX11_line_23 : decode cX11_line 23 = .ok (.aload_n 0, 1) := o_42 BX11_line rfl rfl
theorem dX11_line_24 : decode cX11_line 24 = .ok (.getfield 26, 3) := o_180 BX11_line rfl rfl rfl
theorem dX11_line_27 : decode cX11_line 27 = .ok (.iload_n 1, 1) := o_27 BX11_line rfl rfl
theorem dX11_line_28 : decode cX11_line 28 = .ok (.invokevirtual 353, 3) := o_182 BX11_line rfl rfl rfl
theorem dX11_line_31 : decode cX11_line 31 = .ok (.istore_n 3, 1) := o_62 BX11_line rfl rfl
theorem dX11_line_32 : decode cX11_line 32 = .ok (.iload_n 3, 1) := o_29 BX11_line rfl rfl
theorem dX11_line_33 : decode cX11_line 33 = .ok (.iconst (-1), 1) := o_2 BX11_line rfl rfl
theorem dX11_line_34 : decode cX11_line 34 = .ok (.if_icmp .ne 6, 3) := o_160 BX11_line rfl rfl rfl
theorem dX11_line_37 : decode cX11_line 37 = .ok (.goto 28, 3) := o_167 BX11_line rfl rfl rfl
theorem dX11_line_40 : decode cX11_line 40 = .ok (.aload_n 0, 1) := o_42 BX11_line rfl rfl
theorem dX11_line_41 : decode cX11_line 41 = .ok (.getfield 26, 3) := o_180 BX11_line rfl rfl rfl
theorem dX11_line_44 : decode cX11_line 44 = .ok (.getfield 230, 3) := o_180 BX11_line rfl rfl rfl
theorem dX11_line_47 : decode cX11_line 47 = .ok (.iload_n 3, 1) := o_29 BX11_line rfl rfl
theorem dX11_line_48 : decode cX11_line 48 = .ok (.iaload, 1) := o_46 BX11_line rfl rfl
theorem dX11_line_49 : decode cX11_line 49 = .ok (.istore_n 1, 1) := o_60 BX11_line rfl rfl
theorem dX11_line_50 : decode cX11_line 50 = .ok (.aload_n 0, 1) := o_42 BX11_line rfl rfl
theorem dX11_line_51 : decode cX11_line 51 = .ok (.getfield 66, 3) := o_180 BX11_line rfl rfl rfl
theorem dX11_line_54 : decode cX11_line 54 = .ok (.iload_n 3, 1) := o_29 BX11_line rfl rfl
theorem dX11_line_55 : decode cX11_line 55 = .ok (.i2l, 1) := o_133 BX11_line rfl rfl
theorem dX11_line_56 : decode cX11_line 56 = .ok (.invokevirtual 356, 3) := o_182 BX11_line rfl rfl rfl
theorem dX11_line_59 : decode cX11_line 59 = .ok (.iinc 2 1, 3) := o_132 BX11_line rfl rfl rfl rfl
theorem dX11_line_62 : decode cX11_line 62 = .ok (.goto (-45), 3) := o_167 BX11_line rfl rfl rfl
theorem dX11_line_65 : decode cX11_line 65 = .ok (.aload_n 0, 1) := o_42 BX11_line rfl rfl
theorem dX11_line_66 : decode cX11_line 66 = .ok (.getfield 66, 3) := o_180 BX11_line rfl rfl rfl
theorem dX11_line_69 : decode cX11_line 69 = .ok (.getfield 359, 3) := o_180 BX11_line rfl rfl rfl
theorem dX11_line_72 : decode cX11_line 72 = .ok (.ireturn, 1) := o_172 BX11_line rfl rfl
theorem dX11_ahead_0 : decode cX11_ahead 0 = .ok (.iload_n 1, 1) := o_27 BX11_ahead rfl rfl
theorem dX11_ahead_1 : decode cX11_ahead 1 = .ok (.ifCond .lt 9, 3) := o_155 BX11_ahead rfl rfl rfl
theorem dX11_ahead_4 : decode cX11_ahead 4 = .ok (.iload_n 1, 1) := o_27 BX11_ahead rfl rfl
theorem dX11_ahead_5 : decode cX11_ahead 5 = .ok (.bipush 99, 2) := o_16 BX11_ahead rfl rfl rfl
theorem dX11_ahead_7 : decode cX11_ahead 7 = .ok (.if_icmp .le 5, 3) := o_164 BX11_ahead rfl rfl rfl
theorem dX11_ahead_10 : decode cX11_ahead 10 = .ok (.iconst (-1), 1) := o_2 BX11_ahead rfl rfl
theorem dX11_ahead_11 : decode cX11_ahead 11 = .ok (.ireturn, 1) := o_172 BX11_ahead rfl rfl
theorem dX11_ahead_12 : decode cX11_ahead 12 = .ok (.aload_n 0, 1) := o_42 BX11_ahead rfl rfl
theorem dX11_ahead_13 : decode cX11_ahead 13 = .ok (.getfield 30, 3) := o_180 BX11_ahead rfl rfl rfl
theorem dX11_ahead_16 : decode cX11_ahead 16 = .ok (.aload_n 0, 1) := o_42 BX11_ahead rfl rfl
theorem dX11_ahead_17 : decode cX11_ahead 17 = .ok (.getfield 26, 3) := o_180 BX11_ahead rfl rfl rfl
theorem dX11_ahead_20 : decode cX11_ahead 20 = .ok (.invokevirtual 153, 3) := o_182 BX11_ahead rfl rfl rfl
theorem dX11_ahead_23 : decode cX11_ahead 23 = .ok (.aload_n 0, 1) := o_42 BX11_ahead rfl rfl
theorem dX11_ahead_24 : decode cX11_ahead 24 = .ok (.getfield 44, 3) := o_180 BX11_ahead rfl rfl rfl
theorem dX11_ahead_27 : decode cX11_ahead 27 = .ok (.aload_n 0, 1) := o_42 BX11_ahead rfl rfl
theorem dX11_ahead_28 : decode cX11_ahead 28 = .ok (.getfield 30, 3) := o_180 BX11_ahead rfl rfl rfl
theorem dX11_ahead_31 : decode cX11_ahead 31 = .ok (.aload_n 0, 1) := o_42 BX11_ahead rfl rfl
theorem dX11_ahead_32 : decode cX11_ahead 32 = .ok (.getfield 105, 3) := o_180 BX11_ahead rfl rfl rfl
theorem dX11_ahead_35 : decode cX11_ahead 35 = .ok (.iload_n 1, 1) := o_27 BX11_ahead rfl rfl
theorem dX11_ahead_36 : decode cX11_ahead 36 = .ok (.invokevirtual 288, 3) := o_182 BX11_ahead rfl rfl rfl
theorem dX11_ahead_39 : decode cX11_ahead 39 = .ok (.aload_n 0, 1) := o_42 BX11_ahead rfl rfl
theorem dX11_ahead_40 : decode cX11_ahead 40 = .ok (.getfield 66, 3) := o_180 BX11_ahead rfl rfl rfl
theorem dX11_ahead_43 : decode cX11_ahead 43 = .ok (.invokevirtual 349, 3) := o_182 BX11_ahead rfl rfl rfl
theorem dX11_ahead_46 : decode cX11_ahead 46 = .ok (.iconst 0, 1) := o_3 BX11_ahead rfl rfl
theorem dX11_ahead_47 : decode cX11_ahead 47 = .ok (.istore_n 2, 1) := o_61 BX11_ahead rfl rfl
theorem dX11_ahead_48 : decode cX11_ahead 48 = .ok (.iload_n 2, 1) := o_28 BX11_ahead rfl rfl
theorem dX11_ahead_49 : decode cX11_ahead 49 = .ok (.aload_n 0, 1) := o_42 BX11_ahead rfl rfl
theorem dX11_ahead_50 : decode cX11_ahead 50 = .ok (.getfield 30, 3) := o_180 BX11_ahead rfl rfl rfl
theorem dX11_ahead_53 : decode cX11_ahead 53 = .ok (.getfield 176, 3) := o_180 BX11_ahead rfl rfl rfl
theorem dX11_ahead_56 : decode cX11_ahead 56 = .ok (.if_icmp .ge 26, 3) := o_162 BX11_ahead rfl rfl rfl
theorem dX11_ahead_59 : decode cX11_ahead 59 = .ok (.aload_n 0, 1) := o_42 BX11_ahead rfl rfl
theorem dX11_ahead_60 : decode cX11_ahead 60 = .ok (.getfield 66, 3) := o_180 BX11_ahead rfl rfl rfl
theorem dX11_ahead_63 : decode cX11_ahead 63 = .ok (.aload_n 0, 1) := o_42 BX11_ahead rfl rfl
theorem dX11_ahead_64 : decode cX11_ahead 64 = .ok (.getfield 30, 3) := o_180 BX11_ahead rfl rfl rfl
theorem dX11_ahead_67 : decode cX11_ahead 67 = .ok (.getfield 230, 3) := o_180 BX11_ahead rfl rfl rfl
theorem dX11_ahead_70 : decode cX11_ahead 70 = .ok (.iload_n 2, 1) := o_28 BX11_ahead rfl rfl
theorem dX11_ahead_71 : decode cX11_ahead 71 = .ok (.iaload, 1) := o_46 BX11_ahead rfl rfl
theorem dX11_ahead_72 : decode cX11_ahead 72 = .ok (.i2l, 1) := o_133 BX11_ahead rfl rfl
theorem dX11_ahead_73 : decode cX11_ahead 73 = .ok (.invokevirtual 356, 3) := o_182 BX11_ahead rfl rfl rfl
theorem dX11_ahead_76 : decode cX11_ahead 76 = .ok (.iinc 2 1, 3) := o_132 BX11_ahead rfl rfl rfl rfl
theorem dX11_ahead_79 : decode cX11_ahead 79 = .ok (.goto (-31), 3) := o_167 BX11_ahead rfl rfl rfl
theorem dX11_ahead_82 : decode cX11_ahead 82 = .ok (.aload_n 0, 1) := o_42 BX11_ahead rfl rfl
theorem dX11_ahead_83 : decode cX11_ahead 83 = .ok (.getfield 30, 3) := o_180 BX11_ahead rfl rfl rfl
theorem dX11_ahead_86 : decode cX11_ahead 86 = .ok (.getfield 302, 3) := o_180 BX11_ahead rfl rfl rfl
theorem dX11_ahead_89 : decode cX11_ahead 89 = .ok (.ireturn, 1) := o_172 BX11_ahead rfl rfl
theorem dX11_arrives_0 : decode cX11_arrives 0 = .ok (.aload_n 0, 1) := o_42 BX11_arrives rfl rfl
theorem dX11_arrives_1 : decode cX11_arrives 1 = .ok (.getfield 26, 3) := o_180 BX11_arrives rfl rfl rfl
theorem dX11_arrives_4 : decode cX11_arrives 4 = .ok (.iload_n 1, 1) := o_27 BX11_arrives rfl rfl
theorem dX11_arrives_5 : decode cX11_arrives 5 = .ok (.invokevirtual 220, 3) := o_182 BX11_arrives rfl rfl rfl
theorem dX11_arrives_8 : decode cX11_arrives 8 = .ok (.ifCond .ne 5, 3) := o_154 BX11_arrives rfl rfl rfl
theorem dX11_arrives_11 : decode cX11_arrives 11 = .ok (.iconst (-1), 1) := o_2 BX11_arrives rfl rfl
theorem dX11_arrives_12 : decode cX11_arrives 12 = .ok (.ireturn, 1) := o_172 BX11_arrives rfl rfl
theorem dX11_arrives_13 : decode cX11_arrives 13 = .ok (.aload_n 0, 1) := o_42 BX11_arrives rfl rfl
theorem dX11_arrives_14 : decode cX11_arrives 14 = .ok (.getfield 30, 3) := o_180 BX11_arrives rfl rfl rfl
theorem dX11_arrives_17 : decode cX11_arrives 17 = .ok (.aload_n 0, 1) := o_42 BX11_arrives rfl rfl
theorem dX11_arrives_18 : decode cX11_arrives 18 = .ok (.getfield 26, 3) := o_180 BX11_arrives rfl rfl rfl
theorem dX11_arrives_21 : decode cX11_arrives 21 = .ok (.invokevirtual 153, 3) := o_182 BX11_arrives rfl rfl rfl
theorem dX11_arrives_24 : decode cX11_arrives 24 = .ok (.iconst 0, 1) := o_3 BX11_arrives rfl rfl
theorem dX11_arrives_25 : decode cX11_arrives 25 = .ok (.istore_n 2, 1) := o_61 BX11_arrives rfl rfl
theorem dX11_arrives_26 : decode cX11_arrives 26 = .ok (.iload_n 2, 1) := o_28 BX11_arrives rfl rfl
theorem dX11_arrives_27 : decode cX11_arrives 27 = .ok (.sipush 200, 3) := o_17 BX11_arrives rfl rfl rfl
theorem dX11_arrives_30 : decode cX11_arrives 30 = .ok (.if_icmp .ge 35, 3) := o_162 BX11_arrives rfl rfl rfl
theorem dX11_arrives_33 : decode cX11_arrives 33 = .ok (.aload_n 0, 1) := o_42 BX11_arrives rfl rfl
theorem dX11_arrives_34 : decode cX11_arrives 34 = .ok (.getfield 30, 3) := o_180 BX11_arrives rfl rfl rfl
theorem dX11_arrives_37 : decode cX11_arrives 37 = .ok (.iload_n 1, 1) := o_27 BX11_arrives rfl rfl
theorem dX11_arrives_38 : decode cX11_arrives 38 = .ok (.invokevirtual 255, 3) := o_182 BX11_arrives rfl rfl rfl
theorem dX11_arrives_41 : decode cX11_arrives 41 = .ok (.ifCond .ne 24, 3) := o_154 BX11_arrives rfl rfl rfl
theorem dX11_arrives_44 : decode cX11_arrives 44 = .ok (.aload_n 0, 1) := o_42 BX11_arrives rfl rfl
theorem dX11_arrives_45 : decode cX11_arrives 45 = .ok (.getfield 44, 3) := o_180 BX11_arrives rfl rfl rfl
theorem dX11_arrives_48 : decode cX11_arrives 48 = .ok (.aload_n 0, 1) := o_42 BX11_arrives rfl rfl
theorem dX11_arrives_49 : decode cX11_arrives 49 = .ok (.getfield 30, 3) := o_180 BX11_arrives rfl rfl rfl
theorem dX11_arrives_52 : decode cX11_arrives 52 = .ok (.aload_n 0, 1) := o_42 BX11_arrives rfl rfl
theorem dX11_arrives_53 : decode cX11_arrives 53 = .ok (.getfield 105, 3) := o_180 BX11_arrives rfl rfl rfl
theorem dX11_arrives_56 : decode cX11_arrives 56 = .ok (.invokevirtual 362, 3) := o_182 BX11_arrives rfl rfl rfl
theorem dX11_arrives_59 : decode cX11_arrives 59 = .ok (.iinc 2 1, 3) := o_132 BX11_arrives rfl rfl rfl rfl
theorem dX11_arrives_62 : decode cX11_arrives 62 = .ok (.goto (-36), 3) := o_167 BX11_arrives rfl rfl rfl
theorem dX11_arrives_65 : decode cX11_arrives 65 = .ok (.aload_n 0, 1) := o_42 BX11_arrives rfl rfl
theorem dX11_arrives_66 : decode cX11_arrives 66 = .ok (.getfield 30, 3) := o_180 BX11_arrives rfl rfl rfl
theorem dX11_arrives_69 : decode cX11_arrives 69 = .ok (.iload_n 1, 1) := o_27 BX11_arrives rfl rfl
theorem dX11_arrives_70 : decode cX11_arrives 70 = .ok (.invokevirtual 255, 3) := o_182 BX11_arrives rfl rfl rfl
theorem dX11_arrives_73 : decode cX11_arrives 73 = .ok (.ifCond .ne 6, 3) := o_154 BX11_arrives rfl rfl rfl
theorem dX11_arrives_76 : decode cX11_arrives 76 = .ok (.bipush (-2), 2) := o_16 BX11_arrives rfl rfl rfl
theorem dX11_arrives_78 : decode cX11_arrives 78 = .ok (.ireturn, 1) := o_172 BX11_arrives rfl rfl
theorem dX11_arrives_79 : decode cX11_arrives 79 = .ok (.aload_n 0, 1) := o_42 BX11_arrives rfl rfl
theorem dX11_arrives_80 : decode cX11_arrives 80 = .ok (.getfield 66, 3) := o_180 BX11_arrives rfl rfl rfl
theorem dX11_arrives_83 : decode cX11_arrives 83 = .ok (.aload_n 0, 1) := o_42 BX11_arrives rfl rfl
theorem dX11_arrives_84 : decode cX11_arrives 84 = .ok (.getfield 30, 3) := o_180 BX11_arrives rfl rfl rfl
theorem dX11_arrives_87 : decode cX11_arrives 87 = .ok (.getfield 234, 3) := o_180 BX11_arrives rfl rfl rfl
theorem dX11_arrives_90 : decode cX11_arrives 90 = .ok (.iload_n 1, 1) := o_27 BX11_arrives rfl rfl
theorem dX11_arrives_91 : decode cX11_arrives 91 = .ok (.iaload, 1) := o_46 BX11_arrives rfl rfl
theorem dX11_arrives_92 : decode cX11_arrives 92 = .ok (.i2l, 1) := o_133 BX11_arrives rfl rfl
theorem dX11_arrives_93 : decode cX11_arrives 93 = .ok (.invokevirtual 366, 3) := o_182 BX11_arrives rfl rfl rfl
theorem dX11_arrives_96 : decode cX11_arrives 96 = .ok (.iload_n 2, 1) := o_28 BX11_arrives rfl rfl
theorem dX11_arrives_97 : decode cX11_arrives 97 = .ok (.ireturn, 1) := o_172 BX11_arrives rfl rfl
theorem dX11_jam_0 : decode cX11_jam 0 = .ok (.iload_n 1, 1) := o_27 BX11_jam rfl rfl
theorem dX11_jam_1 : decode cX11_jam 1 = .ok (.iconst 1, 1) := o_4 BX11_jam rfl rfl
theorem dX11_jam_2 : decode cX11_jam 2 = .ok (.if_icmp .lt 9, 3) := o_161 BX11_jam rfl rfl rfl
theorem dX11_jam_5 : decode cX11_jam 5 = .ok (.iload_n 1, 1) := o_27 BX11_jam rfl rfl
theorem dX11_jam_6 : decode cX11_jam 6 = .ok (.bipush 60, 2) := o_16 BX11_jam rfl rfl rfl
theorem dX11_jam_8 : decode cX11_jam 8 = .ok (.if_icmp .le 5, 3) := o_164 BX11_jam rfl rfl rfl
theorem dX11_jam_11 : decode cX11_jam 11 = .ok (.iconst (-1), 1) := o_2 BX11_jam rfl rfl
theorem dX11_jam_12 : decode cX11_jam 12 = .ok (.ireturn, 1) := o_172 BX11_jam rfl rfl
theorem dX11_jam_13 : decode cX11_jam 13 = .ok (.aload_n 0, 1) := o_42 BX11_jam rfl rfl
theorem dX11_jam_14 : decode cX11_jam 14 = .ok (.getfield 30, 3) := o_180 BX11_jam rfl rfl rfl
theorem dX11_jam_17 : decode cX11_jam 17 = .ok (.aload_n 0, 1) := o_42 BX11_jam rfl rfl
theorem dX11_jam_18 : decode cX11_jam 18 = .ok (.getfield 26, 3) := o_180 BX11_jam rfl rfl rfl
theorem dX11_jam_21 : decode cX11_jam 21 = .ok (.invokevirtual 153, 3) := o_182 BX11_jam rfl rfl rfl
theorem dX11_jam_24 : decode cX11_jam 24 = .ok (.aload_n 0, 1) := o_42 BX11_jam rfl rfl
theorem dX11_jam_25 : decode cX11_jam 25 = .ok (.getfield 44, 3) := o_180 BX11_jam rfl rfl rfl
theorem dX11_jam_28 : decode cX11_jam 28 = .ok (.aload_n 0, 1) := o_42 BX11_jam rfl rfl
theorem dX11_jam_29 : decode cX11_jam 29 = .ok (.getfield 30, 3) := o_180 BX11_jam rfl rfl rfl
theorem dX11_jam_32 : decode cX11_jam 32 = .ok (.aload_n 0, 1) := o_42 BX11_jam rfl rfl
theorem dX11_jam_33 : decode cX11_jam 33 = .ok (.getfield 105, 3) := o_180 BX11_jam rfl rfl rfl
theorem dX11_jam_36 : decode cX11_jam 36 = .ok (.iload_n 1, 1) := o_27 BX11_jam rfl rfl
theorem dX11_jam_37 : decode cX11_jam 37 = .ok (.invokevirtual 288, 3) := o_182 BX11_jam rfl rfl rfl
theorem dX11_jam_40 : decode cX11_jam 40 = .ok (.iconst 0, 1) := o_3 BX11_jam rfl rfl
theorem dX11_jam_41 : decode cX11_jam 41 = .ok (.istore_n 2, 1) := o_61 BX11_jam rfl rfl
theorem dX11_jam_42 : decode cX11_jam 42 = .ok (.iconst 1, 1) := o_4 BX11_jam rfl rfl
theorem dX11_jam_43 : decode cX11_jam 43 = .ok (.istore_n 3, 1) := o_62 BX11_jam rfl rfl
theorem dX11_jam_44 : decode cX11_jam 44 = .ok (.iload_n 3, 1) := o_29 BX11_jam rfl rfl
theorem dX11_jam_45 : decode cX11_jam 45 = .ok (.aload_n 0, 1) := o_42 BX11_jam rfl rfl
theorem dX11_jam_46 : decode cX11_jam 46 = .ok (.getfield 19, 3) := o_180 BX11_jam rfl rfl rfl
theorem dX11_jam_49 : decode cX11_jam 49 = .ok (.getfield 350, 3) := o_180 BX11_jam rfl rfl rfl
theorem dX11_jam_52 : decode cX11_jam 52 = .ok (.if_icmp .ge 32, 3) := o_162 BX11_jam rfl rfl rfl
theorem dX11_jam_55 : decode cX11_jam 55 = .ok (.aload_n 0, 1) := o_42 BX11_jam rfl rfl
theorem dX11_jam_56 : decode cX11_jam 56 = .ok (.getfield 44, 3) := o_180 BX11_jam rfl rfl rfl
theorem dX11_jam_59 : decode cX11_jam 59 = .ok (.getfield 369, 3) := o_180 BX11_jam rfl rfl rfl
theorem dX11_jam_62 : decode cX11_jam 62 = .ok (.iload_n 3, 1) := o_29 BX11_jam rfl rfl
theorem dX11_jam_63 : decode cX11_jam 63 = .ok (.iaload, 1) := o_46 BX11_jam rfl rfl
theorem dX11_jam_64 : decode cX11_jam 64 = .ok (.aload_n 0, 1) := o_42 BX11_jam rfl rfl
theorem dX11_jam_65 : decode cX11_jam 65 = .ok (.getfield 44, 3) := o_180 BX11_jam rfl rfl rfl
theorem dX11_jam_68 : decode cX11_jam 68 = .ok (.getfield 369, 3) := o_180 BX11_jam rfl rfl rfl
theorem dX11_jam_71 : decode cX11_jam 71 = .ok (.iload_n 2, 1) := o_28 BX11_jam rfl rfl
theorem dX11_jam_72 : decode cX11_jam 72 = .ok (.iaload, 1) := o_46 BX11_jam rfl rfl
theorem dX11_jam_73 : decode cX11_jam 73 = .ok (.if_icmp .le 5, 3) := o_164 BX11_jam rfl rfl rfl
theorem dX11_jam_76 : decode cX11_jam 76 = .ok (.iload_n 3, 1) := o_29 BX11_jam rfl rfl
theorem dX11_jam_77 : decode cX11_jam 77 = .ok (.istore_n 2, 1) := o_61 BX11_jam rfl rfl
theorem dX11_jam_78 : decode cX11_jam 78 = .ok (.iinc 3 1, 3) := o_132 BX11_jam rfl rfl rfl rfl
theorem dX11_jam_81 : decode cX11_jam 81 = .ok (.goto (-37), 3) := o_167 BX11_jam rfl rfl rfl
theorem dX11_jam_84 : decode cX11_jam 84 = .ok (.aload_n 0, 1) := o_42 BX11_jam rfl rfl
theorem dX11_jam_85 : decode cX11_jam 85 = .ok (.getfield 66, 3) := o_180 BX11_jam rfl rfl rfl
theorem dX11_jam_88 : decode cX11_jam 88 = .ok (.aload_n 0, 1) := o_42 BX11_jam rfl rfl
theorem dX11_jam_89 : decode cX11_jam 89 = .ok (.getfield 44, 3) := o_180 BX11_jam rfl rfl rfl
theorem dX11_jam_92 : decode cX11_jam 92 = .ok (.getfield 369, 3) := o_180 BX11_jam rfl rfl rfl
theorem dX11_jam_95 : decode cX11_jam 95 = .ok (.iload_n 2, 1) := o_28 BX11_jam rfl rfl
theorem dX11_jam_96 : decode cX11_jam 96 = .ok (.iaload, 1) := o_46 BX11_jam rfl rfl
theorem dX11_jam_97 : decode cX11_jam 97 = .ok (.i2l, 1) := o_133 BX11_jam rfl rfl
theorem dX11_jam_98 : decode cX11_jam 98 = .ok (.aload_n 0, 1) := o_42 BX11_jam rfl rfl
theorem dX11_jam_99 : decode cX11_jam 99 = .ok (.getfield 44, 3) := o_180 BX11_jam rfl rfl rfl
theorem dX11_jam_102 : decode cX11_jam 102 = .ok (.getfield 292, 3) := o_180 BX11_jam rfl rfl rfl
theorem dX11_jam_105 : decode cX11_jam 105 = .ok (.i2l, 1) := o_133 BX11_jam rfl rfl
theorem dX11_jam_106 : decode cX11_jam 106 = .ok (.invokevirtual 298, 3) := o_182 BX11_jam rfl rfl rfl
theorem dX11_jam_109 : decode cX11_jam 109 = .ok (.iload_n 2, 1) := o_28 BX11_jam rfl rfl
theorem dX11_jam_110 : decode cX11_jam 110 = .ok (.ireturn, 1) := o_172 BX11_jam rfl rfl
theorem dX11_passes_0 : decode cX11_passes 0 = .ok (.aload_n 0, 1) := o_42 BX11_passes rfl rfl
theorem dX11_passes_1 : decode cX11_passes 1 = .ok (.getfield 26, 3) := o_180 BX11_passes rfl rfl rfl
theorem dX11_passes_4 : decode cX11_passes 4 = .ok (.iload_n 1, 1) := o_27 BX11_passes rfl rfl
theorem dX11_passes_5 : decode cX11_passes 5 = .ok (.invokevirtual 220, 3) := o_182 BX11_passes rfl rfl rfl
theorem dX11_passes_8 : decode cX11_passes 8 = .ok (.ifCond .eq 19, 3) := o_153 BX11_passes rfl rfl rfl
theorem dX11_passes_11 : decode cX11_passes 11 = .ok (.aload_n 0, 1) := o_42 BX11_passes rfl rfl
theorem dX11_passes_12 : decode cX11_passes 12 = .ok (.getfield 26, 3) := o_180 BX11_passes rfl rfl rfl
theorem dX11_passes_15 : decode cX11_passes 15 = .ok (.iload_n 2, 1) := o_28 BX11_passes rfl rfl
theorem dX11_passes_16 : decode cX11_passes 16 = .ok (.invokevirtual 220, 3) := o_182 BX11_passes rfl rfl rfl
theorem dX11_passes_19 : decode cX11_passes 19 = .ok (.ifCond .eq 8, 3) := o_153 BX11_passes rfl rfl rfl
theorem dX11_passes_22 : decode cX11_passes 22 = .ok (.iload_n 1, 1) := o_27 BX11_passes rfl rfl
theorem dX11_passes_23 : decode cX11_passes 23 = .ok (.iload_n 2, 1) := o_28 BX11_passes rfl rfl
theorem dX11_passes_24 : decode cX11_passes 24 = .ok (.if_icmp .ne 5, 3) := o_160 BX11_passes rfl rfl rfl
theorem dX11_passes_27 : decode cX11_passes 27 = .ok (.iconst (-1), 1) := o_2 BX11_passes rfl rfl
theorem dX11_passes_28 : decode cX11_passes 28 = .ok (.ireturn, 1) := o_172 BX11_passes rfl rfl
theorem dX11_passes_29 : decode cX11_passes 29 = .ok (.aload_n 0, 1) := o_42 BX11_passes rfl rfl
theorem dX11_passes_30 : decode cX11_passes 30 = .ok (.getfield 26, 3) := o_180 BX11_passes rfl rfl rfl
theorem dX11_passes_33 : decode cX11_passes 33 = .ok (.iload_n 1, 1) := o_27 BX11_passes rfl rfl
theorem dX11_passes_34 : decode cX11_passes 34 = .ok (.invokevirtual 255, 3) := o_182 BX11_passes rfl rfl rfl
theorem dX11_passes_37 : decode cX11_passes 37 = .ok (.ifCond .ne 35, 3) := o_154 BX11_passes rfl rfl rfl
theorem dX11_passes_40 : decode cX11_passes 40 = .ok (.aload_n 0, 1) := o_42 BX11_passes rfl rfl
theorem dX11_passes_41 : decode cX11_passes 41 = .ok (.getfield 26, 3) := o_180 BX11_passes rfl rfl rfl
theorem dX11_passes_44 : decode cX11_passes 44 = .ok (.iload_n 2, 1) := o_28 BX11_passes rfl rfl
theorem dX11_passes_45 : decode cX11_passes 45 = .ok (.invokevirtual 255, 3) := o_182 BX11_passes rfl rfl rfl
theorem dX11_passes_48 : decode cX11_passes 48 = .ok (.ifCond .ne 24, 3) := o_154 BX11_passes rfl rfl rfl
theorem dX11_passes_51 : decode cX11_passes 51 = .ok (.aload_n 0, 1) := o_42 BX11_passes rfl rfl
theorem dX11_passes_52 : decode cX11_passes 52 = .ok (.getfield 26, 3) := o_180 BX11_passes rfl rfl rfl
theorem dX11_passes_55 : decode cX11_passes 55 = .ok (.getfield 230, 3) := o_180 BX11_passes rfl rfl rfl
theorem dX11_passes_58 : decode cX11_passes 58 = .ok (.iload_n 1, 1) := o_27 BX11_passes rfl rfl
theorem dX11_passes_59 : decode cX11_passes 59 = .ok (.iaload, 1) := o_46 BX11_passes rfl rfl
theorem dX11_passes_60 : decode cX11_passes 60 = .ok (.aload_n 0, 1) := o_42 BX11_passes rfl rfl
theorem dX11_passes_61 : decode cX11_passes 61 = .ok (.getfield 26, 3) := o_180 BX11_passes rfl rfl rfl
theorem dX11_passes_64 : decode cX11_passes 64 = .ok (.getfield 230, 3) := o_180 BX11_passes rfl rfl rfl
theorem dX11_passes_67 : decode cX11_passes 67 = .ok (.iload_n 2, 1) := o_28 BX11_passes rfl rfl
theorem dX11_passes_68 : decode cX11_passes 68 = .ok (.iaload, 1) := o_46 BX11_passes rfl rfl
theorem dX11_passes_69 : decode cX11_passes 69 = .ok (.if_icmp .le 6, 3) := o_164 BX11_passes rfl rfl rfl
theorem dX11_passes_72 : decode cX11_passes 72 = .ok (.bipush (-2), 2) := o_16 BX11_passes rfl rfl rfl
theorem dX11_passes_74 : decode cX11_passes 74 = .ok (.ireturn, 1) := o_172 BX11_passes rfl rfl
theorem dX11_passes_75 : decode cX11_passes 75 = .ok (.aload_n 0, 1) := o_42 BX11_passes rfl rfl
theorem dX11_passes_76 : decode cX11_passes 76 = .ok (.getfield 30, 3) := o_180 BX11_passes rfl rfl rfl
theorem dX11_passes_79 : decode cX11_passes 79 = .ok (.aload_n 0, 1) := o_42 BX11_passes rfl rfl
theorem dX11_passes_80 : decode cX11_passes 80 = .ok (.getfield 26, 3) := o_180 BX11_passes rfl rfl rfl
theorem dX11_passes_83 : decode cX11_passes 83 = .ok (.invokevirtual 153, 3) := o_182 BX11_passes rfl rfl rfl
theorem dX11_passes_86 : decode cX11_passes 86 = .ok (.iconst 1, 1) := o_4 BX11_passes rfl rfl
theorem dX11_passes_87 : decode cX11_passes 87 = .ok (.istore_n 3, 1) := o_62 BX11_passes rfl rfl
theorem dX11_passes_88 : decode cX11_passes 88 = .ok (.iload_n 3, 1) := o_29 BX11_passes rfl rfl
theorem dX11_passes_89 : decode cX11_passes 89 = .ok (.bipush 60, 2) := o_16 BX11_passes rfl rfl rfl
theorem dX11_passes_91 : decode cX11_passes 91 = .ok (.if_icmp .gt 55, 3) := o_163 BX11_passes rfl rfl rfl
theorem dX11_passes_94 : decode cX11_passes 94 = .ok (.aload_n 0, 1) := o_42 BX11_passes rfl rfl
theorem dX11_passes_95 : decode cX11_passes 95 = .ok (.getfield 44, 3) := o_180 BX11_passes rfl rfl rfl
theorem dX11_passes_98 : decode cX11_passes 98 = .ok (.aload_n 0, 1) := o_42 BX11_passes rfl rfl
theorem dX11_passes_99 : decode cX11_passes 99 = .ok (.getfield 30, 3) := o_180 BX11_passes rfl rfl rfl
theorem dX11_passes_102 : decode cX11_passes 102 = .ok (.aload_n 0, 1) := o_42 BX11_passes rfl rfl
theorem dX11_passes_103 : decode cX11_passes 103 = .ok (.getfield 105, 3) := o_180 BX11_passes rfl rfl rfl
theorem dX11_passes_106 : decode cX11_passes 106 = .ok (.invokevirtual 362, 3) := o_182 BX11_passes rfl rfl rfl
theorem dX11_passes_109 : decode cX11_passes 109 = .ok (.aload_n 0, 1) := o_42 BX11_passes rfl rfl
theorem dX11_passes_110 : decode cX11_passes 110 = .ok (.getfield 30, 3) := o_180 BX11_passes rfl rfl rfl
theorem dX11_passes_113 : decode cX11_passes 113 = .ok (.iload_n 1, 1) := o_27 BX11_passes rfl rfl
theorem dX11_passes_114 : decode cX11_passes 114 = .ok (.iload_n 2, 1) := o_28 BX11_passes rfl rfl
theorem dX11_passes_115 : decode cX11_passes 115 = .ok (.invokevirtual 372, 3) := o_182 BX11_passes rfl rfl rfl
theorem dX11_passes_118 : decode cX11_passes 118 = .ok (.ifCond .eq 22, 3) := o_153 BX11_passes rfl rfl rfl
theorem dX11_passes_121 : decode cX11_passes 121 = .ok (.aload_n 0, 1) := o_42 BX11_passes rfl rfl
theorem dX11_passes_122 : decode cX11_passes 122 = .ok (.getfield 66, 3) := o_180 BX11_passes rfl rfl rfl
theorem dX11_passes_125 : decode cX11_passes 125 = .ok (.aload_n 0, 1) := o_42 BX11_passes rfl rfl
theorem dX11_passes_126 : decode cX11_passes 126 = .ok (.getfield 30, 3) := o_180 BX11_passes rfl rfl rfl
theorem dX11_passes_129 : decode cX11_passes 129 = .ok (.getfield 230, 3) := o_180 BX11_passes rfl rfl rfl
theorem dX11_passes_132 : decode cX11_passes 132 = .ok (.iload_n 1, 1) := o_27 BX11_passes rfl rfl
theorem dX11_passes_133 : decode cX11_passes 133 = .ok (.iaload, 1) := o_46 BX11_passes rfl rfl
theorem dX11_passes_134 : decode cX11_passes 134 = .ok (.i2l, 1) := o_133 BX11_passes rfl rfl
theorem dX11_passes_135 : decode cX11_passes 135 = .ok (.invokevirtual 366, 3) := o_182 BX11_passes rfl rfl rfl
theorem dX11_passes_138 : decode cX11_passes 138 = .ok (.iload_n 3, 1) := o_29 BX11_passes rfl rfl
theorem dX11_passes_139 : decode cX11_passes 139 = .ok (.ireturn, 1) := o_172 BX11_passes rfl rfl
theorem dX11_passes_140 : decode cX11_passes 140 = .ok (.iinc 3 1, 3) := o_132 BX11_passes rfl rfl rfl rfl
theorem dX11_passes_143 : decode cX11_passes 143 = .ok (.goto (-55), 3) := o_167 BX11_passes rfl rfl rfl
theorem dX11_passes_146 : decode cX11_passes 146 = .ok (.bipush (-2), 2) := o_16 BX11_passes rfl rfl rfl
theorem dX11_passes_148 : decode cX11_passes 148 = .ok (.ireturn, 1) := o_172 BX11_passes rfl rfl
theorem dX11_ends_0 : decode cX11_ends 0 = .ok (.aload_n 0, 1) := o_42 BX11_ends rfl rfl
theorem dX11_ends_1 : decode cX11_ends 1 = .ok (.getfield 26, 3) := o_180 BX11_ends rfl rfl rfl
theorem dX11_ends_4 : decode cX11_ends 4 = .ok (.iload_n 1, 1) := o_27 BX11_ends rfl rfl
theorem dX11_ends_5 : decode cX11_ends 5 = .ok (.invokevirtual 265, 3) := o_182 BX11_ends rfl rfl rfl
theorem dX11_ends_8 : decode cX11_ends 8 = .ok (.ifCond .ne 5, 3) := o_154 BX11_ends rfl rfl rfl
theorem dX11_ends_11 : decode cX11_ends 11 = .ok (.iconst (-1), 1) := o_2 BX11_ends rfl rfl
theorem dX11_ends_12 : decode cX11_ends 12 = .ok (.ireturn, 1) := o_172 BX11_ends rfl rfl
theorem dX11_ends_13 : decode cX11_ends 13 = .ok (.aload_n 0, 1) := o_42 BX11_ends rfl rfl
theorem dX11_ends_14 : decode cX11_ends 14 = .ok (.getfield 30, 3) := o_180 BX11_ends rfl rfl rfl
theorem dX11_ends_17 : decode cX11_ends 17 = .ok (.aload_n 0, 1) := o_42 BX11_ends rfl rfl
theorem dX11_ends_18 : decode cX11_ends 18 = .ok (.getfield 26, 3) := o_180 BX11_ends rfl rfl rfl
theorem dX11_ends_21 : decode cX11_ends 21 = .ok (.invokevirtual 153, 3) := o_182 BX11_ends rfl rfl rfl
theorem dX11_ends_24 : decode cX11_ends 24 = .ok (.aload_n 0, 1) := o_42 BX11_ends rfl rfl
theorem dX11_ends_25 : decode cX11_ends 25 = .ok (.getfield 44, 3) := o_180 BX11_ends rfl rfl rfl
theorem dX11_ends_28 : decode cX11_ends 28 = .ok (.invokevirtual 376, 3) := o_182 BX11_ends rfl rfl rfl
theorem dX11_ends_31 : decode cX11_ends 31 = .ok (.iconst 0, 1) := o_3 BX11_ends rfl rfl
theorem dX11_ends_32 : decode cX11_ends 32 = .ok (.istore_n 2, 1) := o_61 BX11_ends rfl rfl
theorem dX11_ends_33 : decode cX11_ends 33 = .ok (.iload_n 2, 1) := o_28 BX11_ends rfl rfl
theorem dX11_ends_34 : decode cX11_ends 34 = .ok (.sipush 200, 3) := o_17 BX11_ends rfl rfl rfl
theorem dX11_ends_37 : decode cX11_ends 37 = .ok (.if_icmp .ge 35, 3) := o_162 BX11_ends rfl rfl rfl
theorem dX11_ends_40 : decode cX11_ends 40 = .ok (.aload_n 0, 1) := o_42 BX11_ends rfl rfl
theorem dX11_ends_41 : decode cX11_ends 41 = .ok (.getfield 30, 3) := o_180 BX11_ends rfl rfl rfl
theorem dX11_ends_44 : decode cX11_ends 44 = .ok (.iload_n 1, 1) := o_27 BX11_ends rfl rfl
theorem dX11_ends_45 : decode cX11_ends 45 = .ok (.invokevirtual 278, 3) := o_182 BX11_ends rfl rfl rfl
theorem dX11_ends_48 : decode cX11_ends 48 = .ok (.ifCond .ne 24, 3) := o_154 BX11_ends rfl rfl rfl
theorem dX11_ends_51 : decode cX11_ends 51 = .ok (.aload_n 0, 1) := o_42 BX11_ends rfl rfl
theorem dX11_ends_52 : decode cX11_ends 52 = .ok (.getfield 44, 3) := o_180 BX11_ends rfl rfl rfl
theorem dX11_ends_55 : decode cX11_ends 55 = .ok (.aload_n 0, 1) := o_42 BX11_ends rfl rfl
theorem dX11_ends_56 : decode cX11_ends 56 = .ok (.getfield 30, 3) := o_180 BX11_ends rfl rfl rfl
theorem dX11_ends_59 : decode cX11_ends 59 = .ok (.aload_n 0, 1) := o_42 BX11_ends rfl rfl
theorem dX11_ends_60 : decode cX11_ends 60 = .ok (.getfield 105, 3) := o_180 BX11_ends rfl rfl rfl
theorem dX11_ends_63 : decode cX11_ends 63 = .ok (.invokevirtual 362, 3) := o_182 BX11_ends rfl rfl rfl
theorem dX11_ends_66 : decode cX11_ends 66 = .ok (.iinc 2 1, 3) := o_132 BX11_ends rfl rfl rfl rfl
theorem dX11_ends_69 : decode cX11_ends 69 = .ok (.goto (-36), 3) := o_167 BX11_ends rfl rfl rfl
theorem dX11_ends_72 : decode cX11_ends 72 = .ok (.aload_n 0, 1) := o_42 BX11_ends rfl rfl
theorem dX11_ends_73 : decode cX11_ends 73 = .ok (.getfield 30, 3) := o_180 BX11_ends rfl rfl rfl
theorem dX11_ends_76 : decode cX11_ends 76 = .ok (.iload_n 1, 1) := o_27 BX11_ends rfl rfl
theorem dX11_ends_77 : decode cX11_ends 77 = .ok (.invokevirtual 278, 3) := o_182 BX11_ends rfl rfl rfl
theorem dX11_ends_80 : decode cX11_ends 80 = .ok (.ifCond .ne 6, 3) := o_154 BX11_ends rfl rfl rfl
theorem dX11_ends_83 : decode cX11_ends 83 = .ok (.bipush (-2), 2) := o_16 BX11_ends rfl rfl rfl
theorem dX11_ends_85 : decode cX11_ends 85 = .ok (.ireturn, 1) := o_172 BX11_ends rfl rfl
theorem dX11_ends_86 : decode cX11_ends 86 = .ok (.aload_n 0, 1) := o_42 BX11_ends rfl rfl
theorem dX11_ends_87 : decode cX11_ends 87 = .ok (.getfield 66, 3) := o_180 BX11_ends rfl rfl rfl
theorem dX11_ends_90 : decode cX11_ends 90 = .ok (.iload_n 2, 1) := o_28 BX11_ends rfl rfl
theorem dX11_ends_91 : decode cX11_ends 91 = .ok (.i2l, 1) := o_133 BX11_ends rfl rfl
theorem dX11_ends_92 : decode cX11_ends 92 = .ok (.aload_n 0, 1) := o_42 BX11_ends rfl rfl
theorem dX11_ends_93 : decode cX11_ends 93 = .ok (.getfield 44, 3) := o_180 BX11_ends rfl rfl rfl
theorem dX11_ends_96 : decode cX11_ends 96 = .ok (.getfield 379, 3) := o_180 BX11_ends rfl rfl rfl
theorem dX11_ends_99 : decode cX11_ends 99 = .ok (.iload_n 1, 1) := o_27 BX11_ends rfl rfl
theorem dX11_ends_100 : decode cX11_ends 100 = .ok (.iaload, 1) := o_46 BX11_ends rfl rfl
theorem dX11_ends_101 : decode cX11_ends 101 = .ok (.i2l, 1) := o_133 BX11_ends rfl rfl
theorem dX11_ends_102 : decode cX11_ends 102 = .ok (.invokevirtual 298, 3) := o_182 BX11_ends rfl rfl rfl
theorem dX11_ends_105 : decode cX11_ends 105 = .ok (.aload_n 0, 1) := o_42 BX11_ends rfl rfl
theorem dX11_ends_106 : decode cX11_ends 106 = .ok (.getfield 30, 3) := o_180 BX11_ends rfl rfl rfl
theorem dX11_ends_109 : decode cX11_ends 109 = .ok (.getfield 247, 3) := o_180 BX11_ends rfl rfl rfl
theorem dX11_ends_112 : decode cX11_ends 112 = .ok (.iload_n 1, 1) := o_27 BX11_ends rfl rfl
theorem dX11_ends_113 : decode cX11_ends 113 = .ok (.iaload, 1) := o_46 BX11_ends rfl rfl
theorem dX11_ends_114 : decode cX11_ends 114 = .ok (.ireturn, 1) := o_172 BX11_ends rfl rfl
theorem dX11_right_0 : decode cX11_right 0 = .ok (.aload_n 0, 1) := o_42 BX11_right rfl rfl
theorem dX11_right_1 : decode cX11_right 1 = .ok (.getfield 30, 3) := o_180 BX11_right rfl rfl rfl
theorem dX11_right_4 : decode cX11_right 4 = .ok (.aload_n 0, 1) := o_42 BX11_right rfl rfl
theorem dX11_right_5 : decode cX11_right 5 = .ok (.getfield 26, 3) := o_180 BX11_right rfl rfl rfl
theorem dX11_right_8 : decode cX11_right 8 = .ok (.invokevirtual 153, 3) := o_182 BX11_right rfl rfl rfl
theorem dX11_right_11 : decode cX11_right 11 = .ok (.aload_n 0, 1) := o_42 BX11_right rfl rfl
theorem dX11_right_12 : decode cX11_right 12 = .ok (.aload_n 0, 1) := o_42 BX11_right rfl rfl
theorem dX11_right_13 : decode cX11_right 13 = .ok (.getfield 105, 3) := o_180 BX11_right rfl rfl rfl
theorem dX11_right_16 : decode cX11_right 16 = .ok (.invokevirtual 382, 3) := o_182 BX11_right rfl rfl rfl
theorem dX11_right_19 : decode cX11_right 19 = .ok (.istore_n 1, 1) := o_60 BX11_right rfl rfl
theorem dX11_right_20 : decode cX11_right 20 = .ok (.aload_n 0, 1) := o_42 BX11_right rfl rfl
theorem dX11_right_21 : decode cX11_right 21 = .ok (.getfield 66, 3) := o_180 BX11_right rfl rfl rfl
theorem dX11_right_24 : decode cX11_right 24 = .ok (.iload_n 1, 1) := o_27 BX11_right rfl rfl
theorem dX11_right_25 : decode cX11_right 25 = .ok (.i2l, 1) := o_133 BX11_right rfl rfl
theorem dX11_right_26 : decode cX11_right 26 = .ok (.aload_n 0, 1) := o_42 BX11_right rfl rfl
theorem dX11_right_27 : decode cX11_right 27 = .ok (.getfield 30, 3) := o_180 BX11_right rfl rfl rfl
theorem dX11_right_30 : decode cX11_right 30 = .ok (.invokevirtual 386, 3) := o_182 BX11_right rfl rfl rfl
theorem dX11_right_33 : decode cX11_right 33 = .ok (.i2l, 1) := o_133 BX11_right rfl rfl
theorem dX11_right_34 : decode cX11_right 34 = .ok (.invokevirtual 298, 3) := o_182 BX11_right rfl rfl rfl
theorem dX11_right_37 : decode cX11_right 37 = .ok (.iload_n 1, 1) := o_27 BX11_right rfl rfl
theorem dX11_right_38 : decode cX11_right 38 = .ok (.invokestatic 389, 3) := o_184 BX11_right rfl rfl rfl
theorem dX11_right_41 : decode cX11_right 41 = .ok (.ireturn, 1) := o_172 BX11_right rfl rfl
theorem dX11_rightOnesOfTrial_0 : decode cX11_rightOnesOfTrial 0 = .ok (.aload_n 0, 1) := o_42 BX11_rightOnesOfTrial rfl rfl
theorem dX11_rightOnesOfTrial_1 : decode cX11_rightOnesOfTrial 1 = .ok (.getfield 44, 3) := o_180 BX11_rightOnesOfTrial rfl rfl rfl
theorem dX11_rightOnesOfTrial_4 : decode cX11_rightOnesOfTrial 4 = .ok (.aload_n 0, 1) := o_42 BX11_rightOnesOfTrial rfl rfl
theorem dX11_rightOnesOfTrial_5 : decode cX11_rightOnesOfTrial 5 = .ok (.getfield 30, 3) := o_180 BX11_rightOnesOfTrial rfl rfl rfl
theorem dX11_rightOnesOfTrial_8 : decode cX11_rightOnesOfTrial 8 = .ok (.aload_n 1, 1) := o_43 BX11_rightOnesOfTrial rfl rfl
theorem dX11_rightOnesOfTrial_9 : decode cX11_rightOnesOfTrial 9 = .ok (.invokevirtual 394, 3) := o_182 BX11_rightOnesOfTrial rfl rfl rfl
theorem dX11_rightOnesOfTrial_12 : decode cX11_rightOnesOfTrial 12 = .ok (.aload_n 0, 1) := o_42 BX11_rightOnesOfTrial rfl rfl
theorem dX11_rightOnesOfTrial_13 : decode cX11_rightOnesOfTrial 13 = .ok (.getfield 30, 3) := o_180 BX11_rightOnesOfTrial rfl rfl rfl
theorem dX11_rightOnesOfTrial_16 : decode cX11_rightOnesOfTrial 16 = .ok (.invokevirtual 397, 3) := o_182 BX11_rightOnesOfTrial rfl rfl rfl
theorem dX11_rightOnesOfTrial_19 : decode cX11_rightOnesOfTrial 19 = .ok (.ireturn, 1) := o_172 BX11_rightOnesOfTrial rfl rfl
theorem dX11_order_0 : decode cX11_order 0 = .ok (.aload_n 0, 1) := o_42 BX11_order rfl rfl
theorem dX11_order_1 : decode cX11_order 1 = .ok (.getfield 80, 3) := o_180 BX11_order rfl rfl rfl
theorem dX11_order_4 : decode cX11_order 4 = .ok (.aload_n 0, 1) := o_42 BX11_order rfl rfl
theorem dX11_order_5 : decode cX11_order 5 = .ok (.getfield 26, 3) := o_180 BX11_order rfl rfl rfl
theorem dX11_order_8 : decode cX11_order 8 = .ok (.aload_n 0, 1) := o_42 BX11_order rfl rfl
theorem dX11_order_9 : decode cX11_order 9 = .ok (.getfield 19, 3) := o_180 BX11_order rfl rfl rfl
theorem dX11_order_12 : decode cX11_order 12 = .ok (.invokevirtual 400, 3) := o_182 BX11_order rfl rfl rfl
theorem dX11_order_15 : decode cX11_order 15 = .ok (.iconst (-1), 1) := o_2 BX11_order rfl rfl
theorem dX11_order_16 : decode cX11_order 16 = .ok (.istore_n 1, 1) := o_60 BX11_order rfl rfl
theorem dX11_order_17 : decode cX11_order 17 = .ok (.iconst 1, 1) := o_4 BX11_order rfl rfl
theorem dX11_order_18 : decode cX11_order 18 = .ok (.istore_n 2, 1) := o_61 BX11_order rfl rfl
theorem dX11_order_19 : decode cX11_order 19 = .ok (.iconst 0, 1) := o_3 BX11_order rfl rfl
theorem dX11_order_20 : decode cX11_order 20 = .ok (.istore_n 3, 1) := o_62 BX11_order rfl rfl
theorem dX11_order_21 : decode cX11_order 21 = .ok (.iload_n 3, 1) := o_29 BX11_order rfl rfl
theorem dX11_order_22 : decode cX11_order 22 = .ok (.sipush 720, 3) := o_17 BX11_order rfl rfl rfl
theorem dX11_order_25 : decode cX11_order 25 = .ok (.if_icmp .ge 86, 3) := o_162 BX11_order rfl rfl rfl
theorem dX11_order_28 : decode cX11_order 28 = .ok (.iload_n 2, 1) := o_28 BX11_order rfl rfl
theorem dX11_order_29 : decode cX11_order 29 = .ok (.ifCond .eq 82, 3) := o_153 BX11_order rfl rfl rfl
theorem dX11_order_32 : decode cX11_order 32 = .ok (.iload_n 1, 1) := o_27 BX11_order rfl rfl
theorem dX11_order_33 : decode cX11_order 33 = .ok (.aload_n 0, 1) := o_42 BX11_order rfl rfl
theorem dX11_order_34 : decode cX11_order 34 = .ok (.getfield 26, 3) := o_180 BX11_order rfl rfl rfl
theorem dX11_order_37 : decode cX11_order 37 = .ok (.getfield 191, 3) := o_180 BX11_order rfl rfl rfl
theorem dX11_order_40 : decode cX11_order 40 = .ok (.if_icmp .ge 71, 3) := o_162 BX11_order rfl rfl rfl
theorem dX11_order_43 : decode cX11_order 43 = .ok (.aload_n 0, 1) := o_42 BX11_order rfl rfl
theorem dX11_order_44 : decode cX11_order 44 = .ok (.getfield 30, 3) := o_180 BX11_order rfl rfl rfl
theorem dX11_order_47 : decode cX11_order 47 = .ok (.aload_n 0, 1) := o_42 BX11_order rfl rfl
theorem dX11_order_48 : decode cX11_order 48 = .ok (.getfield 26, 3) := o_180 BX11_order rfl rfl rfl
theorem dX11_order_51 : decode cX11_order 51 = .ok (.invokevirtual 153, 3) := o_182 BX11_order rfl rfl rfl
theorem dX11_order_54 : decode cX11_order 54 = .ok (.aload_n 0, 1) := o_42 BX11_order rfl rfl
theorem dX11_order_55 : decode cX11_order 55 = .ok (.getfield 30, 3) := o_180 BX11_order rfl rfl rfl
theorem dX11_order_58 : decode cX11_order 58 = .ok (.aload_n 0, 1) := o_42 BX11_order rfl rfl
theorem dX11_order_59 : decode cX11_order 59 = .ok (.getfield 80, 3) := o_180 BX11_order rfl rfl rfl
theorem dX11_order_62 : decode cX11_order 62 = .ok (.getfield 404, 3) := o_180 BX11_order rfl rfl rfl
theorem dX11_order_65 : decode cX11_order 65 = .ok (.invokevirtual 406, 3) := o_182 BX11_order rfl rfl rfl
theorem dX11_order_68 : decode cX11_order 68 = .ok (.aload_n 0, 1) := o_42 BX11_order rfl rfl
theorem dX11_order_69 : decode cX11_order 69 = .ok (.aload_n 0, 1) := o_42 BX11_order rfl rfl
theorem dX11_order_70 : decode cX11_order 70 = .ok (.getfield 105, 3) := o_180 BX11_order rfl rfl rfl
theorem dX11_order_73 : decode cX11_order 73 = .ok (.invokevirtual 382, 3) := o_182 BX11_order rfl rfl rfl
theorem dX11_order_76 : decode cX11_order 76 = .ok (.invokestatic 389, 3) := o_184 BX11_order rfl rfl rfl
theorem dX11_order_79 : decode cX11_order 79 = .ok (.istore 4, 2) := o_54 BX11_order rfl rfl rfl
theorem dX11_order_81 : decode cX11_order 81 = .ok (.iload 4, 2) := o_21 BX11_order rfl rfl rfl
theorem dX11_order_83 : decode cX11_order 83 = .ok (.iload_n 1, 1) := o_27 BX11_order rfl rfl
theorem dX11_order_84 : decode cX11_order 84 = .ok (.if_icmp .le 13, 3) := o_164 BX11_order rfl rfl rfl
theorem dX11_order_87 : decode cX11_order 87 = .ok (.iload 4, 2) := o_21 BX11_order rfl rfl rfl
theorem dX11_order_89 : decode cX11_order 89 = .ok (.istore_n 1, 1) := o_60 BX11_order rfl rfl
theorem dX11_order_90 : decode cX11_order 90 = .ok (.aload_n 0, 1) := o_42 BX11_order rfl rfl
theorem dX11_order_91 : decode cX11_order 91 = .ok (.getfield 80, 3) := o_180 BX11_order rfl rfl rfl
theorem dX11_order_94 : decode cX11_order 94 = .ok (.invokevirtual 410, 3) := o_182 BX11_order rfl rfl rfl
theorem dX11_order_97 : decode cX11_order 97 = .ok (.aload_n 0, 1) := o_42 BX11_order rfl rfl
theorem dX11_order_98 : decode cX11_order 98 = .ok (.getfield 80, 3) := o_180 BX11_order rfl rfl rfl
theorem dX11_order_101 : decode cX11_order 101 = .ok (.invokevirtual 413, 3) := o_182 BX11_order rfl rfl rfl
theorem dX11_order_104 : decode cX11_order 104 = .ok (.istore_n 2, 1) := o_61 BX11_order rfl rfl
theorem dX11_order_105 : decode cX11_order 105 = .ok (.iinc 3 1, 3) := o_132 BX11_order rfl rfl rfl rfl
theorem dX11_order_108 : decode cX11_order 108 = .ok (.goto (-87), 3) := o_167 BX11_order rfl rfl rfl
theorem dX11_order_111 : decode cX11_order 111 = .ok (.aload_n 0, 1) := o_42 BX11_order rfl rfl
theorem dX11_order_112 : decode cX11_order 112 = .ok (.getfield 66, 3) := o_180 BX11_order rfl rfl rfl
theorem dX11_order_115 : decode cX11_order 115 = .ok (.invokevirtual 349, 3) := o_182 BX11_order rfl rfl rfl
theorem dX11_order_118 : decode cX11_order 118 = .ok (.iconst 0, 1) := o_3 BX11_order rfl rfl
theorem dX11_order_119 : decode cX11_order 119 = .ok (.istore_n 3, 1) := o_62 BX11_order rfl rfl
theorem dX11_order_120 : decode cX11_order 120 = .ok (.iload_n 3, 1) := o_29 BX11_order rfl rfl
theorem dX11_order_121 : decode cX11_order 121 = .ok (.aload_n 0, 1) := o_42 BX11_order rfl rfl
theorem dX11_order_122 : decode cX11_order 122 = .ok (.getfield 80, 3) := o_180 BX11_order rfl rfl rfl
theorem dX11_order_125 : decode cX11_order 125 = .ok (.getfield 416, 3) := o_180 BX11_order rfl rfl rfl
theorem dX11_order_128 : decode cX11_order 128 = .ok (.if_icmp .ge 26, 3) := o_162 BX11_order rfl rfl rfl
theorem dX11_order_131 : decode cX11_order 131 = .ok (.aload_n 0, 1) := o_42 BX11_order rfl rfl
theorem dX11_order_132 : decode cX11_order 132 = .ok (.getfield 66, 3) := o_180 BX11_order rfl rfl rfl
theorem dX11_order_135 : decode cX11_order 135 = .ok (.aload_n 0, 1) := o_42 BX11_order rfl rfl
theorem dX11_order_136 : decode cX11_order 136 = .ok (.getfield 80, 3) := o_180 BX11_order rfl rfl rfl
theorem dX11_order_139 : decode cX11_order 139 = .ok (.getfield 417, 3) := o_180 BX11_order rfl rfl rfl
theorem dX11_order_142 : decode cX11_order 142 = .ok (.iload_n 3, 1) := o_29 BX11_order rfl rfl
theorem dX11_order_143 : decode cX11_order 143 = .ok (.iaload, 1) := o_46 BX11_order rfl rfl
theorem dX11_order_144 : decode cX11_order 144 = .ok (.i2l, 1) := o_133 BX11_order rfl rfl
theorem dX11_order_145 : decode cX11_order 145 = .ok (.invokevirtual 356, 3) := o_182 BX11_order rfl rfl rfl
theorem dX11_order_148 : decode cX11_order 148 = .ok (.iinc 3 1, 3) := o_132 BX11_order rfl rfl rfl rfl
theorem dX11_order_151 : decode cX11_order 151 = .ok (.goto (-31), 3) := o_167 BX11_order rfl rfl rfl
theorem dX11_order_154 : decode cX11_order 154 = .ok (.iload_n 1, 1) := o_27 BX11_order rfl rfl
theorem dX11_order_155 : decode cX11_order 155 = .ok (.ireturn, 1) := o_172 BX11_order rfl rfl
theorem dX11_stands_0 : decode cX11_stands 0 = .ok (.aload_n 0, 1) := o_42 BX11_stands rfl rfl
theorem dX11_stands_1 : decode cX11_stands 1 = .ok (.getfield 26, 3) := o_180 BX11_stands rfl rfl rfl
theorem dX11_stands_4 : decode cX11_stands 4 = .ok (.iload_n 1, 1) := o_27 BX11_stands rfl rfl
theorem dX11_stands_5 : decode cX11_stands 5 = .ok (.invokevirtual 265, 3) := o_182 BX11_stands rfl rfl rfl
theorem dX11_stands_8 : decode cX11_stands 8 = .ok (.ifCond .ne 5, 3) := o_154 BX11_stands rfl rfl rfl
theorem dX11_stands_11 : decode cX11_stands 11 = .ok (.iconst (-1), 1) := o_2 BX11_stands rfl rfl
theorem dX11_stands_12 : decode cX11_stands 12 = .ok (.ireturn, 1) := o_172 BX11_stands rfl rfl
theorem dX11_stands_13 : decode cX11_stands 13 = .ok (.aload_n 0, 1) := o_42 BX11_stands rfl rfl
theorem dX11_stands_14 : decode cX11_stands 14 = .ok (.getfield 26, 3) := o_180 BX11_stands rfl rfl rfl
theorem dX11_stands_17 : decode cX11_stands 17 = .ok (.iload_n 1, 1) := o_27 BX11_stands rfl rfl
theorem dX11_stands_18 : decode cX11_stands 18 = .ok (.invokevirtual 278, 3) := o_182 BX11_stands rfl rfl rfl
theorem dX11_stands_21 : decode cX11_stands 21 = .ok (.ifCond .eq 6, 3) := o_153 BX11_stands rfl rfl rfl
theorem dX11_stands_24 : decode cX11_stands 24 = .ok (.bipush (-2), 2) := o_16 BX11_stands rfl rfl rfl
theorem dX11_stands_26 : decode cX11_stands 26 = .ok (.ireturn, 1) := o_172 BX11_stands rfl rfl
theorem dX11_stands_27 : decode cX11_stands 27 = .ok (.iconst (-1), 1) := o_2 BX11_stands rfl rfl
theorem dX11_stands_28 : decode cX11_stands 28 = .ok (.istore_n 2, 1) := o_61 BX11_stands rfl rfl
theorem dX11_stands_29 : decode cX11_stands 29 = .ok (.iconst 0, 1) := o_3 BX11_stands rfl rfl
theorem dX11_stands_30 : decode cX11_stands 30 = .ok (.istore_n 3, 1) := o_62 BX11_stands rfl rfl
theorem dX11_stands_31 : decode cX11_stands 31 = .ok (.aload_n 0, 1) := o_42 BX11_stands rfl rfl
theorem dX11_stands_32 : decode cX11_stands 32 = .ok (.getfield 19, 3) := o_180 BX11_stands rfl rfl rfl
theorem dX11_stands_35 : decode cX11_stands 35 = .ok (.invokevirtual 207, 3) := o_182 BX11_stands rfl rfl rfl
theorem dX11_stands_38 : decode cX11_stands 38 = .ok (.iconst 1, 1) := o_4 BX11_stands rfl rfl
theorem dX11_stands_39 : decode cX11_stands 39 = .ok (.isub, 1) := o_100 BX11_stands rfl rfl
theorem dX11_stands_40 : decode cX11_stands 40 = .ok (.istore 4, 2) := o_54 BX11_stands rfl rfl rfl
theorem dX11_stands_42 : decode cX11_stands 42 = .ok (.iload 4, 2) := o_21 BX11_stands rfl rfl rfl
theorem dX11_stands_44 : decode cX11_stands 44 = .ok (.ifCond .lt 73, 3) := o_155 BX11_stands rfl rfl rfl
theorem dX11_stands_47 : decode cX11_stands 47 = .ok (.aload_n 0, 1) := o_42 BX11_stands rfl rfl
theorem dX11_stands_48 : decode cX11_stands 48 = .ok (.getfield 30, 3) := o_180 BX11_stands rfl rfl rfl
theorem dX11_stands_51 : decode cX11_stands 51 = .ok (.aload_n 0, 1) := o_42 BX11_stands rfl rfl
theorem dX11_stands_52 : decode cX11_stands 52 = .ok (.getfield 26, 3) := o_180 BX11_stands rfl rfl rfl
theorem dX11_stands_55 : decode cX11_stands 55 = .ok (.invokevirtual 153, 3) := o_182 BX11_stands rfl rfl rfl
theorem dX11_stands_58 : decode cX11_stands 58 = .ok (.aload_n 0, 1) := o_42 BX11_stands rfl rfl
theorem dX11_stands_59 : decode cX11_stands 59 = .ok (.getfield 30, 3) := o_180 BX11_stands rfl rfl rfl
theorem dX11_stands_62 : decode cX11_stands 62 = .ok (.getfield 270, 3) := o_180 BX11_stands rfl rfl rfl
theorem dX11_stands_65 : decode cX11_stands 65 = .ok (.iload_n 1, 1) := o_27 BX11_stands rfl rfl
theorem dX11_stands_66 : decode cX11_stands 66 = .ok (.iload 4, 2) := o_21 BX11_stands rfl rfl rfl
theorem dX11_stands_68 : decode cX11_stands 68 = .ok (.iastore, 1) := o_79 BX11_stands rfl rfl
theorem dX11_stands_69 : decode cX11_stands 69 = .ok (.aload_n 0, 1) := o_42 BX11_stands rfl rfl
theorem dX11_stands_70 : decode cX11_stands 70 = .ok (.getfield 30, 3) := o_180 BX11_stands rfl rfl rfl
theorem dX11_stands_73 : decode cX11_stands 73 = .ok (.getfield 240, 3) := o_180 BX11_stands rfl rfl rfl
theorem dX11_stands_76 : decode cX11_stands 76 = .ok (.iload_n 1, 1) := o_27 BX11_stands rfl rfl
theorem dX11_stands_77 : decode cX11_stands 77 = .ok (.iconst (-1), 1) := o_2 BX11_stands rfl rfl
theorem dX11_stands_78 : decode cX11_stands 78 = .ok (.iastore, 1) := o_79 BX11_stands rfl rfl
theorem dX11_stands_79 : decode cX11_stands 79 = .ok (.aload_n 0, 1) := o_42 BX11_stands rfl rfl
theorem dX11_stands_80 : decode cX11_stands 80 = .ok (.getfield 44, 3) := o_180 BX11_stands rfl rfl rfl
theorem dX11_stands_83 : decode cX11_stands 83 = .ok (.aload_n 0, 1) := o_42 BX11_stands rfl rfl
theorem dX11_stands_84 : decode cX11_stands 84 = .ok (.getfield 30, 3) := o_180 BX11_stands rfl rfl rfl
theorem dX11_stands_87 : decode cX11_stands 87 = .ok (.aload_n 0, 1) := o_42 BX11_stands rfl rfl
theorem dX11_stands_88 : decode cX11_stands 88 = .ok (.getfield 105, 3) := o_180 BX11_stands rfl rfl rfl
theorem dX11_stands_91 : decode cX11_stands 91 = .ok (.invokevirtual 394, 3) := o_182 BX11_stands rfl rfl rfl
theorem dX11_stands_94 : decode cX11_stands 94 = .ok (.aload_n 0, 1) := o_42 BX11_stands rfl rfl
theorem dX11_stands_95 : decode cX11_stands 95 = .ok (.getfield 30, 3) := o_180 BX11_stands rfl rfl rfl
theorem dX11_stands_98 : decode cX11_stands 98 = .ok (.iload_n 1, 1) := o_27 BX11_stands rfl rfl
theorem dX11_stands_99 : decode cX11_stands 99 = .ok (.invokevirtual 420, 3) := o_182 BX11_stands rfl rfl rfl
theorem dX11_stands_102 : decode cX11_stands 102 = .ok (.ifCond .eq 9, 3) := o_153 BX11_stands rfl rfl rfl
theorem dX11_stands_105 : decode cX11_stands 105 = .ok (.iload 4, 2) := o_21 BX11_stands rfl rfl rfl
theorem dX11_stands_107 : decode cX11_stands 107 = .ok (.istore_n 2, 1) := o_61 BX11_stands rfl rfl
theorem dX11_stands_108 : decode cX11_stands 108 = .ok (.iinc 3 1, 3) := o_132 BX11_stands rfl rfl rfl rfl
theorem dX11_stands_111 : decode cX11_stands 111 = .ok (.iinc 4 (-1), 3) := o_132 BX11_stands rfl rfl rfl rfl
theorem dX11_stands_114 : decode cX11_stands 114 = .ok (.goto (-72), 3) := o_167 BX11_stands rfl rfl rfl
theorem dX11_stands_117 : decode cX11_stands 117 = .ok (.iload_n 3, 1) := o_29 BX11_stands rfl rfl
theorem dX11_stands_118 : decode cX11_stands 118 = .ok (.ifCond .ne 6, 3) := o_154 BX11_stands rfl rfl rfl
theorem dX11_stands_121 : decode cX11_stands 121 = .ok (.bipush (-2), 2) := o_16 BX11_stands rfl rfl rfl
theorem dX11_stands_123 : decode cX11_stands 123 = .ok (.ireturn, 1) := o_172 BX11_stands rfl rfl
theorem dX11_stands_124 : decode cX11_stands 124 = .ok (.aload_n 0, 1) := o_42 BX11_stands rfl rfl
theorem dX11_stands_125 : decode cX11_stands 125 = .ok (.getfield 66, 3) := o_180 BX11_stands rfl rfl rfl
theorem dX11_stands_128 : decode cX11_stands 128 = .ok (.iload_n 3, 1) := o_29 BX11_stands rfl rfl
theorem dX11_stands_129 : decode cX11_stands 129 = .ok (.i2l, 1) := o_133 BX11_stands rfl rfl
theorem dX11_stands_130 : decode cX11_stands 130 = .ok (.invokevirtual 366, 3) := o_182 BX11_stands rfl rfl rfl
theorem dX11_stands_133 : decode cX11_stands 133 = .ok (.iload_n 2, 1) := o_28 BX11_stands rfl rfl
theorem dX11_stands_134 : decode cX11_stands 134 = .ok (.ireturn, 1) := o_172 BX11_stands rfl rfl
theorem dX11_when_0 : decode cX11_when 0 = .ok (.aload_n 0, 1) := o_42 BX11_when rfl rfl
theorem dX11_when_1 : decode cX11_when 1 = .ok (.getfield 26, 3) := o_180 BX11_when rfl rfl rfl
theorem dX11_when_4 : decode cX11_when 4 = .ok (.iload_n 1, 1) := o_27 BX11_when rfl rfl
theorem dX11_when_5 : decode cX11_when 5 = .ok (.invokevirtual 265, 3) := o_182 BX11_when rfl rfl rfl
theorem dX11_when_8 : decode cX11_when 8 = .ok (.ifCond .ne 5, 3) := o_154 BX11_when rfl rfl rfl
theorem dX11_when_11 : decode cX11_when 11 = .ok (.iconst (-1), 1) := o_2 BX11_when rfl rfl
theorem dX11_when_12 : decode cX11_when 12 = .ok (.ireturn, 1) := o_172 BX11_when rfl rfl
theorem dX11_when_13 : decode cX11_when 13 = .ok (.aload_n 0, 1) := o_42 BX11_when rfl rfl
theorem dX11_when_14 : decode cX11_when 14 = .ok (.getfield 33, 3) := o_180 BX11_when rfl rfl rfl
theorem dX11_when_17 : decode cX11_when 17 = .ok (.aload_n 0, 1) := o_42 BX11_when rfl rfl
theorem dX11_when_18 : decode cX11_when 18 = .ok (.getfield 26, 3) := o_180 BX11_when rfl rfl rfl
theorem dX11_when_21 : decode cX11_when 21 = .ok (.invokevirtual 153, 3) := o_182 BX11_when rfl rfl rfl
theorem dX11_when_24 : decode cX11_when 24 = .ok (.iconst (-1), 1) := o_2 BX11_when rfl rfl
theorem dX11_when_25 : decode cX11_when 25 = .ok (.istore_n 2, 1) := o_61 BX11_when rfl rfl
theorem dX11_when_26 : decode cX11_when 26 = .ok (.iconst (-1), 1) := o_2 BX11_when rfl rfl
theorem dX11_when_27 : decode cX11_when 27 = .ok (.istore_n 3, 1) := o_62 BX11_when rfl rfl
theorem dX11_when_28 : decode cX11_when 28 = .ok (.iconst 0, 1) := o_3 BX11_when rfl rfl
theorem dX11_when_29 : decode cX11_when 29 = .ok (.istore 4, 2) := o_54 BX11_when rfl rfl rfl
theorem dX11_when_31 : decode cX11_when 31 = .ok (.iload 4, 2) := o_21 BX11_when rfl rfl rfl
theorem dX11_when_33 : decode cX11_when 33 = .ok (.bipush 60, 2) := o_16 BX11_when rfl rfl rfl
theorem dX11_when_35 : decode cX11_when 35 = .ok (.if_icmp .gt 84, 3) := o_163 BX11_when rfl rfl rfl
theorem dX11_when_38 : decode cX11_when 38 = .ok (.aload_n 0, 1) := o_42 BX11_when rfl rfl
theorem dX11_when_39 : decode cX11_when 39 = .ok (.getfield 30, 3) := o_180 BX11_when rfl rfl rfl
theorem dX11_when_42 : decode cX11_when 42 = .ok (.aload_n 0, 1) := o_42 BX11_when rfl rfl
theorem dX11_when_43 : decode cX11_when 43 = .ok (.getfield 33, 3) := o_180 BX11_when rfl rfl rfl
theorem dX11_when_46 : decode cX11_when 46 = .ok (.invokevirtual 153, 3) := o_182 BX11_when rfl rfl rfl
theorem dX11_when_49 : decode cX11_when 49 = .ok (.aload_n 0, 1) := o_42 BX11_when rfl rfl
theorem dX11_when_50 : decode cX11_when 50 = .ok (.iload_n 1, 1) := o_27 BX11_when rfl rfl
theorem dX11_when_51 : decode cX11_when 51 = .ok (.invokevirtual 423, 3) := o_182 BX11_when rfl rfl rfl
theorem dX11_when_54 : decode cX11_when 54 = .ok (.ifCond .eq 44, 3) := o_153 BX11_when rfl rfl rfl
theorem dX11_when_57 : decode cX11_when 57 = .ok (.aload_n 0, 1) := o_42 BX11_when rfl rfl
theorem dX11_when_58 : decode cX11_when 58 = .ok (.getfield 44, 3) := o_180 BX11_when rfl rfl rfl
theorem dX11_when_61 : decode cX11_when 61 = .ok (.aload_n 0, 1) := o_42 BX11_when rfl rfl
theorem dX11_when_62 : decode cX11_when 62 = .ok (.getfield 30, 3) := o_180 BX11_when rfl rfl rfl
theorem dX11_when_65 : decode cX11_when 65 = .ok (.aload_n 0, 1) := o_42 BX11_when rfl rfl
theorem dX11_when_66 : decode cX11_when 66 = .ok (.getfield 105, 3) := o_180 BX11_when rfl rfl rfl
theorem dX11_when_69 : decode cX11_when 69 = .ok (.invokevirtual 394, 3) := o_182 BX11_when rfl rfl rfl
theorem dX11_when_72 : decode cX11_when 72 = .ok (.aload_n 0, 1) := o_42 BX11_when rfl rfl
theorem dX11_when_73 : decode cX11_when 73 = .ok (.getfield 30, 3) := o_180 BX11_when rfl rfl rfl
theorem dX11_when_76 : decode cX11_when 76 = .ok (.iload_n 1, 1) := o_27 BX11_when rfl rfl
theorem dX11_when_77 : decode cX11_when 77 = .ok (.invokevirtual 420, 3) := o_182 BX11_when rfl rfl rfl
theorem dX11_when_80 : decode cX11_when 80 = .ok (.ifCond .eq 18, 3) := o_153 BX11_when rfl rfl rfl
theorem dX11_when_83 : decode cX11_when 83 = .ok (.iload_n 2, 1) := o_28 BX11_when rfl rfl
theorem dX11_when_84 : decode cX11_when 84 = .ok (.iconst (-1), 1) := o_2 BX11_when rfl rfl
theorem dX11_when_85 : decode cX11_when 85 = .ok (.if_icmp .ne 8, 3) := o_160 BX11_when rfl rfl rfl
theorem dX11_when_88 : decode cX11_when 88 = .ok (.iload 4, 2) := o_21 BX11_when rfl rfl rfl
theorem dX11_when_90 : decode cX11_when 90 = .ok (.goto 4, 3) := o_167 BX11_when rfl rfl rfl
theorem dX11_when_93 : decode cX11_when 93 = .ok (.iload_n 2, 1) := o_28 BX11_when rfl rfl
theorem dX11_when_94 : decode cX11_when 94 = .ok (.istore_n 2, 1) := o_61 BX11_when rfl rfl
theorem dX11_when_95 : decode cX11_when 95 = .ok (.iload 4, 2) := o_21 BX11_when rfl rfl rfl
theorem dX11_when_97 : decode cX11_when 97 = .ok (.istore_n 3, 1) := o_62 BX11_when rfl rfl
theorem dX11_when_98 : decode cX11_when 98 = .ok (.aload_n 0, 1) := o_42 BX11_when rfl rfl
theorem dX11_when_99 : decode cX11_when 99 = .ok (.getfield 44, 3) := o_180 BX11_when rfl rfl rfl
theorem dX11_when_102 : decode cX11_when 102 = .ok (.aload_n 0, 1) := o_42 BX11_when rfl rfl
theorem dX11_when_103 : decode cX11_when 103 = .ok (.getfield 33, 3) := o_180 BX11_when rfl rfl rfl
theorem dX11_when_106 : decode cX11_when 106 = .ok (.aload_n 0, 1) := o_42 BX11_when rfl rfl
theorem dX11_when_107 : decode cX11_when 107 = .ok (.getfield 105, 3) := o_180 BX11_when rfl rfl rfl
theorem dX11_when_110 : decode cX11_when 110 = .ok (.invokevirtual 362, 3) := o_182 BX11_when rfl rfl rfl
theorem dX11_when_113 : decode cX11_when 113 = .ok (.iinc 4 1, 3) := o_132 BX11_when rfl rfl rfl rfl
theorem dX11_when_116 : decode cX11_when 116 = .ok (.goto (-85), 3) := o_167 BX11_when rfl rfl rfl
theorem dX11_when_119 : decode cX11_when 119 = .ok (.iload_n 2, 1) := o_28 BX11_when rfl rfl
theorem dX11_when_120 : decode cX11_when 120 = .ok (.iconst (-1), 1) := o_2 BX11_when rfl rfl
theorem dX11_when_121 : decode cX11_when 121 = .ok (.if_icmp .ne 6, 3) := o_160 BX11_when rfl rfl rfl
theorem dX11_when_124 : decode cX11_when 124 = .ok (.bipush (-2), 2) := o_16 BX11_when rfl rfl rfl
theorem dX11_when_126 : decode cX11_when 126 = .ok (.ireturn, 1) := o_172 BX11_when rfl rfl
theorem dX11_when_127 : decode cX11_when 127 = .ok (.aload_n 0, 1) := o_42 BX11_when rfl rfl
theorem dX11_when_128 : decode cX11_when 128 = .ok (.getfield 66, 3) := o_180 BX11_when rfl rfl rfl
theorem dX11_when_131 : decode cX11_when 131 = .ok (.iload_n 3, 1) := o_29 BX11_when rfl rfl
theorem dX11_when_132 : decode cX11_when 132 = .ok (.i2l, 1) := o_133 BX11_when rfl rfl
theorem dX11_when_133 : decode cX11_when 133 = .ok (.invokevirtual 366, 3) := o_182 BX11_when rfl rfl rfl
theorem dX11_when_136 : decode cX11_when 136 = .ok (.iload_n 2, 1) := o_28 BX11_when rfl rfl
theorem dX11_when_137 : decode cX11_when 137 = .ok (.ireturn, 1) := o_172 BX11_when rfl rfl
theorem dX11_isTurned_0 : decode cX11_isTurned 0 = .ok (.aload_n 0, 1) := o_42 BX11_isTurned rfl rfl
theorem dX11_isTurned_1 : decode cX11_isTurned 1 = .ok (.getfield 30, 3) := o_180 BX11_isTurned rfl rfl rfl
theorem dX11_isTurned_4 : decode cX11_isTurned 4 = .ok (.iload_n 1, 1) := o_27 BX11_isTurned rfl rfl
theorem dX11_isTurned_5 : decode cX11_isTurned 5 = .ok (.invokevirtual 278, 3) := o_182 BX11_isTurned rfl rfl rfl
theorem dX11_isTurned_8 : decode cX11_isTurned 8 = .ok (.ifCond .ne 28, 3) := o_154 BX11_isTurned rfl rfl rfl
theorem dX11_isTurned_11 : decode cX11_isTurned 11 = .ok (.aload_n 0, 1) := o_42 BX11_isTurned rfl rfl
theorem dX11_isTurned_12 : decode cX11_isTurned 12 = .ok (.getfield 30, 3) := o_180 BX11_isTurned rfl rfl rfl
theorem dX11_isTurned_15 : decode cX11_isTurned 15 = .ok (.getfield 240, 3) := o_180 BX11_isTurned rfl rfl rfl
theorem dX11_isTurned_18 : decode cX11_isTurned 18 = .ok (.iload_n 1, 1) := o_27 BX11_isTurned rfl rfl
theorem dX11_isTurned_19 : decode cX11_isTurned 19 = .ok (.iaload, 1) := o_46 BX11_isTurned rfl rfl
theorem dX11_isTurned_20 : decode cX11_isTurned 20 = .ok (.aload_n 0, 1) := o_42 BX11_isTurned rfl rfl
theorem dX11_isTurned_21 : decode cX11_isTurned 21 = .ok (.getfield 30, 3) := o_180 BX11_isTurned rfl rfl rfl
theorem dX11_isTurned_24 : decode cX11_isTurned 24 = .ok (.getfield 250, 3) := o_180 BX11_isTurned rfl rfl rfl
theorem dX11_isTurned_27 : decode cX11_isTurned 27 = .ok (.iload_n 1, 1) := o_27 BX11_isTurned rfl rfl
theorem dX11_isTurned_28 : decode cX11_isTurned 28 = .ok (.iaload, 1) := o_46 BX11_isTurned rfl rfl
theorem dX11_isTurned_29 : decode cX11_isTurned 29 = .ok (.if_icmp .ne 7, 3) := o_160 BX11_isTurned rfl rfl rfl
theorem dX11_isTurned_32 : decode cX11_isTurned 32 = .ok (.iconst 1, 1) := o_4 BX11_isTurned rfl rfl
theorem dX11_isTurned_33 : decode cX11_isTurned 33 = .ok (.goto 4, 3) := o_167 BX11_isTurned rfl rfl rfl
theorem dX11_isTurned_36 : decode cX11_isTurned 36 = .ok (.iconst 0, 1) := o_3 BX11_isTurned rfl rfl
theorem dX11_isTurned_37 : decode cX11_isTurned 37 = .ok (.istore_n 2, 1) := o_61 BX11_isTurned rfl rfl
theorem dX11_isTurned_38 : decode cX11_isTurned 38 = .ok (.iload_n 2, 1) := o_28 BX11_isTurned rfl rfl
theorem dX11_isTurned_39 : decode cX11_isTurned 39 = .ok (.ifCond .ne 17, 3) := o_154 BX11_isTurned rfl rfl rfl
theorem dX11_isTurned_42 : decode cX11_isTurned 42 = .ok (.aload_n 0, 1) := o_42 BX11_isTurned rfl rfl
theorem dX11_isTurned_43 : decode cX11_isTurned 43 = .ok (.getfield 30, 3) := o_180 BX11_isTurned rfl rfl rfl
theorem dX11_isTurned_46 : decode cX11_isTurned 46 = .ok (.iload_n 1, 1) := o_27 BX11_isTurned rfl rfl
theorem dX11_isTurned_47 : decode cX11_isTurned 47 = .ok (.invokevirtual 308, 3) := o_182 BX11_isTurned rfl rfl rfl
theorem dX11_isTurned_50 : decode cX11_isTurned 50 = .ok (.invokestatic 318, 3) := o_184 BX11_isTurned rfl rfl rfl
theorem dX11_isTurned_53 : decode cX11_isTurned 53 = .ok (.ifCond .eq 7, 3) := o_153 BX11_isTurned rfl rfl rfl
theorem dX11_isTurned_56 : decode cX11_isTurned 56 = .ok (.iconst 1, 1) := o_4 BX11_isTurned rfl rfl
theorem dX11_isTurned_57 : decode cX11_isTurned 57 = .ok (.goto 4, 3) := o_167 BX11_isTurned rfl rfl rfl
theorem dX11_isTurned_60 : decode cX11_isTurned 60 = .ok (.iconst 0, 1) := o_3 BX11_isTurned rfl rfl
theorem dX11_isTurned_61 : decode cX11_isTurned 61 = .ok (.ireturn, 1) := o_172 BX11_isTurned rfl rfl
theorem dX11_mends_0 : decode cX11_mends 0 = .ok (.iload_n 1, 1) := o_27 BX11_mends rfl rfl
theorem dX11_mends_1 : decode cX11_mends 1 = .ok (.ifCond .lt 9, 3) := o_155 BX11_mends rfl rfl rfl
theorem dX11_mends_4 : decode cX11_mends 4 = .ok (.iload_n 1, 1) := o_27 BX11_mends rfl rfl
theorem dX11_mends_5 : decode cX11_mends 5 = .ok (.bipush 8, 2) := o_16 BX11_mends rfl rfl rfl
theorem dX11_mends_7 : decode cX11_mends 7 = .ok (.if_icmp .le 5, 3) := o_164 BX11_mends rfl rfl rfl
theorem dX11_mends_10 : decode cX11_mends 10 = .ok (.iconst (-1), 1) := o_2 BX11_mends rfl rfl
theorem dX11_mends_11 : decode cX11_mends 11 = .ok (.ireturn, 1) := o_172 BX11_mends rfl rfl
theorem dX11_mends_12 : decode cX11_mends 12 = .ok (.aload_n 0, 1) := o_42 BX11_mends rfl rfl
theorem dX11_mends_13 : decode cX11_mends 13 = .ok (.invokevirtual 426, 3) := o_182 BX11_mends rfl rfl rfl
theorem dX11_mends_16 : decode cX11_mends 16 = .ok (.istore_n 2, 1) := o_61 BX11_mends rfl rfl
theorem dX11_mends_17 : decode cX11_mends 17 = .ok (.iconst 0, 1) := o_3 BX11_mends rfl rfl
theorem dX11_mends_18 : decode cX11_mends 18 = .ok (.istore_n 3, 1) := o_62 BX11_mends rfl rfl
theorem dX11_mends_19 : decode cX11_mends 19 = .ok (.iload_n 3, 1) := o_29 BX11_mends rfl rfl
theorem dX11_mends_20 : decode cX11_mends 20 = .ok (.aload_n 0, 1) := o_42 BX11_mends rfl rfl
theorem dX11_mends_21 : decode cX11_mends 21 = .ok (.getfield 26, 3) := o_180 BX11_mends rfl rfl rfl
theorem dX11_mends_24 : decode cX11_mends 24 = .ok (.getfield 191, 3) := o_180 BX11_mends rfl rfl rfl
theorem dX11_mends_27 : decode cX11_mends 27 = .ok (.if_icmp .gt 95, 3) := o_163 BX11_mends rfl rfl rfl
theorem dX11_mends_30 : decode cX11_mends 30 = .ok (.iconst 0, 1) := o_3 BX11_mends rfl rfl
theorem dX11_mends_31 : decode cX11_mends 31 = .ok (.istore 4, 2) := o_54 BX11_mends rfl rfl rfl
theorem dX11_mends_33 : decode cX11_mends 33 = .ok (.iload 4, 2) := o_21 BX11_mends rfl rfl rfl
theorem dX11_mends_35 : decode cX11_mends 35 = .ok (.iconst 1, 1) := o_4 BX11_mends rfl rfl
theorem dX11_mends_36 : decode cX11_mends 36 = .ok (.aload_n 0, 1) := o_42 BX11_mends rfl rfl
theorem dX11_mends_37 : decode cX11_mends 37 = .ok (.getfield 26, 3) := o_180 BX11_mends rfl rfl rfl
theorem dX11_mends_40 : decode cX11_mends 40 = .ok (.getfield 191, 3) := o_180 BX11_mends rfl rfl rfl
theorem dX11_mends_43 : decode cX11_mends 43 = .ok (.ishl, 1) := o_120 BX11_mends rfl rfl
theorem dX11_mends_44 : decode cX11_mends 44 = .ok (.if_icmp .ge 72, 3) := o_162 BX11_mends rfl rfl rfl
theorem dX11_mends_47 : decode cX11_mends 47 = .ok (.iload 4, 2) := o_21 BX11_mends rfl rfl rfl
theorem dX11_mends_49 : decode cX11_mends 49 = .ok (.iload_n 2, 1) := o_28 BX11_mends rfl rfl
theorem dX11_mends_50 : decode cX11_mends 50 = .ok (.iconst (-1), 1) := o_2 BX11_mends rfl rfl
theorem dX11_mends_51 : decode cX11_mends 51 = .ok (.ixor, 1) := o_130 BX11_mends rfl rfl
theorem dX11_mends_52 : decode cX11_mends 52 = .ok (.iand, 1) := o_126 BX11_mends rfl rfl
theorem dX11_mends_53 : decode cX11_mends 53 = .ok (.ifCond .ne 16, 3) := o_154 BX11_mends rfl rfl rfl
theorem dX11_mends_56 : decode cX11_mends 56 = .ok (.iload 4, 2) := o_21 BX11_mends rfl rfl rfl
theorem dX11_mends_58 : decode cX11_mends 58 = .ok (.invokestatic 389, 3) := o_184 BX11_mends rfl rfl rfl
theorem dX11_mends_61 : decode cX11_mends 61 = .ok (.iload_n 3, 1) := o_29 BX11_mends rfl rfl
theorem dX11_mends_62 : decode cX11_mends 62 = .ok (.if_icmp .ne 7, 3) := o_160 BX11_mends rfl rfl rfl
theorem dX11_mends_65 : decode cX11_mends 65 = .ok (.iconst 1, 1) := o_4 BX11_mends rfl rfl
theorem dX11_mends_66 : decode cX11_mends 66 = .ok (.goto 4, 3) := o_167 BX11_mends rfl rfl rfl
theorem dX11_mends_69 : decode cX11_mends 69 = .ok (.iconst 0, 1) := o_3 BX11_mends rfl rfl
theorem dX11_mends_70 : decode cX11_mends 70 = .ok (.istore 5, 2) := o_54 BX11_mends rfl rfl rfl
theorem dX11_mends_72 : decode cX11_mends 72 = .ok (.iload 5, 2) := o_21 BX11_mends rfl rfl rfl
theorem dX11_mends_74 : decode cX11_mends 74 = .ok (.ifCond .eq 36, 3) := o_153 BX11_mends rfl rfl rfl
theorem dX11_mends_77 : decode cX11_mends 77 = .ok (.aload_n 0, 1) := o_42 BX11_mends rfl rfl
theorem dX11_mends_78 : decode cX11_mends 78 = .ok (.iload 4, 2) := o_21 BX11_mends rfl rfl rfl
theorem dX11_mends_80 : decode cX11_mends 80 = .ok (.invokevirtual 429, 3) := o_182 BX11_mends rfl rfl rfl
theorem dX11_mends_83 : decode cX11_mends 83 = .ok (.aload_n 0, 1) := o_42 BX11_mends rfl rfl
theorem dX11_mends_84 : decode cX11_mends 84 = .ok (.aload_n 0, 1) := o_42 BX11_mends rfl rfl
theorem dX11_mends_85 : decode cX11_mends 85 = .ok (.getfield 105, 3) := o_180 BX11_mends rfl rfl rfl
theorem dX11_mends_88 : decode cX11_mends 88 = .ok (.invokevirtual 382, 3) := o_182 BX11_mends rfl rfl rfl
theorem dX11_mends_91 : decode cX11_mends 91 = .ok (.invokestatic 389, 3) := o_184 BX11_mends rfl rfl rfl
theorem dX11_mends_94 : decode cX11_mends 94 = .ok (.iload_n 1, 1) := o_27 BX11_mends rfl rfl
theorem dX11_mends_95 : decode cX11_mends 95 = .ok (.if_icmp .lt 15, 3) := o_161 BX11_mends rfl rfl rfl
theorem dX11_mends_98 : decode cX11_mends 98 = .ok (.aload_n 0, 1) := o_42 BX11_mends rfl rfl
theorem dX11_mends_99 : decode cX11_mends 99 = .ok (.getfield 66, 3) := o_180 BX11_mends rfl rfl rfl
theorem dX11_mends_102 : decode cX11_mends 102 = .ok (.iload 4, 2) := o_21 BX11_mends rfl rfl rfl
theorem dX11_mends_104 : decode cX11_mends 104 = .ok (.i2l, 1) := o_133 BX11_mends rfl rfl
theorem dX11_mends_105 : decode cX11_mends 105 = .ok (.invokevirtual 366, 3) := o_182 BX11_mends rfl rfl rfl
theorem dX11_mends_108 : decode cX11_mends 108 = .ok (.iload_n 3, 1) := o_29 BX11_mends rfl rfl
theorem dX11_mends_109 : decode cX11_mends 109 = .ok (.ireturn, 1) := o_172 BX11_mends rfl rfl
theorem dX11_mends_110 : decode cX11_mends 110 = .ok (.iinc 4 1, 3) := o_132 BX11_mends rfl rfl rfl rfl
theorem dX11_mends_113 : decode cX11_mends 113 = .ok (.goto (-80), 3) := o_167 BX11_mends rfl rfl rfl
theorem dX11_mends_116 : decode cX11_mends 116 = .ok (.iinc 3 1, 3) := o_132 BX11_mends rfl rfl rfl rfl
theorem dX11_mends_119 : decode cX11_mends 119 = .ok (.goto (-100), 3) := o_167 BX11_mends rfl rfl rfl
theorem dX11_mends_122 : decode cX11_mends 122 = .ok (.bipush (-2), 2) := o_16 BX11_mends rfl rfl rfl
theorem dX11_mends_124 : decode cX11_mends 124 = .ok (.ireturn, 1) := o_172 BX11_mends rfl rfl
theorem dX11_ableToTurn_0 : decode cX11_ableToTurn 0 = .ok (.aload_n 0, 1) := o_42 BX11_ableToTurn rfl rfl
theorem dX11_ableToTurn_1 : decode cX11_ableToTurn 1 = .ok (.getfield 30, 3) := o_180 BX11_ableToTurn rfl rfl rfl
theorem dX11_ableToTurn_4 : decode cX11_ableToTurn 4 = .ok (.aload_n 0, 1) := o_42 BX11_ableToTurn rfl rfl
theorem dX11_ableToTurn_5 : decode cX11_ableToTurn 5 = .ok (.getfield 26, 3) := o_180 BX11_ableToTurn rfl rfl rfl
theorem dX11_ableToTurn_8 : decode cX11_ableToTurn 8 = .ok (.invokevirtual 153, 3) := o_182 BX11_ableToTurn rfl rfl rfl
theorem dX11_ableToTurn_11 : decode cX11_ableToTurn 11 = .ok (.iconst 0, 1) := o_3 BX11_ableToTurn rfl rfl
theorem dX11_ableToTurn_12 : decode cX11_ableToTurn 12 = .ok (.istore_n 1, 1) := o_60 BX11_ableToTurn rfl rfl
theorem dX11_ableToTurn_13 : decode cX11_ableToTurn 13 = .ok (.iconst 0, 1) := o_3 BX11_ableToTurn rfl rfl
theorem dX11_ableToTurn_14 : decode cX11_ableToTurn 14 = .ok (.istore_n 2, 1) := o_61 BX11_ableToTurn rfl rfl
theorem dX11_ableToTurn_15 : decode cX11_ableToTurn 15 = .ok (.iload_n 2, 1) := o_28 BX11_ableToTurn rfl rfl
theorem dX11_ableToTurn_16 : decode cX11_ableToTurn 16 = .ok (.aload_n 0, 1) := o_42 BX11_ableToTurn rfl rfl
theorem dX11_ableToTurn_17 : decode cX11_ableToTurn 17 = .ok (.getfield 26, 3) := o_180 BX11_ableToTurn rfl rfl rfl
theorem dX11_ableToTurn_20 : decode cX11_ableToTurn 20 = .ok (.getfield 191, 3) := o_180 BX11_ableToTurn rfl rfl rfl
theorem dX11_ableToTurn_23 : decode cX11_ableToTurn 23 = .ok (.if_icmp .ge 33, 3) := o_162 BX11_ableToTurn rfl rfl rfl
theorem dX11_ableToTurn_26 : decode cX11_ableToTurn 26 = .ok (.iload_n 1, 1) := o_27 BX11_ableToTurn rfl rfl
theorem dX11_ableToTurn_27 : decode cX11_ableToTurn 27 = .ok (.aload_n 0, 1) := o_42 BX11_ableToTurn rfl rfl
theorem dX11_ableToTurn_28 : decode cX11_ableToTurn 28 = .ok (.getfield 30, 3) := o_180 BX11_ableToTurn rfl rfl rfl
theorem dX11_ableToTurn_31 : decode cX11_ableToTurn 31 = .ok (.iload_n 2, 1) := o_28 BX11_ableToTurn rfl rfl
theorem dX11_ableToTurn_32 : decode cX11_ableToTurn 32 = .ok (.invokevirtual 308, 3) := o_182 BX11_ableToTurn rfl rfl rfl
theorem dX11_ableToTurn_35 : decode cX11_ableToTurn 35 = .ok (.invokestatic 318, 3) := o_184 BX11_ableToTurn rfl rfl rfl
theorem dX11_ableToTurn_38 : decode cX11_ableToTurn 38 = .ok (.ifCond .eq 9, 3) := o_153 BX11_ableToTurn rfl rfl rfl
theorem dX11_ableToTurn_41 : decode cX11_ableToTurn 41 = .ok (.iconst 1, 1) := o_4 BX11_ableToTurn rfl rfl
theorem dX11_ableToTurn_42 : decode cX11_ableToTurn 42 = .ok (.iload_n 2, 1) := o_28 BX11_ableToTurn rfl rfl
theorem dX11_ableToTurn_43 : decode cX11_ableToTurn 43 = .ok (.ishl, 1) := o_120 BX11_ableToTurn rfl rfl
theorem dX11_ableToTurn_44 : decode cX11_ableToTurn 44 = .ok (.goto 4, 3) := o_167 BX11_ableToTurn rfl rfl rfl
theorem dX11_ableToTurn_47 : decode cX11_ableToTurn 47 = .ok (.iconst 0, 1) := o_3 BX11_ableToTurn rfl rfl
theorem dX11_ableToTurn_48 : decode cX11_ableToTurn 48 = .ok (.ior, 1) := o_128 BX11_ableToTurn rfl rfl
theorem dX11_ableToTurn_49 : decode cX11_ableToTurn 49 = .ok (.istore_n 1, 1) := o_60 BX11_ableToTurn rfl rfl
theorem dX11_ableToTurn_50 : decode cX11_ableToTurn 50 = .ok (.iinc 2 1, 3) := o_132 BX11_ableToTurn rfl rfl rfl rfl
theorem dX11_ableToTurn_53 : decode cX11_ableToTurn 53 = .ok (.goto (-38), 3) := o_167 BX11_ableToTurn rfl rfl rfl
theorem dX11_ableToTurn_56 : decode cX11_ableToTurn 56 = .ok (.iload_n 1, 1) := o_27 BX11_ableToTurn rfl rfl
theorem dX11_ableToTurn_57 : decode cX11_ableToTurn 57 = .ok (.ireturn, 1) := o_172 BX11_ableToTurn rfl rfl
theorem dX11_turnInTrial_0 : decode cX11_turnInTrial 0 = .ok (.aload_n 0, 1) := o_42 BX11_turnInTrial rfl rfl
theorem dX11_turnInTrial_1 : decode cX11_turnInTrial 1 = .ok (.getfield 30, 3) := o_180 BX11_turnInTrial rfl rfl rfl
theorem dX11_turnInTrial_4 : decode cX11_turnInTrial 4 = .ok (.aload_n 0, 1) := o_42 BX11_turnInTrial rfl rfl
theorem dX11_turnInTrial_5 : decode cX11_turnInTrial 5 = .ok (.getfield 26, 3) := o_180 BX11_turnInTrial rfl rfl rfl
theorem dX11_turnInTrial_8 : decode cX11_turnInTrial 8 = .ok (.invokevirtual 153, 3) := o_182 BX11_turnInTrial rfl rfl rfl
theorem dX11_turnInTrial_11 : decode cX11_turnInTrial 11 = .ok (.iconst 0, 1) := o_3 BX11_turnInTrial rfl rfl
theorem dX11_turnInTrial_12 : decode cX11_turnInTrial 12 = .ok (.istore_n 2, 1) := o_61 BX11_turnInTrial rfl rfl
theorem dX11_turnInTrial_13 : decode cX11_turnInTrial 13 = .ok (.iload_n 2, 1) := o_28 BX11_turnInTrial rfl rfl
theorem dX11_turnInTrial_14 : decode cX11_turnInTrial 14 = .ok (.aload_n 0, 1) := o_42 BX11_turnInTrial rfl rfl
theorem dX11_turnInTrial_15 : decode cX11_turnInTrial 15 = .ok (.getfield 26, 3) := o_180 BX11_turnInTrial rfl rfl rfl
theorem dX11_turnInTrial_18 : decode cX11_turnInTrial 18 = .ok (.getfield 191, 3) := o_180 BX11_turnInTrial rfl rfl rfl
theorem dX11_turnInTrial_21 : decode cX11_turnInTrial 21 = .ok (.if_icmp .ge 27, 3) := o_162 BX11_turnInTrial rfl rfl rfl
theorem dX11_turnInTrial_24 : decode cX11_turnInTrial 24 = .ok (.iload_n 1, 1) := o_27 BX11_turnInTrial rfl rfl
theorem dX11_turnInTrial_25 : decode cX11_turnInTrial 25 = .ok (.iload_n 2, 1) := o_28 BX11_turnInTrial rfl rfl
theorem dX11_turnInTrial_26 : decode cX11_turnInTrial 26 = .ok (.ishr, 1) := o_122 BX11_turnInTrial rfl rfl
theorem dX11_turnInTrial_27 : decode cX11_turnInTrial 27 = .ok (.iconst 1, 1) := o_4 BX11_turnInTrial rfl rfl
theorem dX11_turnInTrial_28 : decode cX11_turnInTrial 28 = .ok (.iand, 1) := o_126 BX11_turnInTrial rfl rfl
theorem dX11_turnInTrial_29 : decode cX11_turnInTrial 29 = .ok (.iconst 1, 1) := o_4 BX11_turnInTrial rfl rfl
theorem dX11_turnInTrial_30 : decode cX11_turnInTrial 30 = .ok (.if_icmp .ne 12, 3) := o_160 BX11_turnInTrial rfl rfl rfl
theorem dX11_turnInTrial_33 : decode cX11_turnInTrial 33 = .ok (.aload_n 0, 1) := o_42 BX11_turnInTrial rfl rfl
theorem dX11_turnInTrial_34 : decode cX11_turnInTrial 34 = .ok (.getfield 30, 3) := o_180 BX11_turnInTrial rfl rfl rfl
theorem dX11_turnInTrial_37 : decode cX11_turnInTrial 37 = .ok (.iload_n 2, 1) := o_28 BX11_turnInTrial rfl rfl
theorem dX11_turnInTrial_38 : decode cX11_turnInTrial 38 = .ok (.invokevirtual 308, 3) := o_182 BX11_turnInTrial rfl rfl rfl
theorem dX11_turnInTrial_41 : decode cX11_turnInTrial 41 = .ok (.pop, 1) := o_87 BX11_turnInTrial rfl rfl
theorem dX11_turnInTrial_42 : decode cX11_turnInTrial 42 = .ok (.iinc 2 1, 3) := o_132 BX11_turnInTrial rfl rfl rfl rfl
theorem dX11_turnInTrial_45 : decode cX11_turnInTrial 45 = .ok (.goto (-32), 3) := o_167 BX11_turnInTrial rfl rfl rfl
theorem dX11_turnInTrial_48 : decode cX11_turnInTrial 48 = .ok (.return_, 1) := o_177 BX11_turnInTrial rfl rfl
theorem dX11_misleads_0 : decode cX11_misleads 0 = .ok (.aload_n 0, 1) := o_42 BX11_misleads rfl rfl
theorem dX11_misleads_1 : decode cX11_misleads 1 = .ok (.getfield 30, 3) := o_180 BX11_misleads rfl rfl rfl
theorem dX11_misleads_4 : decode cX11_misleads 4 = .ok (.aload_n 0, 1) := o_42 BX11_misleads rfl rfl
theorem dX11_misleads_5 : decode cX11_misleads 5 = .ok (.getfield 26, 3) := o_180 BX11_misleads rfl rfl rfl
theorem dX11_misleads_8 : decode cX11_misleads 8 = .ok (.invokevirtual 153, 3) := o_182 BX11_misleads rfl rfl rfl
theorem dX11_misleads_11 : decode cX11_misleads 11 = .ok (.aload_n 0, 1) := o_42 BX11_misleads rfl rfl
theorem dX11_misleads_12 : decode cX11_misleads 12 = .ok (.aload_n 0, 1) := o_42 BX11_misleads rfl rfl
theorem dX11_misleads_13 : decode cX11_misleads 13 = .ok (.getfield 105, 3) := o_180 BX11_misleads rfl rfl rfl
theorem dX11_misleads_16 : decode cX11_misleads 16 = .ok (.invokevirtual 382, 3) := o_182 BX11_misleads rfl rfl rfl
theorem dX11_misleads_19 : decode cX11_misleads 19 = .ok (.istore_n 1, 1) := o_60 BX11_misleads rfl rfl
theorem dX11_misleads_20 : decode cX11_misleads 20 = .ok (.iconst (-1), 1) := o_2 BX11_misleads rfl rfl
theorem dX11_misleads_21 : decode cX11_misleads 21 = .ok (.istore_n 2, 1) := o_61 BX11_misleads rfl rfl
theorem dX11_misleads_22 : decode cX11_misleads 22 = .ok (.iconst (-1), 1) := o_2 BX11_misleads rfl rfl
theorem dX11_misleads_23 : decode cX11_misleads 23 = .ok (.istore_n 3, 1) := o_62 BX11_misleads rfl rfl
theorem dX11_misleads_24 : decode cX11_misleads 24 = .ok (.iconst 0, 1) := o_3 BX11_misleads rfl rfl
theorem dX11_misleads_25 : decode cX11_misleads 25 = .ok (.istore 4, 2) := o_54 BX11_misleads rfl rfl rfl
theorem dX11_misleads_27 : decode cX11_misleads 27 = .ok (.iload 4, 2) := o_21 BX11_misleads rfl rfl rfl
theorem dX11_misleads_29 : decode cX11_misleads 29 = .ok (.aload_n 0, 1) := o_42 BX11_misleads rfl rfl
theorem dX11_misleads_30 : decode cX11_misleads 30 = .ok (.getfield 26, 3) := o_180 BX11_misleads rfl rfl rfl
theorem dX11_misleads_33 : decode cX11_misleads 33 = .ok (.getfield 176, 3) := o_180 BX11_misleads rfl rfl rfl
theorem dX11_misleads_36 : decode cX11_misleads 36 = .ok (.if_icmp .ge 93, 3) := o_162 BX11_misleads rfl rfl rfl
theorem dX11_misleads_39 : decode cX11_misleads 39 = .ok (.aload_n 0, 1) := o_42 BX11_misleads rfl rfl
theorem dX11_misleads_40 : decode cX11_misleads 40 = .ok (.getfield 26, 3) := o_180 BX11_misleads rfl rfl rfl
theorem dX11_misleads_43 : decode cX11_misleads 43 = .ok (.iload 4, 2) := o_21 BX11_misleads rfl rfl rfl
theorem dX11_misleads_45 : decode cX11_misleads 45 = .ok (.invokevirtual 255, 3) := o_182 BX11_misleads rfl rfl rfl
theorem dX11_misleads_48 : decode cX11_misleads 48 = .ok (.ifCond .ne 75, 3) := o_154 BX11_misleads rfl rfl rfl
theorem dX11_misleads_51 : decode cX11_misleads 51 = .ok (.aload_n 0, 1) := o_42 BX11_misleads rfl rfl
theorem dX11_misleads_52 : decode cX11_misleads 52 = .ok (.getfield 30, 3) := o_180 BX11_misleads rfl rfl rfl
theorem dX11_misleads_55 : decode cX11_misleads 55 = .ok (.aload_n 0, 1) := o_42 BX11_misleads rfl rfl
theorem dX11_misleads_56 : decode cX11_misleads 56 = .ok (.getfield 26, 3) := o_180 BX11_misleads rfl rfl rfl
theorem dX11_misleads_59 : decode cX11_misleads 59 = .ok (.invokevirtual 153, 3) := o_182 BX11_misleads rfl rfl rfl
theorem dX11_misleads_62 : decode cX11_misleads 62 = .ok (.aload_n 0, 1) := o_42 BX11_misleads rfl rfl
theorem dX11_misleads_63 : decode cX11_misleads 63 = .ok (.getfield 30, 3) := o_180 BX11_misleads rfl rfl rfl
theorem dX11_misleads_66 : decode cX11_misleads 66 = .ok (.iload 4, 2) := o_21 BX11_misleads rfl rfl rfl
theorem dX11_misleads_68 : decode cX11_misleads 68 = .ok (.invokevirtual 432, 3) := o_182 BX11_misleads rfl rfl rfl
theorem dX11_misleads_71 : decode cX11_misleads 71 = .ok (.aload_n 0, 1) := o_42 BX11_misleads rfl rfl
theorem dX11_misleads_72 : decode cX11_misleads 72 = .ok (.aload_n 0, 1) := o_42 BX11_misleads rfl rfl
theorem dX11_misleads_73 : decode cX11_misleads 73 = .ok (.getfield 105, 3) := o_180 BX11_misleads rfl rfl rfl
theorem dX11_misleads_76 : decode cX11_misleads 76 = .ok (.invokevirtual 382, 3) := o_182 BX11_misleads rfl rfl rfl
theorem dX11_misleads_79 : decode cX11_misleads 79 = .ok (.aload_n 0, 1) := o_42 BX11_misleads rfl rfl
theorem dX11_misleads_80 : decode cX11_misleads 80 = .ok (.getfield 26, 3) := o_180 BX11_misleads rfl rfl rfl
theorem dX11_misleads_83 : decode cX11_misleads 83 = .ok (.aload_n 0, 1) := o_42 BX11_misleads rfl rfl
theorem dX11_misleads_84 : decode cX11_misleads 84 = .ok (.getfield 26, 3) := o_180 BX11_misleads rfl rfl rfl
theorem dX11_misleads_87 : decode cX11_misleads 87 = .ok (.getfield 250, 3) := o_180 BX11_misleads rfl rfl rfl
theorem dX11_misleads_90 : decode cX11_misleads 90 = .ok (.iload 4, 2) := o_21 BX11_misleads rfl rfl rfl
theorem dX11_misleads_92 : decode cX11_misleads 92 = .ok (.invokevirtual 243, 3) := o_182 BX11_misleads rfl rfl rfl
theorem dX11_misleads_95 : decode cX11_misleads 95 = .ok (.iconst (-1), 1) := o_2 BX11_misleads rfl rfl
theorem dX11_misleads_96 : decode cX11_misleads 96 = .ok (.ixor, 1) := o_130 BX11_misleads rfl rfl
theorem dX11_misleads_97 : decode cX11_misleads 97 = .ok (.iand, 1) := o_126 BX11_misleads rfl rfl
theorem dX11_misleads_98 : decode cX11_misleads 98 = .ok (.invokestatic 389, 3) := o_184 BX11_misleads rfl rfl rfl
theorem dX11_misleads_101 : decode cX11_misleads 101 = .ok (.istore 5, 2) := o_54 BX11_misleads rfl rfl rfl
theorem dX11_misleads_103 : decode cX11_misleads 103 = .ok (.iload 5, 2) := o_21 BX11_misleads rfl rfl rfl
theorem dX11_misleads_105 : decode cX11_misleads 105 = .ok (.iload_n 3, 1) := o_29 BX11_misleads rfl rfl
theorem dX11_misleads_106 : decode cX11_misleads 106 = .ok (.if_icmp .le 8, 3) := o_164 BX11_misleads rfl rfl rfl
theorem dX11_misleads_109 : decode cX11_misleads 109 = .ok (.iload 4, 2) := o_21 BX11_misleads rfl rfl rfl
theorem dX11_misleads_111 : decode cX11_misleads 111 = .ok (.goto 4, 3) := o_167 BX11_misleads rfl rfl rfl
theorem dX11_misleads_114 : decode cX11_misleads 114 = .ok (.iload_n 2, 1) := o_28 BX11_misleads rfl rfl
theorem dX11_misleads_115 : decode cX11_misleads 115 = .ok (.istore_n 2, 1) := o_61 BX11_misleads rfl rfl
theorem dX11_misleads_116 : decode cX11_misleads 116 = .ok (.iload_n 3, 1) := o_29 BX11_misleads rfl rfl
theorem dX11_misleads_117 : decode cX11_misleads 117 = .ok (.iload 5, 2) := o_21 BX11_misleads rfl rfl rfl
theorem dX11_misleads_119 : decode cX11_misleads 119 = .ok (.invokestatic 435, 3) := o_184 BX11_misleads rfl rfl rfl
theorem dX11_misleads_122 : decode cX11_misleads 122 = .ok (.istore_n 3, 1) := o_62 BX11_misleads rfl rfl
theorem dX11_misleads_123 : decode cX11_misleads 123 = .ok (.iinc 4 1, 3) := o_132 BX11_misleads rfl rfl rfl rfl
theorem dX11_misleads_126 : decode cX11_misleads 126 = .ok (.goto (-99), 3) := o_167 BX11_misleads rfl rfl rfl
theorem dX11_misleads_129 : decode cX11_misleads 129 = .ok (.iload_n 2, 1) := o_28 BX11_misleads rfl rfl
theorem dX11_misleads_130 : decode cX11_misleads 130 = .ok (.iconst (-1), 1) := o_2 BX11_misleads rfl rfl
theorem dX11_misleads_131 : decode cX11_misleads 131 = .ok (.if_icmp .ne 6, 3) := o_160 BX11_misleads rfl rfl rfl
theorem dX11_misleads_134 : decode cX11_misleads 134 = .ok (.bipush (-2), 2) := o_16 BX11_misleads rfl rfl rfl
theorem dX11_misleads_136 : decode cX11_misleads 136 = .ok (.ireturn, 1) := o_172 BX11_misleads rfl rfl
theorem dX11_misleads_137 : decode cX11_misleads 137 = .ok (.aload_n 0, 1) := o_42 BX11_misleads rfl rfl
theorem dX11_misleads_138 : decode cX11_misleads 138 = .ok (.getfield 66, 3) := o_180 BX11_misleads rfl rfl rfl
theorem dX11_misleads_141 : decode cX11_misleads 141 = .ok (.iload_n 3, 1) := o_29 BX11_misleads rfl rfl
theorem dX11_misleads_142 : decode cX11_misleads 142 = .ok (.i2l, 1) := o_133 BX11_misleads rfl rfl
theorem dX11_misleads_143 : decode cX11_misleads 143 = .ok (.iload_n 1, 1) := o_27 BX11_misleads rfl rfl
theorem dX11_misleads_144 : decode cX11_misleads 144 = .ok (.aload_n 0, 1) := o_42 BX11_misleads rfl rfl
theorem dX11_misleads_145 : decode cX11_misleads 145 = .ok (.getfield 26, 3) := o_180 BX11_misleads rfl rfl rfl
theorem dX11_misleads_148 : decode cX11_misleads 148 = .ok (.aload_n 0, 1) := o_42 BX11_misleads rfl rfl
theorem dX11_misleads_149 : decode cX11_misleads 149 = .ok (.getfield 26, 3) := o_180 BX11_misleads rfl rfl rfl
theorem dX11_misleads_152 : decode cX11_misleads 152 = .ok (.getfield 250, 3) := o_180 BX11_misleads rfl rfl rfl
theorem dX11_misleads_155 : decode cX11_misleads 155 = .ok (.iload_n 2, 1) := o_28 BX11_misleads rfl rfl
theorem dX11_misleads_156 : decode cX11_misleads 156 = .ok (.invokevirtual 243, 3) := o_182 BX11_misleads rfl rfl rfl
theorem dX11_misleads_159 : decode cX11_misleads 159 = .ok (.iconst (-1), 1) := o_2 BX11_misleads rfl rfl
theorem dX11_misleads_160 : decode cX11_misleads 160 = .ok (.ixor, 1) := o_130 BX11_misleads rfl rfl
theorem dX11_misleads_161 : decode cX11_misleads 161 = .ok (.iand, 1) := o_126 BX11_misleads rfl rfl
theorem dX11_misleads_162 : decode cX11_misleads 162 = .ok (.invokestatic 389, 3) := o_184 BX11_misleads rfl rfl rfl
theorem dX11_misleads_165 : decode cX11_misleads 165 = .ok (.i2l, 1) := o_133 BX11_misleads rfl rfl
theorem dX11_misleads_166 : decode cX11_misleads 166 = .ok (.invokevirtual 298, 3) := o_182 BX11_misleads rfl rfl rfl
theorem dX11_misleads_169 : decode cX11_misleads 169 = .ok (.iload_n 2, 1) := o_28 BX11_misleads rfl rfl
theorem dX11_misleads_170 : decode cX11_misleads 170 = .ok (.ireturn, 1) := o_172 BX11_misleads rfl rfl
theorem dX11_crowd_0 : decode cX11_crowd 0 = .ok (.aload_n 0, 1) := o_42 BX11_crowd rfl rfl
theorem dX11_crowd_1 : decode cX11_crowd 1 = .ok (.getfield 26, 3) := o_180 BX11_crowd rfl rfl rfl
theorem dX11_crowd_4 : decode cX11_crowd 4 = .ok (.getfield 176, 3) := o_180 BX11_crowd rfl rfl rfl
theorem dX11_crowd_7 : decode cX11_crowd 7 = .ok (.ifCond .ne 6, 3) := o_154 BX11_crowd rfl rfl rfl
theorem dX11_crowd_10 : decode cX11_crowd 10 = .ok (.bipush (-2), 2) := o_16 BX11_crowd rfl rfl rfl
theorem dX11_crowd_12 : decode cX11_crowd 12 = .ok (.ireturn, 1) := o_172 BX11_crowd rfl rfl
theorem dX11_crowd_13 : decode cX11_crowd 13 = .ok (.aload_n 0, 1) := o_42 BX11_crowd rfl rfl
theorem dX11_crowd_14 : decode cX11_crowd 14 = .ok (.getfield 30, 3) := o_180 BX11_crowd rfl rfl rfl
theorem dX11_crowd_17 : decode cX11_crowd 17 = .ok (.aload_n 0, 1) := o_42 BX11_crowd rfl rfl
theorem dX11_crowd_18 : decode cX11_crowd 18 = .ok (.getfield 26, 3) := o_180 BX11_crowd rfl rfl rfl
theorem dX11_crowd_21 : decode cX11_crowd 21 = .ok (.invokevirtual 153, 3) := o_182 BX11_crowd rfl rfl rfl
theorem dX11_crowd_24 : decode cX11_crowd 24 = .ok (.aload_n 0, 1) := o_42 BX11_crowd rfl rfl
theorem dX11_crowd_25 : decode cX11_crowd 25 = .ok (.getfield 44, 3) := o_180 BX11_crowd rfl rfl rfl
theorem dX11_crowd_28 : decode cX11_crowd 28 = .ok (.aload_n 0, 1) := o_42 BX11_crowd rfl rfl
theorem dX11_crowd_29 : decode cX11_crowd 29 = .ok (.getfield 30, 3) := o_180 BX11_crowd rfl rfl rfl
theorem dX11_crowd_32 : decode cX11_crowd 32 = .ok (.aload_n 0, 1) := o_42 BX11_crowd rfl rfl
theorem dX11_crowd_33 : decode cX11_crowd 33 = .ok (.getfield 105, 3) := o_180 BX11_crowd rfl rfl rfl
theorem dX11_crowd_36 : decode cX11_crowd 36 = .ok (.invokevirtual 394, 3) := o_182 BX11_crowd rfl rfl rfl
theorem dX11_crowd_39 : decode cX11_crowd 39 = .ok (.iconst 0, 1) := o_3 BX11_crowd rfl rfl
theorem dX11_crowd_40 : decode cX11_crowd 40 = .ok (.istore_n 1, 1) := o_60 BX11_crowd rfl rfl
theorem dX11_crowd_41 : decode cX11_crowd 41 = .ok (.iconst (-1), 1) := o_2 BX11_crowd rfl rfl
theorem dX11_crowd_42 : decode cX11_crowd 42 = .ok (.istore_n 2, 1) := o_61 BX11_crowd rfl rfl
theorem dX11_crowd_43 : decode cX11_crowd 43 = .ok (.iconst 0, 1) := o_3 BX11_crowd rfl rfl
theorem dX11_crowd_44 : decode cX11_crowd 44 = .ok (.istore_n 3, 1) := o_62 BX11_crowd rfl rfl
theorem dX11_crowd_45 : decode cX11_crowd 45 = .ok (.iload_n 3, 1) := o_29 BX11_crowd rfl rfl
theorem dX11_crowd_46 : decode cX11_crowd 46 = .ok (.aload_n 0, 1) := o_42 BX11_crowd rfl rfl
theorem dX11_crowd_47 : decode cX11_crowd 47 = .ok (.getfield 30, 3) := o_180 BX11_crowd rfl rfl rfl
theorem dX11_crowd_50 : decode cX11_crowd 50 = .ok (.getfield 176, 3) := o_180 BX11_crowd rfl rfl rfl
theorem dX11_crowd_53 : decode cX11_crowd 53 = .ok (.if_icmp .ge 48, 3) := o_162 BX11_crowd rfl rfl rfl
theorem dX11_crowd_56 : decode cX11_crowd 56 = .ok (.aload_n 0, 1) := o_42 BX11_crowd rfl rfl
theorem dX11_crowd_57 : decode cX11_crowd 57 = .ok (.getfield 30, 3) := o_180 BX11_crowd rfl rfl rfl
theorem dX11_crowd_60 : decode cX11_crowd 60 = .ok (.aload_n 0, 1) := o_42 BX11_crowd rfl rfl
theorem dX11_crowd_61 : decode cX11_crowd 61 = .ok (.getfield 30, 3) := o_180 BX11_crowd rfl rfl rfl
theorem dX11_crowd_64 : decode cX11_crowd 64 = .ok (.getfield 247, 3) := o_180 BX11_crowd rfl rfl rfl
theorem dX11_crowd_67 : decode cX11_crowd 67 = .ok (.iload_n 3, 1) := o_29 BX11_crowd rfl rfl
theorem dX11_crowd_68 : decode cX11_crowd 68 = .ok (.invokevirtual 243, 3) := o_182 BX11_crowd rfl rfl rfl
theorem dX11_crowd_71 : decode cX11_crowd 71 = .ok (.invokestatic 389, 3) := o_184 BX11_crowd rfl rfl rfl
theorem dX11_crowd_74 : decode cX11_crowd 74 = .ok (.istore 4, 2) := o_54 BX11_crowd rfl rfl rfl
theorem dX11_crowd_76 : decode cX11_crowd 76 = .ok (.iload 4, 2) := o_21 BX11_crowd rfl rfl rfl
theorem dX11_crowd_78 : decode cX11_crowd 78 = .ok (.iload_n 2, 1) := o_28 BX11_crowd rfl rfl
theorem dX11_crowd_79 : decode cX11_crowd 79 = .ok (.if_icmp .le 7, 3) := o_164 BX11_crowd rfl rfl rfl
theorem dX11_crowd_82 : decode cX11_crowd 82 = .ok (.iload_n 3, 1) := o_29 BX11_crowd rfl rfl
theorem dX11_crowd_83 : decode cX11_crowd 83 = .ok (.goto 4, 3) := o_167 BX11_crowd rfl rfl rfl
theorem dX11_crowd_86 : decode cX11_crowd 86 = .ok (.iload_n 1, 1) := o_27 BX11_crowd rfl rfl
theorem dX11_crowd_87 : decode cX11_crowd 87 = .ok (.istore_n 1, 1) := o_60 BX11_crowd rfl rfl
theorem dX11_crowd_88 : decode cX11_crowd 88 = .ok (.iload_n 2, 1) := o_28 BX11_crowd rfl rfl
theorem dX11_crowd_89 : decode cX11_crowd 89 = .ok (.iload 4, 2) := o_21 BX11_crowd rfl rfl rfl
theorem dX11_crowd_91 : decode cX11_crowd 91 = .ok (.invokestatic 435, 3) := o_184 BX11_crowd rfl rfl rfl
theorem dX11_crowd_94 : decode cX11_crowd 94 = .ok (.istore_n 2, 1) := o_61 BX11_crowd rfl rfl
theorem dX11_crowd_95 : decode cX11_crowd 95 = .ok (.iinc 3 1, 3) := o_132 BX11_crowd rfl rfl rfl rfl
theorem dX11_crowd_98 : decode cX11_crowd 98 = .ok (.goto (-53), 3) := o_167 BX11_crowd rfl rfl rfl
theorem dX11_crowd_101 : decode cX11_crowd 101 = .ok (.aload_n 0, 1) := o_42 BX11_crowd rfl rfl
theorem dX11_crowd_102 : decode cX11_crowd 102 = .ok (.getfield 66, 3) := o_180 BX11_crowd rfl rfl rfl
theorem dX11_crowd_105 : decode cX11_crowd 105 = .ok (.iload_n 2, 1) := o_28 BX11_crowd rfl rfl
theorem dX11_crowd_106 : decode cX11_crowd 106 = .ok (.i2l, 1) := o_133 BX11_crowd rfl rfl
theorem dX11_crowd_107 : decode cX11_crowd 107 = .ok (.aload_n 0, 1) := o_42 BX11_crowd rfl rfl
theorem dX11_crowd_108 : decode cX11_crowd 108 = .ok (.getfield 30, 3) := o_180 BX11_crowd rfl rfl rfl
theorem dX11_crowd_111 : decode cX11_crowd 111 = .ok (.invokevirtual 397, 3) := o_182 BX11_crowd rfl rfl rfl
theorem dX11_crowd_114 : decode cX11_crowd 114 = .ok (.aload_n 0, 1) := o_42 BX11_crowd rfl rfl
theorem dX11_crowd_115 : decode cX11_crowd 115 = .ok (.getfield 30, 3) := o_180 BX11_crowd rfl rfl rfl
theorem dX11_crowd_118 : decode cX11_crowd 118 = .ok (.aload_n 0, 1) := o_42 BX11_crowd rfl rfl
theorem dX11_crowd_119 : decode cX11_crowd 119 = .ok (.getfield 30, 3) := o_180 BX11_crowd rfl rfl rfl
theorem dX11_crowd_122 : decode cX11_crowd 122 = .ok (.getfield 250, 3) := o_180 BX11_crowd rfl rfl rfl
theorem dX11_crowd_125 : decode cX11_crowd 125 = .ok (.iload_n 1, 1) := o_27 BX11_crowd rfl rfl
theorem dX11_crowd_126 : decode cX11_crowd 126 = .ok (.invokevirtual 243, 3) := o_182 BX11_crowd rfl rfl rfl
theorem dX11_crowd_129 : decode cX11_crowd 129 = .ok (.iand, 1) := o_126 BX11_crowd rfl rfl
theorem dX11_crowd_130 : decode cX11_crowd 130 = .ok (.invokestatic 389, 3) := o_184 BX11_crowd rfl rfl rfl
theorem dX11_crowd_133 : decode cX11_crowd 133 = .ok (.i2l, 1) := o_133 BX11_crowd rfl rfl
theorem dX11_crowd_134 : decode cX11_crowd 134 = .ok (.invokevirtual 298, 3) := o_182 BX11_crowd rfl rfl rfl
theorem dX11_crowd_137 : decode cX11_crowd 137 = .ok (.iload_n 1, 1) := o_27 BX11_crowd rfl rfl
theorem dX11_crowd_138 : decode cX11_crowd 138 = .ok (.ireturn, 1) := o_172 BX11_crowd rfl rfl
theorem dX11_shares_0 : decode cX11_shares 0 = .ok (.iload_n 1, 1) := o_27 BX11_shares rfl rfl
theorem dX11_shares_1 : decode cX11_shares 1 = .ok (.ifCond .lt 9, 3) := o_155 BX11_shares rfl rfl rfl
theorem dX11_shares_4 : decode cX11_shares 4 = .ok (.iload_n 1, 1) := o_27 BX11_shares rfl rfl
theorem dX11_shares_5 : decode cX11_shares 5 = .ok (.bipush 30, 2) := o_16 BX11_shares rfl rfl rfl
theorem dX11_shares_7 : decode cX11_shares 7 = .ok (.if_icmp .le 5, 3) := o_164 BX11_shares rfl rfl rfl
theorem dX11_shares_10 : decode cX11_shares 10 = .ok (.iconst (-1), 1) := o_2 BX11_shares rfl rfl
theorem dX11_shares_11 : decode cX11_shares 11 = .ok (.ireturn, 1) := o_172 BX11_shares rfl rfl
theorem dX11_shares_12 : decode cX11_shares 12 = .ok (.aload_n 0, 1) := o_42 BX11_shares rfl rfl
theorem dX11_shares_13 : decode cX11_shares 13 = .ok (.getfield 73, 3) := o_180 BX11_shares rfl rfl rfl
theorem dX11_shares_16 : decode cX11_shares 16 = .ok (.aload_n 0, 1) := o_42 BX11_shares rfl rfl
theorem dX11_shares_17 : decode cX11_shares 17 = .ok (.getfield 26, 3) := o_180 BX11_shares rfl rfl rfl
theorem dX11_shares_20 : decode cX11_shares 20 = .ok (.iload_n 1, 1) := o_27 BX11_shares rfl rfl
theorem dX11_shares_21 : decode cX11_shares 21 = .ok (.invokevirtual 440, 3) := o_182 BX11_shares rfl rfl rfl
theorem dX11_shares_24 : decode cX11_shares 24 = .ok (.istore_n 2, 1) := o_61 BX11_shares rfl rfl
theorem dX11_shares_25 : decode cX11_shares 25 = .ok (.aload_n 0, 1) := o_42 BX11_shares rfl rfl
theorem dX11_shares_26 : decode cX11_shares 26 = .ok (.getfield 66, 3) := o_180 BX11_shares rfl rfl rfl
theorem dX11_shares_29 : decode cX11_shares 29 = .ok (.invokevirtual 349, 3) := o_182 BX11_shares rfl rfl rfl
theorem dX11_shares_32 : decode cX11_shares 32 = .ok (.iconst 0, 1) := o_3 BX11_shares rfl rfl
theorem dX11_shares_33 : decode cX11_shares 33 = .ok (.istore_n 3, 1) := o_62 BX11_shares rfl rfl
theorem dX11_shares_34 : decode cX11_shares 34 = .ok (.iconst 0, 1) := o_3 BX11_shares rfl rfl
theorem dX11_shares_35 : decode cX11_shares 35 = .ok (.istore 4, 2) := o_54 BX11_shares rfl rfl rfl
theorem dX11_shares_37 : decode cX11_shares 37 = .ok (.iload 4, 2) := o_21 BX11_shares rfl rfl rfl
theorem dX11_shares_39 : decode cX11_shares 39 = .ok (.aload_n 0, 1) := o_42 BX11_shares rfl rfl
theorem dX11_shares_40 : decode cX11_shares 40 = .ok (.getfield 26, 3) := o_180 BX11_shares rfl rfl rfl
theorem dX11_shares_43 : decode cX11_shares 43 = .ok (.getfield 191, 3) := o_180 BX11_shares rfl rfl rfl
theorem dX11_shares_46 : decode cX11_shares 46 = .ok (.if_icmp .ge 52, 3) := o_162 BX11_shares rfl rfl rfl
theorem dX11_shares_49 : decode cX11_shares 49 = .ok (.aload_n 0, 1) := o_42 BX11_shares rfl rfl
theorem dX11_shares_50 : decode cX11_shares 50 = .ok (.getfield 73, 3) := o_180 BX11_shares rfl rfl rfl
theorem dX11_shares_53 : decode cX11_shares 53 = .ok (.aload_n 0, 1) := o_42 BX11_shares rfl rfl
theorem dX11_shares_54 : decode cX11_shares 54 = .ok (.getfield 26, 3) := o_180 BX11_shares rfl rfl rfl
theorem dX11_shares_57 : decode cX11_shares 57 = .ok (.iload 4, 2) := o_21 BX11_shares rfl rfl rfl
theorem dX11_shares_59 : decode cX11_shares 59 = .ok (.iload_n 3, 1) := o_29 BX11_shares rfl rfl
theorem dX11_shares_60 : decode cX11_shares 60 = .ok (.invokevirtual 444, 3) := o_182 BX11_shares rfl rfl rfl
theorem dX11_shares_63 : decode cX11_shares 63 = .ok (.istore 5, 2) := o_54 BX11_shares rfl rfl rfl
theorem dX11_shares_65 : decode cX11_shares 65 = .ok (.iload_n 3, 1) := o_29 BX11_shares rfl rfl
theorem dX11_shares_66 : decode cX11_shares 66 = .ok (.iload 5, 2) := o_21 BX11_shares rfl rfl rfl
theorem dX11_shares_68 : decode cX11_shares 68 = .ok (.iconst (-1), 1) := o_2 BX11_shares rfl rfl
theorem dX11_shares_69 : decode cX11_shares 69 = .ok (.if_icmp .ne 7, 3) := o_160 BX11_shares rfl rfl rfl
theorem dX11_shares_72 : decode cX11_shares 72 = .ok (.iconst 0, 1) := o_3 BX11_shares rfl rfl
theorem dX11_shares_73 : decode cX11_shares 73 = .ok (.goto 7, 3) := o_167 BX11_shares rfl rfl rfl
theorem dX11_shares_76 : decode cX11_shares 76 = .ok (.iconst 1, 1) := o_4 BX11_shares rfl rfl
theorem dX11_shares_77 : decode cX11_shares 77 = .ok (.iload 5, 2) := o_21 BX11_shares rfl rfl rfl
theorem dX11_shares_79 : decode cX11_shares 79 = .ok (.ishl, 1) := o_120 BX11_shares rfl rfl
theorem dX11_shares_80 : decode cX11_shares 80 = .ok (.ior, 1) := o_128 BX11_shares rfl rfl
theorem dX11_shares_81 : decode cX11_shares 81 = .ok (.istore_n 3, 1) := o_62 BX11_shares rfl rfl
theorem dX11_shares_82 : decode cX11_shares 82 = .ok (.aload_n 0, 1) := o_42 BX11_shares rfl rfl
theorem dX11_shares_83 : decode cX11_shares 83 = .ok (.getfield 66, 3) := o_180 BX11_shares rfl rfl rfl
theorem dX11_shares_86 : decode cX11_shares 86 = .ok (.iload 5, 2) := o_21 BX11_shares rfl rfl rfl
theorem dX11_shares_88 : decode cX11_shares 88 = .ok (.i2l, 1) := o_133 BX11_shares rfl rfl
theorem dX11_shares_89 : decode cX11_shares 89 = .ok (.invokevirtual 356, 3) := o_182 BX11_shares rfl rfl rfl
theorem dX11_shares_92 : decode cX11_shares 92 = .ok (.iinc 4 1, 3) := o_132 BX11_shares rfl rfl rfl rfl
theorem dX11_shares_95 : decode cX11_shares 95 = .ok (.goto (-58), 3) := o_167 BX11_shares rfl rfl rfl
theorem dX11_shares_98 : decode cX11_shares 98 = .ok (.iload_n 2, 1) := o_28 BX11_shares rfl rfl
theorem dX11_shares_99 : decode cX11_shares 99 = .ok (.ireturn, 1) := o_172 BX11_shares rfl rfl
theorem dX11_strangers_0 : decode cX11_strangers 0 = .ok (.bipush 30, 2) := o_16 BX11_strangers rfl rfl rfl
theorem dX11_strangers_2 : decode cX11_strangers 2 = .ok (.istore_n 1, 1) := o_60 BX11_strangers rfl rfl
theorem dX11_strangers_3 : decode cX11_strangers 3 = .ok (.iconst 0, 1) := o_3 BX11_strangers rfl rfl
theorem dX11_strangers_4 : decode cX11_strangers 4 = .ok (.istore_n 2, 1) := o_61 BX11_strangers rfl rfl
theorem dX11_strangers_5 : decode cX11_strangers 5 = .ok (.iload_n 2, 1) := o_28 BX11_strangers rfl rfl
theorem dX11_strangers_6 : decode cX11_strangers 6 = .ok (.aload_n 0, 1) := o_42 BX11_strangers rfl rfl
theorem dX11_strangers_7 : decode cX11_strangers 7 = .ok (.getfield 26, 3) := o_180 BX11_strangers rfl rfl rfl
theorem dX11_strangers_10 : decode cX11_strangers 10 = .ok (.getfield 191, 3) := o_180 BX11_strangers rfl rfl rfl
theorem dX11_strangers_13 : decode cX11_strangers 13 = .ok (.if_icmp .ge 129, 3) := o_162 BX11_strangers rfl rfl rfl
theorem dX11_strangers_16 : decode cX11_strangers 16 = .ok (.iload_n 2, 1) := o_28 BX11_strangers rfl rfl
theorem dX11_strangers_17 : decode cX11_strangers 17 = .ok (.iconst 1, 1) := o_4 BX11_strangers rfl rfl
theorem dX11_strangers_18 : decode cX11_strangers 18 = .ok (.iadd, 1) := o_96 BX11_strangers rfl rfl
theorem dX11_strangers_19 : decode cX11_strangers 19 = .ok (.istore_n 3, 1) := o_62 BX11_strangers rfl rfl
theorem dX11_strangers_20 : decode cX11_strangers 20 = .ok (.iload_n 3, 1) := o_29 BX11_strangers rfl rfl
theorem dX11_strangers_21 : decode cX11_strangers 21 = .ok (.aload_n 0, 1) := o_42 BX11_strangers rfl rfl
theorem dX11_strangers_22 : decode cX11_strangers 22 = .ok (.getfield 26, 3) := o_180 BX11_strangers rfl rfl rfl
theorem dX11_strangers_25 : decode cX11_strangers 25 = .ok (.getfield 191, 3) := o_180 BX11_strangers rfl rfl rfl
theorem dX11_strangers_28 : decode cX11_strangers 28 = .ok (.if_icmp .ge 108, 3) := o_162 BX11_strangers rfl rfl rfl
theorem dX11_strangers_31 : decode cX11_strangers 31 = .ok (.aload_n 0, 1) := o_42 BX11_strangers rfl rfl
theorem dX11_strangers_32 : decode cX11_strangers 32 = .ok (.getfield 26, 3) := o_180 BX11_strangers rfl rfl rfl
theorem dX11_strangers_35 : decode cX11_strangers 35 = .ok (.iload_n 2, 1) := o_28 BX11_strangers rfl rfl
theorem dX11_strangers_36 : decode cX11_strangers 36 = .ok (.invokevirtual 278, 3) := o_182 BX11_strangers rfl rfl rfl
theorem dX11_strangers_39 : decode cX11_strangers 39 = .ok (.ifCond .ne 39, 3) := o_154 BX11_strangers rfl rfl rfl
theorem dX11_strangers_42 : decode cX11_strangers 42 = .ok (.aload_n 0, 1) := o_42 BX11_strangers rfl rfl
theorem dX11_strangers_43 : decode cX11_strangers 43 = .ok (.getfield 26, 3) := o_180 BX11_strangers rfl rfl rfl
theorem dX11_strangers_46 : decode cX11_strangers 46 = .ok (.iload_n 3, 1) := o_29 BX11_strangers rfl rfl
theorem dX11_strangers_47 : decode cX11_strangers 47 = .ok (.invokevirtual 278, 3) := o_182 BX11_strangers rfl rfl rfl
theorem dX11_strangers_50 : decode cX11_strangers 50 = .ok (.ifCond .ne 28, 3) := o_154 BX11_strangers rfl rfl rfl
theorem dX11_strangers_53 : decode cX11_strangers 53 = .ok (.aload_n 0, 1) := o_42 BX11_strangers rfl rfl
theorem dX11_strangers_54 : decode cX11_strangers 54 = .ok (.getfield 26, 3) := o_180 BX11_strangers rfl rfl rfl
theorem dX11_strangers_57 : decode cX11_strangers 57 = .ok (.getfield 250, 3) := o_180 BX11_strangers rfl rfl rfl
theorem dX11_strangers_60 : decode cX11_strangers 60 = .ok (.iload_n 2, 1) := o_28 BX11_strangers rfl rfl
theorem dX11_strangers_61 : decode cX11_strangers 61 = .ok (.iaload, 1) := o_46 BX11_strangers rfl rfl
theorem dX11_strangers_62 : decode cX11_strangers 62 = .ok (.aload_n 0, 1) := o_42 BX11_strangers rfl rfl
theorem dX11_strangers_63 : decode cX11_strangers 63 = .ok (.getfield 26, 3) := o_180 BX11_strangers rfl rfl rfl
theorem dX11_strangers_66 : decode cX11_strangers 66 = .ok (.getfield 250, 3) := o_180 BX11_strangers rfl rfl rfl
theorem dX11_strangers_69 : decode cX11_strangers 69 = .ok (.iload_n 3, 1) := o_29 BX11_strangers rfl rfl
theorem dX11_strangers_70 : decode cX11_strangers 70 = .ok (.iaload, 1) := o_46 BX11_strangers rfl rfl
theorem dX11_strangers_71 : decode cX11_strangers 71 = .ok (.if_icmp .eq 7, 3) := o_159 BX11_strangers rfl rfl rfl
theorem dX11_strangers_74 : decode cX11_strangers 74 = .ok (.iconst 1, 1) := o_4 BX11_strangers rfl rfl
theorem dX11_strangers_75 : decode cX11_strangers 75 = .ok (.goto 4, 3) := o_167 BX11_strangers rfl rfl rfl
theorem dX11_strangers_78 : decode cX11_strangers 78 = .ok (.iconst 0, 1) := o_3 BX11_strangers rfl rfl
theorem dX11_strangers_79 : decode cX11_strangers 79 = .ok (.istore 4, 2) := o_54 BX11_strangers rfl rfl rfl
theorem dX11_strangers_81 : decode cX11_strangers 81 = .ok (.aload_n 0, 1) := o_42 BX11_strangers rfl rfl
theorem dX11_strangers_82 : decode cX11_strangers 82 = .ok (.getfield 26, 3) := o_180 BX11_strangers rfl rfl rfl
theorem dX11_strangers_85 : decode cX11_strangers 85 = .ok (.getfield 270, 3) := o_180 BX11_strangers rfl rfl rfl
theorem dX11_strangers_88 : decode cX11_strangers 88 = .ok (.iload_n 2, 1) := o_28 BX11_strangers rfl rfl
theorem dX11_strangers_89 : decode cX11_strangers 89 = .ok (.iaload, 1) := o_46 BX11_strangers rfl rfl
theorem dX11_strangers_90 : decode cX11_strangers 90 = .ok (.aload_n 0, 1) := o_42 BX11_strangers rfl rfl
theorem dX11_strangers_91 : decode cX11_strangers 91 = .ok (.getfield 26, 3) := o_180 BX11_strangers rfl rfl rfl
theorem dX11_strangers_94 : decode cX11_strangers 94 = .ok (.getfield 270, 3) := o_180 BX11_strangers rfl rfl rfl
theorem dX11_strangers_97 : decode cX11_strangers 97 = .ok (.iload_n 3, 1) := o_29 BX11_strangers rfl rfl
theorem dX11_strangers_98 : decode cX11_strangers 98 = .ok (.iaload, 1) := o_46 BX11_strangers rfl rfl
theorem dX11_strangers_99 : decode cX11_strangers 99 = .ok (.isub, 1) := o_100 BX11_strangers rfl rfl
theorem dX11_strangers_100 : decode cX11_strangers 100 = .ok (.invokestatic 448, 3) := o_184 BX11_strangers rfl rfl rfl
theorem dX11_strangers_103 : decode cX11_strangers 103 = .ok (.istore 5, 2) := o_54 BX11_strangers rfl rfl rfl
theorem dX11_strangers_105 : decode cX11_strangers 105 = .ok (.iload 4, 2) := o_21 BX11_strangers rfl rfl rfl
theorem dX11_strangers_107 : decode cX11_strangers 107 = .ok (.ifCond .eq 23, 3) := o_153 BX11_strangers rfl rfl rfl
theorem dX11_strangers_110 : decode cX11_strangers 110 = .ok (.iload 5, 2) := o_21 BX11_strangers rfl rfl rfl
theorem dX11_strangers_112 : decode cX11_strangers 112 = .ok (.iload_n 1, 1) := o_27 BX11_strangers rfl rfl
theorem dX11_strangers_113 : decode cX11_strangers 113 = .ok (.if_icmp .ge 17, 3) := o_162 BX11_strangers rfl rfl rfl
theorem dX11_strangers_116 : decode cX11_strangers 116 = .ok (.iload 5, 2) := o_21 BX11_strangers rfl rfl rfl
theorem dX11_strangers_118 : decode cX11_strangers 118 = .ok (.istore_n 1, 1) := o_60 BX11_strangers rfl rfl
theorem dX11_strangers_119 : decode cX11_strangers 119 = .ok (.aload_n 0, 1) := o_42 BX11_strangers rfl rfl
theorem dX11_strangers_120 : decode cX11_strangers 120 = .ok (.getfield 66, 3) := o_180 BX11_strangers rfl rfl rfl
theorem dX11_strangers_123 : decode cX11_strangers 123 = .ok (.iload_n 2, 1) := o_28 BX11_strangers rfl rfl
theorem dX11_strangers_124 : decode cX11_strangers 124 = .ok (.i2l, 1) := o_133 BX11_strangers rfl rfl
theorem dX11_strangers_125 : decode cX11_strangers 125 = .ok (.iload_n 3, 1) := o_29 BX11_strangers rfl rfl
theorem dX11_strangers_126 : decode cX11_strangers 126 = .ok (.i2l, 1) := o_133 BX11_strangers rfl rfl
theorem dX11_strangers_127 : decode cX11_strangers 127 = .ok (.invokevirtual 298, 3) := o_182 BX11_strangers rfl rfl rfl
theorem dX11_strangers_130 : decode cX11_strangers 130 = .ok (.iinc 3 1, 3) := o_132 BX11_strangers rfl rfl rfl rfl
theorem dX11_strangers_133 : decode cX11_strangers 133 = .ok (.goto (-113), 3) := o_167 BX11_strangers rfl rfl rfl
theorem dX11_strangers_136 : decode cX11_strangers 136 = .ok (.iinc 2 1, 3) := o_132 BX11_strangers rfl rfl rfl rfl
theorem dX11_strangers_139 : decode cX11_strangers 139 = .ok (.goto (-134), 3) := o_167 BX11_strangers rfl rfl rfl
theorem dX11_strangers_142 : decode cX11_strangers 142 = .ok (.iload_n 1, 1) := o_27 BX11_strangers rfl rfl
theorem dX11_strangers_143 : decode cX11_strangers 143 = .ok (.bipush 30, 2) := o_16 BX11_strangers rfl rfl rfl
theorem dX11_strangers_145 : decode cX11_strangers 145 = .ok (.if_icmp .ge 7, 3) := o_162 BX11_strangers rfl rfl rfl
theorem dX11_strangers_148 : decode cX11_strangers 148 = .ok (.iload_n 1, 1) := o_27 BX11_strangers rfl rfl
theorem dX11_strangers_149 : decode cX11_strangers 149 = .ok (.goto 5, 3) := o_167 BX11_strangers rfl rfl rfl
theorem dX11_strangers_152 : decode cX11_strangers 152 = .ok (.bipush (-2), 2) := o_16 BX11_strangers rfl rfl rfl
theorem dX11_strangers_154 : decode cX11_strangers 154 = .ok (.ireturn, 1) := o_172 BX11_strangers rfl rfl
theorem dX11_doubts_0 : decode cX11_doubts 0 = .ok (.iconst 0, 1) := o_3 BX11_doubts rfl rfl
theorem dX11_doubts_1 : decode cX11_doubts 1 = .ok (.istore_n 1, 1) := o_60 BX11_doubts rfl rfl
theorem dX11_doubts_2 : decode cX11_doubts 2 = .ok (.iconst 0, 1) := o_3 BX11_doubts rfl rfl
theorem dX11_doubts_3 : decode cX11_doubts 3 = .ok (.istore_n 2, 1) := o_61 BX11_doubts rfl rfl
theorem dX11_doubts_4 : decode cX11_doubts 4 = .ok (.iload_n 2, 1) := o_28 BX11_doubts rfl rfl
theorem dX11_doubts_5 : decode cX11_doubts 5 = .ok (.aload_n 0, 1) := o_42 BX11_doubts rfl rfl
theorem dX11_doubts_6 : decode cX11_doubts 6 = .ok (.getfield 26, 3) := o_180 BX11_doubts rfl rfl rfl
theorem dX11_doubts_9 : decode cX11_doubts 9 = .ok (.getfield 191, 3) := o_180 BX11_doubts rfl rfl rfl
theorem dX11_doubts_12 : decode cX11_doubts 12 = .ok (.if_icmp .ge 30, 3) := o_162 BX11_doubts rfl rfl rfl
theorem dX11_doubts_15 : decode cX11_doubts 15 = .ok (.iload_n 1, 1) := o_27 BX11_doubts rfl rfl
theorem dX11_doubts_16 : decode cX11_doubts 16 = .ok (.aload_n 0, 1) := o_42 BX11_doubts rfl rfl
theorem dX11_doubts_17 : decode cX11_doubts 17 = .ok (.getfield 26, 3) := o_180 BX11_doubts rfl rfl rfl
theorem dX11_doubts_20 : decode cX11_doubts 20 = .ok (.iload_n 2, 1) := o_28 BX11_doubts rfl rfl
theorem dX11_doubts_21 : decode cX11_doubts 21 = .ok (.invokevirtual 451, 3) := o_182 BX11_doubts rfl rfl rfl
theorem dX11_doubts_24 : decode cX11_doubts 24 = .ok (.ifCond .eq 9, 3) := o_153 BX11_doubts rfl rfl rfl
theorem dX11_doubts_27 : decode cX11_doubts 27 = .ok (.iconst 1, 1) := o_4 BX11_doubts rfl rfl
theorem dX11_doubts_28 : decode cX11_doubts 28 = .ok (.iload_n 2, 1) := o_28 BX11_doubts rfl rfl
theorem dX11_doubts_29 : decode cX11_doubts 29 = .ok (.ishl, 1) := o_120 BX11_doubts rfl rfl
theorem dX11_doubts_30 : decode cX11_doubts 30 = .ok (.goto 4, 3) := o_167 BX11_doubts rfl rfl rfl
theorem dX11_doubts_33 : decode cX11_doubts 33 = .ok (.iconst 0, 1) := o_3 BX11_doubts rfl rfl
theorem dX11_doubts_34 : decode cX11_doubts 34 = .ok (.ior, 1) := o_128 BX11_doubts rfl rfl
theorem dX11_doubts_35 : decode cX11_doubts 35 = .ok (.istore_n 1, 1) := o_60 BX11_doubts rfl rfl
theorem dX11_doubts_36 : decode cX11_doubts 36 = .ok (.iinc 2 1, 3) := o_132 BX11_doubts rfl rfl rfl rfl
theorem dX11_doubts_39 : decode cX11_doubts 39 = .ok (.goto (-35), 3) := o_167 BX11_doubts rfl rfl rfl
theorem dX11_doubts_42 : decode cX11_doubts 42 = .ok (.aload_n 0, 1) := o_42 BX11_doubts rfl rfl
theorem dX11_doubts_43 : decode cX11_doubts 43 = .ok (.getfield 66, 3) := o_180 BX11_doubts rfl rfl rfl
theorem dX11_doubts_46 : decode cX11_doubts 46 = .ok (.iload_n 1, 1) := o_27 BX11_doubts rfl rfl
theorem dX11_doubts_47 : decode cX11_doubts 47 = .ok (.invokestatic 389, 3) := o_184 BX11_doubts rfl rfl rfl
theorem dX11_doubts_50 : decode cX11_doubts 50 = .ok (.i2l, 1) := o_133 BX11_doubts rfl rfl
theorem dX11_doubts_51 : decode cX11_doubts 51 = .ok (.invokevirtual 366, 3) := o_182 BX11_doubts rfl rfl rfl
theorem dX11_doubts_54 : decode cX11_doubts 54 = .ok (.iload_n 1, 1) := o_27 BX11_doubts rfl rfl
theorem dX11_doubts_55 : decode cX11_doubts 55 = .ok (.ireturn, 1) := o_172 BX11_doubts rfl rfl
theorem dX11_heard_0 : decode cX11_heard 0 = .ok (.aload_n 0, 1) := o_42 BX11_heard rfl rfl
theorem dX11_heard_1 : decode cX11_heard 1 = .ok (.getfield 87, 3) := o_180 BX11_heard rfl rfl rfl
theorem dX11_heard_4 : decode cX11_heard 4 = .ok (.iload_n 1, 1) := o_27 BX11_heard rfl rfl
theorem dX11_heard_5 : decode cX11_heard 5 = .ok (.iload_n 2, 1) := o_28 BX11_heard rfl rfl
theorem dX11_heard_6 : decode cX11_heard 6 = .ok (.invokevirtual 454, 3) := o_182 BX11_heard rfl rfl rfl
theorem dX11_heard_9 : decode cX11_heard 9 = .ok (.ifCond .eq 13, 3) := o_153 BX11_heard rfl rfl rfl
theorem dX11_heard_12 : decode cX11_heard 12 = .ok (.aload_n 0, 1) := o_42 BX11_heard rfl rfl
theorem dX11_heard_13 : decode cX11_heard 13 = .ok (.getfield 87, 3) := o_180 BX11_heard rfl rfl rfl
theorem dX11_heard_16 : decode cX11_heard 16 = .ok (.getfield 456, 3) := o_180 BX11_heard rfl rfl rfl
theorem dX11_heard_19 : decode cX11_heard 19 = .ok (.goto 4, 3) := o_167 BX11_heard rfl rfl rfl
theorem dX11_heard_22 : decode cX11_heard 22 = .ok (.iconst (-1), 1) := o_2 BX11_heard rfl rfl
theorem dX11_heard_23 : decode cX11_heard 23 = .ok (.ireturn, 1) := o_172 BX11_heard rfl rfl
theorem dX11_forget_0 : decode cX11_forget 0 = .ok (.aload_n 0, 1) := o_42 BX11_forget rfl rfl
theorem dX11_forget_1 : decode cX11_forget 1 = .ok (.getfield 87, 3) := o_180 BX11_forget rfl rfl rfl
theorem dX11_forget_4 : decode cX11_forget 4 = .ok (.getfield 456, 3) := o_180 BX11_forget rfl rfl rfl
theorem dX11_forget_7 : decode cX11_forget 7 = .ok (.istore_n 1, 1) := o_60 BX11_forget rfl rfl
theorem dX11_forget_8 : decode cX11_forget 8 = .ok (.aload_n 0, 1) := o_42 BX11_forget rfl rfl
theorem dX11_forget_9 : decode cX11_forget 9 = .ok (.getfield 87, 3) := o_180 BX11_forget rfl rfl rfl
theorem dX11_forget_12 : decode cX11_forget 12 = .ok (.iconst 0, 1) := o_3 BX11_forget rfl rfl
theorem dX11_forget_13 : decode cX11_forget 13 = .ok (.putfield 456, 3) := o_181 BX11_forget rfl rfl rfl
theorem dX11_forget_16 : decode cX11_forget 16 = .ok (.iload_n 1, 1) := o_27 BX11_forget rfl rfl
theorem dX11_forget_17 : decode cX11_forget 17 = .ok (.ireturn, 1) := o_172 BX11_forget rfl rfl
theorem dX11_fits_0 : decode cX11_fits 0 = .ok (.aload_n 0, 1) := o_42 BX11_fits rfl rfl
theorem dX11_fits_1 : decode cX11_fits 1 = .ok (.getfield 30, 3) := o_180 BX11_fits rfl rfl rfl
theorem dX11_fits_4 : decode cX11_fits 4 = .ok (.aload_n 0, 1) := o_42 BX11_fits rfl rfl
theorem dX11_fits_5 : decode cX11_fits 5 = .ok (.getfield 26, 3) := o_180 BX11_fits rfl rfl rfl
theorem dX11_fits_8 : decode cX11_fits 8 = .ok (.invokevirtual 153, 3) := o_182 BX11_fits rfl rfl rfl
theorem dX11_fits_11 : decode cX11_fits 11 = .ok (.aload_n 0, 1) := o_42 BX11_fits rfl rfl
theorem dX11_fits_12 : decode cX11_fits 12 = .ok (.getfield 44, 3) := o_180 BX11_fits rfl rfl rfl
theorem dX11_fits_15 : decode cX11_fits 15 = .ok (.aload_n 0, 1) := o_42 BX11_fits rfl rfl
theorem dX11_fits_16 : decode cX11_fits 16 = .ok (.getfield 30, 3) := o_180 BX11_fits rfl rfl rfl
theorem dX11_fits_19 : decode cX11_fits 19 = .ok (.aload_n 0, 1) := o_42 BX11_fits rfl rfl
theorem dX11_fits_20 : decode cX11_fits 20 = .ok (.getfield 105, 3) := o_180 BX11_fits rfl rfl rfl
theorem dX11_fits_23 : decode cX11_fits 23 = .ok (.sipush 200, 3) := o_17 BX11_fits rfl rfl rfl
theorem dX11_fits_26 : decode cX11_fits 26 = .ok (.invokevirtual 288, 3) := o_182 BX11_fits rfl rfl rfl
theorem dX11_fits_29 : decode cX11_fits 29 = .ok (.iconst 0, 1) := o_3 BX11_fits rfl rfl
theorem dX11_fits_30 : decode cX11_fits 30 = .ok (.istore_n 1, 1) := o_60 BX11_fits rfl rfl
theorem dX11_fits_31 : decode cX11_fits 31 = .ok (.iconst 0, 1) := o_3 BX11_fits rfl rfl
theorem dX11_fits_32 : decode cX11_fits 32 = .ok (.istore_n 2, 1) := o_61 BX11_fits rfl rfl
theorem dX11_fits_33 : decode cX11_fits 33 = .ok (.iload_n 2, 1) := o_28 BX11_fits rfl rfl
theorem dX11_fits_34 : decode cX11_fits 34 = .ok (.aload_n 0, 1) := o_42 BX11_fits rfl rfl
theorem dX11_fits_35 : decode cX11_fits 35 = .ok (.getfield 30, 3) := o_180 BX11_fits rfl rfl rfl
theorem dX11_fits_38 : decode cX11_fits 38 = .ok (.getfield 176, 3) := o_180 BX11_fits rfl rfl rfl
theorem dX11_fits_41 : decode cX11_fits 41 = .ok (.if_icmp .ge 34, 3) := o_162 BX11_fits rfl rfl rfl
theorem dX11_fits_44 : decode cX11_fits 44 = .ok (.iload_n 1, 1) := o_27 BX11_fits rfl rfl
theorem dX11_fits_45 : decode cX11_fits 45 = .ok (.aload_n 0, 1) := o_42 BX11_fits rfl rfl
theorem dX11_fits_46 : decode cX11_fits 46 = .ok (.getfield 87, 3) := o_180 BX11_fits rfl rfl rfl
theorem dX11_fits_49 : decode cX11_fits 49 = .ok (.aload_n 0, 1) := o_42 BX11_fits rfl rfl
theorem dX11_fits_50 : decode cX11_fits 50 = .ok (.getfield 30, 3) := o_180 BX11_fits rfl rfl rfl
theorem dX11_fits_53 : decode cX11_fits 53 = .ok (.iload_n 2, 1) := o_28 BX11_fits rfl rfl
theorem dX11_fits_54 : decode cX11_fits 54 = .ok (.invokevirtual 457, 3) := o_182 BX11_fits rfl rfl rfl
theorem dX11_fits_57 : decode cX11_fits 57 = .ok (.ifCond .eq 9, 3) := o_153 BX11_fits rfl rfl rfl
theorem dX11_fits_60 : decode cX11_fits 60 = .ok (.iconst 1, 1) := o_4 BX11_fits rfl rfl
theorem dX11_fits_61 : decode cX11_fits 61 = .ok (.iload_n 2, 1) := o_28 BX11_fits rfl rfl
theorem dX11_fits_62 : decode cX11_fits 62 = .ok (.ishl, 1) := o_120 BX11_fits rfl rfl
theorem dX11_fits_63 : decode cX11_fits 63 = .ok (.goto 4, 3) := o_167 BX11_fits rfl rfl rfl
theorem dX11_fits_66 : decode cX11_fits 66 = .ok (.iconst 0, 1) := o_3 BX11_fits rfl rfl
theorem dX11_fits_67 : decode cX11_fits 67 = .ok (.ior, 1) := o_128 BX11_fits rfl rfl
theorem dX11_fits_68 : decode cX11_fits 68 = .ok (.istore_n 1, 1) := o_60 BX11_fits rfl rfl
theorem dX11_fits_69 : decode cX11_fits 69 = .ok (.iinc 2 1, 3) := o_132 BX11_fits rfl rfl rfl rfl
theorem dX11_fits_72 : decode cX11_fits 72 = .ok (.goto (-39), 3) := o_167 BX11_fits rfl rfl rfl
theorem dX11_fits_75 : decode cX11_fits 75 = .ok (.aload_n 0, 1) := o_42 BX11_fits rfl rfl
theorem dX11_fits_76 : decode cX11_fits 76 = .ok (.getfield 66, 3) := o_180 BX11_fits rfl rfl rfl
theorem dX11_fits_79 : decode cX11_fits 79 = .ok (.iload_n 1, 1) := o_27 BX11_fits rfl rfl
theorem dX11_fits_80 : decode cX11_fits 80 = .ok (.invokestatic 389, 3) := o_184 BX11_fits rfl rfl rfl
theorem dX11_fits_83 : decode cX11_fits 83 = .ok (.i2l, 1) := o_133 BX11_fits rfl rfl
theorem dX11_fits_84 : decode cX11_fits 84 = .ok (.invokevirtual 366, 3) := o_182 BX11_fits rfl rfl rfl
theorem dX11_fits_87 : decode cX11_fits 87 = .ok (.iload_n 1, 1) := o_27 BX11_fits rfl rfl
theorem dX11_fits_88 : decode cX11_fits 88 = .ok (.ireturn, 1) := o_172 BX11_fits rfl rfl
theorem dX11_rains_0 : decode cX11_rains 0 = .ok (.iload_n 1, 1) := o_27 BX11_rains rfl rfl
theorem dX11_rains_1 : decode cX11_rains 1 = .ok (.iconst 1, 1) := o_4 BX11_rains rfl rfl
theorem dX11_rains_2 : decode cX11_rains 2 = .ok (.if_icmp .lt 29, 3) := o_161 BX11_rains rfl rfl rfl
theorem dX11_rains_5 : decode cX11_rains 5 = .ok (.iload_n 1, 1) := o_27 BX11_rains rfl rfl
theorem dX11_rains_6 : decode cX11_rains 6 = .ok (.bipush 12, 2) := o_16 BX11_rains rfl rfl rfl
theorem dX11_rains_8 : decode cX11_rains 8 = .ok (.if_icmp .gt 23, 3) := o_163 BX11_rains rfl rfl rfl
theorem dX11_rains_11 : decode cX11_rains 11 = .ok (.iload_n 2, 1) := o_28 BX11_rains rfl rfl
theorem dX11_rains_12 : decode cX11_rains 12 = .ok (.ifCond .lt 19, 3) := o_155 BX11_rains rfl rfl rfl
theorem dX11_rains_15 : decode cX11_rains 15 = .ok (.iload_n 2, 1) := o_28 BX11_rains rfl rfl
theorem dX11_rains_16 : decode cX11_rains 16 = .ok (.bipush 12, 2) := o_16 BX11_rains rfl rfl rfl
theorem dX11_rains_18 : decode cX11_rains 18 = .ok (.if_icmp .gt 13, 3) := o_163 BX11_rains rfl rfl rfl
theorem dX11_rains_21 : decode cX11_rains 21 = .ok (.iload_n 3, 1) := o_29 BX11_rains rfl rfl
theorem dX11_rains_22 : decode cX11_rains 22 = .ok (.ifCond .lt 9, 3) := o_155 BX11_rains rfl rfl rfl
theorem dX11_rains_25 : decode cX11_rains 25 = .ok (.iload_n 3, 1) := o_29 BX11_rains rfl rfl
theorem dX11_rains_26 : decode cX11_rains 26 = .ok (.bipush 10, 2) := o_16 BX11_rains rfl rfl rfl
theorem dX11_rains_28 : decode cX11_rains 28 = .ok (.if_icmp .le 5, 3) := o_164 BX11_rains rfl rfl rfl
theorem dX11_rains_31 : decode cX11_rains 31 = .ok (.iconst (-1), 1) := o_2 BX11_rains rfl rfl
theorem dX11_rains_32 : decode cX11_rains 32 = .ok (.ireturn, 1) := o_172 BX11_rains rfl rfl
theorem dX11_rains_33 : decode cX11_rains 33 = .ok (.lconst 0, 1) := o_9 BX11_rains rfl rfl
theorem dX11_rains_34 : decode cX11_rains 34 = .ok (.lstore 4, 2) := o_55 BX11_rains rfl rfl rfl
theorem dX11_rains_36 : decode cX11_rains 36 = .ok (.lconst 1, 1) := o_10 BX11_rains rfl rfl
theorem dX11_rains_37 : decode cX11_rains 37 = .ok (.lstore 6, 2) := o_55 BX11_rains rfl rfl rfl
theorem dX11_rains_39 : decode cX11_rains 39 = .ok (.iconst 0, 1) := o_3 BX11_rains rfl rfl
theorem dX11_rains_40 : decode cX11_rains 40 = .ok (.istore 8, 2) := o_54 BX11_rains rfl rfl rfl
theorem dX11_rains_42 : decode cX11_rains 42 = .ok (.iload 8, 2) := o_21 BX11_rains rfl rfl rfl
theorem dX11_rains_44 : decode cX11_rains 44 = .ok (.iload_n 1, 1) := o_27 BX11_rains rfl rfl
theorem dX11_rains_45 : decode cX11_rains 45 = .ok (.if_icmp .ge 67, 3) := o_162 BX11_rains rfl rfl rfl
theorem dX11_rains_48 : decode cX11_rains 48 = .ok (.iload 8, 2) := o_21 BX11_rains rfl rfl rfl
theorem dX11_rains_50 : decode cX11_rains 50 = .ok (.iconst 1, 1) := o_4 BX11_rains rfl rfl
theorem dX11_rains_51 : decode cX11_rains 51 = .ok (.iadd, 1) := o_96 BX11_rains rfl rfl
theorem dX11_rains_52 : decode cX11_rains 52 = .ok (.iload_n 2, 1) := o_28 BX11_rains rfl rfl
theorem dX11_rains_53 : decode cX11_rains 53 = .ok (.if_icmp .lt 35, 3) := o_161 BX11_rains rfl rfl rfl
theorem dX11_rains_56 : decode cX11_rains 56 = .ok (.lload 4, 2) := o_22 BX11_rains rfl rfl rfl
theorem dX11_rains_58 : decode cX11_rains 58 = .ok (.lload 6, 2) := o_22 BX11_rains rfl rfl rfl
theorem dX11_rains_60 : decode cX11_rains 60 = .ok (.iload_n 3, 1) := o_29 BX11_rains rfl rfl
theorem dX11_rains_61 : decode cX11_rains 61 = .ok (.i2l, 1) := o_133 BX11_rains rfl rfl
theorem dX11_rains_62 : decode cX11_rains 62 = .ok (.iload 8, 2) := o_21 BX11_rains rfl rfl rfl
theorem dX11_rains_64 : decode cX11_rains 64 = .ok (.iconst 1, 1) := o_4 BX11_rains rfl rfl
theorem dX11_rains_65 : decode cX11_rains 65 = .ok (.iadd, 1) := o_96 BX11_rains rfl rfl
theorem dX11_rains_66 : decode cX11_rains 66 = .ok (.invokestatic 461, 3) := o_184 BX11_rains rfl rfl rfl
theorem dX11_rains_69 : decode cX11_rains 69 = .ok (.lmul, 1) := o_105 BX11_rains rfl rfl
theorem dX11_rains_70 : decode cX11_rains 70 = .ok (.bipush 10, 2) := o_16 BX11_rains rfl rfl rfl
theorem dX11_rains_72 : decode cX11_rains 72 = .ok (.iload_n 3, 1) := o_29 BX11_rains rfl rfl
theorem dX11_rains_73 : decode cX11_rains 73 = .ok (.isub, 1) := o_100 BX11_rains rfl rfl
theorem dX11_rains_74 : decode cX11_rains 74 = .ok (.i2l, 1) := o_133 BX11_rains rfl rfl
theorem dX11_rains_75 : decode cX11_rains 75 = .ok (.iload_n 1, 1) := o_27 BX11_rains rfl rfl
theorem dX11_rains_76 : decode cX11_rains 76 = .ok (.iconst 1, 1) := o_4 BX11_rains rfl rfl
theorem dX11_rains_77 : decode cX11_rains 77 = .ok (.isub, 1) := o_100 BX11_rains rfl rfl
theorem dX11_rains_78 : decode cX11_rains 78 = .ok (.iload 8, 2) := o_21 BX11_rains rfl rfl rfl
theorem dX11_rains_80 : decode cX11_rains 80 = .ok (.isub, 1) := o_100 BX11_rains rfl rfl
theorem dX11_rains_81 : decode cX11_rains 81 = .ok (.invokestatic 461, 3) := o_184 BX11_rains rfl rfl rfl
theorem dX11_rains_84 : decode cX11_rains 84 = .ok (.lmul, 1) := o_105 BX11_rains rfl rfl
theorem dX11_rains_85 : decode cX11_rains 85 = .ok (.ladd, 1) := o_97 BX11_rains rfl rfl
theorem dX11_rains_86 : decode cX11_rains 86 = .ok (.lstore 4, 2) := o_55 BX11_rains rfl rfl rfl
theorem dX11_rains_88 : decode cX11_rains 88 = .ok (.lload 6, 2) := o_22 BX11_rains rfl rfl rfl
theorem dX11_rains_90 : decode cX11_rains 90 = .ok (.iload_n 1, 1) := o_27 BX11_rains rfl rfl
theorem dX11_rains_91 : decode cX11_rains 91 = .ok (.iconst 1, 1) := o_4 BX11_rains rfl rfl
theorem dX11_rains_92 : decode cX11_rains 92 = .ok (.isub, 1) := o_100 BX11_rains rfl rfl
theorem dX11_rains_93 : decode cX11_rains 93 = .ok (.iload 8, 2) := o_21 BX11_rains rfl rfl rfl
theorem dX11_rains_95 : decode cX11_rains 95 = .ok (.isub, 1) := o_100 BX11_rains rfl rfl
theorem dX11_rains_96 : decode cX11_rains 96 = .ok (.i2l, 1) := o_133 BX11_rains rfl rfl
theorem dX11_rains_97 : decode cX11_rains 97 = .ok (.lmul, 1) := o_105 BX11_rains rfl rfl
theorem dX11_rains_98 : decode cX11_rains 98 = .ok (.iload 8, 2) := o_21 BX11_rains rfl rfl rfl
theorem dX11_rains_100 : decode cX11_rains 100 = .ok (.iconst 1, 1) := o_4 BX11_rains rfl rfl
theorem dX11_rains_101 : decode cX11_rains 101 = .ok (.iadd, 1) := o_96 BX11_rains rfl rfl
theorem dX11_rains_102 : decode cX11_rains 102 = .ok (.i2l, 1) := o_133 BX11_rains rfl rfl
theorem dX11_rains_103 : decode cX11_rains 103 = .ok (.ldiv, 1) := o_109 BX11_rains rfl rfl
theorem dX11_rains_104 : decode cX11_rains 104 = .ok (.lstore 6, 2) := o_55 BX11_rains rfl rfl rfl
theorem dX11_rains_106 : decode cX11_rains 106 = .ok (.iinc 8 1, 3) := o_132 BX11_rains rfl rfl rfl rfl
theorem dX11_rains_109 : decode cX11_rains 109 = .ok (.goto (-67), 3) := o_167 BX11_rains rfl rfl rfl
theorem dX11_rains_112 : decode cX11_rains 112 = .ok (.ldc2_w 465, 3) := o_20 BX11_rains rfl rfl rfl
theorem dX11_rains_115 : decode cX11_rains 115 = .ok (.iload_n 1, 1) := o_27 BX11_rains rfl rfl
theorem dX11_rains_116 : decode cX11_rains 116 = .ok (.invokestatic 461, 3) := o_184 BX11_rains rfl rfl rfl
theorem dX11_rains_119 : decode cX11_rains 119 = .ok (.lstore 8, 2) := o_55 BX11_rains rfl rfl rfl
theorem dX11_rains_121 : decode cX11_rains 121 = .ok (.lload 4, 2) := o_22 BX11_rains rfl rfl rfl
theorem dX11_rains_123 : decode cX11_rains 123 = .ok (.lload 8, 2) := o_22 BX11_rains rfl rfl rfl
theorem dX11_rains_125 : decode cX11_rains 125 = .ok (.invokestatic 467, 3) := o_184 BX11_rains rfl rfl rfl
theorem dX11_rains_128 : decode cX11_rains 128 = .ok (.lstore 10, 2) := o_55 BX11_rains rfl rfl rfl
theorem dX11_rains_130 : decode cX11_rains 130 = .ok (.lload 10, 2) := o_22 BX11_rains rfl rfl rfl
theorem dX11_rains_132 : decode cX11_rains 132 = .ok (.lconst 1, 1) := o_10 BX11_rains rfl rfl
theorem dX11_rains_133 : decode cX11_rains 133 = .ok (.lcmp, 1) := o_148 BX11_rains rfl rfl
theorem dX11_rains_134 : decode cX11_rains 134 = .ok (.ifCond .ge 5, 3) := o_156 BX11_rains rfl rfl rfl
theorem dX11_rains_137 : decode cX11_rains 137 = .ok (.iconst (-1), 1) := o_2 BX11_rains rfl rfl
theorem dX11_rains_138 : decode cX11_rains 138 = .ok (.ireturn, 1) := o_172 BX11_rains rfl rfl
theorem dX11_rains_139 : decode cX11_rains 139 = .ok (.aload_n 0, 1) := o_42 BX11_rains rfl rfl
theorem dX11_rains_140 : decode cX11_rains 140 = .ok (.getfield 66, 3) := o_180 BX11_rains rfl rfl rfl
theorem dX11_rains_143 : decode cX11_rains 143 = .ok (.lload 4, 2) := o_22 BX11_rains rfl rfl rfl
theorem dX11_rains_145 : decode cX11_rains 145 = .ok (.lload 10, 2) := o_22 BX11_rains rfl rfl rfl
theorem dX11_rains_147 : decode cX11_rains 147 = .ok (.ldiv, 1) := o_109 BX11_rains rfl rfl
theorem dX11_rains_148 : decode cX11_rains 148 = .ok (.lload 8, 2) := o_22 BX11_rains rfl rfl rfl
theorem dX11_rains_150 : decode cX11_rains 150 = .ok (.lload 10, 2) := o_22 BX11_rains rfl rfl rfl
theorem dX11_rains_152 : decode cX11_rains 152 = .ok (.ldiv, 1) := o_109 BX11_rains rfl rfl
theorem dX11_rains_153 : decode cX11_rains 153 = .ok (.invokevirtual 298, 3) := o_182 BX11_rains rfl rfl rfl
theorem dX11_rains_156 : decode cX11_rains 156 = .ok (.iconst 0, 1) := o_3 BX11_rains rfl rfl
theorem dX11_rains_157 : decode cX11_rains 157 = .ok (.ireturn, 1) := o_172 BX11_rains rfl rfl
theorem dX11_power_0 : decode cX11_power 0 = .ok (.lconst 1, 1) := o_10 BX11_power rfl rfl
theorem dX11_power_1 : decode cX11_power 1 = .ok (.lstore_n 3, 1) := o_66 BX11_power rfl rfl
theorem dX11_power_2 : decode cX11_power 2 = .ok (.iconst 0, 1) := o_3 BX11_power rfl rfl
theorem dX11_power_3 : decode cX11_power 3 = .ok (.istore 5, 2) := o_54 BX11_power rfl rfl rfl
theorem dX11_power_5 : decode cX11_power 5 = .ok (.iload 5, 2) := o_21 BX11_power rfl rfl rfl
theorem dX11_power_7 : decode cX11_power 7 = .ok (.iload_n 2, 1) := o_28 BX11_power rfl rfl
theorem dX11_power_8 : decode cX11_power 8 = .ok (.if_icmp .ge 13, 3) := o_162 BX11_power rfl rfl rfl
theorem dX11_power_11 : decode cX11_power 11 = .ok (.lload_n 3, 1) := o_33 BX11_power rfl rfl
theorem dX11_power_12 : decode cX11_power 12 = .ok (.lload_n 0, 1) := o_30 BX11_power rfl rfl
theorem dX11_power_13 : decode cX11_power 13 = .ok (.lmul, 1) := o_105 BX11_power rfl rfl
theorem dX11_power_14 : decode cX11_power 14 = .ok (.lstore_n 3, 1) := o_66 BX11_power rfl rfl
theorem dX11_power_15 : decode cX11_power 15 = .ok (.iinc 5 1, 3) := o_132 BX11_power rfl rfl rfl rfl
theorem dX11_power_18 : decode cX11_power 18 = .ok (.goto (-13), 3) := o_167 BX11_power rfl rfl rfl
theorem dX11_power_21 : decode cX11_power 21 = .ok (.lload_n 3, 1) := o_33 BX11_power rfl rfl
theorem dX11_power_22 : decode cX11_power 22 = .ok (.lreturn, 1) := o_173 BX11_power rfl rfl
theorem dX11_commonDivisor_0 : decode cX11_commonDivisor 0 = .ok (.lload_n 0, 1) := o_30 BX11_commonDivisor rfl rfl
theorem dX11_commonDivisor_1 : decode cX11_commonDivisor 1 = .ok (.lstore 4, 2) := o_55 BX11_commonDivisor rfl rfl rfl
theorem dX11_commonDivisor_3 : decode cX11_commonDivisor 3 = .ok (.lload_n 2, 1) := o_32 BX11_commonDivisor rfl rfl
theorem dX11_commonDivisor_4 : decode cX11_commonDivisor 4 = .ok (.lstore 6, 2) := o_55 BX11_commonDivisor rfl rfl rfl
theorem dX11_commonDivisor_6 : decode cX11_commonDivisor 6 = .ok (.iconst 0, 1) := o_3 BX11_commonDivisor rfl rfl
theorem dX11_commonDivisor_7 : decode cX11_commonDivisor 7 = .ok (.istore 8, 2) := o_54 BX11_commonDivisor rfl rfl rfl
theorem dX11_commonDivisor_9 : decode cX11_commonDivisor 9 = .ok (.iload 8, 2) := o_21 BX11_commonDivisor rfl rfl rfl
theorem dX11_commonDivisor_11 : decode cX11_commonDivisor 11 = .ok (.bipush 100, 2) := o_16 BX11_commonDivisor rfl rfl rfl
theorem dX11_commonDivisor_13 : decode cX11_commonDivisor 13 = .ok (.if_icmp .ge 31, 3) := o_162 BX11_commonDivisor rfl rfl rfl
theorem dX11_commonDivisor_16 : decode cX11_commonDivisor 16 = .ok (.lload 6, 2) := o_22 BX11_commonDivisor rfl rfl rfl
theorem dX11_commonDivisor_18 : decode cX11_commonDivisor 18 = .ok (.lconst 0, 1) := o_9 BX11_commonDivisor rfl rfl
theorem dX11_commonDivisor_19 : decode cX11_commonDivisor 19 = .ok (.lcmp, 1) := o_148 BX11_commonDivisor rfl rfl
theorem dX11_commonDivisor_20 : decode cX11_commonDivisor 20 = .ok (.ifCond .le 24, 3) := o_158 BX11_commonDivisor rfl rfl rfl
theorem dX11_commonDivisor_23 : decode cX11_commonDivisor 23 = .ok (.lload 4, 2) := o_22 BX11_commonDivisor rfl rfl rfl
theorem dX11_commonDivisor_25 : decode cX11_commonDivisor 25 = .ok (.lload 6, 2) := o_22 BX11_commonDivisor rfl rfl rfl
theorem dX11_commonDivisor_27 : decode cX11_commonDivisor 27 = .ok (.lrem, 1) := o_113 BX11_commonDivisor rfl rfl
theorem dX11_commonDivisor_28 : decode cX11_commonDivisor 28 = .ok (.lstore 9, 2) := o_55 BX11_commonDivisor rfl rfl rfl
theorem dX11_commonDivisor_30 : decode cX11_commonDivisor 30 = .ok (.lload 6, 2) := o_22 BX11_commonDivisor rfl rfl rfl
theorem dX11_commonDivisor_32 : decode cX11_commonDivisor 32 = .ok (.lstore 4, 2) := o_55 BX11_commonDivisor rfl rfl rfl
theorem dX11_commonDivisor_34 : decode cX11_commonDivisor 34 = .ok (.lload 9, 2) := o_22 BX11_commonDivisor rfl rfl rfl
theorem dX11_commonDivisor_36 : decode cX11_commonDivisor 36 = .ok (.lstore 6, 2) := o_55 BX11_commonDivisor rfl rfl rfl
theorem dX11_commonDivisor_38 : decode cX11_commonDivisor 38 = .ok (.iinc 8 1, 3) := o_132 BX11_commonDivisor rfl rfl rfl rfl
theorem dX11_commonDivisor_41 : decode cX11_commonDivisor 41 = .ok (.goto (-32), 3) := o_167 BX11_commonDivisor rfl rfl rfl
theorem dX11_commonDivisor_44 : decode cX11_commonDivisor 44 = .ok (.lload 4, 2) := o_22 BX11_commonDivisor rfl rfl rfl
theorem dX11_commonDivisor_46 : decode cX11_commonDivisor 46 = .ok (.lreturn, 1) := o_173 BX11_commonDivisor rfl rfl
theorem dX11_law_0 : decode cX11_law 0 = .ok (.aload_n 0, 1) := o_42 BX11_law rfl rfl
theorem dX11_law_1 : decode cX11_law 1 = .ok (.getfield 94, 3) := o_180 BX11_law rfl rfl rfl
theorem dX11_law_4 : decode cX11_law 4 = .ok (.aload_n 0, 1) := o_42 BX11_law rfl rfl
theorem dX11_law_5 : decode cX11_law 5 = .ok (.getfield 10, 3) := o_180 BX11_law rfl rfl rfl
theorem dX11_law_8 : decode cX11_law 8 = .ok (.aload_n 0, 1) := o_42 BX11_law rfl rfl
theorem dX11_law_9 : decode cX11_law 9 = .ok (.getfield 109, 3) := o_180 BX11_law rfl rfl rfl
theorem dX11_law_12 : decode cX11_law 12 = .ok (.invokevirtual 216, 3) := o_182 BX11_law rfl rfl rfl
theorem dX11_law_15 : decode cX11_law 15 = .ok (.istore_n 1, 1) := o_60 BX11_law rfl rfl
theorem dX11_law_16 : decode cX11_law 16 = .ok (.aload_n 0, 1) := o_42 BX11_law rfl rfl
theorem dX11_law_17 : decode cX11_law 17 = .ok (.getfield 10, 3) := o_180 BX11_law rfl rfl rfl
theorem dX11_law_20 : decode cX11_law 20 = .ok (.invokevirtual 140, 3) := o_182 BX11_law rfl rfl rfl
theorem dX11_law_23 : decode cX11_law 23 = .ok (.iload_n 1, 1) := o_27 BX11_law rfl rfl
theorem dX11_law_24 : decode cX11_law 24 = .ok (.iconst (-1), 1) := o_2 BX11_law rfl rfl
theorem dX11_law_25 : decode cX11_law 25 = .ok (.if_icmp .eq 9, 3) := o_159 BX11_law rfl rfl rfl
theorem dX11_law_28 : decode cX11_law 28 = .ok (.sipush (-10000), 3) := o_17 BX11_law rfl rfl rfl
theorem dX11_law_31 : decode cX11_law 31 = .ok (.iload_n 1, 1) := o_27 BX11_law rfl rfl
theorem dX11_law_32 : decode cX11_law 32 = .ok (.isub, 1) := o_100 BX11_law rfl rfl
theorem dX11_law_33 : decode cX11_law 33 = .ok (.ireturn, 1) := o_172 BX11_law rfl rfl
theorem dX11_law_34 : decode cX11_law 34 = .ok (.aload_n 0, 1) := o_42 BX11_law rfl rfl
theorem dX11_law_35 : decode cX11_law 35 = .ok (.getfield 30, 3) := o_180 BX11_law rfl rfl rfl
theorem dX11_law_38 : decode cX11_law 38 = .ok (.aload_n 0, 1) := o_42 BX11_law rfl rfl
theorem dX11_law_39 : decode cX11_law 39 = .ok (.getfield 26, 3) := o_180 BX11_law rfl rfl rfl
theorem dX11_law_42 : decode cX11_law 42 = .ok (.invokevirtual 153, 3) := o_182 BX11_law rfl rfl rfl
theorem dX11_law_45 : decode cX11_law 45 = .ok (.aload_n 0, 1) := o_42 BX11_law rfl rfl
theorem dX11_law_46 : decode cX11_law 46 = .ok (.aload_n 0, 1) := o_42 BX11_law rfl rfl
theorem dX11_law_47 : decode cX11_law 47 = .ok (.getfield 109, 3) := o_180 BX11_law rfl rfl rfl
theorem dX11_law_50 : decode cX11_law 50 = .ok (.invokevirtual 382, 3) := o_182 BX11_law rfl rfl rfl
theorem dX11_law_53 : decode cX11_law 53 = .ok (.invokestatic 389, 3) := o_184 BX11_law rfl rfl rfl
theorem dX11_law_56 : decode cX11_law 56 = .ok (.istore_n 2, 1) := o_61 BX11_law rfl rfl
theorem dX11_law_57 : decode cX11_law 57 = .ok (.aload_n 0, 1) := o_42 BX11_law rfl rfl
theorem dX11_law_58 : decode cX11_law 58 = .ok (.getfield 30, 3) := o_180 BX11_law rfl rfl rfl
theorem dX11_law_61 : decode cX11_law 61 = .ok (.aload_n 0, 1) := o_42 BX11_law rfl rfl
theorem dX11_law_62 : decode cX11_law 62 = .ok (.getfield 26, 3) := o_180 BX11_law rfl rfl rfl
theorem dX11_law_65 : decode cX11_law 65 = .ok (.invokevirtual 153, 3) := o_182 BX11_law rfl rfl rfl
theorem dX11_law_68 : decode cX11_law 68 = .ok (.aload_n 0, 1) := o_42 BX11_law rfl rfl
theorem dX11_law_69 : decode cX11_law 69 = .ok (.aload_n 0, 1) := o_42 BX11_law rfl rfl
theorem dX11_law_70 : decode cX11_law 70 = .ok (.getfield 105, 3) := o_180 BX11_law rfl rfl rfl
theorem dX11_law_73 : decode cX11_law 73 = .ok (.invokevirtual 382, 3) := o_182 BX11_law rfl rfl rfl
theorem dX11_law_76 : decode cX11_law 76 = .ok (.invokestatic 389, 3) := o_184 BX11_law rfl rfl rfl
theorem dX11_law_79 : decode cX11_law 79 = .ok (.istore_n 3, 1) := o_62 BX11_law rfl rfl
theorem dX11_law_80 : decode cX11_law 80 = .ok (.aload_n 0, 1) := o_42 BX11_law rfl rfl
theorem dX11_law_81 : decode cX11_law 81 = .ok (.getfield 66, 3) := o_180 BX11_law rfl rfl rfl
theorem dX11_law_84 : decode cX11_law 84 = .ok (.iload_n 2, 1) := o_28 BX11_law rfl rfl
theorem dX11_law_85 : decode cX11_law 85 = .ok (.i2l, 1) := o_133 BX11_law rfl rfl
theorem dX11_law_86 : decode cX11_law 86 = .ok (.iload_n 3, 1) := o_29 BX11_law rfl rfl
theorem dX11_law_87 : decode cX11_law 87 = .ok (.i2l, 1) := o_133 BX11_law rfl rfl
theorem dX11_law_88 : decode cX11_law 88 = .ok (.invokevirtual 298, 3) := o_182 BX11_law rfl rfl rfl
theorem dX11_law_91 : decode cX11_law 91 = .ok (.iload_n 2, 1) := o_28 BX11_law rfl rfl
theorem dX11_law_92 : decode cX11_law 92 = .ok (.iload_n 3, 1) := o_29 BX11_law rfl rfl
theorem dX11_law_93 : decode cX11_law 93 = .ok (.isub, 1) := o_100 BX11_law rfl rfl
theorem dX11_law_94 : decode cX11_law 94 = .ok (.ireturn, 1) := o_172 BX11_law rfl rfl
theorem dX11_rests_0 : decode cX11_rests 0 = .ok (.iload_n 1, 1) := o_27 BX11_rests rfl rfl
theorem dX11_rests_1 : decode cX11_rests 1 = .ok (.ifCond .lt 9, 3) := o_155 BX11_rests rfl rfl rfl
theorem dX11_rests_4 : decode cX11_rests 4 = .ok (.iload_n 1, 1) := o_27 BX11_rests rfl rfl
theorem dX11_rests_5 : decode cX11_rests 5 = .ok (.bipush 20, 2) := o_16 BX11_rests rfl rfl rfl
theorem dX11_rests_7 : decode cX11_rests 7 = .ok (.if_icmp .le 5, 3) := o_164 BX11_rests rfl rfl rfl
theorem dX11_rests_10 : decode cX11_rests 10 = .ok (.iconst (-1), 1) := o_2 BX11_rests rfl rfl
theorem dX11_rests_11 : decode cX11_rests 11 = .ok (.ireturn, 1) := o_172 BX11_rests rfl rfl
theorem dX11_rests_12 : decode cX11_rests 12 = .ok (.aload_n 0, 1) := o_42 BX11_rests rfl rfl
theorem dX11_rests_13 : decode cX11_rests 13 = .ok (.getfield 66, 3) := o_180 BX11_rests rfl rfl rfl
theorem dX11_rests_16 : decode cX11_rests 16 = .ok (.invokevirtual 349, 3) := o_182 BX11_rests rfl rfl rfl
theorem dX11_rests_19 : decode cX11_rests 19 = .ok (.iconst 0, 1) := o_3 BX11_rests rfl rfl
theorem dX11_rests_20 : decode cX11_rests 20 = .ok (.istore_n 2, 1) := o_61 BX11_rests rfl rfl
theorem dX11_rests_21 : decode cX11_rests 21 = .ok (.iconst 0, 1) := o_3 BX11_rests rfl rfl
theorem dX11_rests_22 : decode cX11_rests 22 = .ok (.istore_n 3, 1) := o_62 BX11_rests rfl rfl
theorem dX11_rests_23 : decode cX11_rests 23 = .ok (.iload_n 3, 1) := o_29 BX11_rests rfl rfl
theorem dX11_rests_24 : decode cX11_rests 24 = .ok (.bipush 9, 2) := o_16 BX11_rests rfl rfl rfl
theorem dX11_rests_26 : decode cX11_rests 26 = .ok (.if_icmp .gt 65, 3) := o_163 BX11_rests rfl rfl rfl
theorem dX11_rests_29 : decode cX11_rests 29 = .ok (.iconst 0, 1) := o_3 BX11_rests rfl rfl
theorem dX11_rests_30 : decode cX11_rests 30 = .ok (.istore 4, 2) := o_54 BX11_rests rfl rfl rfl
theorem dX11_rests_32 : decode cX11_rests 32 = .ok (.iload 4, 2) := o_21 BX11_rests rfl rfl rfl
theorem dX11_rests_34 : decode cX11_rests 34 = .ok (.bipush 9, 2) := o_16 BX11_rests rfl rfl rfl
theorem dX11_rests_36 : decode cX11_rests 36 = .ok (.if_icmp .gt 49, 3) := o_163 BX11_rests rfl rfl rfl
theorem dX11_rests_39 : decode cX11_rests 39 = .ok (.iload_n 3, 1) := o_29 BX11_rests rfl rfl
theorem dX11_rests_40 : decode cX11_rests 40 = .ok (.iload 4, 2) := o_21 BX11_rests rfl rfl rfl
theorem dX11_rests_42 : decode cX11_rests 42 = .ok (.iload_n 1, 1) := o_27 BX11_rests rfl rfl
theorem dX11_rests_43 : decode cX11_rests 43 = .ok (.invokestatic 471, 3) := o_184 BX11_rests rfl rfl rfl
theorem dX11_rests_46 : decode cX11_rests 46 = .ok (.ifCond .eq 33, 3) := o_153 BX11_rests rfl rfl rfl
theorem dX11_rests_49 : decode cX11_rests 49 = .ok (.iload 4, 2) := o_21 BX11_rests rfl rfl rfl
theorem dX11_rests_51 : decode cX11_rests 51 = .ok (.iload_n 3, 1) := o_29 BX11_rests rfl rfl
theorem dX11_rests_52 : decode cX11_rests 52 = .ok (.iload_n 1, 1) := o_27 BX11_rests rfl rfl
theorem dX11_rests_53 : decode cX11_rests 53 = .ok (.invokestatic 471, 3) := o_184 BX11_rests rfl rfl rfl
theorem dX11_rests_56 : decode cX11_rests 56 = .ok (.ifCond .eq 23, 3) := o_153 BX11_rests rfl rfl rfl
theorem dX11_rests_59 : decode cX11_rests 59 = .ok (.iinc 2 1, 3) := o_132 BX11_rests rfl rfl rfl rfl
theorem dX11_rests_62 : decode cX11_rests 62 = .ok (.iload_n 2, 1) := o_28 BX11_rests rfl rfl
theorem dX11_rests_63 : decode cX11_rests 63 = .ok (.iconst 1, 1) := o_4 BX11_rests rfl rfl
theorem dX11_rests_64 : decode cX11_rests 64 = .ok (.if_icmp .ne 15, 3) := o_160 BX11_rests rfl rfl rfl
theorem dX11_rests_67 : decode cX11_rests 67 = .ok (.aload_n 0, 1) := o_42 BX11_rests rfl rfl
theorem dX11_rests_68 : decode cX11_rests 68 = .ok (.getfield 66, 3) := o_180 BX11_rests rfl rfl rfl
theorem dX11_rests_71 : decode cX11_rests 71 = .ok (.iload_n 3, 1) := o_29 BX11_rests rfl rfl
theorem dX11_rests_72 : decode cX11_rests 72 = .ok (.i2l, 1) := o_133 BX11_rests rfl rfl
theorem dX11_rests_73 : decode cX11_rests 73 = .ok (.iload 4, 2) := o_21 BX11_rests rfl rfl rfl
theorem dX11_rests_75 : decode cX11_rests 75 = .ok (.i2l, 1) := o_133 BX11_rests rfl rfl
theorem dX11_rests_76 : decode cX11_rests 76 = .ok (.invokevirtual 298, 3) := o_182 BX11_rests rfl rfl rfl
theorem dX11_rests_79 : decode cX11_rests 79 = .ok (.iinc 4 1, 3) := o_132 BX11_rests rfl rfl rfl rfl
theorem dX11_rests_82 : decode cX11_rests 82 = .ok (.goto (-50), 3) := o_167 BX11_rests rfl rfl rfl
theorem dX11_rests_85 : decode cX11_rests 85 = .ok (.iinc 3 1, 3) := o_132 BX11_rests rfl rfl rfl rfl
theorem dX11_rests_88 : decode cX11_rests 88 = .ok (.goto (-65), 3) := o_167 BX11_rests rfl rfl rfl
theorem dX11_rests_91 : decode cX11_rests 91 = .ok (.iload_n 2, 1) := o_28 BX11_rests rfl rfl
theorem dX11_rests_92 : decode cX11_rests 92 = .ok (.ireturn, 1) := o_172 BX11_rests rfl rfl
theorem dX11_isBestAnswer_0 : decode cX11_isBestAnswer 0 = .ok (.iload_n 0, 1) := o_26 BX11_isBestAnswer rfl rfl
theorem dX11_isBestAnswer_1 : decode cX11_isBestAnswer 1 = .ok (.iload_n 1, 1) := o_27 BX11_isBestAnswer rfl rfl
theorem dX11_isBestAnswer_2 : decode cX11_isBestAnswer 2 = .ok (.iload_n 2, 1) := o_28 BX11_isBestAnswer rfl rfl
theorem dX11_isBestAnswer_3 : decode cX11_isBestAnswer 3 = .ok (.invokestatic 475, 3) := o_184 BX11_isBestAnswer rfl rfl rfl
theorem dX11_isBestAnswer_6 : decode cX11_isBestAnswer 6 = .ok (.istore_n 3, 1) := o_62 BX11_isBestAnswer rfl rfl
theorem dX11_isBestAnswer_7 : decode cX11_isBestAnswer 7 = .ok (.iconst 0, 1) := o_3 BX11_isBestAnswer rfl rfl
theorem dX11_isBestAnswer_8 : decode cX11_isBestAnswer 8 = .ok (.istore 4, 2) := o_54 BX11_isBestAnswer rfl rfl rfl
theorem dX11_isBestAnswer_10 : decode cX11_isBestAnswer 10 = .ok (.iload 4, 2) := o_21 BX11_isBestAnswer rfl rfl rfl
theorem dX11_isBestAnswer_12 : decode cX11_isBestAnswer 12 = .ok (.bipush 9, 2) := o_16 BX11_isBestAnswer rfl rfl rfl
theorem dX11_isBestAnswer_14 : decode cX11_isBestAnswer 14 = .ok (.if_icmp .gt 22, 3) := o_163 BX11_isBestAnswer rfl rfl rfl
theorem dX11_isBestAnswer_17 : decode cX11_isBestAnswer 17 = .ok (.iload 4, 2) := o_21 BX11_isBestAnswer rfl rfl rfl
theorem dX11_isBestAnswer_19 : decode cX11_isBestAnswer 19 = .ok (.iload_n 1, 1) := o_27 BX11_isBestAnswer rfl rfl
theorem dX11_isBestAnswer_20 : decode cX11_isBestAnswer 20 = .ok (.iload_n 2, 1) := o_28 BX11_isBestAnswer rfl rfl
theorem dX11_isBestAnswer_21 : decode cX11_isBestAnswer 21 = .ok (.invokestatic 475, 3) := o_184 BX11_isBestAnswer rfl rfl rfl
theorem dX11_isBestAnswer_24 : decode cX11_isBestAnswer 24 = .ok (.iload_n 3, 1) := o_29 BX11_isBestAnswer rfl rfl
theorem dX11_isBestAnswer_25 : decode cX11_isBestAnswer 25 = .ok (.if_icmp .le 5, 3) := o_164 BX11_isBestAnswer rfl rfl rfl
theorem dX11_isBestAnswer_28 : decode cX11_isBestAnswer 28 = .ok (.iconst 0, 1) := o_3 BX11_isBestAnswer rfl rfl
theorem dX11_isBestAnswer_29 : decode cX11_isBestAnswer 29 = .ok (.ireturn, 1) := o_172 BX11_isBestAnswer rfl rfl
theorem dX11_isBestAnswer_30 : decode cX11_isBestAnswer 30 = .ok (.iinc 4 1, 3) := o_132 BX11_isBestAnswer rfl rfl rfl rfl
theorem dX11_isBestAnswer_33 : decode cX11_isBestAnswer 33 = .ok (.goto (-23), 3) := o_167 BX11_isBestAnswer rfl rfl rfl
theorem dX11_isBestAnswer_36 : decode cX11_isBestAnswer 36 = .ok (.iconst 1, 1) := o_4 BX11_isBestAnswer rfl rfl
theorem dX11_isBestAnswer_37 : decode cX11_isBestAnswer 37 = .ok (.ireturn, 1) := o_172 BX11_isBestAnswer rfl rfl
theorem dX11_gain_0 : decode cX11_gain 0 = .ok (.iconst 0, 1) := o_3 BX11_gain rfl rfl
theorem dX11_gain_1 : decode cX11_gain 1 = .ok (.istore_n 3, 1) := o_62 BX11_gain rfl rfl
theorem dX11_gain_2 : decode cX11_gain 2 = .ok (.iload_n 0, 1) := o_26 BX11_gain rfl rfl
theorem dX11_gain_3 : decode cX11_gain 3 = .ok (.iload_n 1, 1) := o_27 BX11_gain rfl rfl
theorem dX11_gain_4 : decode cX11_gain 4 = .ok (.if_icmp .le 8, 3) := o_164 BX11_gain rfl rfl rfl
theorem dX11_gain_7 : decode cX11_gain 7 = .ok (.iload_n 2, 1) := o_28 BX11_gain rfl rfl
theorem dX11_gain_8 : decode cX11_gain 8 = .ok (.istore_n 3, 1) := o_62 BX11_gain rfl rfl
theorem dX11_gain_9 : decode cX11_gain 9 = .ok (.goto 12, 3) := o_167 BX11_gain rfl rfl rfl
theorem dX11_gain_12 : decode cX11_gain 12 = .ok (.iload_n 0, 1) := o_26 BX11_gain rfl rfl
theorem dX11_gain_13 : decode cX11_gain 13 = .ok (.iload_n 1, 1) := o_27 BX11_gain rfl rfl
theorem dX11_gain_14 : decode cX11_gain 14 = .ok (.if_icmp .ne 7, 3) := o_160 BX11_gain rfl rfl rfl
theorem dX11_gain_17 : decode cX11_gain 17 = .ok (.iload_n 2, 1) := o_28 BX11_gain rfl rfl
theorem dX11_gain_18 : decode cX11_gain 18 = .ok (.iconst 2, 1) := o_5 BX11_gain rfl rfl
theorem dX11_gain_19 : decode cX11_gain 19 = .ok (.idiv, 1) := o_108 BX11_gain rfl rfl
theorem dX11_gain_20 : decode cX11_gain 20 = .ok (.istore_n 3, 1) := o_62 BX11_gain rfl rfl
theorem dX11_gain_21 : decode cX11_gain 21 = .ok (.iload_n 3, 1) := o_29 BX11_gain rfl rfl
theorem dX11_gain_22 : decode cX11_gain 22 = .ok (.iload_n 0, 1) := o_26 BX11_gain rfl rfl
theorem dX11_gain_23 : decode cX11_gain 23 = .ok (.isub, 1) := o_100 BX11_gain rfl rfl
theorem dX11_gain_24 : decode cX11_gain 24 = .ok (.iload_n 0, 1) := o_26 BX11_gain rfl rfl
theorem dX11_gain_25 : decode cX11_gain 25 = .ok (.iconst 2, 1) := o_5 BX11_gain rfl rfl
theorem dX11_gain_26 : decode cX11_gain 26 = .ok (.iload_n 1, 1) := o_27 BX11_gain rfl rfl
theorem dX11_gain_27 : decode cX11_gain 27 = .ok (.imul, 1) := o_104 BX11_gain rfl rfl
theorem dX11_gain_28 : decode cX11_gain 28 = .ok (.if_icmp .le 7, 3) := o_164 BX11_gain rfl rfl rfl
theorem dX11_gain_31 : decode cX11_gain 31 = .ok (.iconst 3, 1) := o_6 BX11_gain rfl rfl
theorem dX11_gain_32 : decode cX11_gain 32 = .ok (.goto 4, 3) := o_167 BX11_gain rfl rfl rfl
theorem dX11_gain_35 : decode cX11_gain 35 = .ok (.iconst 0, 1) := o_3 BX11_gain rfl rfl
theorem dX11_gain_36 : decode cX11_gain 36 = .ok (.isub, 1) := o_100 BX11_gain rfl rfl
theorem dX11_gain_37 : decode cX11_gain 37 = .ok (.ireturn, 1) := o_172 BX11_gain rfl rfl
theorem dX11_years_0 : decode cX11_years 0 = .ok (.iload_n 2, 1) := o_28 BX11_years rfl rfl
theorem dX11_years_1 : decode cX11_years 1 = .ok (.iconst 1, 1) := o_4 BX11_years rfl rfl
theorem dX11_years_2 : decode cX11_years 2 = .ok (.if_icmp .lt 9, 3) := o_161 BX11_years rfl rfl rfl
theorem dX11_years_5 : decode cX11_years 5 = .ok (.iload_n 2, 1) := o_28 BX11_years rfl rfl
theorem dX11_years_6 : decode cX11_years 6 = .ok (.bipush 60, 2) := o_16 BX11_years rfl rfl rfl
theorem dX11_years_8 : decode cX11_years 8 = .ok (.if_icmp .le 5, 3) := o_164 BX11_years rfl rfl rfl
theorem dX11_years_11 : decode cX11_years 11 = .ok (.iconst (-1), 1) := o_2 BX11_years rfl rfl
theorem dX11_years_12 : decode cX11_years 12 = .ok (.ireturn, 1) := o_172 BX11_years rfl rfl
theorem dX11_years_13 : decode cX11_years 13 = .ok (.aload_n 0, 1) := o_42 BX11_years rfl rfl
theorem dX11_years_14 : decode cX11_years 14 = .ok (.getfield 30, 3) := o_180 BX11_years rfl rfl rfl
theorem dX11_years_17 : decode cX11_years 17 = .ok (.aload_n 0, 1) := o_42 BX11_years rfl rfl
theorem dX11_years_18 : decode cX11_years 18 = .ok (.getfield 26, 3) := o_180 BX11_years rfl rfl rfl
theorem dX11_years_21 : decode cX11_years 21 = .ok (.invokevirtual 153, 3) := o_182 BX11_years rfl rfl rfl
theorem dX11_years_24 : decode cX11_years 24 = .ok (.aload_n 0, 1) := o_42 BX11_years rfl rfl
theorem dX11_years_25 : decode cX11_years 25 = .ok (.iload_n 1, 1) := o_27 BX11_years rfl rfl
theorem dX11_years_26 : decode cX11_years 26 = .ok (.putfield 98, 3) := o_181 BX11_years rfl rfl rfl
theorem dX11_years_29 : decode cX11_years 29 = .ok (.iconst 0, 1) := o_3 BX11_years rfl rfl
theorem dX11_years_30 : decode cX11_years 30 = .ok (.istore_n 3, 1) := o_62 BX11_years rfl rfl
theorem dX11_years_31 : decode cX11_years 31 = .ok (.iload_n 3, 1) := o_29 BX11_years rfl rfl
theorem dX11_years_32 : decode cX11_years 32 = .ok (.iload_n 2, 1) := o_28 BX11_years rfl rfl
theorem dX11_years_33 : decode cX11_years 33 = .ok (.if_icmp .ge 122, 3) := o_162 BX11_years rfl rfl rfl
theorem dX11_years_36 : decode cX11_years 36 = .ok (.aload_n 0, 1) := o_42 BX11_years rfl rfl
theorem dX11_years_37 : decode cX11_years 37 = .ok (.iconst 4, 1) := o_7 BX11_years rfl rfl
theorem dX11_years_38 : decode cX11_years 38 = .ok (.invokevirtual 479, 3) := o_182 BX11_years rfl rfl rfl
theorem dX11_years_41 : decode cX11_years 41 = .ok (.istore 4, 2) := o_54 BX11_years rfl rfl rfl
theorem dX11_years_43 : decode cX11_years 43 = .ok (.iload 4, 2) := o_21 BX11_years rfl rfl rfl
theorem dX11_years_45 : decode cX11_years 45 = .ok (.iconst 2, 1) := o_5 BX11_years rfl rfl
theorem dX11_years_46 : decode cX11_years 46 = .ok (.if_icmp .ge 21, 3) := o_162 BX11_years rfl rfl rfl
theorem dX11_years_49 : decode cX11_years 49 = .ok (.aload_n 0, 1) := o_42 BX11_years rfl rfl
theorem dX11_years_50 : decode cX11_years 50 = .ok (.getfield 44, 3) := o_180 BX11_years rfl rfl rfl
theorem dX11_years_53 : decode cX11_years 53 = .ok (.aload_n 0, 1) := o_42 BX11_years rfl rfl
theorem dX11_years_54 : decode cX11_years 54 = .ok (.getfield 30, 3) := o_180 BX11_years rfl rfl rfl
theorem dX11_years_57 : decode cX11_years 57 = .ok (.aload_n 0, 1) := o_42 BX11_years rfl rfl
theorem dX11_years_58 : decode cX11_years 58 = .ok (.getfield 105, 3) := o_180 BX11_years rfl rfl rfl
theorem dX11_years_61 : decode cX11_years 61 = .ok (.invokevirtual 362, 3) := o_182 BX11_years rfl rfl rfl
theorem dX11_years_64 : decode cX11_years 64 = .ok (.goto 85, 3) := o_167 BX11_years rfl rfl rfl
theorem dX11_years_67 : decode cX11_years 67 = .ok (.iload 4, 2) := o_21 BX11_years rfl rfl rfl
theorem dX11_years_69 : decode cX11_years 69 = .ok (.iconst 2, 1) := o_5 BX11_years rfl rfl
theorem dX11_years_70 : decode cX11_years 70 = .ok (.if_icmp .ne 35, 3) := o_160 BX11_years rfl rfl rfl
theorem dX11_years_73 : decode cX11_years 73 = .ok (.aload_n 0, 1) := o_42 BX11_years rfl rfl
theorem dX11_years_74 : decode cX11_years 74 = .ok (.getfield 30, 3) := o_180 BX11_years rfl rfl rfl
theorem dX11_years_77 : decode cX11_years 77 = .ok (.getfield 191, 3) := o_180 BX11_years rfl rfl rfl
theorem dX11_years_80 : decode cX11_years 80 = .ok (.ifCond .le 69, 3) := o_158 BX11_years rfl rfl rfl
theorem dX11_years_83 : decode cX11_years 83 = .ok (.aload_n 0, 1) := o_42 BX11_years rfl rfl
theorem dX11_years_84 : decode cX11_years 84 = .ok (.getfield 30, 3) := o_180 BX11_years rfl rfl rfl
theorem dX11_years_87 : decode cX11_years 87 = .ok (.aload_n 0, 1) := o_42 BX11_years rfl rfl
theorem dX11_years_88 : decode cX11_years 88 = .ok (.aload_n 0, 1) := o_42 BX11_years rfl rfl
theorem dX11_years_89 : decode cX11_years 89 = .ok (.getfield 30, 3) := o_180 BX11_years rfl rfl rfl
theorem dX11_years_92 : decode cX11_years 92 = .ok (.getfield 191, 3) := o_180 BX11_years rfl rfl rfl
theorem dX11_years_95 : decode cX11_years 95 = .ok (.invokevirtual 479, 3) := o_182 BX11_years rfl rfl rfl
theorem dX11_years_98 : decode cX11_years 98 = .ok (.invokevirtual 308, 3) := o_182 BX11_years rfl rfl rfl
theorem dX11_years_101 : decode cX11_years 101 = .ok (.pop, 1) := o_87 BX11_years rfl rfl
theorem dX11_years_102 : decode cX11_years 102 = .ok (.goto 47, 3) := o_167 BX11_years rfl rfl rfl
theorem dX11_years_105 : decode cX11_years 105 = .ok (.aload_n 0, 1) := o_42 BX11_years rfl rfl
theorem dX11_years_106 : decode cX11_years 106 = .ok (.getfield 30, 3) := o_180 BX11_years rfl rfl rfl
theorem dX11_years_109 : decode cX11_years 109 = .ok (.getfield 191, 3) := o_180 BX11_years rfl rfl rfl
theorem dX11_years_112 : decode cX11_years 112 = .ok (.ifCond .le 37, 3) := o_158 BX11_years rfl rfl rfl
theorem dX11_years_115 : decode cX11_years 115 = .ok (.aload_n 0, 1) := o_42 BX11_years rfl rfl
theorem dX11_years_116 : decode cX11_years 116 = .ok (.aload_n 0, 1) := o_42 BX11_years rfl rfl
theorem dX11_years_117 : decode cX11_years 117 = .ok (.getfield 30, 3) := o_180 BX11_years rfl rfl rfl
theorem dX11_years_120 : decode cX11_years 120 = .ok (.getfield 191, 3) := o_180 BX11_years rfl rfl rfl
theorem dX11_years_123 : decode cX11_years 123 = .ok (.invokevirtual 479, 3) := o_182 BX11_years rfl rfl rfl
theorem dX11_years_126 : decode cX11_years 126 = .ok (.istore 5, 2) := o_54 BX11_years rfl rfl rfl
theorem dX11_years_128 : decode cX11_years 128 = .ok (.aload_n 0, 1) := o_42 BX11_years rfl rfl
theorem dX11_years_129 : decode cX11_years 129 = .ok (.getfield 30, 3) := o_180 BX11_years rfl rfl rfl
theorem dX11_years_132 : decode cX11_years 132 = .ok (.iload 5, 2) := o_21 BX11_years rfl rfl rfl
theorem dX11_years_134 : decode cX11_years 134 = .ok (.aload_n 0, 1) := o_42 BX11_years rfl rfl
theorem dX11_years_135 : decode cX11_years 135 = .ok (.iconst 5, 1) := o_8 BX11_years rfl rfl
theorem dX11_years_136 : decode cX11_years 136 = .ok (.invokevirtual 479, 3) := o_182 BX11_years rfl rfl rfl
theorem dX11_years_139 : decode cX11_years 139 = .ok (.iconst 2, 1) := o_5 BX11_years rfl rfl
theorem dX11_years_140 : decode cX11_years 140 = .ok (.isub, 1) := o_100 BX11_years rfl rfl
theorem dX11_years_141 : decode cX11_years 141 = .ok (.aload_n 0, 1) := o_42 BX11_years rfl rfl
theorem dX11_years_142 : decode cX11_years 142 = .ok (.getfield 19, 3) := o_180 BX11_years rfl rfl rfl
theorem dX11_years_145 : decode cX11_years 145 = .ok (.invokevirtual 311, 3) := o_182 BX11_years rfl rfl rfl
theorem dX11_years_148 : decode cX11_years 148 = .ok (.pop, 1) := o_87 BX11_years rfl rfl
theorem dX11_years_149 : decode cX11_years 149 = .ok (.iinc 3 1, 3) := o_132 BX11_years rfl rfl rfl rfl
theorem dX11_years_152 : decode cX11_years 152 = .ok (.goto (-121), 3) := o_167 BX11_years rfl rfl rfl
theorem dX11_years_155 : decode cX11_years 155 = .ok (.aload_n 0, 1) := o_42 BX11_years rfl rfl
theorem dX11_years_156 : decode cX11_years 156 = .ok (.getfield 66, 3) := o_180 BX11_years rfl rfl rfl
theorem dX11_years_159 : decode cX11_years 159 = .ok (.aload_n 0, 1) := o_42 BX11_years rfl rfl
theorem dX11_years_160 : decode cX11_years 160 = .ok (.getfield 30, 3) := o_180 BX11_years rfl rfl rfl
theorem dX11_years_163 : decode cX11_years 163 = .ok (.getfield 482, 3) := o_180 BX11_years rfl rfl rfl
theorem dX11_years_166 : decode cX11_years 166 = .ok (.i2l, 1) := o_133 BX11_years rfl rfl
theorem dX11_years_167 : decode cX11_years 167 = .ok (.aload_n 0, 1) := o_42 BX11_years rfl rfl
theorem dX11_years_168 : decode cX11_years 168 = .ok (.getfield 30, 3) := o_180 BX11_years rfl rfl rfl
theorem dX11_years_171 : decode cX11_years 171 = .ok (.invokevirtual 397, 3) := o_182 BX11_years rfl rfl rfl
theorem dX11_years_174 : decode cX11_years 174 = .ok (.invokestatic 389, 3) := o_184 BX11_years rfl rfl rfl
theorem dX11_years_177 : decode cX11_years 177 = .ok (.i2l, 1) := o_133 BX11_years rfl rfl
theorem dX11_years_178 : decode cX11_years 178 = .ok (.invokevirtual 298, 3) := o_182 BX11_years rfl rfl rfl
theorem dX11_years_181 : decode cX11_years 181 = .ok (.aload_n 0, 1) := o_42 BX11_years rfl rfl
theorem dX11_years_182 : decode cX11_years 182 = .ok (.getfield 30, 3) := o_180 BX11_years rfl rfl rfl
theorem dX11_years_185 : decode cX11_years 185 = .ok (.getfield 302, 3) := o_180 BX11_years rfl rfl rfl
theorem dX11_years_188 : decode cX11_years 188 = .ok (.ireturn, 1) := o_172 BX11_years rfl rfl
theorem dX11_draw_0 : decode cX11_draw 0 = .ok (.aload_n 0, 1) := o_42 BX11_draw rfl rfl
theorem dX11_draw_1 : decode cX11_draw 1 = .ok (.aload_n 0, 1) := o_42 BX11_draw rfl rfl
theorem dX11_draw_2 : decode cX11_draw 2 = .ok (.getfield 98, 3) := o_180 BX11_draw rfl rfl rfl
theorem dX11_draw_5 : decode cX11_draw 5 = .ok (.ldc_w 485, 3) := o_19 BX11_draw rfl rfl rfl
theorem dX11_draw_8 : decode cX11_draw 8 = .ok (.imul, 1) := o_104 BX11_draw rfl rfl
theorem dX11_draw_9 : decode cX11_draw 9 = .ok (.sipush 12345, 3) := o_17 BX11_draw rfl rfl rfl
theorem dX11_draw_12 : decode cX11_draw 12 = .ok (.iadd, 1) := o_96 BX11_draw rfl rfl
theorem dX11_draw_13 : decode cX11_draw 13 = .ok (.putfield 98, 3) := o_181 BX11_draw rfl rfl rfl
theorem dX11_draw_16 : decode cX11_draw 16 = .ok (.iload_n 1, 1) := o_27 BX11_draw rfl rfl
theorem dX11_draw_17 : decode cX11_draw 17 = .ok (.iconst 1, 1) := o_4 BX11_draw rfl rfl
theorem dX11_draw_18 : decode cX11_draw 18 = .ok (.if_icmp .ge 7, 3) := o_162 BX11_draw rfl rfl rfl
theorem dX11_draw_21 : decode cX11_draw 21 = .ok (.iconst 0, 1) := o_3 BX11_draw rfl rfl
theorem dX11_draw_22 : decode cX11_draw 22 = .ok (.goto 12, 3) := o_167 BX11_draw rfl rfl rfl
theorem dX11_draw_25 : decode cX11_draw 25 = .ok (.aload_n 0, 1) := o_42 BX11_draw rfl rfl
theorem dX11_draw_26 : decode cX11_draw 26 = .ok (.getfield 98, 3) := o_180 BX11_draw rfl rfl rfl
theorem dX11_draw_29 : decode cX11_draw 29 = .ok (.bipush 16, 2) := o_16 BX11_draw rfl rfl rfl
theorem dX11_draw_31 : decode cX11_draw 31 = .ok (.iushr, 1) := o_124 BX11_draw rfl rfl
theorem dX11_draw_32 : decode cX11_draw 32 = .ok (.iload_n 1, 1) := o_27 BX11_draw rfl rfl
theorem dX11_draw_33 : decode cX11_draw 33 = .ok (.irem, 1) := o_112 BX11_draw rfl rfl
theorem dX11_draw_34 : decode cX11_draw 34 = .ok (.ireturn, 1) := o_172 BX11_draw rfl rfl
theorem dX11_keep_0 : decode cX11_keep 0 = .ok (.iload_n 1, 1) := o_27 BX11_keep rfl rfl
theorem dX11_keep_1 : decode cX11_keep 1 = .ok (.ifCond .lt 8, 3) := o_155 BX11_keep rfl rfl rfl
theorem dX11_keep_4 : decode cX11_keep 4 = .ok (.iload_n 1, 1) := o_27 BX11_keep rfl rfl
theorem dX11_keep_5 : decode cX11_keep 5 = .ok (.iconst 3, 1) := o_6 BX11_keep rfl rfl
theorem dX11_keep_6 : decode cX11_keep 6 = .ok (.if_icmp .lt 5, 3) := o_161 BX11_keep rfl rfl rfl
theorem dX11_keep_9 : decode cX11_keep 9 = .ok (.iconst 0, 1) := o_3 BX11_keep rfl rfl
theorem dX11_keep_10 : decode cX11_keep 10 = .ok (.ireturn, 1) := o_172 BX11_keep rfl rfl
theorem dX11_keep_11 : decode cX11_keep 11 = .ok (.aload_n 0, 1) := o_42 BX11_keep rfl rfl
theorem dX11_keep_12 : decode cX11_keep 12 = .ok (.getfield 55, 3) := o_180 BX11_keep rfl rfl rfl
theorem dX11_keep_15 : decode cX11_keep 15 = .ok (.iload_n 1, 1) := o_27 BX11_keep rfl rfl
theorem dX11_keep_16 : decode cX11_keep 16 = .ok (.aaload, 1) := o_50 BX11_keep rfl rfl
theorem dX11_keep_17 : decode cX11_keep 17 = .ok (.aload_n 0, 1) := o_42 BX11_keep rfl rfl
theorem dX11_keep_18 : decode cX11_keep 18 = .ok (.getfield 26, 3) := o_180 BX11_keep rfl rfl rfl
theorem dX11_keep_21 : decode cX11_keep 21 = .ok (.invokevirtual 153, 3) := o_182 BX11_keep rfl rfl rfl
theorem dX11_keep_24 : decode cX11_keep 24 = .ok (.aload_n 0, 1) := o_42 BX11_keep rfl rfl
theorem dX11_keep_25 : decode cX11_keep 25 = .ok (.getfield 59, 3) := o_180 BX11_keep rfl rfl rfl
theorem dX11_keep_28 : decode cX11_keep 28 = .ok (.iload_n 1, 1) := o_27 BX11_keep rfl rfl
theorem dX11_keep_29 : decode cX11_keep 29 = .ok (.iconst 1, 1) := o_4 BX11_keep rfl rfl
theorem dX11_keep_30 : decode cX11_keep 30 = .ok (.bastore, 1) := o_84 BX11_keep rfl rfl
theorem dX11_keep_31 : decode cX11_keep 31 = .ok (.iconst 1, 1) := o_4 BX11_keep rfl rfl
theorem dX11_keep_32 : decode cX11_keep 32 = .ok (.ireturn, 1) := o_172 BX11_keep rfl rfl
theorem dX11_again_0 : decode cX11_again 0 = .ok (.iload_n 1, 1) := o_27 BX11_again rfl rfl
theorem dX11_again_1 : decode cX11_again 1 = .ok (.ifCond .lt 17, 3) := o_155 BX11_again rfl rfl rfl
theorem dX11_again_4 : decode cX11_again 4 = .ok (.iload_n 1, 1) := o_27 BX11_again rfl rfl
theorem dX11_again_5 : decode cX11_again 5 = .ok (.iconst 3, 1) := o_6 BX11_again rfl rfl
theorem dX11_again_6 : decode cX11_again 6 = .ok (.if_icmp .ge 12, 3) := o_162 BX11_again rfl rfl rfl
theorem dX11_again_9 : decode cX11_again 9 = .ok (.aload_n 0, 1) := o_42 BX11_again rfl rfl
theorem dX11_again_10 : decode cX11_again 10 = .ok (.getfield 59, 3) := o_180 BX11_again rfl rfl rfl
theorem dX11_again_13 : decode cX11_again 13 = .ok (.iload_n 1, 1) := o_27 BX11_again rfl rfl
theorem dX11_again_14 : decode cX11_again 14 = .ok (.baload, 1) := o_51 BX11_again rfl rfl
theorem dX11_again_15 : decode cX11_again 15 = .ok (.ifCond .ne 5, 3) := o_154 BX11_again rfl rfl rfl
theorem dX11_again_18 : decode cX11_again 18 = .ok (.iconst 0, 1) := o_3 BX11_again rfl rfl
theorem dX11_again_19 : decode cX11_again 19 = .ok (.ireturn, 1) := o_172 BX11_again rfl rfl
theorem dX11_again_20 : decode cX11_again 20 = .ok (.aload_n 0, 1) := o_42 BX11_again rfl rfl
theorem dX11_again_21 : decode cX11_again 21 = .ok (.getfield 55, 3) := o_180 BX11_again rfl rfl rfl
theorem dX11_again_24 : decode cX11_again 24 = .ok (.iload_n 1, 1) := o_27 BX11_again rfl rfl
theorem dX11_again_25 : decode cX11_again 25 = .ok (.aaload, 1) := o_50 BX11_again rfl rfl
theorem dX11_again_26 : decode cX11_again 26 = .ok (.getfield 176, 3) := o_180 BX11_again rfl rfl rfl
theorem dX11_again_29 : decode cX11_again 29 = .ok (.aload_n 0, 1) := o_42 BX11_again rfl rfl
theorem dX11_again_30 : decode cX11_again 30 = .ok (.getfield 26, 3) := o_180 BX11_again rfl rfl rfl
theorem dX11_again_33 : decode cX11_again 33 = .ok (.getfield 176, 3) := o_180 BX11_again rfl rfl rfl
theorem dX11_again_36 : decode cX11_again 36 = .ok (.if_icmp .ne 22, 3) := o_160 BX11_again rfl rfl rfl
theorem dX11_again_39 : decode cX11_again 39 = .ok (.aload_n 0, 1) := o_42 BX11_again rfl rfl
theorem dX11_again_40 : decode cX11_again 40 = .ok (.getfield 55, 3) := o_180 BX11_again rfl rfl rfl
theorem dX11_again_43 : decode cX11_again 43 = .ok (.iload_n 1, 1) := o_27 BX11_again rfl rfl
theorem dX11_again_44 : decode cX11_again 44 = .ok (.aaload, 1) := o_50 BX11_again rfl rfl
theorem dX11_again_45 : decode cX11_again 45 = .ok (.getfield 191, 3) := o_180 BX11_again rfl rfl rfl
theorem dX11_again_48 : decode cX11_again 48 = .ok (.aload_n 0, 1) := o_42 BX11_again rfl rfl
theorem dX11_again_49 : decode cX11_again 49 = .ok (.getfield 26, 3) := o_180 BX11_again rfl rfl rfl
theorem dX11_again_52 : decode cX11_again 52 = .ok (.getfield 191, 3) := o_180 BX11_again rfl rfl rfl
theorem dX11_again_55 : decode cX11_again 55 = .ok (.if_icmp .eq 5, 3) := o_159 BX11_again rfl rfl rfl
theorem dX11_again_58 : decode cX11_again 58 = .ok (.iconst 0, 1) := o_3 BX11_again rfl rfl
theorem dX11_again_59 : decode cX11_again 59 = .ok (.ireturn, 1) := o_172 BX11_again rfl rfl
theorem dX11_again_60 : decode cX11_again 60 = .ok (.aload_n 0, 1) := o_42 BX11_again rfl rfl
theorem dX11_again_61 : decode cX11_again 61 = .ok (.getfield 26, 3) := o_180 BX11_again rfl rfl rfl
theorem dX11_again_64 : decode cX11_again 64 = .ok (.aload_n 0, 1) := o_42 BX11_again rfl rfl
theorem dX11_again_65 : decode cX11_again 65 = .ok (.getfield 55, 3) := o_180 BX11_again rfl rfl rfl
theorem dX11_again_68 : decode cX11_again 68 = .ok (.iload_n 1, 1) := o_27 BX11_again rfl rfl
theorem dX11_again_69 : decode cX11_again 69 = .ok (.aaload, 1) := o_50 BX11_again rfl rfl
theorem dX11_again_70 : decode cX11_again 70 = .ok (.invokevirtual 153, 3) := o_182 BX11_again rfl rfl rfl
theorem dX11_again_73 : decode cX11_again 73 = .ok (.aload_n 0, 1) := o_42 BX11_again rfl rfl
theorem dX11_again_74 : decode cX11_again 74 = .ok (.getfield 51, 3) := o_180 BX11_again rfl rfl rfl
theorem dX11_again_77 : decode cX11_again 77 = .ok (.invokevirtual 136, 3) := o_182 BX11_again rfl rfl rfl
theorem dX11_again_80 : decode cX11_again 80 = .ok (.iconst 1, 1) := o_4 BX11_again rfl rfl
theorem dX11_again_81 : decode cX11_again 81 = .ok (.ireturn, 1) := o_172 BX11_again rfl rfl
theorem dX11_count_0 : decode cX11_count 0 = .ok (.iload_n 1, 1) := o_27 BX11_count rfl rfl
theorem dX11_count_1 : decode cX11_count 1 = .ok (.tableswitch 184 0 12 #[67, 75, 83, 91, 99, 107, 115, 126, 137, 152, 160, 168, 176], 67) := by decide +kernel
theorem dX11_count_68 : decode cX11_count 68 = .ok (.aload_n 0, 1) := o_42 BX11_count rfl rfl
theorem dX11_count_69 : decode cX11_count 69 = .ok (.getfield 19, 3) := o_180 BX11_count rfl rfl rfl
theorem dX11_count_72 : decode cX11_count 72 = .ok (.getfield 350, 3) := o_180 BX11_count rfl rfl rfl
theorem dX11_count_75 : decode cX11_count 75 = .ok (.ireturn, 1) := o_172 BX11_count rfl rfl
theorem dX11_count_76 : decode cX11_count 76 = .ok (.aload_n 0, 1) := o_42 BX11_count rfl rfl
theorem dX11_count_77 : decode cX11_count 77 = .ok (.getfield 26, 3) := o_180 BX11_count rfl rfl rfl
theorem dX11_count_80 : decode cX11_count 80 = .ok (.getfield 176, 3) := o_180 BX11_count rfl rfl rfl
theorem dX11_count_83 : decode cX11_count 83 = .ok (.ireturn, 1) := o_172 BX11_count rfl rfl
theorem dX11_count_84 : decode cX11_count 84 = .ok (.aload_n 0, 1) := o_42 BX11_count rfl rfl
theorem dX11_count_85 : decode cX11_count 85 = .ok (.getfield 26, 3) := o_180 BX11_count rfl rfl rfl
theorem dX11_count_88 : decode cX11_count 88 = .ok (.getfield 191, 3) := o_180 BX11_count rfl rfl rfl
theorem dX11_count_91 : decode cX11_count 91 = .ok (.ireturn, 1) := o_172 BX11_count rfl rfl
theorem dX11_count_92 : decode cX11_count 92 = .ok (.aload_n 0, 1) := o_42 BX11_count rfl rfl
theorem dX11_count_93 : decode cX11_count 93 = .ok (.getfield 26, 3) := o_180 BX11_count rfl rfl rfl
theorem dX11_count_96 : decode cX11_count 96 = .ok (.getfield 333, 3) := o_180 BX11_count rfl rfl rfl
theorem dX11_count_99 : decode cX11_count 99 = .ok (.ireturn, 1) := o_172 BX11_count rfl rfl
theorem dX11_count_100 : decode cX11_count 100 = .ok (.aload_n 0, 1) := o_42 BX11_count rfl rfl
theorem dX11_count_101 : decode cX11_count 101 = .ok (.getfield 26, 3) := o_180 BX11_count rfl rfl rfl
theorem dX11_count_104 : decode cX11_count 104 = .ok (.getfield 302, 3) := o_180 BX11_count rfl rfl rfl
theorem dX11_count_107 : decode cX11_count 107 = .ok (.ireturn, 1) := o_172 BX11_count rfl rfl
theorem dX11_count_108 : decode cX11_count 108 = .ok (.aload_n 0, 1) := o_42 BX11_count rfl rfl
theorem dX11_count_109 : decode cX11_count 109 = .ok (.getfield 26, 3) := o_180 BX11_count rfl rfl rfl
theorem dX11_count_112 : decode cX11_count 112 = .ok (.getfield 482, 3) := o_180 BX11_count rfl rfl rfl
theorem dX11_count_115 : decode cX11_count 115 = .ok (.ireturn, 1) := o_172 BX11_count rfl rfl
theorem dX11_count_116 : decode cX11_count 116 = .ok (.aload_n 0, 1) := o_42 BX11_count rfl rfl
theorem dX11_count_117 : decode cX11_count 117 = .ok (.getfield 26, 3) := o_180 BX11_count rfl rfl rfl
theorem dX11_count_120 : decode cX11_count 120 = .ok (.invokevirtual 397, 3) := o_182 BX11_count rfl rfl rfl
theorem dX11_count_123 : decode cX11_count 123 = .ok (.invokestatic 389, 3) := o_184 BX11_count rfl rfl rfl
theorem dX11_count_126 : decode cX11_count 126 = .ok (.ireturn, 1) := o_172 BX11_count rfl rfl
theorem dX11_count_127 : decode cX11_count 127 = .ok (.aload_n 0, 1) := o_42 BX11_count rfl rfl
theorem dX11_count_128 : decode cX11_count 128 = .ok (.getfield 19, 3) := o_180 BX11_count rfl rfl rfl
theorem dX11_count_131 : decode cX11_count 131 = .ok (.getfield 486, 3) := o_180 BX11_count rfl rfl rfl
theorem dX11_count_134 : decode cX11_count 134 = .ok (.invokestatic 389, 3) := o_184 BX11_count rfl rfl rfl
theorem dX11_count_137 : decode cX11_count 137 = .ok (.ireturn, 1) := o_172 BX11_count rfl rfl
theorem dX11_count_138 : decode cX11_count 138 = .ok (.aload_n 0, 1) := o_42 BX11_count rfl rfl
theorem dX11_count_139 : decode cX11_count 139 = .ok (.getfield 19, 3) := o_180 BX11_count rfl rfl rfl
theorem dX11_count_142 : decode cX11_count 142 = .ok (.aload_n 0, 1) := o_42 BX11_count rfl rfl
theorem dX11_count_143 : decode cX11_count 143 = .ok (.getfield 26, 3) := o_180 BX11_count rfl rfl rfl
theorem dX11_count_146 : decode cX11_count 146 = .ok (.getfield 333, 3) := o_180 BX11_count rfl rfl rfl
theorem dX11_count_149 : decode cX11_count 149 = .ok (.invokevirtual 489, 3) := o_182 BX11_count rfl rfl rfl
theorem dX11_count_152 : decode cX11_count 152 = .ok (.ireturn, 1) := o_172 BX11_count rfl rfl
theorem dX11_count_153 : decode cX11_count 153 = .ok (.aload_n 0, 1) := o_42 BX11_count rfl rfl
theorem dX11_count_154 : decode cX11_count 154 = .ok (.getfield 87, 3) := o_180 BX11_count rfl rfl rfl
theorem dX11_count_157 : decode cX11_count 157 = .ok (.getfield 456, 3) := o_180 BX11_count rfl rfl rfl
theorem dX11_count_160 : decode cX11_count 160 = .ok (.ireturn, 1) := o_172 BX11_count rfl rfl
theorem dX11_count_161 : decode cX11_count 161 = .ok (.aload_n 0, 1) := o_42 BX11_count rfl rfl
theorem dX11_count_162 : decode cX11_count 162 = .ok (.getfield 51, 3) := o_180 BX11_count rfl rfl rfl
theorem dX11_count_165 : decode cX11_count 165 = .ok (.getfield 346, 3) := o_180 BX11_count rfl rfl rfl
theorem dX11_count_168 : decode cX11_count 168 = .ok (.ireturn, 1) := o_172 BX11_count rfl rfl
theorem dX11_count_169 : decode cX11_count 169 = .ok (.aload_n 0, 1) := o_42 BX11_count rfl rfl
theorem dX11_count_170 : decode cX11_count 170 = .ok (.getfield 66, 3) := o_180 BX11_count rfl rfl rfl
theorem dX11_count_173 : decode cX11_count 173 = .ok (.getfield 359, 3) := o_180 BX11_count rfl rfl rfl
theorem dX11_count_176 : decode cX11_count 176 = .ok (.ireturn, 1) := o_172 BX11_count rfl rfl
theorem dX11_count_177 : decode cX11_count 177 = .ok (.aload_n 0, 1) := o_42 BX11_count rfl rfl
theorem dX11_count_178 : decode cX11_count 178 = .ok (.getfield 10, 3) := o_180 BX11_count rfl rfl rfl
theorem dX11_count_181 : decode cX11_count 181 = .ok (.getfield 119, 3) := o_180 BX11_count rfl rfl rfl
theorem dX11_count_184 : decode cX11_count 184 = .ok (.ireturn, 1) := o_172 BX11_count rfl rfl
theorem dX11_count_185 : decode cX11_count 185 = .ok (.bipush (-100), 2) := o_16 BX11_count rfl rfl rfl
theorem dX11_count_187 : decode cX11_count 187 = .ok (.ireturn, 1) := o_172 BX11_count rfl rfl
theorem dX11_row_0 : decode cX11_row 0 = .ok (.iload_n 1, 1) := o_27 BX11_row rfl rfl
theorem dX11_row_1 : decode cX11_row 1 = .ok (.ifCond .lt 14, 3) := o_155 BX11_row rfl rfl rfl
theorem dX11_row_4 : decode cX11_row 4 = .ok (.iload_n 1, 1) := o_27 BX11_row rfl rfl
theorem dX11_row_5 : decode cX11_row 5 = .ok (.aload_n 0, 1) := o_42 BX11_row rfl rfl
theorem dX11_row_6 : decode cX11_row 6 = .ok (.getfield 66, 3) := o_180 BX11_row rfl rfl rfl
theorem dX11_row_9 : decode cX11_row 9 = .ok (.getfield 359, 3) := o_180 BX11_row rfl rfl rfl
theorem dX11_row_12 : decode cX11_row 12 = .ok (.if_icmp .lt 14, 3) := o_161 BX11_row rfl rfl rfl
theorem dX11_row_15 : decode cX11_row 15 = .ok (.new 223, 3) := o_187 BX11_row rfl rfl rfl
theorem dX11_row_18 : decode cX11_row 18 = .ok (.dup, 1) := o_89 BX11_row rfl rfl
theorem dX11_row_19 : decode cX11_row 19 = .ok (.ldc_w 492, 3) := o_19 BX11_row rfl rfl rfl
theorem dX11_row_22 : decode cX11_row 22 = .ok (.invokespecial 227, 3) := o_183 BX11_row rfl rfl rfl
theorem dX11_row_25 : decode cX11_row 25 = .ok (.athrow, 1) := o_191 BX11_row rfl rfl
theorem dX11_row_26 : decode cX11_row 26 = .ok (.aload_n 0, 1) := o_42 BX11_row rfl rfl
theorem dX11_row_27 : decode cX11_row 27 = .ok (.getfield 66, 3) := o_180 BX11_row rfl rfl rfl
theorem dX11_row_30 : decode cX11_row 30 = .ok (.getfield 494, 3) := o_180 BX11_row rfl rfl rfl
theorem dX11_row_33 : decode cX11_row 33 = .ok (.iload_n 1, 1) := o_27 BX11_row rfl rfl
theorem dX11_row_34 : decode cX11_row 34 = .ok (.laload, 1) := o_47 BX11_row rfl rfl
theorem dX11_row_35 : decode cX11_row 35 = .ok (.lreturn, 1) := o_173 BX11_row rfl rfl
theorem dX12_init_0 : decode cX12_init 0 = .ok (.aload_n 0, 1) := o_42 BX12_init rfl rfl
theorem dX12_init_1 : decode cX12_init 1 = .ok (.invokespecial 3, 3) := o_183 BX12_init rfl rfl rfl
theorem dX12_init_4 : decode cX12_init 4 = .ok (.aload_n 0, 1) := o_42 BX12_init rfl rfl
theorem dX12_init_5 : decode cX12_init 5 = .ok (.bipush 24, 2) := o_16 BX12_init rfl rfl rfl
theorem dX12_init_7 : decode cX12_init 7 = .ok (.newarray .long, 2) := o_188_11 BX12_init rfl rfl rfl
theorem dX12_init_9 : decode cX12_init 9 = .ok (.putfield 9, 3) := o_181 BX12_init rfl rfl rfl
theorem dX12_init_12 : decode cX12_init 12 = .ok (.aload_n 0, 1) := o_42 BX12_init rfl rfl
theorem dX12_init_13 : decode cX12_init 13 = .ok (.iconst 4, 1) := o_7 BX12_init rfl rfl
theorem dX12_init_14 : decode cX12_init 14 = .ok (.putfield 13, 3) := o_181 BX12_init rfl rfl rfl
theorem dX12_init_17 : decode cX12_init 17 = .ok (.aload_n 0, 1) := o_42 BX12_init rfl rfl
theorem dX12_init_18 : decode cX12_init 18 = .ok (.iconst 1, 1) := o_4 BX12_init rfl rfl
theorem dX12_init_19 : decode cX12_init 19 = .ok (.putfield 17, 3) := o_181 BX12_init rfl rfl rfl
theorem dX12_init_22 : decode cX12_init 22 = .ok (.aload_n 0, 1) := o_42 BX12_init rfl rfl
theorem dX12_init_23 : decode cX12_init 23 = .ok (.bipush 30, 2) := o_16 BX12_init rfl rfl rfl
theorem dX12_init_25 : decode cX12_init 25 = .ok (.newarray .boolean, 2) := o_188_4 BX12_init rfl rfl rfl
theorem dX12_init_27 : decode cX12_init 27 = .ok (.putfield 20, 3) := o_181 BX12_init rfl rfl rfl
theorem dX12_init_30 : decode cX12_init 30 = .ok (.aload_n 0, 1) := o_42 BX12_init rfl rfl
theorem dX12_init_31 : decode cX12_init 31 = .ok (.bipush 8, 2) := o_16 BX12_init rfl rfl rfl
theorem dX12_init_33 : decode cX12_init 33 = .ok (.newarray .int, 2) := o_188_10 BX12_init rfl rfl rfl
theorem dX12_init_35 : decode cX12_init 35 = .ok (.putfield 24, 3) := o_181 BX12_init rfl rfl rfl
theorem dX12_init_38 : decode cX12_init 38 = .ok (.aload_n 0, 1) := o_42 BX12_init rfl rfl
theorem dX12_init_39 : decode cX12_init 39 = .ok (.bipush 20, 2) := o_16 BX12_init rfl rfl rfl
theorem dX12_init_41 : decode cX12_init 41 = .ok (.newarray .int, 2) := o_188_10 BX12_init rfl rfl rfl
theorem dX12_init_43 : decode cX12_init 43 = .ok (.putfield 28, 3) := o_181 BX12_init rfl rfl rfl
theorem dX12_init_46 : decode cX12_init 46 = .ok (.aload_n 0, 1) := o_42 BX12_init rfl rfl
theorem dX12_init_47 : decode cX12_init 47 = .ok (.bipush 38, 2) := o_16 BX12_init rfl rfl rfl
theorem dX12_init_49 : decode cX12_init 49 = .ok (.newarray .int, 2) := o_188_10 BX12_init rfl rfl rfl
theorem dX12_init_51 : decode cX12_init 51 = .ok (.putfield 31, 3) := o_181 BX12_init rfl rfl rfl
theorem dX12_init_54 : decode cX12_init 54 = .ok (.aload_n 0, 1) := o_42 BX12_init rfl rfl
theorem dX12_init_55 : decode cX12_init 55 = .ok (.bipush 38, 2) := o_16 BX12_init rfl rfl rfl
theorem dX12_init_57 : decode cX12_init 57 = .ok (.newarray .int, 2) := o_188_10 BX12_init rfl rfl rfl
theorem dX12_init_59 : decode cX12_init 59 = .ok (.putfield 34, 3) := o_181 BX12_init rfl rfl rfl
theorem dX12_init_62 : decode cX12_init 62 = .ok (.aload_n 0, 1) := o_42 BX12_init rfl rfl
theorem dX12_init_63 : decode cX12_init 63 = .ok (.bipush 80, 2) := o_16 BX12_init rfl rfl rfl
theorem dX12_init_65 : decode cX12_init 65 = .ok (.newarray .int, 2) := o_188_10 BX12_init rfl rfl rfl
theorem dX12_init_67 : decode cX12_init 67 = .ok (.putfield 37, 3) := o_181 BX12_init rfl rfl rfl
theorem dX12_init_70 : decode cX12_init 70 = .ok (.aload_n 0, 1) := o_42 BX12_init rfl rfl
theorem dX12_init_71 : decode cX12_init 71 = .ok (.bipush 30, 2) := o_16 BX12_init rfl rfl rfl
theorem dX12_init_73 : decode cX12_init 73 = .ok (.newarray .boolean, 2) := o_188_4 BX12_init rfl rfl rfl
theorem dX12_init_75 : decode cX12_init 75 = .ok (.putfield 40, 3) := o_181 BX12_init rfl rfl rfl
theorem dX12_init_78 : decode cX12_init 78 = .ok (.aload_n 0, 1) := o_42 BX12_init rfl rfl
theorem dX12_init_79 : decode cX12_init 79 = .ok (.bipush 16, 2) := o_16 BX12_init rfl rfl rfl
theorem dX12_init_81 : decode cX12_init 81 = .ok (.newarray .int, 2) := o_188_10 BX12_init rfl rfl rfl
theorem dX12_init_83 : decode cX12_init 83 = .ok (.putfield 43, 3) := o_181 BX12_init rfl rfl rfl
theorem dX12_init_86 : decode cX12_init 86 = .ok (.aload_n 0, 1) := o_42 BX12_init rfl rfl
theorem dX12_init_87 : decode cX12_init 87 = .ok (.bipush 20, 2) := o_16 BX12_init rfl rfl rfl
theorem dX12_init_89 : decode cX12_init 89 = .ok (.newarray .int, 2) := o_188_10 BX12_init rfl rfl rfl
theorem dX12_init_91 : decode cX12_init 91 = .ok (.putfield 46, 3) := o_181 BX12_init rfl rfl rfl
theorem dX12_init_94 : decode cX12_init 94 = .ok (.aload_n 0, 1) := o_42 BX12_init rfl rfl
theorem dX12_init_95 : decode cX12_init 95 = .ok (.bipush 80, 2) := o_16 BX12_init rfl rfl rfl
theorem dX12_init_97 : decode cX12_init 97 = .ok (.newarray .int, 2) := o_188_10 BX12_init rfl rfl rfl
theorem dX12_init_99 : decode cX12_init 99 = .ok (.putfield 49, 3) := o_181 BX12_init rfl rfl rfl
theorem dX12_init_102 : decode cX12_init 102 = .ok (.aload_n 0, 1) := o_42 BX12_init rfl rfl
theorem dX12_init_103 : decode cX12_init 103 = .ok (.bipush 80, 2) := o_16 BX12_init rfl rfl rfl
theorem dX12_init_105 : decode cX12_init 105 = .ok (.newarray .int, 2) := o_188_10 BX12_init rfl rfl rfl
theorem dX12_init_107 : decode cX12_init 107 = .ok (.putfield 52, 3) := o_181 BX12_init rfl rfl rfl
theorem dX12_init_110 : decode cX12_init 110 = .ok (.aload_n 0, 1) := o_42 BX12_init rfl rfl
theorem dX12_init_111 : decode cX12_init 111 = .ok (.bipush 80, 2) := o_16 BX12_init rfl rfl rfl
theorem dX12_init_113 : decode cX12_init 113 = .ok (.newarray .int, 2) := o_188_10 BX12_init rfl rfl rfl
theorem dX12_init_115 : decode cX12_init 115 = .ok (.putfield 55, 3) := o_181 BX12_init rfl rfl rfl
theorem dX12_init_118 : decode cX12_init 118 = .ok (.aload_n 0, 1) := o_42 BX12_init rfl rfl
theorem dX12_init_119 : decode cX12_init 119 = .ok (.bipush 7, 2) := o_16 BX12_init rfl rfl rfl
theorem dX12_init_121 : decode cX12_init 121 = .ok (.newarray .int, 2) := o_188_10 BX12_init rfl rfl rfl
theorem dX12_init_123 : decode cX12_init 123 = .ok (.putfield 58, 3) := o_181 BX12_init rfl rfl rfl
theorem dX12_init_126 : decode cX12_init 126 = .ok (.aload_n 0, 1) := o_42 BX12_init rfl rfl
theorem dX12_init_127 : decode cX12_init 127 = .ok (.sipush 608, 3) := o_17 BX12_init rfl rfl rfl
theorem dX12_init_130 : decode cX12_init 130 = .ok (.newarray .int, 2) := o_188_10 BX12_init rfl rfl rfl
theorem dX12_init_132 : decode cX12_init 132 = .ok (.putfield 61, 3) := o_181 BX12_init rfl rfl rfl
theorem dX12_init_135 : decode cX12_init 135 = .ok (.aload_n 0, 1) := o_42 BX12_init rfl rfl
theorem dX12_init_136 : decode cX12_init 136 = .ok (.bipush 30, 2) := o_16 BX12_init rfl rfl rfl
theorem dX12_init_138 : decode cX12_init 138 = .ok (.newarray .int, 2) := o_188_10 BX12_init rfl rfl rfl
theorem dX12_init_140 : decode cX12_init 140 = .ok (.putfield 64, 3) := o_181 BX12_init rfl rfl rfl
theorem dX12_init_143 : decode cX12_init 143 = .ok (.aload_n 0, 1) := o_42 BX12_init rfl rfl
theorem dX12_init_144 : decode cX12_init 144 = .ok (.bipush 8, 2) := o_16 BX12_init rfl rfl rfl
theorem dX12_init_146 : decode cX12_init 146 = .ok (.newarray .int, 2) := o_188_10 BX12_init rfl rfl rfl
theorem dX12_init_148 : decode cX12_init 148 = .ok (.putfield 67, 3) := o_181 BX12_init rfl rfl rfl
theorem dX12_init_151 : decode cX12_init 151 = .ok (.aload_n 0, 1) := o_42 BX12_init rfl rfl
theorem dX12_init_152 : decode cX12_init 152 = .ok (.bipush 6, 2) := o_16 BX12_init rfl rfl rfl
theorem dX12_init_154 : decode cX12_init 154 = .ok (.newarray .int, 2) := o_188_10 BX12_init rfl rfl rfl
theorem dX12_init_156 : decode cX12_init 156 = .ok (.putfield 70, 3) := o_181 BX12_init rfl rfl rfl
theorem dX12_init_159 : decode cX12_init 159 = .ok (.aload_n 0, 1) := o_42 BX12_init rfl rfl
theorem dX12_init_160 : decode cX12_init 160 = .ok (.bipush 60, 2) := o_16 BX12_init rfl rfl rfl
theorem dX12_init_162 : decode cX12_init 162 = .ok (.newarray .int, 2) := o_188_10 BX12_init rfl rfl rfl
theorem dX12_init_164 : decode cX12_init 164 = .ok (.putfield 73, 3) := o_181 BX12_init rfl rfl rfl
theorem dX12_init_167 : decode cX12_init 167 = .ok (.aload_n 0, 1) := o_42 BX12_init rfl rfl
theorem dX12_init_168 : decode cX12_init 168 = .ok (.bipush 60, 2) := o_16 BX12_init rfl rfl rfl
theorem dX12_init_170 : decode cX12_init 170 = .ok (.newarray .int, 2) := o_188_10 BX12_init rfl rfl rfl
theorem dX12_init_172 : decode cX12_init 172 = .ok (.putfield 76, 3) := o_181 BX12_init rfl rfl rfl
theorem dX12_init_175 : decode cX12_init 175 = .ok (.aload_n 0, 1) := o_42 BX12_init rfl rfl
theorem dX12_init_176 : decode cX12_init 176 = .ok (.bipush 60, 2) := o_16 BX12_init rfl rfl rfl
theorem dX12_init_178 : decode cX12_init 178 = .ok (.newarray .int, 2) := o_188_10 BX12_init rfl rfl rfl
theorem dX12_init_180 : decode cX12_init 180 = .ok (.putfield 79, 3) := o_181 BX12_init rfl rfl rfl
theorem dX12_init_183 : decode cX12_init 183 = .ok (.aload_n 0, 1) := o_42 BX12_init rfl rfl
theorem dX12_init_184 : decode cX12_init 184 = .ok (.bipush 6, 2) := o_16 BX12_init rfl rfl rfl
theorem dX12_init_186 : decode cX12_init 186 = .ok (.newarray .int, 2) := o_188_10 BX12_init rfl rfl rfl
theorem dX12_init_188 : decode cX12_init 188 = .ok (.putfield 82, 3) := o_181 BX12_init rfl rfl rfl
theorem dX12_init_191 : decode cX12_init 191 = .ok (.aload_n 0, 1) := o_42 BX12_init rfl rfl
theorem dX12_init_192 : decode cX12_init 192 = .ok (.bipush 6, 2) := o_16 BX12_init rfl rfl rfl
theorem dX12_init_194 : decode cX12_init 194 = .ok (.newarray .int, 2) := o_188_10 BX12_init rfl rfl rfl
theorem dX12_init_196 : decode cX12_init 196 = .ok (.putfield 85, 3) := o_181 BX12_init rfl rfl rfl
theorem dX12_init_199 : decode cX12_init 199 = .ok (.aload_n 0, 1) := o_42 BX12_init rfl rfl
theorem dX12_init_200 : decode cX12_init 200 = .ok (.bipush 8, 2) := o_16 BX12_init rfl rfl rfl
theorem dX12_init_202 : decode cX12_init 202 = .ok (.newarray .int, 2) := o_188_10 BX12_init rfl rfl rfl
theorem dX12_init_204 : decode cX12_init 204 = .ok (.putfield 88, 3) := o_181 BX12_init rfl rfl rfl
theorem dX12_init_207 : decode cX12_init 207 = .ok (.aload_n 0, 1) := o_42 BX12_init rfl rfl
theorem dX12_init_208 : decode cX12_init 208 = .ok (.bipush 8, 2) := o_16 BX12_init rfl rfl rfl
theorem dX12_init_210 : decode cX12_init 210 = .ok (.newarray .int, 2) := o_188_10 BX12_init rfl rfl rfl
theorem dX12_init_212 : decode cX12_init 212 = .ok (.putfield 91, 3) := o_181 BX12_init rfl rfl rfl
theorem dX12_init_215 : decode cX12_init 215 = .ok (.aload_n 0, 1) := o_42 BX12_init rfl rfl
theorem dX12_init_216 : decode cX12_init 216 = .ok (.bipush 8, 2) := o_16 BX12_init rfl rfl rfl
theorem dX12_init_218 : decode cX12_init 218 = .ok (.newarray .int, 2) := o_188_10 BX12_init rfl rfl rfl
theorem dX12_init_220 : decode cX12_init 220 = .ok (.putfield 94, 3) := o_181 BX12_init rfl rfl rfl
theorem dX12_init_223 : decode cX12_init 223 = .ok (.aload_n 0, 1) := o_42 BX12_init rfl rfl
theorem dX12_init_224 : decode cX12_init 224 = .ok (.bipush 8, 2) := o_16 BX12_init rfl rfl rfl
theorem dX12_init_226 : decode cX12_init 226 = .ok (.newarray .int, 2) := o_188_10 BX12_init rfl rfl rfl
theorem dX12_init_228 : decode cX12_init 228 = .ok (.putfield 97, 3) := o_181 BX12_init rfl rfl rfl
theorem dX12_init_231 : decode cX12_init 231 = .ok (.aload_n 0, 1) := o_42 BX12_init rfl rfl
theorem dX12_init_232 : decode cX12_init 232 = .ok (.bipush 80, 2) := o_16 BX12_init rfl rfl rfl
theorem dX12_init_234 : decode cX12_init 234 = .ok (.newarray .int, 2) := o_188_10 BX12_init rfl rfl rfl
theorem dX12_init_236 : decode cX12_init 236 = .ok (.putfield 100, 3) := o_181 BX12_init rfl rfl rfl
theorem dX12_init_239 : decode cX12_init 239 = .ok (.aload_n 0, 1) := o_42 BX12_init rfl rfl
theorem dX12_init_240 : decode cX12_init 240 = .ok (.iconst 3, 1) := o_6 BX12_init rfl rfl
theorem dX12_init_241 : decode cX12_init 241 = .ok (.newarray .boolean, 2) := o_188_4 BX12_init rfl rfl rfl
theorem dX12_init_243 : decode cX12_init 243 = .ok (.putfield 103, 3) := o_181 BX12_init rfl rfl rfl
theorem dX12_init_246 : decode cX12_init 246 = .ok (.aload_n 0, 1) := o_42 BX12_init rfl rfl
theorem dX12_init_247 : decode cX12_init 247 = .ok (.iconst 3, 1) := o_6 BX12_init rfl rfl
theorem dX12_init_248 : decode cX12_init 248 = .ok (.newarray .int, 2) := o_188_10 BX12_init rfl rfl rfl
theorem dX12_init_250 : decode cX12_init 250 = .ok (.putfield 106, 3) := o_181 BX12_init rfl rfl rfl
theorem dX12_init_253 : decode cX12_init 253 = .ok (.aload_n 0, 1) := o_42 BX12_init rfl rfl
theorem dX12_init_254 : decode cX12_init 254 = .ok (.bipush 114, 2) := o_16 BX12_init rfl rfl rfl
theorem dX12_init_256 : decode cX12_init 256 = .ok (.newarray .int, 2) := o_188_10 BX12_init rfl rfl rfl
theorem dX12_init_258 : decode cX12_init 258 = .ok (.putfield 109, 3) := o_181 BX12_init rfl rfl rfl
theorem dX12_init_261 : decode cX12_init 261 = .ok (.return_, 1) := o_177 BX12_init rfl rfl
theorem dX12_refuse_0 : decode cX12_refuse 0 = .ok (.aload_n 0, 1) := o_42 BX12_refuse rfl rfl
theorem dX12_refuse_1 : decode cX12_refuse 1 = .ok (.iconst 1, 1) := o_4 BX12_refuse rfl rfl
theorem dX12_refuse_2 : decode cX12_refuse 2 = .ok (.putfield 112, 3) := o_181 BX12_refuse rfl rfl rfl
theorem dX12_refuse_5 : decode cX12_refuse 5 = .ok (.iconst 0, 1) := o_3 BX12_refuse rfl rfl
theorem dX12_refuse_6 : decode cX12_refuse 6 = .ok (.ireturn, 1) := o_172 BX12_refuse rfl rfl
theorem dX12_in_0 : decode cX12_in 0 = .ok (.lload_n 0, 1) := o_30 BX12_in rfl rfl
theorem dX12_in_1 : decode cX12_in 1 = .ok (.lload_n 2, 1) := o_32 BX12_in rfl rfl
theorem dX12_in_2 : decode cX12_in 2 = .ok (.lcmp, 1) := o_148 BX12_in rfl rfl
theorem dX12_in_3 : decode cX12_in 3 = .ok (.ifCond .lt 14, 3) := o_155 BX12_in rfl rfl rfl
theorem dX12_in_6 : decode cX12_in 6 = .ok (.lload_n 0, 1) := o_30 BX12_in rfl rfl
theorem dX12_in_7 : decode cX12_in 7 = .ok (.lload 4, 2) := o_22 BX12_in rfl rfl rfl
theorem dX12_in_9 : decode cX12_in 9 = .ok (.lcmp, 1) := o_148 BX12_in rfl rfl
theorem dX12_in_10 : decode cX12_in 10 = .ok (.ifCond .gt 7, 3) := o_157 BX12_in rfl rfl rfl
theorem dX12_in_13 : decode cX12_in 13 = .ok (.iconst 1, 1) := o_4 BX12_in rfl rfl
theorem dX12_in_14 : decode cX12_in 14 = .ok (.goto 4, 3) := o_167 BX12_in rfl rfl rfl
theorem dX12_in_17 : decode cX12_in 17 = .ok (.iconst 0, 1) := o_3 BX12_in rfl rfl
theorem dX12_in_18 : decode cX12_in 18 = .ok (.ireturn, 1) := o_172 BX12_in rfl rfl
theorem dX12_has_0 : decode cX12_has 0 = .ok (.iload_n 0, 1) := o_26 BX12_has rfl rfl
theorem dX12_has_1 : decode cX12_has 1 = .ok (.iload_n 1, 1) := o_27 BX12_has rfl rfl
theorem dX12_has_2 : decode cX12_has 2 = .ok (.ishr, 1) := o_122 BX12_has rfl rfl
theorem dX12_has_3 : decode cX12_has 3 = .ok (.iconst 1, 1) := o_4 BX12_has rfl rfl
theorem dX12_has_4 : decode cX12_has 4 = .ok (.iand, 1) := o_126 BX12_has rfl rfl
theorem dX12_has_5 : decode cX12_has 5 = .ok (.iconst 1, 1) := o_4 BX12_has rfl rfl
theorem dX12_has_6 : decode cX12_has 6 = .ok (.if_icmp .ne 7, 3) := o_160 BX12_has rfl rfl rfl
theorem dX12_has_9 : decode cX12_has 9 = .ok (.iconst 1, 1) := o_4 BX12_has rfl rfl
theorem dX12_has_10 : decode cX12_has 10 = .ok (.goto 4, 3) := o_167 BX12_has rfl rfl rfl
theorem dX12_has_13 : decode cX12_has 13 = .ok (.iconst 0, 1) := o_3 BX12_has rfl rfl
theorem dX12_has_14 : decode cX12_has 14 = .ok (.ireturn, 1) := o_172 BX12_has rfl rfl
theorem dX12_flag_0 : decode cX12_flag 0 = .ok (.iload_n 0, 1) := o_26 BX12_flag rfl rfl
theorem dX12_flag_1 : decode cX12_flag 1 = .ok (.ifCond .eq 7, 3) := o_153 BX12_flag rfl rfl rfl
theorem dX12_flag_4 : decode cX12_flag 4 = .ok (.iconst 1, 1) := o_4 BX12_flag rfl rfl
theorem dX12_flag_5 : decode cX12_flag 5 = .ok (.goto 4, 3) := o_167 BX12_flag rfl rfl rfl
theorem dX12_flag_8 : decode cX12_flag 8 = .ok (.iconst 0, 1) := o_3 BX12_flag rfl rfl
theorem dX12_flag_9 : decode cX12_flag 9 = .ok (.ireturn, 1) := o_172 BX12_flag rfl rfl
theorem dX12_common_0 : decode cX12_common 0 = .ok (.lload_n 2, 1) := o_32 BX12_common rfl rfl
theorem dX12_common_1 : decode cX12_common 1 = .ok (.lconst 0, 1) := o_9 BX12_common rfl rfl
theorem dX12_common_2 : decode cX12_common 2 = .ok (.lcmp, 1) := o_148 BX12_common rfl rfl
theorem dX12_common_3 : decode cX12_common 3 = .ok (.ifCond .ne 7, 3) := o_154 BX12_common rfl rfl rfl
theorem dX12_common_6 : decode cX12_common 6 = .ok (.lload_n 0, 1) := o_30 BX12_common rfl rfl
theorem dX12_common_7 : decode cX12_common 7 = .ok (.goto 10, 3) := o_167 BX12_common rfl rfl rfl
theorem dX12_common_10 : decode cX12_common 10 = .ok (.lload_n 2, 1) := o_32 BX12_common rfl rfl
theorem dX12_common_11 : decode cX12_common 11 = .ok (.lload_n 0, 1) := o_30 BX12_common rfl rfl
theorem dX12_common_12 : decode cX12_common 12 = .ok (.lload_n 2, 1) := o_32 BX12_common rfl rfl
theorem dX12_common_13 : decode cX12_common 13 = .ok (.lrem, 1) := o_113 BX12_common rfl rfl
theorem dX12_common_14 : decode cX12_common 14 = .ok (.invokestatic 115, 3) := o_184 BX12_common rfl rfl rfl
theorem dX12_common_17 : decode cX12_common 17 = .ok (.lreturn, 1) := o_173 BX12_common rfl rfl
theorem dX12_enters_0 : decode cX12_enters 0 = .ok (.aload_n 0, 1) := o_42 BX12_enters rfl rfl
theorem dX12_enters_1 : decode cX12_enters 1 = .ok (.getfield 9, 3) := o_180 BX12_enters rfl rfl rfl
theorem dX12_enters_4 : decode cX12_enters 4 = .ok (.aload_n 0, 1) := o_42 BX12_enters rfl rfl
theorem dX12_enters_5 : decode cX12_enters 5 = .ok (.getfield 119, 3) := o_180 BX12_enters rfl rfl rfl
theorem dX12_enters_8 : decode cX12_enters 8 = .ok (.lload_n 1, 1) := o_31 BX12_enters rfl rfl
theorem dX12_enters_9 : decode cX12_enters 9 = .ok (.lastore, 1) := o_80 BX12_enters rfl rfl
theorem dX12_enters_10 : decode cX12_enters 10 = .ok (.aload_n 0, 1) := o_42 BX12_enters rfl rfl
theorem dX12_enters_11 : decode cX12_enters 11 = .ok (.dup, 1) := o_89 BX12_enters rfl rfl
theorem dX12_enters_12 : decode cX12_enters 12 = .ok (.getfield 119, 3) := o_180 BX12_enters rfl rfl rfl
theorem dX12_enters_15 : decode cX12_enters 15 = .ok (.iconst 1, 1) := o_4 BX12_enters rfl rfl
theorem dX12_enters_16 : decode cX12_enters 16 = .ok (.iadd, 1) := o_96 BX12_enters rfl rfl
theorem dX12_enters_17 : decode cX12_enters 17 = .ok (.putfield 119, 3) := o_181 BX12_enters rfl rfl rfl
theorem dX12_enters_20 : decode cX12_enters 20 = .ok (.return_, 1) := o_177 BX12_enters rfl rfl
theorem dX12_gate_0 : decode cX12_gate 0 = .ok (.aload_n 0, 1) := o_42 BX12_gate rfl rfl
theorem dX12_gate_1 : decode cX12_gate 1 = .ok (.getfield 13, 3) := o_180 BX12_gate rfl rfl rfl
theorem dX12_gate_4 : decode cX12_gate 4 = .ok (.iconst 1, 1) := o_4 BX12_gate rfl rfl
theorem dX12_gate_5 : decode cX12_gate 5 = .ok (.isub, 1) := o_100 BX12_gate rfl rfl
theorem dX12_gate_6 : decode cX12_gate 6 = .ok (.ireturn, 1) := o_172 BX12_gate rfl rfl
theorem dX12_isHearse_0 : decode cX12_isHearse 0 = .ok (.iload_n 1, 1) := o_27 BX12_isHearse rfl rfl
theorem dX12_isHearse_1 : decode cX12_isHearse 1 = .ok (.i2l, 1) := o_133 BX12_isHearse rfl rfl
theorem dX12_isHearse_2 : decode cX12_isHearse 2 = .ok (.lconst 0, 1) := o_9 BX12_isHearse rfl rfl
theorem dX12_isHearse_3 : decode cX12_isHearse 3 = .ok (.aload_n 0, 1) := o_42 BX12_isHearse rfl rfl
theorem dX12_isHearse_4 : decode cX12_isHearse 4 = .ok (.getfield 122, 3) := o_180 BX12_isHearse rfl rfl rfl
theorem dX12_isHearse_7 : decode cX12_isHearse 7 = .ok (.iconst 1, 1) := o_4 BX12_isHearse rfl rfl
theorem dX12_isHearse_8 : decode cX12_isHearse 8 = .ok (.isub, 1) := o_100 BX12_isHearse rfl rfl
theorem dX12_isHearse_9 : decode cX12_isHearse 9 = .ok (.i2l, 1) := o_133 BX12_isHearse rfl rfl
theorem dX12_isHearse_10 : decode cX12_isHearse 10 = .ok (.invokestatic 125, 3) := o_184 BX12_isHearse rfl rfl rfl
theorem dX12_isHearse_13 : decode cX12_isHearse 13 = .ok (.ireturn, 1) := o_172 BX12_isHearse rfl rfl
theorem dX12_isMourner_0 : decode cX12_isMourner 0 = .ok (.iload_n 1, 1) := o_27 BX12_isMourner rfl rfl
theorem dX12_isMourner_1 : decode cX12_isMourner 1 = .ok (.i2l, 1) := o_133 BX12_isMourner rfl rfl
theorem dX12_isMourner_2 : decode cX12_isMourner 2 = .ok (.lconst 0, 1) := o_9 BX12_isMourner rfl rfl
theorem dX12_isMourner_3 : decode cX12_isMourner 3 = .ok (.aload_n 0, 1) := o_42 BX12_isMourner rfl rfl
theorem dX12_isMourner_4 : decode cX12_isMourner 4 = .ok (.getfield 129, 3) := o_180 BX12_isMourner rfl rfl rfl
theorem dX12_isMourner_7 : decode cX12_isMourner 7 = .ok (.iconst 1, 1) := o_4 BX12_isMourner rfl rfl
theorem dX12_isMourner_8 : decode cX12_isMourner 8 = .ok (.isub, 1) := o_100 BX12_isMourner rfl rfl
theorem dX12_isMourner_9 : decode cX12_isMourner 9 = .ok (.i2l, 1) := o_133 BX12_isMourner rfl rfl
theorem dX12_isMourner_10 : decode cX12_isMourner 10 = .ok (.invokestatic 125, 3) := o_184 BX12_isMourner rfl rfl rfl
theorem dX12_isMourner_13 : decode cX12_isMourner 13 = .ok (.ireturn, 1) := o_172 BX12_isMourner rfl rfl
theorem dX12_isOn_0 : decode cX12_isOn 0 = .ok (.aload_n 0, 1) := o_42 BX12_isOn rfl rfl
theorem dX12_isOn_1 : decode cX12_isOn 1 = .ok (.iload_n 1, 1) := o_27 BX12_isOn rfl rfl
theorem dX12_isOn_2 : decode cX12_isOn 2 = .ok (.iaload, 1) := o_46 BX12_isOn rfl rfl
theorem dX12_isOn_3 : decode cX12_isOn 3 = .ok (.ifCond .lt 7, 3) := o_155 BX12_isOn rfl rfl rfl
theorem dX12_isOn_6 : decode cX12_isOn 6 = .ok (.iconst 1, 1) := o_4 BX12_isOn rfl rfl
theorem dX12_isOn_7 : decode cX12_isOn 7 = .ok (.goto 4, 3) := o_167 BX12_isOn rfl rfl rfl
theorem dX12_isOn_10 : decode cX12_isOn 10 = .ok (.iconst 0, 1) := o_3 BX12_isOn rfl rfl
theorem dX12_isOn_11 : decode cX12_isOn 11 = .ok (.ireturn, 1) := o_172 BX12_isOn rfl rfl
theorem dX12_isEnded_0 : decode cX12_isEnded 0 = .ok (.aload_n 0, 1) := o_42 BX12_isEnded rfl rfl
theorem dX12_isEnded_1 : decode cX12_isEnded 1 = .ok (.bipush 29, 2) := o_16 BX12_isEnded rfl rfl rfl
theorem dX12_isEnded_3 : decode cX12_isEnded 3 = .ok (.iload_n 1, 1) := o_27 BX12_isEnded rfl rfl
theorem dX12_isEnded_4 : decode cX12_isEnded 4 = .ok (.iadd, 1) := o_96 BX12_isEnded rfl rfl
theorem dX12_isEnded_5 : decode cX12_isEnded 5 = .ok (.iaload, 1) := o_46 BX12_isEnded rfl rfl
theorem dX12_isEnded_6 : decode cX12_isEnded 6 = .ok (.ifCond .lt 7, 3) := o_155 BX12_isEnded rfl rfl rfl
theorem dX12_isEnded_9 : decode cX12_isEnded 9 = .ok (.iconst 1, 1) := o_4 BX12_isEnded rfl rfl
theorem dX12_isEnded_10 : decode cX12_isEnded 10 = .ok (.goto 4, 3) := o_167 BX12_isEnded rfl rfl rfl
theorem dX12_isEnded_13 : decode cX12_isEnded 13 = .ok (.iconst 0, 1) := o_3 BX12_isEnded rfl rfl
theorem dX12_isEnded_14 : decode cX12_isEnded 14 = .ok (.ireturn, 1) := o_172 BX12_isEnded rfl rfl
theorem dX12_onCell_0 : decode cX12_onCell 0 = .ok (.iconst (-1), 1) := o_2 BX12_onCell rfl rfl
theorem dX12_onCell_1 : decode cX12_onCell 1 = .ok (.istore_n 3, 1) := o_62 BX12_onCell rfl rfl
theorem dX12_onCell_2 : decode cX12_onCell 2 = .ok (.iconst 0, 1) := o_3 BX12_onCell rfl rfl
theorem dX12_onCell_3 : decode cX12_onCell 3 = .ok (.istore 4, 2) := o_54 BX12_onCell rfl rfl rfl
theorem dX12_onCell_5 : decode cX12_onCell 5 = .ok (.iload 4, 2) := o_21 BX12_onCell rfl rfl rfl
theorem dX12_onCell_7 : decode cX12_onCell 7 = .ok (.aload_n 0, 1) := o_42 BX12_onCell rfl rfl
theorem dX12_onCell_8 : decode cX12_onCell 8 = .ok (.getfield 122, 3) := o_180 BX12_onCell rfl rfl rfl
theorem dX12_onCell_11 : decode cX12_onCell 11 = .ok (.if_icmp .ge 24, 3) := o_162 BX12_onCell rfl rfl rfl
theorem dX12_onCell_14 : decode cX12_onCell 14 = .ok (.aload_n 1, 1) := o_43 BX12_onCell rfl rfl
theorem dX12_onCell_15 : decode cX12_onCell 15 = .ok (.iload 4, 2) := o_21 BX12_onCell rfl rfl rfl
theorem dX12_onCell_17 : decode cX12_onCell 17 = .ok (.iaload, 1) := o_46 BX12_onCell rfl rfl
theorem dX12_onCell_18 : decode cX12_onCell 18 = .ok (.iload_n 2, 1) := o_28 BX12_onCell rfl rfl
theorem dX12_onCell_19 : decode cX12_onCell 19 = .ok (.if_icmp .ne 8, 3) := o_160 BX12_onCell rfl rfl rfl
theorem dX12_onCell_22 : decode cX12_onCell 22 = .ok (.iload 4, 2) := o_21 BX12_onCell rfl rfl rfl
theorem dX12_onCell_24 : decode cX12_onCell 24 = .ok (.goto 4, 3) := o_167 BX12_onCell rfl rfl rfl
theorem dX12_onCell_27 : decode cX12_onCell 27 = .ok (.iload_n 3, 1) := o_29 BX12_onCell rfl rfl
theorem dX12_onCell_28 : decode cX12_onCell 28 = .ok (.istore_n 3, 1) := o_62 BX12_onCell rfl rfl
theorem dX12_onCell_29 : decode cX12_onCell 29 = .ok (.iinc 4 1, 3) := o_132 BX12_onCell rfl rfl rfl rfl
theorem dX12_onCell_32 : decode cX12_onCell 32 = .ok (.goto (-27), 3) := o_167 BX12_onCell rfl rfl rfl
theorem dX12_onCell_35 : decode cX12_onCell 35 = .ok (.iload_n 3, 1) := o_29 BX12_onCell rfl rfl
theorem dX12_onCell_36 : decode cX12_onCell 36 = .ok (.ireturn, 1) := o_172 BX12_onCell rfl rfl
theorem dX12_bitsBy_0 : decode cX12_bitsBy 0 = .ok (.iconst 0, 1) := o_3 BX12_bitsBy rfl rfl
theorem dX12_bitsBy_1 : decode cX12_bitsBy 1 = .ok (.istore 4, 2) := o_54 BX12_bitsBy rfl rfl rfl
theorem dX12_bitsBy_3 : decode cX12_bitsBy 3 = .ok (.iconst 0, 1) := o_3 BX12_bitsBy rfl rfl
theorem dX12_bitsBy_4 : decode cX12_bitsBy 4 = .ok (.istore 5, 2) := o_54 BX12_bitsBy rfl rfl rfl
theorem dX12_bitsBy_6 : decode cX12_bitsBy 6 = .ok (.iload 5, 2) := o_21 BX12_bitsBy rfl rfl rfl
theorem dX12_bitsBy_8 : decode cX12_bitsBy 8 = .ok (.aload_n 0, 1) := o_42 BX12_bitsBy rfl rfl
theorem dX12_bitsBy_9 : decode cX12_bitsBy 9 = .ok (.getfield 129, 3) := o_180 BX12_bitsBy rfl rfl rfl
theorem dX12_bitsBy_12 : decode cX12_bitsBy 12 = .ok (.if_icmp .ge 32, 3) := o_162 BX12_bitsBy rfl rfl rfl
theorem dX12_bitsBy_15 : decode cX12_bitsBy 15 = .ok (.iload 4, 2) := o_21 BX12_bitsBy rfl rfl rfl
theorem dX12_bitsBy_17 : decode cX12_bitsBy 17 = .ok (.aload_n 1, 1) := o_43 BX12_bitsBy rfl rfl
theorem dX12_bitsBy_18 : decode cX12_bitsBy 18 = .ok (.iload_n 2, 1) := o_28 BX12_bitsBy rfl rfl
theorem dX12_bitsBy_19 : decode cX12_bitsBy 19 = .ok (.iload 5, 2) := o_21 BX12_bitsBy rfl rfl rfl
theorem dX12_bitsBy_21 : decode cX12_bitsBy 21 = .ok (.iadd, 1) := o_96 BX12_bitsBy rfl rfl
theorem dX12_bitsBy_22 : decode cX12_bitsBy 22 = .ok (.iaload, 1) := o_46 BX12_bitsBy rfl rfl
theorem dX12_bitsBy_23 : decode cX12_bitsBy 23 = .ok (.iload_n 3, 1) := o_29 BX12_bitsBy rfl rfl
theorem dX12_bitsBy_24 : decode cX12_bitsBy 24 = .ok (.if_icmp .ne 10, 3) := o_160 BX12_bitsBy rfl rfl rfl
theorem dX12_bitsBy_27 : decode cX12_bitsBy 27 = .ok (.iconst 1, 1) := o_4 BX12_bitsBy rfl rfl
theorem dX12_bitsBy_28 : decode cX12_bitsBy 28 = .ok (.iload 5, 2) := o_21 BX12_bitsBy rfl rfl rfl
theorem dX12_bitsBy_30 : decode cX12_bitsBy 30 = .ok (.ishl, 1) := o_120 BX12_bitsBy rfl rfl
theorem dX12_bitsBy_31 : decode cX12_bitsBy 31 = .ok (.goto 4, 3) := o_167 BX12_bitsBy rfl rfl rfl
theorem dX12_bitsBy_34 : decode cX12_bitsBy 34 = .ok (.iconst 0, 1) := o_3 BX12_bitsBy rfl rfl
theorem dX12_bitsBy_35 : decode cX12_bitsBy 35 = .ok (.ior, 1) := o_128 BX12_bitsBy rfl rfl
theorem dX12_bitsBy_36 : decode cX12_bitsBy 36 = .ok (.istore 4, 2) := o_54 BX12_bitsBy rfl rfl rfl
theorem dX12_bitsBy_38 : decode cX12_bitsBy 38 = .ok (.iinc 5 1, 3) := o_132 BX12_bitsBy rfl rfl rfl rfl
theorem dX12_bitsBy_41 : decode cX12_bitsBy 41 = .ok (.goto (-35), 3) := o_167 BX12_bitsBy rfl rfl rfl
theorem dX12_bitsBy_44 : decode cX12_bitsBy 44 = .ok (.iload 4, 2) := o_21 BX12_bitsBy rfl rfl rfl
theorem dX12_bitsBy_46 : decode cX12_bitsBy 46 = .ok (.ireturn, 1) := o_172 BX12_bitsBy rfl rfl
theorem dX12_owners_0 : decode cX12_owners 0 = .ok (.iconst 0, 1) := o_3 BX12_owners rfl rfl
theorem dX12_owners_1 : decode cX12_owners 1 = .ok (.istore_n 2, 1) := o_61 BX12_owners rfl rfl
theorem dX12_owners_2 : decode cX12_owners 2 = .ok (.iconst 0, 1) := o_3 BX12_owners rfl rfl
theorem dX12_owners_3 : decode cX12_owners 3 = .ok (.istore_n 3, 1) := o_62 BX12_owners rfl rfl
theorem dX12_owners_4 : decode cX12_owners 4 = .ok (.iload_n 3, 1) := o_29 BX12_owners rfl rfl
theorem dX12_owners_5 : decode cX12_owners 5 = .ok (.aload_n 0, 1) := o_42 BX12_owners rfl rfl
theorem dX12_owners_6 : decode cX12_owners 6 = .ok (.getfield 129, 3) := o_180 BX12_owners rfl rfl rfl
theorem dX12_owners_9 : decode cX12_owners 9 = .ok (.if_icmp .ge 29, 3) := o_162 BX12_owners rfl rfl rfl
theorem dX12_owners_12 : decode cX12_owners 12 = .ok (.iload_n 2, 1) := o_28 BX12_owners rfl rfl
theorem dX12_owners_13 : decode cX12_owners 13 = .ok (.aload_n 0, 1) := o_42 BX12_owners rfl rfl
theorem dX12_owners_14 : decode cX12_owners 14 = .ok (.getfield 24, 3) := o_180 BX12_owners rfl rfl rfl
theorem dX12_owners_17 : decode cX12_owners 17 = .ok (.iload_n 3, 1) := o_29 BX12_owners rfl rfl
theorem dX12_owners_18 : decode cX12_owners 18 = .ok (.iaload, 1) := o_46 BX12_owners rfl rfl
theorem dX12_owners_19 : decode cX12_owners 19 = .ok (.iload_n 1, 1) := o_27 BX12_owners rfl rfl
theorem dX12_owners_20 : decode cX12_owners 20 = .ok (.if_icmp .ne 9, 3) := o_160 BX12_owners rfl rfl rfl
theorem dX12_owners_23 : decode cX12_owners 23 = .ok (.iconst 1, 1) := o_4 BX12_owners rfl rfl
theorem dX12_owners_24 : decode cX12_owners 24 = .ok (.iload_n 3, 1) := o_29 BX12_owners rfl rfl
theorem dX12_owners_25 : decode cX12_owners 25 = .ok (.ishl, 1) := o_120 BX12_owners rfl rfl
theorem dX12_owners_26 : decode cX12_owners 26 = .ok (.goto 4, 3) := o_167 BX12_owners rfl rfl rfl
theorem dX12_owners_29 : decode cX12_owners 29 = .ok (.iconst 0, 1) := o_3 BX12_owners rfl rfl
theorem dX12_owners_30 : decode cX12_owners 30 = .ok (.ior, 1) := o_128 BX12_owners rfl rfl
theorem dX12_owners_31 : decode cX12_owners 31 = .ok (.istore_n 2, 1) := o_61 BX12_owners rfl rfl
theorem dX12_owners_32 : decode cX12_owners 32 = .ok (.iinc 3 1, 3) := o_132 BX12_owners rfl rfl rfl rfl
theorem dX12_owners_35 : decode cX12_owners 35 = .ok (.goto (-31), 3) := o_167 BX12_owners rfl rfl rfl
theorem dX12_owners_38 : decode cX12_owners 38 = .ok (.iload_n 2, 1) := o_28 BX12_owners rfl rfl
theorem dX12_owners_39 : decode cX12_owners 39 = .ok (.ireturn, 1) := o_172 BX12_owners rfl rfl
theorem dX12_endedBy_0 : decode cX12_endedBy 0 = .ok (.iconst 0, 1) := o_3 BX12_endedBy rfl rfl
theorem dX12_endedBy_1 : decode cX12_endedBy 1 = .ok (.istore_n 3, 1) := o_62 BX12_endedBy rfl rfl
theorem dX12_endedBy_2 : decode cX12_endedBy 2 = .ok (.iconst 0, 1) := o_3 BX12_endedBy rfl rfl
theorem dX12_endedBy_3 : decode cX12_endedBy 3 = .ok (.istore 4, 2) := o_54 BX12_endedBy rfl rfl rfl
theorem dX12_endedBy_5 : decode cX12_endedBy 5 = .ok (.iload 4, 2) := o_21 BX12_endedBy rfl rfl rfl
theorem dX12_endedBy_7 : decode cX12_endedBy 7 = .ok (.aload_n 0, 1) := o_42 BX12_endedBy rfl rfl
theorem dX12_endedBy_8 : decode cX12_endedBy 8 = .ok (.getfield 129, 3) := o_180 BX12_endedBy rfl rfl rfl
theorem dX12_endedBy_11 : decode cX12_endedBy 11 = .ok (.if_icmp .ge 55, 3) := o_162 BX12_endedBy rfl rfl rfl
theorem dX12_endedBy_14 : decode cX12_endedBy 14 = .ok (.iload_n 3, 1) := o_29 BX12_endedBy rfl rfl
theorem dX12_endedBy_15 : decode cX12_endedBy 15 = .ok (.aload_n 1, 1) := o_43 BX12_endedBy rfl rfl
theorem dX12_endedBy_16 : decode cX12_endedBy 16 = .ok (.iload 4, 2) := o_21 BX12_endedBy rfl rfl rfl
theorem dX12_endedBy_18 : decode cX12_endedBy 18 = .ok (.invokestatic 132, 3) := o_184 BX12_endedBy rfl rfl rfl
theorem dX12_endedBy_21 : decode cX12_endedBy 21 = .ok (.ifCond .eq 36, 3) := o_153 BX12_endedBy rfl rfl rfl
theorem dX12_endedBy_24 : decode cX12_endedBy 24 = .ok (.aload_n 1, 1) := o_43 BX12_endedBy rfl rfl
theorem dX12_endedBy_25 : decode cX12_endedBy 25 = .ok (.bipush 29, 2) := o_16 BX12_endedBy rfl rfl rfl
theorem dX12_endedBy_27 : decode cX12_endedBy 27 = .ok (.iload 4, 2) := o_21 BX12_endedBy rfl rfl rfl
theorem dX12_endedBy_29 : decode cX12_endedBy 29 = .ok (.iadd, 1) := o_96 BX12_endedBy rfl rfl
theorem dX12_endedBy_30 : decode cX12_endedBy 30 = .ok (.iaload, 1) := o_46 BX12_endedBy rfl rfl
theorem dX12_endedBy_31 : decode cX12_endedBy 31 = .ok (.aload_n 0, 1) := o_42 BX12_endedBy rfl rfl
theorem dX12_endedBy_32 : decode cX12_endedBy 32 = .ok (.getfield 24, 3) := o_180 BX12_endedBy rfl rfl rfl
theorem dX12_endedBy_35 : decode cX12_endedBy 35 = .ok (.iload 4, 2) := o_21 BX12_endedBy rfl rfl rfl
theorem dX12_endedBy_37 : decode cX12_endedBy 37 = .ok (.iaload, 1) := o_46 BX12_endedBy rfl rfl
theorem dX12_endedBy_38 : decode cX12_endedBy 38 = .ok (.if_icmp .ne 7, 3) := o_160 BX12_endedBy rfl rfl rfl
theorem dX12_endedBy_41 : decode cX12_endedBy 41 = .ok (.iconst 1, 1) := o_4 BX12_endedBy rfl rfl
theorem dX12_endedBy_42 : decode cX12_endedBy 42 = .ok (.goto 4, 3) := o_167 BX12_endedBy rfl rfl rfl
theorem dX12_endedBy_45 : decode cX12_endedBy 45 = .ok (.iconst 0, 1) := o_3 BX12_endedBy rfl rfl
theorem dX12_endedBy_46 : decode cX12_endedBy 46 = .ok (.iload_n 2, 1) := o_28 BX12_endedBy rfl rfl
theorem dX12_endedBy_47 : decode cX12_endedBy 47 = .ok (.if_icmp .ne 10, 3) := o_160 BX12_endedBy rfl rfl rfl
theorem dX12_endedBy_50 : decode cX12_endedBy 50 = .ok (.iconst 1, 1) := o_4 BX12_endedBy rfl rfl
theorem dX12_endedBy_51 : decode cX12_endedBy 51 = .ok (.iload 4, 2) := o_21 BX12_endedBy rfl rfl rfl
theorem dX12_endedBy_53 : decode cX12_endedBy 53 = .ok (.ishl, 1) := o_120 BX12_endedBy rfl rfl
theorem dX12_endedBy_54 : decode cX12_endedBy 54 = .ok (.goto 4, 3) := o_167 BX12_endedBy rfl rfl rfl
theorem dX12_endedBy_57 : decode cX12_endedBy 57 = .ok (.iconst 0, 1) := o_3 BX12_endedBy rfl rfl
theorem dX12_endedBy_58 : decode cX12_endedBy 58 = .ok (.ior, 1) := o_128 BX12_endedBy rfl rfl
theorem dX12_endedBy_59 : decode cX12_endedBy 59 = .ok (.istore_n 3, 1) := o_62 BX12_endedBy rfl rfl
theorem dX12_endedBy_60 : decode cX12_endedBy 60 = .ok (.iinc 4 1, 3) := o_132 BX12_endedBy rfl rfl rfl rfl
theorem dX12_endedBy_63 : decode cX12_endedBy 63 = .ok (.goto (-58), 3) := o_167 BX12_endedBy rfl rfl rfl
theorem dX12_endedBy_66 : decode cX12_endedBy 66 = .ok (.iload_n 3, 1) := o_29 BX12_endedBy rfl rfl
theorem dX12_endedBy_67 : decode cX12_endedBy 67 = .ok (.ireturn, 1) := o_172 BX12_endedBy rfl rfl
theorem dX12_sign_0 : decode cX12_sign 0 = .ok (.aload_n 0, 1) := o_42 BX12_sign rfl rfl
theorem dX12_sign_1 : decode cX12_sign 1 = .ok (.iconst 0, 1) := o_3 BX12_sign rfl rfl
theorem dX12_sign_2 : decode cX12_sign 2 = .ok (.putfield 112, 3) := o_181 BX12_sign rfl rfl rfl
theorem dX12_sign_5 : decode cX12_sign 5 = .ok (.aload_n 0, 1) := o_42 BX12_sign rfl rfl
theorem dX12_sign_6 : decode cX12_sign 6 = .ok (.getfield 136, 3) := o_180 BX12_sign rfl rfl rfl
theorem dX12_sign_9 : decode cX12_sign 9 = .ok (.bipush 76, 2) := o_16 BX12_sign rfl rfl rfl
theorem dX12_sign_11 : decode cX12_sign 11 = .ok (.if_icmp .le 5, 3) := o_164 BX12_sign rfl rfl rfl
theorem dX12_sign_14 : decode cX12_sign 14 = .ok (.iconst (-1), 1) := o_2 BX12_sign rfl rfl
theorem dX12_sign_15 : decode cX12_sign 15 = .ok (.ireturn, 1) := o_172 BX12_sign rfl rfl
theorem dX12_sign_16 : decode cX12_sign 16 = .ok (.iconst 0, 1) := o_3 BX12_sign rfl rfl
theorem dX12_sign_17 : decode cX12_sign 17 = .ok (.istore_n 2, 1) := o_61 BX12_sign rfl rfl
theorem dX12_sign_18 : decode cX12_sign 18 = .ok (.iload_n 2, 1) := o_28 BX12_sign rfl rfl
theorem dX12_sign_19 : decode cX12_sign 19 = .ok (.iconst 4, 1) := o_7 BX12_sign rfl rfl
theorem dX12_sign_20 : decode cX12_sign 20 = .ok (.if_icmp .ge 33, 3) := o_162 BX12_sign rfl rfl rfl
theorem dX12_sign_23 : decode cX12_sign 23 = .ok (.aload_n 0, 1) := o_42 BX12_sign rfl rfl
theorem dX12_sign_24 : decode cX12_sign 24 = .ok (.getfield 37, 3) := o_180 BX12_sign rfl rfl rfl
theorem dX12_sign_27 : decode cX12_sign 27 = .ok (.aload_n 0, 1) := o_42 BX12_sign rfl rfl
theorem dX12_sign_28 : decode cX12_sign 28 = .ok (.getfield 136, 3) := o_180 BX12_sign rfl rfl rfl
theorem dX12_sign_31 : decode cX12_sign 31 = .ok (.iload_n 2, 1) := o_28 BX12_sign rfl rfl
theorem dX12_sign_32 : decode cX12_sign 32 = .ok (.iadd, 1) := o_96 BX12_sign rfl rfl
theorem dX12_sign_33 : decode cX12_sign 33 = .ok (.iload_n 1, 1) := o_27 BX12_sign rfl rfl
theorem dX12_sign_34 : decode cX12_sign 34 = .ok (.bipush 24, 2) := o_16 BX12_sign rfl rfl rfl
theorem dX12_sign_36 : decode cX12_sign 36 = .ok (.bipush 8, 2) := o_16 BX12_sign rfl rfl rfl
theorem dX12_sign_38 : decode cX12_sign 38 = .ok (.iload_n 2, 1) := o_28 BX12_sign rfl rfl
theorem dX12_sign_39 : decode cX12_sign 39 = .ok (.imul, 1) := o_104 BX12_sign rfl rfl
theorem dX12_sign_40 : decode cX12_sign 40 = .ok (.isub, 1) := o_100 BX12_sign rfl rfl
theorem dX12_sign_41 : decode cX12_sign 41 = .ok (.ishr, 1) := o_122 BX12_sign rfl rfl
theorem dX12_sign_42 : decode cX12_sign 42 = .ok (.sipush 255, 3) := o_17 BX12_sign rfl rfl rfl
theorem dX12_sign_45 : decode cX12_sign 45 = .ok (.iand, 1) := o_126 BX12_sign rfl rfl
theorem dX12_sign_46 : decode cX12_sign 46 = .ok (.iastore, 1) := o_79 BX12_sign rfl rfl
theorem dX12_sign_47 : decode cX12_sign 47 = .ok (.iinc 2 1, 3) := o_132 BX12_sign rfl rfl rfl rfl
theorem dX12_sign_50 : decode cX12_sign 50 = .ok (.goto (-32), 3) := o_167 BX12_sign rfl rfl rfl
theorem dX12_sign_53 : decode cX12_sign 53 = .ok (.aload_n 0, 1) := o_42 BX12_sign rfl rfl
theorem dX12_sign_54 : decode cX12_sign 54 = .ok (.dup, 1) := o_89 BX12_sign rfl rfl
theorem dX12_sign_55 : decode cX12_sign 55 = .ok (.getfield 136, 3) := o_180 BX12_sign rfl rfl rfl
theorem dX12_sign_58 : decode cX12_sign 58 = .ok (.iconst 4, 1) := o_7 BX12_sign rfl rfl
theorem dX12_sign_59 : decode cX12_sign 59 = .ok (.iadd, 1) := o_96 BX12_sign rfl rfl
theorem dX12_sign_60 : decode cX12_sign 60 = .ok (.putfield 136, 3) := o_181 BX12_sign rfl rfl rfl
theorem dX12_sign_63 : decode cX12_sign 63 = .ok (.aload_n 0, 1) := o_42 BX12_sign rfl rfl
theorem dX12_sign_64 : decode cX12_sign 64 = .ok (.getfield 136, 3) := o_180 BX12_sign rfl rfl rfl
theorem dX12_sign_67 : decode cX12_sign 67 = .ok (.ireturn, 1) := o_172 BX12_sign rfl rfl
theorem dX12_end_0 : decode cX12_end 0 = .ok (.aload_n 0, 1) := o_42 BX12_end rfl rfl
theorem dX12_end_1 : decode cX12_end 1 = .ok (.iconst 0, 1) := o_3 BX12_end rfl rfl
theorem dX12_end_2 : decode cX12_end 2 = .ok (.putfield 112, 3) := o_181 BX12_end rfl rfl rfl
theorem dX12_end_5 : decode cX12_end 5 = .ok (.iload_n 1, 1) := o_27 BX12_end rfl rfl
theorem dX12_end_6 : decode cX12_end 6 = .ok (.i2l, 1) := o_133 BX12_end rfl rfl
theorem dX12_end_7 : decode cX12_end 7 = .ok (.lconst 0, 1) := o_9 BX12_end rfl rfl
theorem dX12_end_8 : decode cX12_end 8 = .ok (.aload_n 0, 1) := o_42 BX12_end rfl rfl
theorem dX12_end_9 : decode cX12_end 9 = .ok (.getfield 136, 3) := o_180 BX12_end rfl rfl rfl
theorem dX12_end_12 : decode cX12_end 12 = .ok (.i2l, 1) := o_133 BX12_end rfl rfl
theorem dX12_end_13 : decode cX12_end 13 = .ok (.invokestatic 125, 3) := o_184 BX12_end rfl rfl rfl
theorem dX12_end_16 : decode cX12_end 16 = .ok (.ifCond .ne 5, 3) := o_154 BX12_end rfl rfl rfl
theorem dX12_end_19 : decode cX12_end 19 = .ok (.iconst 0, 1) := o_3 BX12_end rfl rfl
theorem dX12_end_20 : decode cX12_end 20 = .ok (.ireturn, 1) := o_172 BX12_end rfl rfl
theorem dX12_end_21 : decode cX12_end 21 = .ok (.aload_n 0, 1) := o_42 BX12_end rfl rfl
theorem dX12_end_22 : decode cX12_end 22 = .ok (.iload_n 1, 1) := o_27 BX12_end rfl rfl
theorem dX12_end_23 : decode cX12_end 23 = .ok (.putfield 136, 3) := o_181 BX12_end rfl rfl rfl
theorem dX12_end_26 : decode cX12_end 26 = .ok (.iconst 1, 1) := o_4 BX12_end rfl rfl
theorem dX12_end_27 : decode cX12_end 27 = .ok (.ireturn, 1) := o_172 BX12_end rfl rfl
theorem dX12_begins_0 : decode cX12_begins 0 = .ok (.aload_n 0, 1) := o_42 BX12_begins rfl rfl
theorem dX12_begins_1 : decode cX12_begins 1 = .ok (.getfield 136, 3) := o_180 BX12_begins rfl rfl rfl
theorem dX12_begins_4 : decode cX12_begins 4 = .ok (.istore_n 2, 1) := o_61 BX12_begins rfl rfl
theorem dX12_begins_5 : decode cX12_begins 5 = .ok (.aload_n 0, 1) := o_42 BX12_begins rfl rfl
theorem dX12_begins_6 : decode cX12_begins 6 = .ok (.iconst 0, 1) := o_3 BX12_begins rfl rfl
theorem dX12_begins_7 : decode cX12_begins 7 = .ok (.putfield 136, 3) := o_181 BX12_begins rfl rfl rfl
theorem dX12_begins_10 : decode cX12_begins 10 = .ok (.aload_n 0, 1) := o_42 BX12_begins rfl rfl
theorem dX12_begins_11 : decode cX12_begins 11 = .ok (.iconst 0, 1) := o_3 BX12_begins rfl rfl
theorem dX12_begins_12 : decode cX12_begins 12 = .ok (.putfield 139, 3) := o_181 BX12_begins rfl rfl rfl
theorem dX12_begins_15 : decode cX12_begins 15 = .ok (.aload_n 0, 1) := o_42 BX12_begins rfl rfl
theorem dX12_begins_16 : decode cX12_begins 16 = .ok (.iconst 0, 1) := o_3 BX12_begins rfl rfl
theorem dX12_begins_17 : decode cX12_begins 17 = .ok (.putfield 142, 3) := o_181 BX12_begins rfl rfl rfl
theorem dX12_begins_20 : decode cX12_begins 20 = .ok (.aload_n 0, 1) := o_42 BX12_begins rfl rfl
theorem dX12_begins_21 : decode cX12_begins 21 = .ok (.iload_n 2, 1) := o_28 BX12_begins rfl rfl
theorem dX12_begins_22 : decode cX12_begins 22 = .ok (.iload_n 1, 1) := o_27 BX12_begins rfl rfl
theorem dX12_begins_23 : decode cX12_begins 23 = .ok (.invokestatic 145, 3) := o_184 BX12_begins rfl rfl rfl
theorem dX12_begins_26 : decode cX12_begins 26 = .ok (.putfield 151, 3) := o_181 BX12_begins rfl rfl rfl
theorem dX12_begins_29 : decode cX12_begins 29 = .ok (.iload_n 2, 1) := o_28 BX12_begins rfl rfl
theorem dX12_begins_30 : decode cX12_begins 30 = .ok (.ireturn, 1) := o_172 BX12_begins rfl rfl
theorem dX12_takes_0 : decode cX12_takes 0 = .ok (.aload_n 0, 1) := o_42 BX12_takes rfl rfl
theorem dX12_takes_1 : decode cX12_takes 1 = .ok (.getfield 139, 3) := o_180 BX12_takes rfl rfl rfl
theorem dX12_takes_4 : decode cX12_takes 4 = .ok (.aload_n 0, 1) := o_42 BX12_takes rfl rfl
theorem dX12_takes_5 : decode cX12_takes 5 = .ok (.getfield 151, 3) := o_180 BX12_takes rfl rfl rfl
theorem dX12_takes_8 : decode cX12_takes 8 = .ok (.if_icmp .ge 20, 3) := o_162 BX12_takes rfl rfl rfl
theorem dX12_takes_11 : decode cX12_takes 11 = .ok (.aload_n 0, 1) := o_42 BX12_takes rfl rfl
theorem dX12_takes_12 : decode cX12_takes 12 = .ok (.getfield 37, 3) := o_180 BX12_takes rfl rfl rfl
theorem dX12_takes_15 : decode cX12_takes 15 = .ok (.aload_n 0, 1) := o_42 BX12_takes rfl rfl
theorem dX12_takes_16 : decode cX12_takes 16 = .ok (.getfield 139, 3) := o_180 BX12_takes rfl rfl rfl
theorem dX12_takes_19 : decode cX12_takes 19 = .ok (.iaload, 1) := o_46 BX12_takes rfl rfl
theorem dX12_takes_20 : decode cX12_takes 20 = .ok (.iload_n 1, 1) := o_27 BX12_takes rfl rfl
theorem dX12_takes_21 : decode cX12_takes 21 = .ok (.if_icmp .ne 7, 3) := o_160 BX12_takes rfl rfl rfl
theorem dX12_takes_24 : decode cX12_takes 24 = .ok (.iconst 1, 1) := o_4 BX12_takes rfl rfl
theorem dX12_takes_25 : decode cX12_takes 25 = .ok (.goto 4, 3) := o_167 BX12_takes rfl rfl rfl
theorem dX12_takes_28 : decode cX12_takes 28 = .ok (.iconst 0, 1) := o_3 BX12_takes rfl rfl
theorem dX12_takes_29 : decode cX12_takes 29 = .ok (.istore_n 2, 1) := o_61 BX12_takes rfl rfl
theorem dX12_takes_30 : decode cX12_takes 30 = .ok (.aload_n 0, 1) := o_42 BX12_takes rfl rfl
theorem dX12_takes_31 : decode cX12_takes 31 = .ok (.dup, 1) := o_89 BX12_takes rfl rfl
theorem dX12_takes_32 : decode cX12_takes 32 = .ok (.getfield 139, 3) := o_180 BX12_takes rfl rfl rfl
theorem dX12_takes_35 : decode cX12_takes 35 = .ok (.iload_n 2, 1) := o_28 BX12_takes rfl rfl
theorem dX12_takes_36 : decode cX12_takes 36 = .ok (.invokestatic 154, 3) := o_184 BX12_takes rfl rfl rfl
theorem dX12_takes_39 : decode cX12_takes 39 = .ok (.iadd, 1) := o_96 BX12_takes rfl rfl
theorem dX12_takes_40 : decode cX12_takes 40 = .ok (.putfield 139, 3) := o_181 BX12_takes rfl rfl rfl
theorem dX12_takes_43 : decode cX12_takes 43 = .ok (.iload_n 2, 1) := o_28 BX12_takes rfl rfl
theorem dX12_takes_44 : decode cX12_takes 44 = .ok (.ireturn, 1) := o_172 BX12_takes rfl rfl
theorem dX12_isDigit_0 : decode cX12_isDigit 0 = .ok (.aload_n 0, 1) := o_42 BX12_isDigit rfl rfl
theorem dX12_isDigit_1 : decode cX12_isDigit 1 = .ok (.getfield 139, 3) := o_180 BX12_isDigit rfl rfl rfl
theorem dX12_isDigit_4 : decode cX12_isDigit 4 = .ok (.aload_n 0, 1) := o_42 BX12_isDigit rfl rfl
theorem dX12_isDigit_5 : decode cX12_isDigit 5 = .ok (.getfield 151, 3) := o_180 BX12_isDigit rfl rfl rfl
theorem dX12_isDigit_8 : decode cX12_isDigit 8 = .ok (.if_icmp .ge 29, 3) := o_162 BX12_isDigit rfl rfl rfl
theorem dX12_isDigit_11 : decode cX12_isDigit 11 = .ok (.aload_n 0, 1) := o_42 BX12_isDigit rfl rfl
theorem dX12_isDigit_12 : decode cX12_isDigit 12 = .ok (.getfield 37, 3) := o_180 BX12_isDigit rfl rfl rfl
theorem dX12_isDigit_15 : decode cX12_isDigit 15 = .ok (.aload_n 0, 1) := o_42 BX12_isDigit rfl rfl
theorem dX12_isDigit_16 : decode cX12_isDigit 16 = .ok (.getfield 139, 3) := o_180 BX12_isDigit rfl rfl rfl
theorem dX12_isDigit_19 : decode cX12_isDigit 19 = .ok (.iaload, 1) := o_46 BX12_isDigit rfl rfl
theorem dX12_isDigit_20 : decode cX12_isDigit 20 = .ok (.i2l, 1) := o_133 BX12_isDigit rfl rfl
theorem dX12_isDigit_21 : decode cX12_isDigit 21 = .ok (.ldc2_w 158, 3) := o_20 BX12_isDigit rfl rfl rfl
theorem dX12_isDigit_24 : decode cX12_isDigit 24 = .ok (.ldc2_w 160, 3) := o_20 BX12_isDigit rfl rfl rfl
theorem dX12_isDigit_27 : decode cX12_isDigit 27 = .ok (.invokestatic 125, 3) := o_184 BX12_isDigit rfl rfl rfl
theorem dX12_isDigit_30 : decode cX12_isDigit 30 = .ok (.ifCond .eq 7, 3) := o_153 BX12_isDigit rfl rfl rfl
theorem dX12_isDigit_33 : decode cX12_isDigit 33 = .ok (.iconst 1, 1) := o_4 BX12_isDigit rfl rfl
theorem dX12_isDigit_34 : decode cX12_isDigit 34 = .ok (.goto 4, 3) := o_167 BX12_isDigit rfl rfl rfl
theorem dX12_isDigit_37 : decode cX12_isDigit 37 = .ok (.iconst 0, 1) := o_3 BX12_isDigit rfl rfl
theorem dX12_isDigit_38 : decode cX12_isDigit 38 = .ok (.ireturn, 1) := o_172 BX12_isDigit rfl rfl
theorem dX12_takesOf_0 : decode cX12_takesOf 0 = .ok (.iconst 0, 1) := o_3 BX12_takesOf rfl rfl
theorem dX12_takesOf_1 : decode cX12_takesOf 1 = .ok (.istore_n 2, 1) := o_61 BX12_takesOf rfl rfl
theorem dX12_takesOf_2 : decode cX12_takesOf 2 = .ok (.iload_n 2, 1) := o_28 BX12_takesOf rfl rfl
theorem dX12_takesOf_3 : decode cX12_takesOf 3 = .ok (.aload_n 1, 1) := o_43 BX12_takesOf rfl rfl
theorem dX12_takesOf_4 : decode cX12_takesOf 4 = .ok (.invokevirtual 162, 3) := o_182 BX12_takesOf rfl rfl rfl
theorem dX12_takesOf_7 : decode cX12_takesOf 7 = .ok (.if_icmp .ge 49, 3) := o_162 BX12_takesOf rfl rfl rfl
theorem dX12_takesOf_10 : decode cX12_takesOf 10 = .ok (.aload_n 0, 1) := o_42 BX12_takesOf rfl rfl
theorem dX12_takesOf_11 : decode cX12_takesOf 11 = .ok (.getfield 139, 3) := o_180 BX12_takesOf rfl rfl rfl
theorem dX12_takesOf_14 : decode cX12_takesOf 14 = .ok (.aload_n 0, 1) := o_42 BX12_takesOf rfl rfl
theorem dX12_takesOf_15 : decode cX12_takesOf 15 = .ok (.getfield 151, 3) := o_180 BX12_takesOf rfl rfl rfl
theorem dX12_takesOf_18 : decode cX12_takesOf 18 = .ok (.if_icmp .ge 38, 3) := o_162 BX12_takesOf rfl rfl rfl
theorem dX12_takesOf_21 : decode cX12_takesOf 21 = .ok (.aload_n 1, 1) := o_43 BX12_takesOf rfl rfl
theorem dX12_takesOf_22 : decode cX12_takesOf 22 = .ok (.iload_n 2, 1) := o_28 BX12_takesOf rfl rfl
theorem dX12_takesOf_23 : decode cX12_takesOf 23 = .ok (.invokevirtual 168, 3) := o_182 BX12_takesOf rfl rfl rfl
theorem dX12_takesOf_26 : decode cX12_takesOf 26 = .ok (.aload_n 0, 1) := o_42 BX12_takesOf rfl rfl
theorem dX12_takesOf_27 : decode cX12_takesOf 27 = .ok (.getfield 37, 3) := o_180 BX12_takesOf rfl rfl rfl
theorem dX12_takesOf_30 : decode cX12_takesOf 30 = .ok (.aload_n 0, 1) := o_42 BX12_takesOf rfl rfl
theorem dX12_takesOf_31 : decode cX12_takesOf 31 = .ok (.getfield 139, 3) := o_180 BX12_takesOf rfl rfl rfl
theorem dX12_takesOf_34 : decode cX12_takesOf 34 = .ok (.iaload, 1) := o_46 BX12_takesOf rfl rfl
theorem dX12_takesOf_35 : decode cX12_takesOf 35 = .ok (.if_icmp .ne 15, 3) := o_160 BX12_takesOf rfl rfl rfl
theorem dX12_takesOf_38 : decode cX12_takesOf 38 = .ok (.aload_n 0, 1) := o_42 BX12_takesOf rfl rfl
theorem dX12_takesOf_39 : decode cX12_takesOf 39 = .ok (.dup, 1) := o_89 BX12_takesOf rfl rfl
theorem dX12_takesOf_40 : decode cX12_takesOf 40 = .ok (.getfield 139, 3) := o_180 BX12_takesOf rfl rfl rfl
theorem dX12_takesOf_43 : decode cX12_takesOf 43 = .ok (.iconst 1, 1) := o_4 BX12_takesOf rfl rfl
theorem dX12_takesOf_44 : decode cX12_takesOf 44 = .ok (.iadd, 1) := o_96 BX12_takesOf rfl rfl
theorem dX12_takesOf_45 : decode cX12_takesOf 45 = .ok (.putfield 139, 3) := o_181 BX12_takesOf rfl rfl rfl
theorem dX12_takesOf_48 : decode cX12_takesOf 48 = .ok (.iload_n 2, 1) := o_28 BX12_takesOf rfl rfl
theorem dX12_takesOf_49 : decode cX12_takesOf 49 = .ok (.ireturn, 1) := o_172 BX12_takesOf rfl rfl
theorem dX12_takesOf_50 : decode cX12_takesOf 50 = .ok (.iinc 2 1, 3) := o_132 BX12_takesOf rfl rfl rfl rfl
theorem dX12_takesOf_53 : decode cX12_takesOf 53 = .ok (.goto (-51), 3) := o_167 BX12_takesOf rfl rfl rfl
theorem dX12_takesOf_56 : decode cX12_takesOf 56 = .ok (.iconst (-1), 1) := o_2 BX12_takesOf rfl rfl
theorem dX12_takesOf_57 : decode cX12_takesOf 57 = .ok (.ireturn, 1) := o_172 BX12_takesOf rfl rfl
theorem dX12_number_0 : decode cX12_number 0 = .ok (.aload_n 0, 1) := o_42 BX12_number rfl rfl
theorem dX12_number_1 : decode cX12_number 1 = .ok (.invokevirtual 172, 3) := o_182 BX12_number rfl rfl rfl
theorem dX12_number_4 : decode cX12_number 4 = .ok (.ifCond .ne 5, 3) := o_154 BX12_number rfl rfl rfl
theorem dX12_number_7 : decode cX12_number 7 = .ok (.iconst (-1), 1) := o_2 BX12_number rfl rfl
theorem dX12_number_8 : decode cX12_number 8 = .ok (.ireturn, 1) := o_172 BX12_number rfl rfl
theorem dX12_number_9 : decode cX12_number 9 = .ok (.iconst 0, 1) := o_3 BX12_number rfl rfl
theorem dX12_number_10 : decode cX12_number 10 = .ok (.istore_n 2, 1) := o_61 BX12_number rfl rfl
theorem dX12_number_11 : decode cX12_number 11 = .ok (.iconst 0, 1) := o_3 BX12_number rfl rfl
theorem dX12_number_12 : decode cX12_number 12 = .ok (.istore_n 3, 1) := o_62 BX12_number rfl rfl
theorem dX12_number_13 : decode cX12_number 13 = .ok (.iload_n 3, 1) := o_29 BX12_number rfl rfl
theorem dX12_number_14 : decode cX12_number 14 = .ok (.iload_n 1, 1) := o_27 BX12_number rfl rfl
theorem dX12_number_15 : decode cX12_number 15 = .ok (.if_icmp .ge 44, 3) := o_162 BX12_number rfl rfl rfl
theorem dX12_number_18 : decode cX12_number 18 = .ok (.aload_n 0, 1) := o_42 BX12_number rfl rfl
theorem dX12_number_19 : decode cX12_number 19 = .ok (.invokevirtual 172, 3) := o_182 BX12_number rfl rfl rfl
theorem dX12_number_22 : decode cX12_number 22 = .ok (.ifCond .eq 37, 3) := o_153 BX12_number rfl rfl rfl
theorem dX12_number_25 : decode cX12_number 25 = .ok (.bipush 10, 2) := o_16 BX12_number rfl rfl rfl
theorem dX12_number_27 : decode cX12_number 27 = .ok (.iload_n 2, 1) := o_28 BX12_number rfl rfl
theorem dX12_number_28 : decode cX12_number 28 = .ok (.imul, 1) := o_104 BX12_number rfl rfl
theorem dX12_number_29 : decode cX12_number 29 = .ok (.aload_n 0, 1) := o_42 BX12_number rfl rfl
theorem dX12_number_30 : decode cX12_number 30 = .ok (.getfield 37, 3) := o_180 BX12_number rfl rfl rfl
theorem dX12_number_33 : decode cX12_number 33 = .ok (.aload_n 0, 1) := o_42 BX12_number rfl rfl
theorem dX12_number_34 : decode cX12_number 34 = .ok (.getfield 139, 3) := o_180 BX12_number rfl rfl rfl
theorem dX12_number_37 : decode cX12_number 37 = .ok (.iaload, 1) := o_46 BX12_number rfl rfl
theorem dX12_number_38 : decode cX12_number 38 = .ok (.iadd, 1) := o_96 BX12_number rfl rfl
theorem dX12_number_39 : decode cX12_number 39 = .ok (.bipush 48, 2) := o_16 BX12_number rfl rfl rfl
theorem dX12_number_41 : decode cX12_number 41 = .ok (.isub, 1) := o_100 BX12_number rfl rfl
theorem dX12_number_42 : decode cX12_number 42 = .ok (.istore_n 2, 1) := o_61 BX12_number rfl rfl
theorem dX12_number_43 : decode cX12_number 43 = .ok (.aload_n 0, 1) := o_42 BX12_number rfl rfl
theorem dX12_number_44 : decode cX12_number 44 = .ok (.dup, 1) := o_89 BX12_number rfl rfl
theorem dX12_number_45 : decode cX12_number 45 = .ok (.getfield 139, 3) := o_180 BX12_number rfl rfl rfl
theorem dX12_number_48 : decode cX12_number 48 = .ok (.iconst 1, 1) := o_4 BX12_number rfl rfl
theorem dX12_number_49 : decode cX12_number 49 = .ok (.iadd, 1) := o_96 BX12_number rfl rfl
theorem dX12_number_50 : decode cX12_number 50 = .ok (.putfield 139, 3) := o_181 BX12_number rfl rfl rfl
theorem dX12_number_53 : decode cX12_number 53 = .ok (.iinc 3 1, 3) := o_132 BX12_number rfl rfl rfl rfl
theorem dX12_number_56 : decode cX12_number 56 = .ok (.goto (-43), 3) := o_167 BX12_number rfl rfl rfl
theorem dX12_number_59 : decode cX12_number 59 = .ok (.iload_n 2, 1) := o_28 BX12_number rfl rfl
theorem dX12_number_60 : decode cX12_number 60 = .ok (.ireturn, 1) := o_172 BX12_number rfl rfl
theorem dX12_digitIn_0 : decode cX12_digitIn 0 = .ok (.aload_n 0, 1) := o_42 BX12_digitIn rfl rfl
theorem dX12_digitIn_1 : decode cX12_digitIn 1 = .ok (.getfield 139, 3) := o_180 BX12_digitIn rfl rfl rfl
theorem dX12_digitIn_4 : decode cX12_digitIn 4 = .ok (.aload_n 0, 1) := o_42 BX12_digitIn rfl rfl
theorem dX12_digitIn_5 : decode cX12_digitIn 5 = .ok (.getfield 151, 3) := o_180 BX12_digitIn rfl rfl rfl
theorem dX12_digitIn_8 : decode cX12_digitIn 8 = .ok (.if_icmp .ge 26, 3) := o_162 BX12_digitIn rfl rfl rfl
theorem dX12_digitIn_11 : decode cX12_digitIn 11 = .ok (.aload_n 0, 1) := o_42 BX12_digitIn rfl rfl
theorem dX12_digitIn_12 : decode cX12_digitIn 12 = .ok (.getfield 37, 3) := o_180 BX12_digitIn rfl rfl rfl
theorem dX12_digitIn_15 : decode cX12_digitIn 15 = .ok (.aload_n 0, 1) := o_42 BX12_digitIn rfl rfl
theorem dX12_digitIn_16 : decode cX12_digitIn 16 = .ok (.getfield 139, 3) := o_180 BX12_digitIn rfl rfl rfl
theorem dX12_digitIn_19 : decode cX12_digitIn 19 = .ok (.iaload, 1) := o_46 BX12_digitIn rfl rfl
theorem dX12_digitIn_20 : decode cX12_digitIn 20 = .ok (.bipush 48, 2) := o_16 BX12_digitIn rfl rfl rfl
theorem dX12_digitIn_22 : decode cX12_digitIn 22 = .ok (.isub, 1) := o_100 BX12_digitIn rfl rfl
theorem dX12_digitIn_23 : decode cX12_digitIn 23 = .ok (.i2l, 1) := o_133 BX12_digitIn rfl rfl
theorem dX12_digitIn_24 : decode cX12_digitIn 24 = .ok (.iload_n 1, 1) := o_27 BX12_digitIn rfl rfl
theorem dX12_digitIn_25 : decode cX12_digitIn 25 = .ok (.i2l, 1) := o_133 BX12_digitIn rfl rfl
theorem dX12_digitIn_26 : decode cX12_digitIn 26 = .ok (.iload_n 2, 1) := o_28 BX12_digitIn rfl rfl
theorem dX12_digitIn_27 : decode cX12_digitIn 27 = .ok (.i2l, 1) := o_133 BX12_digitIn rfl rfl
theorem dX12_digitIn_28 : decode cX12_digitIn 28 = .ok (.invokestatic 125, 3) := o_184 BX12_digitIn rfl rfl rfl
theorem dX12_digitIn_31 : decode cX12_digitIn 31 = .ok (.ifCond .ne 5, 3) := o_154 BX12_digitIn rfl rfl rfl
theorem dX12_digitIn_34 : decode cX12_digitIn 34 = .ok (.iconst (-1), 1) := o_2 BX12_digitIn rfl rfl
theorem dX12_digitIn_35 : decode cX12_digitIn 35 = .ok (.ireturn, 1) := o_172 BX12_digitIn rfl rfl
theorem dX12_digitIn_36 : decode cX12_digitIn 36 = .ok (.aload_n 0, 1) := o_42 BX12_digitIn rfl rfl
theorem dX12_digitIn_37 : decode cX12_digitIn 37 = .ok (.dup, 1) := o_89 BX12_digitIn rfl rfl
theorem dX12_digitIn_38 : decode cX12_digitIn 38 = .ok (.getfield 139, 3) := o_180 BX12_digitIn rfl rfl rfl
theorem dX12_digitIn_41 : decode cX12_digitIn 41 = .ok (.iconst 1, 1) := o_4 BX12_digitIn rfl rfl
theorem dX12_digitIn_42 : decode cX12_digitIn 42 = .ok (.iadd, 1) := o_96 BX12_digitIn rfl rfl
theorem dX12_digitIn_43 : decode cX12_digitIn 43 = .ok (.putfield 139, 3) := o_181 BX12_digitIn rfl rfl rfl
theorem dX12_digitIn_46 : decode cX12_digitIn 46 = .ok (.aload_n 0, 1) := o_42 BX12_digitIn rfl rfl
theorem dX12_digitIn_47 : decode cX12_digitIn 47 = .ok (.getfield 37, 3) := o_180 BX12_digitIn rfl rfl rfl
theorem dX12_digitIn_50 : decode cX12_digitIn 50 = .ok (.aload_n 0, 1) := o_42 BX12_digitIn rfl rfl
theorem dX12_digitIn_51 : decode cX12_digitIn 51 = .ok (.getfield 139, 3) := o_180 BX12_digitIn rfl rfl rfl
theorem dX12_digitIn_54 : decode cX12_digitIn 54 = .ok (.iconst 1, 1) := o_4 BX12_digitIn rfl rfl
theorem dX12_digitIn_55 : decode cX12_digitIn 55 = .ok (.isub, 1) := o_100 BX12_digitIn rfl rfl
theorem dX12_digitIn_56 : decode cX12_digitIn 56 = .ok (.iaload, 1) := o_46 BX12_digitIn rfl rfl
theorem dX12_digitIn_57 : decode cX12_digitIn 57 = .ok (.bipush 48, 2) := o_16 BX12_digitIn rfl rfl rfl
theorem dX12_digitIn_59 : decode cX12_digitIn 59 = .ok (.isub, 1) := o_100 BX12_digitIn rfl rfl
theorem dX12_digitIn_60 : decode cX12_digitIn 60 = .ok (.ireturn, 1) := o_172 BX12_digitIn rfl rfl
theorem dX12_faultOf_0 : decode cX12_faultOf 0 = .ok (.iload_n 3, 1) := o_29 BX12_faultOf rfl rfl
theorem dX12_faultOf_1 : decode cX12_faultOf 1 = .ok (.ifCond .eq 18, 3) := o_153 BX12_faultOf rfl rfl rfl
theorem dX12_faultOf_4 : decode cX12_faultOf 4 = .ok (.aload_n 0, 1) := o_42 BX12_faultOf rfl rfl
theorem dX12_faultOf_5 : decode cX12_faultOf 5 = .ok (.getfield 139, 3) := o_180 BX12_faultOf rfl rfl rfl
theorem dX12_faultOf_8 : decode cX12_faultOf 8 = .ok (.aload_n 0, 1) := o_42 BX12_faultOf rfl rfl
theorem dX12_faultOf_9 : decode cX12_faultOf 9 = .ok (.getfield 151, 3) := o_180 BX12_faultOf rfl rfl rfl
theorem dX12_faultOf_12 : decode cX12_faultOf 12 = .ok (.if_icmp .ne 7, 3) := o_160 BX12_faultOf rfl rfl rfl
theorem dX12_faultOf_15 : decode cX12_faultOf 15 = .ok (.iconst 1, 1) := o_4 BX12_faultOf rfl rfl
theorem dX12_faultOf_16 : decode cX12_faultOf 16 = .ok (.goto 4, 3) := o_167 BX12_faultOf rfl rfl rfl
theorem dX12_faultOf_19 : decode cX12_faultOf 19 = .ok (.iconst 0, 1) := o_3 BX12_faultOf rfl rfl
theorem dX12_faultOf_20 : decode cX12_faultOf 20 = .ok (.istore 4, 2) := o_54 BX12_faultOf rfl rfl rfl
theorem dX12_faultOf_22 : decode cX12_faultOf 22 = .ok (.iload_n 1, 1) := o_27 BX12_faultOf rfl rfl
theorem dX12_faultOf_23 : decode cX12_faultOf 23 = .ok (.iload_n 2, 1) := o_28 BX12_faultOf rfl rfl
theorem dX12_faultOf_24 : decode cX12_faultOf 24 = .ok (.if_icmp .le 20, 3) := o_164 BX12_faultOf rfl rfl rfl
theorem dX12_faultOf_27 : decode cX12_faultOf 27 = .ok (.iload 4, 2) := o_21 BX12_faultOf rfl rfl rfl
theorem dX12_faultOf_29 : decode cX12_faultOf 29 = .ok (.ifCond .ne 11, 3) := o_154 BX12_faultOf rfl rfl rfl
