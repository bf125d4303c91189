theorem dX6_hearseOn_21 : decode cX6_hearseOn 21 = .ok (.ireturn, 1) := by decide +kernel
theorem dX6_hearseOn_22 : decode cX6_hearseOn 22 = .ok (.iinc 2 1, 3) := by decide +kernel
theorem dX6_hearseOn_25 : decode cX6_hearseOn 25 = .ok (.goto (-23), 3) := by decide +kernel
theorem dX6_hearseOn_28 : decode cX6_hearseOn 28 = .ok (.iconst (-1), 1) := by decide +kernel
theorem dX6_hearseOn_29 : decode cX6_hearseOn 29 = .ok (.ireturn, 1) := by decide +kernel
theorem dX6_takenCells_0 : decode cX6_takenCells 0 = .ok (.iconst 0, 1) := by decide +kernel
theorem dX6_takenCells_1 : decode cX6_takenCells 1 = .ok (.istore_n 1, 1) := by decide +kernel
theorem dX6_takenCells_2 : decode cX6_takenCells 2 = .ok (.iconst 0, 1) := by decide +kernel
theorem dX6_takenCells_3 : decode cX6_takenCells 3 = .ok (.istore_n 2, 1) := by decide +kernel
theorem dX6_takenCells_4 : decode cX6_takenCells 4 = .ok (.iload_n 2, 1) := by decide +kernel
theorem dX6_takenCells_5 : decode cX6_takenCells 5 = .ok (.aload_n 0, 1) := by decide +kernel
theorem dX6_takenCells_6 : decode cX6_takenCells 6 = .ok (.getfield 30, 3) := by decide +kernel
theorem dX6_takenCells_9 : decode cX6_takenCells 9 = .ok (.if_icmp .ge 33, 3) := by decide +kernel
theorem dX6_takenCells_12 : decode cX6_takenCells 12 = .ok (.iload_n 1, 1) := by decide +kernel
theorem dX6_takenCells_13 : decode cX6_takenCells 13 = .ok (.aload_n 0, 1) := by decide +kernel
theorem dX6_takenCells_14 : decode cX6_takenCells 14 = .ok (.getfield 9, 3) := by decide +kernel
theorem dX6_takenCells_17 : decode cX6_takenCells 17 = .ok (.iload_n 2, 1) := by decide +kernel
theorem dX6_takenCells_18 : decode cX6_takenCells 18 = .ok (.iaload, 1) := by decide +kernel
theorem dX6_takenCells_19 : decode cX6_takenCells 19 = .ok (.ifCond .ge 7, 3) := by decide +kernel
theorem dX6_takenCells_22 : decode cX6_takenCells 22 = .ok (.iconst 0, 1) := by decide +kernel
theorem dX6_takenCells_23 : decode cX6_takenCells 23 = .ok (.goto 11, 3) := by decide +kernel
theorem dX6_takenCells_26 : decode cX6_takenCells 26 = .ok (.iconst 1, 1) := by decide +kernel
theorem dX6_takenCells_27 : decode cX6_takenCells 27 = .ok (.aload_n 0, 1) := by decide +kernel
theorem dX6_takenCells_28 : decode cX6_takenCells 28 = .ok (.getfield 9, 3) := by decide +kernel
theorem dX6_takenCells_31 : decode cX6_takenCells 31 = .ok (.iload_n 2, 1) := by decide +kernel
theorem dX6_takenCells_32 : decode cX6_takenCells 32 = .ok (.iaload, 1) := by decide +kernel
theorem dX6_takenCells_33 : decode cX6_takenCells 33 = .ok (.ishl, 1) := by decide +kernel
theorem dX6_takenCells_34 : decode cX6_takenCells 34 = .ok (.ior, 1) := by decide +kernel
theorem dX6_takenCells_35 : decode cX6_takenCells 35 = .ok (.istore_n 1, 1) := by decide +kernel
theorem dX6_takenCells_36 : decode cX6_takenCells 36 = .ok (.iinc 2 1, 3) := by decide +kernel
theorem dX6_takenCells_39 : decode cX6_takenCells 39 = .ok (.goto (-35), 3) := by decide +kernel
theorem dX6_takenCells_42 : decode cX6_takenCells 42 = .ok (.iload_n 1, 1) := by decide +kernel
theorem dX6_takenCells_43 : decode cX6_takenCells 43 = .ok (.ireturn, 1) := by decide +kernel
theorem dX6_foremostBelow_0 : decode cX6_foremostBelow 0 = .ok (.iconst (-1), 1) := by decide +kernel
theorem dX6_foremostBelow_1 : decode cX6_foremostBelow 1 = .ok (.istore_n 2, 1) := by decide +kernel
theorem dX6_foremostBelow_2 : decode cX6_foremostBelow 2 = .ok (.iconst (-1), 1) := by decide +kernel
theorem dX6_foremostBelow_3 : decode cX6_foremostBelow 3 = .ok (.istore_n 3, 1) := by decide +kernel
theorem dX6_foremostBelow_4 : decode cX6_foremostBelow 4 = .ok (.iconst 0, 1) := by decide +kernel
theorem dX6_foremostBelow_5 : decode cX6_foremostBelow 5 = .ok (.istore 4, 2) := by decide +kernel
theorem dX6_foremostBelow_7 : decode cX6_foremostBelow 7 = .ok (.iload 4, 2) := by decide +kernel
theorem dX6_foremostBelow_9 : decode cX6_foremostBelow 9 = .ok (.aload_n 0, 1) := by decide +kernel
theorem dX6_foremostBelow_10 : decode cX6_foremostBelow 10 = .ok (.getfield 30, 3) := by decide +kernel
theorem dX6_foremostBelow_13 : decode cX6_foremostBelow 13 = .ok (.if_icmp .ge 42, 3) := by decide +kernel
theorem dX6_foremostBelow_16 : decode cX6_foremostBelow 16 = .ok (.aload_n 0, 1) := by decide +kernel
theorem dX6_foremostBelow_17 : decode cX6_foremostBelow 17 = .ok (.getfield 9, 3) := by decide +kernel
theorem dX6_foremostBelow_20 : decode cX6_foremostBelow 20 = .ok (.iload 4, 2) := by decide +kernel
theorem dX6_foremostBelow_22 : decode cX6_foremostBelow 22 = .ok (.iaload, 1) := by decide +kernel
theorem dX6_foremostBelow_23 : decode cX6_foremostBelow 23 = .ok (.iload_n 1, 1) := by decide +kernel
theorem dX6_foremostBelow_24 : decode cX6_foremostBelow 24 = .ok (.if_icmp .ge 25, 3) := by decide +kernel
theorem dX6_foremostBelow_27 : decode cX6_foremostBelow 27 = .ok (.aload_n 0, 1) := by decide +kernel
theorem dX6_foremostBelow_28 : decode cX6_foremostBelow 28 = .ok (.getfield 9, 3) := by decide +kernel
theorem dX6_foremostBelow_31 : decode cX6_foremostBelow 31 = .ok (.iload 4, 2) := by decide +kernel
theorem dX6_foremostBelow_33 : decode cX6_foremostBelow 33 = .ok (.iaload, 1) := by decide +kernel
theorem dX6_foremostBelow_34 : decode cX6_foremostBelow 34 = .ok (.iload_n 3, 1) := by decide +kernel
theorem dX6_foremostBelow_35 : decode cX6_foremostBelow 35 = .ok (.if_icmp .le 14, 3) := by decide +kernel
theorem dX6_foremostBelow_38 : decode cX6_foremostBelow 38 = .ok (.iload 4, 2) := by decide +kernel
theorem dX6_foremostBelow_40 : decode cX6_foremostBelow 40 = .ok (.istore_n 2, 1) := by decide +kernel
theorem dX6_foremostBelow_41 : decode cX6_foremostBelow 41 = .ok (.aload_n 0, 1) := by decide +kernel
theorem dX6_foremostBelow_42 : decode cX6_foremostBelow 42 = .ok (.getfield 9, 3) := by decide +kernel
theorem dX6_foremostBelow_45 : decode cX6_foremostBelow 45 = .ok (.iload 4, 2) := by decide +kernel
theorem dX6_foremostBelow_47 : decode cX6_foremostBelow 47 = .ok (.iaload, 1) := by decide +kernel
theorem dX6_foremostBelow_48 : decode cX6_foremostBelow 48 = .ok (.istore_n 3, 1) := by decide +kernel
theorem dX6_foremostBelow_49 : decode cX6_foremostBelow 49 = .ok (.iinc 4 1, 3) := by decide +kernel
theorem dX6_foremostBelow_52 : decode cX6_foremostBelow 52 = .ok (.goto (-45), 3) := by decide +kernel
theorem dX6_foremostBelow_55 : decode cX6_foremostBelow 55 = .ok (.iload_n 2, 1) := by decide +kernel
theorem dX6_foremostBelow_56 : decode cX6_foremostBelow 56 = .ok (.ireturn, 1) := by decide +kernel
theorem dX6_freeAhead_0 : decode cX6_freeAhead 0 = .ok (.aload_n 0, 1) := by decide +kernel
theorem dX6_freeAhead_1 : decode cX6_freeAhead 1 = .ok (.getfield 9, 3) := by decide +kernel
theorem dX6_freeAhead_4 : decode cX6_freeAhead 4 = .ok (.iload_n 1, 1) := by decide +kernel
theorem dX6_freeAhead_5 : decode cX6_freeAhead 5 = .ok (.iaload, 1) := by decide +kernel
theorem dX6_freeAhead_6 : decode cX6_freeAhead 6 = .ok (.istore_n 3, 1) := by decide +kernel
theorem dX6_freeAhead_7 : decode cX6_freeAhead 7 = .ok (.iload_n 2, 1) := by decide +kernel
theorem dX6_freeAhead_8 : decode cX6_freeAhead 8 = .ok (.iload_n 3, 1) := by decide +kernel
theorem dX6_freeAhead_9 : decode cX6_freeAhead 9 = .ok (.isub, 1) := by decide +kernel
theorem dX6_freeAhead_10 : decode cX6_freeAhead 10 = .ok (.istore 4, 2) := by decide +kernel
theorem dX6_freeAhead_12 : decode cX6_freeAhead 12 = .ok (.iconst 0, 1) := by decide +kernel
theorem dX6_freeAhead_13 : decode cX6_freeAhead 13 = .ok (.istore 5, 2) := by decide +kernel
theorem dX6_freeAhead_15 : decode cX6_freeAhead 15 = .ok (.iload 5, 2) := by decide +kernel
theorem dX6_freeAhead_17 : decode cX6_freeAhead 17 = .ok (.aload_n 0, 1) := by decide +kernel
theorem dX6_freeAhead_18 : decode cX6_freeAhead 18 = .ok (.getfield 30, 3) := by decide +kernel
theorem dX6_freeAhead_21 : decode cX6_freeAhead 21 = .ok (.if_icmp .ge 43, 3) := by decide +kernel
theorem dX6_freeAhead_24 : decode cX6_freeAhead 24 = .ok (.aload_n 0, 1) := by decide +kernel
theorem dX6_freeAhead_25 : decode cX6_freeAhead 25 = .ok (.getfield 9, 3) := by decide +kernel
theorem dX6_freeAhead_28 : decode cX6_freeAhead 28 = .ok (.iload 5, 2) := by decide +kernel
theorem dX6_freeAhead_30 : decode cX6_freeAhead 30 = .ok (.iaload, 1) := by decide +kernel
theorem dX6_freeAhead_31 : decode cX6_freeAhead 31 = .ok (.iload_n 3, 1) := by decide +kernel
theorem dX6_freeAhead_32 : decode cX6_freeAhead 32 = .ok (.isub, 1) := by decide +kernel
theorem dX6_freeAhead_33 : decode cX6_freeAhead 33 = .ok (.iconst 1, 1) := by decide +kernel
theorem dX6_freeAhead_34 : decode cX6_freeAhead 34 = .ok (.isub, 1) := by decide +kernel
theorem dX6_freeAhead_35 : decode cX6_freeAhead 35 = .ok (.istore 6, 2) := by decide +kernel
theorem dX6_freeAhead_37 : decode cX6_freeAhead 37 = .ok (.iload 6, 2) := by decide +kernel
theorem dX6_freeAhead_39 : decode cX6_freeAhead 39 = .ok (.ifCond .lt 15, 3) := by decide +kernel
theorem dX6_freeAhead_42 : decode cX6_freeAhead 42 = .ok (.iload 6, 2) := by decide +kernel
theorem dX6_freeAhead_44 : decode cX6_freeAhead 44 = .ok (.iload 4, 2) := by decide +kernel
theorem dX6_freeAhead_46 : decode cX6_freeAhead 46 = .ok (.if_icmp .ge 8, 3) := by decide +kernel
theorem dX6_freeAhead_49 : decode cX6_freeAhead 49 = .ok (.iload 6, 2) := by decide +kernel
theorem dX6_freeAhead_51 : decode cX6_freeAhead 51 = .ok (.goto 5, 3) := by decide +kernel
theorem dX6_freeAhead_54 : decode cX6_freeAhead 54 = .ok (.iload 4, 2) := by decide +kernel
theorem dX6_freeAhead_56 : decode cX6_freeAhead 56 = .ok (.istore 4, 2) := by decide +kernel
theorem dX6_freeAhead_58 : decode cX6_freeAhead 58 = .ok (.iinc 5 1, 3) := by decide +kernel
theorem dX6_freeAhead_61 : decode cX6_freeAhead 61 = .ok (.goto (-46), 3) := by decide +kernel
theorem dX6_freeAhead_64 : decode cX6_freeAhead 64 = .ok (.iload 4, 2) := by decide +kernel
theorem dX6_freeAhead_66 : decode cX6_freeAhead 66 = .ok (.ireturn, 1) := by decide +kernel
theorem dX6_isAheadOf_0 : decode cX6_isAheadOf 0 = .ok (.aload_n 0, 1) := by decide +kernel
theorem dX6_isAheadOf_1 : decode cX6_isAheadOf 1 = .ok (.iload_n 1, 1) := by decide +kernel
theorem dX6_isAheadOf_2 : decode cX6_isAheadOf 2 = .ok (.invokevirtual 56, 3) := by decide +kernel
theorem dX6_isAheadOf_5 : decode cX6_isAheadOf 5 = .ok (.ifCond .eq 32, 3) := by decide +kernel
theorem dX6_isAheadOf_8 : decode cX6_isAheadOf 8 = .ok (.aload_n 0, 1) := by decide +kernel
theorem dX6_isAheadOf_9 : decode cX6_isAheadOf 9 = .ok (.iload_n 2, 1) := by decide +kernel
theorem dX6_isAheadOf_10 : decode cX6_isAheadOf 10 = .ok (.invokevirtual 56, 3) := by decide +kernel
theorem dX6_isAheadOf_13 : decode cX6_isAheadOf 13 = .ok (.ifCond .eq 18, 3) := by decide +kernel
theorem dX6_isAheadOf_16 : decode cX6_isAheadOf 16 = .ok (.aload_n 0, 1) := by decide +kernel
theorem dX6_isAheadOf_17 : decode cX6_isAheadOf 17 = .ok (.getfield 15, 3) := by decide +kernel
theorem dX6_isAheadOf_20 : decode cX6_isAheadOf 20 = .ok (.iload_n 1, 1) := by decide +kernel
theorem dX6_isAheadOf_21 : decode cX6_isAheadOf 21 = .ok (.iaload, 1) := by decide +kernel
theorem dX6_isAheadOf_22 : decode cX6_isAheadOf 22 = .ok (.aload_n 0, 1) := by decide +kernel
theorem dX6_isAheadOf_23 : decode cX6_isAheadOf 23 = .ok (.getfield 15, 3) := by decide +kernel
theorem dX6_isAheadOf_26 : decode cX6_isAheadOf 26 = .ok (.iload_n 2, 1) := by decide +kernel
theorem dX6_isAheadOf_27 : decode cX6_isAheadOf 27 = .ok (.iaload, 1) := by decide +kernel
theorem dX6_isAheadOf_28 : decode cX6_isAheadOf 28 = .ok (.if_icmp .ge 7, 3) := by decide +kernel
theorem dX6_isAheadOf_31 : decode cX6_isAheadOf 31 = .ok (.iconst 1, 1) := by decide +kernel
theorem dX6_isAheadOf_32 : decode cX6_isAheadOf 32 = .ok (.goto 4, 3) := by decide +kernel
theorem dX6_isAheadOf_35 : decode cX6_isAheadOf 35 = .ok (.iconst 0, 1) := by decide +kernel
theorem dX6_isAheadOf_36 : decode cX6_isAheadOf 36 = .ok (.ireturn, 1) := by decide +kernel
theorem dX6_isAheadOf_37 : decode cX6_isAheadOf 37 = .ok (.aload_n 0, 1) := by decide +kernel
theorem dX6_isAheadOf_38 : decode cX6_isAheadOf 38 = .ok (.iload_n 2, 1) := by decide +kernel
theorem dX6_isAheadOf_39 : decode cX6_isAheadOf 39 = .ok (.invokevirtual 56, 3) := by decide +kernel
theorem dX6_isAheadOf_42 : decode cX6_isAheadOf 42 = .ok (.ifCond .ne 22, 3) := by decide +kernel
theorem dX6_isAheadOf_45 : decode cX6_isAheadOf 45 = .ok (.aload_n 0, 1) := by decide +kernel
theorem dX6_isAheadOf_46 : decode cX6_isAheadOf 46 = .ok (.getfield 9, 3) := by decide +kernel
theorem dX6_isAheadOf_49 : decode cX6_isAheadOf 49 = .ok (.iload_n 1, 1) := by decide +kernel
theorem dX6_isAheadOf_50 : decode cX6_isAheadOf 50 = .ok (.iaload, 1) := by decide +kernel
theorem dX6_isAheadOf_51 : decode cX6_isAheadOf 51 = .ok (.aload_n 0, 1) := by decide +kernel
theorem dX6_isAheadOf_52 : decode cX6_isAheadOf 52 = .ok (.getfield 9, 3) := by decide +kernel
theorem dX6_isAheadOf_55 : decode cX6_isAheadOf 55 = .ok (.iload_n 2, 1) := by decide +kernel
theorem dX6_isAheadOf_56 : decode cX6_isAheadOf 56 = .ok (.iaload, 1) := by decide +kernel
theorem dX6_isAheadOf_57 : decode cX6_isAheadOf 57 = .ok (.if_icmp .le 7, 3) := by decide +kernel
theorem dX6_isAheadOf_60 : decode cX6_isAheadOf 60 = .ok (.iconst 1, 1) := by decide +kernel
theorem dX6_isAheadOf_61 : decode cX6_isAheadOf 61 = .ok (.goto 4, 3) := by decide +kernel
theorem dX6_isAheadOf_64 : decode cX6_isAheadOf 64 = .ok (.iconst 0, 1) := by decide +kernel
theorem dX6_isAheadOf_65 : decode cX6_isAheadOf 65 = .ok (.ireturn, 1) := by decide +kernel
theorem dX6_nearestTo_0 : decode cX6_nearestTo 0 = .ok (.iconst (-1), 1) := by decide +kernel
theorem dX6_nearestTo_1 : decode cX6_nearestTo 1 = .ok (.istore_n 2, 1) := by decide +kernel
theorem dX6_nearestTo_2 : decode cX6_nearestTo 2 = .ok (.bipush 30, 2) := by decide +kernel
theorem dX6_nearestTo_4 : decode cX6_nearestTo 4 = .ok (.istore_n 3, 1) := by decide +kernel
theorem dX6_nearestTo_5 : decode cX6_nearestTo 5 = .ok (.iconst 0, 1) := by decide +kernel
theorem dX6_nearestTo_6 : decode cX6_nearestTo 6 = .ok (.istore 4, 2) := by decide +kernel
theorem dX6_nearestTo_8 : decode cX6_nearestTo 8 = .ok (.iload 4, 2) := by decide +kernel
theorem dX6_nearestTo_10 : decode cX6_nearestTo 10 = .ok (.aload_n 0, 1) := by decide +kernel
theorem dX6_nearestTo_11 : decode cX6_nearestTo 11 = .ok (.getfield 30, 3) := by decide +kernel
theorem dX6_nearestTo_14 : decode cX6_nearestTo 14 = .ok (.if_icmp .ge 74, 3) := by decide +kernel
theorem dX6_nearestTo_17 : decode cX6_nearestTo 17 = .ok (.aload_n 0, 1) := by decide +kernel
theorem dX6_nearestTo_18 : decode cX6_nearestTo 18 = .ok (.getfield 9, 3) := by decide +kernel
theorem dX6_nearestTo_21 : decode cX6_nearestTo 21 = .ok (.iload 4, 2) := by decide +kernel
theorem dX6_nearestTo_23 : decode cX6_nearestTo 23 = .ok (.iaload, 1) := by decide +kernel
theorem dX6_nearestTo_24 : decode cX6_nearestTo 24 = .ok (.iload_n 1, 1) := by decide +kernel
theorem dX6_nearestTo_25 : decode cX6_nearestTo 25 = .ok (.isub, 1) := by decide +kernel
theorem dX6_nearestTo_26 : decode cX6_nearestTo 26 = .ok (.invokestatic 75, 3) := by decide +kernel
theorem dX6_nearestTo_29 : decode cX6_nearestTo 29 = .ok (.istore 5, 2) := by decide +kernel
theorem dX6_nearestTo_31 : decode cX6_nearestTo 31 = .ok (.iload 5, 2) := by decide +kernel
theorem dX6_nearestTo_33 : decode cX6_nearestTo 33 = .ok (.iload_n 3, 1) := by decide +kernel
theorem dX6_nearestTo_34 : decode cX6_nearestTo 34 = .ok (.if_icmp .lt 20, 3) := by decide +kernel
theorem dX6_nearestTo_37 : decode cX6_nearestTo 37 = .ok (.iload 5, 2) := by decide +kernel
theorem dX6_nearestTo_39 : decode cX6_nearestTo 39 = .ok (.iload_n 3, 1) := by decide +kernel
theorem dX6_nearestTo_40 : decode cX6_nearestTo 40 = .ok (.if_icmp .ne 18, 3) := by decide +kernel
theorem dX6_nearestTo_43 : decode cX6_nearestTo 43 = .ok (.aload_n 0, 1) := by decide +kernel
theorem dX6_nearestTo_44 : decode cX6_nearestTo 44 = .ok (.getfield 9, 3) := by decide +kernel
theorem dX6_nearestTo_47 : decode cX6_nearestTo 47 = .ok (.iload 4, 2) := by decide +kernel
theorem dX6_nearestTo_49 : decode cX6_nearestTo 49 = .ok (.iaload, 1) := by decide +kernel
theorem dX6_nearestTo_50 : decode cX6_nearestTo 50 = .ok (.iload_n 1, 1) := by decide +kernel
theorem dX6_nearestTo_51 : decode cX6_nearestTo 51 = .ok (.if_icmp .le 7, 3) := by decide +kernel
theorem dX6_nearestTo_54 : decode cX6_nearestTo 54 = .ok (.iconst 1, 1) := by decide +kernel
theorem dX6_nearestTo_55 : decode cX6_nearestTo 55 = .ok (.goto 4, 3) := by decide +kernel
theorem dX6_nearestTo_58 : decode cX6_nearestTo 58 = .ok (.iconst 0, 1) := by decide +kernel
theorem dX6_nearestTo_59 : decode cX6_nearestTo 59 = .ok (.istore 6, 2) := by decide +kernel
theorem dX6_nearestTo_61 : decode cX6_nearestTo 61 = .ok (.iload 6, 2) := by decide +kernel
theorem dX6_nearestTo_63 : decode cX6_nearestTo 63 = .ok (.ifCond .eq 19, 3) := by decide +kernel
theorem dX6_nearestTo_66 : decode cX6_nearestTo 66 = .ok (.aload_n 0, 1) := by decide +kernel
theorem dX6_nearestTo_67 : decode cX6_nearestTo 67 = .ok (.getfield 9, 3) := by decide +kernel
theorem dX6_nearestTo_70 : decode cX6_nearestTo 70 = .ok (.iload 4, 2) := by decide +kernel
theorem dX6_nearestTo_72 : decode cX6_nearestTo 72 = .ok (.iaload, 1) := by decide +kernel
theorem dX6_nearestTo_73 : decode cX6_nearestTo 73 = .ok (.ifCond .lt 9, 3) := by decide +kernel
theorem dX6_nearestTo_76 : decode cX6_nearestTo 76 = .ok (.iload 4, 2) := by decide +kernel
theorem dX6_nearestTo_78 : decode cX6_nearestTo 78 = .ok (.istore_n 2, 1) := by decide +kernel
theorem dX6_nearestTo_79 : decode cX6_nearestTo 79 = .ok (.iload 5, 2) := by decide +kernel
theorem dX6_nearestTo_81 : decode cX6_nearestTo 81 = .ok (.istore_n 3, 1) := by decide +kernel
theorem dX6_nearestTo_82 : decode cX6_nearestTo 82 = .ok (.iinc 4 1, 3) := by decide +kernel
theorem dX6_nearestTo_85 : decode cX6_nearestTo 85 = .ok (.goto (-77), 3) := by decide +kernel
theorem dX6_nearestTo_88 : decode cX6_nearestTo 88 = .ok (.iload_n 2, 1) := by decide +kernel
theorem dX6_nearestTo_89 : decode cX6_nearestTo 89 = .ok (.ireturn, 1) := by decide +kernel
theorem dX6_isInDoubt_0 : decode cX6_isInDoubt 0 = .ok (.aload_n 0, 1) := by decide +kernel
theorem dX6_isInDoubt_1 : decode cX6_isInDoubt 1 = .ok (.getfield 18, 3) := by decide +kernel
theorem dX6_isInDoubt_4 : decode cX6_isInDoubt 4 = .ok (.iload_n 1, 1) := by decide +kernel
theorem dX6_isInDoubt_5 : decode cX6_isInDoubt 5 = .ok (.iaload, 1) := by decide +kernel
theorem dX6_isInDoubt_6 : decode cX6_isInDoubt 6 = .ok (.istore_n 2, 1) := by decide +kernel
theorem dX6_isInDoubt_7 : decode cX6_isInDoubt 7 = .ok (.aload_n 0, 1) := by decide +kernel
theorem dX6_isInDoubt_8 : decode cX6_isInDoubt 8 = .ok (.iload_n 2, 1) := by decide +kernel
theorem dX6_isInDoubt_9 : decode cX6_isInDoubt 9 = .ok (.invokevirtual 80, 3) := by decide +kernel
theorem dX6_isInDoubt_12 : decode cX6_isInDoubt 12 = .ok (.istore_n 3, 1) := by decide +kernel
theorem dX6_isInDoubt_13 : decode cX6_isInDoubt 13 = .ok (.iload_n 3, 1) := by decide +kernel
theorem dX6_isInDoubt_14 : decode cX6_isInDoubt 14 = .ok (.iconst (-1), 1) := by decide +kernel
theorem dX6_isInDoubt_15 : decode cX6_isInDoubt 15 = .ok (.if_icmp .ne 5, 3) := by decide +kernel
theorem dX6_isInDoubt_18 : decode cX6_isInDoubt 18 = .ok (.iconst 0, 1) := by decide +kernel
theorem dX6_isInDoubt_19 : decode cX6_isInDoubt 19 = .ok (.ireturn, 1) := by decide +kernel
theorem dX6_isInDoubt_20 : decode cX6_isInDoubt 20 = .ok (.iconst 2, 1) := by decide +kernel
theorem dX6_isInDoubt_21 : decode cX6_isInDoubt 21 = .ok (.iload_n 2, 1) := by decide +kernel
theorem dX6_isInDoubt_22 : decode cX6_isInDoubt 22 = .ok (.imul, 1) := by decide +kernel
theorem dX6_isInDoubt_23 : decode cX6_isInDoubt 23 = .ok (.aload_n 0, 1) := by decide +kernel
theorem dX6_isInDoubt_24 : decode cX6_isInDoubt 24 = .ok (.getfield 9, 3) := by decide +kernel
theorem dX6_isInDoubt_27 : decode cX6_isInDoubt 27 = .ok (.iload_n 3, 1) := by decide +kernel
theorem dX6_isInDoubt_28 : decode cX6_isInDoubt 28 = .ok (.iaload, 1) := by decide +kernel
theorem dX6_isInDoubt_29 : decode cX6_isInDoubt 29 = .ok (.isub, 1) := by decide +kernel
theorem dX6_isInDoubt_30 : decode cX6_isInDoubt 30 = .ok (.istore 4, 2) := by decide +kernel
theorem dX6_isInDoubt_32 : decode cX6_isInDoubt 32 = .ok (.iload 4, 2) := by decide +kernel
theorem dX6_isInDoubt_34 : decode cX6_isInDoubt 34 = .ok (.ifCond .lt 28, 3) := by decide +kernel
theorem dX6_isInDoubt_37 : decode cX6_isInDoubt 37 = .ok (.iload 4, 2) := by decide +kernel
theorem dX6_isInDoubt_39 : decode cX6_isInDoubt 39 = .ok (.aload_n 0, 1) := by decide +kernel
theorem dX6_isInDoubt_40 : decode cX6_isInDoubt 40 = .ok (.getfield 9, 3) := by decide +kernel
theorem dX6_isInDoubt_43 : decode cX6_isInDoubt 43 = .ok (.iload_n 3, 1) := by decide +kernel
theorem dX6_isInDoubt_44 : decode cX6_isInDoubt 44 = .ok (.iaload, 1) := by decide +kernel
theorem dX6_isInDoubt_45 : decode cX6_isInDoubt 45 = .ok (.if_icmp .eq 17, 3) := by decide +kernel
theorem dX6_isInDoubt_48 : decode cX6_isInDoubt 48 = .ok (.aload_n 0, 1) := by decide +kernel
theorem dX6_isInDoubt_49 : decode cX6_isInDoubt 49 = .ok (.iload 4, 2) := by decide +kernel
theorem dX6_isInDoubt_51 : decode cX6_isInDoubt 51 = .ok (.invokevirtual 83, 3) := by decide +kernel
theorem dX6_isInDoubt_54 : decode cX6_isInDoubt 54 = .ok (.iconst (-1), 1) := by decide +kernel
theorem dX6_isInDoubt_55 : decode cX6_isInDoubt 55 = .ok (.if_icmp .eq 7, 3) := by decide +kernel
theorem dX6_isInDoubt_58 : decode cX6_isInDoubt 58 = .ok (.iconst 1, 1) := by decide +kernel
theorem dX6_isInDoubt_59 : decode cX6_isInDoubt 59 = .ok (.goto 4, 3) := by decide +kernel
theorem dX6_isInDoubt_62 : decode cX6_isInDoubt 62 = .ok (.iconst 0, 1) := by decide +kernel
theorem dX6_isInDoubt_63 : decode cX6_isInDoubt 63 = .ok (.ireturn, 1) := by decide +kernel
theorem dX6_bitsOf_0 : decode cX6_bitsOf 0 = .ok (.iconst 0, 1) := by decide +kernel
theorem dX6_bitsOf_1 : decode cX6_bitsOf 1 = .ok (.istore_n 3, 1) := by decide +kernel
theorem dX6_bitsOf_2 : decode cX6_bitsOf 2 = .ok (.iconst 0, 1) := by decide +kernel
theorem dX6_bitsOf_3 : decode cX6_bitsOf 3 = .ok (.istore 4, 2) := by decide +kernel
theorem dX6_bitsOf_5 : decode cX6_bitsOf 5 = .ok (.iload 4, 2) := by decide +kernel
theorem dX6_bitsOf_7 : decode cX6_bitsOf 7 = .ok (.aload_n 0, 1) := by decide +kernel
theorem dX6_bitsOf_8 : decode cX6_bitsOf 8 = .ok (.getfield 34, 3) := by decide +kernel
theorem dX6_bitsOf_11 : decode cX6_bitsOf 11 = .ok (.if_icmp .ge 28, 3) := by decide +kernel
theorem dX6_bitsOf_14 : decode cX6_bitsOf 14 = .ok (.iload_n 3, 1) := by decide +kernel
theorem dX6_bitsOf_15 : decode cX6_bitsOf 15 = .ok (.aload_n 1, 1) := by decide +kernel
theorem dX6_bitsOf_16 : decode cX6_bitsOf 16 = .ok (.iload 4, 2) := by decide +kernel
theorem dX6_bitsOf_18 : decode cX6_bitsOf 18 = .ok (.iaload, 1) := by decide +kernel
theorem dX6_bitsOf_19 : decode cX6_bitsOf 19 = .ok (.iload_n 2, 1) := by decide +kernel
theorem dX6_bitsOf_20 : decode cX6_bitsOf 20 = .ok (.if_icmp .ne 10, 3) := by decide +kernel
theorem dX6_bitsOf_23 : decode cX6_bitsOf 23 = .ok (.iconst 1, 1) := by decide +kernel
theorem dX6_bitsOf_24 : decode cX6_bitsOf 24 = .ok (.iload 4, 2) := by decide +kernel
theorem dX6_bitsOf_26 : decode cX6_bitsOf 26 = .ok (.ishl, 1) := by decide +kernel
theorem dX6_bitsOf_27 : decode cX6_bitsOf 27 = .ok (.goto 4, 3) := by decide +kernel
theorem dX6_bitsOf_30 : decode cX6_bitsOf 30 = .ok (.iconst 0, 1) := by decide +kernel
theorem dX6_bitsOf_31 : decode cX6_bitsOf 31 = .ok (.ior, 1) := by decide +kernel
theorem dX6_bitsOf_32 : decode cX6_bitsOf 32 = .ok (.istore_n 3, 1) := by decide +kernel
theorem dX6_bitsOf_33 : decode cX6_bitsOf 33 = .ok (.iinc 4 1, 3) := by decide +kernel
theorem dX6_bitsOf_36 : decode cX6_bitsOf 36 = .ok (.goto (-31), 3) := by decide +kernel
theorem dX6_bitsOf_39 : decode cX6_bitsOf 39 = .ok (.iload_n 3, 1) := by decide +kernel
theorem dX6_bitsOf_40 : decode cX6_bitsOf 40 = .ok (.ireturn, 1) := by decide +kernel
theorem dX6_rightBits_0 : decode cX6_rightBits 0 = .ok (.iconst 0, 1) := by decide +kernel
theorem dX6_rightBits_1 : decode cX6_rightBits 1 = .ok (.istore_n 1, 1) := by decide +kernel
theorem dX6_rightBits_2 : decode cX6_rightBits 2 = .ok (.iconst 0, 1) := by decide +kernel
theorem dX6_rightBits_3 : decode cX6_rightBits 3 = .ok (.istore_n 2, 1) := by decide +kernel
theorem dX6_rightBits_4 : decode cX6_rightBits 4 = .ok (.iload_n 2, 1) := by decide +kernel
theorem dX6_rightBits_5 : decode cX6_rightBits 5 = .ok (.aload_n 0, 1) := by decide +kernel
theorem dX6_rightBits_6 : decode cX6_rightBits 6 = .ok (.getfield 34, 3) := by decide +kernel
theorem dX6_rightBits_9 : decode cX6_rightBits 9 = .ok (.if_icmp .ge 27, 3) := by decide +kernel
theorem dX6_rightBits_12 : decode cX6_rightBits 12 = .ok (.iload_n 1, 1) := by decide +kernel
theorem dX6_rightBits_13 : decode cX6_rightBits 13 = .ok (.aload_n 0, 1) := by decide +kernel
theorem dX6_rightBits_14 : decode cX6_rightBits 14 = .ok (.iload_n 2, 1) := by decide +kernel
theorem dX6_rightBits_15 : decode cX6_rightBits 15 = .ok (.invokevirtual 86, 3) := by decide +kernel
theorem dX6_rightBits_18 : decode cX6_rightBits 18 = .ok (.ifCond .eq 9, 3) := by decide +kernel
theorem dX6_rightBits_21 : decode cX6_rightBits 21 = .ok (.iconst 1, 1) := by decide +kernel
theorem dX6_rightBits_22 : decode cX6_rightBits 22 = .ok (.iload_n 2, 1) := by decide +kernel
theorem dX6_rightBits_23 : decode cX6_rightBits 23 = .ok (.ishl, 1) := by decide +kernel
theorem dX6_rightBits_24 : decode cX6_rightBits 24 = .ok (.goto 4, 3) := by decide +kernel
theorem dX6_rightBits_27 : decode cX6_rightBits 27 = .ok (.iconst 0, 1) := by decide +kernel
theorem dX6_rightBits_28 : decode cX6_rightBits 28 = .ok (.ior, 1) := by decide +kernel
theorem dX6_rightBits_29 : decode cX6_rightBits 29 = .ok (.istore_n 1, 1) := by decide +kernel
theorem dX6_rightBits_30 : decode cX6_rightBits 30 = .ok (.iinc 2 1, 3) := by decide +kernel
theorem dX6_rightBits_33 : decode cX6_rightBits 33 = .ok (.goto (-29), 3) := by decide +kernel
theorem dX6_rightBits_36 : decode cX6_rightBits 36 = .ok (.iload_n 1, 1) := by decide +kernel
theorem dX6_rightBits_37 : decode cX6_rightBits 37 = .ok (.ireturn, 1) := by decide +kernel
theorem dX6_wrongBits_0 : decode cX6_wrongBits 0 = .ok (.iconst 0, 1) := by decide +kernel
theorem dX6_wrongBits_1 : decode cX6_wrongBits 1 = .ok (.istore_n 1, 1) := by decide +kernel
theorem dX6_wrongBits_2 : decode cX6_wrongBits 2 = .ok (.iconst 0, 1) := by decide +kernel
theorem dX6_wrongBits_3 : decode cX6_wrongBits 3 = .ok (.istore_n 2, 1) := by decide +kernel
theorem dX6_wrongBits_4 : decode cX6_wrongBits 4 = .ok (.iload_n 2, 1) := by decide +kernel
theorem dX6_wrongBits_5 : decode cX6_wrongBits 5 = .ok (.aload_n 0, 1) := by decide +kernel
theorem dX6_wrongBits_6 : decode cX6_wrongBits 6 = .ok (.getfield 34, 3) := by decide +kernel
theorem dX6_wrongBits_9 : decode cX6_wrongBits 9 = .ok (.if_icmp .ge 35, 3) := by decide +kernel
theorem dX6_wrongBits_12 : decode cX6_wrongBits 12 = .ok (.iload_n 1, 1) := by decide +kernel
theorem dX6_wrongBits_13 : decode cX6_wrongBits 13 = .ok (.aload_n 0, 1) := by decide +kernel
theorem dX6_wrongBits_14 : decode cX6_wrongBits 14 = .ok (.iload_n 2, 1) := by decide +kernel
theorem dX6_wrongBits_15 : decode cX6_wrongBits 15 = .ok (.invokevirtual 63, 3) := by decide +kernel
theorem dX6_wrongBits_18 : decode cX6_wrongBits 18 = .ok (.ifCond .eq 17, 3) := by decide +kernel
theorem dX6_wrongBits_21 : decode cX6_wrongBits 21 = .ok (.aload_n 0, 1) := by decide +kernel
theorem dX6_wrongBits_22 : decode cX6_wrongBits 22 = .ok (.iload_n 2, 1) := by decide +kernel
theorem dX6_wrongBits_23 : decode cX6_wrongBits 23 = .ok (.invokevirtual 86, 3) := by decide +kernel
theorem dX6_wrongBits_26 : decode cX6_wrongBits 26 = .ok (.ifCond .ne 9, 3) := by decide +kernel
theorem dX6_wrongBits_29 : decode cX6_wrongBits 29 = .ok (.iconst 1, 1) := by decide +kernel
theorem dX6_wrongBits_30 : decode cX6_wrongBits 30 = .ok (.iload_n 2, 1) := by decide +kernel
theorem dX6_wrongBits_31 : decode cX6_wrongBits 31 = .ok (.ishl, 1) := by decide +kernel
theorem dX6_wrongBits_32 : decode cX6_wrongBits 32 = .ok (.goto 4, 3) := by decide +kernel
theorem dX6_wrongBits_35 : decode cX6_wrongBits 35 = .ok (.iconst 0, 1) := by decide +kernel
theorem dX6_wrongBits_36 : decode cX6_wrongBits 36 = .ok (.ior, 1) := by decide +kernel
theorem dX6_wrongBits_37 : decode cX6_wrongBits 37 = .ok (.istore_n 1, 1) := by decide +kernel
theorem dX6_wrongBits_38 : decode cX6_wrongBits 38 = .ok (.iinc 2 1, 3) := by decide +kernel
theorem dX6_wrongBits_41 : decode cX6_wrongBits 41 = .ok (.goto (-37), 3) := by decide +kernel
theorem dX6_wrongBits_44 : decode cX6_wrongBits 44 = .ok (.iload_n 1, 1) := by decide +kernel
theorem dX6_wrongBits_45 : decode cX6_wrongBits 45 = .ok (.ireturn, 1) := by decide +kernel
theorem dX7_init_0 : decode cX7_init 0 = .ok (.aload_n 0, 1) := by decide +kernel
theorem dX7_init_1 : decode cX7_init 1 = .ok (.invokespecial 3, 3) := by decide +kernel
theorem dX7_init_4 : decode cX7_init 4 = .ok (.aload_n 0, 1) := by decide +kernel
theorem dX7_init_5 : decode cX7_init 5 = .ok (.bipush 9, 2) := by decide +kernel
theorem dX7_init_7 : decode cX7_init 7 = .ok (.bipush 64, 2) := by decide +kernel
theorem dX7_init_9 : decode cX7_init 9 = .ok (.multianewarray 9 2, 4) := by decide +kernel
theorem dX7_init_13 : decode cX7_init 13 = .ok (.putfield 11, 3) := by decide +kernel
theorem dX7_init_16 : decode cX7_init 16 = .ok (.aload_n 0, 1) := by decide +kernel
theorem dX7_init_17 : decode cX7_init 17 = .ok (.iconst 0, 1) := by decide +kernel
theorem dX7_init_18 : decode cX7_init 18 = .ok (.putfield 16, 3) := by decide +kernel
theorem dX7_init_21 : decode cX7_init 21 = .ok (.return_, 1) := by decide +kernel
theorem dX7_weigh_0 : decode cX7_weigh 0 = .ok (.aload_n 0, 1) := by decide +kernel
theorem dX7_weigh_1 : decode cX7_weigh 1 = .ok (.iload_n 2, 1) := by decide +kernel
theorem dX7_weigh_2 : decode cX7_weigh 2 = .ok (.putfield 16, 3) := by decide +kernel
theorem dX7_weigh_5 : decode cX7_weigh 5 = .ok (.iconst 1, 1) := by decide +kernel
theorem dX7_weigh_6 : decode cX7_weigh 6 = .ok (.aload_n 1, 1) := by decide +kernel
theorem dX7_weigh_7 : decode cX7_weigh 7 = .ok (.getfield 20, 3) := by decide +kernel
theorem dX7_weigh_10 : decode cX7_weigh 10 = .ok (.ishl, 1) := by decide +kernel
theorem dX7_weigh_11 : decode cX7_weigh 11 = .ok (.istore_n 3, 1) := by decide +kernel
theorem dX7_weigh_12 : decode cX7_weigh 12 = .ok (.iconst 0, 1) := by decide +kernel
theorem dX7_weigh_13 : decode cX7_weigh 13 = .ok (.istore 4, 2) := by decide +kernel
theorem dX7_weigh_15 : decode cX7_weigh 15 = .ok (.iload 4, 2) := by decide +kernel
theorem dX7_weigh_17 : decode cX7_weigh 17 = .ok (.iload_n 3, 1) := by decide +kernel
theorem dX7_weigh_18 : decode cX7_weigh 18 = .ok (.if_icmp .ge 22, 3) := by decide +kernel
theorem dX7_weigh_21 : decode cX7_weigh 21 = .ok (.aload_n 0, 1) := by decide +kernel
theorem dX7_weigh_22 : decode cX7_weigh 22 = .ok (.getfield 11, 3) := by decide +kernel
theorem dX7_weigh_25 : decode cX7_weigh 25 = .ok (.aload_n 1, 1) := by decide +kernel
theorem dX7_weigh_26 : decode cX7_weigh 26 = .ok (.getfield 25, 3) := by decide +kernel
theorem dX7_weigh_29 : decode cX7_weigh 29 = .ok (.aaload, 1) := by decide +kernel
theorem dX7_weigh_30 : decode cX7_weigh 30 = .ok (.iload 4, 2) := by decide +kernel
theorem dX7_weigh_32 : decode cX7_weigh 32 = .ok (.iconst 0, 1) := by decide +kernel
theorem dX7_weigh_33 : decode cX7_weigh 33 = .ok (.iastore, 1) := by decide +kernel
theorem dX7_weigh_34 : decode cX7_weigh 34 = .ok (.iinc 4 1, 3) := by decide +kernel
theorem dX7_weigh_37 : decode cX7_weigh 37 = .ok (.goto (-22), 3) := by decide +kernel
theorem dX7_weigh_40 : decode cX7_weigh 40 = .ok (.aload_n 1, 1) := by decide +kernel
theorem dX7_weigh_41 : decode cX7_weigh 41 = .ok (.getfield 25, 3) := by decide +kernel
theorem dX7_weigh_44 : decode cX7_weigh 44 = .ok (.iconst 1, 1) := by decide +kernel
theorem dX7_weigh_45 : decode cX7_weigh 45 = .ok (.isub, 1) := by decide +kernel
theorem dX7_weigh_46 : decode cX7_weigh 46 = .ok (.istore 4, 2) := by decide +kernel
theorem dX7_weigh_48 : decode cX7_weigh 48 = .ok (.iload 4, 2) := by decide +kernel
theorem dX7_weigh_50 : decode cX7_weigh 50 = .ok (.ifCond .lt 43, 3) := by decide +kernel
theorem dX7_weigh_53 : decode cX7_weigh 53 = .ok (.iconst 0, 1) := by decide +kernel
theorem dX7_weigh_54 : decode cX7_weigh 54 = .ok (.istore 5, 2) := by decide +kernel
theorem dX7_weigh_56 : decode cX7_weigh 56 = .ok (.iload 5, 2) := by decide +kernel
theorem dX7_weigh_58 : decode cX7_weigh 58 = .ok (.iload_n 3, 1) := by decide +kernel
theorem dX7_weigh_59 : decode cX7_weigh 59 = .ok (.if_icmp .ge 28, 3) := by decide +kernel
theorem dX7_weigh_62 : decode cX7_weigh 62 = .ok (.aload_n 0, 1) := by decide +kernel
theorem dX7_weigh_63 : decode cX7_weigh 63 = .ok (.getfield 11, 3) := by decide +kernel
theorem dX7_weigh_66 : decode cX7_weigh 66 = .ok (.iload 4, 2) := by decide +kernel
theorem dX7_weigh_68 : decode cX7_weigh 68 = .ok (.aaload, 1) := by decide +kernel
theorem dX7_weigh_69 : decode cX7_weigh 69 = .ok (.iload 5, 2) := by decide +kernel
theorem dX7_weigh_71 : decode cX7_weigh 71 = .ok (.aload_n 0, 1) := by decide +kernel
theorem dX7_weigh_72 : decode cX7_weigh 72 = .ok (.aload_n 1, 1) := by decide +kernel
theorem dX7_weigh_73 : decode cX7_weigh 73 = .ok (.iload 4, 2) := by decide +kernel
theorem dX7_weigh_75 : decode cX7_weigh 75 = .ok (.iload 5, 2) := by decide +kernel
theorem dX7_weigh_77 : decode cX7_weigh 77 = .ok (.invokevirtual 28, 3) := by decide +kernel
theorem dX7_weigh_80 : decode cX7_weigh 80 = .ok (.iastore, 1) := by decide +kernel
theorem dX7_weigh_81 : decode cX7_weigh 81 = .ok (.iinc 5 1, 3) := by decide +kernel
theorem dX7_weigh_84 : decode cX7_weigh 84 = .ok (.goto (-28), 3) := by decide +kernel
theorem dX7_weigh_87 : decode cX7_weigh 87 = .ok (.iinc 4 (-1), 3) := by decide +kernel
theorem dX7_weigh_90 : decode cX7_weigh 90 = .ok (.goto (-42), 3) := by decide +kernel
theorem dX7_weigh_93 : decode cX7_weigh 93 = .ok (.aload_n 0, 1) := by decide +kernel
theorem dX7_weigh_94 : decode cX7_weigh 94 = .ok (.getfield 11, 3) := by decide +kernel
theorem dX7_weigh_97 : decode cX7_weigh 97 = .ok (.iconst 0, 1) := by decide +kernel
theorem dX7_weigh_98 : decode cX7_weigh 98 = .ok (.aaload, 1) := by decide +kernel
theorem dX7_weigh_99 : decode cX7_weigh 99 = .ok (.iconst 0, 1) := by decide +kernel
theorem dX7_weigh_100 : decode cX7_weigh 100 = .ok (.iaload, 1) := by decide +kernel
theorem dX7_weigh_101 : decode cX7_weigh 101 = .ok (.ireturn, 1) := by decide +kernel
theorem dX7_mostFrom_0 : decode cX7_mostFrom 0 = .ok (.aload_n 0, 1) := by decide +kernel
theorem dX7_mostFrom_1 : decode cX7_mostFrom 1 = .ok (.getfield 11, 3) := by decide +kernel
theorem dX7_mostFrom_4 : decode cX7_mostFrom 4 = .ok (.iload_n 2, 1) := by decide +kernel
theorem dX7_mostFrom_5 : decode cX7_mostFrom 5 = .ok (.iconst 1, 1) := by decide +kernel
theorem dX7_mostFrom_6 : decode cX7_mostFrom 6 = .ok (.iadd, 1) := by decide +kernel
theorem dX7_mostFrom_7 : decode cX7_mostFrom 7 = .ok (.aaload, 1) := by decide +kernel
theorem dX7_mostFrom_8 : decode cX7_mostFrom 8 = .ok (.iload_n 3, 1) := by decide +kernel
theorem dX7_mostFrom_9 : decode cX7_mostFrom 9 = .ok (.iaload, 1) := by decide +kernel
theorem dX7_mostFrom_10 : decode cX7_mostFrom 10 = .ok (.istore 4, 2) := by decide +kernel
theorem dX7_mostFrom_12 : decode cX7_mostFrom 12 = .ok (.iconst 0, 1) := by decide +kernel
theorem dX7_mostFrom_13 : decode cX7_mostFrom 13 = .ok (.istore 5, 2) := by decide +kernel
theorem dX7_mostFrom_15 : decode cX7_mostFrom 15 = .ok (.iload 5, 2) := by decide +kernel
theorem dX7_mostFrom_17 : decode cX7_mostFrom 17 = .ok (.aload_n 1, 1) := by decide +kernel
theorem dX7_mostFrom_18 : decode cX7_mostFrom 18 = .ok (.getfield 20, 3) := by decide +kernel
theorem dX7_mostFrom_21 : decode cX7_mostFrom 21 = .ok (.if_icmp .ge 45, 3) := by decide +kernel
theorem dX7_mostFrom_24 : decode cX7_mostFrom 24 = .ok (.aload_n 0, 1) := by decide +kernel
theorem dX7_mostFrom_25 : decode cX7_mostFrom 25 = .ok (.aload_n 1, 1) := by decide +kernel
theorem dX7_mostFrom_26 : decode cX7_mostFrom 26 = .ok (.iload_n 2, 1) := by decide +kernel
theorem dX7_mostFrom_27 : decode cX7_mostFrom 27 = .ok (.iload 5, 2) := by decide +kernel
theorem dX7_mostFrom_29 : decode cX7_mostFrom 29 = .ok (.iload_n 3, 1) := by decide +kernel
theorem dX7_mostFrom_30 : decode cX7_mostFrom 30 = .ok (.invokevirtual 32, 3) := by decide +kernel
theorem dX7_mostFrom_33 : decode cX7_mostFrom 33 = .ok (.ifCond .eq 27, 3) := by decide +kernel
theorem dX7_mostFrom_36 : decode cX7_mostFrom 36 = .ok (.iload 4, 2) := by decide +kernel
theorem dX7_mostFrom_38 : decode cX7_mostFrom 38 = .ok (.iconst 1, 1) := by decide +kernel
theorem dX7_mostFrom_39 : decode cX7_mostFrom 39 = .ok (.aload_n 0, 1) := by decide +kernel
theorem dX7_mostFrom_40 : decode cX7_mostFrom 40 = .ok (.getfield 11, 3) := by decide +kernel
theorem dX7_mostFrom_43 : decode cX7_mostFrom 43 = .ok (.iload_n 2, 1) := by decide +kernel
theorem dX7_mostFrom_44 : decode cX7_mostFrom 44 = .ok (.iconst 1, 1) := by decide +kernel
theorem dX7_mostFrom_45 : decode cX7_mostFrom 45 = .ok (.iadd, 1) := by decide +kernel
theorem dX7_mostFrom_46 : decode cX7_mostFrom 46 = .ok (.aaload, 1) := by decide +kernel
theorem dX7_mostFrom_47 : decode cX7_mostFrom 47 = .ok (.iload_n 3, 1) := by decide +kernel
theorem dX7_mostFrom_48 : decode cX7_mostFrom 48 = .ok (.iconst 1, 1) := by decide +kernel
theorem dX7_mostFrom_49 : decode cX7_mostFrom 49 = .ok (.iload 5, 2) := by decide +kernel
theorem dX7_mostFrom_51 : decode cX7_mostFrom 51 = .ok (.ishl, 1) := by decide +kernel
theorem dX7_mostFrom_52 : decode cX7_mostFrom 52 = .ok (.ior, 1) := by decide +kernel
theorem dX7_mostFrom_53 : decode cX7_mostFrom 53 = .ok (.iaload, 1) := by decide +kernel
theorem dX7_mostFrom_54 : decode cX7_mostFrom 54 = .ok (.iadd, 1) := by decide +kernel
theorem dX7_mostFrom_55 : decode cX7_mostFrom 55 = .ok (.invokestatic 36, 3) := by decide +kernel
theorem dX7_mostFrom_58 : decode cX7_mostFrom 58 = .ok (.istore 4, 2) := by decide +kernel
theorem dX7_mostFrom_60 : decode cX7_mostFrom 60 = .ok (.iinc 5 1, 3) := by decide +kernel
theorem dX7_mostFrom_63 : decode cX7_mostFrom 63 = .ok (.goto (-48), 3) := by decide +kernel
theorem dX7_mostFrom_66 : decode cX7_mostFrom 66 = .ok (.iload 4, 2) := by decide +kernel
theorem dX7_mostFrom_68 : decode cX7_mostFrom 68 = .ok (.ireturn, 1) := by decide +kernel
theorem dX7_canHave_0 : decode cX7_canHave 0 = .ok (.iload 4, 2) := by decide +kernel
theorem dX7_canHave_2 : decode cX7_canHave 2 = .ok (.iload_n 3, 1) := by decide +kernel
theorem dX7_canHave_3 : decode cX7_canHave 3 = .ok (.ishr, 1) := by decide +kernel
theorem dX7_canHave_4 : decode cX7_canHave 4 = .ok (.iconst 1, 1) := by decide +kernel
theorem dX7_canHave_5 : decode cX7_canHave 5 = .ok (.iand, 1) := by decide +kernel
theorem dX7_canHave_6 : decode cX7_canHave 6 = .ok (.ifCond .ne 46, 3) := by decide +kernel
theorem dX7_canHave_9 : decode cX7_canHave 9 = .ok (.aload_n 1, 1) := by decide +kernel
theorem dX7_canHave_10 : decode cX7_canHave 10 = .ok (.iload_n 2, 1) := by decide +kernel
theorem dX7_canHave_11 : decode cX7_canHave 11 = .ok (.invokevirtual 42, 3) := by decide +kernel
theorem dX7_canHave_14 : decode cX7_canHave 14 = .ok (.ifCond .ne 38, 3) := by decide +kernel
theorem dX7_canHave_17 : decode cX7_canHave 17 = .ok (.aload_n 1, 1) := by decide +kernel
theorem dX7_canHave_18 : decode cX7_canHave 18 = .ok (.iload_n 3, 1) := by decide +kernel
theorem dX7_canHave_19 : decode cX7_canHave 19 = .ok (.invokevirtual 46, 3) := by decide +kernel
theorem dX7_canHave_22 : decode cX7_canHave 22 = .ok (.ifCond .ne 30, 3) := by decide +kernel
theorem dX7_canHave_25 : decode cX7_canHave 25 = .ok (.aload_n 1, 1) := by decide +kernel
theorem dX7_canHave_26 : decode cX7_canHave 26 = .ok (.getfield 49, 3) := by decide +kernel
theorem dX7_canHave_29 : decode cX7_canHave 29 = .ok (.iload_n 3, 1) := by decide +kernel
theorem dX7_canHave_30 : decode cX7_canHave 30 = .ok (.iaload, 1) := by decide +kernel
theorem dX7_canHave_31 : decode cX7_canHave 31 = .ok (.aload_n 1, 1) := by decide +kernel
theorem dX7_canHave_32 : decode cX7_canHave 32 = .ok (.getfield 53, 3) := by decide +kernel
theorem dX7_canHave_35 : decode cX7_canHave 35 = .ok (.iload_n 2, 1) := by decide +kernel
theorem dX7_canHave_36 : decode cX7_canHave 36 = .ok (.iaload, 1) := by decide +kernel
theorem dX7_canHave_37 : decode cX7_canHave 37 = .ok (.isub, 1) := by decide +kernel
theorem dX7_canHave_38 : decode cX7_canHave 38 = .ok (.invokestatic 56, 3) := by decide +kernel
theorem dX7_canHave_41 : decode cX7_canHave 41 = .ok (.aload_n 0, 1) := by decide +kernel
theorem dX7_canHave_42 : decode cX7_canHave 42 = .ok (.getfield 16, 3) := by decide +kernel
theorem dX7_canHave_45 : decode cX7_canHave 45 = .ok (.if_icmp .gt 7, 3) := by decide +kernel
theorem dX7_canHave_48 : decode cX7_canHave 48 = .ok (.iconst 1, 1) := by decide +kernel
theorem dX7_canHave_49 : decode cX7_canHave 49 = .ok (.goto 4, 3) := by decide +kernel
theorem dX7_canHave_52 : decode cX7_canHave 52 = .ok (.iconst 0, 1) := by decide +kernel
theorem dX7_canHave_53 : decode cX7_canHave 53 = .ok (.ireturn, 1) := by decide +kernel
theorem dX7_choice_0 : decode cX7_choice 0 = .ok (.aload_n 0, 1) := by decide +kernel
theorem dX7_choice_1 : decode cX7_choice 1 = .ok (.getfield 11, 3) := by decide +kernel
theorem dX7_choice_4 : decode cX7_choice 4 = .ok (.iload_n 2, 1) := by decide +kernel
theorem dX7_choice_5 : decode cX7_choice 5 = .ok (.aaload, 1) := by decide +kernel
theorem dX7_choice_6 : decode cX7_choice 6 = .ok (.iload_n 3, 1) := by decide +kernel
theorem dX7_choice_7 : decode cX7_choice 7 = .ok (.iaload, 1) := by decide +kernel
theorem dX7_choice_8 : decode cX7_choice 8 = .ok (.istore 4, 2) := by decide +kernel
theorem dX7_choice_10 : decode cX7_choice 10 = .ok (.aload_n 0, 1) := by decide +kernel
theorem dX7_choice_11 : decode cX7_choice 11 = .ok (.getfield 11, 3) := by decide +kernel
theorem dX7_choice_14 : decode cX7_choice 14 = .ok (.iload_n 2, 1) := by decide +kernel
theorem dX7_choice_15 : decode cX7_choice 15 = .ok (.iconst 1, 1) := by decide +kernel
theorem dX7_choice_16 : decode cX7_choice 16 = .ok (.iadd, 1) := by decide +kernel
theorem dX7_choice_17 : decode cX7_choice 17 = .ok (.aaload, 1) := by decide +kernel
theorem dX7_choice_18 : decode cX7_choice 18 = .ok (.iload_n 3, 1) := by decide +kernel
theorem dX7_choice_19 : decode cX7_choice 19 = .ok (.iaload, 1) := by decide +kernel
theorem dX7_choice_20 : decode cX7_choice 20 = .ok (.iload 4, 2) := by decide +kernel
theorem dX7_choice_22 : decode cX7_choice 22 = .ok (.if_icmp .ne 5, 3) := by decide +kernel
theorem dX7_choice_25 : decode cX7_choice 25 = .ok (.iconst (-1), 1) := by decide +kernel
theorem dX7_choice_26 : decode cX7_choice 26 = .ok (.ireturn, 1) := by decide +kernel
theorem dX7_choice_27 : decode cX7_choice 27 = .ok (.iconst 0, 1) := by decide +kernel
theorem dX7_choice_28 : decode cX7_choice 28 = .ok (.istore 5, 2) := by decide +kernel
theorem dX7_choice_30 : decode cX7_choice 30 = .ok (.iload 5, 2) := by decide +kernel
theorem dX7_choice_32 : decode cX7_choice 32 = .ok (.aload_n 1, 1) := by decide +kernel
theorem dX7_choice_33 : decode cX7_choice 33 = .ok (.getfield 20, 3) := by decide +kernel
theorem dX7_choice_36 : decode cX7_choice 36 = .ok (.if_icmp .ge 46, 3) := by decide +kernel
theorem dX7_choice_39 : decode cX7_choice 39 = .ok (.aload_n 0, 1) := by decide +kernel
theorem dX7_choice_40 : decode cX7_choice 40 = .ok (.aload_n 1, 1) := by decide +kernel
theorem dX7_choice_41 : decode cX7_choice 41 = .ok (.iload_n 2, 1) := by decide +kernel
theorem dX7_choice_42 : decode cX7_choice 42 = .ok (.iload 5, 2) := by decide +kernel
theorem dX7_choice_44 : decode cX7_choice 44 = .ok (.iload_n 3, 1) := by decide +kernel
theorem dX7_choice_45 : decode cX7_choice 45 = .ok (.invokevirtual 32, 3) := by decide +kernel
theorem dX7_choice_48 : decode cX7_choice 48 = .ok (.ifCond .eq 28, 3) := by decide +kernel
theorem dX7_choice_51 : decode cX7_choice 51 = .ok (.iconst 1, 1) := by decide +kernel
theorem dX7_choice_52 : decode cX7_choice 52 = .ok (.aload_n 0, 1) := by decide +kernel
theorem dX7_choice_53 : decode cX7_choice 53 = .ok (.getfield 11, 3) := by decide +kernel
theorem dX7_choice_56 : decode cX7_choice 56 = .ok (.iload_n 2, 1) := by decide +kernel
theorem dX7_choice_57 : decode cX7_choice 57 = .ok (.iconst 1, 1) := by decide +kernel
theorem dX7_choice_58 : decode cX7_choice 58 = .ok (.iadd, 1) := by decide +kernel
theorem dX7_choice_59 : decode cX7_choice 59 = .ok (.aaload, 1) := by decide +kernel
theorem dX7_choice_60 : decode cX7_choice 60 = .ok (.iload_n 3, 1) := by decide +kernel
theorem dX7_choice_61 : decode cX7_choice 61 = .ok (.iconst 1, 1) := by decide +kernel
theorem dX7_choice_62 : decode cX7_choice 62 = .ok (.iload 5, 2) := by decide +kernel
theorem dX7_choice_64 : decode cX7_choice 64 = .ok (.ishl, 1) := by decide +kernel
theorem dX7_choice_65 : decode cX7_choice 65 = .ok (.ior, 1) := by decide +kernel
theorem dX7_choice_66 : decode cX7_choice 66 = .ok (.iaload, 1) := by decide +kernel
theorem dX7_choice_67 : decode cX7_choice 67 = .ok (.iadd, 1) := by decide +kernel
theorem dX7_choice_68 : decode cX7_choice 68 = .ok (.iload 4, 2) := by decide +kernel
theorem dX7_choice_70 : decode cX7_choice 70 = .ok (.if_icmp .ne 6, 3) := by decide +kernel
theorem dX7_choice_73 : decode cX7_choice 73 = .ok (.iload 5, 2) := by decide +kernel
theorem dX7_choice_75 : decode cX7_choice 75 = .ok (.ireturn, 1) := by decide +kernel
theorem dX7_choice_76 : decode cX7_choice 76 = .ok (.iinc 5 1, 3) := by decide +kernel
theorem dX7_choice_79 : decode cX7_choice 79 = .ok (.goto (-49), 3) := by decide +kernel
theorem dX7_choice_82 : decode cX7_choice 82 = .ok (.iconst (-1), 1) := by decide +kernel
theorem dX7_choice_83 : decode cX7_choice 83 = .ok (.ireturn, 1) := by decide +kernel
theorem dX8_init_0 : decode cX8_init 0 = .ok (.aload_n 0, 1) := by decide +kernel
theorem dX8_init_1 : decode cX8_init 1 = .ok (.invokespecial 3, 3) := by decide +kernel
theorem dX8_init_4 : decode cX8_init 4 = .ok (.aload_n 0, 1) := by decide +kernel
theorem dX8_init_5 : decode cX8_init 5 = .ok (.bipush 20, 2) := by decide +kernel
theorem dX8_init_7 : decode cX8_init 7 = .ok (.newarray .int, 2) := by decide +kernel
theorem dX8_init_9 : decode cX8_init 9 = .ok (.putfield 9, 3) := by decide +kernel
theorem dX8_init_12 : decode cX8_init 12 = .ok (.aload_n 0, 1) := by decide +kernel
theorem dX8_init_13 : decode cX8_init 13 = .ok (.iconst 4, 1) := by decide +kernel
theorem dX8_init_14 : decode cX8_init 14 = .ok (.putfield 15, 3) := by decide +kernel
theorem dX8_init_17 : decode cX8_init 17 = .ok (.aload_n 0, 1) := by decide +kernel
theorem dX8_init_18 : decode cX8_init 18 = .ok (.iconst 0, 1) := by decide +kernel
theorem dX8_init_19 : decode cX8_init 19 = .ok (.putfield 19, 3) := by decide +kernel
theorem dX8_init_22 : decode cX8_init 22 = .ok (.aload_n 0, 1) := by decide +kernel
theorem dX8_init_23 : decode cX8_init 23 = .ok (.iconst 1, 1) := by decide +kernel
theorem dX8_init_24 : decode cX8_init 24 = .ok (.putfield 22, 3) := by decide +kernel
theorem dX8_init_27 : decode cX8_init 27 = .ok (.return_, 1) := by decide +kernel
theorem dX8_become_0 : decode cX8_become 0 = .ok (.aload_n 0, 1) := by decide +kernel
theorem dX8_become_1 : decode cX8_become 1 = .ok (.aload_n 1, 1) := by decide +kernel
theorem dX8_become_2 : decode cX8_become 2 = .ok (.getfield 25, 3) := by decide +kernel
theorem dX8_become_5 : decode cX8_become 5 = .ok (.putfield 15, 3) := by decide +kernel
theorem dX8_become_8 : decode cX8_become 8 = .ok (.aload_n 0, 1) := by decide +kernel
theorem dX8_become_9 : decode cX8_become 9 = .ok (.iconst 0, 1) := by decide +kernel
theorem dX8_become_10 : decode cX8_become 10 = .ok (.putfield 19, 3) := by decide +kernel
theorem dX8_become_13 : decode cX8_become 13 = .ok (.iconst 0, 1) := by decide +kernel
theorem dX8_become_14 : decode cX8_become 14 = .ok (.istore_n 2, 1) := by decide +kernel
theorem dX8_become_15 : decode cX8_become 15 = .ok (.iload_n 2, 1) := by decide +kernel
theorem dX8_become_16 : decode cX8_become 16 = .ok (.aload_n 0, 1) := by decide +kernel
theorem dX8_become_17 : decode cX8_become 17 = .ok (.getfield 15, 3) := by decide +kernel
theorem dX8_become_20 : decode cX8_become 20 = .ok (.if_icmp .ge 35, 3) := by decide +kernel
theorem dX8_become_23 : decode cX8_become 23 = .ok (.aload_n 0, 1) := by decide +kernel
theorem dX8_become_24 : decode cX8_become 24 = .ok (.dup, 1) := by decide +kernel
theorem dX8_become_25 : decode cX8_become 25 = .ok (.getfield 19, 3) := by decide +kernel
theorem dX8_become_28 : decode cX8_become 28 = .ok (.aload_n 1, 1) := by decide +kernel
theorem dX8_become_29 : decode cX8_become 29 = .ok (.iload_n 2, 1) := by decide +kernel
theorem dX8_become_30 : decode cX8_become 30 = .ok (.invokevirtual 30, 3) := by decide +kernel
theorem dX8_become_33 : decode cX8_become 33 = .ok (.bipush 99, 2) := by decide +kernel
theorem dX8_become_35 : decode cX8_become 35 = .ok (.if_icmp .ne 9, 3) := by decide +kernel
theorem dX8_become_38 : decode cX8_become 38 = .ok (.iconst 1, 1) := by decide +kernel
theorem dX8_become_39 : decode cX8_become 39 = .ok (.iload_n 2, 1) := by decide +kernel
theorem dX8_become_40 : decode cX8_become 40 = .ok (.ishl, 1) := by decide +kernel
theorem dX8_become_41 : decode cX8_become 41 = .ok (.goto 4, 3) := by decide +kernel
theorem dX8_become_44 : decode cX8_become 44 = .ok (.iconst 0, 1) := by decide +kernel
theorem dX8_become_45 : decode cX8_become 45 = .ok (.ior, 1) := by decide +kernel
theorem dX8_become_46 : decode cX8_become 46 = .ok (.putfield 19, 3) := by decide +kernel
theorem dX8_become_49 : decode cX8_become 49 = .ok (.iinc 2 1, 3) := by decide +kernel
theorem dX8_become_52 : decode cX8_become 52 = .ok (.goto (-37), 3) := by decide +kernel
theorem dX8_become_55 : decode cX8_become 55 = .ok (.return_, 1) := by decide +kernel
theorem dX8_takeWeather_0 : decode cX8_takeWeather 0 = .ok (.aload_n 0, 1) := by decide +kernel
theorem dX8_takeWeather_1 : decode cX8_takeWeather 1 = .ok (.aload_n 1, 1) := by decide +kernel
theorem dX8_takeWeather_2 : decode cX8_takeWeather 2 = .ok (.getfield 25, 3) := by decide +kernel
theorem dX8_takeWeather_5 : decode cX8_takeWeather 5 = .ok (.putfield 22, 3) := by decide +kernel
theorem dX8_takeWeather_8 : decode cX8_takeWeather 8 = .ok (.iconst 0, 1) := by decide +kernel
theorem dX8_takeWeather_9 : decode cX8_takeWeather 9 = .ok (.istore_n 2, 1) := by decide +kernel
theorem dX8_takeWeather_10 : decode cX8_takeWeather 10 = .ok (.iload_n 2, 1) := by decide +kernel
theorem dX8_takeWeather_11 : decode cX8_takeWeather 11 = .ok (.aload_n 0, 1) := by decide +kernel
theorem dX8_takeWeather_12 : decode cX8_takeWeather 12 = .ok (.getfield 22, 3) := by decide +kernel
theorem dX8_takeWeather_15 : decode cX8_takeWeather 15 = .ok (.if_icmp .ge 23, 3) := by decide +kernel
theorem dX8_takeWeather_18 : decode cX8_takeWeather 18 = .ok (.aload_n 0, 1) := by decide +kernel
theorem dX8_takeWeather_19 : decode cX8_takeWeather 19 = .ok (.getfield 9, 3) := by decide +kernel
theorem dX8_takeWeather_22 : decode cX8_takeWeather 22 = .ok (.iload_n 2, 1) := by decide +kernel
theorem dX8_takeWeather_23 : decode cX8_takeWeather 23 = .ok (.aload_n 1, 1) := by decide +kernel
theorem dX8_takeWeather_24 : decode cX8_takeWeather 24 = .ok (.iload_n 2, 1) := by decide +kernel
theorem dX8_takeWeather_25 : decode cX8_takeWeather 25 = .ok (.invokevirtual 30, 3) := by decide +kernel
theorem dX8_takeWeather_28 : decode cX8_takeWeather 28 = .ok (.bipush 48, 2) := by decide +kernel
theorem dX8_takeWeather_30 : decode cX8_takeWeather 30 = .ok (.isub, 1) := by decide +kernel
theorem dX8_takeWeather_31 : decode cX8_takeWeather 31 = .ok (.iastore, 1) := by decide +kernel
theorem dX8_takeWeather_32 : decode cX8_takeWeather 32 = .ok (.iinc 2 1, 3) := by decide +kernel
theorem dX8_takeWeather_35 : decode cX8_takeWeather 35 = .ok (.goto (-25), 3) := by decide +kernel
theorem dX8_takeWeather_38 : decode cX8_takeWeather 38 = .ok (.return_, 1) := by decide +kernel
theorem dX8_gate_0 : decode cX8_gate 0 = .ok (.aload_n 0, 1) := by decide +kernel
theorem dX8_gate_1 : decode cX8_gate 1 = .ok (.getfield 15, 3) := by decide +kernel
theorem dX8_gate_4 : decode cX8_gate 4 = .ok (.iconst 1, 1) := by decide +kernel
theorem dX8_gate_5 : decode cX8_gate 5 = .ok (.isub, 1) := by decide +kernel
theorem dX8_gate_6 : decode cX8_gate 6 = .ok (.ireturn, 1) := by decide +kernel
theorem dX8_putOnStreet_0 : decode cX8_putOnStreet 0 = .ok (.iconst 0, 1) := by decide +kernel
theorem dX8_putOnStreet_1 : decode cX8_putOnStreet 1 = .ok (.iload_n 1, 1) := by decide +kernel
theorem dX8_putOnStreet_2 : decode cX8_putOnStreet 2 = .ok (.aload_n 0, 1) := by decide +kernel
theorem dX8_putOnStreet_3 : decode cX8_putOnStreet 3 = .ok (.invokevirtual 34, 3) := by decide +kernel
theorem dX8_putOnStreet_6 : decode cX8_putOnStreet 6 = .ok (.iconst 1, 1) := by decide +kernel
theorem dX8_putOnStreet_7 : decode cX8_putOnStreet 7 = .ok (.isub, 1) := by decide +kernel
theorem dX8_putOnStreet_8 : decode cX8_putOnStreet 8 = .ok (.invokestatic 38, 3) := by decide +kernel
theorem dX8_putOnStreet_11 : decode cX8_putOnStreet 11 = .ok (.invokestatic 44, 3) := by decide +kernel
theorem dX8_putOnStreet_14 : decode cX8_putOnStreet 14 = .ok (.ireturn, 1) := by decide +kernel
theorem dX8_weatherAt_0 : decode cX8_weatherAt 0 = .ok (.aload_n 0, 1) := by decide +kernel
theorem dX8_weatherAt_1 : decode cX8_weatherAt 1 = .ok (.getfield 22, 3) := by decide +kernel
theorem dX8_weatherAt_4 : decode cX8_weatherAt 4 = .ok (.iconst 1, 1) := by decide +kernel
theorem dX8_weatherAt_5 : decode cX8_weatherAt 5 = .ok (.if_icmp .lt 7, 3) := by decide +kernel
theorem dX8_weatherAt_8 : decode cX8_weatherAt 8 = .ok (.iload_n 1, 1) := by decide +kernel
theorem dX8_weatherAt_9 : decode cX8_weatherAt 9 = .ok (.ifCond .ge 7, 3) := by decide +kernel
theorem dX8_weatherAt_12 : decode cX8_weatherAt 12 = .ok (.iconst 0, 1) := by decide +kernel
theorem dX8_weatherAt_13 : decode cX8_weatherAt 13 = .ok (.goto 14, 3) := by decide +kernel
theorem dX8_weatherAt_16 : decode cX8_weatherAt 16 = .ok (.aload_n 0, 1) := by decide +kernel
theorem dX8_weatherAt_17 : decode cX8_weatherAt 17 = .ok (.getfield 9, 3) := by decide +kernel
theorem dX8_weatherAt_20 : decode cX8_weatherAt 20 = .ok (.iload_n 1, 1) := by decide +kernel
theorem dX8_weatherAt_21 : decode cX8_weatherAt 21 = .ok (.aload_n 0, 1) := by decide +kernel
theorem dX8_weatherAt_22 : decode cX8_weatherAt 22 = .ok (.getfield 22, 3) := by decide +kernel
theorem dX8_weatherAt_25 : decode cX8_weatherAt 25 = .ok (.irem, 1) := by decide +kernel
theorem dX8_weatherAt_26 : decode cX8_weatherAt 26 = .ok (.iaload, 1) := by decide +kernel
theorem dX8_weatherAt_27 : decode cX8_weatherAt 27 = .ok (.ireturn, 1) := by decide +kernel
theorem dX8_isCorner_0 : decode cX8_isCorner 0 = .ok (.aload_n 0, 1) := by decide +kernel
theorem dX8_isCorner_1 : decode cX8_isCorner 1 = .ok (.getfield 19, 3) := by decide +kernel
theorem dX8_isCorner_4 : decode cX8_isCorner 4 = .ok (.iload_n 1, 1) := by decide +kernel
theorem dX8_isCorner_5 : decode cX8_isCorner 5 = .ok (.ishr, 1) := by decide +kernel
theorem dX8_isCorner_6 : decode cX8_isCorner 6 = .ok (.iconst 1, 1) := by decide +kernel
theorem dX8_isCorner_7 : decode cX8_isCorner 7 = .ok (.iand, 1) := by decide +kernel
theorem dX8_isCorner_8 : decode cX8_isCorner 8 = .ok (.iconst 1, 1) := by decide +kernel
theorem dX8_isCorner_9 : decode cX8_isCorner 9 = .ok (.if_icmp .ne 7, 3) := by decide +kernel
theorem dX8_isCorner_12 : decode cX8_isCorner 12 = .ok (.iconst 1, 1) := by decide +kernel
theorem dX8_isCorner_13 : decode cX8_isCorner 13 = .ok (.goto 4, 3) := by decide +kernel
theorem dX8_isCorner_16 : decode cX8_isCorner 16 = .ok (.iconst 0, 1) := by decide +kernel
theorem dX8_isCorner_17 : decode cX8_isCorner 17 = .ok (.ireturn, 1) := by decide +kernel
theorem dX9_init_0 : decode cX9_init 0 = .ok (.aload_n 0, 1) := by decide +kernel
theorem dX9_init_1 : decode cX9_init 1 = .ok (.invokespecial 3, 3) := by decide +kernel
theorem dX9_init_4 : decode cX9_init 4 = .ok (.aload_n 0, 1) := by decide +kernel
theorem dX9_init_5 : decode cX9_init 5 = .ok (.bipush 80, 2) := by decide +kernel
theorem dX9_init_7 : decode cX9_init 7 = .ok (.newarray .int, 2) := by decide +kernel
theorem dX9_init_9 : decode cX9_init 9 = .ok (.putfield 9, 3) := by decide +kernel
theorem dX9_init_12 : decode cX9_init 12 = .ok (.aload_n 0, 1) := by decide +kernel
theorem dX9_init_13 : decode cX9_init 13 = .ok (.iconst 0, 1) := by decide +kernel
theorem dX9_init_14 : decode cX9_init 14 = .ok (.putfield 15, 3) := by decide +kernel
theorem dX9_init_17 : decode cX9_init 17 = .ok (.aload_n 0, 1) := by decide +kernel
theorem dX9_init_18 : decode cX9_init 18 = .ok (.iconst 0, 1) := by decide +kernel
theorem dX9_init_19 : decode cX9_init 19 = .ok (.putfield 19, 3) := by decide +kernel
theorem dX9_init_22 : decode cX9_init 22 = .ok (.aload_n 0, 1) := by decide +kernel
theorem dX9_init_23 : decode cX9_init 23 = .ok (.iconst 0, 1) := by decide +kernel
theorem dX9_init_24 : decode cX9_init 24 = .ok (.putfield 22, 3) := by decide +kernel
theorem dX9_init_27 : decode cX9_init 27 = .ok (.return_, 1) := by decide +kernel
theorem dX9_addFour_0 : decode cX9_addFour 0 = .ok (.aload_n 0, 1) := by decide +kernel
theorem dX9_addFour_1 : decode cX9_addFour 1 = .ok (.getfield 15, 3) := by decide +kernel
theorem dX9_addFour_4 : decode cX9_addFour 4 = .ok (.iconst 4, 1) := by decide +kernel
theorem dX9_addFour_5 : decode cX9_addFour 5 = .ok (.iadd, 1) := by decide +kernel
theorem dX9_addFour_6 : decode cX9_addFour 6 = .ok (.bipush 80, 2) := by decide +kernel
theorem dX9_addFour_8 : decode cX9_addFour 8 = .ok (.if_icmp .le 5, 3) := by decide +kernel
theorem dX9_addFour_11 : decode cX9_addFour 11 = .ok (.iconst 0, 1) := by decide +kernel
theorem dX9_addFour_12 : decode cX9_addFour 12 = .ok (.ireturn, 1) := by decide +kernel
theorem dX9_addFour_13 : decode cX9_addFour 13 = .ok (.bipush 24, 2) := by decide +kernel
theorem dX9_addFour_15 : decode cX9_addFour 15 = .ok (.istore_n 2, 1) := by decide +kernel
theorem dX9_addFour_16 : decode cX9_addFour 16 = .ok (.iload_n 2, 1) := by decide +kernel
theorem dX9_addFour_17 : decode cX9_addFour 17 = .ok (.ifCond .lt 35, 3) := by decide +kernel
theorem dX9_addFour_20 : decode cX9_addFour 20 = .ok (.aload_n 0, 1) := by decide +kernel
theorem dX9_addFour_21 : decode cX9_addFour 21 = .ok (.getfield 9, 3) := by decide +kernel
theorem dX9_addFour_24 : decode cX9_addFour 24 = .ok (.aload_n 0, 1) := by decide +kernel
theorem dX9_addFour_25 : decode cX9_addFour 25 = .ok (.getfield 15, 3) := by decide +kernel
theorem dX9_addFour_28 : decode cX9_addFour 28 = .ok (.iload_n 1, 1) := by decide +kernel
theorem dX9_addFour_29 : decode cX9_addFour 29 = .ok (.iload_n 2, 1) := by decide +kernel
theorem dX9_addFour_30 : decode cX9_addFour 30 = .ok (.iushr, 1) := by decide +kernel
theorem dX9_addFour_31 : decode cX9_addFour 31 = .ok (.sipush 255, 3) := by decide +kernel
theorem dX9_addFour_34 : decode cX9_addFour 34 = .ok (.iand, 1) := by decide +kernel
theorem dX9_addFour_35 : decode cX9_addFour 35 = .ok (.iastore, 1) := by decide +kernel
theorem dX9_addFour_36 : decode cX9_addFour 36 = .ok (.aload_n 0, 1) := by decide +kernel
theorem dX9_addFour_37 : decode cX9_addFour 37 = .ok (.dup, 1) := by decide +kernel
theorem dX9_addFour_38 : decode cX9_addFour 38 = .ok (.getfield 15, 3) := by decide +kernel
theorem dX9_addFour_41 : decode cX9_addFour 41 = .ok (.iconst 1, 1) := by decide +kernel
theorem dX9_addFour_42 : decode cX9_addFour 42 = .ok (.iadd, 1) := by decide +kernel
theorem dX9_addFour_43 : decode cX9_addFour 43 = .ok (.putfield 15, 3) := by decide +kernel
theorem dX9_addFour_46 : decode cX9_addFour 46 = .ok (.iinc 2 (-8), 3) := by decide +kernel
theorem dX9_addFour_49 : decode cX9_addFour 49 = .ok (.goto (-33), 3) := by decide +kernel
theorem dX9_addFour_52 : decode cX9_addFour 52 = .ok (.iconst 1, 1) := by decide +kernel
theorem dX9_addFour_53 : decode cX9_addFour 53 = .ok (.ireturn, 1) := by decide +kernel
theorem dX9_cutTo_0 : decode cX9_cutTo 0 = .ok (.iload_n 1, 1) := by decide +kernel
theorem dX9_cutTo_1 : decode cX9_cutTo 1 = .ok (.ifCond .lt 11, 3) := by decide +kernel
theorem dX9_cutTo_4 : decode cX9_cutTo 4 = .ok (.iload_n 1, 1) := by decide +kernel
theorem dX9_cutTo_5 : decode cX9_cutTo 5 = .ok (.aload_n 0, 1) := by decide +kernel
theorem dX9_cutTo_6 : decode cX9_cutTo 6 = .ok (.getfield 15, 3) := by decide +kernel
theorem dX9_cutTo_9 : decode cX9_cutTo 9 = .ok (.if_icmp .le 5, 3) := by decide +kernel
theorem dX9_cutTo_12 : decode cX9_cutTo 12 = .ok (.iconst 0, 1) := by decide +kernel
theorem dX9_cutTo_13 : decode cX9_cutTo 13 = .ok (.ireturn, 1) := by decide +kernel
theorem dX9_cutTo_14 : decode cX9_cutTo 14 = .ok (.aload_n 0, 1) := by decide +kernel
theorem dX9_cutTo_15 : decode cX9_cutTo 15 = .ok (.iload_n 1, 1) := by decide +kernel
theorem dX9_cutTo_16 : decode cX9_cutTo 16 = .ok (.putfield 15, 3) := by decide +kernel
theorem dX9_cutTo_19 : decode cX9_cutTo 19 = .ok (.iconst 1, 1) := by decide +kernel
theorem dX9_cutTo_20 : decode cX9_cutTo 20 = .ok (.ireturn, 1) := by decide +kernel
theorem dX9_clear_0 : decode cX9_clear 0 = .ok (.aload_n 0, 1) := by decide +kernel
theorem dX9_clear_1 : decode cX9_clear 1 = .ok (.iconst 0, 1) := by decide +kernel
theorem dX9_clear_2 : decode cX9_clear 2 = .ok (.putfield 15, 3) := by decide +kernel
theorem dX9_clear_5 : decode cX9_clear 5 = .ok (.return_, 1) := by decide +kernel
theorem dX9_isEmpty_0 : decode cX9_isEmpty 0 = .ok (.aload_n 0, 1) := by decide +kernel
theorem dX9_isEmpty_1 : decode cX9_isEmpty 1 = .ok (.getfield 15, 3) := by decide +kernel
theorem dX9_isEmpty_4 : decode cX9_isEmpty 4 = .ok (.ifCond .ne 7, 3) := by decide +kernel
theorem dX9_isEmpty_7 : decode cX9_isEmpty 7 = .ok (.iconst 1, 1) := by decide +kernel
theorem dX9_isEmpty_8 : decode cX9_isEmpty 8 = .ok (.goto 4, 3) := by decide +kernel
theorem dX9_isEmpty_11 : decode cX9_isEmpty 11 = .ok (.iconst 0, 1) := by decide +kernel
theorem dX9_isEmpty_12 : decode cX9_isEmpty 12 = .ok (.ireturn, 1) := by decide +kernel
theorem dX9_signAt_0 : decode cX9_signAt 0 = .ok (.iload_n 1, 1) := by decide +kernel
theorem dX9_signAt_1 : decode cX9_signAt 1 = .ok (.ifCond .lt 20, 3) := by decide +kernel
theorem dX9_signAt_4 : decode cX9_signAt 4 = .ok (.iload_n 1, 1) := by decide +kernel
theorem dX9_signAt_5 : decode cX9_signAt 5 = .ok (.aload_n 0, 1) := by decide +kernel
theorem dX9_signAt_6 : decode cX9_signAt 6 = .ok (.getfield 15, 3) := by decide +kernel
theorem dX9_signAt_9 : decode cX9_signAt 9 = .ok (.if_icmp .ge 12, 3) := by decide +kernel
theorem dX9_signAt_12 : decode cX9_signAt 12 = .ok (.aload_n 0, 1) := by decide +kernel
theorem dX9_signAt_13 : decode cX9_signAt 13 = .ok (.getfield 9, 3) := by decide +kernel
theorem dX9_signAt_16 : decode cX9_signAt 16 = .ok (.iload_n 1, 1) := by decide +kernel
theorem dX9_signAt_17 : decode cX9_signAt 17 = .ok (.iaload, 1) := by decide +kernel
theorem dX9_signAt_18 : decode cX9_signAt 18 = .ok (.goto 4, 3) := by decide +kernel
theorem dX9_signAt_21 : decode cX9_signAt 21 = .ok (.iconst (-1), 1) := by decide +kernel
theorem dX9_signAt_22 : decode cX9_signAt 22 = .ok (.ireturn, 1) := by decide +kernel
theorem dX9_open_0 : decode cX9_open 0 = .ok (.aload_n 0, 1) := by decide +kernel
theorem dX9_open_1 : decode cX9_open 1 = .ok (.iconst 0, 1) := by decide +kernel
theorem dX9_open_2 : decode cX9_open 2 = .ok (.putfield 19, 3) := by decide +kernel
theorem dX9_open_5 : decode cX9_open 5 = .ok (.aload_n 0, 1) := by decide +kernel
theorem dX9_open_6 : decode cX9_open 6 = .ok (.aload_n 0, 1) := by decide +kernel
theorem dX9_open_7 : decode cX9_open 7 = .ok (.getfield 15, 3) := by decide +kernel
theorem dX9_open_10 : decode cX9_open 10 = .ok (.iload_n 1, 1) := by decide +kernel
theorem dX9_open_11 : decode cX9_open 11 = .ok (.invokestatic 25, 3) := by decide +kernel
theorem dX9_open_14 : decode cX9_open 14 = .ok (.putfield 22, 3) := by decide +kernel
theorem dX9_open_17 : decode cX9_open 17 = .ok (.return_, 1) := by decide +kernel
theorem dX9_look_0 : decode cX9_look 0 = .ok (.aload_n 0, 1) := by decide +kernel
theorem dX9_look_1 : decode cX9_look 1 = .ok (.getfield 19, 3) := by decide +kernel
theorem dX9_look_4 : decode cX9_look 4 = .ok (.aload_n 0, 1) := by decide +kernel
theorem dX9_look_5 : decode cX9_look 5 = .ok (.getfield 22, 3) := by decide +kernel
theorem dX9_look_8 : decode cX9_look 8 = .ok (.if_icmp .ge 15, 3) := by decide +kernel
theorem dX9_look_11 : decode cX9_look 11 = .ok (.aload_n 0, 1) := by decide +kernel
theorem dX9_look_12 : decode cX9_look 12 = .ok (.getfield 9, 3) := by decide +kernel
theorem dX9_look_15 : decode cX9_look 15 = .ok (.aload_n 0, 1) := by decide +kernel
theorem dX9_look_16 : decode cX9_look 16 = .ok (.getfield 19, 3) := by decide +kernel
theorem dX9_look_19 : decode cX9_look 19 = .ok (.iaload, 1) := by decide +kernel
theorem dX9_look_20 : decode cX9_look 20 = .ok (.goto 4, 3) := by decide +kernel
theorem dX9_look_23 : decode cX9_look 23 = .ok (.iconst (-1), 1) := by decide +kernel
theorem dX9_look_24 : decode cX9_look 24 = .ok (.ireturn, 1) := by decide +kernel
theorem dX9_pass_0 : decode cX9_pass 0 = .ok (.aload_n 0, 1) := by decide +kernel
theorem dX9_pass_1 : decode cX9_pass 1 = .ok (.getfield 19, 3) := by decide +kernel
theorem dX9_pass_4 : decode cX9_pass 4 = .ok (.aload_n 0, 1) := by decide +kernel
theorem dX9_pass_5 : decode cX9_pass 5 = .ok (.getfield 22, 3) := by decide +kernel
theorem dX9_pass_8 : decode cX9_pass 8 = .ok (.if_icmp .ge 13, 3) := by decide +kernel
theorem dX9_pass_11 : decode cX9_pass 11 = .ok (.aload_n 0, 1) := by decide +kernel
theorem dX9_pass_12 : decode cX9_pass 12 = .ok (.dup, 1) := by decide +kernel
theorem dX9_pass_13 : decode cX9_pass 13 = .ok (.getfield 19, 3) := by decide +kernel
theorem dX9_pass_16 : decode cX9_pass 16 = .ok (.iconst 1, 1) := by decide +kernel
theorem dX9_pass_17 : decode cX9_pass 17 = .ok (.iadd, 1) := by decide +kernel
theorem dX9_pass_18 : decode cX9_pass 18 = .ok (.putfield 19, 3) := by decide +kernel
theorem dX9_pass_21 : decode cX9_pass 21 = .ok (.return_, 1) := by decide +kernel
theorem dX9_back_0 : decode cX9_back 0 = .ok (.aload_n 0, 1) := by decide +kernel
theorem dX9_back_1 : decode cX9_back 1 = .ok (.getfield 19, 3) := by decide +kernel
theorem dX9_back_4 : decode cX9_back 4 = .ok (.ifCond .le 13, 3) := by decide +kernel
theorem dX9_back_7 : decode cX9_back 7 = .ok (.aload_n 0, 1) := by decide +kernel
theorem dX9_back_8 : decode cX9_back 8 = .ok (.dup, 1) := by decide +kernel
theorem dX9_back_9 : decode cX9_back 9 = .ok (.getfield 19, 3) := by decide +kernel
theorem dX9_back_12 : decode cX9_back 12 = .ok (.iconst 1, 1) := by decide +kernel
theorem dX9_back_13 : decode cX9_back 13 = .ok (.isub, 1) := by decide +kernel
theorem dX9_back_14 : decode cX9_back 14 = .ok (.putfield 19, 3) := by decide +kernel
theorem dX9_back_17 : decode cX9_back 17 = .ok (.return_, 1) := by decide +kernel
theorem dX9_skip_0 : decode cX9_skip 0 = .ok (.aload_n 0, 1) := by decide +kernel
theorem dX9_skip_1 : decode cX9_skip 1 = .ok (.invokevirtual 31, 3) := by decide +kernel
theorem dX9_skip_4 : decode cX9_skip 4 = .ok (.iload_n 1, 1) := by decide +kernel
theorem dX9_skip_5 : decode cX9_skip 5 = .ok (.if_icmp .eq 5, 3) := by decide +kernel
theorem dX9_skip_8 : decode cX9_skip 8 = .ok (.iconst 0, 1) := by decide +kernel
theorem dX9_skip_9 : decode cX9_skip 9 = .ok (.ireturn, 1) := by decide +kernel
theorem dX9_skip_10 : decode cX9_skip 10 = .ok (.aload_n 0, 1) := by decide +kernel
theorem dX9_skip_11 : decode cX9_skip 11 = .ok (.invokevirtual 35, 3) := by decide +kernel
theorem dX9_skip_14 : decode cX9_skip 14 = .ok (.iconst 1, 1) := by decide +kernel
theorem dX9_skip_15 : decode cX9_skip 15 = .ok (.ireturn, 1) := by decide +kernel
theorem dX9_digit_0 : decode cX9_digit 0 = .ok (.aload_n 0, 1) := by decide +kernel
theorem dX9_digit_1 : decode cX9_digit 1 = .ok (.invokevirtual 31, 3) := by decide +kernel
theorem dX9_digit_4 : decode cX9_digit 4 = .ok (.istore_n 1, 1) := by decide +kernel
theorem dX9_digit_5 : decode cX9_digit 5 = .ok (.iload_n 1, 1) := by decide +kernel
theorem dX9_digit_6 : decode cX9_digit 6 = .ok (.bipush 48, 2) := by decide +kernel
theorem dX9_digit_8 : decode cX9_digit 8 = .ok (.if_icmp .lt 9, 3) := by decide +kernel
theorem dX9_digit_11 : decode cX9_digit 11 = .ok (.iload_n 1, 1) := by decide +kernel
theorem dX9_digit_12 : decode cX9_digit 12 = .ok (.bipush 57, 2) := by decide +kernel
theorem dX9_digit_14 : decode cX9_digit 14 = .ok (.if_icmp .le 5, 3) := by decide +kernel
theorem dX9_digit_17 : decode cX9_digit 17 = .ok (.iconst (-1), 1) := by decide +kernel
theorem dX9_digit_18 : decode cX9_digit 18 = .ok (.ireturn, 1) := by decide +kernel
theorem dX9_digit_19 : decode cX9_digit 19 = .ok (.aload_n 0, 1) := by decide +kernel
theorem dX9_digit_20 : decode cX9_digit 20 = .ok (.invokevirtual 35, 3) := by decide +kernel
theorem dX9_digit_23 : decode cX9_digit 23 = .ok (.iload_n 1, 1) := by decide +kernel
theorem dX9_digit_24 : decode cX9_digit 24 = .ok (.bipush 48, 2) := by decide +kernel
theorem dX9_digit_26 : decode cX9_digit 26 = .ok (.isub, 1) := by decide +kernel
theorem dX9_digit_27 : decode cX9_digit 27 = .ok (.ireturn, 1) := by decide +kernel
theorem dX9_number_0 : decode cX9_number 0 = .ok (.aload_n 0, 1) := by decide +kernel
theorem dX9_number_1 : decode cX9_number 1 = .ok (.invokevirtual 38, 3) := by decide +kernel
theorem dX9_number_4 : decode cX9_number 4 = .ok (.istore_n 2, 1) := by decide +kernel
theorem dX9_number_5 : decode cX9_number 5 = .ok (.iload_n 2, 1) := by decide +kernel
theorem dX9_number_6 : decode cX9_number 6 = .ok (.istore_n 3, 1) := by decide +kernel
theorem dX9_number_7 : decode cX9_number 7 = .ok (.iconst 1, 1) := by decide +kernel
theorem dX9_number_8 : decode cX9_number 8 = .ok (.istore 4, 2) := by decide +kernel
theorem dX9_number_10 : decode cX9_number 10 = .ok (.iload 4, 2) := by decide +kernel
theorem dX9_number_12 : decode cX9_number 12 = .ok (.iload_n 1, 1) := by decide +kernel
theorem dX9_number_13 : decode cX9_number 13 = .ok (.if_icmp .ge 35, 3) := by decide +kernel
theorem dX9_number_16 : decode cX9_number 16 = .ok (.iload_n 3, 1) := by decide +kernel
theorem dX9_number_17 : decode cX9_number 17 = .ok (.iconst (-1), 1) := by decide +kernel
theorem dX9_number_18 : decode cX9_number 18 = .ok (.if_icmp .eq 30, 3) := by decide +kernel
theorem dX9_number_21 : decode cX9_number 21 = .ok (.aload_n 0, 1) := by decide +kernel
theorem dX9_number_22 : decode cX9_number 22 = .ok (.invokevirtual 38, 3) := by decide +kernel
theorem dX9_number_25 : decode cX9_number 25 = .ok (.istore_n 3, 1) := by decide +kernel
theorem dX9_number_26 : decode cX9_number 26 = .ok (.iload_n 3, 1) := by decide +kernel
theorem dX9_number_27 : decode cX9_number 27 = .ok (.iconst (-1), 1) := by decide +kernel
theorem dX9_number_28 : decode cX9_number 28 = .ok (.if_icmp .ne 7, 3) := by decide +kernel
theorem dX9_number_31 : decode cX9_number 31 = .ok (.iload_n 2, 1) := by decide +kernel
theorem dX9_number_32 : decode cX9_number 32 = .ok (.goto 9, 3) := by decide +kernel
theorem dX9_number_35 : decode cX9_number 35 = .ok (.iload_n 2, 1) := by decide +kernel
theorem dX9_number_36 : decode cX9_number 36 = .ok (.bipush 10, 2) := by decide +kernel
theorem dX9_number_38 : decode cX9_number 38 = .ok (.imul, 1) := by decide +kernel
theorem dX9_number_39 : decode cX9_number 39 = .ok (.iload_n 3, 1) := by decide +kernel
theorem dX9_number_40 : decode cX9_number 40 = .ok (.iadd, 1) := by decide +kernel
theorem dX9_number_41 : decode cX9_number 41 = .ok (.istore_n 2, 1) := by decide +kernel
theorem dX9_number_42 : decode cX9_number 42 = .ok (.iinc 4 1, 3) := by decide +kernel
theorem dX9_number_45 : decode cX9_number 45 = .ok (.goto (-35), 3) := by decide +kernel
theorem dX9_number_48 : decode cX9_number 48 = .ok (.iload_n 2, 1) := by decide +kernel
theorem dX9_number_49 : decode cX9_number 49 = .ok (.ireturn, 1) := by decide +kernel
theorem dX9_isRead_0 : decode cX9_isRead 0 = .ok (.aload_n 0, 1) := by decide +kernel
theorem dX9_isRead_1 : decode cX9_isRead 1 = .ok (.getfield 19, 3) := by decide +kernel
theorem dX9_isRead_4 : decode cX9_isRead 4 = .ok (.aload_n 0, 1) := by decide +kernel
theorem dX9_isRead_5 : decode cX9_isRead 5 = .ok (.getfield 22, 3) := by decide +kernel
theorem dX9_isRead_8 : decode cX9_isRead 8 = .ok (.if_icmp .lt 7, 3) := by decide +kernel
theorem dX9_isRead_11 : decode cX9_isRead 11 = .ok (.iconst 1, 1) := by decide +kernel
theorem dX9_isRead_12 : decode cX9_isRead 12 = .ok (.goto 4, 3) := by decide +kernel
theorem dX9_isRead_15 : decode cX9_isRead 15 = .ok (.iconst 0, 1) := by decide +kernel
theorem dX9_isRead_16 : decode cX9_isRead 16 = .ok (.ireturn, 1) := by decide +kernel
theorem dX9_isWhole_0 : decode cX9_isWhole 0 = .ok (.aload_n 0, 1) := by decide +kernel
theorem dX9_isWhole_1 : decode cX9_isWhole 1 = .ok (.getfield 19, 3) := by decide +kernel
theorem dX9_isWhole_4 : decode cX9_isWhole 4 = .ok (.aload_n 0, 1) := by decide +kernel
theorem dX9_isWhole_5 : decode cX9_isWhole 5 = .ok (.getfield 15, 3) := by decide +kernel
theorem dX9_isWhole_8 : decode cX9_isWhole 8 = .ok (.if_icmp .lt 7, 3) := by decide +kernel
theorem dX9_isWhole_11 : decode cX9_isWhole 11 = .ok (.iconst 1, 1) := by decide +kernel
theorem dX9_isWhole_12 : decode cX9_isWhole 12 = .ok (.goto 4, 3) := by decide +kernel
theorem dX9_isWhole_15 : decode cX9_isWhole 15 = .ok (.iconst 0, 1) := by decide +kernel
theorem dX9_isWhole_16 : decode cX9_isWhole 16 = .ok (.ireturn, 1) := by decide +kernel
theorem dX10_init_0 : decode cX10_init 0 = .ok (.aload_n 0, 1) := by decide +kernel
theorem dX10_init_1 : decode cX10_init 1 = .ok (.invokespecial 3, 3) := by decide +kernel
theorem dX10_init_4 : decode cX10_init 4 = .ok (.aload_n 0, 1) := by decide +kernel
theorem dX10_init_5 : decode cX10_init 5 = .ok (.bipush 30, 2) := by decide +kernel
theorem dX10_init_7 : decode cX10_init 7 = .ok (.newarray .int, 2) := by decide +kernel
theorem dX10_init_9 : decode cX10_init 9 = .ok (.putfield 9, 3) := by decide +kernel
theorem dX10_init_12 : decode cX10_init 12 = .ok (.aload_n 0, 1) := by decide +kernel
theorem dX10_init_13 : decode cX10_init 13 = .ok (.bipush 8, 2) := by decide +kernel
theorem dX10_init_15 : decode cX10_init 15 = .ok (.newarray .int, 2) := by decide +kernel
theorem dX10_init_17 : decode cX10_init 17 = .ok (.putfield 15, 3) := by decide +kernel
theorem dX10_init_20 : decode cX10_init 20 = .ok (.aload_n 0, 1) := by decide +kernel
theorem dX10_init_21 : decode cX10_init 21 = .ok (.iconst 0, 1) := by decide +kernel
theorem dX10_init_22 : decode cX10_init 22 = .ok (.putfield 18, 3) := by decide +kernel
theorem dX10_init_25 : decode cX10_init 25 = .ok (.aload_n 0, 1) := by decide +kernel
theorem dX10_init_26 : decode cX10_init 26 = .ok (.iconst 0, 1) := by decide +kernel
theorem dX10_init_27 : decode cX10_init 27 = .ok (.putfield 22, 3) := by decide +kernel
theorem dX10_init_30 : decode cX10_init 30 = .ok (.aload_n 0, 1) := by decide +kernel
theorem dX10_init_31 : decode cX10_init 31 = .ok (.iconst 0, 1) := by decide +kernel
theorem dX10_init_32 : decode cX10_init 32 = .ok (.putfield 25, 3) := by decide +kernel
theorem dX10_init_35 : decode cX10_init 35 = .ok (.aload_n 0, 1) := by decide +kernel
theorem dX10_init_36 : decode cX10_init 36 = .ok (.aload_n 1, 1) := by decide +kernel
theorem dX10_init_37 : decode cX10_init 37 = .ok (.putfield 29, 3) := by decide +kernel
theorem dX10_init_40 : decode cX10_init 40 = .ok (.return_, 1) := by decide +kernel
theorem dX10_forgetTallies_0 : decode cX10_forgetTallies 0 = .ok (.aload_n 0, 1) := by decide +kernel
theorem dX10_forgetTallies_1 : decode cX10_forgetTallies 1 = .ok (.iconst 0, 1) := by decide +kernel
theorem dX10_forgetTallies_2 : decode cX10_forgetTallies 2 = .ok (.putfield 18, 3) := by decide +kernel
theorem dX10_forgetTallies_5 : decode cX10_forgetTallies 5 = .ok (.aload_n 0, 1) := by decide +kernel
theorem dX10_forgetTallies_6 : decode cX10_forgetTallies 6 = .ok (.iconst 0, 1) := by decide +kernel
theorem dX10_forgetTallies_7 : decode cX10_forgetTallies 7 = .ok (.putfield 22, 3) := by decide +kernel
theorem dX10_forgetTallies_10 : decode cX10_forgetTallies 10 = .ok (.iconst 0, 1) := by decide +kernel
theorem dX10_forgetTallies_11 : decode cX10_forgetTallies 11 = .ok (.istore_n 1, 1) := by decide +kernel
theorem dX10_forgetTallies_12 : decode cX10_forgetTallies 12 = .ok (.iload_n 1, 1) := by decide +kernel
theorem dX10_forgetTallies_13 : decode cX10_forgetTallies 13 = .ok (.bipush 30, 2) := by decide +kernel
theorem dX10_forgetTallies_15 : decode cX10_forgetTallies 15 = .ok (.if_icmp .ge 16, 3) := by decide +kernel
theorem dX10_forgetTallies_18 : decode cX10_forgetTallies 18 = .ok (.aload_n 0, 1) := by decide +kernel
theorem dX10_forgetTallies_19 : decode cX10_forgetTallies 19 = .ok (.getfield 9, 3) := by decide +kernel
theorem dX10_forgetTallies_22 : decode cX10_forgetTallies 22 = .ok (.iload_n 1, 1) := by decide +kernel
theorem dX10_forgetTallies_23 : decode cX10_forgetTallies 23 = .ok (.iconst 0, 1) := by decide +kernel
theorem dX10_forgetTallies_24 : decode cX10_forgetTallies 24 = .ok (.iastore, 1) := by decide +kernel
theorem dX10_forgetTallies_25 : decode cX10_forgetTallies 25 = .ok (.iinc 1 1, 3) := by decide +kernel
theorem dX10_forgetTallies_28 : decode cX10_forgetTallies 28 = .ok (.goto (-16), 3) := by decide +kernel
theorem dX10_forgetTallies_31 : decode cX10_forgetTallies 31 = .ok (.iconst 0, 1) := by decide +kernel
theorem dX10_forgetTallies_32 : decode cX10_forgetTallies 32 = .ok (.istore_n 1, 1) := by decide +kernel
theorem dX10_forgetTallies_33 : decode cX10_forgetTallies 33 = .ok (.iload_n 1, 1) := by decide +kernel
theorem dX10_forgetTallies_34 : decode cX10_forgetTallies 34 = .ok (.bipush 8, 2) := by decide +kernel
theorem dX10_forgetTallies_36 : decode cX10_forgetTallies 36 = .ok (.if_icmp .ge 16, 3) := by decide +kernel
theorem dX10_forgetTallies_39 : decode cX10_forgetTallies 39 = .ok (.aload_n 0, 1) := by decide +kernel
theorem dX10_forgetTallies_40 : decode cX10_forgetTallies 40 = .ok (.getfield 15, 3) := by decide +kernel
theorem dX10_forgetTallies_43 : decode cX10_forgetTallies 43 = .ok (.iload_n 1, 1) := by decide +kernel
theorem dX10_forgetTallies_44 : decode cX10_forgetTallies 44 = .ok (.iconst 0, 1) := by decide +kernel
theorem dX10_forgetTallies_45 : decode cX10_forgetTallies 45 = .ok (.iastore, 1) := by decide +kernel
theorem dX10_forgetTallies_46 : decode cX10_forgetTallies 46 = .ok (.iinc 1 1, 3) := by decide +kernel
theorem dX10_forgetTallies_49 : decode cX10_forgetTallies 49 = .ok (.goto (-16), 3) := by decide +kernel
theorem dX10_forgetTallies_52 : decode cX10_forgetTallies 52 = .ok (.return_, 1) := by decide +kernel
theorem dX10_walk_0 : decode cX10_walk 0 = .ok (.aload_n 0, 1) := by decide +kernel
theorem dX10_walk_1 : decode cX10_walk 1 = .ok (.invokevirtual 33, 3) := by decide +kernel
theorem dX10_walk_4 : decode cX10_walk 4 = .ok (.iconst 0, 1) := by decide +kernel
theorem dX10_walk_5 : decode cX10_walk 5 = .ok (.istore 4, 2) := by decide +kernel
theorem dX10_walk_7 : decode cX10_walk 7 = .ok (.iload 4, 2) := by decide +kernel
theorem dX10_walk_9 : decode cX10_walk 9 = .ok (.iload_n 3, 1) := by decide +kernel
theorem dX10_walk_10 : decode cX10_walk 10 = .ok (.if_icmp .ge 15, 3) := by decide +kernel
theorem dX10_walk_13 : decode cX10_walk 13 = .ok (.aload_n 0, 1) := by decide +kernel
theorem dX10_walk_14 : decode cX10_walk 14 = .ok (.aload_n 1, 1) := by decide +kernel
theorem dX10_walk_15 : decode cX10_walk 15 = .ok (.aload_n 2, 1) := by decide +kernel
theorem dX10_walk_16 : decode cX10_walk 16 = .ok (.invokevirtual 36, 3) := by decide +kernel
theorem dX10_walk_19 : decode cX10_walk 19 = .ok (.iinc 4 1, 3) := by decide +kernel
theorem dX10_walk_22 : decode cX10_walk 22 = .ok (.goto (-15), 3) := by decide +kernel
theorem dX10_walk_25 : decode cX10_walk 25 = .ok (.return_, 1) := by decide +kernel
theorem dX10_toEnd_0 : decode cX10_toEnd 0 = .ok (.aload_n 2, 1) := by decide +kernel
theorem dX10_toEnd_1 : decode cX10_toEnd 1 = .ok (.aload_n 0, 1) := by decide +kernel
theorem dX10_toEnd_2 : decode cX10_toEnd 2 = .ok (.getfield 29, 3) := by decide +kernel
theorem dX10_toEnd_5 : decode cX10_toEnd 5 = .ok (.invokevirtual 40, 3) := by decide +kernel
theorem dX10_toEnd_8 : decode cX10_toEnd 8 = .ok (.istore_n 3, 1) := by decide +kernel
theorem dX10_toEnd_9 : decode cX10_toEnd 9 = .ok (.iconst 0, 1) := by decide +kernel
theorem dX10_toEnd_10 : decode cX10_toEnd 10 = .ok (.istore 4, 2) := by decide +kernel
theorem dX10_toEnd_12 : decode cX10_toEnd 12 = .ok (.iconst 0, 1) := by decide +kernel
theorem dX10_toEnd_13 : decode cX10_toEnd 13 = .ok (.istore 5, 2) := by decide +kernel
theorem dX10_toEnd_15 : decode cX10_toEnd 15 = .ok (.iload 5, 2) := by decide +kernel
theorem dX10_toEnd_17 : decode cX10_toEnd 17 = .ok (.sipush 200, 3) := by decide +kernel
theorem dX10_toEnd_20 : decode cX10_toEnd 20 = .ok (.if_icmp .ge 63, 3) := by decide +kernel
theorem dX10_toEnd_23 : decode cX10_toEnd 23 = .ok (.iload 4, 2) := by decide +kernel
theorem dX10_toEnd_25 : decode cX10_toEnd 25 = .ok (.iload_n 3, 1) := by decide +kernel
theorem dX10_toEnd_26 : decode cX10_toEnd 26 = .ok (.if_icmp .ge 57, 3) := by decide +kernel
theorem dX10_toEnd_29 : decode cX10_toEnd 29 = .ok (.aload_n 1, 1) := by decide +kernel
theorem dX10_toEnd_30 : decode cX10_toEnd 30 = .ok (.getfield 46, 3) := by decide +kernel
theorem dX10_toEnd_33 : decode cX10_toEnd 33 = .ok (.aload_n 1, 1) := by decide +kernel
theorem dX10_toEnd_34 : decode cX10_toEnd 34 = .ok (.getfield 51, 3) := by decide +kernel
theorem dX10_toEnd_37 : decode cX10_toEnd 37 = .ok (.if_icmp .eq 46, 3) := by decide +kernel
theorem dX10_toEnd_40 : decode cX10_toEnd 40 = .ok (.aload_n 1, 1) := by decide +kernel
theorem dX10_toEnd_41 : decode cX10_toEnd 41 = .ok (.getfield 54, 3) := by decide +kernel
theorem dX10_toEnd_44 : decode cX10_toEnd 44 = .ok (.aload_n 1, 1) := by decide +kernel
theorem dX10_toEnd_45 : decode cX10_toEnd 45 = .ok (.getfield 57, 3) := by decide +kernel
theorem dX10_toEnd_48 : decode cX10_toEnd 48 = .ok (.if_icmp .ne 6, 3) := by decide +kernel
theorem dX10_toEnd_51 : decode cX10_toEnd 51 = .ok (.goto 32, 3) := by decide +kernel
theorem dX10_toEnd_54 : decode cX10_toEnd 54 = .ok (.aload_n 0, 1) := by decide +kernel
theorem dX10_toEnd_55 : decode cX10_toEnd 55 = .ok (.aload_n 1, 1) := by decide +kernel
theorem dX10_toEnd_56 : decode cX10_toEnd 56 = .ok (.aload_n 2, 1) := by decide +kernel
theorem dX10_toEnd_57 : decode cX10_toEnd 57 = .ok (.invokevirtual 36, 3) := by decide +kernel
theorem dX10_toEnd_60 : decode cX10_toEnd 60 = .ok (.aload_n 0, 1) := by decide +kernel
theorem dX10_toEnd_61 : decode cX10_toEnd 61 = .ok (.getfield 25, 3) := by decide +kernel
theorem dX10_toEnd_64 : decode cX10_toEnd 64 = .ok (.ifCond .eq 7, 3) := by decide +kernel
theorem dX10_toEnd_67 : decode cX10_toEnd 67 = .ok (.iconst 0, 1) := by decide +kernel
theorem dX10_toEnd_68 : decode cX10_toEnd 68 = .ok (.goto 7, 3) := by decide +kernel
theorem dX10_toEnd_71 : decode cX10_toEnd 71 = .ok (.iload 4, 2) := by decide +kernel
theorem dX10_toEnd_73 : decode cX10_toEnd 73 = .ok (.iconst 1, 1) := by decide +kernel
theorem dX10_toEnd_74 : decode cX10_toEnd 74 = .ok (.iadd, 1) := by decide +kernel
theorem dX10_toEnd_75 : decode cX10_toEnd 75 = .ok (.istore 4, 2) := by decide +kernel
theorem dX10_toEnd_77 : decode cX10_toEnd 77 = .ok (.iinc 5 1, 3) := by decide +kernel
theorem dX10_toEnd_80 : decode cX10_toEnd 80 = .ok (.goto (-65), 3) := by decide +kernel
theorem dX10_toEnd_83 : decode cX10_toEnd 83 = .ok (.return_, 1) := by decide +kernel
theorem dX10_advance_0 : decode cX10_advance 0 = .ok (.aload_n 0, 1) := by decide +kernel
theorem dX10_advance_1 : decode cX10_advance 1 = .ok (.iconst 0, 1) := by decide +kernel
theorem dX10_advance_2 : decode cX10_advance 2 = .ok (.putfield 25, 3) := by decide +kernel
theorem dX10_advance_5 : decode cX10_advance 5 = .ok (.aload_n 0, 1) := by decide +kernel
theorem dX10_advance_6 : decode cX10_advance 6 = .ok (.getfield 29, 3) := by decide +kernel
theorem dX10_advance_9 : decode cX10_advance 9 = .ok (.getfield 60, 3) := by decide +kernel
theorem dX10_advance_12 : decode cX10_advance 12 = .ok (.istore_n 3, 1) := by decide +kernel
theorem dX10_advance_13 : decode cX10_advance 13 = .ok (.iconst 0, 1) := by decide +kernel
theorem dX10_advance_14 : decode cX10_advance 14 = .ok (.istore 4, 2) := by decide +kernel
theorem dX10_advance_16 : decode cX10_advance 16 = .ok (.iload 4, 2) := by decide +kernel
theorem dX10_advance_18 : decode cX10_advance 18 = .ok (.bipush 6, 2) := by decide +kernel
theorem dX10_advance_20 : decode cX10_advance 20 = .ok (.if_icmp .ge 41, 3) := by decide +kernel
theorem dX10_advance_23 : decode cX10_advance 23 = .ok (.aload_n 1, 1) := by decide +kernel
theorem dX10_advance_24 : decode cX10_advance 24 = .ok (.iload_n 3, 1) := by decide +kernel
theorem dX10_advance_25 : decode cX10_advance 25 = .ok (.invokevirtual 65, 3) := by decide +kernel
theorem dX10_advance_28 : decode cX10_advance 28 = .ok (.istore 5, 2) := by decide +kernel
theorem dX10_advance_30 : decode cX10_advance 30 = .ok (.iload 5, 2) := by decide +kernel
theorem dX10_advance_32 : decode cX10_advance 32 = .ok (.iconst (-1), 1) := by decide +kernel
theorem dX10_advance_33 : decode cX10_advance 33 = .ok (.if_icmp .ne 6, 3) := by decide +kernel
theorem dX10_advance_36 : decode cX10_advance 36 = .ok (.goto 25, 3) := by decide +kernel
theorem dX10_advance_39 : decode cX10_advance 39 = .ok (.aload_n 1, 1) := by decide +kernel
theorem dX10_advance_40 : decode cX10_advance 40 = .ok (.getfield 69, 3) := by decide +kernel
theorem dX10_advance_43 : decode cX10_advance 43 = .ok (.iload 5, 2) := by decide +kernel
theorem dX10_advance_45 : decode cX10_advance 45 = .ok (.iaload, 1) := by decide +kernel
theorem dX10_advance_46 : decode cX10_advance 46 = .ok (.istore_n 3, 1) := by decide +kernel
theorem dX10_advance_47 : decode cX10_advance 47 = .ok (.aload_n 0, 1) := by decide +kernel
theorem dX10_advance_48 : decode cX10_advance 48 = .ok (.aload_n 1, 1) := by decide +kernel
theorem dX10_advance_49 : decode cX10_advance 49 = .ok (.aload_n 2, 1) := by decide +kernel
theorem dX10_advance_50 : decode cX10_advance 50 = .ok (.iload 5, 2) := by decide +kernel
theorem dX10_advance_52 : decode cX10_advance 52 = .ok (.invokevirtual 72, 3) := by decide +kernel
theorem dX10_advance_55 : decode cX10_advance 55 = .ok (.iinc 4 1, 3) := by decide +kernel
theorem dX10_advance_58 : decode cX10_advance 58 = .ok (.goto (-42), 3) := by decide +kernel
theorem dX10_advance_61 : decode cX10_advance 61 = .ok (.iconst 0, 1) := by decide +kernel
theorem dX10_advance_62 : decode cX10_advance 62 = .ok (.istore 4, 2) := by decide +kernel
theorem dX10_advance_64 : decode cX10_advance 64 = .ok (.iload 4, 2) := by decide +kernel
theorem dX10_advance_66 : decode cX10_advance 66 = .ok (.aload_n 1, 1) := by decide +kernel
theorem dX10_advance_67 : decode cX10_advance 67 = .ok (.getfield 51, 3) := by decide +kernel
theorem dX10_advance_70 : decode cX10_advance 70 = .ok (.if_icmp .ge 25, 3) := by decide +kernel
theorem dX10_advance_73 : decode cX10_advance 73 = .ok (.aload_n 1, 1) := by decide +kernel
theorem dX10_advance_74 : decode cX10_advance 74 = .ok (.iload 4, 2) := by decide +kernel
theorem dX10_advance_76 : decode cX10_advance 76 = .ok (.invokevirtual 76, 3) := by decide +kernel
theorem dX10_advance_79 : decode cX10_advance 79 = .ok (.ifCond .ne 10, 3) := by decide +kernel
theorem dX10_advance_82 : decode cX10_advance 82 = .ok (.aload_n 0, 1) := by decide +kernel
theorem dX10_advance_83 : decode cX10_advance 83 = .ok (.aload_n 1, 1) := by decide +kernel
theorem dX10_advance_84 : decode cX10_advance 84 = .ok (.iload 4, 2) := by decide +kernel
theorem dX10_advance_86 : decode cX10_advance 86 = .ok (.invokevirtual 80, 3) := by decide +kernel
theorem dX10_advance_89 : decode cX10_advance 89 = .ok (.iinc 4 1, 3) := by decide +kernel
theorem dX10_advance_92 : decode cX10_advance 92 = .ok (.goto (-28), 3) := by decide +kernel
theorem dX10_advance_95 : decode cX10_advance 95 = .ok (.aload_n 1, 1) := by decide +kernel
theorem dX10_advance_96 : decode cX10_advance 96 = .ok (.dup, 1) := by decide +kernel
theorem dX10_advance_97 : decode cX10_advance 97 = .ok (.getfield 84, 3) := by decide +kernel
theorem dX10_advance_100 : decode cX10_advance 100 = .ok (.iconst 1, 1) := by decide +kernel
theorem dX10_advance_101 : decode cX10_advance 101 = .ok (.iadd, 1) := by decide +kernel
theorem dX10_advance_102 : decode cX10_advance 102 = .ok (.putfield 84, 3) := by decide +kernel
theorem dX10_advance_105 : decode cX10_advance 105 = .ok (.return_, 1) := by decide +kernel
theorem dX10_moveHearse_0 : decode cX10_moveHearse 0 = .ok (.aload_n 1, 1) := by decide +kernel
theorem dX10_moveHearse_1 : decode cX10_moveHearse 1 = .ok (.getfield 69, 3) := by decide +kernel
theorem dX10_moveHearse_4 : decode cX10_moveHearse 4 = .ok (.iload_n 3, 1) := by decide +kernel
theorem dX10_moveHearse_5 : decode cX10_moveHearse 5 = .ok (.iaload, 1) := by decide +kernel
theorem dX10_moveHearse_6 : decode cX10_moveHearse 6 = .ok (.istore 4, 2) := by decide +kernel
theorem dX10_moveHearse_8 : decode cX10_moveHearse 8 = .ok (.aload_n 2, 1) := by decide +kernel
theorem dX10_moveHearse_9 : decode cX10_moveHearse 9 = .ok (.aload_n 1, 1) := by decide +kernel
theorem dX10_moveHearse_10 : decode cX10_moveHearse 10 = .ok (.aload_n 0, 1) := by decide +kernel
theorem dX10_moveHearse_11 : decode cX10_moveHearse 11 = .ok (.getfield 29, 3) := by decide +kernel
theorem dX10_moveHearse_14 : decode cX10_moveHearse 14 = .ok (.iload_n 3, 1) := by decide +kernel
theorem dX10_moveHearse_15 : decode cX10_moveHearse 15 = .ok (.invokevirtual 87, 3) := by decide +kernel
theorem dX10_moveHearse_18 : decode cX10_moveHearse 18 = .ok (.aload_n 0, 1) := by decide +kernel
theorem dX10_moveHearse_19 : decode cX10_moveHearse 19 = .ok (.aload_n 1, 1) := by decide +kernel
theorem dX10_moveHearse_20 : decode cX10_moveHearse 20 = .ok (.invokevirtual 91, 3) := by decide +kernel
theorem dX10_moveHearse_23 : decode cX10_moveHearse 23 = .ok (.iload 4, 2) := by decide +kernel
theorem dX10_moveHearse_25 : decode cX10_moveHearse 25 = .ok (.aload_n 2, 1) := by decide +kernel
theorem dX10_moveHearse_26 : decode cX10_moveHearse 26 = .ok (.invokevirtual 95, 3) := by decide +kernel
theorem dX10_moveHearse_29 : decode cX10_moveHearse 29 = .ok (.invokevirtual 98, 3) := by decide +kernel
theorem dX10_moveHearse_32 : decode cX10_moveHearse 32 = .ok (.istore 5, 2) := by decide +kernel
theorem dX10_moveHearse_34 : decode cX10_moveHearse 34 = .ok (.iload 5, 2) := by decide +kernel
theorem dX10_moveHearse_36 : decode cX10_moveHearse 36 = .ok (.iconst (-1), 1) := by decide +kernel
theorem dX10_moveHearse_37 : decode cX10_moveHearse 37 = .ok (.if_icmp .ne 25, 3) := by decide +kernel
theorem dX10_moveHearse_40 : decode cX10_moveHearse 40 = .ok (.aload_n 0, 1) := by decide +kernel
theorem dX10_moveHearse_41 : decode cX10_moveHearse 41 = .ok (.dup, 1) := by decide +kernel
theorem dX10_moveHearse_42 : decode cX10_moveHearse 42 = .ok (.getfield 18, 3) := by decide +kernel
theorem dX10_moveHearse_45 : decode cX10_moveHearse 45 = .ok (.iconst 1, 1) := by decide +kernel
theorem dX10_moveHearse_46 : decode cX10_moveHearse 46 = .ok (.iadd, 1) := by decide +kernel
theorem dX10_moveHearse_47 : decode cX10_moveHearse 47 = .ok (.putfield 18, 3) := by decide +kernel
theorem dX10_moveHearse_50 : decode cX10_moveHearse 50 = .ok (.aload_n 0, 1) := by decide +kernel
theorem dX10_moveHearse_51 : decode cX10_moveHearse 51 = .ok (.getfield 9, 3) := by decide +kernel
theorem dX10_moveHearse_54 : decode cX10_moveHearse 54 = .ok (.iload 4, 2) := by decide +kernel
theorem dX10_moveHearse_56 : decode cX10_moveHearse 56 = .ok (.dup2, 1) := by decide +kernel
theorem dX10_moveHearse_57 : decode cX10_moveHearse 57 = .ok (.iaload, 1) := by decide +kernel
theorem dX10_moveHearse_58 : decode cX10_moveHearse 58 = .ok (.iconst 1, 1) := by decide +kernel
theorem dX10_moveHearse_59 : decode cX10_moveHearse 59 = .ok (.iadd, 1) := by decide +kernel
theorem dX10_moveHearse_60 : decode cX10_moveHearse 60 = .ok (.iastore, 1) := by decide +kernel
theorem dX10_moveHearse_61 : decode cX10_moveHearse 61 = .ok (.return_, 1) := by decide +kernel
theorem dX10_moveHearse_62 : decode cX10_moveHearse 62 = .ok (.aload_n 0, 1) := by decide +kernel
theorem dX10_moveHearse_63 : decode cX10_moveHearse 63 = .ok (.iconst 1, 1) := by decide +kernel
theorem dX10_moveHearse_64 : decode cX10_moveHearse 64 = .ok (.putfield 25, 3) := by decide +kernel
theorem dX10_moveHearse_67 : decode cX10_moveHearse 67 = .ok (.iload 5, 2) := by decide +kernel
theorem dX10_moveHearse_69 : decode cX10_moveHearse 69 = .ok (.aload_n 0, 1) := by decide +kernel
theorem dX10_moveHearse_70 : decode cX10_moveHearse 70 = .ok (.getfield 29, 3) := by decide +kernel
theorem dX10_moveHearse_73 : decode cX10_moveHearse 73 = .ok (.invokevirtual 102, 3) := by decide +kernel
theorem dX10_moveHearse_76 : decode cX10_moveHearse 76 = .ok (.if_icmp .ne 11, 3) := by decide +kernel
theorem dX10_moveHearse_79 : decode cX10_moveHearse 79 = .ok (.aload_n 1, 1) := by decide +kernel
theorem dX10_moveHearse_80 : decode cX10_moveHearse 80 = .ok (.iload_n 3, 1) := by decide +kernel
theorem dX10_moveHearse_81 : decode cX10_moveHearse 81 = .ok (.invokevirtual 105, 3) := by decide +kernel
theorem dX10_moveHearse_84 : decode cX10_moveHearse 84 = .ok (.goto 11, 3) := by decide +kernel
theorem dX10_moveHearse_87 : decode cX10_moveHearse 87 = .ok (.aload_n 1, 1) := by decide +kernel
theorem dX10_moveHearse_88 : decode cX10_moveHearse 88 = .ok (.getfield 69, 3) := by decide +kernel
theorem dX10_moveHearse_91 : decode cX10_moveHearse 91 = .ok (.iload_n 3, 1) := by decide +kernel
theorem dX10_moveHearse_92 : decode cX10_moveHearse 92 = .ok (.iload 5, 2) := by decide +kernel
theorem dX10_moveHearse_94 : decode cX10_moveHearse 94 = .ok (.iastore, 1) := by decide +kernel
theorem dX10_moveHearse_95 : decode cX10_moveHearse 95 = .ok (.return_, 1) := by decide +kernel
theorem dX10_goal_0 : decode cX10_goal 0 = .ok (.iload_n 2, 1) := by decide +kernel
theorem dX10_goal_1 : decode cX10_goal 1 = .ok (.iload_n 3, 1) := by decide +kernel
theorem dX10_goal_2 : decode cX10_goal 2 = .ok (.iadd, 1) := by decide +kernel
theorem dX10_goal_3 : decode cX10_goal 3 = .ok (.aload_n 0, 1) := by decide +kernel
theorem dX10_goal_4 : decode cX10_goal 4 = .ok (.getfield 29, 3) := by decide +kernel
theorem dX10_goal_7 : decode cX10_goal 7 = .ok (.invokevirtual 102, 3) := by decide +kernel
theorem dX10_goal_10 : decode cX10_goal 10 = .ok (.invokestatic 109, 3) := by decide +kernel
theorem dX10_goal_13 : decode cX10_goal 13 = .ok (.istore 4, 2) := by decide +kernel
theorem dX10_goal_15 : decode cX10_goal 15 = .ok (.iload 4, 2) := by decide +kernel
theorem dX10_goal_17 : decode cX10_goal 17 = .ok (.iload_n 2, 1) := by decide +kernel
theorem dX10_goal_18 : decode cX10_goal 18 = .ok (.if_icmp .le 73, 3) := by decide +kernel
theorem dX10_goal_21 : decode cX10_goal 21 = .ok (.iconst 2, 1) := by decide +kernel
theorem dX10_goal_22 : decode cX10_goal 22 = .ok (.iload 4, 2) := by decide +kernel
theorem dX10_goal_24 : decode cX10_goal 24 = .ok (.ishl, 1) := by decide +kernel
theorem dX10_goal_25 : decode cX10_goal 25 = .ok (.iconst 1, 1) := by decide +kernel
theorem dX10_goal_26 : decode cX10_goal 26 = .ok (.iload_n 2, 1) := by decide +kernel
theorem dX10_goal_27 : decode cX10_goal 27 = .ok (.ishl, 1) := by decide +kernel
theorem dX10_goal_28 : decode cX10_goal 28 = .ok (.isub, 1) := by decide +kernel
theorem dX10_goal_29 : decode cX10_goal 29 = .ok (.istore 5, 2) := by decide +kernel
theorem dX10_goal_31 : decode cX10_goal 31 = .ok (.iconst 1, 1) := by decide +kernel
theorem dX10_goal_32 : decode cX10_goal 32 = .ok (.iload 4, 2) := by decide +kernel
theorem dX10_goal_34 : decode cX10_goal 34 = .ok (.ishl, 1) := by decide +kernel
theorem dX10_goal_35 : decode cX10_goal 35 = .ok (.iconst 2, 1) := by decide +kernel
theorem dX10_goal_36 : decode cX10_goal 36 = .ok (.iload_n 2, 1) := by decide +kernel
theorem dX10_goal_37 : decode cX10_goal 37 = .ok (.ishl, 1) := by decide +kernel
theorem dX10_goal_38 : decode cX10_goal 38 = .ok (.isub, 1) := by decide +kernel
theorem dX10_goal_39 : decode cX10_goal 39 = .ok (.istore 6, 2) := by decide +kernel
theorem dX10_goal_41 : decode cX10_goal 41 = .ok (.iload_n 1, 1) := by decide +kernel
theorem dX10_goal_42 : decode cX10_goal 42 = .ok (.iload 4, 2) := by decide +kernel
theorem dX10_goal_44 : decode cX10_goal 44 = .ok (.ishr, 1) := by decide +kernel
theorem dX10_goal_45 : decode cX10_goal 45 = .ok (.iconst 1, 1) := by decide +kernel
theorem dX10_goal_46 : decode cX10_goal 46 = .ok (.iand, 1) := by decide +kernel
theorem dX10_goal_47 : decode cX10_goal 47 = .ok (.ifCond .ne 7, 3) := by decide +kernel
theorem dX10_goal_50 : decode cX10_goal 50 = .ok (.iconst 1, 1) := by decide +kernel
theorem dX10_goal_51 : decode cX10_goal 51 = .ok (.goto 4, 3) := by decide +kernel
theorem dX10_goal_54 : decode cX10_goal 54 = .ok (.iconst 0, 1) := by decide +kernel
theorem dX10_goal_55 : decode cX10_goal 55 = .ok (.istore 7, 2) := by decide +kernel
theorem dX10_goal_57 : decode cX10_goal 57 = .ok (.iload 7, 2) := by decide +kernel
theorem dX10_goal_59 : decode cX10_goal 59 = .ok (.ifCond .eq 26, 3) := by decide +kernel
theorem dX10_goal_62 : decode cX10_goal 62 = .ok (.iload_n 1, 1) := by decide +kernel
theorem dX10_goal_63 : decode cX10_goal 63 = .ok (.iload 6, 2) := by decide +kernel
theorem dX10_goal_65 : decode cX10_goal 65 = .ok (.iand, 1) := by decide +kernel
theorem dX10_goal_66 : decode cX10_goal 66 = .ok (.ifCond .eq 16, 3) := by decide +kernel
theorem dX10_goal_69 : decode cX10_goal 69 = .ok (.aload_n 0, 1) := by decide +kernel
theorem dX10_goal_70 : decode cX10_goal 70 = .ok (.getfield 29, 3) := by decide +kernel
theorem dX10_goal_73 : decode cX10_goal 73 = .ok (.getfield 115, 3) := by decide +kernel
theorem dX10_goal_76 : decode cX10_goal 76 = .ok (.iload 5, 2) := by decide +kernel
theorem dX10_goal_78 : decode cX10_goal 78 = .ok (.iand, 1) := by decide +kernel
theorem dX10_goal_79 : decode cX10_goal 79 = .ok (.ifCond .ne 6, 3) := by decide +kernel
theorem dX10_goal_82 : decode cX10_goal 82 = .ok (.iload 4, 2) := by decide +kernel
theorem dX10_goal_84 : decode cX10_goal 84 = .ok (.ireturn, 1) := by decide +kernel
theorem dX10_goal_85 : decode cX10_goal 85 = .ok (.iinc 4 (-1), 3) := by decide +kernel
theorem dX10_goal_88 : decode cX10_goal 88 = .ok (.goto (-73), 3) := by decide +kernel
theorem dX10_goal_91 : decode cX10_goal 91 = .ok (.iconst (-1), 1) := by decide +kernel
theorem dX10_goal_92 : decode cX10_goal 92 = .ok (.ireturn, 1) := by decide +kernel
theorem dX10_moveMourner_0 : decode cX10_moveMourner 0 = .ok (.aload_n 1, 1) := by decide +kernel
theorem dX10_moveMourner_1 : decode cX10_moveMourner 1 = .ok (.getfield 118, 3) := by decide +kernel
theorem dX10_moveMourner_4 : decode cX10_moveMourner 4 = .ok (.iload_n 2, 1) := by decide +kernel
theorem dX10_moveMourner_5 : decode cX10_moveMourner 5 = .ok (.iaload, 1) := by decide +kernel
theorem dX10_moveMourner_6 : decode cX10_moveMourner 6 = .ok (.istore_n 3, 1) := by decide +kernel
theorem dX10_moveMourner_7 : decode cX10_moveMourner 7 = .ok (.iload_n 3, 1) := by decide +kernel
theorem dX10_moveMourner_8 : decode cX10_moveMourner 8 = .ok (.iconst (-1), 1) := by decide +kernel
theorem dX10_moveMourner_9 : decode cX10_moveMourner 9 = .ok (.if_icmp .eq 23, 3) := by decide +kernel
theorem dX10_moveMourner_12 : decode cX10_moveMourner 12 = .ok (.aload_n 1, 1) := by decide +kernel
theorem dX10_moveMourner_13 : decode cX10_moveMourner 13 = .ok (.iload_n 3, 1) := by decide +kernel
theorem dX10_moveMourner_14 : decode cX10_moveMourner 14 = .ok (.invokevirtual 121, 3) := by decide +kernel
theorem dX10_moveMourner_17 : decode cX10_moveMourner 17 = .ok (.ifCond .eq 15, 3) := by decide +kernel
theorem dX10_moveMourner_20 : decode cX10_moveMourner 20 = .ok (.aload_n 1, 1) := by decide +kernel
theorem dX10_moveMourner_21 : decode cX10_moveMourner 21 = .ok (.iload_n 2, 1) := by decide +kernel
theorem dX10_moveMourner_22 : decode cX10_moveMourner 22 = .ok (.iload_n 3, 1) := by decide +kernel
theorem dX10_moveMourner_23 : decode cX10_moveMourner 23 = .ok (.invokevirtual 124, 3) := by decide +kernel
theorem dX10_moveMourner_26 : decode cX10_moveMourner 26 = .ok (.aload_n 0, 1) := by decide +kernel
theorem dX10_moveMourner_27 : decode cX10_moveMourner 27 = .ok (.iconst 1, 1) := by decide +kernel
theorem dX10_moveMourner_28 : decode cX10_moveMourner 28 = .ok (.putfield 25, 3) := by decide +kernel
theorem dX10_moveMourner_31 : decode cX10_moveMourner 31 = .ok (.return_, 1) := by decide +kernel
theorem dX10_moveMourner_32 : decode cX10_moveMourner 32 = .ok (.aload_n 1, 1) := by decide +kernel
theorem dX10_moveMourner_33 : decode cX10_moveMourner 33 = .ok (.getfield 128, 3) := by decide +kernel
theorem dX10_moveMourner_36 : decode cX10_moveMourner 36 = .ok (.iload_n 2, 1) := by decide +kernel
theorem dX10_moveMourner_37 : decode cX10_moveMourner 37 = .ok (.iaload, 1) := by decide +kernel
theorem dX10_moveMourner_38 : decode cX10_moveMourner 38 = .ok (.istore 4, 2) := by decide +kernel
theorem dX10_moveMourner_40 : decode cX10_moveMourner 40 = .ok (.aload_n 1, 1) := by decide +kernel
theorem dX10_moveMourner_41 : decode cX10_moveMourner 41 = .ok (.iload 4, 2) := by decide +kernel
theorem dX10_moveMourner_43 : decode cX10_moveMourner 43 = .ok (.invokevirtual 131, 3) := by decide +kernel
theorem dX10_moveMourner_46 : decode cX10_moveMourner 46 = .ok (.istore 5, 2) := by decide +kernel
theorem dX10_moveMourner_48 : decode cX10_moveMourner 48 = .ok (.iload 5, 2) := by decide +kernel
theorem dX10_moveMourner_50 : decode cX10_moveMourner 50 = .ok (.iconst (-1), 1) := by decide +kernel
theorem dX10_moveMourner_51 : decode cX10_moveMourner 51 = .ok (.if_icmp .ne 4, 3) := by decide +kernel
theorem dX10_moveMourner_54 : decode cX10_moveMourner 54 = .ok (.return_, 1) := by decide +kernel
theorem dX10_moveMourner_55 : decode cX10_moveMourner 55 = .ok (.aload_n 1, 1) := by decide +kernel
theorem dX10_moveMourner_56 : decode cX10_moveMourner 56 = .ok (.getfield 69, 3) := by decide +kernel
theorem dX10_moveMourner_59 : decode cX10_moveMourner 59 = .ok (.iload 5, 2) := by decide +kernel
theorem dX10_moveMourner_61 : decode cX10_moveMourner 61 = .ok (.iaload, 1) := by decide +kernel
theorem dX10_moveMourner_62 : decode cX10_moveMourner 62 = .ok (.iload 4, 2) := by decide +kernel
theorem dX10_moveMourner_64 : decode cX10_moveMourner 64 = .ok (.isub, 1) := by decide +kernel
theorem dX10_moveMourner_65 : decode cX10_moveMourner 65 = .ok (.istore 6, 2) := by decide +kernel
theorem dX10_moveMourner_67 : decode cX10_moveMourner 67 = .ok (.iload_n 3, 1) := by decide +kernel
theorem dX10_moveMourner_68 : decode cX10_moveMourner 68 = .ok (.iconst (-1), 1) := by decide +kernel
theorem dX10_moveMourner_69 : decode cX10_moveMourner 69 = .ok (.if_icmp .eq 23, 3) := by decide +kernel
theorem dX10_moveMourner_72 : decode cX10_moveMourner 72 = .ok (.iload 6, 2) := by decide +kernel
theorem dX10_moveMourner_74 : decode cX10_moveMourner 74 = .ok (.invokestatic 134, 3) := by decide +kernel
theorem dX10_moveMourner_77 : decode cX10_moveMourner 77 = .ok (.aload_n 1, 1) := by decide +kernel
theorem dX10_moveMourner_78 : decode cX10_moveMourner 78 = .ok (.getfield 69, 3) := by decide +kernel
theorem dX10_moveMourner_81 : decode cX10_moveMourner 81 = .ok (.iload_n 3, 1) := by decide +kernel
theorem dX10_moveMourner_82 : decode cX10_moveMourner 82 = .ok (.iaload, 1) := by decide +kernel
theorem dX10_moveMourner_83 : decode cX10_moveMourner 83 = .ok (.iload 4, 2) := by decide +kernel
theorem dX10_moveMourner_85 : decode cX10_moveMourner 85 = .ok (.isub, 1) := by decide +kernel
theorem dX10_moveMourner_86 : decode cX10_moveMourner 86 = .ok (.invokestatic 134, 3) := by decide +kernel
theorem dX10_moveMourner_89 : decode cX10_moveMourner 89 = .ok (.if_icmp .ge 39, 3) := by decide +kernel
theorem dX10_moveMourner_92 : decode cX10_moveMourner 92 = .ok (.aload_n 1, 1) := by decide +kernel
theorem dX10_moveMourner_93 : decode cX10_moveMourner 93 = .ok (.getfield 118, 3) := by decide +kernel
theorem dX10_moveMourner_96 : decode cX10_moveMourner 96 = .ok (.iload_n 2, 1) := by decide +kernel
theorem dX10_moveMourner_97 : decode cX10_moveMourner 97 = .ok (.iload 5, 2) := by decide +kernel
theorem dX10_moveMourner_99 : decode cX10_moveMourner 99 = .ok (.iastore, 1) := by decide +kernel
theorem dX10_moveMourner_100 : decode cX10_moveMourner 100 = .ok (.aload_n 0, 1) := by decide +kernel
theorem dX10_moveMourner_101 : decode cX10_moveMourner 101 = .ok (.dup, 1) := by decide +kernel
theorem dX10_moveMourner_102 : decode cX10_moveMourner 102 = .ok (.getfield 22, 3) := by decide +kernel
theorem dX10_moveMourner_105 : decode cX10_moveMourner 105 = .ok (.iconst 1, 1) := by decide +kernel
theorem dX10_moveMourner_106 : decode cX10_moveMourner 106 = .ok (.iadd, 1) := by decide +kernel
theorem dX10_moveMourner_107 : decode cX10_moveMourner 107 = .ok (.putfield 22, 3) := by decide +kernel
theorem dX10_moveMourner_110 : decode cX10_moveMourner 110 = .ok (.aload_n 0, 1) := by decide +kernel
theorem dX10_moveMourner_111 : decode cX10_moveMourner 111 = .ok (.getfield 15, 3) := by decide +kernel
theorem dX10_moveMourner_114 : decode cX10_moveMourner 114 = .ok (.iload_n 2, 1) := by decide +kernel
theorem dX10_moveMourner_115 : decode cX10_moveMourner 115 = .ok (.dup2, 1) := by decide +kernel
theorem dX10_moveMourner_116 : decode cX10_moveMourner 116 = .ok (.iaload, 1) := by decide +kernel
theorem dX10_moveMourner_117 : decode cX10_moveMourner 117 = .ok (.iconst 1, 1) := by decide +kernel
theorem dX10_moveMourner_118 : decode cX10_moveMourner 118 = .ok (.iadd, 1) := by decide +kernel
theorem dX10_moveMourner_119 : decode cX10_moveMourner 119 = .ok (.iastore, 1) := by decide +kernel
theorem dX10_moveMourner_120 : decode cX10_moveMourner 120 = .ok (.aload_n 0, 1) := by decide +kernel
theorem dX10_moveMourner_121 : decode cX10_moveMourner 121 = .ok (.iconst 1, 1) := by decide +kernel
theorem dX10_moveMourner_122 : decode cX10_moveMourner 122 = .ok (.putfield 25, 3) := by decide +kernel
theorem dX10_moveMourner_125 : decode cX10_moveMourner 125 = .ok (.goto 14, 3) := by decide +kernel
theorem dX10_moveMourner_128 : decode cX10_moveMourner 128 = .ok (.aload_n 1, 1) := by decide +kernel
theorem dX10_moveMourner_129 : decode cX10_moveMourner 129 = .ok (.getfield 69, 3) := by decide +kernel
theorem dX10_moveMourner_132 : decode cX10_moveMourner 132 = .ok (.iload_n 3, 1) := by decide +kernel
theorem dX10_moveMourner_133 : decode cX10_moveMourner 133 = .ok (.iaload, 1) := by decide +kernel
theorem dX10_moveMourner_134 : decode cX10_moveMourner 134 = .ok (.iload 4, 2) := by decide +kernel
theorem dX10_moveMourner_136 : decode cX10_moveMourner 136 = .ok (.isub, 1) := by decide +kernel
theorem dX10_moveMourner_137 : decode cX10_moveMourner 137 = .ok (.istore 6, 2) := by decide +kernel
theorem dX10_moveMourner_139 : decode cX10_moveMourner 139 = .ok (.aload_n 1, 1) := by decide +kernel
theorem dX10_moveMourner_140 : decode cX10_moveMourner 140 = .ok (.getfield 128, 3) := by decide +kernel
theorem dX10_moveMourner_143 : decode cX10_moveMourner 143 = .ok (.iload_n 2, 1) := by decide +kernel
theorem dX10_moveMourner_144 : decode cX10_moveMourner 144 = .ok (.iload 4, 2) := by decide +kernel
theorem dX10_moveMourner_146 : decode cX10_moveMourner 146 = .ok (.bipush (-2), 2) := by decide +kernel
theorem dX10_moveMourner_148 : decode cX10_moveMourner 148 = .ok (.iload 6, 2) := by decide +kernel
theorem dX10_moveMourner_150 : decode cX10_moveMourner 150 = .ok (.iconst 2, 1) := by decide +kernel
theorem dX10_moveMourner_151 : decode cX10_moveMourner 151 = .ok (.invokestatic 109, 3) := by decide +kernel
theorem dX10_moveMourner_154 : decode cX10_moveMourner 154 = .ok (.invokestatic 137, 3) := by decide +kernel
theorem dX10_moveMourner_157 : decode cX10_moveMourner 157 = .ok (.iadd, 1) := by decide +kernel
theorem dX10_moveMourner_158 : decode cX10_moveMourner 158 = .ok (.iastore, 1) := by decide +kernel
theorem dX10_moveMourner_159 : decode cX10_moveMourner 159 = .ok (.aload_n 0, 1) := by decide +kernel
theorem dX10_moveMourner_160 : decode cX10_moveMourner 160 = .ok (.aload_n 0, 1) := by decide +kernel
theorem dX10_moveMourner_161 : decode cX10_moveMourner 161 = .ok (.getfield 25, 3) := by decide +kernel
theorem dX10_moveMourner_164 : decode cX10_moveMourner 164 = .ok (.ifCond .ne 8, 3) := by decide +kernel
theorem dX10_moveMourner_167 : decode cX10_moveMourner 167 = .ok (.iload 6, 2) := by decide +kernel
theorem dX10_moveMourner_169 : decode cX10_moveMourner 169 = .ok (.ifCond .eq 7, 3) := by decide +kernel
theorem dX10_moveMourner_172 : decode cX10_moveMourner 172 = .ok (.iconst 1, 1) := by decide +kernel
theorem dX10_moveMourner_173 : decode cX10_moveMourner 173 = .ok (.goto 4, 3) := by decide +kernel
theorem dX10_moveMourner_176 : decode cX10_moveMourner 176 = .ok (.iconst 0, 1) := by decide +kernel
theorem dX10_moveMourner_177 : decode cX10_moveMourner 177 = .ok (.putfield 25, 3) := by decide +kernel
theorem dX10_moveMourner_180 : decode cX10_moveMourner 180 = .ok (.return_, 1) := by decide +kernel
theorem dX11_init_0 : decode cX11_init 0 = .ok (.aload_n 0, 1) := by decide +kernel
theorem dX11_init_1 : decode cX11_init 1 = .ok (.invokespecial 1, 3) := by decide +kernel
theorem dX11_init_4 : decode cX11_init 4 = .ok (.aload_n 0, 1) := by decide +kernel
theorem dX11_init_5 : decode cX11_init 5 = .ok (.new 7, 3) := by decide +kernel
theorem dX11_init_8 : decode cX11_init 8 = .ok (.dup, 1) := by decide +kernel
theorem dX11_init_9 : decode cX11_init 9 = .ok (.invokespecial 9, 3) := by decide +kernel
theorem dX11_init_12 : decode cX11_init 12 = .ok (.putfield 10, 3) := by decide +kernel
theorem dX11_init_15 : decode cX11_init 15 = .ok (.aload_n 0, 1) := by decide +kernel
theorem dX11_init_16 : decode cX11_init 16 = .ok (.new 16, 3) := by decide +kernel
theorem dX11_init_19 : decode cX11_init 19 = .ok (.dup, 1) := by decide +kernel
theorem dX11_init_20 : decode cX11_init 20 = .ok (.invokespecial 18, 3) := by decide +kernel
theorem dX11_init_23 : decode cX11_init 23 = .ok (.putfield 19, 3) := by decide +kernel
theorem dX11_init_26 : decode cX11_init 26 = .ok (.aload_n 0, 1) := by decide +kernel
theorem dX11_init_27 : decode cX11_init 27 = .ok (.new 23, 3) := by decide +kernel
theorem dX11_init_30 : decode cX11_init 30 = .ok (.dup, 1) := by decide +kernel
theorem dX11_init_31 : decode cX11_init 31 = .ok (.invokespecial 25, 3) := by decide +kernel
theorem dX11_init_34 : decode cX11_init 34 = .ok (.putfield 26, 3) := by decide +kernel
theorem dX11_init_37 : decode cX11_init 37 = .ok (.aload_n 0, 1) := by decide +kernel
theorem dX11_init_38 : decode cX11_init 38 = .ok (.new 23, 3) := by decide +kernel
theorem dX11_init_41 : decode cX11_init 41 = .ok (.dup, 1) := by decide +kernel
theorem dX11_init_42 : decode cX11_init 42 = .ok (.invokespecial 25, 3) := by decide +kernel
theorem dX11_init_45 : decode cX11_init 45 = .ok (.putfield 30, 3) := by decide +kernel
theorem dX11_init_48 : decode cX11_init 48 = .ok (.aload_n 0, 1) := by decide +kernel
theorem dX11_init_49 : decode cX11_init 49 = .ok (.new 23, 3) := by decide +kernel
theorem dX11_init_52 : decode cX11_init 52 = .ok (.dup, 1) := by decide +kernel
theorem dX11_init_53 : decode cX11_init 53 = .ok (.invokespecial 25, 3) := by decide +kernel
theorem dX11_init_56 : decode cX11_init 56 = .ok (.putfield 33, 3) := by decide +kernel
theorem dX11_init_59 : decode cX11_init 59 = .ok (.aload_n 0, 1) := by decide +kernel
theorem dX11_init_60 : decode cX11_init 60 = .ok (.new 23, 3) := by decide +kernel
theorem dX11_init_63 : decode cX11_init 63 = .ok (.dup, 1) := by decide +kernel
theorem dX11_init_64 : decode cX11_init 64 = .ok (.invokespecial 25, 3) := by decide +kernel
theorem dX11_init_67 : decode cX11_init 67 = .ok (.putfield 36, 3) := by decide +kernel
theorem dX11_init_70 : decode cX11_init 70 = .ok (.aload_n 0, 1) := by decide +kernel
theorem dX11_init_71 : decode cX11_init 71 = .ok (.new 39, 3) := by decide +kernel
theorem dX11_init_74 : decode cX11_init 74 = .ok (.dup, 1) := by decide +kernel
theorem dX11_init_75 : decode cX11_init 75 = .ok (.aload_n 0, 1) := by decide +kernel
theorem dX11_init_76 : decode cX11_init 76 = .ok (.getfield 19, 3) := by decide +kernel
theorem dX11_init_79 : decode cX11_init 79 = .ok (.invokespecial 41, 3) := by decide +kernel
theorem dX11_init_82 : decode cX11_init 82 = .ok (.putfield 44, 3) := by decide +kernel
theorem dX11_init_85 : decode cX11_init 85 = .ok (.aload_n 0, 1) := by decide +kernel
theorem dX11_init_86 : decode cX11_init 86 = .ok (.new 48, 3) := by decide +kernel
theorem dX11_init_89 : decode cX11_init 89 = .ok (.dup, 1) := by decide +kernel
theorem dX11_init_90 : decode cX11_init 90 = .ok (.invokespecial 50, 3) := by decide +kernel
theorem dX11_init_93 : decode cX11_init 93 = .ok (.putfield 51, 3) := by decide +kernel
theorem dX11_init_96 : decode cX11_init 96 = .ok (.aload_n 0, 1) := by decide +kernel
theorem dX11_init_97 : decode cX11_init 97 = .ok (.iconst 3, 1) := by decide +kernel
theorem dX11_init_98 : decode cX11_init 98 = .ok (.anewarray 23, 3) := by decide +kernel
theorem dX11_init_101 : decode cX11_init 101 = .ok (.putfield 55, 3) := by decide +kernel
theorem dX11_init_104 : decode cX11_init 104 = .ok (.aload_n 0, 1) := by decide +kernel
theorem dX11_init_105 : decode cX11_init 105 = .ok (.iconst 3, 1) := by decide +kernel
theorem dX11_init_106 : decode cX11_init 106 = .ok (.newarray .boolean, 2) := by decide +kernel
theorem dX11_init_108 : decode cX11_init 108 = .ok (.putfield 59, 3) := by decide +kernel
theorem dX11_init_111 : decode cX11_init 111 = .ok (.aload_n 0, 1) := by decide +kernel
theorem dX11_init_112 : decode cX11_init 112 = .ok (.new 63, 3) := by decide +kernel
theorem dX11_init_115 : decode cX11_init 115 = .ok (.dup, 1) := by decide +kernel
theorem dX11_init_116 : decode cX11_init 116 = .ok (.invokespecial 65, 3) := by decide +kernel
theorem dX11_init_119 : decode cX11_init 119 = .ok (.putfield 66, 3) := by decide +kernel
theorem dX11_init_122 : decode cX11_init 122 = .ok (.aload_n 0, 1) := by decide +kernel
theorem dX11_init_123 : decode cX11_init 123 = .ok (.new 70, 3) := by decide +kernel
theorem dX11_init_126 : decode cX11_init 126 = .ok (.dup, 1) := by decide +kernel
theorem dX11_init_127 : decode cX11_init 127 = .ok (.invokespecial 72, 3) := by decide +kernel
theorem dX11_init_130 : decode cX11_init 130 = .ok (.putfield 73, 3) := by decide +kernel
theorem dX11_init_133 : decode cX11_init 133 = .ok (.aload_n 0, 1) := by decide +kernel
theorem dX11_init_134 : decode cX11_init 134 = .ok (.new 77, 3) := by decide +kernel
theorem dX11_init_137 : decode cX11_init 137 = .ok (.dup, 1) := by decide +kernel
theorem dX11_init_138 : decode cX11_init 138 = .ok (.invokespecial 79, 3) := by decide +kernel
theorem dX11_init_141 : decode cX11_init 141 = .ok (.putfield 80, 3) := by decide +kernel
theorem dX11_init_144 : decode cX11_init 144 = .ok (.aload_n 0, 1) := by decide +kernel
theorem dX11_init_145 : decode cX11_init 145 = .ok (.new 84, 3) := by decide +kernel
theorem dX11_init_148 : decode cX11_init 148 = .ok (.dup, 1) := by decide +kernel
theorem dX11_init_149 : decode cX11_init 149 = .ok (.invokespecial 86, 3) := by decide +kernel
theorem dX11_init_152 : decode cX11_init 152 = .ok (.putfield 87, 3) := by decide +kernel
theorem dX11_init_155 : decode cX11_init 155 = .ok (.aload_n 0, 1) := by decide +kernel
theorem dX11_init_156 : decode cX11_init 156 = .ok (.new 91, 3) := by decide +kernel
theorem dX11_init_159 : decode cX11_init 159 = .ok (.dup, 1) := by decide +kernel
theorem dX11_init_160 : decode cX11_init 160 = .ok (.invokespecial 93, 3) := by decide +kernel
theorem dX11_init_163 : decode cX11_init 163 = .ok (.putfield 94, 3) := by decide +kernel
theorem dX11_init_166 : decode cX11_init 166 = .ok (.aload_n 0, 1) := by decide +kernel
theorem dX11_init_167 : decode cX11_init 167 = .ok (.iconst 0, 1) := by decide +kernel
theorem dX11_init_168 : decode cX11_init 168 = .ok (.putfield 98, 3) := by decide +kernel
theorem dX11_init_171 : decode cX11_init 171 = .ok (.aload_n 0, 1) := by decide +kernel
theorem dX11_init_172 : decode cX11_init 172 = .ok (.new 102, 3) := by decide +kernel
theorem dX11_init_175 : decode cX11_init 175 = .ok (.dup, 1) := by decide +kernel
theorem dX11_init_176 : decode cX11_init 176 = .ok (.invokespecial 104, 3) := by decide +kernel
theorem dX11_init_179 : decode cX11_init 179 = .ok (.putfield 105, 3) := by decide +kernel
theorem dX11_init_182 : decode cX11_init 182 = .ok (.aload_n 0, 1) := by decide +kernel
theorem dX11_init_183 : decode cX11_init 183 = .ok (.new 102, 3) := by decide +kernel
theorem dX11_init_186 : decode cX11_init 186 = .ok (.dup, 1) := by decide +kernel
theorem dX11_init_187 : decode cX11_init 187 = .ok (.invokespecial 104, 3) := by decide +kernel
theorem dX11_init_190 : decode cX11_init 190 = .ok (.putfield 109, 3) := by decide +kernel
theorem dX11_init_193 : decode cX11_init 193 = .ok (.iconst 0, 1) := by decide +kernel
theorem dX11_init_194 : decode cX11_init 194 = .ok (.istore_n 1, 1) := by decide +kernel
theorem dX11_init_195 : decode cX11_init 195 = .ok (.iload_n 1, 1) := by decide +kernel
theorem dX11_init_196 : decode cX11_init 196 = .ok (.iconst 3, 1) := by decide +kernel
theorem dX11_init_197 : decode cX11_init 197 = .ok (.if_icmp .ge 22, 3) := by decide +kernel
theorem dX11_init_200 : decode cX11_init 200 = .ok (.aload_n 0, 1) := by decide +kernel
theorem dX11_init_201 : decode cX11_init 201 = .ok (.getfield 55, 3) := by decide +kernel
theorem dX11_init_204 : decode cX11_init 204 = .ok (.iload_n 1, 1) := by decide +kernel
theorem dX11_init_205 : decode cX11_init 205 = .ok (.new 23, 3) := by decide +kernel
theorem dX11_init_208 : decode cX11_init 208 = .ok (.dup, 1) := by decide +kernel
theorem dX11_init_209 : decode cX11_init 209 = .ok (.invokespecial 25, 3) := by decide +kernel
theorem dX11_init_212 : decode cX11_init 212 = .ok (.aastore, 1) := by decide +kernel
theorem dX11_init_213 : decode cX11_init 213 = .ok (.iinc 1 1, 3) := by decide +kernel
theorem dX11_init_216 : decode cX11_init 216 = .ok (.goto (-21), 3) := by decide +kernel
theorem dX11_init_219 : decode cX11_init 219 = .ok (.aload_n 0, 1) := by decide +kernel
theorem dX11_init_220 : decode cX11_init 220 = .ok (.getfield 105, 3) := by decide +kernel
theorem dX11_init_223 : decode cX11_init 223 = .ok (.invokevirtual 112, 3) := by decide +kernel
theorem dX11_init_226 : decode cX11_init 226 = .ok (.aload_n 0, 1) := by decide +kernel
theorem dX11_init_227 : decode cX11_init 227 = .ok (.getfield 109, 3) := by decide +kernel
theorem dX11_init_230 : decode cX11_init 230 = .ok (.invokevirtual 112, 3) := by decide +kernel
theorem dX11_init_233 : decode cX11_init 233 = .ok (.return_, 1) := by decide +kernel
theorem dX11_sign_0 : decode cX11_sign 0 = .ok (.aload_n 0, 1) := by decide +kernel
theorem dX11_sign_1 : decode cX11_sign 1 = .ok (.getfield 10, 3) := by decide +kernel
theorem dX11_sign_4 : decode cX11_sign 4 = .ok (.iload_n 1, 1) := by decide +kernel
theorem dX11_sign_5 : decode cX11_sign 5 = .ok (.invokevirtual 115, 3) := by decide +kernel
theorem dX11_sign_8 : decode cX11_sign 8 = .ok (.ifCond .eq 13, 3) := by decide +kernel
theorem dX11_sign_11 : decode cX11_sign 11 = .ok (.aload_n 0, 1) := by decide +kernel
theorem dX11_sign_12 : decode cX11_sign 12 = .ok (.getfield 10, 3) := by decide +kernel
theorem dX11_sign_15 : decode cX11_sign 15 = .ok (.getfield 119, 3) := by decide +kernel
theorem dX11_sign_18 : decode cX11_sign 18 = .ok (.goto 4, 3) := by decide +kernel
theorem dX11_sign_21 : decode cX11_sign 21 = .ok (.iconst (-1), 1) := by decide +kernel
theorem dX11_sign_22 : decode cX11_sign 22 = .ok (.ireturn, 1) := by decide +kernel
theorem dX11_end_0 : decode cX11_end 0 = .ok (.aload_n 0, 1) := by decide +kernel
theorem dX11_end_1 : decode cX11_end 1 = .ok (.getfield 10, 3) := by decide +kernel
theorem dX11_end_4 : decode cX11_end 4 = .ok (.iload_n 1, 1) := by decide +kernel
theorem dX11_end_5 : decode cX11_end 5 = .ok (.invokevirtual 122, 3) := by decide +kernel
theorem dX11_end_8 : decode cX11_end 8 = .ok (.ireturn, 1) := by decide +kernel
theorem dX11_avenue_0 : decode cX11_avenue 0 = .ok (.aload_n 0, 1) := by decide +kernel
theorem dX11_avenue_1 : decode cX11_avenue 1 = .ok (.invokevirtual 125, 3) := by decide +kernel
theorem dX11_avenue_4 : decode cX11_avenue 4 = .ok (.istore_n 1, 1) := by decide +kernel
theorem dX11_avenue_5 : decode cX11_avenue 5 = .ok (.aload_n 0, 1) := by decide +kernel
theorem dX11_avenue_6 : decode cX11_avenue 6 = .ok (.getfield 10, 3) := by decide +kernel
theorem dX11_avenue_9 : decode cX11_avenue 9 = .ok (.getfield 119, 3) := by decide +kernel
theorem dX11_avenue_12 : decode cX11_avenue 12 = .ok (.istore_n 2, 1) := by decide +kernel
theorem dX11_avenue_13 : decode cX11_avenue 13 = .ok (.iload_n 1, 1) := by decide +kernel
theorem dX11_avenue_14 : decode cX11_avenue 14 = .ok (.iconst (-1), 1) := by decide +kernel
theorem dX11_avenue_15 : decode cX11_avenue 15 = .ok (.if_icmp .ne 32, 3) := by decide +kernel
theorem dX11_avenue_18 : decode cX11_avenue 18 = .ok (.aload_n 0, 1) := by decide +kernel
theorem dX11_avenue_19 : decode cX11_avenue 19 = .ok (.getfield 19, 3) := by decide +kernel
theorem dX11_avenue_22 : decode cX11_avenue 22 = .ok (.aload_n 0, 1) := by decide +kernel
theorem dX11_avenue_23 : decode cX11_avenue 23 = .ok (.getfield 10, 3) := by decide +kernel
theorem dX11_avenue_26 : decode cX11_avenue 26 = .ok (.invokevirtual 129, 3) := by decide +kernel
theorem dX11_avenue_29 : decode cX11_avenue 29 = .ok (.aload_n 0, 1) := by decide +kernel
theorem dX11_avenue_30 : decode cX11_avenue 30 = .ok (.getfield 26, 3) := by decide +kernel
theorem dX11_avenue_33 : decode cX11_avenue 33 = .ok (.invokevirtual 133, 3) := by decide +kernel
theorem dX11_avenue_36 : decode cX11_avenue 36 = .ok (.aload_n 0, 1) := by decide +kernel
theorem dX11_avenue_37 : decode cX11_avenue 37 = .ok (.getfield 51, 3) := by decide +kernel
theorem dX11_avenue_40 : decode cX11_avenue 40 = .ok (.invokevirtual 136, 3) := by decide +kernel
theorem dX11_avenue_43 : decode cX11_avenue 43 = .ok (.aload_n 0, 1) := by decide +kernel
theorem dX11_avenue_44 : decode cX11_avenue 44 = .ok (.invokevirtual 137, 3) := by decide +kernel
theorem dX11_avenue_47 : decode cX11_avenue 47 = .ok (.aload_n 0, 1) := by decide +kernel
theorem dX11_avenue_48 : decode cX11_avenue 48 = .ok (.getfield 10, 3) := by decide +kernel
theorem dX11_avenue_51 : decode cX11_avenue 51 = .ok (.invokevirtual 140, 3) := by decide +kernel
theorem dX11_avenue_54 : decode cX11_avenue 54 = .ok (.iload_n 1, 1) := by decide +kernel
theorem dX11_avenue_55 : decode cX11_avenue 55 = .ok (.iconst (-1), 1) := by decide +kernel
theorem dX11_avenue_56 : decode cX11_avenue 56 = .ok (.if_icmp .ne 7, 3) := by decide +kernel
theorem dX11_avenue_59 : decode cX11_avenue 59 = .ok (.iload_n 2, 1) := by decide +kernel
theorem dX11_avenue_60 : decode cX11_avenue 60 = .ok (.goto 6, 3) := by decide +kernel
theorem dX11_avenue_63 : decode cX11_avenue 63 = .ok (.iconst (-1), 1) := by decide +kernel
theorem dX11_avenue_64 : decode cX11_avenue 64 = .ok (.iload_n 1, 1) := by decide +kernel
theorem dX11_avenue_65 : decode cX11_avenue 65 = .ok (.isub, 1) := by decide +kernel
theorem dX11_avenue_66 : decode cX11_avenue 66 = .ok (.ireturn, 1) := by decide +kernel
theorem dX11_avenueFault_0 : decode cX11_avenueFault 0 = .ok (.iconst 0, 1) := by decide +kernel
theorem dX11_avenueFault_1 : decode cX11_avenueFault 1 = .ok (.istore_n 1, 1) := by decide +kernel
theorem dX11_avenueFault_2 : decode cX11_avenueFault 2 = .ok (.iload_n 1, 1) := by decide +kernel
theorem dX11_avenueFault_3 : decode cX11_avenueFault 3 = .ok (.aload_n 0, 1) := by decide +kernel
theorem dX11_avenueFault_4 : decode cX11_avenueFault 4 = .ok (.getfield 10, 3) := by decide +kernel
theorem dX11_avenueFault_7 : decode cX11_avenueFault 7 = .ok (.getfield 119, 3) := by decide +kernel
theorem dX11_avenueFault_10 : decode cX11_avenueFault 10 = .ok (.if_icmp .ge 38, 3) := by decide +kernel
theorem dX11_avenueFault_13 : decode cX11_avenueFault 13 = .ok (.aload_n 0, 1) := by decide +kernel
theorem dX11_avenueFault_14 : decode cX11_avenueFault 14 = .ok (.getfield 10, 3) := by decide +kernel
theorem dX11_avenueFault_17 : decode cX11_avenueFault 17 = .ok (.iload_n 1, 1) := by decide +kernel
theorem dX11_avenueFault_18 : decode cX11_avenueFault 18 = .ok (.invokevirtual 141, 3) := by decide +kernel
theorem dX11_avenueFault_21 : decode cX11_avenueFault 21 = .ok (.istore_n 2, 1) := by decide +kernel
theorem dX11_avenueFault_22 : decode cX11_avenueFault 22 = .ok (.iload_n 1, 1) := by decide +kernel
theorem dX11_avenueFault_23 : decode cX11_avenueFault 23 = .ok (.bipush 30, 2) := by decide +kernel
theorem dX11_avenueFault_25 : decode cX11_avenueFault 25 = .ok (.if_icmp .eq 15, 3) := by decide +kernel
theorem dX11_avenueFault_28 : decode cX11_avenueFault 28 = .ok (.iload_n 2, 1) := by decide +kernel
theorem dX11_avenueFault_29 : decode cX11_avenueFault 29 = .ok (.bipush 46, 2) := by decide +kernel
theorem dX11_avenueFault_31 : decode cX11_avenueFault 31 = .ok (.if_icmp .eq 11, 3) := by decide +kernel
theorem dX11_avenueFault_34 : decode cX11_avenueFault 34 = .ok (.iload_n 2, 1) := by decide +kernel
theorem dX11_avenueFault_35 : decode cX11_avenueFault 35 = .ok (.bipush 99, 2) := by decide +kernel
theorem dX11_avenueFault_37 : decode cX11_avenueFault 37 = .ok (.if_icmp .eq 5, 3) := by decide +kernel
theorem dX11_avenueFault_40 : decode cX11_avenueFault 40 = .ok (.iload_n 1, 1) := by decide +kernel
theorem dX11_avenueFault_41 : decode cX11_avenueFault 41 = .ok (.ireturn, 1) := by decide +kernel
theorem dX11_avenueFault_42 : decode cX11_avenueFault 42 = .ok (.iinc 1 1, 3) := by decide +kernel
theorem dX11_avenueFault_45 : decode cX11_avenueFault 45 = .ok (.goto (-43), 3) := by decide +kernel
theorem dX11_avenueFault_48 : decode cX11_avenueFault 48 = .ok (.aload_n 0, 1) := by decide +kernel
theorem dX11_avenueFault_49 : decode cX11_avenueFault 49 = .ok (.getfield 10, 3) := by decide +kernel
theorem dX11_avenueFault_52 : decode cX11_avenueFault 52 = .ok (.getfield 119, 3) := by decide +kernel
theorem dX11_avenueFault_55 : decode cX11_avenueFault 55 = .ok (.iconst 4, 1) := by decide +kernel
theorem dX11_avenueFault_56 : decode cX11_avenueFault 56 = .ok (.if_icmp .ge 13, 3) := by decide +kernel
theorem dX11_avenueFault_59 : decode cX11_avenueFault 59 = .ok (.aload_n 0, 1) := by decide +kernel
theorem dX11_avenueFault_60 : decode cX11_avenueFault 60 = .ok (.getfield 10, 3) := by decide +kernel
theorem dX11_avenueFault_63 : decode cX11_avenueFault 63 = .ok (.getfield 119, 3) := by decide +kernel
theorem dX11_avenueFault_66 : decode cX11_avenueFault 66 = .ok (.goto 4, 3) := by decide +kernel
theorem dX11_avenueFault_69 : decode cX11_avenueFault 69 = .ok (.iconst (-1), 1) := by decide +kernel
theorem dX11_avenueFault_70 : decode cX11_avenueFault 70 = .ok (.ireturn, 1) := by decide +kernel
theorem dX11_forgetKept_0 : decode cX11_forgetKept 0 = .ok (.iconst 0, 1) := by decide +kernel
theorem dX11_forgetKept_1 : decode cX11_forgetKept 1 = .ok (.istore_n 1, 1) := by decide +kernel
theorem dX11_forgetKept_2 : decode cX11_forgetKept 2 = .ok (.iload_n 1, 1) := by decide +kernel
theorem dX11_forgetKept_3 : decode cX11_forgetKept 3 = .ok (.iconst 3, 1) := by decide +kernel
theorem dX11_forgetKept_4 : decode cX11_forgetKept 4 = .ok (.if_icmp .ge 16, 3) := by decide +kernel
theorem dX11_forgetKept_7 : decode cX11_forgetKept 7 = .ok (.aload_n 0, 1) := by decide +kernel
theorem dX11_forgetKept_8 : decode cX11_forgetKept 8 = .ok (.getfield 59, 3) := by decide +kernel
theorem dX11_forgetKept_11 : decode cX11_forgetKept 11 = .ok (.iload_n 1, 1) := by decide +kernel
theorem dX11_forgetKept_12 : decode cX11_forgetKept 12 = .ok (.iconst 0, 1) := by decide +kernel
theorem dX11_forgetKept_13 : decode cX11_forgetKept 13 = .ok (.bastore, 1) := by decide +kernel
theorem dX11_forgetKept_14 : decode cX11_forgetKept 14 = .ok (.iinc 1 1, 3) := by decide +kernel
theorem dX11_forgetKept_17 : decode cX11_forgetKept 17 = .ok (.goto (-15), 3) := by decide +kernel
theorem dX11_forgetKept_20 : decode cX11_forgetKept 20 = .ok (.return_, 1) := by decide +kernel
theorem dX11_hearses_0 : decode cX11_hearses 0 = .ok (.aload_n 0, 1) := by decide +kernel
theorem dX11_hearses_1 : decode cX11_hearses 1 = .ok (.getfield 10, 3) := by decide +kernel
theorem dX11_hearses_4 : decode cX11_hearses 4 = .ok (.invokevirtual 145, 3) := by decide +kernel
theorem dX11_hearses_7 : decode cX11_hearses 7 = .ok (.ifCond .eq 7, 3) := by decide +kernel
theorem dX11_hearses_10 : decode cX11_hearses 10 = .ok (.iconst 0, 1) := by decide +kernel
theorem dX11_hearses_11 : decode cX11_hearses 11 = .ok (.goto 8, 3) := by decide +kernel
theorem dX11_hearses_14 : decode cX11_hearses 14 = .ok (.aload_n 0, 1) := by decide +kernel
theorem dX11_hearses_15 : decode cX11_hearses 15 = .ok (.iconst 1, 1) := by decide +kernel
theorem dX11_hearses_16 : decode cX11_hearses 16 = .ok (.invokevirtual 149, 3) := by decide +kernel
theorem dX11_hearses_19 : decode cX11_hearses 19 = .ok (.istore_n 1, 1) := by decide +kernel
theorem dX11_hearses_20 : decode cX11_hearses 20 = .ok (.aload_n 0, 1) := by decide +kernel
theorem dX11_hearses_21 : decode cX11_hearses 21 = .ok (.getfield 10, 3) := by decide +kernel
theorem dX11_hearses_24 : decode cX11_hearses 24 = .ok (.invokevirtual 140, 3) := by decide +kernel
theorem dX11_hearses_27 : decode cX11_hearses 27 = .ok (.iload_n 1, 1) := by decide +kernel
theorem dX11_hearses_28 : decode cX11_hearses 28 = .ok (.ireturn, 1) := by decide +kernel
theorem dX11_mourners_0 : decode cX11_mourners 0 = .ok (.aload_n 0, 1) := by decide +kernel
theorem dX11_mourners_1 : decode cX11_mourners 1 = .ok (.getfield 10, 3) := by decide +kernel
theorem dX11_mourners_4 : decode cX11_mourners 4 = .ok (.invokevirtual 145, 3) := by decide +kernel
theorem dX11_mourners_7 : decode cX11_mourners 7 = .ok (.ifCond .eq 7, 3) := by decide +kernel
theorem dX11_mourners_10 : decode cX11_mourners 10 = .ok (.iconst 0, 1) := by decide +kernel
theorem dX11_mourners_11 : decode cX11_mourners 11 = .ok (.goto 8, 3) := by decide +kernel
theorem dX11_mourners_14 : decode cX11_mourners 14 = .ok (.aload_n 0, 1) := by decide +kernel
theorem dX11_mourners_15 : decode cX11_mourners 15 = .ok (.iconst 0, 1) := by decide +kernel
theorem dX11_mourners_16 : decode cX11_mourners 16 = .ok (.invokevirtual 149, 3) := by decide +kernel
theorem dX11_mourners_19 : decode cX11_mourners 19 = .ok (.istore_n 1, 1) := by decide +kernel
theorem dX11_mourners_20 : decode cX11_mourners 20 = .ok (.aload_n 0, 1) := by decide +kernel
theorem dX11_mourners_21 : decode cX11_mourners 21 = .ok (.getfield 10, 3) := by decide +kernel
theorem dX11_mourners_24 : decode cX11_mourners 24 = .ok (.invokevirtual 140, 3) := by decide +kernel
theorem dX11_mourners_27 : decode cX11_mourners 27 = .ok (.iload_n 1, 1) := by decide +kernel
theorem dX11_mourners_28 : decode cX11_mourners 28 = .ok (.ireturn, 1) := by decide +kernel
theorem dX11_readLines_0 : decode cX11_readLines 0 = .ok (.aload_n 0, 1) := by decide +kernel
theorem dX11_readLines_1 : decode cX11_readLines 1 = .ok (.getfield 30, 3) := by decide +kernel
theorem dX11_readLines_4 : decode cX11_readLines 4 = .ok (.aload_n 0, 1) := by decide +kernel
theorem dX11_readLines_5 : decode cX11_readLines 5 = .ok (.getfield 26, 3) := by decide +kernel
theorem dX11_readLines_8 : decode cX11_readLines 8 = .ok (.invokevirtual 153, 3) := by decide +kernel
theorem dX11_readLines_11 : decode cX11_readLines 11 = .ok (.aload_n 0, 1) := by decide +kernel
theorem dX11_readLines_12 : decode cX11_readLines 12 = .ok (.getfield 10, 3) := by decide +kernel
theorem dX11_readLines_15 : decode cX11_readLines 15 = .ok (.iload_n 1, 1) := by decide +kernel
theorem dX11_readLines_16 : decode cX11_readLines 16 = .ok (.ifCond .eq 8, 3) := by decide +kernel
theorem dX11_readLines_19 : decode cX11_readLines 19 = .ok (.bipush 17, 2) := by decide +kernel
theorem dX11_readLines_21 : decode cX11_readLines 21 = .ok (.goto 5, 3) := by decide +kernel
theorem dX11_readLines_24 : decode cX11_readLines 24 = .ok (.bipush 39, 2) := by decide +kernel
theorem dX11_readLines_26 : decode cX11_readLines 26 = .ok (.invokevirtual 157, 3) := by decide +kernel
theorem dX11_readLines_29 : decode cX11_readLines 29 = .ok (.iconst 0, 1) := by decide +kernel
theorem dX11_readLines_30 : decode cX11_readLines 30 = .ok (.istore_n 2, 1) := by decide +kernel
theorem dX11_readLines_31 : decode cX11_readLines 31 = .ok (.iconst 1, 1) := by decide +kernel
theorem dX11_readLines_32 : decode cX11_readLines 32 = .ok (.istore_n 3, 1) := by decide +kernel
theorem dX11_readLines_33 : decode cX11_readLines 33 = .ok (.iload_n 3, 1) := by decide +kernel
theorem dX11_readLines_34 : decode cX11_readLines 34 = .ok (.ifCond .eq 56, 3) := by decide +kernel
theorem dX11_readLines_37 : decode cX11_readLines 37 = .ok (.iload_n 2, 1) := by decide +kernel
theorem dX11_readLines_38 : decode cX11_readLines 38 = .ok (.bipush 80, 2) := by decide +kernel
theorem dX11_readLines_40 : decode cX11_readLines 40 = .ok (.if_icmp .gt 50, 3) := by decide +kernel
theorem dX11_readLines_43 : decode cX11_readLines 43 = .ok (.iload_n 1, 1) := by decide +kernel
theorem dX11_readLines_44 : decode cX11_readLines 44 = .ok (.ifCond .eq 13, 3) := by decide +kernel
theorem dX11_readLines_47 : decode cX11_readLines 47 = .ok (.aload_n 0, 1) := by decide +kernel
theorem dX11_readLines_48 : decode cX11_readLines 48 = .ok (.invokevirtual 161, 3) := by decide +kernel
theorem dX11_readLines_51 : decode cX11_readLines 51 = .ok (.ifCond .eq 13, 3) := by decide +kernel
theorem dX11_readLines_54 : decode cX11_readLines 54 = .ok (.goto 20, 3) := by decide +kernel
theorem dX11_readLines_57 : decode cX11_readLines 57 = .ok (.aload_n 0, 1) := by decide +kernel
theorem dX11_readLines_58 : decode cX11_readLines 58 = .ok (.invokevirtual 164, 3) := by decide +kernel
theorem dX11_readLines_61 : decode cX11_readLines 61 = .ok (.ifCond .ne 13, 3) := by decide +kernel
theorem dX11_readLines_64 : decode cX11_readLines 64 = .ok (.iconst (-1), 1) := by decide +kernel
theorem dX11_readLines_65 : decode cX11_readLines 65 = .ok (.aload_n 0, 1) := by decide +kernel
theorem dX11_readLines_66 : decode cX11_readLines 66 = .ok (.getfield 10, 3) := by decide +kernel
theorem dX11_readLines_69 : decode cX11_readLines 69 = .ok (.getfield 167, 3) := by decide +kernel
theorem dX11_readLines_72 : decode cX11_readLines 72 = .ok (.isub, 1) := by decide +kernel
theorem dX11_readLines_73 : decode cX11_readLines 73 = .ok (.ireturn, 1) := by decide +kernel
theorem dX11_readLines_74 : decode cX11_readLines 74 = .ok (.iinc 2 1, 3) := by decide +kernel
theorem dX11_readLines_77 : decode cX11_readLines 77 = .ok (.aload_n 0, 1) := by decide +kernel
theorem dX11_readLines_78 : decode cX11_readLines 78 = .ok (.getfield 10, 3) := by decide +kernel
theorem dX11_readLines_81 : decode cX11_readLines 81 = .ok (.bipush 59, 2) := by decide +kernel
theorem dX11_readLines_83 : decode cX11_readLines 83 = .ok (.invokevirtual 170, 3) := by decide +kernel
theorem dX11_readLines_86 : decode cX11_readLines 86 = .ok (.istore_n 3, 1) := by decide +kernel
theorem dX11_readLines_87 : decode cX11_readLines 87 = .ok (.goto (-54), 3) := by decide +kernel
theorem dX11_readLines_90 : decode cX11_readLines 90 = .ok (.aload_n 0, 1) := by decide +kernel
theorem dX11_readLines_91 : decode cX11_readLines 91 = .ok (.getfield 10, 3) := by decide +kernel
theorem dX11_readLines_94 : decode cX11_readLines 94 = .ok (.invokevirtual 173, 3) := by decide +kernel
theorem dX11_readLines_97 : decode cX11_readLines 97 = .ok (.ifCond .ne 13, 3) := by decide +kernel
theorem dX11_readLines_100 : decode cX11_readLines 100 = .ok (.iconst (-1), 1) := by decide +kernel
theorem dX11_readLines_101 : decode cX11_readLines 101 = .ok (.aload_n 0, 1) := by decide +kernel
theorem dX11_readLines_102 : decode cX11_readLines 102 = .ok (.getfield 10, 3) := by decide +kernel
theorem dX11_readLines_105 : decode cX11_readLines 105 = .ok (.getfield 167, 3) := by decide +kernel
theorem dX11_readLines_108 : decode cX11_readLines 108 = .ok (.isub, 1) := by decide +kernel
theorem dX11_readLines_109 : decode cX11_readLines 109 = .ok (.ireturn, 1) := by decide +kernel
theorem dX11_readLines_110 : decode cX11_readLines 110 = .ok (.aload_n 0, 1) := by decide +kernel
theorem dX11_readLines_111 : decode cX11_readLines 111 = .ok (.getfield 26, 3) := by decide +kernel
theorem dX11_readLines_114 : decode cX11_readLines 114 = .ok (.aload_n 0, 1) := by decide +kernel
theorem dX11_readLines_115 : decode cX11_readLines 115 = .ok (.getfield 30, 3) := by decide +kernel
theorem dX11_readLines_118 : decode cX11_readLines 118 = .ok (.invokevirtual 153, 3) := by decide +kernel
