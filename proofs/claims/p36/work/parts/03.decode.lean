theorem dX0_init_0 : decode cX0_init 0 = .ok (.aload_n 0, 1) := by decide +kernel
theorem dX0_init_1 : decode cX0_init 1 = .ok (.invokespecial 3, 3) := by decide +kernel
theorem dX0_init_4 : decode cX0_init 4 = .ok (.aload_n 0, 1) := by decide +kernel
theorem dX0_init_5 : decode cX0_init 5 = .ok (.bipush 10, 2) := by decide +kernel
theorem dX0_init_7 : decode cX0_init 7 = .ok (.newarray .int, 2) := by decide +kernel
theorem dX0_init_9 : decode cX0_init 9 = .ok (.putfield 9, 3) := by decide +kernel
theorem dX0_init_12 : decode cX0_init 12 = .ok (.aload_n 0, 1) := by decide +kernel
theorem dX0_init_13 : decode cX0_init 13 = .ok (.bipush 8, 2) := by decide +kernel
theorem dX0_init_15 : decode cX0_init 15 = .ok (.anewarray 15, 3) := by decide +kernel
theorem dX0_init_18 : decode cX0_init 18 = .ok (.putfield 17, 3) := by decide +kernel
theorem dX0_init_21 : decode cX0_init 21 = .ok (.aload_n 0, 1) := by decide +kernel
theorem dX0_init_22 : decode cX0_init 22 = .ok (.iconst 0, 1) := by decide +kernel
theorem dX0_init_23 : decode cX0_init 23 = .ok (.putfield 21, 3) := by decide +kernel
theorem dX0_init_26 : decode cX0_init 26 = .ok (.aload_n 0, 1) := by decide +kernel
theorem dX0_init_27 : decode cX0_init 27 = .ok (.iconst 0, 1) := by decide +kernel
theorem dX0_init_28 : decode cX0_init 28 = .ok (.putfield 25, 3) := by decide +kernel
theorem dX0_init_31 : decode cX0_init 31 = .ok (.aload_n 0, 1) := by decide +kernel
theorem dX0_init_32 : decode cX0_init 32 = .ok (.iconst 4, 1) := by decide +kernel
theorem dX0_init_33 : decode cX0_init 33 = .ok (.putfield 28, 3) := by decide +kernel
theorem dX0_init_36 : decode cX0_init 36 = .ok (.aload_n 0, 1) := by decide +kernel
theorem dX0_init_37 : decode cX0_init 37 = .ok (.iconst 0, 1) := by decide +kernel
theorem dX0_init_38 : decode cX0_init 38 = .ok (.putfield 31, 3) := by decide +kernel
theorem dX0_init_41 : decode cX0_init 41 = .ok (.aload_n 0, 1) := by decide +kernel
theorem dX0_init_42 : decode cX0_init 42 = .ok (.iconst 0, 1) := by decide +kernel
theorem dX0_init_43 : decode cX0_init 43 = .ok (.putfield 34, 3) := by decide +kernel
theorem dX0_init_46 : decode cX0_init 46 = .ok (.aload_n 0, 1) := by decide +kernel
theorem dX0_init_47 : decode cX0_init 47 = .ok (.iconst 0, 1) := by decide +kernel
theorem dX0_init_48 : decode cX0_init 48 = .ok (.putfield 37, 3) := by decide +kernel
theorem dX0_init_51 : decode cX0_init 51 = .ok (.aload_n 0, 1) := by decide +kernel
theorem dX0_init_52 : decode cX0_init 52 = .ok (.iconst 0, 1) := by decide +kernel
theorem dX0_init_53 : decode cX0_init 53 = .ok (.putfield 40, 3) := by decide +kernel
theorem dX0_init_56 : decode cX0_init 56 = .ok (.aload_n 0, 1) := by decide +kernel
theorem dX0_init_57 : decode cX0_init 57 = .ok (.iconst 0, 1) := by decide +kernel
theorem dX0_init_58 : decode cX0_init 58 = .ok (.putfield 43, 3) := by decide +kernel
theorem dX0_init_61 : decode cX0_init 61 = .ok (.aload_n 0, 1) := by decide +kernel
theorem dX0_init_62 : decode cX0_init 62 = .ok (.iconst 0, 1) := by decide +kernel
theorem dX0_init_63 : decode cX0_init 63 = .ok (.putfield 46, 3) := by decide +kernel
theorem dX0_init_66 : decode cX0_init 66 = .ok (.aload_n 0, 1) := by decide +kernel
theorem dX0_init_67 : decode cX0_init 67 = .ok (.iconst 0, 1) := by decide +kernel
theorem dX0_init_68 : decode cX0_init 68 = .ok (.putfield 49, 3) := by decide +kernel
theorem dX0_init_71 : decode cX0_init 71 = .ok (.iconst 0, 1) := by decide +kernel
theorem dX0_init_72 : decode cX0_init 72 = .ok (.istore_n 1, 1) := by decide +kernel
theorem dX0_init_73 : decode cX0_init 73 = .ok (.iload_n 1, 1) := by decide +kernel
theorem dX0_init_74 : decode cX0_init 74 = .ok (.bipush 10, 2) := by decide +kernel
theorem dX0_init_76 : decode cX0_init 76 = .ok (.if_icmp .ge 17, 3) := by decide +kernel
theorem dX0_init_79 : decode cX0_init 79 = .ok (.aload_n 0, 1) := by decide +kernel
theorem dX0_init_80 : decode cX0_init 80 = .ok (.getfield 9, 3) := by decide +kernel
theorem dX0_init_83 : decode cX0_init 83 = .ok (.iload_n 1, 1) := by decide +kernel
theorem dX0_init_84 : decode cX0_init 84 = .ok (.bipush 10, 2) := by decide +kernel
theorem dX0_init_86 : decode cX0_init 86 = .ok (.iastore, 1) := by decide +kernel
theorem dX0_init_87 : decode cX0_init 87 = .ok (.iinc 1 1, 3) := by decide +kernel
theorem dX0_init_90 : decode cX0_init 90 = .ok (.goto (-17), 3) := by decide +kernel
theorem dX0_init_93 : decode cX0_init 93 = .ok (.iconst 0, 1) := by decide +kernel
theorem dX0_init_94 : decode cX0_init 94 = .ok (.istore_n 1, 1) := by decide +kernel
theorem dX0_init_95 : decode cX0_init 95 = .ok (.iload_n 1, 1) := by decide +kernel
theorem dX0_init_96 : decode cX0_init 96 = .ok (.bipush 8, 2) := by decide +kernel
theorem dX0_init_98 : decode cX0_init 98 = .ok (.if_icmp .ge 22, 3) := by decide +kernel
theorem dX0_init_101 : decode cX0_init 101 = .ok (.aload_n 0, 1) := by decide +kernel
theorem dX0_init_102 : decode cX0_init 102 = .ok (.getfield 17, 3) := by decide +kernel
theorem dX0_init_105 : decode cX0_init 105 = .ok (.iload_n 1, 1) := by decide +kernel
theorem dX0_init_106 : decode cX0_init 106 = .ok (.new 15, 3) := by decide +kernel
theorem dX0_init_109 : decode cX0_init 109 = .ok (.dup, 1) := by decide +kernel
theorem dX0_init_110 : decode cX0_init 110 = .ok (.invokespecial 52, 3) := by decide +kernel
theorem dX0_init_113 : decode cX0_init 113 = .ok (.aastore, 1) := by decide +kernel
theorem dX0_init_114 : decode cX0_init 114 = .ok (.iinc 1 1, 3) := by decide +kernel
theorem dX0_init_117 : decode cX0_init 117 = .ok (.goto (-22), 3) := by decide +kernel
theorem dX0_init_120 : decode cX0_init 120 = .ok (.return_, 1) := by decide +kernel
theorem dX0_copyFrom_0 : decode cX0_copyFrom 0 = .ok (.iconst 0, 1) := by decide +kernel
theorem dX0_copyFrom_1 : decode cX0_copyFrom 1 = .ok (.istore_n 2, 1) := by decide +kernel
theorem dX0_copyFrom_2 : decode cX0_copyFrom 2 = .ok (.iload_n 2, 1) := by decide +kernel
theorem dX0_copyFrom_3 : decode cX0_copyFrom 3 = .ok (.bipush 10, 2) := by decide +kernel
theorem dX0_copyFrom_5 : decode cX0_copyFrom 5 = .ok (.if_icmp .ge 21, 3) := by decide +kernel
theorem dX0_copyFrom_8 : decode cX0_copyFrom 8 = .ok (.aload_n 0, 1) := by decide +kernel
theorem dX0_copyFrom_9 : decode cX0_copyFrom 9 = .ok (.getfield 9, 3) := by decide +kernel
theorem dX0_copyFrom_12 : decode cX0_copyFrom 12 = .ok (.iload_n 2, 1) := by decide +kernel
theorem dX0_copyFrom_13 : decode cX0_copyFrom 13 = .ok (.aload_n 1, 1) := by decide +kernel
theorem dX0_copyFrom_14 : decode cX0_copyFrom 14 = .ok (.getfield 9, 3) := by decide +kernel
theorem dX0_copyFrom_17 : decode cX0_copyFrom 17 = .ok (.iload_n 2, 1) := by decide +kernel
theorem dX0_copyFrom_18 : decode cX0_copyFrom 18 = .ok (.iaload, 1) := by decide +kernel
theorem dX0_copyFrom_19 : decode cX0_copyFrom 19 = .ok (.iastore, 1) := by decide +kernel
theorem dX0_copyFrom_20 : decode cX0_copyFrom 20 = .ok (.iinc 2 1, 3) := by decide +kernel
theorem dX0_copyFrom_23 : decode cX0_copyFrom 23 = .ok (.goto (-21), 3) := by decide +kernel
theorem dX0_copyFrom_26 : decode cX0_copyFrom 26 = .ok (.iconst 0, 1) := by decide +kernel
theorem dX0_copyFrom_27 : decode cX0_copyFrom 27 = .ok (.istore_n 2, 1) := by decide +kernel
theorem dX0_copyFrom_28 : decode cX0_copyFrom 28 = .ok (.iload_n 2, 1) := by decide +kernel
theorem dX0_copyFrom_29 : decode cX0_copyFrom 29 = .ok (.aload_n 1, 1) := by decide +kernel
theorem dX0_copyFrom_30 : decode cX0_copyFrom 30 = .ok (.getfield 21, 3) := by decide +kernel
theorem dX0_copyFrom_33 : decode cX0_copyFrom 33 = .ok (.if_icmp .ge 24, 3) := by decide +kernel
theorem dX0_copyFrom_36 : decode cX0_copyFrom 36 = .ok (.aload_n 0, 1) := by decide +kernel
theorem dX0_copyFrom_37 : decode cX0_copyFrom 37 = .ok (.getfield 17, 3) := by decide +kernel
theorem dX0_copyFrom_40 : decode cX0_copyFrom 40 = .ok (.iload_n 2, 1) := by decide +kernel
theorem dX0_copyFrom_41 : decode cX0_copyFrom 41 = .ok (.aaload, 1) := by decide +kernel
theorem dX0_copyFrom_42 : decode cX0_copyFrom 42 = .ok (.aload_n 1, 1) := by decide +kernel
theorem dX0_copyFrom_43 : decode cX0_copyFrom 43 = .ok (.getfield 17, 3) := by decide +kernel
theorem dX0_copyFrom_46 : decode cX0_copyFrom 46 = .ok (.iload_n 2, 1) := by decide +kernel
theorem dX0_copyFrom_47 : decode cX0_copyFrom 47 = .ok (.aaload, 1) := by decide +kernel
theorem dX0_copyFrom_48 : decode cX0_copyFrom 48 = .ok (.invokevirtual 53, 3) := by decide +kernel
theorem dX0_copyFrom_51 : decode cX0_copyFrom 51 = .ok (.iinc 2 1, 3) := by decide +kernel
theorem dX0_copyFrom_54 : decode cX0_copyFrom 54 = .ok (.goto (-26), 3) := by decide +kernel
theorem dX0_copyFrom_57 : decode cX0_copyFrom 57 = .ok (.aload_n 0, 1) := by decide +kernel
theorem dX0_copyFrom_58 : decode cX0_copyFrom 58 = .ok (.aload_n 1, 1) := by decide +kernel
theorem dX0_copyFrom_59 : decode cX0_copyFrom 59 = .ok (.getfield 21, 3) := by decide +kernel
theorem dX0_copyFrom_62 : decode cX0_copyFrom 62 = .ok (.putfield 21, 3) := by decide +kernel
theorem dX0_copyFrom_65 : decode cX0_copyFrom 65 = .ok (.aload_n 0, 1) := by decide +kernel
theorem dX0_copyFrom_66 : decode cX0_copyFrom 66 = .ok (.aload_n 1, 1) := by decide +kernel
theorem dX0_copyFrom_67 : decode cX0_copyFrom 67 = .ok (.getfield 25, 3) := by decide +kernel
theorem dX0_copyFrom_70 : decode cX0_copyFrom 70 = .ok (.putfield 25, 3) := by decide +kernel
theorem dX0_copyFrom_73 : decode cX0_copyFrom 73 = .ok (.aload_n 0, 1) := by decide +kernel
theorem dX0_copyFrom_74 : decode cX0_copyFrom 74 = .ok (.aload_n 1, 1) := by decide +kernel
theorem dX0_copyFrom_75 : decode cX0_copyFrom 75 = .ok (.getfield 28, 3) := by decide +kernel
theorem dX0_copyFrom_78 : decode cX0_copyFrom 78 = .ok (.putfield 28, 3) := by decide +kernel
theorem dX0_copyFrom_81 : decode cX0_copyFrom 81 = .ok (.aload_n 0, 1) := by decide +kernel
theorem dX0_copyFrom_82 : decode cX0_copyFrom 82 = .ok (.aload_n 1, 1) := by decide +kernel
theorem dX0_copyFrom_83 : decode cX0_copyFrom 83 = .ok (.getfield 31, 3) := by decide +kernel
theorem dX0_copyFrom_86 : decode cX0_copyFrom 86 = .ok (.putfield 31, 3) := by decide +kernel
theorem dX0_copyFrom_89 : decode cX0_copyFrom 89 = .ok (.aload_n 0, 1) := by decide +kernel
theorem dX0_copyFrom_90 : decode cX0_copyFrom 90 = .ok (.aload_n 1, 1) := by decide +kernel
theorem dX0_copyFrom_91 : decode cX0_copyFrom 91 = .ok (.getfield 34, 3) := by decide +kernel
theorem dX0_copyFrom_94 : decode cX0_copyFrom 94 = .ok (.putfield 34, 3) := by decide +kernel
theorem dX0_copyFrom_97 : decode cX0_copyFrom 97 = .ok (.aload_n 0, 1) := by decide +kernel
theorem dX0_copyFrom_98 : decode cX0_copyFrom 98 = .ok (.aload_n 1, 1) := by decide +kernel
theorem dX0_copyFrom_99 : decode cX0_copyFrom 99 = .ok (.getfield 37, 3) := by decide +kernel
theorem dX0_copyFrom_102 : decode cX0_copyFrom 102 = .ok (.putfield 37, 3) := by decide +kernel
theorem dX0_copyFrom_105 : decode cX0_copyFrom 105 = .ok (.aload_n 0, 1) := by decide +kernel
theorem dX0_copyFrom_106 : decode cX0_copyFrom 106 = .ok (.aload_n 1, 1) := by decide +kernel
theorem dX0_copyFrom_107 : decode cX0_copyFrom 107 = .ok (.getfield 40, 3) := by decide +kernel
theorem dX0_copyFrom_110 : decode cX0_copyFrom 110 = .ok (.putfield 40, 3) := by decide +kernel
theorem dX0_copyFrom_113 : decode cX0_copyFrom 113 = .ok (.aload_n 0, 1) := by decide +kernel
theorem dX0_copyFrom_114 : decode cX0_copyFrom 114 = .ok (.aload_n 1, 1) := by decide +kernel
theorem dX0_copyFrom_115 : decode cX0_copyFrom 115 = .ok (.getfield 43, 3) := by decide +kernel
theorem dX0_copyFrom_118 : decode cX0_copyFrom 118 = .ok (.putfield 43, 3) := by decide +kernel
theorem dX0_copyFrom_121 : decode cX0_copyFrom 121 = .ok (.aload_n 0, 1) := by decide +kernel
theorem dX0_copyFrom_122 : decode cX0_copyFrom 122 = .ok (.aload_n 1, 1) := by decide +kernel
theorem dX0_copyFrom_123 : decode cX0_copyFrom 123 = .ok (.getfield 46, 3) := by decide +kernel
theorem dX0_copyFrom_126 : decode cX0_copyFrom 126 = .ok (.putfield 46, 3) := by decide +kernel
theorem dX0_copyFrom_129 : decode cX0_copyFrom 129 = .ok (.aload_n 0, 1) := by decide +kernel
theorem dX0_copyFrom_130 : decode cX0_copyFrom 130 = .ok (.aload_n 1, 1) := by decide +kernel
theorem dX0_copyFrom_131 : decode cX0_copyFrom 131 = .ok (.getfield 49, 3) := by decide +kernel
theorem dX0_copyFrom_134 : decode cX0_copyFrom 134 = .ok (.putfield 49, 3) := by decide +kernel
theorem dX0_copyFrom_137 : decode cX0_copyFrom 137 = .ok (.return_, 1) := by decide +kernel
theorem dX0_stateOf_0 : decode cX0_stateOf 0 = .ok (.aload_n 0, 1) := by decide +kernel
theorem dX0_stateOf_1 : decode cX0_stateOf 1 = .ok (.getfield 9, 3) := by decide +kernel
theorem dX0_stateOf_4 : decode cX0_stateOf 4 = .ok (.iload_n 1, 1) := by decide +kernel
theorem dX0_stateOf_5 : decode cX0_stateOf 5 = .ok (.iaload, 1) := by decide +kernel
theorem dX0_stateOf_6 : decode cX0_stateOf 6 = .ok (.iload_n 2, 1) := by decide +kernel
theorem dX0_stateOf_7 : decode cX0_stateOf 7 = .ok (.isub, 1) := by decide +kernel
theorem dX0_stateOf_8 : decode cX0_stateOf 8 = .ok (.istore_n 3, 1) := by decide +kernel
theorem dX0_stateOf_9 : decode cX0_stateOf 9 = .ok (.iload_n 3, 1) := by decide +kernel
theorem dX0_stateOf_10 : decode cX0_stateOf 10 = .ok (.ifCond .ge 5, 3) := by decide +kernel
theorem dX0_stateOf_13 : decode cX0_stateOf 13 = .ok (.iconst 2, 1) := by decide +kernel
theorem dX0_stateOf_14 : decode cX0_stateOf 14 = .ok (.ireturn, 1) := by decide +kernel
theorem dX0_stateOf_15 : decode cX0_stateOf 15 = .ok (.iload_n 3, 1) := by decide +kernel
theorem dX0_stateOf_16 : decode cX0_stateOf 16 = .ok (.iconst 2, 1) := by decide +kernel
theorem dX0_stateOf_17 : decode cX0_stateOf 17 = .ok (.if_icmp .gt 7, 3) := by decide +kernel
theorem dX0_stateOf_20 : decode cX0_stateOf 20 = .ok (.iconst 1, 1) := by decide +kernel
theorem dX0_stateOf_21 : decode cX0_stateOf 21 = .ok (.goto 4, 3) := by decide +kernel
theorem dX0_stateOf_24 : decode cX0_stateOf 24 = .ok (.iconst 0, 1) := by decide +kernel
theorem dX0_stateOf_25 : decode cX0_stateOf 25 = .ok (.ireturn, 1) := by decide +kernel
theorem dX0_lowestHeight_0 : decode cX0_lowestHeight 0 = .ok (.bipush 30, 2) := by decide +kernel
theorem dX0_lowestHeight_2 : decode cX0_lowestHeight 2 = .ok (.istore_n 1, 1) := by decide +kernel
theorem dX0_lowestHeight_3 : decode cX0_lowestHeight 3 = .ok (.iconst 0, 1) := by decide +kernel
theorem dX0_lowestHeight_4 : decode cX0_lowestHeight 4 = .ok (.istore_n 2, 1) := by decide +kernel
theorem dX0_lowestHeight_5 : decode cX0_lowestHeight 5 = .ok (.iload_n 2, 1) := by decide +kernel
theorem dX0_lowestHeight_6 : decode cX0_lowestHeight 6 = .ok (.bipush 10, 2) := by decide +kernel
theorem dX0_lowestHeight_8 : decode cX0_lowestHeight 8 = .ok (.if_icmp .ge 20, 3) := by decide +kernel
theorem dX0_lowestHeight_11 : decode cX0_lowestHeight 11 = .ok (.iload_n 1, 1) := by decide +kernel
theorem dX0_lowestHeight_12 : decode cX0_lowestHeight 12 = .ok (.aload_n 0, 1) := by decide +kernel
theorem dX0_lowestHeight_13 : decode cX0_lowestHeight 13 = .ok (.getfield 9, 3) := by decide +kernel
theorem dX0_lowestHeight_16 : decode cX0_lowestHeight 16 = .ok (.iload_n 2, 1) := by decide +kernel
theorem dX0_lowestHeight_17 : decode cX0_lowestHeight 17 = .ok (.iaload, 1) := by decide +kernel
theorem dX0_lowestHeight_18 : decode cX0_lowestHeight 18 = .ok (.invokestatic 57, 3) := by decide +kernel
theorem dX0_lowestHeight_21 : decode cX0_lowestHeight 21 = .ok (.istore_n 1, 1) := by decide +kernel
theorem dX0_lowestHeight_22 : decode cX0_lowestHeight 22 = .ok (.iinc 2 1, 3) := by decide +kernel
theorem dX0_lowestHeight_25 : decode cX0_lowestHeight 25 = .ok (.goto (-20), 3) := by decide +kernel
theorem dX0_lowestHeight_28 : decode cX0_lowestHeight 28 = .ok (.iload_n 1, 1) := by decide +kernel
theorem dX0_lowestHeight_29 : decode cX0_lowestHeight 29 = .ok (.ireturn, 1) := by decide +kernel
theorem dX0_levelAfterHour_0 : decode cX0_levelAfterHour 0 = .ok (.bipush 40, 2) := by decide +kernel
theorem dX0_levelAfterHour_2 : decode cX0_levelAfterHour 2 = .ok (.iload_n 1, 1) := by decide +kernel
theorem dX0_levelAfterHour_3 : decode cX0_levelAfterHour 3 = .ok (.aload_n 0, 1) := by decide +kernel
theorem dX0_levelAfterHour_4 : decode cX0_levelAfterHour 4 = .ok (.getfield 31, 3) := by decide +kernel
theorem dX0_levelAfterHour_7 : decode cX0_levelAfterHour 7 = .ok (.iadd, 1) := by decide +kernel
theorem dX0_levelAfterHour_8 : decode cX0_levelAfterHour 8 = .ok (.invokestatic 57, 3) := by decide +kernel
theorem dX0_levelAfterHour_11 : decode cX0_levelAfterHour 11 = .ok (.istore_n 2, 1) := by decide +kernel
theorem dX0_levelAfterHour_12 : decode cX0_levelAfterHour 12 = .ok (.iconst 4, 1) := by decide +kernel
theorem dX0_levelAfterHour_13 : decode cX0_levelAfterHour 13 = .ok (.iload_n 2, 1) := by decide +kernel
theorem dX0_levelAfterHour_14 : decode cX0_levelAfterHour 14 = .ok (.iconst 2, 1) := by decide +kernel
theorem dX0_levelAfterHour_15 : decode cX0_levelAfterHour 15 = .ok (.isub, 1) := by decide +kernel
theorem dX0_levelAfterHour_16 : decode cX0_levelAfterHour 16 = .ok (.invokestatic 63, 3) := by decide +kernel
theorem dX0_levelAfterHour_19 : decode cX0_levelAfterHour 19 = .ok (.ireturn, 1) := by decide +kernel
theorem dX0_levelOnTheWayToRest_0 : decode cX0_levelOnTheWayToRest 0 = .ok (.aload_n 0, 1) := by decide +kernel
theorem dX0_levelOnTheWayToRest_1 : decode cX0_levelOnTheWayToRest 1 = .ok (.getfield 28, 3) := by decide +kernel
theorem dX0_levelOnTheWayToRest_4 : decode cX0_levelOnTheWayToRest 4 = .ok (.aload_n 0, 1) := by decide +kernel
theorem dX0_levelOnTheWayToRest_5 : decode cX0_levelOnTheWayToRest 5 = .ok (.getfield 31, 3) := by decide +kernel
theorem dX0_levelOnTheWayToRest_8 : decode cX0_levelOnTheWayToRest 8 = .ok (.iconst 2, 1) := by decide +kernel
theorem dX0_levelOnTheWayToRest_9 : decode cX0_levelOnTheWayToRest 9 = .ok (.isub, 1) := by decide +kernel
theorem dX0_levelOnTheWayToRest_10 : decode cX0_levelOnTheWayToRest 10 = .ok (.iload_n 1, 1) := by decide +kernel
theorem dX0_levelOnTheWayToRest_11 : decode cX0_levelOnTheWayToRest 11 = .ok (.imul, 1) := by decide +kernel
theorem dX0_levelOnTheWayToRest_12 : decode cX0_levelOnTheWayToRest 12 = .ok (.iadd, 1) := by decide +kernel
theorem dX0_levelOnTheWayToRest_13 : decode cX0_levelOnTheWayToRest 13 = .ok (.istore_n 2, 1) := by decide +kernel
theorem dX0_levelOnTheWayToRest_14 : decode cX0_levelOnTheWayToRest 14 = .ok (.aload_n 0, 1) := by decide +kernel
theorem dX0_levelOnTheWayToRest_15 : decode cX0_levelOnTheWayToRest 15 = .ok (.getfield 31, 3) := by decide +kernel
theorem dX0_levelOnTheWayToRest_18 : decode cX0_levelOnTheWayToRest 18 = .ok (.iconst 2, 1) := by decide +kernel
theorem dX0_levelOnTheWayToRest_19 : decode cX0_levelOnTheWayToRest 19 = .ok (.if_icmp .ge 9, 3) := by decide +kernel
theorem dX0_levelOnTheWayToRest_22 : decode cX0_levelOnTheWayToRest 22 = .ok (.iconst 4, 1) := by decide +kernel
theorem dX0_levelOnTheWayToRest_23 : decode cX0_levelOnTheWayToRest 23 = .ok (.iload_n 2, 1) := by decide +kernel
theorem dX0_levelOnTheWayToRest_24 : decode cX0_levelOnTheWayToRest 24 = .ok (.invokestatic 63, 3) := by decide +kernel
theorem dX0_levelOnTheWayToRest_27 : decode cX0_levelOnTheWayToRest 27 = .ok (.ireturn, 1) := by decide +kernel
theorem dX0_levelOnTheWayToRest_28 : decode cX0_levelOnTheWayToRest 28 = .ok (.bipush 38, 2) := by decide +kernel
theorem dX0_levelOnTheWayToRest_30 : decode cX0_levelOnTheWayToRest 30 = .ok (.iload_n 2, 1) := by decide +kernel
theorem dX0_levelOnTheWayToRest_31 : decode cX0_levelOnTheWayToRest 31 = .ok (.invokestatic 57, 3) := by decide +kernel
theorem dX0_levelOnTheWayToRest_34 : decode cX0_levelOnTheWayToRest 34 = .ok (.ireturn, 1) := by decide +kernel
theorem dX0_lowestOn_0 : decode cX0_lowestOn 0 = .ok (.iconst 0, 1) := by decide +kernel
theorem dX0_lowestOn_1 : decode cX0_lowestOn 1 = .ok (.istore_n 2, 1) := by decide +kernel
theorem dX0_lowestOn_2 : decode cX0_lowestOn 2 = .ok (.iload_n 2, 1) := by decide +kernel
theorem dX0_lowestOn_3 : decode cX0_lowestOn 3 = .ok (.aload_n 0, 1) := by decide +kernel
theorem dX0_lowestOn_4 : decode cX0_lowestOn 4 = .ok (.getfield 21, 3) := by decide +kernel
theorem dX0_lowestOn_7 : decode cX0_lowestOn 7 = .ok (.if_icmp .ge 24, 3) := by decide +kernel
theorem dX0_lowestOn_10 : decode cX0_lowestOn 10 = .ok (.aload_n 0, 1) := by decide +kernel
theorem dX0_lowestOn_11 : decode cX0_lowestOn 11 = .ok (.getfield 17, 3) := by decide +kernel
theorem dX0_lowestOn_14 : decode cX0_lowestOn 14 = .ok (.iload_n 2, 1) := by decide +kernel
theorem dX0_lowestOn_15 : decode cX0_lowestOn 15 = .ok (.aaload, 1) := by decide +kernel
theorem dX0_lowestOn_16 : decode cX0_lowestOn 16 = .ok (.getfield 66, 3) := by decide +kernel
theorem dX0_lowestOn_19 : decode cX0_lowestOn 19 = .ok (.iload_n 1, 1) := by decide +kernel
theorem dX0_lowestOn_20 : decode cX0_lowestOn 20 = .ok (.if_icmp .ne 5, 3) := by decide +kernel
theorem dX0_lowestOn_23 : decode cX0_lowestOn 23 = .ok (.iload_n 2, 1) := by decide +kernel
theorem dX0_lowestOn_24 : decode cX0_lowestOn 24 = .ok (.ireturn, 1) := by decide +kernel
theorem dX0_lowestOn_25 : decode cX0_lowestOn 25 = .ok (.iinc 2 1, 3) := by decide +kernel
theorem dX0_lowestOn_28 : decode cX0_lowestOn 28 = .ok (.goto (-26), 3) := by decide +kernel
theorem dX0_lowestOn_31 : decode cX0_lowestOn 31 = .ok (.iconst (-1), 1) := by decide +kernel
theorem dX0_lowestOn_32 : decode cX0_lowestOn 32 = .ok (.ireturn, 1) := by decide +kernel
theorem dX0_countOn_0 : decode cX0_countOn 0 = .ok (.iconst 0, 1) := by decide +kernel
theorem dX0_countOn_1 : decode cX0_countOn 1 = .ok (.istore_n 2, 1) := by decide +kernel
theorem dX0_countOn_2 : decode cX0_countOn 2 = .ok (.iconst 0, 1) := by decide +kernel
theorem dX0_countOn_3 : decode cX0_countOn 3 = .ok (.istore_n 3, 1) := by decide +kernel
theorem dX0_countOn_4 : decode cX0_countOn 4 = .ok (.iload_n 3, 1) := by decide +kernel
theorem dX0_countOn_5 : decode cX0_countOn 5 = .ok (.aload_n 0, 1) := by decide +kernel
theorem dX0_countOn_6 : decode cX0_countOn 6 = .ok (.getfield 21, 3) := by decide +kernel
theorem dX0_countOn_9 : decode cX0_countOn 9 = .ok (.if_icmp .ge 25, 3) := by decide +kernel
theorem dX0_countOn_12 : decode cX0_countOn 12 = .ok (.aload_n 0, 1) := by decide +kernel
theorem dX0_countOn_13 : decode cX0_countOn 13 = .ok (.getfield 17, 3) := by decide +kernel
theorem dX0_countOn_16 : decode cX0_countOn 16 = .ok (.iload_n 3, 1) := by decide +kernel
theorem dX0_countOn_17 : decode cX0_countOn 17 = .ok (.aaload, 1) := by decide +kernel
theorem dX0_countOn_18 : decode cX0_countOn 18 = .ok (.getfield 66, 3) := by decide +kernel
theorem dX0_countOn_21 : decode cX0_countOn 21 = .ok (.iload_n 1, 1) := by decide +kernel
theorem dX0_countOn_22 : decode cX0_countOn 22 = .ok (.if_icmp .ne 6, 3) := by decide +kernel
theorem dX0_countOn_25 : decode cX0_countOn 25 = .ok (.iinc 2 1, 3) := by decide +kernel
theorem dX0_countOn_28 : decode cX0_countOn 28 = .ok (.iinc 3 1, 3) := by decide +kernel
theorem dX0_countOn_31 : decode cX0_countOn 31 = .ok (.goto (-27), 3) := by decide +kernel
theorem dX0_countOn_34 : decode cX0_countOn 34 = .ok (.iload_n 2, 1) := by decide +kernel
theorem dX0_countOn_35 : decode cX0_countOn 35 = .ok (.ireturn, 1) := by decide +kernel
theorem dX0_countIn_0 : decode cX0_countIn 0 = .ok (.iconst 0, 1) := by decide +kernel
theorem dX0_countIn_1 : decode cX0_countIn 1 = .ok (.istore_n 2, 1) := by decide +kernel
theorem dX0_countIn_2 : decode cX0_countIn 2 = .ok (.iconst 0, 1) := by decide +kernel
theorem dX0_countIn_3 : decode cX0_countIn 3 = .ok (.istore_n 3, 1) := by decide +kernel
theorem dX0_countIn_4 : decode cX0_countIn 4 = .ok (.iload_n 3, 1) := by decide +kernel
theorem dX0_countIn_5 : decode cX0_countIn 5 = .ok (.aload_n 0, 1) := by decide +kernel
theorem dX0_countIn_6 : decode cX0_countIn 6 = .ok (.getfield 21, 3) := by decide +kernel
theorem dX0_countIn_9 : decode cX0_countIn 9 = .ok (.if_icmp .ge 25, 3) := by decide +kernel
theorem dX0_countIn_12 : decode cX0_countIn 12 = .ok (.aload_n 0, 1) := by decide +kernel
theorem dX0_countIn_13 : decode cX0_countIn 13 = .ok (.getfield 17, 3) := by decide +kernel
theorem dX0_countIn_16 : decode cX0_countIn 16 = .ok (.iload_n 3, 1) := by decide +kernel
theorem dX0_countIn_17 : decode cX0_countIn 17 = .ok (.aaload, 1) := by decide +kernel
theorem dX0_countIn_18 : decode cX0_countIn 18 = .ok (.invokevirtual 69, 3) := by decide +kernel
theorem dX0_countIn_21 : decode cX0_countIn 21 = .ok (.iload_n 1, 1) := by decide +kernel
theorem dX0_countIn_22 : decode cX0_countIn 22 = .ok (.if_icmp .ne 6, 3) := by decide +kernel
theorem dX0_countIn_25 : decode cX0_countIn 25 = .ok (.iinc 2 1, 3) := by decide +kernel
theorem dX0_countIn_28 : decode cX0_countIn 28 = .ok (.iinc 3 1, 3) := by decide +kernel
theorem dX0_countIn_31 : decode cX0_countIn 31 = .ok (.goto (-27), 3) := by decide +kernel
theorem dX0_countIn_34 : decode cX0_countIn 34 = .ok (.iload_n 2, 1) := by decide +kernel
theorem dX0_countIn_35 : decode cX0_countIn 35 = .ok (.ireturn, 1) := by decide +kernel
theorem dX0_sumOf_0 : decode cX0_sumOf 0 = .ok (.iconst 0, 1) := by decide +kernel
theorem dX0_sumOf_1 : decode cX0_sumOf 1 = .ok (.istore_n 2, 1) := by decide +kernel
theorem dX0_sumOf_2 : decode cX0_sumOf 2 = .ok (.iconst 0, 1) := by decide +kernel
theorem dX0_sumOf_3 : decode cX0_sumOf 3 = .ok (.istore_n 3, 1) := by decide +kernel
theorem dX0_sumOf_4 : decode cX0_sumOf 4 = .ok (.iload_n 3, 1) := by decide +kernel
theorem dX0_sumOf_5 : decode cX0_sumOf 5 = .ok (.aload_n 0, 1) := by decide +kernel
theorem dX0_sumOf_6 : decode cX0_sumOf 6 = .ok (.getfield 21, 3) := by decide +kernel
theorem dX0_sumOf_9 : decode cX0_sumOf 9 = .ok (.if_icmp .ge 22, 3) := by decide +kernel
theorem dX0_sumOf_12 : decode cX0_sumOf 12 = .ok (.iload_n 2, 1) := by decide +kernel
theorem dX0_sumOf_13 : decode cX0_sumOf 13 = .ok (.aload_n 0, 1) := by decide +kernel
theorem dX0_sumOf_14 : decode cX0_sumOf 14 = .ok (.getfield 17, 3) := by decide +kernel
theorem dX0_sumOf_17 : decode cX0_sumOf 17 = .ok (.iload_n 3, 1) := by decide +kernel
theorem dX0_sumOf_18 : decode cX0_sumOf 18 = .ok (.aaload, 1) := by decide +kernel
theorem dX0_sumOf_19 : decode cX0_sumOf 19 = .ok (.iload_n 1, 1) := by decide +kernel
theorem dX0_sumOf_20 : decode cX0_sumOf 20 = .ok (.invokevirtual 73, 3) := by decide +kernel
theorem dX0_sumOf_23 : decode cX0_sumOf 23 = .ok (.iadd, 1) := by decide +kernel
theorem dX0_sumOf_24 : decode cX0_sumOf 24 = .ok (.istore_n 2, 1) := by decide +kernel
theorem dX0_sumOf_25 : decode cX0_sumOf 25 = .ok (.iinc 3 1, 3) := by decide +kernel
theorem dX0_sumOf_28 : decode cX0_sumOf 28 = .ok (.goto (-24), 3) := by decide +kernel
theorem dX0_sumOf_31 : decode cX0_sumOf 31 = .ok (.iload_n 2, 1) := by decide +kernel
theorem dX0_sumOf_32 : decode cX0_sumOf 32 = .ok (.ireturn, 1) := by decide +kernel
theorem dX0_welcome_0 : decode cX0_welcome 0 = .ok (.aload_n 0, 1) := by decide +kernel
theorem dX0_welcome_1 : decode cX0_welcome 1 = .ok (.getfield 21, 3) := by decide +kernel
theorem dX0_welcome_4 : decode cX0_welcome 4 = .ok (.istore_n 2, 1) := by decide +kernel
theorem dX0_welcome_5 : decode cX0_welcome 5 = .ok (.iload_n 2, 1) := by decide +kernel
theorem dX0_welcome_6 : decode cX0_welcome 6 = .ok (.bipush 8, 2) := by decide +kernel
theorem dX0_welcome_8 : decode cX0_welcome 8 = .ok (.if_icmp .ge 23, 3) := by decide +kernel
theorem dX0_welcome_11 : decode cX0_welcome 11 = .ok (.aload_n 0, 1) := by decide +kernel
theorem dX0_welcome_12 : decode cX0_welcome 12 = .ok (.getfield 17, 3) := by decide +kernel
theorem dX0_welcome_15 : decode cX0_welcome 15 = .ok (.iload_n 2, 1) := by decide +kernel
theorem dX0_welcome_16 : decode cX0_welcome 16 = .ok (.aaload, 1) := by decide +kernel
theorem dX0_welcome_17 : decode cX0_welcome 17 = .ok (.iload_n 1, 1) := by decide +kernel
theorem dX0_welcome_18 : decode cX0_welcome 18 = .ok (.invokevirtual 77, 3) := by decide +kernel
theorem dX0_welcome_21 : decode cX0_welcome 21 = .ok (.aload_n 0, 1) := by decide +kernel
theorem dX0_welcome_22 : decode cX0_welcome 22 = .ok (.dup, 1) := by decide +kernel
theorem dX0_welcome_23 : decode cX0_welcome 23 = .ok (.getfield 21, 3) := by decide +kernel
theorem dX0_welcome_26 : decode cX0_welcome 26 = .ok (.iconst 1, 1) := by decide +kernel
theorem dX0_welcome_27 : decode cX0_welcome 27 = .ok (.iadd, 1) := by decide +kernel
theorem dX0_welcome_28 : decode cX0_welcome 28 = .ok (.putfield 21, 3) := by decide +kernel
theorem dX0_welcome_31 : decode cX0_welcome 31 = .ok (.iload_n 2, 1) := by decide +kernel
theorem dX0_welcome_32 : decode cX0_welcome 32 = .ok (.ireturn, 1) := by decide +kernel
theorem dX0_takeAway_0 : decode cX0_takeAway 0 = .ok (.iload_n 1, 1) := by decide +kernel
theorem dX0_takeAway_1 : decode cX0_takeAway 1 = .ok (.istore_n 2, 1) := by decide +kernel
theorem dX0_takeAway_2 : decode cX0_takeAway 2 = .ok (.iload_n 2, 1) := by decide +kernel
theorem dX0_takeAway_3 : decode cX0_takeAway 3 = .ok (.aload_n 0, 1) := by decide +kernel
theorem dX0_takeAway_4 : decode cX0_takeAway 4 = .ok (.getfield 21, 3) := by decide +kernel
theorem dX0_takeAway_7 : decode cX0_takeAway 7 = .ok (.iconst 1, 1) := by decide +kernel
theorem dX0_takeAway_8 : decode cX0_takeAway 8 = .ok (.isub, 1) := by decide +kernel
theorem dX0_takeAway_9 : decode cX0_takeAway 9 = .ok (.if_icmp .ge 26, 3) := by decide +kernel
theorem dX0_takeAway_12 : decode cX0_takeAway 12 = .ok (.aload_n 0, 1) := by decide +kernel
theorem dX0_takeAway_13 : decode cX0_takeAway 13 = .ok (.getfield 17, 3) := by decide +kernel
theorem dX0_takeAway_16 : decode cX0_takeAway 16 = .ok (.iload_n 2, 1) := by decide +kernel
theorem dX0_takeAway_17 : decode cX0_takeAway 17 = .ok (.aaload, 1) := by decide +kernel
theorem dX0_takeAway_18 : decode cX0_takeAway 18 = .ok (.aload_n 0, 1) := by decide +kernel
theorem dX0_takeAway_19 : decode cX0_takeAway 19 = .ok (.getfield 17, 3) := by decide +kernel
theorem dX0_takeAway_22 : decode cX0_takeAway 22 = .ok (.iload_n 2, 1) := by decide +kernel
theorem dX0_takeAway_23 : decode cX0_takeAway 23 = .ok (.iconst 1, 1) := by decide +kernel
theorem dX0_takeAway_24 : decode cX0_takeAway 24 = .ok (.iadd, 1) := by decide +kernel
theorem dX0_takeAway_25 : decode cX0_takeAway 25 = .ok (.aaload, 1) := by decide +kernel
theorem dX0_takeAway_26 : decode cX0_takeAway 26 = .ok (.invokevirtual 53, 3) := by decide +kernel
theorem dX0_takeAway_29 : decode cX0_takeAway 29 = .ok (.iinc 2 1, 3) := by decide +kernel
theorem dX0_takeAway_32 : decode cX0_takeAway 32 = .ok (.goto (-30), 3) := by decide +kernel
theorem dX0_takeAway_35 : decode cX0_takeAway 35 = .ok (.aload_n 0, 1) := by decide +kernel
theorem dX0_takeAway_36 : decode cX0_takeAway 36 = .ok (.dup, 1) := by decide +kernel
theorem dX0_takeAway_37 : decode cX0_takeAway 37 = .ok (.getfield 21, 3) := by decide +kernel
theorem dX0_takeAway_40 : decode cX0_takeAway 40 = .ok (.iconst 1, 1) := by decide +kernel
theorem dX0_takeAway_41 : decode cX0_takeAway 41 = .ok (.isub, 1) := by decide +kernel
theorem dX0_takeAway_42 : decode cX0_takeAway 42 = .ok (.putfield 21, 3) := by decide +kernel
theorem dX0_takeAway_45 : decode cX0_takeAway 45 = .ok (.return_, 1) := by decide +kernel
theorem dX0_startCrossing_0 : decode cX0_startCrossing 0 = .ok (.aload_n 1, 1) := by decide +kernel
theorem dX0_startCrossing_1 : decode cX0_startCrossing 1 = .ok (.iconst 1, 1) := by decide +kernel
theorem dX0_startCrossing_2 : decode cX0_startCrossing 2 = .ok (.putfield 81, 3) := by decide +kernel
theorem dX0_startCrossing_5 : decode cX0_startCrossing 5 = .ok (.aload_n 1, 1) := by decide +kernel
theorem dX0_startCrossing_6 : decode cX0_startCrossing 6 = .ok (.invokevirtual 85, 3) := by decide +kernel
theorem dX0_startCrossing_9 : decode cX0_startCrossing 9 = .ok (.ifCond .ne 46, 3) := by decide +kernel
theorem dX0_startCrossing_12 : decode cX0_startCrossing 12 = .ok (.aload_n 1, 1) := by decide +kernel
theorem dX0_startCrossing_13 : decode cX0_startCrossing 13 = .ok (.getfield 66, 3) := by decide +kernel
theorem dX0_startCrossing_16 : decode cX0_startCrossing 16 = .ok (.iconst (-1), 1) := by decide +kernel
theorem dX0_startCrossing_17 : decode cX0_startCrossing 17 = .ok (.if_icmp .ne 38, 3) := by decide +kernel
theorem dX0_startCrossing_20 : decode cX0_startCrossing 20 = .ok (.bipush 12, 2) := by decide +kernel
theorem dX0_startCrossing_22 : decode cX0_startCrossing 22 = .ok (.iconst 3, 1) := by decide +kernel
theorem dX0_startCrossing_23 : decode cX0_startCrossing 23 = .ok (.aload_n 1, 1) := by decide +kernel
theorem dX0_startCrossing_24 : decode cX0_startCrossing 24 = .ok (.getfield 88, 3) := by decide +kernel
theorem dX0_startCrossing_27 : decode cX0_startCrossing 27 = .ok (.imul, 1) := by decide +kernel
theorem dX0_startCrossing_28 : decode cX0_startCrossing 28 = .ok (.isub, 1) := by decide +kernel
theorem dX0_startCrossing_29 : decode cX0_startCrossing 29 = .ok (.istore_n 2, 1) := by decide +kernel
theorem dX0_startCrossing_30 : decode cX0_startCrossing 30 = .ok (.aload_n 1, 1) := by decide +kernel
theorem dX0_startCrossing_31 : decode cX0_startCrossing 31 = .ok (.iload_n 2, 1) := by decide +kernel
theorem dX0_startCrossing_32 : decode cX0_startCrossing 32 = .ok (.aload_n 0, 1) := by decide +kernel
theorem dX0_startCrossing_33 : decode cX0_startCrossing 33 = .ok (.getfield 34, 3) := by decide +kernel
theorem dX0_startCrossing_36 : decode cX0_startCrossing 36 = .ok (.invokestatic 57, 3) := by decide +kernel
theorem dX0_startCrossing_39 : decode cX0_startCrossing 39 = .ok (.putfield 91, 3) := by decide +kernel
theorem dX0_startCrossing_42 : decode cX0_startCrossing 42 = .ok (.aload_n 0, 1) := by decide +kernel
theorem dX0_startCrossing_43 : decode cX0_startCrossing 43 = .ok (.dup, 1) := by decide +kernel
theorem dX0_startCrossing_44 : decode cX0_startCrossing 44 = .ok (.getfield 34, 3) := by decide +kernel
theorem dX0_startCrossing_47 : decode cX0_startCrossing 47 = .ok (.aload_n 1, 1) := by decide +kernel
theorem dX0_startCrossing_48 : decode cX0_startCrossing 48 = .ok (.getfield 91, 3) := by decide +kernel
theorem dX0_startCrossing_51 : decode cX0_startCrossing 51 = .ok (.isub, 1) := by decide +kernel
theorem dX0_startCrossing_52 : decode cX0_startCrossing 52 = .ok (.putfield 34, 3) := by decide +kernel
theorem dX0_startCrossing_55 : decode cX0_startCrossing 55 = .ok (.aload_n 1, 1) := by decide +kernel
theorem dX0_startCrossing_56 : decode cX0_startCrossing 56 = .ok (.invokevirtual 94, 3) := by decide +kernel
theorem dX0_startCrossing_59 : decode cX0_startCrossing 59 = .ok (.istore_n 2, 1) := by decide +kernel
theorem dX0_startCrossing_60 : decode cX0_startCrossing 60 = .ok (.aload_n 0, 1) := by decide +kernel
theorem dX0_startCrossing_61 : decode cX0_startCrossing 61 = .ok (.dup, 1) := by decide +kernel
theorem dX0_startCrossing_62 : decode cX0_startCrossing 62 = .ok (.getfield 43, 3) := by decide +kernel
theorem dX0_startCrossing_65 : decode cX0_startCrossing 65 = .ok (.iload_n 2, 1) := by decide +kernel
theorem dX0_startCrossing_66 : decode cX0_startCrossing 66 = .ok (.iadd, 1) := by decide +kernel
theorem dX0_startCrossing_67 : decode cX0_startCrossing 67 = .ok (.putfield 43, 3) := by decide +kernel
theorem dX0_startCrossing_70 : decode cX0_startCrossing 70 = .ok (.iload_n 2, 1) := by decide +kernel
theorem dX0_startCrossing_71 : decode cX0_startCrossing 71 = .ok (.ireturn, 1) := by decide +kernel
theorem dX0_canGo_0 : decode cX0_canGo 0 = .ok (.iload_n 3, 1) := by decide +kernel
theorem dX0_canGo_1 : decode cX0_canGo 1 = .ok (.invokestatic 97, 3) := by decide +kernel
theorem dX0_canGo_4 : decode cX0_canGo 4 = .ok (.ifCond .ne 5, 3) := by decide +kernel
theorem dX0_canGo_7 : decode cX0_canGo 7 = .ok (.iconst 1, 1) := by decide +kernel
theorem dX0_canGo_8 : decode cX0_canGo 8 = .ok (.ireturn, 1) := by decide +kernel
theorem dX0_canGo_9 : decode cX0_canGo 9 = .ok (.aload_n 0, 1) := by decide +kernel
theorem dX0_canGo_10 : decode cX0_canGo 10 = .ok (.iload_n 3, 1) := by decide +kernel
theorem dX0_canGo_11 : decode cX0_canGo 11 = .ok (.iload 4, 2) := by decide +kernel
theorem dX0_canGo_13 : decode cX0_canGo 13 = .ok (.invokevirtual 101, 3) := by decide +kernel
theorem dX0_canGo_16 : decode cX0_canGo 16 = .ok (.istore 5, 2) := by decide +kernel
theorem dX0_canGo_18 : decode cX0_canGo 18 = .ok (.iload 5, 2) := by decide +kernel
theorem dX0_canGo_20 : decode cX0_canGo 20 = .ok (.iconst 1, 1) := by decide +kernel
theorem dX0_canGo_21 : decode cX0_canGo 21 = .ok (.if_icmp .eq 14, 3) := by decide +kernel
theorem dX0_canGo_24 : decode cX0_canGo 24 = .ok (.iload 5, 2) := by decide +kernel
theorem dX0_canGo_26 : decode cX0_canGo 26 = .ok (.ifCond .ne 7, 3) := by decide +kernel
theorem dX0_canGo_29 : decode cX0_canGo 29 = .ok (.iconst 1, 1) := by decide +kernel
theorem dX0_canGo_30 : decode cX0_canGo 30 = .ok (.goto 4, 3) := by decide +kernel
theorem dX0_canGo_33 : decode cX0_canGo 33 = .ok (.iconst 0, 1) := by decide +kernel
theorem dX0_canGo_34 : decode cX0_canGo 34 = .ok (.ireturn, 1) := by decide +kernel
theorem dX0_canGo_35 : decode cX0_canGo 35 = .ok (.iload_n 1, 1) := by decide +kernel
theorem dX0_canGo_36 : decode cX0_canGo 36 = .ok (.iconst 1, 1) := by decide +kernel
theorem dX0_canGo_37 : decode cX0_canGo 37 = .ok (.if_icmp .ne 31, 3) := by decide +kernel
theorem dX0_canGo_40 : decode cX0_canGo 40 = .ok (.iload_n 2, 1) := by decide +kernel
theorem dX0_canGo_41 : decode cX0_canGo 41 = .ok (.invokestatic 97, 3) := by decide +kernel
theorem dX0_canGo_44 : decode cX0_canGo 44 = .ok (.ifCond .eq 18, 3) := by decide +kernel
theorem dX0_canGo_47 : decode cX0_canGo 47 = .ok (.aload_n 0, 1) := by decide +kernel
theorem dX0_canGo_48 : decode cX0_canGo 48 = .ok (.getfield 9, 3) := by decide +kernel
theorem dX0_canGo_51 : decode cX0_canGo 51 = .ok (.iload_n 3, 1) := by decide +kernel
theorem dX0_canGo_52 : decode cX0_canGo 52 = .ok (.iaload, 1) := by decide +kernel
theorem dX0_canGo_53 : decode cX0_canGo 53 = .ok (.aload_n 0, 1) := by decide +kernel
theorem dX0_canGo_54 : decode cX0_canGo 54 = .ok (.getfield 9, 3) := by decide +kernel
theorem dX0_canGo_57 : decode cX0_canGo 57 = .ok (.iload_n 2, 1) := by decide +kernel
theorem dX0_canGo_58 : decode cX0_canGo 58 = .ok (.iaload, 1) := by decide +kernel
theorem dX0_canGo_59 : decode cX0_canGo 59 = .ok (.if_icmp .lt 7, 3) := by decide +kernel
theorem dX0_canGo_62 : decode cX0_canGo 62 = .ok (.iconst 1, 1) := by decide +kernel
theorem dX0_canGo_63 : decode cX0_canGo 63 = .ok (.goto 4, 3) := by decide +kernel
theorem dX0_canGo_66 : decode cX0_canGo 66 = .ok (.iconst 0, 1) := by decide +kernel
theorem dX0_canGo_67 : decode cX0_canGo 67 = .ok (.ireturn, 1) := by decide +kernel
theorem dX0_canGo_68 : decode cX0_canGo 68 = .ok (.iload_n 1, 1) := by decide +kernel
theorem dX0_canGo_69 : decode cX0_canGo 69 = .ok (.ifCond .ne 7, 3) := by decide +kernel
theorem dX0_canGo_72 : decode cX0_canGo 72 = .ok (.iconst 1, 1) := by decide +kernel
theorem dX0_canGo_73 : decode cX0_canGo 73 = .ok (.goto 4, 3) := by decide +kernel
theorem dX0_canGo_76 : decode cX0_canGo 76 = .ok (.iconst 0, 1) := by decide +kernel
theorem dX0_canGo_77 : decode cX0_canGo 77 = .ok (.ireturn, 1) := by decide +kernel
theorem dX0_placeAfterStep_0 : decode cX0_placeAfterStep 0 = .ok (.iload_n 3, 1) := by decide +kernel
theorem dX0_placeAfterStep_1 : decode cX0_placeAfterStep 1 = .ok (.ifCond .eq 9, 3) := by decide +kernel
theorem dX0_placeAfterStep_4 : decode cX0_placeAfterStep 4 = .ok (.iload_n 2, 1) := by decide +kernel
theorem dX0_placeAfterStep_5 : decode cX0_placeAfterStep 5 = .ok (.iconst 1, 1) := by decide +kernel
theorem dX0_placeAfterStep_6 : decode cX0_placeAfterStep 6 = .ok (.iadd, 1) := by decide +kernel
theorem dX0_placeAfterStep_7 : decode cX0_placeAfterStep 7 = .ok (.goto 6, 3) := by decide +kernel
theorem dX0_placeAfterStep_10 : decode cX0_placeAfterStep 10 = .ok (.iload_n 2, 1) := by decide +kernel
theorem dX0_placeAfterStep_11 : decode cX0_placeAfterStep 11 = .ok (.iconst 1, 1) := by decide +kernel
theorem dX0_placeAfterStep_12 : decode cX0_placeAfterStep 12 = .ok (.isub, 1) := by decide +kernel
theorem dX0_placeAfterStep_13 : decode cX0_placeAfterStep 13 = .ok (.istore 5, 2) := by decide +kernel
theorem dX0_placeAfterStep_15 : decode cX0_placeAfterStep 15 = .ok (.aload_n 0, 1) := by decide +kernel
theorem dX0_placeAfterStep_16 : decode cX0_placeAfterStep 16 = .ok (.iload_n 1, 1) := by decide +kernel
theorem dX0_placeAfterStep_17 : decode cX0_placeAfterStep 17 = .ok (.iload_n 2, 1) := by decide +kernel
theorem dX0_placeAfterStep_18 : decode cX0_placeAfterStep 18 = .ok (.iload 5, 2) := by decide +kernel
theorem dX0_placeAfterStep_20 : decode cX0_placeAfterStep 20 = .ok (.iload 4, 2) := by decide +kernel
theorem dX0_placeAfterStep_22 : decode cX0_placeAfterStep 22 = .ok (.invokevirtual 104, 3) := by decide +kernel
theorem dX0_placeAfterStep_25 : decode cX0_placeAfterStep 25 = .ok (.ifCond .eq 8, 3) := by decide +kernel
theorem dX0_placeAfterStep_28 : decode cX0_placeAfterStep 28 = .ok (.iload 5, 2) := by decide +kernel
theorem dX0_placeAfterStep_30 : decode cX0_placeAfterStep 30 = .ok (.goto 4, 3) := by decide +kernel
theorem dX0_placeAfterStep_33 : decode cX0_placeAfterStep 33 = .ok (.iload_n 2, 1) := by decide +kernel
theorem dX0_placeAfterStep_34 : decode cX0_placeAfterStep 34 = .ok (.ireturn, 1) := by decide +kernel
theorem dX0_placeAfterGoingBack_0 : decode cX0_placeAfterGoingBack 0 = .ok (.iload_n 1, 1) := by decide +kernel
theorem dX0_placeAfterGoingBack_1 : decode cX0_placeAfterGoingBack 1 = .ok (.istore 4, 2) := by decide +kernel
theorem dX0_placeAfterGoingBack_3 : decode cX0_placeAfterGoingBack 3 = .ok (.iconst 0, 1) := by decide +kernel
theorem dX0_placeAfterGoingBack_4 : decode cX0_placeAfterGoingBack 4 = .ok (.istore 5, 2) := by decide +kernel
theorem dX0_placeAfterGoingBack_6 : decode cX0_placeAfterGoingBack 6 = .ok (.iload 5, 2) := by decide +kernel
theorem dX0_placeAfterGoingBack_8 : decode cX0_placeAfterGoingBack 8 = .ok (.bipush 10, 2) := by decide +kernel
theorem dX0_placeAfterGoingBack_10 : decode cX0_placeAfterGoingBack 10 = .ok (.if_icmp .ge 48, 3) := by decide +kernel
theorem dX0_placeAfterGoingBack_13 : decode cX0_placeAfterGoingBack 13 = .ok (.iload 4, 2) := by decide +kernel
theorem dX0_placeAfterGoingBack_15 : decode cX0_placeAfterGoingBack 15 = .ok (.invokestatic 97, 3) := by decide +kernel
theorem dX0_placeAfterGoingBack_18 : decode cX0_placeAfterGoingBack 18 = .ok (.ifCond .eq 14, 3) := by decide +kernel
theorem dX0_placeAfterGoingBack_21 : decode cX0_placeAfterGoingBack 21 = .ok (.aload_n 0, 1) := by decide +kernel
theorem dX0_placeAfterGoingBack_22 : decode cX0_placeAfterGoingBack 22 = .ok (.iload 4, 2) := by decide +kernel
theorem dX0_placeAfterGoingBack_24 : decode cX0_placeAfterGoingBack 24 = .ok (.iload_n 3, 1) := by decide +kernel
theorem dX0_placeAfterGoingBack_25 : decode cX0_placeAfterGoingBack 25 = .ok (.invokevirtual 101, 3) := by decide +kernel
theorem dX0_placeAfterGoingBack_28 : decode cX0_placeAfterGoingBack 28 = .ok (.iconst 2, 1) := by decide +kernel
theorem dX0_placeAfterGoingBack_29 : decode cX0_placeAfterGoingBack 29 = .ok (.if_icmp .eq 6, 3) := by decide +kernel
theorem dX0_placeAfterGoingBack_32 : decode cX0_placeAfterGoingBack 32 = .ok (.iload 4, 2) := by decide +kernel
theorem dX0_placeAfterGoingBack_34 : decode cX0_placeAfterGoingBack 34 = .ok (.ireturn, 1) := by decide +kernel
theorem dX0_placeAfterGoingBack_35 : decode cX0_placeAfterGoingBack 35 = .ok (.iload_n 2, 1) := by decide +kernel
theorem dX0_placeAfterGoingBack_36 : decode cX0_placeAfterGoingBack 36 = .ok (.ifCond .eq 10, 3) := by decide +kernel
theorem dX0_placeAfterGoingBack_39 : decode cX0_placeAfterGoingBack 39 = .ok (.iload 4, 2) := by decide +kernel
theorem dX0_placeAfterGoingBack_41 : decode cX0_placeAfterGoingBack 41 = .ok (.iconst 1, 1) := by decide +kernel
theorem dX0_placeAfterGoingBack_42 : decode cX0_placeAfterGoingBack 42 = .ok (.isub, 1) := by decide +kernel
theorem dX0_placeAfterGoingBack_43 : decode cX0_placeAfterGoingBack 43 = .ok (.goto 7, 3) := by decide +kernel
theorem dX0_placeAfterGoingBack_46 : decode cX0_placeAfterGoingBack 46 = .ok (.iload 4, 2) := by decide +kernel
theorem dX0_placeAfterGoingBack_48 : decode cX0_placeAfterGoingBack 48 = .ok (.iconst 1, 1) := by decide +kernel
theorem dX0_placeAfterGoingBack_49 : decode cX0_placeAfterGoingBack 49 = .ok (.iadd, 1) := by decide +kernel
theorem dX0_placeAfterGoingBack_50 : decode cX0_placeAfterGoingBack 50 = .ok (.istore 4, 2) := by decide +kernel
theorem dX0_placeAfterGoingBack_52 : decode cX0_placeAfterGoingBack 52 = .ok (.iinc 5 1, 3) := by decide +kernel
theorem dX0_placeAfterGoingBack_55 : decode cX0_placeAfterGoingBack 55 = .ok (.goto (-49), 3) := by decide +kernel
theorem dX0_placeAfterGoingBack_58 : decode cX0_placeAfterGoingBack 58 = .ok (.iload 4, 2) := by decide +kernel
theorem dX0_placeAfterGoingBack_60 : decode cX0_placeAfterGoingBack 60 = .ok (.ireturn, 1) := by decide +kernel
theorem dX0_wetStepsOf_0 : decode cX0_wetStepsOf 0 = .ok (.iconst 0, 1) := by decide +kernel
theorem dX0_wetStepsOf_1 : decode cX0_wetStepsOf 1 = .ok (.istore_n 2, 1) := by decide +kernel
theorem dX0_wetStepsOf_2 : decode cX0_wetStepsOf 2 = .ok (.iconst 0, 1) := by decide +kernel
theorem dX0_wetStepsOf_3 : decode cX0_wetStepsOf 3 = .ok (.istore_n 3, 1) := by decide +kernel
theorem dX0_wetStepsOf_4 : decode cX0_wetStepsOf 4 = .ok (.iload_n 3, 1) := by decide +kernel
theorem dX0_wetStepsOf_5 : decode cX0_wetStepsOf 5 = .ok (.bipush 10, 2) := by decide +kernel
theorem dX0_wetStepsOf_7 : decode cX0_wetStepsOf 7 = .ok (.if_icmp .ge 43, 3) := by decide +kernel
theorem dX0_wetStepsOf_10 : decode cX0_wetStepsOf 10 = .ok (.aload_n 0, 1) := by decide +kernel
theorem dX0_wetStepsOf_11 : decode cX0_wetStepsOf 11 = .ok (.iload_n 1, 1) := by decide +kernel
theorem dX0_wetStepsOf_12 : decode cX0_wetStepsOf 12 = .ok (.iload_n 3, 1) := by decide +kernel
theorem dX0_wetStepsOf_13 : decode cX0_wetStepsOf 13 = .ok (.iconst 1, 1) := by decide +kernel
theorem dX0_wetStepsOf_14 : decode cX0_wetStepsOf 14 = .ok (.isub, 1) := by decide +kernel
theorem dX0_wetStepsOf_15 : decode cX0_wetStepsOf 15 = .ok (.iload_n 3, 1) := by decide +kernel
theorem dX0_wetStepsOf_16 : decode cX0_wetStepsOf 16 = .ok (.aload_n 0, 1) := by decide +kernel
theorem dX0_wetStepsOf_17 : decode cX0_wetStepsOf 17 = .ok (.getfield 28, 3) := by decide +kernel
theorem dX0_wetStepsOf_20 : decode cX0_wetStepsOf 20 = .ok (.invokevirtual 104, 3) := by decide +kernel
theorem dX0_wetStepsOf_23 : decode cX0_wetStepsOf 23 = .ok (.ifCond .ne 5, 3) := by decide +kernel
theorem dX0_wetStepsOf_26 : decode cX0_wetStepsOf 26 = .ok (.iconst (-1), 1) := by decide +kernel
theorem dX0_wetStepsOf_27 : decode cX0_wetStepsOf 27 = .ok (.ireturn, 1) := by decide +kernel
theorem dX0_wetStepsOf_28 : decode cX0_wetStepsOf 28 = .ok (.aload_n 0, 1) := by decide +kernel
theorem dX0_wetStepsOf_29 : decode cX0_wetStepsOf 29 = .ok (.iload_n 3, 1) := by decide +kernel
theorem dX0_wetStepsOf_30 : decode cX0_wetStepsOf 30 = .ok (.aload_n 0, 1) := by decide +kernel
theorem dX0_wetStepsOf_31 : decode cX0_wetStepsOf 31 = .ok (.getfield 28, 3) := by decide +kernel
theorem dX0_wetStepsOf_34 : decode cX0_wetStepsOf 34 = .ok (.invokevirtual 101, 3) := by decide +kernel
theorem dX0_wetStepsOf_37 : decode cX0_wetStepsOf 37 = .ok (.iconst 1, 1) := by decide +kernel
theorem dX0_wetStepsOf_38 : decode cX0_wetStepsOf 38 = .ok (.if_icmp .ne 6, 3) := by decide +kernel
theorem dX0_wetStepsOf_41 : decode cX0_wetStepsOf 41 = .ok (.iinc 2 1, 3) := by decide +kernel
theorem dX0_wetStepsOf_44 : decode cX0_wetStepsOf 44 = .ok (.iinc 3 1, 3) := by decide +kernel
theorem dX0_wetStepsOf_47 : decode cX0_wetStepsOf 47 = .ok (.goto (-43), 3) := by decide +kernel
theorem dX0_wetStepsOf_50 : decode cX0_wetStepsOf 50 = .ok (.iload_n 2, 1) := by decide +kernel
theorem dX0_wetStepsOf_51 : decode cX0_wetStepsOf 51 = .ok (.ireturn, 1) := by decide +kernel
theorem dX0_hoursToCross_0 : decode cX0_hoursToCross 0 = .ok (.aload_n 1, 1) := by decide +kernel
theorem dX0_hoursToCross_1 : decode cX0_hoursToCross 1 = .ok (.getfield 81, 3) := by decide +kernel
theorem dX0_hoursToCross_4 : decode cX0_hoursToCross 4 = .ok (.ifCond .eq 10, 3) := by decide +kernel
theorem dX0_hoursToCross_7 : decode cX0_hoursToCross 7 = .ok (.aload_n 1, 1) := by decide +kernel
theorem dX0_hoursToCross_8 : decode cX0_hoursToCross 8 = .ok (.getfield 108, 3) := by decide +kernel
theorem dX0_hoursToCross_11 : decode cX0_hoursToCross 11 = .ok (.ifCond .eq 5, 3) := by decide +kernel
theorem dX0_hoursToCross_14 : decode cX0_hoursToCross 14 = .ok (.iconst (-1), 1) := by decide +kernel
theorem dX0_hoursToCross_15 : decode cX0_hoursToCross 15 = .ok (.ireturn, 1) := by decide +kernel
theorem dX0_hoursToCross_16 : decode cX0_hoursToCross 16 = .ok (.aload_n 1, 1) := by decide +kernel
theorem dX0_hoursToCross_17 : decode cX0_hoursToCross 17 = .ok (.invokevirtual 85, 3) := by decide +kernel
theorem dX0_hoursToCross_20 : decode cX0_hoursToCross 20 = .ok (.istore_n 2, 1) := by decide +kernel
theorem dX0_hoursToCross_21 : decode cX0_hoursToCross 21 = .ok (.aload_n 1, 1) := by decide +kernel
theorem dX0_hoursToCross_22 : decode cX0_hoursToCross 22 = .ok (.getfield 66, 3) := by decide +kernel
theorem dX0_hoursToCross_25 : decode cX0_hoursToCross 25 = .ok (.istore_n 3, 1) := by decide +kernel
theorem dX0_hoursToCross_26 : decode cX0_hoursToCross 26 = .ok (.aload_n 0, 1) := by decide +kernel
theorem dX0_hoursToCross_27 : decode cX0_hoursToCross 27 = .ok (.getfield 28, 3) := by decide +kernel
theorem dX0_hoursToCross_30 : decode cX0_hoursToCross 30 = .ok (.istore 4, 2) := by decide +kernel
theorem dX0_hoursToCross_32 : decode cX0_hoursToCross 32 = .ok (.iconst 1, 1) := by decide +kernel
theorem dX0_hoursToCross_33 : decode cX0_hoursToCross 33 = .ok (.istore 5, 2) := by decide +kernel
theorem dX0_hoursToCross_35 : decode cX0_hoursToCross 35 = .ok (.iload 5, 2) := by decide +kernel
theorem dX0_hoursToCross_37 : decode cX0_hoursToCross 37 = .ok (.bipush 60, 2) := by decide +kernel
theorem dX0_hoursToCross_39 : decode cX0_hoursToCross 39 = .ok (.if_icmp .gt 80, 3) := by decide +kernel
theorem dX0_hoursToCross_42 : decode cX0_hoursToCross 42 = .ok (.aload_n 0, 1) := by decide +kernel
theorem dX0_hoursToCross_43 : decode cX0_hoursToCross 43 = .ok (.iload 4, 2) := by decide +kernel
theorem dX0_hoursToCross_45 : decode cX0_hoursToCross 45 = .ok (.invokevirtual 111, 3) := by decide +kernel
theorem dX0_hoursToCross_48 : decode cX0_hoursToCross 48 = .ok (.istore 4, 2) := by decide +kernel
theorem dX0_hoursToCross_50 : decode cX0_hoursToCross 50 = .ok (.aload_n 0, 1) := by decide +kernel
theorem dX0_hoursToCross_51 : decode cX0_hoursToCross 51 = .ok (.iload_n 3, 1) := by decide +kernel
theorem dX0_hoursToCross_52 : decode cX0_hoursToCross 52 = .ok (.aload_n 1, 1) := by decide +kernel
theorem dX0_hoursToCross_53 : decode cX0_hoursToCross 53 = .ok (.getfield 114, 3) := by decide +kernel
theorem dX0_hoursToCross_56 : decode cX0_hoursToCross 56 = .ok (.iload 4, 2) := by decide +kernel
theorem dX0_hoursToCross_58 : decode cX0_hoursToCross 58 = .ok (.invokevirtual 117, 3) := by decide +kernel
theorem dX0_hoursToCross_61 : decode cX0_hoursToCross 61 = .ok (.istore 6, 2) := by decide +kernel
theorem dX0_hoursToCross_63 : decode cX0_hoursToCross 63 = .ok (.iload 6, 2) := by decide +kernel
theorem dX0_hoursToCross_65 : decode cX0_hoursToCross 65 = .ok (.iload_n 3, 1) := by decide +kernel
theorem dX0_hoursToCross_66 : decode cX0_hoursToCross 66 = .ok (.if_icmp .eq 13, 3) := by decide +kernel
theorem dX0_hoursToCross_69 : decode cX0_hoursToCross 69 = .ok (.iload 6, 2) := by decide +kernel
theorem dX0_hoursToCross_71 : decode cX0_hoursToCross 71 = .ok (.invokestatic 97, 3) := by decide +kernel
theorem dX0_hoursToCross_74 : decode cX0_hoursToCross 74 = .ok (.ifCond .ne 5, 3) := by decide +kernel
theorem dX0_hoursToCross_77 : decode cX0_hoursToCross 77 = .ok (.iconst (-1), 1) := by decide +kernel
theorem dX0_hoursToCross_78 : decode cX0_hoursToCross 78 = .ok (.ireturn, 1) := by decide +kernel
theorem dX0_hoursToCross_79 : decode cX0_hoursToCross 79 = .ok (.aload_n 0, 1) := by decide +kernel
theorem dX0_hoursToCross_80 : decode cX0_hoursToCross 80 = .ok (.iload_n 2, 1) := by decide +kernel
theorem dX0_hoursToCross_81 : decode cX0_hoursToCross 81 = .ok (.iload 6, 2) := by decide +kernel
theorem dX0_hoursToCross_83 : decode cX0_hoursToCross 83 = .ok (.aload_n 1, 1) := by decide +kernel
theorem dX0_hoursToCross_84 : decode cX0_hoursToCross 84 = .ok (.getfield 114, 3) := by decide +kernel
theorem dX0_hoursToCross_87 : decode cX0_hoursToCross 87 = .ok (.iload 4, 2) := by decide +kernel
theorem dX0_hoursToCross_89 : decode cX0_hoursToCross 89 = .ok (.invokevirtual 121, 3) := by decide +kernel
theorem dX0_hoursToCross_92 : decode cX0_hoursToCross 92 = .ok (.istore_n 3, 1) := by decide +kernel
theorem dX0_hoursToCross_93 : decode cX0_hoursToCross 93 = .ok (.iload_n 3, 1) := by decide +kernel
theorem dX0_hoursToCross_94 : decode cX0_hoursToCross 94 = .ok (.aload_n 1, 1) := by decide +kernel
theorem dX0_hoursToCross_95 : decode cX0_hoursToCross 95 = .ok (.getfield 114, 3) := by decide +kernel
theorem dX0_hoursToCross_98 : decode cX0_hoursToCross 98 = .ok (.ifCond .eq 8, 3) := by decide +kernel
theorem dX0_hoursToCross_101 : decode cX0_hoursToCross 101 = .ok (.bipush 10, 2) := by decide +kernel
theorem dX0_hoursToCross_103 : decode cX0_hoursToCross 103 = .ok (.goto 4, 3) := by decide +kernel
theorem dX0_hoursToCross_106 : decode cX0_hoursToCross 106 = .ok (.iconst (-1), 1) := by decide +kernel
theorem dX0_hoursToCross_107 : decode cX0_hoursToCross 107 = .ok (.if_icmp .ne 6, 3) := by decide +kernel
theorem dX0_hoursToCross_110 : decode cX0_hoursToCross 110 = .ok (.iload 5, 2) := by decide +kernel
theorem dX0_hoursToCross_112 : decode cX0_hoursToCross 112 = .ok (.ireturn, 1) := by decide +kernel
theorem dX0_hoursToCross_113 : decode cX0_hoursToCross 113 = .ok (.iinc 5 1, 3) := by decide +kernel
theorem dX0_hoursToCross_116 : decode cX0_hoursToCross 116 = .ok (.goto (-81), 3) := by decide +kernel
theorem dX0_hoursToCross_119 : decode cX0_hoursToCross 119 = .ok (.iconst (-1), 1) := by decide +kernel
theorem dX0_hoursToCross_120 : decode cX0_hoursToCross 120 = .ok (.ireturn, 1) := by decide +kernel
theorem dX0_letHourGoBy_0 : decode cX0_letHourGoBy 0 = .ok (.aload_n 0, 1) := by decide +kernel
theorem dX0_letHourGoBy_1 : decode cX0_letHourGoBy 1 = .ok (.aload_n 0, 1) := by decide +kernel
theorem dX0_letHourGoBy_2 : decode cX0_letHourGoBy 2 = .ok (.aload_n 0, 1) := by decide +kernel
theorem dX0_letHourGoBy_3 : decode cX0_letHourGoBy 3 = .ok (.getfield 28, 3) := by decide +kernel
theorem dX0_letHourGoBy_6 : decode cX0_letHourGoBy 6 = .ok (.invokevirtual 111, 3) := by decide +kernel
theorem dX0_letHourGoBy_9 : decode cX0_letHourGoBy 9 = .ok (.putfield 28, 3) := by decide +kernel
theorem dX0_letHourGoBy_12 : decode cX0_letHourGoBy 12 = .ok (.iconst 0, 1) := by decide +kernel
theorem dX0_letHourGoBy_13 : decode cX0_letHourGoBy 13 = .ok (.istore_n 1, 1) := by decide +kernel
theorem dX0_letHourGoBy_14 : decode cX0_letHourGoBy 14 = .ok (.iload_n 1, 1) := by decide +kernel
theorem dX0_letHourGoBy_15 : decode cX0_letHourGoBy 15 = .ok (.aload_n 0, 1) := by decide +kernel
theorem dX0_letHourGoBy_16 : decode cX0_letHourGoBy 16 = .ok (.getfield 21, 3) := by decide +kernel
theorem dX0_letHourGoBy_19 : decode cX0_letHourGoBy 19 = .ok (.if_icmp .ge 19, 3) := by decide +kernel
theorem dX0_letHourGoBy_22 : decode cX0_letHourGoBy 22 = .ok (.aload_n 0, 1) := by decide +kernel
theorem dX0_letHourGoBy_23 : decode cX0_letHourGoBy 23 = .ok (.aload_n 0, 1) := by decide +kernel
theorem dX0_letHourGoBy_24 : decode cX0_letHourGoBy 24 = .ok (.getfield 17, 3) := by decide +kernel
theorem dX0_letHourGoBy_27 : decode cX0_letHourGoBy 27 = .ok (.iload_n 1, 1) := by decide +kernel
theorem dX0_letHourGoBy_28 : decode cX0_letHourGoBy 28 = .ok (.aaload, 1) := by decide +kernel
theorem dX0_letHourGoBy_29 : decode cX0_letHourGoBy 29 = .ok (.invokevirtual 125, 3) := by decide +kernel
theorem dX0_letHourGoBy_32 : decode cX0_letHourGoBy 32 = .ok (.iinc 1 1, 3) := by decide +kernel
theorem dX0_letHourGoBy_35 : decode cX0_letHourGoBy 35 = .ok (.goto (-21), 3) := by decide +kernel
theorem dX0_letHourGoBy_38 : decode cX0_letHourGoBy 38 = .ok (.iconst 0, 1) := by decide +kernel
theorem dX0_letHourGoBy_39 : decode cX0_letHourGoBy 39 = .ok (.istore_n 1, 1) := by decide +kernel
theorem dX0_letHourGoBy_40 : decode cX0_letHourGoBy 40 = .ok (.iload_n 1, 1) := by decide +kernel
theorem dX0_letHourGoBy_41 : decode cX0_letHourGoBy 41 = .ok (.aload_n 0, 1) := by decide +kernel
theorem dX0_letHourGoBy_42 : decode cX0_letHourGoBy 42 = .ok (.getfield 21, 3) := by decide +kernel
theorem dX0_letHourGoBy_45 : decode cX0_letHourGoBy 45 = .ok (.if_icmp .ge 19, 3) := by decide +kernel
theorem dX0_letHourGoBy_48 : decode cX0_letHourGoBy 48 = .ok (.aload_n 0, 1) := by decide +kernel
theorem dX0_letHourGoBy_49 : decode cX0_letHourGoBy 49 = .ok (.aload_n 0, 1) := by decide +kernel
theorem dX0_letHourGoBy_50 : decode cX0_letHourGoBy 50 = .ok (.getfield 17, 3) := by decide +kernel
theorem dX0_letHourGoBy_53 : decode cX0_letHourGoBy 53 = .ok (.iload_n 1, 1) := by decide +kernel
theorem dX0_letHourGoBy_54 : decode cX0_letHourGoBy 54 = .ok (.aaload, 1) := by decide +kernel
theorem dX0_letHourGoBy_55 : decode cX0_letHourGoBy 55 = .ok (.invokevirtual 128, 3) := by decide +kernel
theorem dX0_letHourGoBy_58 : decode cX0_letHourGoBy 58 = .ok (.iinc 1 1, 3) := by decide +kernel
theorem dX0_letHourGoBy_61 : decode cX0_letHourGoBy 61 = .ok (.goto (-21), 3) := by decide +kernel
theorem dX0_letHourGoBy_64 : decode cX0_letHourGoBy 64 = .ok (.iconst 0, 1) := by decide +kernel
theorem dX0_letHourGoBy_65 : decode cX0_letHourGoBy 65 = .ok (.istore_n 1, 1) := by decide +kernel
theorem dX0_letHourGoBy_66 : decode cX0_letHourGoBy 66 = .ok (.iload_n 1, 1) := by decide +kernel
theorem dX0_letHourGoBy_67 : decode cX0_letHourGoBy 67 = .ok (.aload_n 0, 1) := by decide +kernel
theorem dX0_letHourGoBy_68 : decode cX0_letHourGoBy 68 = .ok (.getfield 21, 3) := by decide +kernel
theorem dX0_letHourGoBy_71 : decode cX0_letHourGoBy 71 = .ok (.if_icmp .ge 19, 3) := by decide +kernel
theorem dX0_letHourGoBy_74 : decode cX0_letHourGoBy 74 = .ok (.aload_n 0, 1) := by decide +kernel
theorem dX0_letHourGoBy_75 : decode cX0_letHourGoBy 75 = .ok (.aload_n 0, 1) := by decide +kernel
theorem dX0_letHourGoBy_76 : decode cX0_letHourGoBy 76 = .ok (.getfield 17, 3) := by decide +kernel
theorem dX0_letHourGoBy_79 : decode cX0_letHourGoBy 79 = .ok (.iload_n 1, 1) := by decide +kernel
theorem dX0_letHourGoBy_80 : decode cX0_letHourGoBy 80 = .ok (.aaload, 1) := by decide +kernel
theorem dX0_letHourGoBy_81 : decode cX0_letHourGoBy 81 = .ok (.invokevirtual 131, 3) := by decide +kernel
theorem dX0_letHourGoBy_84 : decode cX0_letHourGoBy 84 = .ok (.iinc 1 1, 3) := by decide +kernel
theorem dX0_letHourGoBy_87 : decode cX0_letHourGoBy 87 = .ok (.goto (-21), 3) := by decide +kernel
theorem dX0_letHourGoBy_90 : decode cX0_letHourGoBy 90 = .ok (.aload_n 0, 1) := by decide +kernel
theorem dX0_letHourGoBy_91 : decode cX0_letHourGoBy 91 = .ok (.iconst (-1), 1) := by decide +kernel
theorem dX0_letHourGoBy_92 : decode cX0_letHourGoBy 92 = .ok (.invokevirtual 134, 3) := by decide +kernel
theorem dX0_letHourGoBy_95 : decode cX0_letHourGoBy 95 = .ok (.aload_n 0, 1) := by decide +kernel
theorem dX0_letHourGoBy_96 : decode cX0_letHourGoBy 96 = .ok (.bipush 10, 2) := by decide +kernel
theorem dX0_letHourGoBy_98 : decode cX0_letHourGoBy 98 = .ok (.invokevirtual 134, 3) := by decide +kernel
theorem dX0_letHourGoBy_101 : decode cX0_letHourGoBy 101 = .ok (.aload_n 0, 1) := by decide +kernel
theorem dX0_letHourGoBy_102 : decode cX0_letHourGoBy 102 = .ok (.dup, 1) := by decide +kernel
theorem dX0_letHourGoBy_103 : decode cX0_letHourGoBy 103 = .ok (.getfield 25, 3) := by decide +kernel
theorem dX0_letHourGoBy_106 : decode cX0_letHourGoBy 106 = .ok (.iconst 1, 1) := by decide +kernel
theorem dX0_letHourGoBy_107 : decode cX0_letHourGoBy 107 = .ok (.iadd, 1) := by decide +kernel
theorem dX0_letHourGoBy_108 : decode cX0_letHourGoBy 108 = .ok (.putfield 25, 3) := by decide +kernel
theorem dX0_letHourGoBy_111 : decode cX0_letHourGoBy 111 = .ok (.return_, 1) := by decide +kernel
theorem dX0_sendBack_0 : decode cX0_sendBack 0 = .ok (.aload_n 0, 1) := by decide +kernel
theorem dX0_sendBack_1 : decode cX0_sendBack 1 = .ok (.aload_n 1, 1) := by decide +kernel
theorem dX0_sendBack_2 : decode cX0_sendBack 2 = .ok (.getfield 66, 3) := by decide +kernel
theorem dX0_sendBack_5 : decode cX0_sendBack 5 = .ok (.aload_n 1, 1) := by decide +kernel
theorem dX0_sendBack_6 : decode cX0_sendBack 6 = .ok (.getfield 114, 3) := by decide +kernel
theorem dX0_sendBack_9 : decode cX0_sendBack 9 = .ok (.aload_n 0, 1) := by decide +kernel
theorem dX0_sendBack_10 : decode cX0_sendBack 10 = .ok (.getfield 28, 3) := by decide +kernel
theorem dX0_sendBack_13 : decode cX0_sendBack 13 = .ok (.invokevirtual 117, 3) := by decide +kernel
theorem dX0_sendBack_16 : decode cX0_sendBack 16 = .ok (.istore_n 2, 1) := by decide +kernel
theorem dX0_sendBack_17 : decode cX0_sendBack 17 = .ok (.iload_n 2, 1) := by decide +kernel
theorem dX0_sendBack_18 : decode cX0_sendBack 18 = .ok (.aload_n 1, 1) := by decide +kernel
theorem dX0_sendBack_19 : decode cX0_sendBack 19 = .ok (.getfield 66, 3) := by decide +kernel
theorem dX0_sendBack_22 : decode cX0_sendBack 22 = .ok (.if_icmp .ne 4, 3) := by decide +kernel
theorem dX0_sendBack_25 : decode cX0_sendBack 25 = .ok (.return_, 1) := by decide +kernel
theorem dX0_sendBack_26 : decode cX0_sendBack 26 = .ok (.aload_n 1, 1) := by decide +kernel
theorem dX0_sendBack_27 : decode cX0_sendBack 27 = .ok (.iload_n 2, 1) := by decide +kernel
theorem dX0_sendBack_28 : decode cX0_sendBack 28 = .ok (.putfield 66, 3) := by decide +kernel
theorem dX0_sendBack_31 : decode cX0_sendBack 31 = .ok (.aload_n 1, 1) := by decide +kernel
theorem dX0_sendBack_32 : decode cX0_sendBack 32 = .ok (.iconst 5, 1) := by decide +kernel
theorem dX0_sendBack_33 : decode cX0_sendBack 33 = .ok (.invokevirtual 137, 3) := by decide +kernel
theorem dX0_sendBack_36 : decode cX0_sendBack 36 = .ok (.aload_n 0, 1) := by decide +kernel
theorem dX0_sendBack_37 : decode cX0_sendBack 37 = .ok (.dup, 1) := by decide +kernel
theorem dX0_sendBack_38 : decode cX0_sendBack 38 = .ok (.getfield 49, 3) := by decide +kernel
theorem dX0_sendBack_41 : decode cX0_sendBack 41 = .ok (.iconst 1, 1) := by decide +kernel
theorem dX0_sendBack_42 : decode cX0_sendBack 42 = .ok (.iadd, 1) := by decide +kernel
theorem dX0_sendBack_43 : decode cX0_sendBack 43 = .ok (.putfield 49, 3) := by decide +kernel
theorem dX0_sendBack_46 : decode cX0_sendBack 46 = .ok (.iload_n 2, 1) := by decide +kernel
theorem dX0_sendBack_47 : decode cX0_sendBack 47 = .ok (.invokestatic 97, 3) := by decide +kernel
theorem dX0_sendBack_50 : decode cX0_sendBack 50 = .ok (.ifCond .ne 7, 3) := by decide +kernel
theorem dX0_sendBack_53 : decode cX0_sendBack 53 = .ok (.aload_n 1, 1) := by decide +kernel
theorem dX0_sendBack_54 : decode cX0_sendBack 54 = .ok (.invokevirtual 140, 3) := by decide +kernel
theorem dX0_sendBack_57 : decode cX0_sendBack 57 = .ok (.iload_n 2, 1) := by decide +kernel
theorem dX0_sendBack_58 : decode cX0_sendBack 58 = .ok (.iconst (-1), 1) := by decide +kernel
theorem dX0_sendBack_59 : decode cX0_sendBack 59 = .ok (.if_icmp .ne 21, 3) := by decide +kernel
theorem dX0_sendBack_62 : decode cX0_sendBack 62 = .ok (.aload_n 0, 1) := by decide +kernel
theorem dX0_sendBack_63 : decode cX0_sendBack 63 = .ok (.dup, 1) := by decide +kernel
theorem dX0_sendBack_64 : decode cX0_sendBack 64 = .ok (.getfield 34, 3) := by decide +kernel
theorem dX0_sendBack_67 : decode cX0_sendBack 67 = .ok (.aload_n 1, 1) := by decide +kernel
theorem dX0_sendBack_68 : decode cX0_sendBack 68 = .ok (.getfield 91, 3) := by decide +kernel
theorem dX0_sendBack_71 : decode cX0_sendBack 71 = .ok (.iadd, 1) := by decide +kernel
theorem dX0_sendBack_72 : decode cX0_sendBack 72 = .ok (.putfield 34, 3) := by decide +kernel
theorem dX0_sendBack_75 : decode cX0_sendBack 75 = .ok (.aload_n 1, 1) := by decide +kernel
theorem dX0_sendBack_76 : decode cX0_sendBack 76 = .ok (.iconst 0, 1) := by decide +kernel
theorem dX0_sendBack_77 : decode cX0_sendBack 77 = .ok (.putfield 91, 3) := by decide +kernel
theorem dX0_sendBack_80 : decode cX0_sendBack 80 = .ok (.return_, 1) := by decide +kernel
theorem dX0_sendOn_0 : decode cX0_sendOn 0 = .ok (.aload_n 1, 1) := by decide +kernel
theorem dX0_sendOn_1 : decode cX0_sendOn 1 = .ok (.getfield 81, 3) := by decide +kernel
theorem dX0_sendOn_4 : decode cX0_sendOn 4 = .ok (.ifCond .eq 10, 3) := by decide +kernel
theorem dX0_sendOn_7 : decode cX0_sendOn 7 = .ok (.aload_n 1, 1) := by decide +kernel
theorem dX0_sendOn_8 : decode cX0_sendOn 8 = .ok (.getfield 108, 3) := by decide +kernel
theorem dX0_sendOn_11 : decode cX0_sendOn 11 = .ok (.ifCond .eq 4, 3) := by decide +kernel
theorem dX0_sendOn_14 : decode cX0_sendOn 14 = .ok (.return_, 1) := by decide +kernel
theorem dX0_sendOn_15 : decode cX0_sendOn 15 = .ok (.aload_n 1, 1) := by decide +kernel
theorem dX0_sendOn_16 : decode cX0_sendOn 16 = .ok (.aload_n 0, 1) := by decide +kernel
theorem dX0_sendOn_17 : decode cX0_sendOn 17 = .ok (.aload_n 1, 1) := by decide +kernel
theorem dX0_sendOn_18 : decode cX0_sendOn 18 = .ok (.invokevirtual 85, 3) := by decide +kernel
theorem dX0_sendOn_21 : decode cX0_sendOn 21 = .ok (.aload_n 1, 1) := by decide +kernel
theorem dX0_sendOn_22 : decode cX0_sendOn 22 = .ok (.getfield 66, 3) := by decide +kernel
theorem dX0_sendOn_25 : decode cX0_sendOn 25 = .ok (.aload_n 1, 1) := by decide +kernel
theorem dX0_sendOn_26 : decode cX0_sendOn 26 = .ok (.getfield 114, 3) := by decide +kernel
theorem dX0_sendOn_29 : decode cX0_sendOn 29 = .ok (.aload_n 0, 1) := by decide +kernel
theorem dX0_sendOn_30 : decode cX0_sendOn 30 = .ok (.getfield 28, 3) := by decide +kernel
theorem dX0_sendOn_33 : decode cX0_sendOn 33 = .ok (.invokevirtual 121, 3) := by decide +kernel
theorem dX0_sendOn_36 : decode cX0_sendOn 36 = .ok (.putfield 66, 3) := by decide +kernel
theorem dX0_sendOn_39 : decode cX0_sendOn 39 = .ok (.aload_n 1, 1) := by decide +kernel
theorem dX0_sendOn_40 : decode cX0_sendOn 40 = .ok (.getfield 66, 3) := by decide +kernel
theorem dX0_sendOn_43 : decode cX0_sendOn 43 = .ok (.aload_n 1, 1) := by decide +kernel
theorem dX0_sendOn_44 : decode cX0_sendOn 44 = .ok (.getfield 114, 3) := by decide +kernel
theorem dX0_sendOn_47 : decode cX0_sendOn 47 = .ok (.ifCond .eq 8, 3) := by decide +kernel
theorem dX0_sendOn_50 : decode cX0_sendOn 50 = .ok (.bipush 10, 2) := by decide +kernel
theorem dX0_sendOn_52 : decode cX0_sendOn 52 = .ok (.goto 4, 3) := by decide +kernel
theorem dX0_sendOn_55 : decode cX0_sendOn 55 = .ok (.iconst (-1), 1) := by decide +kernel
theorem dX0_sendOn_56 : decode cX0_sendOn 56 = .ok (.if_icmp .ne 8, 3) := by decide +kernel
theorem dX0_sendOn_59 : decode cX0_sendOn 59 = .ok (.aload_n 0, 1) := by decide +kernel
theorem dX0_sendOn_60 : decode cX0_sendOn 60 = .ok (.aload_n 1, 1) := by decide +kernel
theorem dX0_sendOn_61 : decode cX0_sendOn 61 = .ok (.invokevirtual 143, 3) := by decide +kernel
theorem dX0_sendOn_64 : decode cX0_sendOn 64 = .ok (.return_, 1) := by decide +kernel
theorem dX0_comeOver_0 : decode cX0_comeOver 0 = .ok (.aload_n 1, 1) := by decide +kernel
theorem dX0_comeOver_1 : decode cX0_comeOver 1 = .ok (.invokevirtual 140, 3) := by decide +kernel
theorem dX0_comeOver_4 : decode cX0_comeOver 4 = .ok (.aload_n 1, 1) := by decide +kernel
theorem dX0_comeOver_5 : decode cX0_comeOver 5 = .ok (.aload_n 1, 1) := by decide +kernel
theorem dX0_comeOver_6 : decode cX0_comeOver 6 = .ok (.getfield 114, 3) := by decide +kernel
theorem dX0_comeOver_9 : decode cX0_comeOver 9 = .ok (.ifCond .ne 7, 3) := by decide +kernel
theorem dX0_comeOver_12 : decode cX0_comeOver 12 = .ok (.iconst 1, 1) := by decide +kernel
theorem dX0_comeOver_13 : decode cX0_comeOver 13 = .ok (.goto 4, 3) := by decide +kernel
theorem dX0_comeOver_16 : decode cX0_comeOver 16 = .ok (.iconst 0, 1) := by decide +kernel
theorem dX0_comeOver_17 : decode cX0_comeOver 17 = .ok (.putfield 114, 3) := by decide +kernel
theorem dX0_comeOver_20 : decode cX0_comeOver 20 = .ok (.aload_n 1, 1) := by decide +kernel
theorem dX0_comeOver_21 : decode cX0_comeOver 21 = .ok (.dup, 1) := by decide +kernel
theorem dX0_comeOver_22 : decode cX0_comeOver 22 = .ok (.getfield 146, 3) := by decide +kernel
theorem dX0_comeOver_25 : decode cX0_comeOver 25 = .ok (.iconst 1, 1) := by decide +kernel
theorem dX0_comeOver_26 : decode cX0_comeOver 26 = .ok (.iadd, 1) := by decide +kernel
theorem dX0_comeOver_27 : decode cX0_comeOver 27 = .ok (.putfield 146, 3) := by decide +kernel
theorem dX0_comeOver_30 : decode cX0_comeOver 30 = .ok (.aload_n 0, 1) := by decide +kernel
theorem dX0_comeOver_31 : decode cX0_comeOver 31 = .ok (.dup, 1) := by decide +kernel
theorem dX0_comeOver_32 : decode cX0_comeOver 32 = .ok (.getfield 46, 3) := by decide +kernel
theorem dX0_comeOver_35 : decode cX0_comeOver 35 = .ok (.iconst 1, 1) := by decide +kernel
theorem dX0_comeOver_36 : decode cX0_comeOver 36 = .ok (.iadd, 1) := by decide +kernel
theorem dX0_comeOver_37 : decode cX0_comeOver 37 = .ok (.putfield 46, 3) := by decide +kernel
theorem dX0_comeOver_40 : decode cX0_comeOver 40 = .ok (.aload_n 0, 1) := by decide +kernel
theorem dX0_comeOver_41 : decode cX0_comeOver 41 = .ok (.dup, 1) := by decide +kernel
theorem dX0_comeOver_42 : decode cX0_comeOver 42 = .ok (.getfield 37, 3) := by decide +kernel
theorem dX0_comeOver_45 : decode cX0_comeOver 45 = .ok (.aload_n 1, 1) := by decide +kernel
theorem dX0_comeOver_46 : decode cX0_comeOver 46 = .ok (.getfield 91, 3) := by decide +kernel
theorem dX0_comeOver_49 : decode cX0_comeOver 49 = .ok (.iadd, 1) := by decide +kernel
theorem dX0_comeOver_50 : decode cX0_comeOver 50 = .ok (.putfield 37, 3) := by decide +kernel
theorem dX0_comeOver_53 : decode cX0_comeOver 53 = .ok (.aload_n 1, 1) := by decide +kernel
theorem dX0_comeOver_54 : decode cX0_comeOver 54 = .ok (.iconst 0, 1) := by decide +kernel
theorem dX0_comeOver_55 : decode cX0_comeOver 55 = .ok (.putfield 91, 3) := by decide +kernel
theorem dX0_comeOver_58 : decode cX0_comeOver 58 = .ok (.return_, 1) := by decide +kernel
theorem dX0_wetOrDry_0 : decode cX0_wetOrDry 0 = .ok (.aload_n 1, 1) := by decide +kernel
theorem dX0_wetOrDry_1 : decode cX0_wetOrDry 1 = .ok (.getfield 66, 3) := by decide +kernel
theorem dX0_wetOrDry_4 : decode cX0_wetOrDry 4 = .ok (.invokestatic 97, 3) := by decide +kernel
theorem dX0_wetOrDry_7 : decode cX0_wetOrDry 7 = .ok (.ifCond .ne 4, 3) := by decide +kernel
theorem dX0_wetOrDry_10 : decode cX0_wetOrDry 10 = .ok (.return_, 1) := by decide +kernel
theorem dX0_wetOrDry_11 : decode cX0_wetOrDry 11 = .ok (.aload_n 0, 1) := by decide +kernel
theorem dX0_wetOrDry_12 : decode cX0_wetOrDry 12 = .ok (.aload_n 1, 1) := by decide +kernel
theorem dX0_wetOrDry_13 : decode cX0_wetOrDry 13 = .ok (.getfield 66, 3) := by decide +kernel
theorem dX0_wetOrDry_16 : decode cX0_wetOrDry 16 = .ok (.aload_n 0, 1) := by decide +kernel
theorem dX0_wetOrDry_17 : decode cX0_wetOrDry 17 = .ok (.getfield 28, 3) := by decide +kernel
theorem dX0_wetOrDry_20 : decode cX0_wetOrDry 20 = .ok (.invokevirtual 101, 3) := by decide +kernel
theorem dX0_wetOrDry_23 : decode cX0_wetOrDry 23 = .ok (.istore_n 2, 1) := by decide +kernel
theorem dX0_wetOrDry_24 : decode cX0_wetOrDry 24 = .ok (.iload_n 2, 1) := by decide +kernel
theorem dX0_wetOrDry_25 : decode cX0_wetOrDry 25 = .ok (.iconst 1, 1) := by decide +kernel
theorem dX0_wetOrDry_26 : decode cX0_wetOrDry 26 = .ok (.if_icmp .ne 11, 3) := by decide +kernel
theorem dX0_wetOrDry_29 : decode cX0_wetOrDry 29 = .ok (.aload_n 1, 1) := by decide +kernel
theorem dX0_wetOrDry_30 : decode cX0_wetOrDry 30 = .ok (.iconst 2, 1) := by decide +kernel
theorem dX0_wetOrDry_31 : decode cX0_wetOrDry 31 = .ok (.invokevirtual 137, 3) := by decide +kernel
theorem dX0_wetOrDry_34 : decode cX0_wetOrDry 34 = .ok (.goto 12, 3) := by decide +kernel
theorem dX0_wetOrDry_37 : decode cX0_wetOrDry 37 = .ok (.iload_n 2, 1) := by decide +kernel
theorem dX0_wetOrDry_38 : decode cX0_wetOrDry 38 = .ok (.ifCond .ne 8, 3) := by decide +kernel
theorem dX0_wetOrDry_41 : decode cX0_wetOrDry 41 = .ok (.aload_n 1, 1) := by decide +kernel
theorem dX0_wetOrDry_42 : decode cX0_wetOrDry 42 = .ok (.iconst 1, 1) := by decide +kernel
theorem dX0_wetOrDry_43 : decode cX0_wetOrDry 43 = .ok (.invokevirtual 149, 3) := by decide +kernel
theorem dX0_wetOrDry_46 : decode cX0_wetOrDry 46 = .ok (.return_, 1) := by decide +kernel
theorem dX0_heat_0 : decode cX0_heat 0 = .ok (.aload_n 0, 1) := by decide +kernel
theorem dX0_heat_1 : decode cX0_heat 1 = .ok (.iload_n 1, 1) := by decide +kernel
theorem dX0_heat_2 : decode cX0_heat 2 = .ok (.iconst (-1), 1) := by decide +kernel
theorem dX0_heat_3 : decode cX0_heat 3 = .ok (.invokevirtual 152, 3) := by decide +kernel
theorem dX0_heat_6 : decode cX0_heat 6 = .ok (.istore_n 2, 1) := by decide +kernel
theorem dX0_heat_7 : decode cX0_heat 7 = .ok (.aload_n 0, 1) := by decide +kernel
theorem dX0_heat_8 : decode cX0_heat 8 = .ok (.iload_n 1, 1) := by decide +kernel
theorem dX0_heat_9 : decode cX0_heat 9 = .ok (.iload_n 2, 1) := by decide +kernel
theorem dX0_heat_10 : decode cX0_heat 10 = .ok (.invokevirtual 152, 3) := by decide +kernel
theorem dX0_heat_13 : decode cX0_heat 13 = .ok (.istore_n 3, 1) := by decide +kernel
theorem dX0_heat_14 : decode cX0_heat 14 = .ok (.iload_n 2, 1) := by decide +kernel
theorem dX0_heat_15 : decode cX0_heat 15 = .ok (.iconst (-1), 1) := by decide +kernel
theorem dX0_heat_16 : decode cX0_heat 16 = .ok (.if_icmp .eq 13, 3) := by decide +kernel
theorem dX0_heat_19 : decode cX0_heat 19 = .ok (.aload_n 0, 1) := by decide +kernel
theorem dX0_heat_20 : decode cX0_heat 20 = .ok (.getfield 17, 3) := by decide +kernel
theorem dX0_heat_23 : decode cX0_heat 23 = .ok (.iload_n 2, 1) := by decide +kernel
theorem dX0_heat_24 : decode cX0_heat 24 = .ok (.aaload, 1) := by decide +kernel
theorem dX0_heat_25 : decode cX0_heat 25 = .ok (.iconst 3, 1) := by decide +kernel
theorem dX0_heat_26 : decode cX0_heat 26 = .ok (.invokevirtual 149, 3) := by decide +kernel
theorem dX0_heat_29 : decode cX0_heat 29 = .ok (.iload_n 3, 1) := by decide +kernel
theorem dX0_heat_30 : decode cX0_heat 30 = .ok (.iconst (-1), 1) := by decide +kernel
theorem dX0_heat_31 : decode cX0_heat 31 = .ok (.if_icmp .eq 13, 3) := by decide +kernel
theorem dX0_heat_34 : decode cX0_heat 34 = .ok (.aload_n 0, 1) := by decide +kernel
theorem dX0_heat_35 : decode cX0_heat 35 = .ok (.getfield 17, 3) := by decide +kernel
theorem dX0_heat_38 : decode cX0_heat 38 = .ok (.iload_n 3, 1) := by decide +kernel
theorem dX0_heat_39 : decode cX0_heat 39 = .ok (.aaload, 1) := by decide +kernel
theorem dX0_heat_40 : decode cX0_heat 40 = .ok (.iconst 3, 1) := by decide +kernel
theorem dX0_heat_41 : decode cX0_heat 41 = .ok (.invokevirtual 149, 3) := by decide +kernel
theorem dX0_heat_44 : decode cX0_heat 44 = .ok (.return_, 1) := by decide +kernel
theorem dX0_wettestOn_0 : decode cX0_wettestOn 0 = .ok (.iconst (-1), 1) := by decide +kernel
theorem dX0_wettestOn_1 : decode cX0_wettestOn 1 = .ok (.istore_n 3, 1) := by decide +kernel
theorem dX0_wettestOn_2 : decode cX0_wettestOn 2 = .ok (.iconst 0, 1) := by decide +kernel
theorem dX0_wettestOn_3 : decode cX0_wettestOn 3 = .ok (.istore 4, 2) := by decide +kernel
theorem dX0_wettestOn_5 : decode cX0_wettestOn 5 = .ok (.iconst 0, 1) := by decide +kernel
theorem dX0_wettestOn_6 : decode cX0_wettestOn 6 = .ok (.istore 5, 2) := by decide +kernel
theorem dX0_wettestOn_8 : decode cX0_wettestOn 8 = .ok (.iload 5, 2) := by decide +kernel
theorem dX0_wettestOn_10 : decode cX0_wettestOn 10 = .ok (.aload_n 0, 1) := by decide +kernel
theorem dX0_wettestOn_11 : decode cX0_wettestOn 11 = .ok (.getfield 21, 3) := by decide +kernel
theorem dX0_wettestOn_14 : decode cX0_wettestOn 14 = .ok (.if_icmp .ge 61, 3) := by decide +kernel
theorem dX0_wettestOn_17 : decode cX0_wettestOn 17 = .ok (.aload_n 0, 1) := by decide +kernel
theorem dX0_wettestOn_18 : decode cX0_wettestOn 18 = .ok (.getfield 17, 3) := by decide +kernel
theorem dX0_wettestOn_21 : decode cX0_wettestOn 21 = .ok (.iload 5, 2) := by decide +kernel
theorem dX0_wettestOn_23 : decode cX0_wettestOn 23 = .ok (.aaload, 1) := by decide +kernel
theorem dX0_wettestOn_24 : decode cX0_wettestOn 24 = .ok (.astore 6, 2) := by decide +kernel
theorem dX0_wettestOn_26 : decode cX0_wettestOn 26 = .ok (.iload 5, 2) := by decide +kernel
theorem dX0_wettestOn_28 : decode cX0_wettestOn 28 = .ok (.iload_n 2, 1) := by decide +kernel
theorem dX0_wettestOn_29 : decode cX0_wettestOn 29 = .ok (.if_icmp .eq 40, 3) := by decide +kernel
theorem dX0_wettestOn_32 : decode cX0_wettestOn 32 = .ok (.aload 6, 2) := by decide +kernel
theorem dX0_wettestOn_34 : decode cX0_wettestOn 34 = .ok (.getfield 66, 3) := by decide +kernel
theorem dX0_wettestOn_37 : decode cX0_wettestOn 37 = .ok (.iload_n 1, 1) := by decide +kernel
theorem dX0_wettestOn_38 : decode cX0_wettestOn 38 = .ok (.if_icmp .ne 31, 3) := by decide +kernel
theorem dX0_wettestOn_41 : decode cX0_wettestOn 41 = .ok (.aload 6, 2) := by decide +kernel
theorem dX0_wettestOn_43 : decode cX0_wettestOn 43 = .ok (.getfield 81, 3) := by decide +kernel
theorem dX0_wettestOn_46 : decode cX0_wettestOn 46 = .ok (.ifCond .ne 23, 3) := by decide +kernel
theorem dX0_wettestOn_49 : decode cX0_wettestOn 49 = .ok (.aload 6, 2) := by decide +kernel
theorem dX0_wettestOn_51 : decode cX0_wettestOn 51 = .ok (.getfield 155, 3) := by decide +kernel
theorem dX0_wettestOn_54 : decode cX0_wettestOn 54 = .ok (.iload 4, 2) := by decide +kernel
theorem dX0_wettestOn_56 : decode cX0_wettestOn 56 = .ok (.if_icmp .le 13, 3) := by decide +kernel
theorem dX0_wettestOn_59 : decode cX0_wettestOn 59 = .ok (.iload 5, 2) := by decide +kernel
theorem dX0_wettestOn_61 : decode cX0_wettestOn 61 = .ok (.istore_n 3, 1) := by decide +kernel
theorem dX0_wettestOn_62 : decode cX0_wettestOn 62 = .ok (.aload 6, 2) := by decide +kernel
theorem dX0_wettestOn_64 : decode cX0_wettestOn 64 = .ok (.getfield 155, 3) := by decide +kernel
theorem dX0_wettestOn_67 : decode cX0_wettestOn 67 = .ok (.istore 4, 2) := by decide +kernel
theorem dX0_wettestOn_69 : decode cX0_wettestOn 69 = .ok (.iinc 5 1, 3) := by decide +kernel
theorem dX0_wettestOn_72 : decode cX0_wettestOn 72 = .ok (.goto (-64), 3) := by decide +kernel
theorem dX0_wettestOn_75 : decode cX0_wettestOn 75 = .ok (.iload_n 3, 1) := by decide +kernel
theorem dX0_wettestOn_76 : decode cX0_wettestOn 76 = .ok (.ireturn, 1) := by decide +kernel
theorem dX1_init_0 : decode cX1_init 0 = .ok (.aload_n 0, 1) := by decide +kernel
theorem dX1_init_1 : decode cX1_init 1 = .ok (.invokespecial 3, 3) := by decide +kernel
theorem dX1_init_4 : decode cX1_init 4 = .ok (.aload_n 0, 1) := by decide +kernel
theorem dX1_init_5 : decode cX1_init 5 = .ok (.bipush 8, 2) := by decide +kernel
theorem dX1_init_7 : decode cX1_init 7 = .ok (.anewarray 9, 3) := by decide +kernel
theorem dX1_init_10 : decode cX1_init 10 = .ok (.putfield 11, 3) := by decide +kernel
theorem dX1_init_13 : decode cX1_init 13 = .ok (.aload_n 0, 1) := by decide +kernel
theorem dX1_init_14 : decode cX1_init 14 = .ok (.iconst 0, 1) := by decide +kernel
theorem dX1_init_15 : decode cX1_init 15 = .ok (.putfield 17, 3) := by decide +kernel
theorem dX1_init_18 : decode cX1_init 18 = .ok (.aload_n 0, 1) := by decide +kernel
theorem dX1_init_19 : decode cX1_init 19 = .ok (.iconst 0, 1) := by decide +kernel
theorem dX1_init_20 : decode cX1_init 20 = .ok (.putfield 21, 3) := by decide +kernel
theorem dX1_init_23 : decode cX1_init 23 = .ok (.iconst 0, 1) := by decide +kernel
theorem dX1_init_24 : decode cX1_init 24 = .ok (.istore_n 1, 1) := by decide +kernel
theorem dX1_init_25 : decode cX1_init 25 = .ok (.iload_n 1, 1) := by decide +kernel
theorem dX1_init_26 : decode cX1_init 26 = .ok (.bipush 8, 2) := by decide +kernel
theorem dX1_init_28 : decode cX1_init 28 = .ok (.if_icmp .ge 22, 3) := by decide +kernel
theorem dX1_init_31 : decode cX1_init 31 = .ok (.aload_n 0, 1) := by decide +kernel
theorem dX1_init_32 : decode cX1_init 32 = .ok (.getfield 11, 3) := by decide +kernel
theorem dX1_init_35 : decode cX1_init 35 = .ok (.iload_n 1, 1) := by decide +kernel
theorem dX1_init_36 : decode cX1_init 36 = .ok (.new 9, 3) := by decide +kernel
theorem dX1_init_39 : decode cX1_init 39 = .ok (.dup, 1) := by decide +kernel
theorem dX1_init_40 : decode cX1_init 40 = .ok (.invokespecial 24, 3) := by decide +kernel
theorem dX1_init_43 : decode cX1_init 43 = .ok (.aastore, 1) := by decide +kernel
theorem dX1_init_44 : decode cX1_init 44 = .ok (.iinc 1 1, 3) := by decide +kernel
theorem dX1_init_47 : decode cX1_init 47 = .ok (.goto (-22), 3) := by decide +kernel
theorem dX1_init_50 : decode cX1_init 50 = .ok (.return_, 1) := by decide +kernel
theorem dX1_keep_0 : decode cX1_keep 0 = .ok (.aload_n 0, 1) := by decide +kernel
theorem dX1_keep_1 : decode cX1_keep 1 = .ok (.getfield 11, 3) := by decide +kernel
theorem dX1_keep_4 : decode cX1_keep 4 = .ok (.aload_n 0, 1) := by decide +kernel
theorem dX1_keep_5 : decode cX1_keep 5 = .ok (.getfield 17, 3) := by decide +kernel
theorem dX1_keep_8 : decode cX1_keep 8 = .ok (.aaload, 1) := by decide +kernel
theorem dX1_keep_9 : decode cX1_keep 9 = .ok (.aload_n 1, 1) := by decide +kernel
theorem dX1_keep_10 : decode cX1_keep 10 = .ok (.invokevirtual 25, 3) := by decide +kernel
theorem dX1_keep_13 : decode cX1_keep 13 = .ok (.aload_n 0, 1) := by decide +kernel
theorem dX1_keep_14 : decode cX1_keep 14 = .ok (.aload_n 0, 1) := by decide +kernel
theorem dX1_keep_15 : decode cX1_keep 15 = .ok (.getfield 17, 3) := by decide +kernel
theorem dX1_keep_18 : decode cX1_keep 18 = .ok (.bipush 7, 2) := by decide +kernel
theorem dX1_keep_20 : decode cX1_keep 20 = .ok (.if_icmp .ge 12, 3) := by decide +kernel
theorem dX1_keep_23 : decode cX1_keep 23 = .ok (.aload_n 0, 1) := by decide +kernel
theorem dX1_keep_24 : decode cX1_keep 24 = .ok (.getfield 17, 3) := by decide +kernel
theorem dX1_keep_27 : decode cX1_keep 27 = .ok (.iconst 1, 1) := by decide +kernel
theorem dX1_keep_28 : decode cX1_keep 28 = .ok (.iadd, 1) := by decide +kernel
theorem dX1_keep_29 : decode cX1_keep 29 = .ok (.goto 4, 3) := by decide +kernel
theorem dX1_keep_32 : decode cX1_keep 32 = .ok (.iconst 0, 1) := by decide +kernel
theorem dX1_keep_33 : decode cX1_keep 33 = .ok (.putfield 17, 3) := by decide +kernel
theorem dX1_keep_36 : decode cX1_keep 36 = .ok (.aload_n 0, 1) := by decide +kernel
theorem dX1_keep_37 : decode cX1_keep 37 = .ok (.bipush 8, 2) := by decide +kernel
theorem dX1_keep_39 : decode cX1_keep 39 = .ok (.aload_n 0, 1) := by decide +kernel
theorem dX1_keep_40 : decode cX1_keep 40 = .ok (.getfield 21, 3) := by decide +kernel
theorem dX1_keep_43 : decode cX1_keep 43 = .ok (.iconst 1, 1) := by decide +kernel
theorem dX1_keep_44 : decode cX1_keep 44 = .ok (.iadd, 1) := by decide +kernel
theorem dX1_keep_45 : decode cX1_keep 45 = .ok (.invokestatic 29, 3) := by decide +kernel
theorem dX1_keep_48 : decode cX1_keep 48 = .ok (.putfield 21, 3) := by decide +kernel
theorem dX1_keep_51 : decode cX1_keep 51 = .ok (.return_, 1) := by decide +kernel
theorem dX1_takeBack_0 : decode cX1_takeBack 0 = .ok (.aload_n 0, 1) := by decide +kernel
theorem dX1_takeBack_1 : decode cX1_takeBack 1 = .ok (.aload_n 0, 1) := by decide +kernel
theorem dX1_takeBack_2 : decode cX1_takeBack 2 = .ok (.getfield 17, 3) := by decide +kernel
theorem dX1_takeBack_5 : decode cX1_takeBack 5 = .ok (.ifCond .le 12, 3) := by decide +kernel
theorem dX1_takeBack_8 : decode cX1_takeBack 8 = .ok (.aload_n 0, 1) := by decide +kernel
theorem dX1_takeBack_9 : decode cX1_takeBack 9 = .ok (.getfield 17, 3) := by decide +kernel
theorem dX1_takeBack_12 : decode cX1_takeBack 12 = .ok (.iconst 1, 1) := by decide +kernel
theorem dX1_takeBack_13 : decode cX1_takeBack 13 = .ok (.isub, 1) := by decide +kernel
theorem dX1_takeBack_14 : decode cX1_takeBack 14 = .ok (.goto 5, 3) := by decide +kernel
theorem dX1_takeBack_17 : decode cX1_takeBack 17 = .ok (.bipush 7, 2) := by decide +kernel
theorem dX1_takeBack_19 : decode cX1_takeBack 19 = .ok (.putfield 17, 3) := by decide +kernel
theorem dX1_takeBack_22 : decode cX1_takeBack 22 = .ok (.aload_n 1, 1) := by decide +kernel
theorem dX1_takeBack_23 : decode cX1_takeBack 23 = .ok (.aload_n 0, 1) := by decide +kernel
theorem dX1_takeBack_24 : decode cX1_takeBack 24 = .ok (.getfield 11, 3) := by decide +kernel
theorem dX1_takeBack_27 : decode cX1_takeBack 27 = .ok (.aload_n 0, 1) := by decide +kernel
theorem dX1_takeBack_28 : decode cX1_takeBack 28 = .ok (.getfield 17, 3) := by decide +kernel
theorem dX1_takeBack_31 : decode cX1_takeBack 31 = .ok (.aaload, 1) := by decide +kernel
theorem dX1_takeBack_32 : decode cX1_takeBack 32 = .ok (.invokevirtual 25, 3) := by decide +kernel
theorem dX1_takeBack_35 : decode cX1_takeBack 35 = .ok (.aload_n 0, 1) := by decide +kernel
theorem dX1_takeBack_36 : decode cX1_takeBack 36 = .ok (.dup, 1) := by decide +kernel
theorem dX1_takeBack_37 : decode cX1_takeBack 37 = .ok (.getfield 21, 3) := by decide +kernel
theorem dX1_takeBack_40 : decode cX1_takeBack 40 = .ok (.iconst 1, 1) := by decide +kernel
theorem dX1_takeBack_41 : decode cX1_takeBack 41 = .ok (.isub, 1) := by decide +kernel
theorem dX1_takeBack_42 : decode cX1_takeBack 42 = .ok (.putfield 21, 3) := by decide +kernel
theorem dX1_takeBack_45 : decode cX1_takeBack 45 = .ok (.return_, 1) := by decide +kernel
theorem dX1_forget_0 : decode cX1_forget 0 = .ok (.aload_n 0, 1) := by decide +kernel
theorem dX1_forget_1 : decode cX1_forget 1 = .ok (.iconst 0, 1) := by decide +kernel
theorem dX1_forget_2 : decode cX1_forget 2 = .ok (.putfield 21, 3) := by decide +kernel
theorem dX1_forget_5 : decode cX1_forget 5 = .ok (.return_, 1) := by decide +kernel
theorem dX2_init_0 : decode cX2_init 0 = .ok (.aload_n 0, 1) := by decide +kernel
theorem dX2_init_1 : decode cX2_init 1 = .ok (.invokespecial 3, 3) := by decide +kernel
theorem dX2_init_4 : decode cX2_init 4 = .ok (.aload_n 0, 1) := by decide +kernel
theorem dX2_init_5 : decode cX2_init 5 = .ok (.bipush 60, 2) := by decide +kernel
theorem dX2_init_7 : decode cX2_init 7 = .ok (.newarray .char, 2) := by decide +kernel
theorem dX2_init_9 : decode cX2_init 9 = .ok (.putfield 9, 3) := by decide +kernel
theorem dX2_init_12 : decode cX2_init 12 = .ok (.aload_n 0, 1) := by decide +kernel
theorem dX2_init_13 : decode cX2_init 13 = .ok (.iconst 0, 1) := by decide +kernel
theorem dX2_init_14 : decode cX2_init 14 = .ok (.putfield 15, 3) := by decide +kernel
theorem dX2_init_17 : decode cX2_init 17 = .ok (.aload_n 0, 1) := by decide +kernel
theorem dX2_init_18 : decode cX2_init 18 = .ok (.iconst 0, 1) := by decide +kernel
theorem dX2_init_19 : decode cX2_init 19 = .ok (.putfield 19, 3) := by decide +kernel
theorem dX2_init_22 : decode cX2_init 22 = .ok (.aload_n 0, 1) := by decide +kernel
theorem dX2_init_23 : decode cX2_init 23 = .ok (.iconst (-1), 1) := by decide +kernel
theorem dX2_init_24 : decode cX2_init 24 = .ok (.putfield 22, 3) := by decide +kernel
theorem dX2_init_27 : decode cX2_init 27 = .ok (.return_, 1) := by decide +kernel
theorem dX2_isFull_0 : decode cX2_isFull 0 = .ok (.aload_n 0, 1) := by decide +kernel
theorem dX2_isFull_1 : decode cX2_isFull 1 = .ok (.getfield 15, 3) := by decide +kernel
theorem dX2_isFull_4 : decode cX2_isFull 4 = .ok (.bipush 60, 2) := by decide +kernel
theorem dX2_isFull_6 : decode cX2_isFull 6 = .ok (.if_icmp .lt 7, 3) := by decide +kernel
theorem dX2_isFull_9 : decode cX2_isFull 9 = .ok (.iconst 1, 1) := by decide +kernel
theorem dX2_isFull_10 : decode cX2_isFull 10 = .ok (.goto 4, 3) := by decide +kernel
theorem dX2_isFull_13 : decode cX2_isFull 13 = .ok (.iconst 0, 1) := by decide +kernel
theorem dX2_isFull_14 : decode cX2_isFull 14 = .ok (.ireturn, 1) := by decide +kernel
theorem dX2_append_0 : decode cX2_append 0 = .ok (.aload_n 0, 1) := by decide +kernel
theorem dX2_append_1 : decode cX2_append 1 = .ok (.getfield 15, 3) := by decide +kernel
theorem dX2_append_4 : decode cX2_append 4 = .ok (.bipush 60, 2) := by decide +kernel
theorem dX2_append_6 : decode cX2_append 6 = .ok (.if_icmp .ge 23, 3) := by decide +kernel
theorem dX2_append_9 : decode cX2_append 9 = .ok (.aload_n 0, 1) := by decide +kernel
theorem dX2_append_10 : decode cX2_append 10 = .ok (.getfield 9, 3) := by decide +kernel
theorem dX2_append_13 : decode cX2_append 13 = .ok (.aload_n 0, 1) := by decide +kernel
theorem dX2_append_14 : decode cX2_append 14 = .ok (.getfield 15, 3) := by decide +kernel
theorem dX2_append_17 : decode cX2_append 17 = .ok (.iload_n 1, 1) := by decide +kernel
theorem dX2_append_18 : decode cX2_append 18 = .ok (.castore, 1) := by decide +kernel
theorem dX2_append_19 : decode cX2_append 19 = .ok (.aload_n 0, 1) := by decide +kernel
theorem dX2_append_20 : decode cX2_append 20 = .ok (.dup, 1) := by decide +kernel
theorem dX2_append_21 : decode cX2_append 21 = .ok (.getfield 15, 3) := by decide +kernel
theorem dX2_append_24 : decode cX2_append 24 = .ok (.iconst 1, 1) := by decide +kernel
theorem dX2_append_25 : decode cX2_append 25 = .ok (.iadd, 1) := by decide +kernel
theorem dX2_append_26 : decode cX2_append 26 = .ok (.putfield 15, 3) := by decide +kernel
theorem dX2_append_29 : decode cX2_append 29 = .ok (.aload_n 0, 1) := by decide +kernel
theorem dX2_append_30 : decode cX2_append 30 = .ok (.getfield 15, 3) := by decide +kernel
theorem dX2_append_33 : decode cX2_append 33 = .ok (.ireturn, 1) := by decide +kernel
theorem dX2_empty_0 : decode cX2_empty 0 = .ok (.aload_n 0, 1) := by decide +kernel
theorem dX2_empty_1 : decode cX2_empty 1 = .ok (.iconst 0, 1) := by decide +kernel
theorem dX2_empty_2 : decode cX2_empty 2 = .ok (.putfield 15, 3) := by decide +kernel
theorem dX2_empty_5 : decode cX2_empty 5 = .ok (.return_, 1) := by decide +kernel
theorem dX2_readFor_0 : decode cX2_readFor 0 = .ok (.aload_n 0, 1) := by decide +kernel
theorem dX2_readFor_1 : decode cX2_readFor 1 = .ok (.iconst 0, 1) := by decide +kernel
theorem dX2_readFor_2 : decode cX2_readFor 2 = .ok (.putfield 19, 3) := by decide +kernel
theorem dX2_readFor_5 : decode cX2_readFor 5 = .ok (.aload_n 0, 1) := by decide +kernel
theorem dX2_readFor_6 : decode cX2_readFor 6 = .ok (.iconst (-1), 1) := by decide +kernel
theorem dX2_readFor_7 : decode cX2_readFor 7 = .ok (.putfield 22, 3) := by decide +kernel
theorem dX2_readFor_10 : decode cX2_readFor 10 = .ok (.aload_n 0, 1) := by decide +kernel
theorem dX2_readFor_11 : decode cX2_readFor 11 = .ok (.aload_n 1, 1) := by decide +kernel
theorem dX2_readFor_12 : decode cX2_readFor 12 = .ok (.iconst 0, 1) := by decide +kernel
theorem dX2_readFor_13 : decode cX2_readFor 13 = .ok (.invokevirtual 25, 3) := by decide +kernel
theorem dX2_readFor_16 : decode cX2_readFor 16 = .ok (.istore_n 2, 1) := by decide +kernel
theorem dX2_readFor_17 : decode cX2_readFor 17 = .ok (.aload_n 0, 1) := by decide +kernel
theorem dX2_readFor_18 : decode cX2_readFor 18 = .ok (.getfield 19, 3) := by decide +kernel
theorem dX2_readFor_21 : decode cX2_readFor 21 = .ok (.aload_n 0, 1) := by decide +kernel
theorem dX2_readFor_22 : decode cX2_readFor 22 = .ok (.getfield 15, 3) := by decide +kernel
theorem dX2_readFor_25 : decode cX2_readFor 25 = .ok (.if_icmp .ge 11, 3) := by decide +kernel
theorem dX2_readFor_28 : decode cX2_readFor 28 = .ok (.aload_n 0, 1) := by decide +kernel
theorem dX2_readFor_29 : decode cX2_readFor 29 = .ok (.aload_n 0, 1) := by decide +kernel
theorem dX2_readFor_30 : decode cX2_readFor 30 = .ok (.getfield 19, 3) := by decide +kernel
theorem dX2_readFor_33 : decode cX2_readFor 33 = .ok (.invokevirtual 29, 3) := by decide +kernel
theorem dX2_readFor_36 : decode cX2_readFor 36 = .ok (.iload_n 2, 1) := by decide +kernel
theorem dX2_readFor_37 : decode cX2_readFor 37 = .ok (.ireturn, 1) := by decide +kernel
theorem dX2_readQuestion_0 : decode cX2_readQuestion 0 = .ok (.aload_n 0, 1) := by decide +kernel
theorem dX2_readQuestion_1 : decode cX2_readQuestion 1 = .ok (.aload_n 1, 1) := by decide +kernel
theorem dX2_readQuestion_2 : decode cX2_readQuestion 2 = .ok (.iload_n 2, 1) := by decide +kernel
theorem dX2_readQuestion_3 : decode cX2_readQuestion 3 = .ok (.invokevirtual 33, 3) := by decide +kernel
theorem dX2_readQuestion_6 : decode cX2_readQuestion 6 = .ok (.istore_n 3, 1) := by decide +kernel
theorem dX2_readQuestion_7 : decode cX2_readQuestion 7 = .ok (.iconst 0, 1) := by decide +kernel
theorem dX2_readQuestion_8 : decode cX2_readQuestion 8 = .ok (.istore 4, 2) := by decide +kernel
theorem dX2_readQuestion_10 : decode cX2_readQuestion 10 = .ok (.iload 4, 2) := by decide +kernel
theorem dX2_readQuestion_12 : decode cX2_readQuestion 12 = .ok (.bipush 60, 2) := by decide +kernel
theorem dX2_readQuestion_14 : decode cX2_readQuestion 14 = .ok (.if_icmp .ge 27, 3) := by decide +kernel
theorem dX2_readQuestion_17 : decode cX2_readQuestion 17 = .ok (.aload_n 0, 1) := by decide +kernel
theorem dX2_readQuestion_18 : decode cX2_readQuestion 18 = .ok (.bipush 47, 2) := by decide +kernel
theorem dX2_readQuestion_20 : decode cX2_readQuestion 20 = .ok (.invokevirtual 36, 3) := by decide +kernel
theorem dX2_readQuestion_23 : decode cX2_readQuestion 23 = .ok (.ifCond .eq 18, 3) := by decide +kernel
theorem dX2_readQuestion_26 : decode cX2_readQuestion 26 = .ok (.iload_n 3, 1) := by decide +kernel
theorem dX2_readQuestion_27 : decode cX2_readQuestion 27 = .ok (.aload_n 0, 1) := by decide +kernel
theorem dX2_readQuestion_28 : decode cX2_readQuestion 28 = .ok (.aload_n 1, 1) := by decide +kernel
theorem dX2_readQuestion_29 : decode cX2_readQuestion 29 = .ok (.iload_n 2, 1) := by decide +kernel
theorem dX2_readQuestion_30 : decode cX2_readQuestion 30 = .ok (.invokevirtual 33, 3) := by decide +kernel
theorem dX2_readQuestion_33 : decode cX2_readQuestion 33 = .ok (.ior, 1) := by decide +kernel
theorem dX2_readQuestion_34 : decode cX2_readQuestion 34 = .ok (.istore_n 3, 1) := by decide +kernel
theorem dX2_readQuestion_35 : decode cX2_readQuestion 35 = .ok (.iinc 4 1, 3) := by decide +kernel
theorem dX2_readQuestion_38 : decode cX2_readQuestion 38 = .ok (.goto (-28), 3) := by decide +kernel
theorem dX2_readQuestion_41 : decode cX2_readQuestion 41 = .ok (.iload_n 3, 1) := by decide +kernel
theorem dX2_readQuestion_42 : decode cX2_readQuestion 42 = .ok (.ireturn, 1) := by decide +kernel
theorem dX2_readPart_0 : decode cX2_readPart 0 = .ok (.aload_n 0, 1) := by decide +kernel
theorem dX2_readPart_1 : decode cX2_readPart 1 = .ok (.aload_n 1, 1) := by decide +kernel
theorem dX2_readPart_2 : decode cX2_readPart 2 = .ok (.iload_n 2, 1) := by decide +kernel
theorem dX2_readPart_3 : decode cX2_readPart 3 = .ok (.invokevirtual 40, 3) := by decide +kernel
theorem dX2_readPart_6 : decode cX2_readPart 6 = .ok (.istore_n 3, 1) := by decide +kernel
theorem dX2_readPart_7 : decode cX2_readPart 7 = .ok (.iconst 0, 1) := by decide +kernel
theorem dX2_readPart_8 : decode cX2_readPart 8 = .ok (.istore 4, 2) := by decide +kernel
theorem dX2_readPart_10 : decode cX2_readPart 10 = .ok (.iload 4, 2) := by decide +kernel
theorem dX2_readPart_12 : decode cX2_readPart 12 = .ok (.bipush 60, 2) := by decide +kernel
theorem dX2_readPart_14 : decode cX2_readPart 14 = .ok (.if_icmp .ge 27, 3) := by decide +kernel
theorem dX2_readPart_17 : decode cX2_readPart 17 = .ok (.aload_n 0, 1) := by decide +kernel
theorem dX2_readPart_18 : decode cX2_readPart 18 = .ok (.bipush 43, 2) := by decide +kernel
theorem dX2_readPart_20 : decode cX2_readPart 20 = .ok (.invokevirtual 36, 3) := by decide +kernel
theorem dX2_readPart_23 : decode cX2_readPart 23 = .ok (.ifCond .eq 18, 3) := by decide +kernel
theorem dX2_readPart_26 : decode cX2_readPart 26 = .ok (.iload_n 3, 1) := by decide +kernel
theorem dX2_readPart_27 : decode cX2_readPart 27 = .ok (.aload_n 0, 1) := by decide +kernel
theorem dX2_readPart_28 : decode cX2_readPart 28 = .ok (.aload_n 1, 1) := by decide +kernel
theorem dX2_readPart_29 : decode cX2_readPart 29 = .ok (.iload_n 2, 1) := by decide +kernel
theorem dX2_readPart_30 : decode cX2_readPart 30 = .ok (.invokevirtual 40, 3) := by decide +kernel
theorem dX2_readPart_33 : decode cX2_readPart 33 = .ok (.iand, 1) := by decide +kernel
theorem dX2_readPart_34 : decode cX2_readPart 34 = .ok (.istore_n 3, 1) := by decide +kernel
theorem dX2_readPart_35 : decode cX2_readPart 35 = .ok (.iinc 4 1, 3) := by decide +kernel
theorem dX2_readPart_38 : decode cX2_readPart 38 = .ok (.goto (-28), 3) := by decide +kernel
theorem dX2_readPart_41 : decode cX2_readPart 41 = .ok (.iload_n 3, 1) := by decide +kernel
theorem dX2_readPart_42 : decode cX2_readPart 42 = .ok (.ireturn, 1) := by decide +kernel
theorem dX2_readOne_0 : decode cX2_readOne 0 = .ok (.iload_n 2, 1) := by decide +kernel
theorem dX2_readOne_1 : decode cX2_readOne 1 = .ok (.iconst 4, 1) := by decide +kernel
theorem dX2_readOne_2 : decode cX2_readOne 2 = .ok (.if_icmp .lt 31, 3) := by decide +kernel
theorem dX2_readOne_5 : decode cX2_readOne 5 = .ok (.aload_n 0, 1) := by decide +kernel
theorem dX2_readOne_6 : decode cX2_readOne 6 = .ok (.bipush 45, 2) := by decide +kernel
theorem dX2_readOne_8 : decode cX2_readOne 8 = .ok (.invokevirtual 43, 3) := by decide +kernel
theorem dX2_readOne_11 : decode cX2_readOne 11 = .ok (.ifCond .ne 12, 3) := by decide +kernel
theorem dX2_readOne_14 : decode cX2_readOne 14 = .ok (.aload_n 0, 1) := by decide +kernel
theorem dX2_readOne_15 : decode cX2_readOne 15 = .ok (.bipush 91, 2) := by decide +kernel
theorem dX2_readOne_17 : decode cX2_readOne 17 = .ok (.invokevirtual 43, 3) := by decide +kernel
theorem dX2_readOne_20 : decode cX2_readOne 20 = .ok (.ifCond .eq 13, 3) := by decide +kernel
theorem dX2_readOne_23 : decode cX2_readOne 23 = .ok (.aload_n 0, 1) := by decide +kernel
theorem dX2_readOne_24 : decode cX2_readOne 24 = .ok (.aload_n 0, 1) := by decide +kernel
theorem dX2_readOne_25 : decode cX2_readOne 25 = .ok (.getfield 19, 3) := by decide +kernel
theorem dX2_readOne_28 : decode cX2_readOne 28 = .ok (.invokevirtual 29, 3) := by decide +kernel
theorem dX2_readOne_31 : decode cX2_readOne 31 = .ok (.iconst 0, 1) := by decide +kernel
theorem dX2_readOne_32 : decode cX2_readOne 32 = .ok (.ireturn, 1) := by decide +kernel
theorem dX2_readOne_33 : decode cX2_readOne 33 = .ok (.aload_n 0, 1) := by decide +kernel
theorem dX2_readOne_34 : decode cX2_readOne 34 = .ok (.bipush 45, 2) := by decide +kernel
theorem dX2_readOne_36 : decode cX2_readOne 36 = .ok (.invokevirtual 36, 3) := by decide +kernel
theorem dX2_readOne_39 : decode cX2_readOne 39 = .ok (.ifCond .eq 19, 3) := by decide +kernel
theorem dX2_readOne_42 : decode cX2_readOne 42 = .ok (.aload_n 1, 1) := by decide +kernel
theorem dX2_readOne_43 : decode cX2_readOne 43 = .ok (.invokestatic 46, 3) := by decide +kernel
theorem dX2_readOne_46 : decode cX2_readOne 46 = .ok (.aload_n 0, 1) := by decide +kernel
theorem dX2_readOne_47 : decode cX2_readOne 47 = .ok (.aload_n 1, 1) := by decide +kernel
theorem dX2_readOne_48 : decode cX2_readOne 48 = .ok (.iload_n 2, 1) := by decide +kernel
theorem dX2_readOne_49 : decode cX2_readOne 49 = .ok (.iconst 1, 1) := by decide +kernel
theorem dX2_readOne_50 : decode cX2_readOne 50 = .ok (.iadd, 1) := by decide +kernel
theorem dX2_readOne_51 : decode cX2_readOne 51 = .ok (.invokevirtual 40, 3) := by decide +kernel
theorem dX2_readOne_54 : decode cX2_readOne 54 = .ok (.iconst (-1), 1) := by decide +kernel
theorem dX2_readOne_55 : decode cX2_readOne 55 = .ok (.ixor, 1) := by decide +kernel
theorem dX2_readOne_56 : decode cX2_readOne 56 = .ok (.iand, 1) := by decide +kernel
theorem dX2_readOne_57 : decode cX2_readOne 57 = .ok (.ireturn, 1) := by decide +kernel
theorem dX2_readOne_58 : decode cX2_readOne 58 = .ok (.aload_n 0, 1) := by decide +kernel
theorem dX2_readOne_59 : decode cX2_readOne 59 = .ok (.bipush 91, 2) := by decide +kernel
theorem dX2_readOne_61 : decode cX2_readOne 61 = .ok (.invokevirtual 36, 3) := by decide +kernel
theorem dX2_readOne_64 : decode cX2_readOne 64 = .ok (.ifCond .eq 31, 3) := by decide +kernel
theorem dX2_readOne_67 : decode cX2_readOne 67 = .ok (.aload_n 0, 1) := by decide +kernel
theorem dX2_readOne_68 : decode cX2_readOne 68 = .ok (.aload_n 1, 1) := by decide +kernel
theorem dX2_readOne_69 : decode cX2_readOne 69 = .ok (.iload_n 2, 1) := by decide +kernel
theorem dX2_readOne_70 : decode cX2_readOne 70 = .ok (.iconst 1, 1) := by decide +kernel
theorem dX2_readOne_71 : decode cX2_readOne 71 = .ok (.iadd, 1) := by decide +kernel
theorem dX2_readOne_72 : decode cX2_readOne 72 = .ok (.invokevirtual 25, 3) := by decide +kernel
theorem dX2_readOne_75 : decode cX2_readOne 75 = .ok (.istore_n 3, 1) := by decide +kernel
theorem dX2_readOne_76 : decode cX2_readOne 76 = .ok (.aload_n 0, 1) := by decide +kernel
theorem dX2_readOne_77 : decode cX2_readOne 77 = .ok (.bipush 93, 2) := by decide +kernel
theorem dX2_readOne_79 : decode cX2_readOne 79 = .ok (.invokevirtual 36, 3) := by decide +kernel
theorem dX2_readOne_82 : decode cX2_readOne 82 = .ok (.ifCond .ne 11, 3) := by decide +kernel
theorem dX2_readOne_85 : decode cX2_readOne 85 = .ok (.aload_n 0, 1) := by decide +kernel
theorem dX2_readOne_86 : decode cX2_readOne 86 = .ok (.aload_n 0, 1) := by decide +kernel
theorem dX2_readOne_87 : decode cX2_readOne 87 = .ok (.getfield 19, 3) := by decide +kernel
theorem dX2_readOne_90 : decode cX2_readOne 90 = .ok (.invokevirtual 29, 3) := by decide +kernel
theorem dX2_readOne_93 : decode cX2_readOne 93 = .ok (.iload_n 3, 1) := by decide +kernel
theorem dX2_readOne_94 : decode cX2_readOne 94 = .ok (.ireturn, 1) := by decide +kernel
theorem dX2_readOne_95 : decode cX2_readOne 95 = .ok (.aload_n 0, 1) := by decide +kernel
theorem dX2_readOne_96 : decode cX2_readOne 96 = .ok (.invokevirtual 50, 3) := by decide +kernel
theorem dX2_readOne_99 : decode cX2_readOne 99 = .ok (.astore_n 3, 1) := by decide +kernel
theorem dX2_readOne_100 : decode cX2_readOne 100 = .ok (.aload_n 3, 1) := by decide +kernel
theorem dX2_readOne_101 : decode cX2_readOne 101 = .ok (.ifnonnull 5, 3) := by decide +kernel
theorem dX2_readOne_104 : decode cX2_readOne 104 = .ok (.iconst 0, 1) := by decide +kernel
theorem dX2_readOne_105 : decode cX2_readOne 105 = .ok (.ireturn, 1) := by decide +kernel
theorem dX2_readOne_106 : decode cX2_readOne 106 = .ok (.aload_n 3, 1) := by decide +kernel
theorem dX2_readOne_107 : decode cX2_readOne 107 = .ok (.getfield 54, 3) := by decide +kernel
theorem dX2_readOne_110 : decode cX2_readOne 110 = .ok (.iconst (-1), 1) := by decide +kernel
theorem dX2_readOne_111 : decode cX2_readOne 111 = .ok (.if_icmp .eq 18, 3) := by decide +kernel
theorem dX2_readOne_114 : decode cX2_readOne 114 = .ok (.aload_n 1, 1) := by decide +kernel
theorem dX2_readOne_115 : decode cX2_readOne 115 = .ok (.aload_n 3, 1) := by decide +kernel
theorem dX2_readOne_116 : decode cX2_readOne 116 = .ok (.getfield 59, 3) := by decide +kernel
theorem dX2_readOne_119 : decode cX2_readOne 119 = .ok (.bipush 61, 2) := by decide +kernel
theorem dX2_readOne_121 : decode cX2_readOne 121 = .ok (.aload_n 3, 1) := by decide +kernel
theorem dX2_readOne_122 : decode cX2_readOne 122 = .ok (.getfield 54, 3) := by decide +kernel
theorem dX2_readOne_125 : decode cX2_readOne 125 = .ok (.invokestatic 62, 3) := by decide +kernel
theorem dX2_readOne_128 : decode cX2_readOne 128 = .ok (.ireturn, 1) := by decide +kernel
theorem dX2_readOne_129 : decode cX2_readOne 129 = .ok (.aload_n 0, 1) := by decide +kernel
theorem dX2_readOne_130 : decode cX2_readOne 130 = .ok (.invokevirtual 66, 3) := by decide +kernel
theorem dX2_readOne_133 : decode cX2_readOne 133 = .ok (.istore 4, 2) := by decide +kernel
theorem dX2_readOne_135 : decode cX2_readOne 135 = .ok (.aload_n 0, 1) := by decide +kernel
theorem dX2_readOne_136 : decode cX2_readOne 136 = .ok (.invokevirtual 70, 3) := by decide +kernel
theorem dX2_readOne_139 : decode cX2_readOne 139 = .ok (.istore 5, 2) := by decide +kernel
theorem dX2_readOne_141 : decode cX2_readOne 141 = .ok (.aload_n 1, 1) := by decide +kernel
theorem dX2_readOne_142 : decode cX2_readOne 142 = .ok (.aload_n 3, 1) := by decide +kernel
theorem dX2_readOne_143 : decode cX2_readOne 143 = .ok (.getfield 59, 3) := by decide +kernel
theorem dX2_readOne_146 : decode cX2_readOne 146 = .ok (.iload 4, 2) := by decide +kernel
theorem dX2_readOne_148 : decode cX2_readOne 148 = .ok (.iload 5, 2) := by decide +kernel
theorem dX2_readOne_150 : decode cX2_readOne 150 = .ok (.invokestatic 62, 3) := by decide +kernel
theorem dX2_readOne_153 : decode cX2_readOne 153 = .ok (.ireturn, 1) := by decide +kernel
theorem dX2_readWord_0 : decode cX2_readWord 0 = .ok (.iconst 0, 1) := by decide +kernel
theorem dX2_readWord_1 : decode cX2_readWord 1 = .ok (.istore_n 1, 1) := by decide +kernel
theorem dX2_readWord_2 : decode cX2_readWord 2 = .ok (.iconst 0, 1) := by decide +kernel
theorem dX2_readWord_3 : decode cX2_readWord 3 = .ok (.istore_n 2, 1) := by decide +kernel
theorem dX2_readWord_4 : decode cX2_readWord 4 = .ok (.iload_n 2, 1) := by decide +kernel
theorem dX2_readWord_5 : decode cX2_readWord 5 = .ok (.getstatic 74, 3) := by decide +kernel
theorem dX2_readWord_8 : decode cX2_readWord 8 = .ok (.arraylength, 1) := by decide +kernel
theorem dX2_readWord_9 : decode cX2_readWord 9 = .ok (.if_icmp .ge 57, 3) := by decide +kernel
theorem dX2_readWord_12 : decode cX2_readWord 12 = .ok (.getstatic 74, 3) := by decide +kernel
theorem dX2_readWord_15 : decode cX2_readWord 15 = .ok (.iload_n 2, 1) := by decide +kernel
theorem dX2_readWord_16 : decode cX2_readWord 16 = .ok (.aaload, 1) := by decide +kernel
theorem dX2_readWord_17 : decode cX2_readWord 17 = .ok (.astore_n 3, 1) := by decide +kernel
theorem dX2_readWord_18 : decode cX2_readWord 18 = .ok (.aload_n 0, 1) := by decide +kernel
theorem dX2_readWord_19 : decode cX2_readWord 19 = .ok (.aload_n 3, 1) := by decide +kernel
theorem dX2_readWord_20 : decode cX2_readWord 20 = .ok (.getfield 78, 3) := by decide +kernel
theorem dX2_readWord_23 : decode cX2_readWord 23 = .ok (.invokevirtual 82, 3) := by decide +kernel
theorem dX2_readWord_26 : decode cX2_readWord 26 = .ok (.istore 4, 2) := by decide +kernel
theorem dX2_readWord_28 : decode cX2_readWord 28 = .ok (.iload 4, 2) := by decide +kernel
theorem dX2_readWord_30 : decode cX2_readWord 30 = .ok (.aload_n 3, 1) := by decide +kernel
theorem dX2_readWord_31 : decode cX2_readWord 31 = .ok (.getfield 78, 3) := by decide +kernel
theorem dX2_readWord_34 : decode cX2_readWord 34 = .ok (.invokevirtual 86, 3) := by decide +kernel
theorem dX2_readWord_37 : decode cX2_readWord 37 = .ok (.if_icmp .ne 16, 3) := by decide +kernel
theorem dX2_readWord_40 : decode cX2_readWord 40 = .ok (.aload_n 0, 1) := by decide +kernel
theorem dX2_readWord_41 : decode cX2_readWord 41 = .ok (.dup, 1) := by decide +kernel
theorem dX2_readWord_42 : decode cX2_readWord 42 = .ok (.getfield 19, 3) := by decide +kernel
theorem dX2_readWord_45 : decode cX2_readWord 45 = .ok (.iload 4, 2) := by decide +kernel
theorem dX2_readWord_47 : decode cX2_readWord 47 = .ok (.iadd, 1) := by decide +kernel
theorem dX2_readWord_48 : decode cX2_readWord 48 = .ok (.putfield 19, 3) := by decide +kernel
theorem dX2_readWord_51 : decode cX2_readWord 51 = .ok (.aload_n 3, 1) := by decide +kernel
theorem dX2_readWord_52 : decode cX2_readWord 52 = .ok (.areturn, 1) := by decide +kernel
theorem dX2_readWord_53 : decode cX2_readWord 53 = .ok (.iload_n 1, 1) := by decide +kernel
theorem dX2_readWord_54 : decode cX2_readWord 54 = .ok (.iload 4, 2) := by decide +kernel
theorem dX2_readWord_56 : decode cX2_readWord 56 = .ok (.invokestatic 90, 3) := by decide +kernel
theorem dX2_readWord_59 : decode cX2_readWord 59 = .ok (.istore_n 1, 1) := by decide +kernel
theorem dX2_readWord_60 : decode cX2_readWord 60 = .ok (.iinc 2 1, 3) := by decide +kernel
theorem dX2_readWord_63 : decode cX2_readWord 63 = .ok (.goto (-59), 3) := by decide +kernel
theorem dX2_readWord_66 : decode cX2_readWord 66 = .ok (.aload_n 0, 1) := by decide +kernel
theorem dX2_readWord_67 : decode cX2_readWord 67 = .ok (.aload_n 0, 1) := by decide +kernel
theorem dX2_readWord_68 : decode cX2_readWord 68 = .ok (.getfield 19, 3) := by decide +kernel
theorem dX2_readWord_71 : decode cX2_readWord 71 = .ok (.iload_n 1, 1) := by decide +kernel
theorem dX2_readWord_72 : decode cX2_readWord 72 = .ok (.iadd, 1) := by decide +kernel
theorem dX2_readWord_73 : decode cX2_readWord 73 = .ok (.invokevirtual 29, 3) := by decide +kernel
theorem dX2_readWord_76 : decode cX2_readWord 76 = .ok (.aconst_null, 1) := by decide +kernel
theorem dX2_readWord_77 : decode cX2_readWord 77 = .ok (.areturn, 1) := by decide +kernel
theorem dX2_lettersAlike_0 : decode cX2_lettersAlike 0 = .ok (.aload_n 1, 1) := by decide +kernel
theorem dX2_lettersAlike_1 : decode cX2_lettersAlike 1 = .ok (.invokevirtual 86, 3) := by decide +kernel
theorem dX2_lettersAlike_4 : decode cX2_lettersAlike 4 = .ok (.aload_n 0, 1) := by decide +kernel
theorem dX2_lettersAlike_5 : decode cX2_lettersAlike 5 = .ok (.getfield 15, 3) := by decide +kernel
theorem dX2_lettersAlike_8 : decode cX2_lettersAlike 8 = .ok (.aload_n 0, 1) := by decide +kernel
theorem dX2_lettersAlike_9 : decode cX2_lettersAlike 9 = .ok (.getfield 19, 3) := by decide +kernel
theorem dX2_lettersAlike_12 : decode cX2_lettersAlike 12 = .ok (.isub, 1) := by decide +kernel
theorem dX2_lettersAlike_13 : decode cX2_lettersAlike 13 = .ok (.invokestatic 96, 3) := by decide +kernel
theorem dX2_lettersAlike_16 : decode cX2_lettersAlike 16 = .ok (.istore_n 2, 1) := by decide +kernel
theorem dX2_lettersAlike_17 : decode cX2_lettersAlike 17 = .ok (.iconst 0, 1) := by decide +kernel
theorem dX2_lettersAlike_18 : decode cX2_lettersAlike 18 = .ok (.istore_n 3, 1) := by decide +kernel
theorem dX2_lettersAlike_19 : decode cX2_lettersAlike 19 = .ok (.iload_n 3, 1) := by decide +kernel
theorem dX2_lettersAlike_20 : decode cX2_lettersAlike 20 = .ok (.iload_n 2, 1) := by decide +kernel
theorem dX2_lettersAlike_21 : decode cX2_lettersAlike 21 = .ok (.if_icmp .ge 30, 3) := by decide +kernel
theorem dX2_lettersAlike_24 : decode cX2_lettersAlike 24 = .ok (.aload_n 0, 1) := by decide +kernel
theorem dX2_lettersAlike_25 : decode cX2_lettersAlike 25 = .ok (.getfield 9, 3) := by decide +kernel
theorem dX2_lettersAlike_28 : decode cX2_lettersAlike 28 = .ok (.aload_n 0, 1) := by decide +kernel
theorem dX2_lettersAlike_29 : decode cX2_lettersAlike 29 = .ok (.getfield 19, 3) := by decide +kernel
theorem dX2_lettersAlike_32 : decode cX2_lettersAlike 32 = .ok (.iload_n 3, 1) := by decide +kernel
theorem dX2_lettersAlike_33 : decode cX2_lettersAlike 33 = .ok (.iadd, 1) := by decide +kernel
theorem dX2_lettersAlike_34 : decode cX2_lettersAlike 34 = .ok (.caload, 1) := by decide +kernel
theorem dX2_lettersAlike_35 : decode cX2_lettersAlike 35 = .ok (.aload_n 1, 1) := by decide +kernel
theorem dX2_lettersAlike_36 : decode cX2_lettersAlike 36 = .ok (.iload_n 3, 1) := by decide +kernel
theorem dX2_lettersAlike_37 : decode cX2_lettersAlike 37 = .ok (.invokevirtual 99, 3) := by decide +kernel
theorem dX2_lettersAlike_40 : decode cX2_lettersAlike 40 = .ok (.if_icmp .eq 5, 3) := by decide +kernel
theorem dX2_lettersAlike_43 : decode cX2_lettersAlike 43 = .ok (.iload_n 3, 1) := by decide +kernel
theorem dX2_lettersAlike_44 : decode cX2_lettersAlike 44 = .ok (.ireturn, 1) := by decide +kernel
theorem dX2_lettersAlike_45 : decode cX2_lettersAlike 45 = .ok (.iinc 3 1, 3) := by decide +kernel
theorem dX2_lettersAlike_48 : decode cX2_lettersAlike 48 = .ok (.goto (-29), 3) := by decide +kernel
theorem dX2_lettersAlike_51 : decode cX2_lettersAlike 51 = .ok (.iconst 0, 1) := by decide +kernel
theorem dX2_lettersAlike_52 : decode cX2_lettersAlike 52 = .ok (.iload_n 2, 1) := by decide +kernel
theorem dX2_lettersAlike_53 : decode cX2_lettersAlike 53 = .ok (.invokestatic 90, 3) := by decide +kernel
theorem dX2_lettersAlike_56 : decode cX2_lettersAlike 56 = .ok (.ireturn, 1) := by decide +kernel
theorem dX2_readSign_0 : decode cX2_readSign 0 = .ok (.aload_n 0, 1) := by decide +kernel
theorem dX2_readSign_1 : decode cX2_readSign 1 = .ok (.bipush 60, 2) := by decide +kernel
theorem dX2_readSign_3 : decode cX2_readSign 3 = .ok (.invokevirtual 36, 3) := by decide +kernel
theorem dX2_readSign_6 : decode cX2_readSign 6 = .ok (.ifCond .eq 6, 3) := by decide +kernel
theorem dX2_readSign_9 : decode cX2_readSign 9 = .ok (.bipush 60, 2) := by decide +kernel
theorem dX2_readSign_11 : decode cX2_readSign 11 = .ok (.ireturn, 1) := by decide +kernel
theorem dX2_readSign_12 : decode cX2_readSign 12 = .ok (.aload_n 0, 1) := by decide +kernel
theorem dX2_readSign_13 : decode cX2_readSign 13 = .ok (.bipush 62, 2) := by decide +kernel
theorem dX2_readSign_15 : decode cX2_readSign 15 = .ok (.invokevirtual 36, 3) := by decide +kernel
theorem dX2_readSign_18 : decode cX2_readSign 18 = .ok (.ifCond .eq 6, 3) := by decide +kernel
theorem dX2_readSign_21 : decode cX2_readSign 21 = .ok (.bipush 62, 2) := by decide +kernel
theorem dX2_readSign_23 : decode cX2_readSign 23 = .ok (.ireturn, 1) := by decide +kernel
theorem dX2_readSign_24 : decode cX2_readSign 24 = .ok (.aload_n 0, 1) := by decide +kernel
theorem dX2_readSign_25 : decode cX2_readSign 25 = .ok (.bipush 61, 2) := by decide +kernel
theorem dX2_readSign_27 : decode cX2_readSign 27 = .ok (.invokevirtual 36, 3) := by decide +kernel
theorem dX2_readSign_30 : decode cX2_readSign 30 = .ok (.ifCond .ne 11, 3) := by decide +kernel
theorem dX2_readSign_33 : decode cX2_readSign 33 = .ok (.aload_n 0, 1) := by decide +kernel
theorem dX2_readSign_34 : decode cX2_readSign 34 = .ok (.aload_n 0, 1) := by decide +kernel
theorem dX2_readSign_35 : decode cX2_readSign 35 = .ok (.getfield 19, 3) := by decide +kernel
theorem dX2_readSign_38 : decode cX2_readSign 38 = .ok (.invokevirtual 29, 3) := by decide +kernel
theorem dX2_readSign_41 : decode cX2_readSign 41 = .ok (.bipush 61, 2) := by decide +kernel
theorem dX2_readSign_43 : decode cX2_readSign 43 = .ok (.ireturn, 1) := by decide +kernel
theorem dX2_readNumber_0 : decode cX2_readNumber 0 = .ok (.aload_n 0, 1) := by decide +kernel
theorem dX2_readNumber_1 : decode cX2_readNumber 1 = .ok (.invokevirtual 103, 3) := by decide +kernel
theorem dX2_readNumber_4 : decode cX2_readNumber 4 = .ok (.ifCond .ne 13, 3) := by decide +kernel
theorem dX2_readNumber_7 : decode cX2_readNumber 7 = .ok (.aload_n 0, 1) := by decide +kernel
theorem dX2_readNumber_8 : decode cX2_readNumber 8 = .ok (.aload_n 0, 1) := by decide +kernel
theorem dX2_readNumber_9 : decode cX2_readNumber 9 = .ok (.getfield 19, 3) := by decide +kernel
theorem dX2_readNumber_12 : decode cX2_readNumber 12 = .ok (.invokevirtual 29, 3) := by decide +kernel
theorem dX2_readNumber_15 : decode cX2_readNumber 15 = .ok (.iconst 0, 1) := by decide +kernel
theorem dX2_readNumber_16 : decode cX2_readNumber 16 = .ok (.ireturn, 1) := by decide +kernel
theorem dX2_readNumber_17 : decode cX2_readNumber 17 = .ok (.aload_n 0, 1) := by decide +kernel
theorem dX2_readNumber_18 : decode cX2_readNumber 18 = .ok (.invokevirtual 107, 3) := by decide +kernel
theorem dX2_readNumber_21 : decode cX2_readNumber 21 = .ok (.istore_n 1, 1) := by decide +kernel
theorem dX2_readNumber_22 : decode cX2_readNumber 22 = .ok (.aload_n 0, 1) := by decide +kernel
theorem dX2_readNumber_23 : decode cX2_readNumber 23 = .ok (.invokevirtual 103, 3) := by decide +kernel
theorem dX2_readNumber_26 : decode cX2_readNumber 26 = .ok (.ifCond .eq 15, 3) := by decide +kernel
theorem dX2_readNumber_29 : decode cX2_readNumber 29 = .ok (.iload_n 1, 1) := by decide +kernel
theorem dX2_readNumber_30 : decode cX2_readNumber 30 = .ok (.bipush 10, 2) := by decide +kernel
theorem dX2_readNumber_32 : decode cX2_readNumber 32 = .ok (.imul, 1) := by decide +kernel
theorem dX2_readNumber_33 : decode cX2_readNumber 33 = .ok (.aload_n 0, 1) := by decide +kernel
theorem dX2_readNumber_34 : decode cX2_readNumber 34 = .ok (.invokevirtual 107, 3) := by decide +kernel
theorem dX2_readNumber_37 : decode cX2_readNumber 37 = .ok (.iadd, 1) := by decide +kernel
theorem dX2_readNumber_38 : decode cX2_readNumber 38 = .ok (.goto 4, 3) := by decide +kernel
theorem dX2_readNumber_41 : decode cX2_readNumber 41 = .ok (.iload_n 1, 1) := by decide +kernel
theorem dX2_readNumber_42 : decode cX2_readNumber 42 = .ok (.ireturn, 1) := by decide +kernel
theorem dX2_isDigitNext_0 : decode cX2_isDigitNext 0 = .ok (.aload_n 0, 1) := by decide +kernel
theorem dX2_isDigitNext_1 : decode cX2_isDigitNext 1 = .ok (.getfield 22, 3) := by decide +kernel
theorem dX2_isDigitNext_4 : decode cX2_isDigitNext 4 = .ok (.iconst (-1), 1) := by decide +kernel
theorem dX2_isDigitNext_5 : decode cX2_isDigitNext 5 = .ok (.if_icmp .ne 46, 3) := by decide +kernel
theorem dX2_isDigitNext_8 : decode cX2_isDigitNext 8 = .ok (.aload_n 0, 1) := by decide +kernel
theorem dX2_isDigitNext_9 : decode cX2_isDigitNext 9 = .ok (.getfield 19, 3) := by decide +kernel
theorem dX2_isDigitNext_12 : decode cX2_isDigitNext 12 = .ok (.aload_n 0, 1) := by decide +kernel
theorem dX2_isDigitNext_13 : decode cX2_isDigitNext 13 = .ok (.getfield 15, 3) := by decide +kernel
theorem dX2_isDigitNext_16 : decode cX2_isDigitNext 16 = .ok (.if_icmp .ge 35, 3) := by decide +kernel
theorem dX2_isDigitNext_19 : decode cX2_isDigitNext 19 = .ok (.aload_n 0, 1) := by decide +kernel
theorem dX2_isDigitNext_20 : decode cX2_isDigitNext 20 = .ok (.getfield 9, 3) := by decide +kernel
theorem dX2_isDigitNext_23 : decode cX2_isDigitNext 23 = .ok (.aload_n 0, 1) := by decide +kernel
theorem dX2_isDigitNext_24 : decode cX2_isDigitNext 24 = .ok (.getfield 19, 3) := by decide +kernel
theorem dX2_isDigitNext_27 : decode cX2_isDigitNext 27 = .ok (.caload, 1) := by decide +kernel
theorem dX2_isDigitNext_28 : decode cX2_isDigitNext 28 = .ok (.bipush 48, 2) := by decide +kernel
theorem dX2_isDigitNext_30 : decode cX2_isDigitNext 30 = .ok (.if_icmp .lt 21, 3) := by decide +kernel
theorem dX2_isDigitNext_33 : decode cX2_isDigitNext 33 = .ok (.aload_n 0, 1) := by decide +kernel
theorem dX2_isDigitNext_34 : decode cX2_isDigitNext 34 = .ok (.getfield 9, 3) := by decide +kernel
theorem dX2_isDigitNext_37 : decode cX2_isDigitNext 37 = .ok (.aload_n 0, 1) := by decide +kernel
theorem dX2_isDigitNext_38 : decode cX2_isDigitNext 38 = .ok (.getfield 19, 3) := by decide +kernel
theorem dX2_isDigitNext_41 : decode cX2_isDigitNext 41 = .ok (.caload, 1) := by decide +kernel
theorem dX2_isDigitNext_42 : decode cX2_isDigitNext 42 = .ok (.bipush 57, 2) := by decide +kernel
theorem dX2_isDigitNext_44 : decode cX2_isDigitNext 44 = .ok (.if_icmp .gt 7, 3) := by decide +kernel
theorem dX2_isDigitNext_47 : decode cX2_isDigitNext 47 = .ok (.iconst 1, 1) := by decide +kernel
theorem dX2_isDigitNext_48 : decode cX2_isDigitNext 48 = .ok (.goto 4, 3) := by decide +kernel
theorem dX2_isDigitNext_51 : decode cX2_isDigitNext 51 = .ok (.iconst 0, 1) := by decide +kernel
theorem dX2_isDigitNext_52 : decode cX2_isDigitNext 52 = .ok (.ireturn, 1) := by decide +kernel
theorem dX2_readDigit_0 : decode cX2_readDigit 0 = .ok (.aload_n 0, 1) := by decide +kernel
theorem dX2_readDigit_1 : decode cX2_readDigit 1 = .ok (.getfield 9, 3) := by decide +kernel
theorem dX2_readDigit_4 : decode cX2_readDigit 4 = .ok (.aload_n 0, 1) := by decide +kernel
theorem dX2_readDigit_5 : decode cX2_readDigit 5 = .ok (.getfield 19, 3) := by decide +kernel
theorem dX2_readDigit_8 : decode cX2_readDigit 8 = .ok (.caload, 1) := by decide +kernel
theorem dX2_readDigit_9 : decode cX2_readDigit 9 = .ok (.bipush 48, 2) := by decide +kernel
theorem dX2_readDigit_11 : decode cX2_readDigit 11 = .ok (.isub, 1) := by decide +kernel
theorem dX2_readDigit_12 : decode cX2_readDigit 12 = .ok (.istore_n 1, 1) := by decide +kernel
theorem dX2_readDigit_13 : decode cX2_readDigit 13 = .ok (.aload_n 0, 1) := by decide +kernel
theorem dX2_readDigit_14 : decode cX2_readDigit 14 = .ok (.dup, 1) := by decide +kernel
theorem dX2_readDigit_15 : decode cX2_readDigit 15 = .ok (.getfield 19, 3) := by decide +kernel
theorem dX2_readDigit_18 : decode cX2_readDigit 18 = .ok (.iconst 1, 1) := by decide +kernel
theorem dX2_readDigit_19 : decode cX2_readDigit 19 = .ok (.iadd, 1) := by decide +kernel
theorem dX2_readDigit_20 : decode cX2_readDigit 20 = .ok (.putfield 19, 3) := by decide +kernel
theorem dX2_readDigit_23 : decode cX2_readDigit 23 = .ok (.iload_n 1, 1) := by decide +kernel
theorem dX2_readDigit_24 : decode cX2_readDigit 24 = .ok (.ireturn, 1) := by decide +kernel
theorem dX2_isNext_0 : decode cX2_isNext 0 = .ok (.aload_n 0, 1) := by decide +kernel
theorem dX2_isNext_1 : decode cX2_isNext 1 = .ok (.getfield 22, 3) := by decide +kernel
theorem dX2_isNext_4 : decode cX2_isNext 4 = .ok (.iconst (-1), 1) := by decide +kernel
theorem dX2_isNext_5 : decode cX2_isNext 5 = .ok (.if_icmp .ne 31, 3) := by decide +kernel
theorem dX2_isNext_8 : decode cX2_isNext 8 = .ok (.aload_n 0, 1) := by decide +kernel
theorem dX2_isNext_9 : decode cX2_isNext 9 = .ok (.getfield 19, 3) := by decide +kernel
theorem dX2_isNext_12 : decode cX2_isNext 12 = .ok (.aload_n 0, 1) := by decide +kernel
theorem dX2_isNext_13 : decode cX2_isNext 13 = .ok (.getfield 15, 3) := by decide +kernel
theorem dX2_isNext_16 : decode cX2_isNext 16 = .ok (.if_icmp .ge 20, 3) := by decide +kernel
theorem dX2_isNext_19 : decode cX2_isNext 19 = .ok (.aload_n 0, 1) := by decide +kernel
theorem dX2_isNext_20 : decode cX2_isNext 20 = .ok (.getfield 9, 3) := by decide +kernel
theorem dX2_isNext_23 : decode cX2_isNext 23 = .ok (.aload_n 0, 1) := by decide +kernel
theorem dX2_isNext_24 : decode cX2_isNext 24 = .ok (.getfield 19, 3) := by decide +kernel
theorem dX2_isNext_27 : decode cX2_isNext 27 = .ok (.caload, 1) := by decide +kernel
theorem dX2_isNext_28 : decode cX2_isNext 28 = .ok (.iload_n 1, 1) := by decide +kernel
theorem dX2_isNext_29 : decode cX2_isNext 29 = .ok (.if_icmp .ne 7, 3) := by decide +kernel
theorem dX2_isNext_32 : decode cX2_isNext 32 = .ok (.iconst 1, 1) := by decide +kernel
theorem dX2_isNext_33 : decode cX2_isNext 33 = .ok (.goto 4, 3) := by decide +kernel
theorem dX2_isNext_36 : decode cX2_isNext 36 = .ok (.iconst 0, 1) := by decide +kernel
theorem dX2_isNext_37 : decode cX2_isNext 37 = .ok (.ireturn, 1) := by decide +kernel
theorem dX2_takes_0 : decode cX2_takes 0 = .ok (.aload_n 0, 1) := by decide +kernel
theorem dX2_takes_1 : decode cX2_takes 1 = .ok (.iload_n 1, 1) := by decide +kernel
theorem dX2_takes_2 : decode cX2_takes 2 = .ok (.invokevirtual 43, 3) := by decide +kernel
theorem dX2_takes_5 : decode cX2_takes 5 = .ok (.istore_n 2, 1) := by decide +kernel
theorem dX2_takes_6 : decode cX2_takes 6 = .ok (.iload_n 2, 1) := by decide +kernel
theorem dX2_takes_7 : decode cX2_takes 7 = .ok (.ifCond .eq 13, 3) := by decide +kernel
theorem dX2_takes_10 : decode cX2_takes 10 = .ok (.aload_n 0, 1) := by decide +kernel
theorem dX2_takes_11 : decode cX2_takes 11 = .ok (.dup, 1) := by decide +kernel
theorem dX2_takes_12 : decode cX2_takes 12 = .ok (.getfield 19, 3) := by decide +kernel
theorem dX2_takes_15 : decode cX2_takes 15 = .ok (.iconst 1, 1) := by decide +kernel
theorem dX2_takes_16 : decode cX2_takes 16 = .ok (.iadd, 1) := by decide +kernel
theorem dX2_takes_17 : decode cX2_takes 17 = .ok (.putfield 19, 3) := by decide +kernel
theorem dX2_takes_20 : decode cX2_takes 20 = .ok (.iload_n 2, 1) := by decide +kernel
theorem dX2_takes_21 : decode cX2_takes 21 = .ok (.ireturn, 1) := by decide +kernel
theorem dX2_fail_0 : decode cX2_fail 0 = .ok (.aload_n 0, 1) := by decide +kernel
theorem dX2_fail_1 : decode cX2_fail 1 = .ok (.getfield 22, 3) := by decide +kernel
theorem dX2_fail_4 : decode cX2_fail 4 = .ok (.iconst (-1), 1) := by decide +kernel
theorem dX2_fail_5 : decode cX2_fail 5 = .ok (.if_icmp .ne 8, 3) := by decide +kernel
theorem dX2_fail_8 : decode cX2_fail 8 = .ok (.aload_n 0, 1) := by decide +kernel
theorem dX2_fail_9 : decode cX2_fail 9 = .ok (.iload_n 1, 1) := by decide +kernel
theorem dX2_fail_10 : decode cX2_fail 10 = .ok (.putfield 22, 3) := by decide +kernel
theorem dX2_fail_13 : decode cX2_fail 13 = .ok (.return_, 1) := by decide +kernel
theorem dX2_everyone_0 : decode cX2_everyone 0 = .ok (.iconst 1, 1) := by decide +kernel
theorem dX2_everyone_1 : decode cX2_everyone 1 = .ok (.aload_n 0, 1) := by decide +kernel
theorem dX2_everyone_2 : decode cX2_everyone 2 = .ok (.getfield 110, 3) := by decide +kernel
theorem dX2_everyone_5 : decode cX2_everyone 5 = .ok (.ishl, 1) := by decide +kernel
theorem dX2_everyone_6 : decode cX2_everyone 6 = .ok (.iconst 1, 1) := by decide +kernel
theorem dX2_everyone_7 : decode cX2_everyone 7 = .ok (.isub, 1) := by decide +kernel
theorem dX2_everyone_8 : decode cX2_everyone 8 = .ok (.ireturn, 1) := by decide +kernel
theorem dX2_thoseWith_0 : decode cX2_thoseWith 0 = .ok (.iconst 0, 1) := by decide +kernel
theorem dX2_thoseWith_1 : decode cX2_thoseWith 1 = .ok (.istore 4, 2) := by decide +kernel
theorem dX2_thoseWith_3 : decode cX2_thoseWith 3 = .ok (.iconst 0, 1) := by decide +kernel
theorem dX2_thoseWith_4 : decode cX2_thoseWith 4 = .ok (.istore 5, 2) := by decide +kernel
theorem dX2_thoseWith_6 : decode cX2_thoseWith 6 = .ok (.iload 5, 2) := by decide +kernel
theorem dX2_thoseWith_8 : decode cX2_thoseWith 8 = .ok (.aload_n 0, 1) := by decide +kernel
theorem dX2_thoseWith_9 : decode cX2_thoseWith 9 = .ok (.getfield 110, 3) := by decide +kernel
theorem dX2_thoseWith_12 : decode cX2_thoseWith 12 = .ok (.if_icmp .ge 37, 3) := by decide +kernel
theorem dX2_thoseWith_15 : decode cX2_thoseWith 15 = .ok (.aload_n 0, 1) := by decide +kernel
theorem dX2_thoseWith_16 : decode cX2_thoseWith 16 = .ok (.getfield 115, 3) := by decide +kernel
theorem dX2_thoseWith_19 : decode cX2_thoseWith 19 = .ok (.iload 5, 2) := by decide +kernel
theorem dX2_thoseWith_21 : decode cX2_thoseWith 21 = .ok (.aaload, 1) := by decide +kernel
theorem dX2_thoseWith_22 : decode cX2_thoseWith 22 = .ok (.iload_n 1, 1) := by decide +kernel
theorem dX2_thoseWith_23 : decode cX2_thoseWith 23 = .ok (.invokevirtual 119, 3) := by decide +kernel
theorem dX2_thoseWith_26 : decode cX2_thoseWith 26 = .ok (.iload_n 2, 1) := by decide +kernel
theorem dX2_thoseWith_27 : decode cX2_thoseWith 27 = .ok (.iload_n 3, 1) := by decide +kernel
theorem dX2_thoseWith_28 : decode cX2_thoseWith 28 = .ok (.invokestatic 125, 3) := by decide +kernel
theorem dX2_thoseWith_31 : decode cX2_thoseWith 31 = .ok (.ifCond .eq 12, 3) := by decide +kernel
theorem dX2_thoseWith_34 : decode cX2_thoseWith 34 = .ok (.iload 4, 2) := by decide +kernel
theorem dX2_thoseWith_36 : decode cX2_thoseWith 36 = .ok (.iconst 1, 1) := by decide +kernel
theorem dX2_thoseWith_37 : decode cX2_thoseWith 37 = .ok (.iload 5, 2) := by decide +kernel
theorem dX2_thoseWith_39 : decode cX2_thoseWith 39 = .ok (.ishl, 1) := by decide +kernel
theorem dX2_thoseWith_40 : decode cX2_thoseWith 40 = .ok (.ior, 1) := by decide +kernel
theorem dX2_thoseWith_41 : decode cX2_thoseWith 41 = .ok (.istore 4, 2) := by decide +kernel
theorem dX2_thoseWith_43 : decode cX2_thoseWith 43 = .ok (.iinc 5 1, 3) := by decide +kernel
theorem dX2_thoseWith_46 : decode cX2_thoseWith 46 = .ok (.goto (-40), 3) := by decide +kernel
theorem dX2_thoseWith_49 : decode cX2_thoseWith 49 = .ok (.iload 4, 2) := by decide +kernel
theorem dX2_thoseWith_51 : decode cX2_thoseWith 51 = .ok (.ireturn, 1) := by decide +kernel
theorem dX2_isSo_0 : decode cX2_isSo 0 = .ok (.iload_n 1, 1) := by decide +kernel
theorem dX2_isSo_1 : decode cX2_isSo 1 = .ok (.bipush 60, 2) := by decide +kernel
theorem dX2_isSo_3 : decode cX2_isSo 3 = .ok (.if_icmp .ne 14, 3) := by decide +kernel
theorem dX2_isSo_6 : decode cX2_isSo 6 = .ok (.iload_n 0, 1) := by decide +kernel
theorem dX2_isSo_7 : decode cX2_isSo 7 = .ok (.iload_n 2, 1) := by decide +kernel
theorem dX2_isSo_8 : decode cX2_isSo 8 = .ok (.if_icmp .ge 7, 3) := by decide +kernel
theorem dX2_isSo_11 : decode cX2_isSo 11 = .ok (.iconst 1, 1) := by decide +kernel
theorem dX2_isSo_12 : decode cX2_isSo 12 = .ok (.goto 4, 3) := by decide +kernel
theorem dX2_isSo_15 : decode cX2_isSo 15 = .ok (.iconst 0, 1) := by decide +kernel
theorem dX2_isSo_16 : decode cX2_isSo 16 = .ok (.ireturn, 1) := by decide +kernel
theorem dX2_isSo_17 : decode cX2_isSo 17 = .ok (.iload_n 1, 1) := by decide +kernel
theorem dX2_isSo_18 : decode cX2_isSo 18 = .ok (.bipush 62, 2) := by decide +kernel
theorem dX2_isSo_20 : decode cX2_isSo 20 = .ok (.if_icmp .ne 16, 3) := by decide +kernel
theorem dX2_isSo_23 : decode cX2_isSo 23 = .ok (.iload_n 0, 1) := by decide +kernel
theorem dX2_isSo_24 : decode cX2_isSo 24 = .ok (.iload_n 2, 1) := by decide +kernel
theorem dX2_isSo_25 : decode cX2_isSo 25 = .ok (.if_icmp .le 7, 3) := by decide +kernel
theorem dX2_isSo_28 : decode cX2_isSo 28 = .ok (.iconst 1, 1) := by decide +kernel
theorem dX2_isSo_29 : decode cX2_isSo 29 = .ok (.goto 17, 3) := by decide +kernel
theorem dX2_isSo_32 : decode cX2_isSo 32 = .ok (.iconst 0, 1) := by decide +kernel
theorem dX2_isSo_33 : decode cX2_isSo 33 = .ok (.goto 13, 3) := by decide +kernel
theorem dX2_isSo_36 : decode cX2_isSo 36 = .ok (.iload_n 0, 1) := by decide +kernel
theorem dX2_isSo_37 : decode cX2_isSo 37 = .ok (.iload_n 2, 1) := by decide +kernel
theorem dX2_isSo_38 : decode cX2_isSo 38 = .ok (.if_icmp .ne 7, 3) := by decide +kernel
theorem dX2_isSo_41 : decode cX2_isSo 41 = .ok (.iconst 1, 1) := by decide +kernel
theorem dX2_isSo_42 : decode cX2_isSo 42 = .ok (.goto 4, 3) := by decide +kernel
theorem dX2_isSo_45 : decode cX2_isSo 45 = .ok (.iconst 0, 1) := by decide +kernel
theorem dX2_isSo_46 : decode cX2_isSo 46 = .ok (.ireturn, 1) := by decide +kernel
theorem dX3_init_0 : decode cX3_init 0 = .ok (.aload_n 0, 1) := by decide +kernel
theorem dX3_init_1 : decode cX3_init 1 = .ok (.invokespecial 3, 3) := by decide +kernel
theorem dX3_init_4 : decode cX3_init 4 = .ok (.aload_n 0, 1) := by decide +kernel
theorem dX3_init_5 : decode cX3_init 5 = .ok (.iconst 0, 1) := by decide +kernel
theorem dX3_init_6 : decode cX3_init 6 = .ok (.putfield 9, 3) := by decide +kernel
theorem dX3_init_9 : decode cX3_init 9 = .ok (.aload_n 0, 1) := by decide +kernel
theorem dX3_init_10 : decode cX3_init 10 = .ok (.iconst 0, 1) := by decide +kernel
theorem dX3_init_11 : decode cX3_init 11 = .ok (.putfield 15, 3) := by decide +kernel
theorem dX3_init_14 : decode cX3_init 14 = .ok (.aload_n 0, 1) := by decide +kernel
theorem dX3_init_15 : decode cX3_init 15 = .ok (.iconst (-1), 1) := by decide +kernel
theorem dX3_init_16 : decode cX3_init 16 = .ok (.putfield 18, 3) := by decide +kernel
theorem dX3_init_19 : decode cX3_init 19 = .ok (.aload_n 0, 1) := by decide +kernel
theorem dX3_init_20 : decode cX3_init 20 = .ok (.iconst 0, 1) := by decide +kernel
theorem dX3_init_21 : decode cX3_init 21 = .ok (.putfield 21, 3) := by decide +kernel
theorem dX3_init_24 : decode cX3_init 24 = .ok (.aload_n 0, 1) := by decide +kernel
theorem dX3_init_25 : decode cX3_init 25 = .ok (.iconst 1, 1) := by decide +kernel
theorem dX3_init_26 : decode cX3_init 26 = .ok (.putfield 25, 3) := by decide +kernel
theorem dX3_init_29 : decode cX3_init 29 = .ok (.aload_n 0, 1) := by decide +kernel
theorem dX3_init_30 : decode cX3_init 30 = .ok (.iconst 0, 1) := by decide +kernel
theorem dX3_init_31 : decode cX3_init 31 = .ok (.putfield 28, 3) := by decide +kernel
theorem dX3_init_34 : decode cX3_init 34 = .ok (.aload_n 0, 1) := by decide +kernel
theorem dX3_init_35 : decode cX3_init 35 = .ok (.iconst 0, 1) := by decide +kernel
theorem dX3_init_36 : decode cX3_init 36 = .ok (.putfield 31, 3) := by decide +kernel
theorem dX3_init_39 : decode cX3_init 39 = .ok (.aload_n 0, 1) := by decide +kernel
theorem dX3_init_40 : decode cX3_init 40 = .ok (.iconst 0, 1) := by decide +kernel
theorem dX3_init_41 : decode cX3_init 41 = .ok (.putfield 34, 3) := by decide +kernel
theorem dX3_init_44 : decode cX3_init 44 = .ok (.return_, 1) := by decide +kernel
theorem dX3_arrive_0 : decode cX3_arrive 0 = .ok (.aload_n 0, 1) := by decide +kernel
theorem dX3_arrive_1 : decode cX3_arrive 1 = .ok (.iload_n 1, 1) := by decide +kernel
theorem dX3_arrive_2 : decode cX3_arrive 2 = .ok (.putfield 9, 3) := by decide +kernel
theorem dX3_arrive_5 : decode cX3_arrive 5 = .ok (.aload_n 0, 1) := by decide +kernel
theorem dX3_arrive_6 : decode cX3_arrive 6 = .ok (.iconst 0, 1) := by decide +kernel
theorem dX3_arrive_7 : decode cX3_arrive 7 = .ok (.putfield 15, 3) := by decide +kernel
theorem dX3_arrive_10 : decode cX3_arrive 10 = .ok (.aload_n 0, 1) := by decide +kernel
theorem dX3_arrive_11 : decode cX3_arrive 11 = .ok (.iconst (-1), 1) := by decide +kernel
theorem dX3_arrive_12 : decode cX3_arrive 12 = .ok (.putfield 18, 3) := by decide +kernel
theorem dX3_arrive_15 : decode cX3_arrive 15 = .ok (.aload_n 0, 1) := by decide +kernel
theorem dX3_arrive_16 : decode cX3_arrive 16 = .ok (.iconst 0, 1) := by decide +kernel
theorem dX3_arrive_17 : decode cX3_arrive 17 = .ok (.putfield 21, 3) := by decide +kernel
theorem dX3_arrive_20 : decode cX3_arrive 20 = .ok (.aload_n 0, 1) := by decide +kernel
theorem dX3_arrive_21 : decode cX3_arrive 21 = .ok (.iconst 1, 1) := by decide +kernel
theorem dX3_arrive_22 : decode cX3_arrive 22 = .ok (.putfield 25, 3) := by decide +kernel
theorem dX3_arrive_25 : decode cX3_arrive 25 = .ok (.aload_n 0, 1) := by decide +kernel
theorem dX3_arrive_26 : decode cX3_arrive 26 = .ok (.iconst 0, 1) := by decide +kernel
theorem dX3_arrive_27 : decode cX3_arrive 27 = .ok (.putfield 28, 3) := by decide +kernel
theorem dX3_arrive_30 : decode cX3_arrive 30 = .ok (.aload_n 0, 1) := by decide +kernel
theorem dX3_arrive_31 : decode cX3_arrive 31 = .ok (.iconst 0, 1) := by decide +kernel
theorem dX3_arrive_32 : decode cX3_arrive 32 = .ok (.putfield 31, 3) := by decide +kernel
theorem dX3_arrive_35 : decode cX3_arrive 35 = .ok (.aload_n 0, 1) := by decide +kernel
theorem dX3_arrive_36 : decode cX3_arrive 36 = .ok (.iconst 0, 1) := by decide +kernel
theorem dX3_arrive_37 : decode cX3_arrive 37 = .ok (.putfield 34, 3) := by decide +kernel
theorem dX3_arrive_40 : decode cX3_arrive 40 = .ok (.return_, 1) := by decide +kernel
theorem dX3_copyFrom_0 : decode cX3_copyFrom 0 = .ok (.aload_n 0, 1) := by decide +kernel
theorem dX3_copyFrom_1 : decode cX3_copyFrom 1 = .ok (.aload_n 1, 1) := by decide +kernel
theorem dX3_copyFrom_2 : decode cX3_copyFrom 2 = .ok (.getfield 9, 3) := by decide +kernel
theorem dX3_copyFrom_5 : decode cX3_copyFrom 5 = .ok (.putfield 9, 3) := by decide +kernel
theorem dX3_copyFrom_8 : decode cX3_copyFrom 8 = .ok (.aload_n 0, 1) := by decide +kernel
theorem dX3_copyFrom_9 : decode cX3_copyFrom 9 = .ok (.aload_n 1, 1) := by decide +kernel
theorem dX3_copyFrom_10 : decode cX3_copyFrom 10 = .ok (.getfield 15, 3) := by decide +kernel
theorem dX3_copyFrom_13 : decode cX3_copyFrom 13 = .ok (.putfield 15, 3) := by decide +kernel
theorem dX3_copyFrom_16 : decode cX3_copyFrom 16 = .ok (.aload_n 0, 1) := by decide +kernel
theorem dX3_copyFrom_17 : decode cX3_copyFrom 17 = .ok (.aload_n 1, 1) := by decide +kernel
theorem dX3_copyFrom_18 : decode cX3_copyFrom 18 = .ok (.getfield 18, 3) := by decide +kernel
theorem dX3_copyFrom_21 : decode cX3_copyFrom 21 = .ok (.putfield 18, 3) := by decide +kernel
theorem dX3_copyFrom_24 : decode cX3_copyFrom 24 = .ok (.aload_n 0, 1) := by decide +kernel
theorem dX3_copyFrom_25 : decode cX3_copyFrom 25 = .ok (.aload_n 1, 1) := by decide +kernel
theorem dX3_copyFrom_26 : decode cX3_copyFrom 26 = .ok (.getfield 21, 3) := by decide +kernel
theorem dX3_copyFrom_29 : decode cX3_copyFrom 29 = .ok (.putfield 21, 3) := by decide +kernel
theorem dX3_copyFrom_32 : decode cX3_copyFrom 32 = .ok (.aload_n 0, 1) := by decide +kernel
theorem dX3_copyFrom_33 : decode cX3_copyFrom 33 = .ok (.aload_n 1, 1) := by decide +kernel
theorem dX3_copyFrom_34 : decode cX3_copyFrom 34 = .ok (.getfield 25, 3) := by decide +kernel
theorem dX3_copyFrom_37 : decode cX3_copyFrom 37 = .ok (.putfield 25, 3) := by decide +kernel
theorem dX3_copyFrom_40 : decode cX3_copyFrom 40 = .ok (.aload_n 0, 1) := by decide +kernel
theorem dX3_copyFrom_41 : decode cX3_copyFrom 41 = .ok (.aload_n 1, 1) := by decide +kernel
theorem dX3_copyFrom_42 : decode cX3_copyFrom 42 = .ok (.getfield 28, 3) := by decide +kernel
theorem dX3_copyFrom_45 : decode cX3_copyFrom 45 = .ok (.putfield 28, 3) := by decide +kernel
theorem dX3_copyFrom_48 : decode cX3_copyFrom 48 = .ok (.aload_n 0, 1) := by decide +kernel
theorem dX3_copyFrom_49 : decode cX3_copyFrom 49 = .ok (.aload_n 1, 1) := by decide +kernel
theorem dX3_copyFrom_50 : decode cX3_copyFrom 50 = .ok (.getfield 31, 3) := by decide +kernel
theorem dX3_copyFrom_53 : decode cX3_copyFrom 53 = .ok (.putfield 31, 3) := by decide +kernel
theorem dX3_copyFrom_56 : decode cX3_copyFrom 56 = .ok (.aload_n 0, 1) := by decide +kernel
theorem dX3_copyFrom_57 : decode cX3_copyFrom 57 = .ok (.aload_n 1, 1) := by decide +kernel
theorem dX3_copyFrom_58 : decode cX3_copyFrom 58 = .ok (.getfield 34, 3) := by decide +kernel
theorem dX3_copyFrom_61 : decode cX3_copyFrom 61 = .ok (.putfield 34, 3) := by decide +kernel
theorem dX3_copyFrom_64 : decode cX3_copyFrom 64 = .ok (.return_, 1) := by decide +kernel
theorem dX3_kind_0 : decode cX3_kind 0 = .ok (.aload_n 0, 1) := by decide +kernel
theorem dX3_kind_1 : decode cX3_kind 1 = .ok (.getfield 9, 3) := by decide +kernel
theorem dX3_kind_4 : decode cX3_kind 4 = .ok (.iconst 3, 1) := by decide +kernel
theorem dX3_kind_5 : decode cX3_kind 5 = .ok (.if_icmp .gt 5, 3) := by decide +kernel
theorem dX3_kind_8 : decode cX3_kind 8 = .ok (.iconst 0, 1) := by decide +kernel
theorem dX3_kind_9 : decode cX3_kind 9 = .ok (.ireturn, 1) := by decide +kernel
theorem dX3_kind_10 : decode cX3_kind 10 = .ok (.aload_n 0, 1) := by decide +kernel
theorem dX3_kind_11 : decode cX3_kind 11 = .ok (.getfield 9, 3) := by decide +kernel
theorem dX3_kind_14 : decode cX3_kind 14 = .ok (.bipush 8, 2) := by decide +kernel
theorem dX3_kind_16 : decode cX3_kind 16 = .ok (.if_icmp .gt 7, 3) := by decide +kernel
theorem dX3_kind_19 : decode cX3_kind 19 = .ok (.iconst 1, 1) := by decide +kernel
theorem dX3_kind_20 : decode cX3_kind 20 = .ok (.goto 4, 3) := by decide +kernel
theorem dX3_kind_23 : decode cX3_kind 23 = .ok (.iconst 2, 1) := by decide +kernel
theorem dX3_kind_24 : decode cX3_kind 24 = .ok (.ireturn, 1) := by decide +kernel
theorem dX3_toll_0 : decode cX3_toll 0 = .ok (.aload_n 0, 1) := by decide +kernel
theorem dX3_toll_1 : decode cX3_toll 1 = .ok (.invokevirtual 37, 3) := by decide +kernel
theorem dX3_toll_4 : decode cX3_toll 4 = .ok (.iconst 2, 1) := by decide +kernel
theorem dX3_toll_5 : decode cX3_toll 5 = .ok (.if_icmp .ne 7, 3) := by decide +kernel
theorem dX3_toll_8 : decode cX3_toll 8 = .ok (.iconst 4, 1) := by decide +kernel
theorem dX3_toll_9 : decode cX3_toll 9 = .ok (.goto 4, 3) := by decide +kernel
theorem dX3_toll_12 : decode cX3_toll 12 = .ok (.iconst 2, 1) := by decide +kernel
theorem dX3_toll_13 : decode cX3_toll 13 = .ok (.istore_n 1, 1) := by decide +kernel
theorem dX3_toll_14 : decode cX3_toll 14 = .ok (.iload_n 1, 1) := by decide +kernel
theorem dX3_toll_15 : decode cX3_toll 15 = .ok (.aload_n 0, 1) := by decide +kernel
theorem dX3_toll_16 : decode cX3_toll 16 = .ok (.getfield 9, 3) := by decide +kernel
theorem dX3_toll_19 : decode cX3_toll 19 = .ok (.iconst 5, 1) := by decide +kernel
theorem dX3_toll_20 : decode cX3_toll 20 = .ok (.idiv, 1) := by decide +kernel
theorem dX3_toll_21 : decode cX3_toll 21 = .ok (.iadd, 1) := by decide +kernel
theorem dX3_toll_22 : decode cX3_toll 22 = .ok (.ireturn, 1) := by decide +kernel
theorem dX3_region_0 : decode cX3_region 0 = .ok (.aload_n 0, 1) := by decide +kernel
theorem dX3_region_1 : decode cX3_region 1 = .ok (.getfield 18, 3) := by decide +kernel
theorem dX3_region_4 : decode cX3_region 4 = .ok (.iconst (-1), 1) := by decide +kernel
theorem dX3_region_5 : decode cX3_region 5 = .ok (.if_icmp .ne 5, 3) := by decide +kernel
theorem dX3_region_8 : decode cX3_region 8 = .ok (.iconst 0, 1) := by decide +kernel
theorem dX3_region_9 : decode cX3_region 9 = .ok (.ireturn, 1) := by decide +kernel
theorem dX3_region_10 : decode cX3_region 10 = .ok (.aload_n 0, 1) := by decide +kernel
theorem dX3_region_11 : decode cX3_region 11 = .ok (.getfield 18, 3) := by decide +kernel
theorem dX3_region_14 : decode cX3_region 14 = .ok (.bipush 10, 2) := by decide +kernel
theorem dX3_region_16 : decode cX3_region 16 = .ok (.if_icmp .ne 7, 3) := by decide +kernel
theorem dX3_region_19 : decode cX3_region 19 = .ok (.iconst 2, 1) := by decide +kernel
theorem dX3_region_20 : decode cX3_region 20 = .ok (.goto 4, 3) := by decide +kernel
theorem dX3_region_23 : decode cX3_region 23 = .ok (.iconst 1, 1) := by decide +kernel
theorem dX3_region_24 : decode cX3_region 24 = .ok (.ireturn, 1) := by decide +kernel
theorem dX3_getWetter_0 : decode cX3_getWetter 0 = .ok (.aload_n 0, 1) := by decide +kernel
theorem dX3_getWetter_1 : decode cX3_getWetter 1 = .ok (.bipush 20, 2) := by decide +kernel
theorem dX3_getWetter_3 : decode cX3_getWetter 3 = .ok (.aload_n 0, 1) := by decide +kernel
theorem dX3_getWetter_4 : decode cX3_getWetter 4 = .ok (.getfield 15, 3) := by decide +kernel
theorem dX3_getWetter_7 : decode cX3_getWetter 7 = .ok (.iload_n 1, 1) := by decide +kernel
theorem dX3_getWetter_8 : decode cX3_getWetter 8 = .ok (.iadd, 1) := by decide +kernel
theorem dX3_getWetter_9 : decode cX3_getWetter 9 = .ok (.invokestatic 41, 3) := by decide +kernel
theorem dX3_getWetter_12 : decode cX3_getWetter 12 = .ok (.putfield 15, 3) := by decide +kernel
theorem dX3_getWetter_15 : decode cX3_getWetter 15 = .ok (.return_, 1) := by decide +kernel
theorem dX3_getDrier_0 : decode cX3_getDrier 0 = .ok (.aload_n 0, 1) := by decide +kernel
theorem dX3_getDrier_1 : decode cX3_getDrier 1 = .ok (.iconst 0, 1) := by decide +kernel
theorem dX3_getDrier_2 : decode cX3_getDrier 2 = .ok (.aload_n 0, 1) := by decide +kernel
theorem dX3_getDrier_3 : decode cX3_getDrier 3 = .ok (.getfield 15, 3) := by decide +kernel
theorem dX3_getDrier_6 : decode cX3_getDrier 6 = .ok (.iload_n 1, 1) := by decide +kernel
theorem dX3_getDrier_7 : decode cX3_getDrier 7 = .ok (.isub, 1) := by decide +kernel
theorem dX3_getDrier_8 : decode cX3_getDrier 8 = .ok (.invokestatic 47, 3) := by decide +kernel
theorem dX3_getDrier_11 : decode cX3_getDrier 11 = .ok (.putfield 15, 3) := by decide +kernel
theorem dX3_getDrier_14 : decode cX3_getDrier 14 = .ok (.return_, 1) := by decide +kernel
theorem dX3_restOnBank_0 : decode cX3_restOnBank 0 = .ok (.aload_n 0, 1) := by decide +kernel
theorem dX3_restOnBank_1 : decode cX3_restOnBank 1 = .ok (.iconst 0, 1) := by decide +kernel
theorem dX3_restOnBank_2 : decode cX3_restOnBank 2 = .ok (.putfield 21, 3) := by decide +kernel
theorem dX3_restOnBank_5 : decode cX3_restOnBank 5 = .ok (.aload_n 0, 1) := by decide +kernel
theorem dX3_restOnBank_6 : decode cX3_restOnBank 6 = .ok (.iconst 0, 1) := by decide +kernel
theorem dX3_restOnBank_7 : decode cX3_restOnBank 7 = .ok (.putfield 28, 3) := by decide +kernel
theorem dX3_restOnBank_10 : decode cX3_restOnBank 10 = .ok (.return_, 1) := by decide +kernel
theorem dX3_numberOf_0 : decode cX3_numberOf 0 = .ok (.iload_n 1, 1) := by decide +kernel
theorem dX3_numberOf_1 : decode cX3_numberOf 1 = .ok (.tableswitch 120 0 8 #[51, 56, 61, 66, 71, 84, 97, 110, 115], 51) := by decide +kernel
theorem dX3_numberOf_52 : decode cX3_numberOf 52 = .ok (.aload_n 0, 1) := by decide +kernel
theorem dX3_numberOf_53 : decode cX3_numberOf 53 = .ok (.invokevirtual 37, 3) := by decide +kernel
theorem dX3_numberOf_56 : decode cX3_numberOf 56 = .ok (.ireturn, 1) := by decide +kernel
theorem dX3_numberOf_57 : decode cX3_numberOf 57 = .ok (.aload_n 0, 1) := by decide +kernel
theorem dX3_numberOf_58 : decode cX3_numberOf 58 = .ok (.getfield 9, 3) := by decide +kernel
theorem dX3_numberOf_61 : decode cX3_numberOf 61 = .ok (.ireturn, 1) := by decide +kernel
theorem dX3_numberOf_62 : decode cX3_numberOf 62 = .ok (.aload_n 0, 1) := by decide +kernel
theorem dX3_numberOf_63 : decode cX3_numberOf 63 = .ok (.getfield 15, 3) := by decide +kernel
theorem dX3_numberOf_66 : decode cX3_numberOf 66 = .ok (.ireturn, 1) := by decide +kernel
theorem dX3_numberOf_67 : decode cX3_numberOf 67 = .ok (.aload_n 0, 1) := by decide +kernel
theorem dX3_numberOf_68 : decode cX3_numberOf 68 = .ok (.getfield 18, 3) := by decide +kernel
theorem dX3_numberOf_71 : decode cX3_numberOf 71 = .ok (.ireturn, 1) := by decide +kernel
theorem dX3_numberOf_72 : decode cX3_numberOf 72 = .ok (.aload_n 0, 1) := by decide +kernel
theorem dX3_numberOf_73 : decode cX3_numberOf 73 = .ok (.getfield 21, 3) := by decide +kernel
theorem dX3_numberOf_76 : decode cX3_numberOf 76 = .ok (.ifCond .eq 7, 3) := by decide +kernel
theorem dX3_numberOf_79 : decode cX3_numberOf 79 = .ok (.iconst 1, 1) := by decide +kernel
theorem dX3_numberOf_80 : decode cX3_numberOf 80 = .ok (.goto 4, 3) := by decide +kernel
theorem dX3_numberOf_83 : decode cX3_numberOf 83 = .ok (.iconst 0, 1) := by decide +kernel
theorem dX3_numberOf_84 : decode cX3_numberOf 84 = .ok (.ireturn, 1) := by decide +kernel
theorem dX3_numberOf_85 : decode cX3_numberOf 85 = .ok (.aload_n 0, 1) := by decide +kernel
theorem dX3_numberOf_86 : decode cX3_numberOf 86 = .ok (.getfield 25, 3) := by decide +kernel
theorem dX3_numberOf_89 : decode cX3_numberOf 89 = .ok (.ifCond .eq 7, 3) := by decide +kernel
theorem dX3_numberOf_92 : decode cX3_numberOf 92 = .ok (.iconst 1, 1) := by decide +kernel
theorem dX3_numberOf_93 : decode cX3_numberOf 93 = .ok (.goto 4, 3) := by decide +kernel
theorem dX3_numberOf_96 : decode cX3_numberOf 96 = .ok (.iconst 0, 1) := by decide +kernel
theorem dX3_numberOf_97 : decode cX3_numberOf 97 = .ok (.ireturn, 1) := by decide +kernel
theorem dX3_numberOf_98 : decode cX3_numberOf 98 = .ok (.aload_n 0, 1) := by decide +kernel
theorem dX3_numberOf_99 : decode cX3_numberOf 99 = .ok (.getfield 28, 3) := by decide +kernel
theorem dX3_numberOf_102 : decode cX3_numberOf 102 = .ok (.ifCond .eq 7, 3) := by decide +kernel
theorem dX3_numberOf_105 : decode cX3_numberOf 105 = .ok (.iconst 1, 1) := by decide +kernel
theorem dX3_numberOf_106 : decode cX3_numberOf 106 = .ok (.goto 4, 3) := by decide +kernel
theorem dX3_numberOf_109 : decode cX3_numberOf 109 = .ok (.iconst 0, 1) := by decide +kernel
theorem dX3_numberOf_110 : decode cX3_numberOf 110 = .ok (.ireturn, 1) := by decide +kernel
theorem dX3_numberOf_111 : decode cX3_numberOf 111 = .ok (.aload_n 0, 1) := by decide +kernel
theorem dX3_numberOf_112 : decode cX3_numberOf 112 = .ok (.getfield 31, 3) := by decide +kernel
theorem dX3_numberOf_115 : decode cX3_numberOf 115 = .ok (.ireturn, 1) := by decide +kernel
theorem dX3_numberOf_116 : decode cX3_numberOf 116 = .ok (.aload_n 0, 1) := by decide +kernel
theorem dX3_numberOf_117 : decode cX3_numberOf 117 = .ok (.getfield 34, 3) := by decide +kernel
theorem dX3_numberOf_120 : decode cX3_numberOf 120 = .ok (.ireturn, 1) := by decide +kernel
theorem dX3_numberOf_121 : decode cX3_numberOf 121 = .ok (.aload_n 0, 1) := by decide +kernel
theorem dX3_numberOf_122 : decode cX3_numberOf 122 = .ok (.invokevirtual 50, 3) := by decide +kernel
theorem dX3_numberOf_125 : decode cX3_numberOf 125 = .ok (.ireturn, 1) := by decide +kernel
theorem dX5_init_0 : decode cX5_init 0 = .ok (.aload_n 0, 1) := by decide +kernel
theorem dX5_init_1 : decode cX5_init 1 = .ok (.invokespecial 3, 3) := by decide +kernel
theorem dX5_init_4 : decode cX5_init 4 = .ok (.aload_n 0, 1) := by decide +kernel
theorem dX5_init_5 : decode cX5_init 5 = .ok (.new 9, 3) := by decide +kernel
theorem dX5_init_8 : decode cX5_init 8 = .ok (.dup, 1) := by decide +kernel
theorem dX5_init_9 : decode cX5_init 9 = .ok (.invokespecial 11, 3) := by decide +kernel
theorem dX5_init_12 : decode cX5_init 12 = .ok (.putfield 12, 3) := by decide +kernel
theorem dX5_init_15 : decode cX5_init 15 = .ok (.aload_n 0, 1) := by decide +kernel
theorem dX5_init_16 : decode cX5_init 16 = .ok (.new 16, 3) := by decide +kernel
theorem dX5_init_19 : decode cX5_init 19 = .ok (.dup, 1) := by decide +kernel
theorem dX5_init_20 : decode cX5_init 20 = .ok (.invokespecial 18, 3) := by decide +kernel
theorem dX5_init_23 : decode cX5_init 23 = .ok (.putfield 19, 3) := by decide +kernel
theorem dX5_init_26 : decode cX5_init 26 = .ok (.aload_n 0, 1) := by decide +kernel
theorem dX5_init_27 : decode cX5_init 27 = .ok (.new 9, 3) := by decide +kernel
theorem dX5_init_30 : decode cX5_init 30 = .ok (.dup, 1) := by decide +kernel
theorem dX5_init_31 : decode cX5_init 31 = .ok (.invokespecial 11, 3) := by decide +kernel
theorem dX5_init_34 : decode cX5_init 34 = .ok (.putfield 23, 3) := by decide +kernel
theorem dX5_init_37 : decode cX5_init 37 = .ok (.aload_n 0, 1) := by decide +kernel
theorem dX5_init_38 : decode cX5_init 38 = .ok (.iconst 0, 1) := by decide +kernel
theorem dX5_init_39 : decode cX5_init 39 = .ok (.putfield 26, 3) := by decide +kernel
theorem dX5_init_42 : decode cX5_init 42 = .ok (.aload_n 0, 1) := by decide +kernel
theorem dX5_init_43 : decode cX5_init 43 = .ok (.new 30, 3) := by decide +kernel
theorem dX5_init_46 : decode cX5_init 46 = .ok (.dup, 1) := by decide +kernel
theorem dX5_init_47 : decode cX5_init 47 = .ok (.invokespecial 32, 3) := by decide +kernel
theorem dX5_init_50 : decode cX5_init 50 = .ok (.putfield 33, 3) := by decide +kernel
theorem dX5_init_53 : decode cX5_init 53 = .ok (.aload_n 0, 1) := by decide +kernel
theorem dX5_init_54 : decode cX5_init 54 = .ok (.iconst (-1), 1) := by decide +kernel
theorem dX5_init_55 : decode cX5_init 55 = .ok (.putfield 37, 3) := by decide +kernel
theorem dX5_init_58 : decode cX5_init 58 = .ok (.aload_n 0, 1) := by decide +kernel
theorem dX5_init_59 : decode cX5_init 59 = .ok (.bipush 8, 2) := by decide +kernel
theorem dX5_init_61 : decode cX5_init 61 = .ok (.newarray .int, 2) := by decide +kernel
theorem dX5_init_63 : decode cX5_init 63 = .ok (.putfield 41, 3) := by decide +kernel
theorem dX5_init_66 : decode cX5_init 66 = .ok (.aload_n 0, 1) := by decide +kernel
theorem dX5_init_67 : decode cX5_init 67 = .ok (.iconst 0, 1) := by decide +kernel
theorem dX5_init_68 : decode cX5_init 68 = .ok (.putfield 45, 3) := by decide +kernel
theorem dX5_init_71 : decode cX5_init 71 = .ok (.aload_n 0, 1) := by decide +kernel
theorem dX5_init_72 : decode cX5_init 72 = .ok (.iconst 0, 1) := by decide +kernel
theorem dX5_init_73 : decode cX5_init 73 = .ok (.putfield 48, 3) := by decide +kernel
theorem dX5_init_76 : decode cX5_init 76 = .ok (.aload_n 0, 1) := by decide +kernel
theorem dX5_init_77 : decode cX5_init 77 = .ok (.iconst 0, 1) := by decide +kernel
theorem dX5_init_78 : decode cX5_init 78 = .ok (.putfield 51, 3) := by decide +kernel
theorem dX5_init_81 : decode cX5_init 81 = .ok (.aload_n 0, 1) := by decide +kernel
theorem dX5_init_82 : decode cX5_init 82 = .ok (.bipush 13, 2) := by decide +kernel
theorem dX5_init_84 : decode cX5_init 84 = .ok (.newarray .char, 2) := by decide +kernel
theorem dX5_init_86 : decode cX5_init 86 = .ok (.putfield 54, 3) := by decide +kernel
theorem dX5_init_89 : decode cX5_init 89 = .ok (.aload_n 0, 1) := by decide +kernel
theorem dX5_init_90 : decode cX5_init 90 = .ok (.iconst 0, 1) := by decide +kernel
theorem dX5_init_91 : decode cX5_init 91 = .ok (.putfield 58, 3) := by decide +kernel
theorem dX5_init_94 : decode cX5_init 94 = .ok (.return_, 1) := by decide +kernel
theorem dX5_height_0 : decode cX5_height 0 = .ok (.iload_n 1, 1) := by decide +kernel
theorem dX5_height_1 : decode cX5_height 1 = .ok (.invokestatic 61, 3) := by decide +kernel
theorem dX5_height_4 : decode cX5_height 4 = .ok (.iload_n 2, 1) := by decide +kernel
theorem dX5_height_5 : decode cX5_height 5 = .ok (.iconst 1, 1) := by decide +kernel
theorem dX5_height_6 : decode cX5_height 6 = .ok (.bipush 30, 2) := by decide +kernel
theorem dX5_height_8 : decode cX5_height 8 = .ok (.invokestatic 65, 3) := by decide +kernel
theorem dX5_height_11 : decode cX5_height 11 = .ok (.aload_n 0, 1) := by decide +kernel
theorem dX5_height_12 : decode cX5_height 12 = .ok (.getfield 12, 3) := by decide +kernel
theorem dX5_height_15 : decode cX5_height 15 = .ok (.iload_n 1, 1) := by decide +kernel
theorem dX5_height_16 : decode cX5_height 16 = .ok (.invokevirtual 69, 3) := by decide +kernel
theorem dX5_height_19 : decode cX5_height 19 = .ok (.istore_n 3, 1) := by decide +kernel
theorem dX5_height_20 : decode cX5_height 20 = .ok (.iload_n 3, 1) := by decide +kernel
theorem dX5_height_21 : decode cX5_height 21 = .ok (.iconst (-1), 1) := by decide +kernel
theorem dX5_height_22 : decode cX5_height 22 = .ok (.if_icmp .eq 10, 3) := by decide +kernel
theorem dX5_height_25 : decode cX5_height 25 = .ok (.aload_n 0, 1) := by decide +kernel
theorem dX5_height_26 : decode cX5_height 26 = .ok (.bipush 6, 2) := by decide +kernel
theorem dX5_height_28 : decode cX5_height 28 = .ok (.iload_n 3, 1) := by decide +kernel
theorem dX5_height_29 : decode cX5_height 29 = .ok (.invokevirtual 73, 3) := by decide +kernel
theorem dX5_height_32 : decode cX5_height 32 = .ok (.aload_n 0, 1) := by decide +kernel
theorem dX5_height_33 : decode cX5_height 33 = .ok (.getfield 19, 3) := by decide +kernel
theorem dX5_height_36 : decode cX5_height 36 = .ok (.aload_n 0, 1) := by decide +kernel
theorem dX5_height_37 : decode cX5_height 37 = .ok (.getfield 12, 3) := by decide +kernel
theorem dX5_height_40 : decode cX5_height 40 = .ok (.invokevirtual 77, 3) := by decide +kernel
theorem dX5_height_43 : decode cX5_height 43 = .ok (.aload_n 0, 1) := by decide +kernel
theorem dX5_height_44 : decode cX5_height 44 = .ok (.getfield 12, 3) := by decide +kernel
theorem dX5_height_47 : decode cX5_height 47 = .ok (.getfield 81, 3) := by decide +kernel
theorem dX5_height_50 : decode cX5_height 50 = .ok (.iload_n 1, 1) := by decide +kernel
theorem dX5_height_51 : decode cX5_height 51 = .ok (.iaload, 1) := by decide +kernel
theorem dX5_height_52 : decode cX5_height 52 = .ok (.istore 4, 2) := by decide +kernel
theorem dX5_height_54 : decode cX5_height 54 = .ok (.aload_n 0, 1) := by decide +kernel
theorem dX5_height_55 : decode cX5_height 55 = .ok (.getfield 12, 3) := by decide +kernel
theorem dX5_height_58 : decode cX5_height 58 = .ok (.getfield 81, 3) := by decide +kernel
theorem dX5_height_61 : decode cX5_height 61 = .ok (.iload_n 1, 1) := by decide +kernel
theorem dX5_height_62 : decode cX5_height 62 = .ok (.iload_n 2, 1) := by decide +kernel
theorem dX5_height_63 : decode cX5_height 63 = .ok (.iastore, 1) := by decide +kernel
theorem dX5_height_64 : decode cX5_height 64 = .ok (.iload 4, 2) := by decide +kernel
theorem dX5_height_66 : decode cX5_height 66 = .ok (.ireturn, 1) := by decide +kernel
theorem dX5_rain_0 : decode cX5_rain 0 = .ok (.iload_n 1, 1) := by decide +kernel
theorem dX5_rain_1 : decode cX5_rain 1 = .ok (.iconst 0, 1) := by decide +kernel
theorem dX5_rain_2 : decode cX5_rain 2 = .ok (.bipush 9, 2) := by decide +kernel
theorem dX5_rain_4 : decode cX5_rain 4 = .ok (.invokestatic 65, 3) := by decide +kernel
theorem dX5_rain_7 : decode cX5_rain 7 = .ok (.aload_n 0, 1) := by decide +kernel
theorem dX5_rain_8 : decode cX5_rain 8 = .ok (.getfield 19, 3) := by decide +kernel
theorem dX5_rain_11 : decode cX5_rain 11 = .ok (.aload_n 0, 1) := by decide +kernel
theorem dX5_rain_12 : decode cX5_rain 12 = .ok (.getfield 12, 3) := by decide +kernel
theorem dX5_rain_15 : decode cX5_rain 15 = .ok (.invokevirtual 77, 3) := by decide +kernel
theorem dX5_rain_18 : decode cX5_rain 18 = .ok (.aload_n 0, 1) := by decide +kernel
theorem dX5_rain_19 : decode cX5_rain 19 = .ok (.getfield 12, 3) := by decide +kernel
theorem dX5_rain_22 : decode cX5_rain 22 = .ok (.getfield 84, 3) := by decide +kernel
theorem dX5_rain_25 : decode cX5_rain 25 = .ok (.istore_n 2, 1) := by decide +kernel
theorem dX5_rain_26 : decode cX5_rain 26 = .ok (.aload_n 0, 1) := by decide +kernel
theorem dX5_rain_27 : decode cX5_rain 27 = .ok (.getfield 12, 3) := by decide +kernel
theorem dX5_rain_30 : decode cX5_rain 30 = .ok (.iload_n 1, 1) := by decide +kernel
theorem dX5_rain_31 : decode cX5_rain 31 = .ok (.putfield 84, 3) := by decide +kernel
theorem dX5_rain_34 : decode cX5_rain 34 = .ok (.iload_n 2, 1) := by decide +kernel
theorem dX5_rain_35 : decode cX5_rain 35 = .ok (.ireturn, 1) := by decide +kernel
theorem dX5_letters_0 : decode cX5_letters 0 = .ok (.iload_n 1, 1) := by decide +kernel
theorem dX5_letters_1 : decode cX5_letters 1 = .ok (.iconst 1, 1) := by decide +kernel
theorem dX5_letters_2 : decode cX5_letters 2 = .ok (.bipush 50, 2) := by decide +kernel
theorem dX5_letters_4 : decode cX5_letters 4 = .ok (.invokestatic 65, 3) := by decide +kernel
theorem dX5_letters_7 : decode cX5_letters 7 = .ok (.aload_n 0, 1) := by decide +kernel
theorem dX5_letters_8 : decode cX5_letters 8 = .ok (.getfield 12, 3) := by decide +kernel
theorem dX5_letters_11 : decode cX5_letters 11 = .ok (.getfield 87, 3) := by decide +kernel
theorem dX5_letters_14 : decode cX5_letters 14 = .ok (.iload_n 1, 1) := by decide +kernel
theorem dX5_letters_15 : decode cX5_letters 15 = .ok (.iadd, 1) := by decide +kernel
theorem dX5_letters_16 : decode cX5_letters 16 = .ok (.bipush 99, 2) := by decide +kernel
theorem dX5_letters_18 : decode cX5_letters 18 = .ok (.if_icmp .le 15, 3) := by decide +kernel
theorem dX5_letters_21 : decode cX5_letters 21 = .ok (.aload_n 0, 1) := by decide +kernel
theorem dX5_letters_22 : decode cX5_letters 22 = .ok (.iconst 5, 1) := by decide +kernel
theorem dX5_letters_23 : decode cX5_letters 23 = .ok (.aload_n 0, 1) := by decide +kernel
theorem dX5_letters_24 : decode cX5_letters 24 = .ok (.getfield 12, 3) := by decide +kernel
theorem dX5_letters_27 : decode cX5_letters 27 = .ok (.getfield 87, 3) := by decide +kernel
theorem dX5_letters_30 : decode cX5_letters 30 = .ok (.invokevirtual 73, 3) := by decide +kernel
theorem dX5_letters_33 : decode cX5_letters 33 = .ok (.aload_n 0, 1) := by decide +kernel
theorem dX5_letters_34 : decode cX5_letters 34 = .ok (.getfield 19, 3) := by decide +kernel
theorem dX5_letters_37 : decode cX5_letters 37 = .ok (.aload_n 0, 1) := by decide +kernel
theorem dX5_letters_38 : decode cX5_letters 38 = .ok (.getfield 12, 3) := by decide +kernel
theorem dX5_letters_41 : decode cX5_letters 41 = .ok (.invokevirtual 77, 3) := by decide +kernel
theorem dX5_letters_44 : decode cX5_letters 44 = .ok (.aload_n 0, 1) := by decide +kernel
theorem dX5_letters_45 : decode cX5_letters 45 = .ok (.getfield 12, 3) := by decide +kernel
theorem dX5_letters_48 : decode cX5_letters 48 = .ok (.dup, 1) := by decide +kernel
theorem dX5_letters_49 : decode cX5_letters 49 = .ok (.getfield 87, 3) := by decide +kernel
theorem dX5_letters_52 : decode cX5_letters 52 = .ok (.iload_n 1, 1) := by decide +kernel
theorem dX5_letters_53 : decode cX5_letters 53 = .ok (.iadd, 1) := by decide +kernel
theorem dX5_letters_54 : decode cX5_letters 54 = .ok (.putfield 87, 3) := by decide +kernel
theorem dX5_letters_57 : decode cX5_letters 57 = .ok (.aload_n 0, 1) := by decide +kernel
theorem dX5_letters_58 : decode cX5_letters 58 = .ok (.getfield 12, 3) := by decide +kernel
theorem dX5_letters_61 : decode cX5_letters 61 = .ok (.dup, 1) := by decide +kernel
theorem dX5_letters_62 : decode cX5_letters 62 = .ok (.getfield 90, 3) := by decide +kernel
theorem dX5_letters_65 : decode cX5_letters 65 = .ok (.iload_n 1, 1) := by decide +kernel
theorem dX5_letters_66 : decode cX5_letters 66 = .ok (.iadd, 1) := by decide +kernel
theorem dX5_letters_67 : decode cX5_letters 67 = .ok (.putfield 90, 3) := by decide +kernel
theorem dX5_letters_70 : decode cX5_letters 70 = .ok (.aload_n 0, 1) := by decide +kernel
theorem dX5_letters_71 : decode cX5_letters 71 = .ok (.getfield 12, 3) := by decide +kernel
theorem dX5_letters_74 : decode cX5_letters 74 = .ok (.getfield 87, 3) := by decide +kernel
theorem dX5_letters_77 : decode cX5_letters 77 = .ok (.ireturn, 1) := by decide +kernel
theorem dX5_stoneOf_0 : decode cX5_stoneOf 0 = .ok (.iload_n 1, 1) := by decide +kernel
theorem dX5_stoneOf_1 : decode cX5_stoneOf 1 = .ok (.invokestatic 61, 3) := by decide +kernel
theorem dX5_stoneOf_4 : decode cX5_stoneOf 4 = .ok (.iload_n 2, 1) := by decide +kernel
theorem dX5_stoneOf_5 : decode cX5_stoneOf 5 = .ok (.iconst 0, 1) := by decide +kernel
theorem dX5_stoneOf_6 : decode cX5_stoneOf 6 = .ok (.iconst 2, 1) := by decide +kernel
theorem dX5_stoneOf_7 : decode cX5_stoneOf 7 = .ok (.invokestatic 65, 3) := by decide +kernel
theorem dX5_stoneOf_10 : decode cX5_stoneOf 10 = .ok (.iload_n 2, 1) := by decide +kernel
theorem dX5_stoneOf_11 : decode cX5_stoneOf 11 = .ok (.ifCond .ne 13, 3) := by decide +kernel
theorem dX5_stoneOf_14 : decode cX5_stoneOf 14 = .ok (.aload_n 0, 1) := by decide +kernel
theorem dX5_stoneOf_15 : decode cX5_stoneOf 15 = .ok (.getfield 12, 3) := by decide +kernel
theorem dX5_stoneOf_18 : decode cX5_stoneOf 18 = .ok (.getfield 81, 3) := by decide +kernel
theorem dX5_stoneOf_21 : decode cX5_stoneOf 21 = .ok (.iload_n 1, 1) := by decide +kernel
theorem dX5_stoneOf_22 : decode cX5_stoneOf 22 = .ok (.iaload, 1) := by decide +kernel
theorem dX5_stoneOf_23 : decode cX5_stoneOf 23 = .ok (.ireturn, 1) := by decide +kernel
theorem dX5_stoneOf_24 : decode cX5_stoneOf 24 = .ok (.iload_n 2, 1) := by decide +kernel
theorem dX5_stoneOf_25 : decode cX5_stoneOf 25 = .ok (.iconst 1, 1) := by decide +kernel
theorem dX5_stoneOf_26 : decode cX5_stoneOf 26 = .ok (.if_icmp .ne 21, 3) := by decide +kernel
theorem dX5_stoneOf_29 : decode cX5_stoneOf 29 = .ok (.aload_n 0, 1) := by decide +kernel
theorem dX5_stoneOf_30 : decode cX5_stoneOf 30 = .ok (.getfield 12, 3) := by decide +kernel
theorem dX5_stoneOf_33 : decode cX5_stoneOf 33 = .ok (.iload_n 1, 1) := by decide +kernel
theorem dX5_stoneOf_34 : decode cX5_stoneOf 34 = .ok (.aload_n 0, 1) := by decide +kernel
theorem dX5_stoneOf_35 : decode cX5_stoneOf 35 = .ok (.getfield 12, 3) := by decide +kernel
theorem dX5_stoneOf_38 : decode cX5_stoneOf 38 = .ok (.getfield 93, 3) := by decide +kernel
theorem dX5_stoneOf_41 : decode cX5_stoneOf 41 = .ok (.invokevirtual 96, 3) := by decide +kernel
theorem dX5_stoneOf_44 : decode cX5_stoneOf 44 = .ok (.goto 11, 3) := by decide +kernel
theorem dX5_stoneOf_47 : decode cX5_stoneOf 47 = .ok (.aload_n 0, 1) := by decide +kernel
theorem dX5_stoneOf_48 : decode cX5_stoneOf 48 = .ok (.getfield 12, 3) := by decide +kernel
theorem dX5_stoneOf_51 : decode cX5_stoneOf 51 = .ok (.iload_n 1, 1) := by decide +kernel
theorem dX5_stoneOf_52 : decode cX5_stoneOf 52 = .ok (.invokevirtual 100, 3) := by decide +kernel
theorem dX5_stoneOf_55 : decode cX5_stoneOf 55 = .ok (.ireturn, 1) := by decide +kernel
theorem dX5_under_0 : decode cX5_under 0 = .ok (.iconst 0, 1) := by decide +kernel
theorem dX5_under_1 : decode cX5_under 1 = .ok (.istore_n 1, 1) := by decide +kernel
theorem dX5_under_2 : decode cX5_under 2 = .ok (.iconst 0, 1) := by decide +kernel
theorem dX5_under_3 : decode cX5_under 3 = .ok (.istore_n 2, 1) := by decide +kernel
theorem dX5_under_4 : decode cX5_under 4 = .ok (.iload_n 2, 1) := by decide +kernel
theorem dX5_under_5 : decode cX5_under 5 = .ok (.bipush 10, 2) := by decide +kernel
theorem dX5_under_7 : decode cX5_under 7 = .ok (.if_icmp .ge 34, 3) := by decide +kernel
theorem dX5_under_10 : decode cX5_under 10 = .ok (.aload_n 0, 1) := by decide +kernel
theorem dX5_under_11 : decode cX5_under 11 = .ok (.getfield 12, 3) := by decide +kernel
theorem dX5_under_14 : decode cX5_under 14 = .ok (.iload_n 2, 1) := by decide +kernel
theorem dX5_under_15 : decode cX5_under 15 = .ok (.aload_n 0, 1) := by decide +kernel
theorem dX5_under_16 : decode cX5_under 16 = .ok (.getfield 12, 3) := by decide +kernel
theorem dX5_under_19 : decode cX5_under 19 = .ok (.getfield 93, 3) := by decide +kernel
theorem dX5_under_22 : decode cX5_under 22 = .ok (.invokevirtual 96, 3) := by decide +kernel
theorem dX5_under_25 : decode cX5_under 25 = .ok (.iconst 2, 1) := by decide +kernel
theorem dX5_under_26 : decode cX5_under 26 = .ok (.if_icmp .ne 9, 3) := by decide +kernel
theorem dX5_under_29 : decode cX5_under 29 = .ok (.iload_n 1, 1) := by decide +kernel
theorem dX5_under_30 : decode cX5_under 30 = .ok (.iconst 1, 1) := by decide +kernel
theorem dX5_under_31 : decode cX5_under 31 = .ok (.iload_n 2, 1) := by decide +kernel
theorem dX5_under_32 : decode cX5_under 32 = .ok (.ishl, 1) := by decide +kernel
theorem dX5_under_33 : decode cX5_under 33 = .ok (.ior, 1) := by decide +kernel
theorem dX5_under_34 : decode cX5_under 34 = .ok (.istore_n 1, 1) := by decide +kernel
theorem dX5_under_35 : decode cX5_under 35 = .ok (.iinc 2 1, 3) := by decide +kernel
theorem dX5_under_38 : decode cX5_under 38 = .ok (.goto (-34), 3) := by decide +kernel
theorem dX5_under_41 : decode cX5_under 41 = .ok (.iload_n 1, 1) := by decide +kernel
theorem dX5_under_42 : decode cX5_under 42 = .ok (.ireturn, 1) := by decide +kernel
theorem dX5_flood_0 : decode cX5_flood 0 = .ok (.iload_n 1, 1) := by decide +kernel
theorem dX5_flood_1 : decode cX5_flood 1 = .ok (.iconst 0, 1) := by decide +kernel
theorem dX5_flood_2 : decode cX5_flood 2 = .ok (.bipush 60, 2) := by decide +kernel
theorem dX5_flood_4 : decode cX5_flood 4 = .ok (.invokestatic 65, 3) := by decide +kernel
theorem dX5_flood_7 : decode cX5_flood 7 = .ok (.aload_n 0, 1) := by decide +kernel
theorem dX5_flood_8 : decode cX5_flood 8 = .ok (.getfield 12, 3) := by decide +kernel
theorem dX5_flood_11 : decode cX5_flood 11 = .ok (.getfield 93, 3) := by decide +kernel
theorem dX5_flood_14 : decode cX5_flood 14 = .ok (.istore_n 2, 1) := by decide +kernel
theorem dX5_flood_15 : decode cX5_flood 15 = .ok (.iconst 0, 1) := by decide +kernel
theorem dX5_flood_16 : decode cX5_flood 16 = .ok (.istore_n 3, 1) := by decide +kernel
theorem dX5_flood_17 : decode cX5_flood 17 = .ok (.iload_n 3, 1) := by decide +kernel
theorem dX5_flood_18 : decode cX5_flood 18 = .ok (.iload_n 1, 1) := by decide +kernel
theorem dX5_flood_19 : decode cX5_flood 19 = .ok (.if_icmp .ge 18, 3) := by decide +kernel
theorem dX5_flood_22 : decode cX5_flood 22 = .ok (.aload_n 0, 1) := by decide +kernel
theorem dX5_flood_23 : decode cX5_flood 23 = .ok (.getfield 12, 3) := by decide +kernel
theorem dX5_flood_26 : decode cX5_flood 26 = .ok (.iload_n 2, 1) := by decide +kernel
theorem dX5_flood_27 : decode cX5_flood 27 = .ok (.invokevirtual 103, 3) := by decide +kernel
theorem dX5_flood_30 : decode cX5_flood 30 = .ok (.istore_n 2, 1) := by decide +kernel
theorem dX5_flood_31 : decode cX5_flood 31 = .ok (.iinc 3 1, 3) := by decide +kernel
theorem dX5_flood_34 : decode cX5_flood 34 = .ok (.goto (-17), 3) := by decide +kernel
theorem dX5_flood_37 : decode cX5_flood 37 = .ok (.iload_n 2, 1) := by decide +kernel
theorem dX5_flood_38 : decode cX5_flood 38 = .ok (.ireturn, 1) := by decide +kernel
theorem dX5_floodAgain_0 : decode cX5_floodAgain 0 = .ok (.iload_n 1, 1) := by decide +kernel
theorem dX5_floodAgain_1 : decode cX5_floodAgain 1 = .ok (.iconst 0, 1) := by decide +kernel
theorem dX5_floodAgain_2 : decode cX5_floodAgain 2 = .ok (.bipush 60, 2) := by decide +kernel
theorem dX5_floodAgain_4 : decode cX5_floodAgain 4 = .ok (.invokestatic 65, 3) := by decide +kernel
theorem dX5_floodAgain_7 : decode cX5_floodAgain 7 = .ok (.aload_n 0, 1) := by decide +kernel
theorem dX5_floodAgain_8 : decode cX5_floodAgain 8 = .ok (.getfield 12, 3) := by decide +kernel
theorem dX5_floodAgain_11 : decode cX5_floodAgain 11 = .ok (.iload_n 1, 1) := by decide +kernel
theorem dX5_floodAgain_12 : decode cX5_floodAgain 12 = .ok (.invokevirtual 106, 3) := by decide +kernel
theorem dX5_floodAgain_15 : decode cX5_floodAgain 15 = .ok (.ireturn, 1) := by decide +kernel
theorem dX5_clearIn_0 : decode cX5_clearIn 0 = .ok (.aload_n 0, 1) := by decide +kernel
theorem dX5_clearIn_1 : decode cX5_clearIn 1 = .ok (.getfield 12, 3) := by decide +kernel
theorem dX5_clearIn_4 : decode cX5_clearIn 4 = .ok (.invokevirtual 109, 3) := by decide +kernel
theorem dX5_clearIn_7 : decode cX5_clearIn 7 = .ok (.istore_n 1, 1) := by decide +kernel
theorem dX5_clearIn_8 : decode cX5_clearIn 8 = .ok (.aload_n 0, 1) := by decide +kernel
theorem dX5_clearIn_9 : decode cX5_clearIn 9 = .ok (.getfield 12, 3) := by decide +kernel
theorem dX5_clearIn_12 : decode cX5_clearIn 12 = .ok (.getfield 93, 3) := by decide +kernel
theorem dX5_clearIn_15 : decode cX5_clearIn 15 = .ok (.istore_n 2, 1) := by decide +kernel
theorem dX5_clearIn_16 : decode cX5_clearIn 16 = .ok (.iconst 0, 1) := by decide +kernel
theorem dX5_clearIn_17 : decode cX5_clearIn 17 = .ok (.istore_n 3, 1) := by decide +kernel
theorem dX5_clearIn_18 : decode cX5_clearIn 18 = .ok (.iload_n 3, 1) := by decide +kernel
theorem dX5_clearIn_19 : decode cX5_clearIn 19 = .ok (.bipush 60, 2) := by decide +kernel
theorem dX5_clearIn_21 : decode cX5_clearIn 21 = .ok (.if_icmp .gt 25, 3) := by decide +kernel
theorem dX5_clearIn_24 : decode cX5_clearIn 24 = .ok (.iload_n 2, 1) := by decide +kernel
theorem dX5_clearIn_25 : decode cX5_clearIn 25 = .ok (.iload_n 1, 1) := by decide +kernel
theorem dX5_clearIn_26 : decode cX5_clearIn 26 = .ok (.if_icmp .gt 5, 3) := by decide +kernel
theorem dX5_clearIn_29 : decode cX5_clearIn 29 = .ok (.iload_n 3, 1) := by decide +kernel
theorem dX5_clearIn_30 : decode cX5_clearIn 30 = .ok (.ireturn, 1) := by decide +kernel
theorem dX5_clearIn_31 : decode cX5_clearIn 31 = .ok (.aload_n 0, 1) := by decide +kernel
theorem dX5_clearIn_32 : decode cX5_clearIn 32 = .ok (.getfield 12, 3) := by decide +kernel
theorem dX5_clearIn_35 : decode cX5_clearIn 35 = .ok (.iload_n 2, 1) := by decide +kernel
theorem dX5_clearIn_36 : decode cX5_clearIn 36 = .ok (.invokevirtual 103, 3) := by decide +kernel
theorem dX5_clearIn_39 : decode cX5_clearIn 39 = .ok (.istore_n 2, 1) := by decide +kernel
theorem dX5_clearIn_40 : decode cX5_clearIn 40 = .ok (.iinc 3 1, 3) := by decide +kernel
theorem dX5_clearIn_43 : decode cX5_clearIn 43 = .ok (.goto (-25), 3) := by decide +kernel
theorem dX5_clearIn_46 : decode cX5_clearIn 46 = .ok (.new 113, 3) := by decide +kernel
theorem dX5_clearIn_49 : decode cX5_clearIn 49 = .ok (.dup, 1) := by decide +kernel
theorem dX5_clearIn_50 : decode cX5_clearIn 50 = .ok (.ldc 115, 2) := by decide +kernel
theorem dX5_clearIn_52 : decode cX5_clearIn 52 = .ok (.invokespecial 117, 3) := by decide +kernel
theorem dX5_clearIn_55 : decode cX5_clearIn 55 = .ok (.athrow, 1) := by decide +kernel
theorem dX5_traveller_0 : decode cX5_traveller 0 = .ok (.iload_n 1, 1) := by decide +kernel
theorem dX5_traveller_1 : decode cX5_traveller 1 = .ok (.iconst 0, 1) := by decide +kernel
theorem dX5_traveller_2 : decode cX5_traveller 2 = .ok (.bipush 20, 2) := by decide +kernel
theorem dX5_traveller_4 : decode cX5_traveller 4 = .ok (.invokestatic 65, 3) := by decide +kernel
theorem dX5_traveller_7 : decode cX5_traveller 7 = .ok (.aload_n 0, 1) := by decide +kernel
theorem dX5_traveller_8 : decode cX5_traveller 8 = .ok (.getfield 12, 3) := by decide +kernel
theorem dX5_traveller_11 : decode cX5_traveller 11 = .ok (.getfield 120, 3) := by decide +kernel
theorem dX5_traveller_14 : decode cX5_traveller 14 = .ok (.bipush 8, 2) := by decide +kernel
theorem dX5_traveller_16 : decode cX5_traveller 16 = .ok (.if_icmp .lt 15, 3) := by decide +kernel
theorem dX5_traveller_19 : decode cX5_traveller 19 = .ok (.aload_n 0, 1) := by decide +kernel
theorem dX5_traveller_20 : decode cX5_traveller 20 = .ok (.iconst 1, 1) := by decide +kernel
theorem dX5_traveller_21 : decode cX5_traveller 21 = .ok (.aload_n 0, 1) := by decide +kernel
theorem dX5_traveller_22 : decode cX5_traveller 22 = .ok (.getfield 12, 3) := by decide +kernel
theorem dX5_traveller_25 : decode cX5_traveller 25 = .ok (.getfield 120, 3) := by decide +kernel
theorem dX5_traveller_28 : decode cX5_traveller 28 = .ok (.invokevirtual 73, 3) := by decide +kernel
theorem dX5_traveller_31 : decode cX5_traveller 31 = .ok (.aload_n 0, 1) := by decide +kernel
theorem dX5_traveller_32 : decode cX5_traveller 32 = .ok (.getfield 19, 3) := by decide +kernel
theorem dX5_traveller_35 : decode cX5_traveller 35 = .ok (.aload_n 0, 1) := by decide +kernel
theorem dX5_traveller_36 : decode cX5_traveller 36 = .ok (.getfield 12, 3) := by decide +kernel
theorem dX5_traveller_39 : decode cX5_traveller 39 = .ok (.invokevirtual 77, 3) := by decide +kernel
theorem dX5_traveller_42 : decode cX5_traveller 42 = .ok (.aload_n 0, 1) := by decide +kernel
theorem dX5_traveller_43 : decode cX5_traveller 43 = .ok (.getfield 12, 3) := by decide +kernel
theorem dX5_traveller_46 : decode cX5_traveller 46 = .ok (.iload_n 1, 1) := by decide +kernel
theorem dX5_traveller_47 : decode cX5_traveller 47 = .ok (.invokevirtual 123, 3) := by decide +kernel
theorem dX5_traveller_50 : decode cX5_traveller 50 = .ok (.ireturn, 1) := by decide +kernel
theorem dX5_travellerOf_0 : decode cX5_travellerOf 0 = .ok (.aload_n 0, 1) := by decide +kernel
theorem dX5_travellerOf_1 : decode cX5_travellerOf 1 = .ok (.iload_n 1, 1) := by decide +kernel
theorem dX5_travellerOf_2 : decode cX5_travellerOf 2 = .ok (.invokevirtual 126, 3) := by decide +kernel
theorem dX5_travellerOf_5 : decode cX5_travellerOf 5 = .ok (.astore_n 3, 1) := by decide +kernel
theorem dX5_travellerOf_6 : decode cX5_travellerOf 6 = .ok (.iload_n 2, 1) := by decide +kernel
theorem dX5_travellerOf_7 : decode cX5_travellerOf 7 = .ok (.iconst 0, 1) := by decide +kernel
theorem dX5_travellerOf_8 : decode cX5_travellerOf 8 = .ok (.bipush 8, 2) := by decide +kernel
theorem dX5_travellerOf_10 : decode cX5_travellerOf 10 = .ok (.invokestatic 65, 3) := by decide +kernel
theorem dX5_travellerOf_13 : decode cX5_travellerOf 13 = .ok (.aload_n 3, 1) := by decide +kernel
theorem dX5_travellerOf_14 : decode cX5_travellerOf 14 = .ok (.iload_n 2, 1) := by decide +kernel
theorem dX5_travellerOf_15 : decode cX5_travellerOf 15 = .ok (.invokevirtual 130, 3) := by decide +kernel
theorem dX5_travellerOf_18 : decode cX5_travellerOf 18 = .ok (.ireturn, 1) := by decide +kernel
theorem dX5_fee_0 : decode cX5_fee 0 = .ok (.aload_n 0, 1) := by decide +kernel
theorem dX5_fee_1 : decode cX5_fee 1 = .ok (.iload_n 1, 1) := by decide +kernel
theorem dX5_fee_2 : decode cX5_fee 2 = .ok (.invokevirtual 126, 3) := by decide +kernel
theorem dX5_fee_5 : decode cX5_fee 5 = .ok (.invokevirtual 135, 3) := by decide +kernel
theorem dX5_fee_8 : decode cX5_fee 8 = .ok (.ireturn, 1) := by decide +kernel
theorem dX5_setOut_0 : decode cX5_setOut 0 = .ok (.aload_n 0, 1) := by decide +kernel
theorem dX5_setOut_1 : decode cX5_setOut 1 = .ok (.iload_n 1, 1) := by decide +kernel
theorem dX5_setOut_2 : decode cX5_setOut 2 = .ok (.invokevirtual 126, 3) := by decide +kernel
theorem dX5_setOut_5 : decode cX5_setOut 5 = .ok (.astore_n 2, 1) := by decide +kernel
theorem dX5_setOut_6 : decode cX5_setOut 6 = .ok (.aload_n 2, 1) := by decide +kernel
theorem dX5_setOut_7 : decode cX5_setOut 7 = .ok (.getfield 138, 3) := by decide +kernel
theorem dX5_setOut_10 : decode cX5_setOut 10 = .ok (.ifCond .eq 12, 3) := by decide +kernel
theorem dX5_setOut_13 : decode cX5_setOut 13 = .ok (.aload_n 0, 1) := by decide +kernel
theorem dX5_setOut_14 : decode cX5_setOut 14 = .ok (.iconst 2, 1) := by decide +kernel
theorem dX5_setOut_15 : decode cX5_setOut 15 = .ok (.aload_n 2, 1) := by decide +kernel
theorem dX5_setOut_16 : decode cX5_setOut 16 = .ok (.getfield 141, 3) := by decide +kernel
theorem dX5_setOut_19 : decode cX5_setOut 19 = .ok (.invokevirtual 73, 3) := by decide +kernel
theorem dX5_setOut_22 : decode cX5_setOut 22 = .ok (.aload_n 2, 1) := by decide +kernel
theorem dX5_setOut_23 : decode cX5_setOut 23 = .ok (.getfield 144, 3) := by decide +kernel
theorem dX5_setOut_26 : decode cX5_setOut 26 = .ok (.bipush 12, 2) := by decide +kernel
theorem dX5_setOut_28 : decode cX5_setOut 28 = .ok (.if_icmp .lt 12, 3) := by decide +kernel
theorem dX5_setOut_31 : decode cX5_setOut 31 = .ok (.aload_n 0, 1) := by decide +kernel
theorem dX5_setOut_32 : decode cX5_setOut 32 = .ok (.iconst 4, 1) := by decide +kernel
theorem dX5_setOut_33 : decode cX5_setOut 33 = .ok (.aload_n 2, 1) := by decide +kernel
theorem dX5_setOut_34 : decode cX5_setOut 34 = .ok (.getfield 144, 3) := by decide +kernel
theorem dX5_setOut_37 : decode cX5_setOut 37 = .ok (.invokevirtual 73, 3) := by decide +kernel
theorem dX5_setOut_40 : decode cX5_setOut 40 = .ok (.aload_n 0, 1) := by decide +kernel
theorem dX5_setOut_41 : decode cX5_setOut 41 = .ok (.getfield 19, 3) := by decide +kernel
theorem dX5_setOut_44 : decode cX5_setOut 44 = .ok (.aload_n 0, 1) := by decide +kernel
theorem dX5_setOut_45 : decode cX5_setOut 45 = .ok (.getfield 12, 3) := by decide +kernel
theorem dX5_setOut_48 : decode cX5_setOut 48 = .ok (.invokevirtual 77, 3) := by decide +kernel
theorem dX5_setOut_51 : decode cX5_setOut 51 = .ok (.aload_n 0, 1) := by decide +kernel
theorem dX5_setOut_52 : decode cX5_setOut 52 = .ok (.getfield 12, 3) := by decide +kernel
theorem dX5_setOut_55 : decode cX5_setOut 55 = .ok (.aload_n 2, 1) := by decide +kernel
theorem dX5_setOut_56 : decode cX5_setOut 56 = .ok (.invokevirtual 147, 3) := by decide +kernel
theorem dX5_setOut_59 : decode cX5_setOut 59 = .ok (.ireturn, 1) := by decide +kernel
theorem dX5_stop_0 : decode cX5_stop 0 = .ok (.aload_n 0, 1) := by decide +kernel
theorem dX5_stop_1 : decode cX5_stop 1 = .ok (.iload_n 1, 1) := by decide +kernel
theorem dX5_stop_2 : decode cX5_stop 2 = .ok (.iconst 1, 1) := by decide +kernel
theorem dX5_stop_3 : decode cX5_stop 3 = .ok (.invokevirtual 151, 3) := by decide +kernel
theorem dX5_stop_6 : decode cX5_stop 6 = .ok (.ireturn, 1) := by decide +kernel
theorem dX5_go_0 : decode cX5_go 0 = .ok (.aload_n 0, 1) := by decide +kernel
theorem dX5_go_1 : decode cX5_go 1 = .ok (.iload_n 1, 1) := by decide +kernel
theorem dX5_go_2 : decode cX5_go 2 = .ok (.iconst 0, 1) := by decide +kernel
theorem dX5_go_3 : decode cX5_go 3 = .ok (.invokevirtual 151, 3) := by decide +kernel
theorem dX5_go_6 : decode cX5_go 6 = .ok (.ireturn, 1) := by decide +kernel
theorem dX5_leave_0 : decode cX5_leave 0 = .ok (.aload_n 0, 1) := by decide +kernel
theorem dX5_leave_1 : decode cX5_leave 1 = .ok (.iload_n 1, 1) := by decide +kernel
theorem dX5_leave_2 : decode cX5_leave 2 = .ok (.invokevirtual 126, 3) := by decide +kernel
theorem dX5_leave_5 : decode cX5_leave 5 = .ok (.astore_n 2, 1) := by decide +kernel
theorem dX5_leave_6 : decode cX5_leave 6 = .ok (.aload_n 2, 1) := by decide +kernel
theorem dX5_leave_7 : decode cX5_leave 7 = .ok (.getfield 138, 3) := by decide +kernel
theorem dX5_leave_10 : decode cX5_leave 10 = .ok (.ifCond .eq 12, 3) := by decide +kernel
theorem dX5_leave_13 : decode cX5_leave 13 = .ok (.aload_n 0, 1) := by decide +kernel
theorem dX5_leave_14 : decode cX5_leave 14 = .ok (.iconst 2, 1) := by decide +kernel
theorem dX5_leave_15 : decode cX5_leave 15 = .ok (.aload_n 2, 1) := by decide +kernel
theorem dX5_leave_16 : decode cX5_leave 16 = .ok (.getfield 141, 3) := by decide +kernel
theorem dX5_leave_19 : decode cX5_leave 19 = .ok (.invokevirtual 73, 3) := by decide +kernel
theorem dX5_leave_22 : decode cX5_leave 22 = .ok (.aload_n 0, 1) := by decide +kernel
theorem dX5_leave_23 : decode cX5_leave 23 = .ok (.getfield 19, 3) := by decide +kernel
theorem dX5_leave_26 : decode cX5_leave 26 = .ok (.aload_n 0, 1) := by decide +kernel
theorem dX5_leave_27 : decode cX5_leave 27 = .ok (.getfield 12, 3) := by decide +kernel
theorem dX5_leave_30 : decode cX5_leave 30 = .ok (.invokevirtual 77, 3) := by decide +kernel
theorem dX5_leave_33 : decode cX5_leave 33 = .ok (.aload_n 2, 1) := by decide +kernel
theorem dX5_leave_34 : decode cX5_leave 34 = .ok (.getfield 155, 3) := by decide +kernel
theorem dX5_leave_37 : decode cX5_leave 37 = .ok (.istore_n 3, 1) := by decide +kernel
theorem dX5_leave_38 : decode cX5_leave 38 = .ok (.aload_n 0, 1) := by decide +kernel
theorem dX5_leave_39 : decode cX5_leave 39 = .ok (.getfield 12, 3) := by decide +kernel
theorem dX5_leave_42 : decode cX5_leave 42 = .ok (.iload_n 1, 1) := by decide +kernel
theorem dX5_leave_43 : decode cX5_leave 43 = .ok (.invokevirtual 158, 3) := by decide +kernel
theorem dX5_leave_46 : decode cX5_leave 46 = .ok (.iload_n 3, 1) := by decide +kernel
theorem dX5_leave_47 : decode cX5_leave 47 = .ok (.ireturn, 1) := by decide +kernel
theorem dX5_pass_0 : decode cX5_pass 0 = .ok (.iload_n 1, 1) := by decide +kernel
theorem dX5_pass_1 : decode cX5_pass 1 = .ok (.iconst 1, 1) := by decide +kernel
theorem dX5_pass_2 : decode cX5_pass 2 = .ok (.bipush 24, 2) := by decide +kernel
theorem dX5_pass_4 : decode cX5_pass 4 = .ok (.invokestatic 65, 3) := by decide +kernel
theorem dX5_pass_7 : decode cX5_pass 7 = .ok (.aload_n 0, 1) := by decide +kernel
theorem dX5_pass_8 : decode cX5_pass 8 = .ok (.getfield 19, 3) := by decide +kernel
theorem dX5_pass_11 : decode cX5_pass 11 = .ok (.aload_n 0, 1) := by decide +kernel
theorem dX5_pass_12 : decode cX5_pass 12 = .ok (.getfield 12, 3) := by decide +kernel
theorem dX5_pass_15 : decode cX5_pass 15 = .ok (.invokevirtual 77, 3) := by decide +kernel
theorem dX5_pass_18 : decode cX5_pass 18 = .ok (.aload_n 0, 1) := by decide +kernel
theorem dX5_pass_19 : decode cX5_pass 19 = .ok (.getfield 12, 3) := by decide +kernel
theorem dX5_pass_22 : decode cX5_pass 22 = .ok (.getfield 161, 3) := by decide +kernel
theorem dX5_pass_25 : decode cX5_pass 25 = .ok (.istore_n 2, 1) := by decide +kernel
theorem dX5_pass_26 : decode cX5_pass 26 = .ok (.iconst 0, 1) := by decide +kernel
theorem dX5_pass_27 : decode cX5_pass 27 = .ok (.istore_n 3, 1) := by decide +kernel
theorem dX5_pass_28 : decode cX5_pass 28 = .ok (.iload_n 3, 1) := by decide +kernel
theorem dX5_pass_29 : decode cX5_pass 29 = .ok (.iload_n 1, 1) := by decide +kernel
theorem dX5_pass_30 : decode cX5_pass 30 = .ok (.if_icmp .ge 16, 3) := by decide +kernel
theorem dX5_pass_33 : decode cX5_pass 33 = .ok (.aload_n 0, 1) := by decide +kernel
theorem dX5_pass_34 : decode cX5_pass 34 = .ok (.getfield 12, 3) := by decide +kernel
theorem dX5_pass_37 : decode cX5_pass 37 = .ok (.invokevirtual 164, 3) := by decide +kernel
theorem dX5_pass_40 : decode cX5_pass 40 = .ok (.iinc 3 1, 3) := by decide +kernel
theorem dX5_pass_43 : decode cX5_pass 43 = .ok (.goto (-15), 3) := by decide +kernel
theorem dX5_pass_46 : decode cX5_pass 46 = .ok (.aload_n 0, 1) := by decide +kernel
theorem dX5_pass_47 : decode cX5_pass 47 = .ok (.getfield 12, 3) := by decide +kernel
theorem dX5_pass_50 : decode cX5_pass 50 = .ok (.getfield 161, 3) := by decide +kernel
theorem dX5_pass_53 : decode cX5_pass 53 = .ok (.iload_n 2, 1) := by decide +kernel
theorem dX5_pass_54 : decode cX5_pass 54 = .ok (.isub, 1) := by decide +kernel
theorem dX5_pass_55 : decode cX5_pass 55 = .ok (.ireturn, 1) := by decide +kernel
theorem dX5_crossedIn_0 : decode cX5_crossedIn 0 = .ok (.aload_n 0, 1) := by decide +kernel
theorem dX5_crossedIn_1 : decode cX5_crossedIn 1 = .ok (.getfield 12, 3) := by decide +kernel
theorem dX5_crossedIn_4 : decode cX5_crossedIn 4 = .ok (.aload_n 0, 1) := by decide +kernel
theorem dX5_crossedIn_5 : decode cX5_crossedIn 5 = .ok (.iload_n 1, 1) := by decide +kernel
theorem dX5_crossedIn_6 : decode cX5_crossedIn 6 = .ok (.invokevirtual 126, 3) := by decide +kernel
theorem dX5_crossedIn_9 : decode cX5_crossedIn 9 = .ok (.invokevirtual 167, 3) := by decide +kernel
theorem dX5_crossedIn_12 : decode cX5_crossedIn 12 = .ok (.istore_n 2, 1) := by decide +kernel
theorem dX5_crossedIn_13 : decode cX5_crossedIn 13 = .ok (.iload_n 2, 1) := by decide +kernel
theorem dX5_crossedIn_14 : decode cX5_crossedIn 14 = .ok (.iconst (-1), 1) := by decide +kernel
theorem dX5_crossedIn_15 : decode cX5_crossedIn 15 = .ok (.if_icmp .ne 13, 3) := by decide +kernel
theorem dX5_crossedIn_18 : decode cX5_crossedIn 18 = .ok (.new 113, 3) := by decide +kernel
theorem dX5_crossedIn_21 : decode cX5_crossedIn 21 = .ok (.dup, 1) := by decide +kernel
theorem dX5_crossedIn_22 : decode cX5_crossedIn 22 = .ok (.ldc 170, 2) := by decide +kernel
theorem dX5_crossedIn_24 : decode cX5_crossedIn 24 = .ok (.invokespecial 117, 3) := by decide +kernel
theorem dX5_crossedIn_27 : decode cX5_crossedIn 27 = .ok (.athrow, 1) := by decide +kernel
theorem dX5_crossedIn_28 : decode cX5_crossedIn 28 = .ok (.iload_n 2, 1) := by decide +kernel
theorem dX5_crossedIn_29 : decode cX5_crossedIn 29 = .ok (.ireturn, 1) := by decide +kernel
theorem dX5_wetSteps_0 : decode cX5_wetSteps 0 = .ok (.iload_n 1, 1) := by decide +kernel
theorem dX5_wetSteps_1 : decode cX5_wetSteps 1 = .ok (.iconst 0, 1) := by decide +kernel
theorem dX5_wetSteps_2 : decode cX5_wetSteps 2 = .ok (.iconst 2, 1) := by decide +kernel
theorem dX5_wetSteps_3 : decode cX5_wetSteps 3 = .ok (.invokestatic 65, 3) := by decide +kernel
theorem dX5_wetSteps_6 : decode cX5_wetSteps 6 = .ok (.aload_n 0, 1) := by decide +kernel
theorem dX5_wetSteps_7 : decode cX5_wetSteps 7 = .ok (.getfield 12, 3) := by decide +kernel
theorem dX5_wetSteps_10 : decode cX5_wetSteps 10 = .ok (.iload_n 1, 1) := by decide +kernel
theorem dX5_wetSteps_11 : decode cX5_wetSteps 11 = .ok (.invokevirtual 172, 3) := by decide +kernel
theorem dX5_wetSteps_14 : decode cX5_wetSteps 14 = .ok (.istore_n 2, 1) := by decide +kernel
theorem dX5_wetSteps_15 : decode cX5_wetSteps 15 = .ok (.iload_n 2, 1) := by decide +kernel
theorem dX5_wetSteps_16 : decode cX5_wetSteps 16 = .ok (.iconst (-1), 1) := by decide +kernel
theorem dX5_wetSteps_17 : decode cX5_wetSteps 17 = .ok (.if_icmp .ne 13, 3) := by decide +kernel
theorem dX5_wetSteps_20 : decode cX5_wetSteps 20 = .ok (.new 113, 3) := by decide +kernel
theorem dX5_wetSteps_23 : decode cX5_wetSteps 23 = .ok (.dup, 1) := by decide +kernel
theorem dX5_wetSteps_24 : decode cX5_wetSteps 24 = .ok (.ldc 175, 2) := by decide +kernel
theorem dX5_wetSteps_26 : decode cX5_wetSteps 26 = .ok (.invokespecial 117, 3) := by decide +kernel
theorem dX5_wetSteps_29 : decode cX5_wetSteps 29 = .ok (.athrow, 1) := by decide +kernel
theorem dX5_wetSteps_30 : decode cX5_wetSteps 30 = .ok (.iload_n 2, 1) := by decide +kernel
theorem dX5_wetSteps_31 : decode cX5_wetSteps 31 = .ok (.ireturn, 1) := by decide +kernel
theorem dX5_kinds_0 : decode cX5_kinds 0 = .ok (.iconst 0, 1) := by decide +kernel
theorem dX5_kinds_1 : decode cX5_kinds 1 = .ok (.istore_n 1, 1) := by decide +kernel
theorem dX5_kinds_2 : decode cX5_kinds 2 = .ok (.iconst 0, 1) := by decide +kernel
theorem dX5_kinds_3 : decode cX5_kinds 3 = .ok (.istore_n 2, 1) := by decide +kernel
theorem dX5_kinds_4 : decode cX5_kinds 4 = .ok (.iload_n 2, 1) := by decide +kernel
theorem dX5_kinds_5 : decode cX5_kinds 5 = .ok (.iconst 2, 1) := by decide +kernel
theorem dX5_kinds_6 : decode cX5_kinds 6 = .ok (.if_icmp .gt 27, 3) := by decide +kernel
theorem dX5_kinds_9 : decode cX5_kinds 9 = .ok (.aload_n 0, 1) := by decide +kernel
theorem dX5_kinds_10 : decode cX5_kinds 10 = .ok (.getfield 12, 3) := by decide +kernel
theorem dX5_kinds_13 : decode cX5_kinds 13 = .ok (.iload_n 2, 1) := by decide +kernel
theorem dX5_kinds_14 : decode cX5_kinds 14 = .ok (.invokevirtual 172, 3) := by decide +kernel
theorem dX5_kinds_17 : decode cX5_kinds 17 = .ok (.iconst (-1), 1) := by decide +kernel
theorem dX5_kinds_18 : decode cX5_kinds 18 = .ok (.if_icmp .eq 9, 3) := by decide +kernel
theorem dX5_kinds_21 : decode cX5_kinds 21 = .ok (.iload_n 1, 1) := by decide +kernel
theorem dX5_kinds_22 : decode cX5_kinds 22 = .ok (.iconst 1, 1) := by decide +kernel
theorem dX5_kinds_23 : decode cX5_kinds 23 = .ok (.iload_n 2, 1) := by decide +kernel
theorem dX5_kinds_24 : decode cX5_kinds 24 = .ok (.ishl, 1) := by decide +kernel
theorem dX5_kinds_25 : decode cX5_kinds 25 = .ok (.ior, 1) := by decide +kernel
theorem dX5_kinds_26 : decode cX5_kinds 26 = .ok (.istore_n 1, 1) := by decide +kernel
theorem dX5_kinds_27 : decode cX5_kinds 27 = .ok (.iinc 2 1, 3) := by decide +kernel
theorem dX5_kinds_30 : decode cX5_kinds 30 = .ok (.goto (-26), 3) := by decide +kernel
theorem dX5_kinds_33 : decode cX5_kinds 33 = .ok (.iload_n 1, 1) := by decide +kernel
theorem dX5_kinds_34 : decode cX5_kinds 34 = .ok (.ireturn, 1) := by decide +kernel
theorem dX5_type_0 : decode cX5_type 0 = .ok (.aload_n 0, 1) := by decide +kernel
theorem dX5_type_1 : decode cX5_type 1 = .ok (.getfield 33, 3) := by decide +kernel
theorem dX5_type_4 : decode cX5_type 4 = .ok (.invokevirtual 177, 3) := by decide +kernel
theorem dX5_type_7 : decode cX5_type 7 = .ok (.ifCond .eq 13, 3) := by decide +kernel
theorem dX5_type_10 : decode cX5_type 10 = .ok (.new 181, 3) := by decide +kernel
theorem dX5_type_13 : decode cX5_type 13 = .ok (.dup, 1) := by decide +kernel
theorem dX5_type_14 : decode cX5_type 14 = .ok (.ldc 183, 2) := by decide +kernel
theorem dX5_type_16 : decode cX5_type 16 = .ok (.invokespecial 185, 3) := by decide +kernel
theorem dX5_type_19 : decode cX5_type 19 = .ok (.athrow, 1) := by decide +kernel
theorem dX5_type_20 : decode cX5_type 20 = .ok (.aload_n 0, 1) := by decide +kernel
theorem dX5_type_21 : decode cX5_type 21 = .ok (.getfield 33, 3) := by decide +kernel
theorem dX5_type_24 : decode cX5_type 24 = .ok (.iload_n 1, 1) := by decide +kernel
theorem dX5_type_25 : decode cX5_type 25 = .ok (.invokevirtual 186, 3) := by decide +kernel
theorem dX5_type_28 : decode cX5_type 28 = .ok (.ireturn, 1) := by decide +kernel
theorem dX5_ask_0 : decode cX5_ask 0 = .ok (.aload_n 0, 1) := by decide +kernel
theorem dX5_ask_1 : decode cX5_ask 1 = .ok (.getfield 33, 3) := by decide +kernel
theorem dX5_ask_4 : decode cX5_ask 4 = .ok (.aload_n 0, 1) := by decide +kernel
theorem dX5_ask_5 : decode cX5_ask 5 = .ok (.getfield 12, 3) := by decide +kernel
theorem dX5_ask_8 : decode cX5_ask 8 = .ok (.invokevirtual 190, 3) := by decide +kernel
theorem dX5_ask_11 : decode cX5_ask 11 = .ok (.istore_n 1, 1) := by decide +kernel
theorem dX5_ask_12 : decode cX5_ask 12 = .ok (.aload_n 0, 1) := by decide +kernel
theorem dX5_ask_13 : decode cX5_ask 13 = .ok (.getfield 33, 3) := by decide +kernel
theorem dX5_ask_16 : decode cX5_ask 16 = .ok (.invokevirtual 194, 3) := by decide +kernel
theorem dX5_ask_19 : decode cX5_ask 19 = .ok (.aload_n 0, 1) := by decide +kernel
theorem dX5_ask_20 : decode cX5_ask 20 = .ok (.getfield 33, 3) := by decide +kernel
theorem dX5_ask_23 : decode cX5_ask 23 = .ok (.getfield 197, 3) := by decide +kernel
theorem dX5_ask_26 : decode cX5_ask 26 = .ok (.iconst (-1), 1) := by decide +kernel
theorem dX5_ask_27 : decode cX5_ask 27 = .ok (.if_icmp .eq 24, 3) := by decide +kernel
theorem dX5_ask_30 : decode cX5_ask 30 = .ok (.aload_n 0, 1) := by decide +kernel
theorem dX5_ask_31 : decode cX5_ask 31 = .ok (.aload_n 0, 1) := by decide +kernel
theorem dX5_ask_32 : decode cX5_ask 32 = .ok (.getfield 33, 3) := by decide +kernel
theorem dX5_ask_35 : decode cX5_ask 35 = .ok (.getfield 197, 3) := by decide +kernel
theorem dX5_ask_38 : decode cX5_ask 38 = .ok (.putfield 37, 3) := by decide +kernel
theorem dX5_ask_41 : decode cX5_ask 41 = .ok (.new 200, 3) := by decide +kernel
theorem dX5_ask_44 : decode cX5_ask 44 = .ok (.dup, 1) := by decide +kernel
theorem dX5_ask_45 : decode cX5_ask 45 = .ok (.ldc 202, 2) := by decide +kernel
theorem dX5_ask_47 : decode cX5_ask 47 = .ok (.invokespecial 204, 3) := by decide +kernel
theorem dX5_ask_50 : decode cX5_ask 50 = .ok (.athrow, 1) := by decide +kernel
theorem dX5_ask_51 : decode cX5_ask 51 = .ok (.aload_n 0, 1) := by decide +kernel
theorem dX5_ask_52 : decode cX5_ask 52 = .ok (.iload_n 1, 1) := by decide +kernel
theorem dX5_ask_53 : decode cX5_ask 53 = .ok (.invokevirtual 205, 3) := by decide +kernel
theorem dX5_ask_56 : decode cX5_ask 56 = .ok (.aload_n 0, 1) := by decide +kernel
theorem dX5_ask_57 : decode cX5_ask 57 = .ok (.getfield 45, 3) := by decide +kernel
theorem dX5_ask_60 : decode cX5_ask 60 = .ok (.ireturn, 1) := by decide +kernel
theorem dX5_answer_0 : decode cX5_answer 0 = .ok (.iload_n 1, 1) := by decide +kernel
theorem dX5_answer_1 : decode cX5_answer 1 = .ok (.ifCond .lt 11, 3) := by decide +kernel
theorem dX5_answer_4 : decode cX5_answer 4 = .ok (.iload_n 1, 1) := by decide +kernel
theorem dX5_answer_5 : decode cX5_answer 5 = .ok (.aload_n 0, 1) := by decide +kernel
theorem dX5_answer_6 : decode cX5_answer 6 = .ok (.getfield 45, 3) := by decide +kernel
theorem dX5_answer_9 : decode cX5_answer 9 = .ok (.if_icmp .lt 13, 3) := by decide +kernel
theorem dX5_answer_12 : decode cX5_answer 12 = .ok (.new 113, 3) := by decide +kernel
theorem dX5_answer_15 : decode cX5_answer 15 = .ok (.dup, 1) := by decide +kernel
theorem dX5_answer_16 : decode cX5_answer 16 = .ok (.ldc 208, 2) := by decide +kernel
theorem dX5_answer_18 : decode cX5_answer 18 = .ok (.invokespecial 117, 3) := by decide +kernel
theorem dX5_answer_21 : decode cX5_answer 21 = .ok (.athrow, 1) := by decide +kernel
theorem dX5_answer_22 : decode cX5_answer 22 = .ok (.aload_n 0, 1) := by decide +kernel
theorem dX5_answer_23 : decode cX5_answer 23 = .ok (.getfield 41, 3) := by decide +kernel
theorem dX5_answer_26 : decode cX5_answer 26 = .ok (.iload_n 1, 1) := by decide +kernel
theorem dX5_answer_27 : decode cX5_answer 27 = .ok (.iaload, 1) := by decide +kernel
theorem dX5_answer_28 : decode cX5_answer 28 = .ok (.ireturn, 1) := by decide +kernel
theorem dX5_errorPosition_0 : decode cX5_errorPosition 0 = .ok (.aload_n 0, 1) := by decide +kernel
theorem dX5_errorPosition_1 : decode cX5_errorPosition 1 = .ok (.getfield 37, 3) := by decide +kernel
theorem dX5_errorPosition_4 : decode cX5_errorPosition 4 = .ok (.iconst (-1), 1) := by decide +kernel
theorem dX5_errorPosition_5 : decode cX5_errorPosition 5 = .ok (.if_icmp .ne 13, 3) := by decide +kernel
theorem dX5_errorPosition_8 : decode cX5_errorPosition 8 = .ok (.new 113, 3) := by decide +kernel
theorem dX5_errorPosition_11 : decode cX5_errorPosition 11 = .ok (.dup, 1) := by decide +kernel
theorem dX5_errorPosition_12 : decode cX5_errorPosition 12 = .ok (.ldc 210, 2) := by decide +kernel
theorem dX5_errorPosition_14 : decode cX5_errorPosition 14 = .ok (.invokespecial 117, 3) := by decide +kernel
theorem dX5_errorPosition_17 : decode cX5_errorPosition 17 = .ok (.athrow, 1) := by decide +kernel
theorem dX5_errorPosition_18 : decode cX5_errorPosition 18 = .ok (.aload_n 0, 1) := by decide +kernel
theorem dX5_errorPosition_19 : decode cX5_errorPosition 19 = .ok (.getfield 37, 3) := by decide +kernel
theorem dX5_errorPosition_22 : decode cX5_errorPosition 22 = .ok (.ireturn, 1) := by decide +kernel
theorem dX5_refusal_0 : decode cX5_refusal 0 = .ok (.aload_n 0, 1) := by decide +kernel
theorem dX5_refusal_1 : decode cX5_refusal 1 = .ok (.getfield 48, 3) := by decide +kernel
theorem dX5_refusal_4 : decode cX5_refusal 4 = .ok (.ifCond .ne 13, 3) := by decide +kernel
theorem dX5_refusal_7 : decode cX5_refusal 7 = .ok (.new 113, 3) := by decide +kernel
theorem dX5_refusal_10 : decode cX5_refusal 10 = .ok (.dup, 1) := by decide +kernel
theorem dX5_refusal_11 : decode cX5_refusal 11 = .ok (.ldc 212, 2) := by decide +kernel
theorem dX5_refusal_13 : decode cX5_refusal 13 = .ok (.invokespecial 117, 3) := by decide +kernel
theorem dX5_refusal_16 : decode cX5_refusal 16 = .ok (.athrow, 1) := by decide +kernel
theorem dX5_refusal_17 : decode cX5_refusal 17 = .ok (.iload_n 1, 1) := by decide +kernel
theorem dX5_refusal_18 : decode cX5_refusal 18 = .ok (.ifCond .eq 10, 3) := by decide +kernel
theorem dX5_refusal_21 : decode cX5_refusal 21 = .ok (.aload_n 0, 1) := by decide +kernel
theorem dX5_refusal_22 : decode cX5_refusal 22 = .ok (.getfield 51, 3) := by decide +kernel
theorem dX5_refusal_25 : decode cX5_refusal 25 = .ok (.goto 7, 3) := by decide +kernel
theorem dX5_refusal_28 : decode cX5_refusal 28 = .ok (.aload_n 0, 1) := by decide +kernel
theorem dX5_refusal_29 : decode cX5_refusal 29 = .ok (.getfield 48, 3) := by decide +kernel
theorem dX5_refusal_32 : decode cX5_refusal 32 = .ok (.ireturn, 1) := by decide +kernel
theorem dX5_describe_0 : decode cX5_describe 0 = .ok (.iconst 0, 1) := by decide +kernel
theorem dX5_describe_1 : decode cX5_describe 1 = .ok (.istore_n 1, 1) := by decide +kernel
theorem dX5_describe_2 : decode cX5_describe 2 = .ok (.iload_n 1, 1) := by decide +kernel
theorem dX5_describe_3 : decode cX5_describe 3 = .ok (.bipush 10, 2) := by decide +kernel
theorem dX5_describe_5 : decode cX5_describe 5 = .ok (.if_icmp .ge 20, 3) := by decide +kernel
theorem dX5_describe_8 : decode cX5_describe 8 = .ok (.aload_n 0, 1) := by decide +kernel
theorem dX5_describe_9 : decode cX5_describe 9 = .ok (.getfield 54, 3) := by decide +kernel
theorem dX5_describe_12 : decode cX5_describe 12 = .ok (.iload_n 1, 1) := by decide +kernel
theorem dX5_describe_13 : decode cX5_describe 13 = .ok (.aload_n 0, 1) := by decide +kernel
theorem dX5_describe_14 : decode cX5_describe 14 = .ok (.iload_n 1, 1) := by decide +kernel
theorem dX5_describe_15 : decode cX5_describe 15 = .ok (.invokevirtual 214, 3) := by decide +kernel
theorem dX5_describe_18 : decode cX5_describe 18 = .ok (.castore, 1) := by decide +kernel
theorem dX5_describe_19 : decode cX5_describe 19 = .ok (.iinc 1 1, 3) := by decide +kernel
theorem dX5_describe_22 : decode cX5_describe 22 = .ok (.goto (-20), 3) := by decide +kernel
theorem dX5_describe_25 : decode cX5_describe 25 = .ok (.aload_n 0, 1) := by decide +kernel
theorem dX5_describe_26 : decode cX5_describe 26 = .ok (.getfield 54, 3) := by decide +kernel
theorem dX5_describe_29 : decode cX5_describe 29 = .ok (.bipush 10, 2) := by decide +kernel
theorem dX5_describe_31 : decode cX5_describe 31 = .ok (.bipush 32, 2) := by decide +kernel
theorem dX5_describe_33 : decode cX5_describe 33 = .ok (.castore, 1) := by decide +kernel
theorem dX5_describe_34 : decode cX5_describe 34 = .ok (.aload_n 0, 1) := by decide +kernel
theorem dX5_describe_35 : decode cX5_describe 35 = .ok (.bipush 11, 2) := by decide +kernel
theorem dX5_describe_37 : decode cX5_describe 37 = .ok (.putfield 58, 3) := by decide +kernel
theorem dX5_describe_40 : decode cX5_describe 40 = .ok (.aload_n 0, 1) := by decide +kernel
theorem dX5_describe_41 : decode cX5_describe 41 = .ok (.getfield 12, 3) := by decide +kernel
theorem dX5_describe_44 : decode cX5_describe 44 = .ok (.getfield 93, 3) := by decide +kernel
theorem dX5_describe_47 : decode cX5_describe 47 = .ok (.bipush 10, 2) := by decide +kernel
theorem dX5_describe_49 : decode cX5_describe 49 = .ok (.if_icmp .lt 17, 3) := by decide +kernel
theorem dX5_describe_52 : decode cX5_describe 52 = .ok (.aload_n 0, 1) := by decide +kernel
theorem dX5_describe_53 : decode cX5_describe 53 = .ok (.aload_n 0, 1) := by decide +kernel
theorem dX5_describe_54 : decode cX5_describe 54 = .ok (.getfield 12, 3) := by decide +kernel
theorem dX5_describe_57 : decode cX5_describe 57 = .ok (.getfield 93, 3) := by decide +kernel
theorem dX5_describe_60 : decode cX5_describe 60 = .ok (.bipush 10, 2) := by decide +kernel
theorem dX5_describe_62 : decode cX5_describe 62 = .ok (.idiv, 1) := by decide +kernel
theorem dX5_describe_63 : decode cX5_describe 63 = .ok (.invokevirtual 218, 3) := by decide +kernel
theorem dX5_describe_66 : decode cX5_describe 66 = .ok (.aload_n 0, 1) := by decide +kernel
theorem dX5_describe_67 : decode cX5_describe 67 = .ok (.aload_n 0, 1) := by decide +kernel
theorem dX5_describe_68 : decode cX5_describe 68 = .ok (.getfield 12, 3) := by decide +kernel
theorem dX5_describe_71 : decode cX5_describe 71 = .ok (.getfield 93, 3) := by decide +kernel
theorem dX5_describe_74 : decode cX5_describe 74 = .ok (.bipush 10, 2) := by decide +kernel
theorem dX5_describe_76 : decode cX5_describe 76 = .ok (.irem, 1) := by decide +kernel
theorem dX5_describe_77 : decode cX5_describe 77 = .ok (.invokevirtual 218, 3) := by decide +kernel
theorem dX5_describe_80 : decode cX5_describe 80 = .ok (.aload_n 0, 1) := by decide +kernel
theorem dX5_describe_81 : decode cX5_describe 81 = .ok (.getfield 58, 3) := by decide +kernel
theorem dX5_describe_84 : decode cX5_describe 84 = .ok (.ireturn, 1) := by decide +kernel
theorem dX5_written_0 : decode cX5_written 0 = .ok (.iload_n 1, 1) := by decide +kernel
theorem dX5_written_1 : decode cX5_written 1 = .ok (.ifCond .lt 11, 3) := by decide +kernel
theorem dX5_written_4 : decode cX5_written 4 = .ok (.iload_n 1, 1) := by decide +kernel
theorem dX5_written_5 : decode cX5_written 5 = .ok (.aload_n 0, 1) := by decide +kernel
theorem dX5_written_6 : decode cX5_written 6 = .ok (.getfield 58, 3) := by decide +kernel
theorem dX5_written_9 : decode cX5_written 9 = .ok (.if_icmp .lt 13, 3) := by decide +kernel
theorem dX5_written_12 : decode cX5_written 12 = .ok (.new 113, 3) := by decide +kernel
theorem dX5_written_15 : decode cX5_written 15 = .ok (.dup, 1) := by decide +kernel
theorem dX5_written_16 : decode cX5_written 16 = .ok (.ldc 221, 2) := by decide +kernel
theorem dX5_written_18 : decode cX5_written 18 = .ok (.invokespecial 117, 3) := by decide +kernel
theorem dX5_written_21 : decode cX5_written 21 = .ok (.athrow, 1) := by decide +kernel
theorem dX5_written_22 : decode cX5_written 22 = .ok (.aload_n 0, 1) := by decide +kernel
theorem dX5_written_23 : decode cX5_written 23 = .ok (.getfield 54, 3) := by decide +kernel
theorem dX5_written_26 : decode cX5_written 26 = .ok (.iload_n 1, 1) := by decide +kernel
theorem dX5_written_27 : decode cX5_written 27 = .ok (.caload, 1) := by decide +kernel
theorem dX5_written_28 : decode cX5_written 28 = .ok (.ireturn, 1) := by decide +kernel
theorem dX5_account_0 : decode cX5_account 0 = .ok (.iload_n 1, 1) := by decide +kernel
theorem dX5_account_1 : decode cX5_account 1 = .ok (.iconst 0, 1) := by decide +kernel
theorem dX5_account_2 : decode cX5_account 2 = .ok (.bipush 18, 2) := by decide +kernel
theorem dX5_account_4 : decode cX5_account 4 = .ok (.invokestatic 65, 3) := by decide +kernel
theorem dX5_account_7 : decode cX5_account 7 = .ok (.iload_n 1, 1) := by decide +kernel
theorem dX5_account_8 : decode cX5_account 8 = .ok (.tableswitch 236 0 17 #[88, 96, 104, 112, 120, 129, 138, 147, 156, 164, 174, 182, 190, 198, 206, 214, 223, 228], 88) := by decide +kernel
theorem dX5_account_96 : decode cX5_account 96 = .ok (.aload_n 0, 1) := by decide +kernel
theorem dX5_account_97 : decode cX5_account 97 = .ok (.getfield 12, 3) := by decide +kernel
theorem dX5_account_100 : decode cX5_account 100 = .ok (.getfield 223, 3) := by decide +kernel
theorem dX5_account_103 : decode cX5_account 103 = .ok (.ireturn, 1) := by decide +kernel
theorem dX5_account_104 : decode cX5_account 104 = .ok (.aload_n 0, 1) := by decide +kernel
theorem dX5_account_105 : decode cX5_account 105 = .ok (.getfield 12, 3) := by decide +kernel
theorem dX5_account_108 : decode cX5_account 108 = .ok (.getfield 93, 3) := by decide +kernel
theorem dX5_account_111 : decode cX5_account 111 = .ok (.ireturn, 1) := by decide +kernel
theorem dX5_account_112 : decode cX5_account 112 = .ok (.aload_n 0, 1) := by decide +kernel
theorem dX5_account_113 : decode cX5_account 113 = .ok (.getfield 12, 3) := by decide +kernel
theorem dX5_account_116 : decode cX5_account 116 = .ok (.getfield 84, 3) := by decide +kernel
theorem dX5_account_119 : decode cX5_account 119 = .ok (.ireturn, 1) := by decide +kernel
theorem dX5_account_120 : decode cX5_account 120 = .ok (.aload_n 0, 1) := by decide +kernel
theorem dX5_account_121 : decode cX5_account 121 = .ok (.getfield 12, 3) := by decide +kernel
theorem dX5_account_124 : decode cX5_account 124 = .ok (.getfield 120, 3) := by decide +kernel
theorem dX5_account_127 : decode cX5_account 127 = .ok (.ireturn, 1) := by decide +kernel
theorem dX5_account_128 : decode cX5_account 128 = .ok (.aload_n 0, 1) := by decide +kernel
theorem dX5_account_129 : decode cX5_account 129 = .ok (.getfield 12, 3) := by decide +kernel
theorem dX5_account_132 : decode cX5_account 132 = .ok (.iconst 0, 1) := by decide +kernel
theorem dX5_account_133 : decode cX5_account 133 = .ok (.invokevirtual 226, 3) := by decide +kernel
theorem dX5_account_136 : decode cX5_account 136 = .ok (.ireturn, 1) := by decide +kernel
theorem dX5_account_137 : decode cX5_account 137 = .ok (.aload_n 0, 1) := by decide +kernel
theorem dX5_account_138 : decode cX5_account 138 = .ok (.getfield 12, 3) := by decide +kernel
theorem dX5_account_141 : decode cX5_account 141 = .ok (.iconst 1, 1) := by decide +kernel
theorem dX5_account_142 : decode cX5_account 142 = .ok (.invokevirtual 226, 3) := by decide +kernel
theorem dX5_account_145 : decode cX5_account 145 = .ok (.ireturn, 1) := by decide +kernel
theorem dX5_account_146 : decode cX5_account 146 = .ok (.aload_n 0, 1) := by decide +kernel
theorem dX5_account_147 : decode cX5_account 147 = .ok (.getfield 12, 3) := by decide +kernel
theorem dX5_account_150 : decode cX5_account 150 = .ok (.iconst 2, 1) := by decide +kernel
theorem dX5_account_151 : decode cX5_account 151 = .ok (.invokevirtual 226, 3) := by decide +kernel
theorem dX5_account_154 : decode cX5_account 154 = .ok (.ireturn, 1) := by decide +kernel
theorem dX5_account_155 : decode cX5_account 155 = .ok (.aload_n 0, 1) := by decide +kernel
theorem dX5_account_156 : decode cX5_account 156 = .ok (.getfield 12, 3) := by decide +kernel
theorem dX5_account_159 : decode cX5_account 159 = .ok (.iconst 4, 1) := by decide +kernel
theorem dX5_account_160 : decode cX5_account 160 = .ok (.invokevirtual 229, 3) := by decide +kernel
theorem dX5_account_163 : decode cX5_account 163 = .ok (.ireturn, 1) := by decide +kernel
theorem dX5_account_164 : decode cX5_account 164 = .ok (.aload_n 0, 1) := by decide +kernel
theorem dX5_account_165 : decode cX5_account 165 = .ok (.getfield 12, 3) := by decide +kernel
theorem dX5_account_168 : decode cX5_account 168 = .ok (.getfield 87, 3) := by decide +kernel
theorem dX5_account_171 : decode cX5_account 171 = .ok (.ireturn, 1) := by decide +kernel
theorem dX5_account_172 : decode cX5_account 172 = .ok (.aload_n 0, 1) := by decide +kernel
theorem dX5_account_173 : decode cX5_account 173 = .ok (.getfield 12, 3) := by decide +kernel
theorem dX5_account_176 : decode cX5_account 176 = .ok (.bipush 8, 2) := by decide +kernel
theorem dX5_account_178 : decode cX5_account 178 = .ok (.invokevirtual 229, 3) := by decide +kernel
theorem dX5_account_181 : decode cX5_account 181 = .ok (.ireturn, 1) := by decide +kernel
theorem dX5_account_182 : decode cX5_account 182 = .ok (.aload_n 0, 1) := by decide +kernel
theorem dX5_account_183 : decode cX5_account 183 = .ok (.getfield 12, 3) := by decide +kernel
theorem dX5_account_186 : decode cX5_account 186 = .ok (.getfield 232, 3) := by decide +kernel
theorem dX5_account_189 : decode cX5_account 189 = .ok (.ireturn, 1) := by decide +kernel
theorem dX5_account_190 : decode cX5_account 190 = .ok (.aload_n 0, 1) := by decide +kernel
theorem dX5_account_191 : decode cX5_account 191 = .ok (.getfield 12, 3) := by decide +kernel
theorem dX5_account_194 : decode cX5_account 194 = .ok (.getfield 90, 3) := by decide +kernel
theorem dX5_account_197 : decode cX5_account 197 = .ok (.ireturn, 1) := by decide +kernel
theorem dX5_account_198 : decode cX5_account 198 = .ok (.aload_n 0, 1) := by decide +kernel
theorem dX5_account_199 : decode cX5_account 199 = .ok (.getfield 12, 3) := by decide +kernel
theorem dX5_account_202 : decode cX5_account 202 = .ok (.getfield 235, 3) := by decide +kernel
theorem dX5_account_205 : decode cX5_account 205 = .ok (.ireturn, 1) := by decide +kernel
theorem dX5_account_206 : decode cX5_account 206 = .ok (.aload_n 0, 1) := by decide +kernel
theorem dX5_account_207 : decode cX5_account 207 = .ok (.getfield 12, 3) := by decide +kernel
theorem dX5_account_210 : decode cX5_account 210 = .ok (.getfield 161, 3) := by decide +kernel
theorem dX5_account_213 : decode cX5_account 213 = .ok (.ireturn, 1) := by decide +kernel
theorem dX5_account_214 : decode cX5_account 214 = .ok (.aload_n 0, 1) := by decide +kernel
theorem dX5_account_215 : decode cX5_account 215 = .ok (.getfield 12, 3) := by decide +kernel
theorem dX5_account_218 : decode cX5_account 218 = .ok (.getfield 238, 3) := by decide +kernel
theorem dX5_account_221 : decode cX5_account 221 = .ok (.ireturn, 1) := by decide +kernel
theorem dX5_account_222 : decode cX5_account 222 = .ok (.aload_n 0, 1) := by decide +kernel
theorem dX5_account_223 : decode cX5_account 223 = .ok (.getfield 12, 3) := by decide +kernel
theorem dX5_account_226 : decode cX5_account 226 = .ok (.iconst 2, 1) := by decide +kernel
theorem dX5_account_227 : decode cX5_account 227 = .ok (.invokevirtual 229, 3) := by decide +kernel
theorem dX5_account_230 : decode cX5_account 230 = .ok (.ireturn, 1) := by decide +kernel
theorem dX5_account_231 : decode cX5_account 231 = .ok (.aload_n 0, 1) := by decide +kernel
theorem dX5_account_232 : decode cX5_account 232 = .ok (.getfield 45, 3) := by decide +kernel
theorem dX5_account_235 : decode cX5_account 235 = .ok (.ireturn, 1) := by decide +kernel
theorem dX5_account_236 : decode cX5_account 236 = .ok (.aload_n 0, 1) := by decide +kernel
theorem dX5_account_237 : decode cX5_account 237 = .ok (.getfield 33, 3) := by decide +kernel
theorem dX5_account_240 : decode cX5_account 240 = .ok (.getfield 241, 3) := by decide +kernel
theorem dX5_account_243 : decode cX5_account 243 = .ok (.ireturn, 1) := by decide +kernel
theorem dX5_account_244 : decode cX5_account 244 = .ok (.aload_n 0, 1) := by decide +kernel
theorem dX5_account_245 : decode cX5_account 245 = .ok (.getfield 19, 3) := by decide +kernel
theorem dX5_account_248 : decode cX5_account 248 = .ok (.getfield 244, 3) := by decide +kernel
theorem dX5_account_251 : decode cX5_account 251 = .ok (.ireturn, 1) := by decide +kernel
theorem dX5_lettersAgain_0 : decode cX5_lettersAgain 0 = .ok (.aload_n 0, 1) := by decide +kernel
theorem dX5_lettersAgain_1 : decode cX5_lettersAgain 1 = .ok (.getfield 12, 3) := by decide +kernel
theorem dX5_lettersAgain_4 : decode cX5_lettersAgain 4 = .ok (.getfield 90, 3) := by decide +kernel
theorem dX5_lettersAgain_7 : decode cX5_lettersAgain 7 = .ok (.aload_n 0, 1) := by decide +kernel
theorem dX5_lettersAgain_8 : decode cX5_lettersAgain 8 = .ok (.getfield 12, 3) := by decide +kernel
theorem dX5_lettersAgain_11 : decode cX5_lettersAgain 11 = .ok (.getfield 232, 3) := by decide +kernel
theorem dX5_lettersAgain_14 : decode cX5_lettersAgain 14 = .ok (.isub, 1) := by decide +kernel
theorem dX5_lettersAgain_15 : decode cX5_lettersAgain 15 = .ok (.aload_n 0, 1) := by decide +kernel
theorem dX5_lettersAgain_16 : decode cX5_lettersAgain 16 = .ok (.getfield 12, 3) := by decide +kernel
theorem dX5_lettersAgain_19 : decode cX5_lettersAgain 19 = .ok (.bipush 8, 2) := by decide +kernel
theorem dX5_lettersAgain_21 : decode cX5_lettersAgain 21 = .ok (.invokevirtual 229, 3) := by decide +kernel
theorem dX5_lettersAgain_24 : decode cX5_lettersAgain 24 = .ok (.isub, 1) := by decide +kernel
theorem dX5_lettersAgain_25 : decode cX5_lettersAgain 25 = .ok (.ireturn, 1) := by decide +kernel
theorem dX5_meanWet_0 : decode cX5_meanWet 0 = .ok (.aload_n 0, 1) := by decide +kernel
theorem dX5_meanWet_1 : decode cX5_meanWet 1 = .ok (.getfield 12, 3) := by decide +kernel
theorem dX5_meanWet_4 : decode cX5_meanWet 4 = .ok (.getfield 120, 3) := by decide +kernel
theorem dX5_meanWet_7 : decode cX5_meanWet 7 = .ok (.ifCond .ne 13, 3) := by decide +kernel
theorem dX5_meanWet_10 : decode cX5_meanWet 10 = .ok (.new 245, 3) := by decide +kernel
theorem dX5_meanWet_13 : decode cX5_meanWet 13 = .ok (.dup, 1) := by decide +kernel
theorem dX5_meanWet_14 : decode cX5_meanWet 14 = .ok (.ldc 247, 2) := by decide +kernel
theorem dX5_meanWet_16 : decode cX5_meanWet 16 = .ok (.invokespecial 249, 3) := by decide +kernel
theorem dX5_meanWet_19 : decode cX5_meanWet 19 = .ok (.athrow, 1) := by decide +kernel
theorem dX5_meanWet_20 : decode cX5_meanWet 20 = .ok (.aload_n 0, 1) := by decide +kernel
theorem dX5_meanWet_21 : decode cX5_meanWet 21 = .ok (.getfield 12, 3) := by decide +kernel
theorem dX5_meanWet_24 : decode cX5_meanWet 24 = .ok (.iconst 2, 1) := by decide +kernel
theorem dX5_meanWet_25 : decode cX5_meanWet 25 = .ok (.invokevirtual 229, 3) := by decide +kernel
theorem dX5_meanWet_28 : decode cX5_meanWet 28 = .ok (.i2d, 1) := by decide +kernel
theorem dX5_meanWet_29 : decode cX5_meanWet 29 = .ok (.aload_n 0, 1) := by decide +kernel
theorem dX5_meanWet_30 : decode cX5_meanWet 30 = .ok (.getfield 12, 3) := by decide +kernel
theorem dX5_meanWet_33 : decode cX5_meanWet 33 = .ok (.getfield 120, 3) := by decide +kernel
theorem dX5_meanWet_36 : decode cX5_meanWet 36 = .ok (.i2d, 1) := by decide +kernel
theorem dX5_meanWet_37 : decode cX5_meanWet 37 = .ok (.ddiv, 1) := by decide +kernel
theorem dX5_meanWet_38 : decode cX5_meanWet 38 = .ok (.dreturn, 1) := by decide +kernel
theorem dX5_crossingShare_0 : decode cX5_crossingShare 0 = .ok (.aload_n 0, 1) := by decide +kernel
theorem dX5_crossingShare_1 : decode cX5_crossingShare 1 = .ok (.getfield 12, 3) := by decide +kernel
theorem dX5_crossingShare_4 : decode cX5_crossingShare 4 = .ok (.getfield 161, 3) := by decide +kernel
theorem dX5_crossingShare_7 : decode cX5_crossingShare 7 = .ok (.aload_n 0, 1) := by decide +kernel
theorem dX5_crossingShare_8 : decode cX5_crossingShare 8 = .ok (.getfield 12, 3) := by decide +kernel
theorem dX5_crossingShare_11 : decode cX5_crossingShare 11 = .ok (.getfield 238, 3) := by decide +kernel
theorem dX5_crossingShare_14 : decode cX5_crossingShare 14 = .ok (.iadd, 1) := by decide +kernel
theorem dX5_crossingShare_15 : decode cX5_crossingShare 15 = .ok (.istore_n 1, 1) := by decide +kernel
theorem dX5_crossingShare_16 : decode cX5_crossingShare 16 = .ok (.iload_n 1, 1) := by decide +kernel
theorem dX5_crossingShare_17 : decode cX5_crossingShare 17 = .ok (.ifCond .ne 13, 3) := by decide +kernel
theorem dX5_crossingShare_20 : decode cX5_crossingShare 20 = .ok (.new 245, 3) := by decide +kernel
theorem dX5_crossingShare_23 : decode cX5_crossingShare 23 = .ok (.dup, 1) := by decide +kernel
theorem dX5_crossingShare_24 : decode cX5_crossingShare 24 = .ok (.ldc 250, 2) := by decide +kernel
theorem dX5_crossingShare_26 : decode cX5_crossingShare 26 = .ok (.invokespecial 249, 3) := by decide +kernel
theorem dX5_crossingShare_29 : decode cX5_crossingShare 29 = .ok (.athrow, 1) := by decide +kernel
theorem dX5_crossingShare_30 : decode cX5_crossingShare 30 = .ok (.aload_n 0, 1) := by decide +kernel
theorem dX5_crossingShare_31 : decode cX5_crossingShare 31 = .ok (.getfield 12, 3) := by decide +kernel
theorem dX5_crossingShare_34 : decode cX5_crossingShare 34 = .ok (.getfield 161, 3) := by decide +kernel
theorem dX5_crossingShare_37 : decode cX5_crossingShare 37 = .ok (.i2f, 1) := by decide +kernel
theorem dX5_crossingShare_38 : decode cX5_crossingShare 38 = .ok (.iload_n 1, 1) := by decide +kernel
theorem dX5_crossingShare_39 : decode cX5_crossingShare 39 = .ok (.i2f, 1) := by decide +kernel
theorem dX5_crossingShare_40 : decode cX5_crossingShare 40 = .ok (.fdiv, 1) := by decide +kernel
theorem dX5_crossingShare_41 : decode cX5_crossingShare 41 = .ok (.freturn, 1) := by decide +kernel
theorem dX5_undo_0 : decode cX5_undo 0 = .ok (.aload_n 0, 1) := by decide +kernel
theorem dX5_undo_1 : decode cX5_undo 1 = .ok (.getfield 19, 3) := by decide +kernel
theorem dX5_undo_4 : decode cX5_undo 4 = .ok (.getfield 244, 3) := by decide +kernel
theorem dX5_undo_7 : decode cX5_undo 7 = .ok (.ifCond .ne 13, 3) := by decide +kernel
theorem dX5_undo_10 : decode cX5_undo 10 = .ok (.new 181, 3) := by decide +kernel
theorem dX5_undo_13 : decode cX5_undo 13 = .ok (.dup, 1) := by decide +kernel
theorem dX5_undo_14 : decode cX5_undo 14 = .ok (.ldc 252, 2) := by decide +kernel
theorem dX5_undo_16 : decode cX5_undo 16 = .ok (.invokespecial 185, 3) := by decide +kernel
theorem dX5_undo_19 : decode cX5_undo 19 = .ok (.athrow, 1) := by decide +kernel
theorem dX5_undo_20 : decode cX5_undo 20 = .ok (.aload_n 0, 1) := by decide +kernel
theorem dX5_undo_21 : decode cX5_undo 21 = .ok (.getfield 19, 3) := by decide +kernel
theorem dX5_undo_24 : decode cX5_undo 24 = .ok (.aload_n 0, 1) := by decide +kernel
theorem dX5_undo_25 : decode cX5_undo 25 = .ok (.getfield 12, 3) := by decide +kernel
theorem dX5_undo_28 : decode cX5_undo 28 = .ok (.invokevirtual 254, 3) := by decide +kernel
theorem dX5_undo_31 : decode cX5_undo 31 = .ok (.aload_n 0, 1) := by decide +kernel
theorem dX5_undo_32 : decode cX5_undo 32 = .ok (.getfield 19, 3) := by decide +kernel
theorem dX5_undo_35 : decode cX5_undo 35 = .ok (.getfield 244, 3) := by decide +kernel
theorem dX5_undo_38 : decode cX5_undo 38 = .ok (.ireturn, 1) := by decide +kernel
theorem dX5_save_0 : decode cX5_save 0 = .ok (.aload_n 0, 1) := by decide +kernel
theorem dX5_save_1 : decode cX5_save 1 = .ok (.getfield 23, 3) := by decide +kernel
theorem dX5_save_4 : decode cX5_save 4 = .ok (.aload_n 0, 1) := by decide +kernel
theorem dX5_save_5 : decode cX5_save 5 = .ok (.getfield 12, 3) := by decide +kernel
theorem dX5_save_8 : decode cX5_save 8 = .ok (.invokevirtual 257, 3) := by decide +kernel
theorem dX5_save_11 : decode cX5_save 11 = .ok (.aload_n 0, 1) := by decide +kernel
theorem dX5_save_12 : decode cX5_save 12 = .ok (.iconst 1, 1) := by decide +kernel
theorem dX5_save_13 : decode cX5_save 13 = .ok (.putfield 26, 3) := by decide +kernel
theorem dX5_save_16 : decode cX5_save 16 = .ok (.aload_n 0, 1) := by decide +kernel
theorem dX5_save_17 : decode cX5_save 17 = .ok (.getfield 12, 3) := by decide +kernel
theorem dX5_save_20 : decode cX5_save 20 = .ok (.getfield 223, 3) := by decide +kernel
theorem dX5_save_23 : decode cX5_save 23 = .ok (.ireturn, 1) := by decide +kernel
theorem dX5_restore_0 : decode cX5_restore 0 = .ok (.aload_n 0, 1) := by decide +kernel
theorem dX5_restore_1 : decode cX5_restore 1 = .ok (.getfield 26, 3) := by decide +kernel
theorem dX5_restore_4 : decode cX5_restore 4 = .ok (.ifCond .ne 14, 3) := by decide +kernel
theorem dX5_restore_7 : decode cX5_restore 7 = .ok (.new 181, 3) := by decide +kernel
theorem dX5_restore_10 : decode cX5_restore 10 = .ok (.dup, 1) := by decide +kernel
theorem dX5_restore_11 : decode cX5_restore 11 = .ok (.ldc_w 260, 3) := by decide +kernel
theorem dX5_restore_14 : decode cX5_restore 14 = .ok (.invokespecial 185, 3) := by decide +kernel
theorem dX5_restore_17 : decode cX5_restore 17 = .ok (.athrow, 1) := by decide +kernel
theorem dX5_restore_18 : decode cX5_restore 18 = .ok (.aload_n 0, 1) := by decide +kernel
theorem dX5_restore_19 : decode cX5_restore 19 = .ok (.getfield 12, 3) := by decide +kernel
theorem dX5_restore_22 : decode cX5_restore 22 = .ok (.aload_n 0, 1) := by decide +kernel
theorem dX5_restore_23 : decode cX5_restore 23 = .ok (.getfield 23, 3) := by decide +kernel
theorem dX5_restore_26 : decode cX5_restore 26 = .ok (.invokevirtual 257, 3) := by decide +kernel
theorem dX5_restore_29 : decode cX5_restore 29 = .ok (.aload_n 0, 1) := by decide +kernel
theorem dX5_restore_30 : decode cX5_restore 30 = .ok (.getfield 19, 3) := by decide +kernel
theorem dX5_restore_33 : decode cX5_restore 33 = .ok (.invokevirtual 262, 3) := by decide +kernel
theorem dX5_restore_36 : decode cX5_restore 36 = .ok (.aload_n 0, 1) := by decide +kernel
theorem dX5_restore_37 : decode cX5_restore 37 = .ok (.getfield 12, 3) := by decide +kernel
theorem dX5_restore_40 : decode cX5_restore 40 = .ok (.getfield 223, 3) := by decide +kernel
theorem dX5_restore_43 : decode cX5_restore 43 = .ok (.ireturn, 1) := by decide +kernel
theorem dX5_checkStone_0 : decode cX5_checkStone 0 = .ok (.iload_n 0, 1) := by decide +kernel
theorem dX5_checkStone_1 : decode cX5_checkStone 1 = .ok (.ifCond .lt 9, 3) := by decide +kernel
theorem dX5_checkStone_4 : decode cX5_checkStone 4 = .ok (.iload_n 0, 1) := by decide +kernel
theorem dX5_checkStone_5 : decode cX5_checkStone 5 = .ok (.bipush 10, 2) := by decide +kernel
theorem dX5_checkStone_7 : decode cX5_checkStone 7 = .ok (.if_icmp .lt 14, 3) := by decide +kernel
theorem dX5_checkStone_10 : decode cX5_checkStone 10 = .ok (.new 265, 3) := by decide +kernel
theorem dX5_checkStone_13 : decode cX5_checkStone 13 = .ok (.dup, 1) := by decide +kernel
theorem dX5_checkStone_14 : decode cX5_checkStone 14 = .ok (.ldc_w 267, 3) := by decide +kernel
theorem dX5_checkStone_17 : decode cX5_checkStone 17 = .ok (.invokespecial 269, 3) := by decide +kernel
theorem dX5_checkStone_20 : decode cX5_checkStone 20 = .ok (.athrow, 1) := by decide +kernel
theorem dX5_checkStone_21 : decode cX5_checkStone 21 = .ok (.return_, 1) := by decide +kernel
theorem dX5_checkRange_0 : decode cX5_checkRange 0 = .ok (.iload_n 0, 1) := by decide +kernel
theorem dX5_checkRange_1 : decode cX5_checkRange 1 = .ok (.iload_n 1, 1) := by decide +kernel
theorem dX5_checkRange_2 : decode cX5_checkRange 2 = .ok (.if_icmp .lt 8, 3) := by decide +kernel
theorem dX5_checkRange_5 : decode cX5_checkRange 5 = .ok (.iload_n 0, 1) := by decide +kernel
theorem dX5_checkRange_6 : decode cX5_checkRange 6 = .ok (.iload_n 2, 1) := by decide +kernel
theorem dX5_checkRange_7 : decode cX5_checkRange 7 = .ok (.if_icmp .le 14, 3) := by decide +kernel
theorem dX5_checkRange_10 : decode cX5_checkRange 10 = .ok (.new 200, 3) := by decide +kernel
theorem dX5_checkRange_13 : decode cX5_checkRange 13 = .ok (.dup, 1) := by decide +kernel
theorem dX5_checkRange_14 : decode cX5_checkRange 14 = .ok (.ldc_w 270, 3) := by decide +kernel
theorem dX5_checkRange_17 : decode cX5_checkRange 17 = .ok (.invokespecial 204, 3) := by decide +kernel
theorem dX5_checkRange_20 : decode cX5_checkRange 20 = .ok (.athrow, 1) := by decide +kernel
theorem dX5_checkRange_21 : decode cX5_checkRange 21 = .ok (.return_, 1) := by decide +kernel
theorem dX5_found_0 : decode cX5_found 0 = .ok (.iload_n 1, 1) := by decide +kernel
theorem dX5_found_1 : decode cX5_found 1 = .ok (.ifCond .lt 14, 3) := by decide +kernel
theorem dX5_found_4 : decode cX5_found 4 = .ok (.iload_n 1, 1) := by decide +kernel
theorem dX5_found_5 : decode cX5_found 5 = .ok (.aload_n 0, 1) := by decide +kernel
theorem dX5_found_6 : decode cX5_found 6 = .ok (.getfield 12, 3) := by decide +kernel
theorem dX5_found_9 : decode cX5_found 9 = .ok (.getfield 120, 3) := by decide +kernel
theorem dX5_found_12 : decode cX5_found 12 = .ok (.if_icmp .lt 14, 3) := by decide +kernel
theorem dX5_found_15 : decode cX5_found 15 = .ok (.new 265, 3) := by decide +kernel
theorem dX5_found_18 : decode cX5_found 18 = .ok (.dup, 1) := by decide +kernel
theorem dX5_found_19 : decode cX5_found 19 = .ok (.ldc_w 272, 3) := by decide +kernel
theorem dX5_found_22 : decode cX5_found 22 = .ok (.invokespecial 269, 3) := by decide +kernel
theorem dX5_found_25 : decode cX5_found 25 = .ok (.athrow, 1) := by decide +kernel
theorem dX5_found_26 : decode cX5_found 26 = .ok (.aload_n 0, 1) := by decide +kernel
theorem dX5_found_27 : decode cX5_found 27 = .ok (.getfield 12, 3) := by decide +kernel
theorem dX5_found_30 : decode cX5_found 30 = .ok (.getfield 274, 3) := by decide +kernel
theorem dX5_found_33 : decode cX5_found 33 = .ok (.iload_n 1, 1) := by decide +kernel
theorem dX5_found_34 : decode cX5_found 34 = .ok (.aaload, 1) := by decide +kernel
theorem dX5_found_35 : decode cX5_found 35 = .ok (.areturn, 1) := by decide +kernel
theorem dX5_refuse_0 : decode cX5_refuse 0 = .ok (.aload_n 0, 1) := by decide +kernel
theorem dX5_refuse_1 : decode cX5_refuse 1 = .ok (.iload_n 1, 1) := by decide +kernel
theorem dX5_refuse_2 : decode cX5_refuse 2 = .ok (.putfield 48, 3) := by decide +kernel
theorem dX5_refuse_5 : decode cX5_refuse 5 = .ok (.aload_n 0, 1) := by decide +kernel
theorem dX5_refuse_6 : decode cX5_refuse 6 = .ok (.iload_n 2, 1) := by decide +kernel
theorem dX5_refuse_7 : decode cX5_refuse 7 = .ok (.putfield 51, 3) := by decide +kernel
theorem dX5_refuse_10 : decode cX5_refuse 10 = .ok (.new 278, 3) := by decide +kernel
theorem dX5_refuse_13 : decode cX5_refuse 13 = .ok (.dup, 1) := by decide +kernel
theorem dX5_refuse_14 : decode cX5_refuse 14 = .ok (.ldc_w 280, 3) := by decide +kernel
theorem dX5_refuse_17 : decode cX5_refuse 17 = .ok (.invokespecial 282, 3) := by decide +kernel
theorem dX5_refuse_20 : decode cX5_refuse 20 = .ok (.athrow, 1) := by decide +kernel
theorem dX5_setStopped_0 : decode cX5_setStopped 0 = .ok (.aload_n 0, 1) := by decide +kernel
theorem dX5_setStopped_1 : decode cX5_setStopped 1 = .ok (.iload_n 1, 1) := by decide +kernel
theorem dX5_setStopped_2 : decode cX5_setStopped 2 = .ok (.invokevirtual 126, 3) := by decide +kernel
theorem dX5_setStopped_5 : decode cX5_setStopped 5 = .ok (.astore_n 3, 1) := by decide +kernel
theorem dX5_setStopped_6 : decode cX5_setStopped 6 = .ok (.aload_n 3, 1) := by decide +kernel
theorem dX5_setStopped_7 : decode cX5_setStopped 7 = .ok (.getfield 138, 3) := by decide +kernel
theorem dX5_setStopped_10 : decode cX5_setStopped 10 = .ok (.ifCond .ne 12, 3) := by decide +kernel
theorem dX5_setStopped_13 : decode cX5_setStopped 13 = .ok (.aload_n 0, 1) := by decide +kernel
theorem dX5_setStopped_14 : decode cX5_setStopped 14 = .ok (.iconst 3, 1) := by decide +kernel
theorem dX5_setStopped_15 : decode cX5_setStopped 15 = .ok (.aload_n 3, 1) := by decide +kernel
theorem dX5_setStopped_16 : decode cX5_setStopped 16 = .ok (.getfield 141, 3) := by decide +kernel
theorem dX5_setStopped_19 : decode cX5_setStopped 19 = .ok (.invokevirtual 73, 3) := by decide +kernel
theorem dX5_setStopped_22 : decode cX5_setStopped 22 = .ok (.aload_n 3, 1) := by decide +kernel
theorem dX5_setStopped_23 : decode cX5_setStopped 23 = .ok (.getfield 283, 3) := by decide +kernel
theorem dX5_setStopped_26 : decode cX5_setStopped 26 = .ok (.iload_n 2, 1) := by decide +kernel
theorem dX5_setStopped_27 : decode cX5_setStopped 27 = .ok (.if_icmp .ne 10, 3) := by decide +kernel
theorem dX5_setStopped_30 : decode cX5_setStopped 30 = .ok (.aload_n 0, 1) := by decide +kernel
theorem dX5_setStopped_31 : decode cX5_setStopped 31 = .ok (.bipush 7, 2) := by decide +kernel
theorem dX5_setStopped_33 : decode cX5_setStopped 33 = .ok (.iload_n 1, 1) := by decide +kernel
theorem dX5_setStopped_34 : decode cX5_setStopped 34 = .ok (.invokevirtual 73, 3) := by decide +kernel
theorem dX5_setStopped_37 : decode cX5_setStopped 37 = .ok (.aload_n 0, 1) := by decide +kernel
theorem dX5_setStopped_38 : decode cX5_setStopped 38 = .ok (.getfield 19, 3) := by decide +kernel
theorem dX5_setStopped_41 : decode cX5_setStopped 41 = .ok (.aload_n 0, 1) := by decide +kernel
theorem dX5_setStopped_42 : decode cX5_setStopped 42 = .ok (.getfield 12, 3) := by decide +kernel
theorem dX5_setStopped_45 : decode cX5_setStopped 45 = .ok (.invokevirtual 77, 3) := by decide +kernel
theorem dX5_setStopped_48 : decode cX5_setStopped 48 = .ok (.aload_n 3, 1) := by decide +kernel
theorem dX5_setStopped_49 : decode cX5_setStopped 49 = .ok (.iload_n 2, 1) := by decide +kernel
theorem dX5_setStopped_50 : decode cX5_setStopped 50 = .ok (.putfield 283, 3) := by decide +kernel
theorem dX5_setStopped_53 : decode cX5_setStopped 53 = .ok (.aload_n 3, 1) := by decide +kernel
theorem dX5_setStopped_54 : decode cX5_setStopped 54 = .ok (.getfield 141, 3) := by decide +kernel
theorem dX5_setStopped_57 : decode cX5_setStopped 57 = .ok (.ireturn, 1) := by decide +kernel
theorem dX5_keepAnswer_0 : decode cX5_keepAnswer 0 = .ok (.aload_n 0, 1) := by decide +kernel
theorem dX5_keepAnswer_1 : decode cX5_keepAnswer 1 = .ok (.iconst 0, 1) := by decide +kernel
theorem dX5_keepAnswer_2 : decode cX5_keepAnswer 2 = .ok (.putfield 45, 3) := by decide +kernel
theorem dX5_keepAnswer_5 : decode cX5_keepAnswer 5 = .ok (.iconst 0, 1) := by decide +kernel
theorem dX5_keepAnswer_6 : decode cX5_keepAnswer 6 = .ok (.istore_n 2, 1) := by decide +kernel
theorem dX5_keepAnswer_7 : decode cX5_keepAnswer 7 = .ok (.iload_n 2, 1) := by decide +kernel
theorem dX5_keepAnswer_8 : decode cX5_keepAnswer 8 = .ok (.bipush 8, 2) := by decide +kernel
theorem dX5_keepAnswer_10 : decode cX5_keepAnswer 10 = .ok (.if_icmp .ge 37, 3) := by decide +kernel
theorem dX5_keepAnswer_13 : decode cX5_keepAnswer 13 = .ok (.iload_n 1, 1) := by decide +kernel
theorem dX5_keepAnswer_14 : decode cX5_keepAnswer 14 = .ok (.iload_n 2, 1) := by decide +kernel
theorem dX5_keepAnswer_15 : decode cX5_keepAnswer 15 = .ok (.ishr, 1) := by decide +kernel
theorem dX5_keepAnswer_16 : decode cX5_keepAnswer 16 = .ok (.iconst 1, 1) := by decide +kernel
theorem dX5_keepAnswer_17 : decode cX5_keepAnswer 17 = .ok (.iand, 1) := by decide +kernel
theorem dX5_keepAnswer_18 : decode cX5_keepAnswer 18 = .ok (.ifCond .eq 23, 3) := by decide +kernel
theorem dX5_keepAnswer_21 : decode cX5_keepAnswer 21 = .ok (.aload_n 0, 1) := by decide +kernel
theorem dX5_keepAnswer_22 : decode cX5_keepAnswer 22 = .ok (.getfield 41, 3) := by decide +kernel
theorem dX5_keepAnswer_25 : decode cX5_keepAnswer 25 = .ok (.aload_n 0, 1) := by decide +kernel
theorem dX5_keepAnswer_26 : decode cX5_keepAnswer 26 = .ok (.getfield 45, 3) := by decide +kernel
theorem dX5_keepAnswer_29 : decode cX5_keepAnswer 29 = .ok (.iload_n 2, 1) := by decide +kernel
theorem dX5_keepAnswer_30 : decode cX5_keepAnswer 30 = .ok (.iastore, 1) := by decide +kernel
theorem dX5_keepAnswer_31 : decode cX5_keepAnswer 31 = .ok (.aload_n 0, 1) := by decide +kernel
theorem dX5_keepAnswer_32 : decode cX5_keepAnswer 32 = .ok (.dup, 1) := by decide +kernel
theorem dX5_keepAnswer_33 : decode cX5_keepAnswer 33 = .ok (.getfield 45, 3) := by decide +kernel
theorem dX5_keepAnswer_36 : decode cX5_keepAnswer 36 = .ok (.iconst 1, 1) := by decide +kernel
theorem dX5_keepAnswer_37 : decode cX5_keepAnswer 37 = .ok (.iadd, 1) := by decide +kernel
theorem dX5_keepAnswer_38 : decode cX5_keepAnswer 38 = .ok (.putfield 45, 3) := by decide +kernel
theorem dX5_keepAnswer_41 : decode cX5_keepAnswer 41 = .ok (.iinc 2 1, 3) := by decide +kernel
theorem dX5_keepAnswer_44 : decode cX5_keepAnswer 44 = .ok (.goto (-37), 3) := by decide +kernel
theorem dX5_keepAnswer_47 : decode cX5_keepAnswer 47 = .ok (.return_, 1) := by decide +kernel
theorem dX5_signOf_0 : decode cX5_signOf 0 = .ok (.aload_n 0, 1) := by decide +kernel
theorem dX5_signOf_1 : decode cX5_signOf 1 = .ok (.getfield 12, 3) := by decide +kernel
theorem dX5_signOf_4 : decode cX5_signOf 4 = .ok (.iload_n 1, 1) := by decide +kernel
theorem dX5_signOf_5 : decode cX5_signOf 5 = .ok (.invokevirtual 69, 3) := by decide +kernel
theorem dX5_signOf_8 : decode cX5_signOf 8 = .ok (.istore_n 2, 1) := by decide +kernel
theorem dX5_signOf_9 : decode cX5_signOf 9 = .ok (.iload_n 2, 1) := by decide +kernel
theorem dX5_signOf_10 : decode cX5_signOf 10 = .ok (.iconst (-1), 1) := by decide +kernel
theorem dX5_signOf_11 : decode cX5_signOf 11 = .ok (.if_icmp .eq 9, 3) := by decide +kernel
theorem dX5_signOf_14 : decode cX5_signOf 14 = .ok (.bipush 48, 2) := by decide +kernel
theorem dX5_signOf_16 : decode cX5_signOf 16 = .ok (.iload_n 2, 1) := by decide +kernel
theorem dX5_signOf_17 : decode cX5_signOf 17 = .ok (.iadd, 1) := by decide +kernel
theorem dX5_signOf_18 : decode cX5_signOf 18 = .ok (.i2c, 1) := by decide +kernel
theorem dX5_signOf_19 : decode cX5_signOf 19 = .ok (.ireturn, 1) := by decide +kernel
theorem dX5_signOf_20 : decode cX5_signOf 20 = .ok (.aload_n 0, 1) := by decide +kernel
theorem dX5_signOf_21 : decode cX5_signOf 21 = .ok (.getfield 12, 3) := by decide +kernel
theorem dX5_signOf_24 : decode cX5_signOf 24 = .ok (.iload_n 1, 1) := by decide +kernel
theorem dX5_signOf_25 : decode cX5_signOf 25 = .ok (.aload_n 0, 1) := by decide +kernel
theorem dX5_signOf_26 : decode cX5_signOf 26 = .ok (.getfield 12, 3) := by decide +kernel
theorem dX5_signOf_29 : decode cX5_signOf 29 = .ok (.getfield 93, 3) := by decide +kernel
theorem dX5_signOf_32 : decode cX5_signOf 32 = .ok (.invokevirtual 96, 3) := by decide +kernel
theorem dX5_signOf_35 : decode cX5_signOf 35 = .ok (.istore_n 3, 1) := by decide +kernel
theorem dX5_signOf_36 : decode cX5_signOf 36 = .ok (.iload_n 3, 1) := by decide +kernel
theorem dX5_signOf_37 : decode cX5_signOf 37 = .ok (.iconst 2, 1) := by decide +kernel
theorem dX5_signOf_38 : decode cX5_signOf 38 = .ok (.if_icmp .ne 6, 3) := by decide +kernel
theorem dX5_signOf_41 : decode cX5_signOf 41 = .ok (.bipush 95, 2) := by decide +kernel
theorem dX5_signOf_43 : decode cX5_signOf 43 = .ok (.ireturn, 1) := by decide +kernel
theorem dX5_signOf_44 : decode cX5_signOf 44 = .ok (.iload_n 3, 1) := by decide +kernel
theorem dX5_signOf_45 : decode cX5_signOf 45 = .ok (.iconst 1, 1) := by decide +kernel
theorem dX5_signOf_46 : decode cX5_signOf 46 = .ok (.if_icmp .ne 8, 3) := by decide +kernel
theorem dX5_signOf_49 : decode cX5_signOf 49 = .ok (.bipush 126, 2) := by decide +kernel
theorem dX5_signOf_51 : decode cX5_signOf 51 = .ok (.goto 5, 3) := by decide +kernel
theorem dX5_signOf_54 : decode cX5_signOf 54 = .ok (.bipush 46, 2) := by decide +kernel
theorem dX5_signOf_56 : decode cX5_signOf 56 = .ok (.ireturn, 1) := by decide +kernel
theorem dX5_writeDigit_0 : decode cX5_writeDigit 0 = .ok (.aload_n 0, 1) := by decide +kernel
theorem dX5_writeDigit_1 : decode cX5_writeDigit 1 = .ok (.getfield 58, 3) := by decide +kernel
theorem dX5_writeDigit_4 : decode cX5_writeDigit 4 = .ok (.bipush 13, 2) := by decide +kernel
theorem dX5_writeDigit_6 : decode cX5_writeDigit 6 = .ok (.if_icmp .ge 27, 3) := by decide +kernel
theorem dX5_writeDigit_9 : decode cX5_writeDigit 9 = .ok (.aload_n 0, 1) := by decide +kernel
theorem dX5_writeDigit_10 : decode cX5_writeDigit 10 = .ok (.getfield 54, 3) := by decide +kernel
theorem dX5_writeDigit_13 : decode cX5_writeDigit 13 = .ok (.aload_n 0, 1) := by decide +kernel
theorem dX5_writeDigit_14 : decode cX5_writeDigit 14 = .ok (.getfield 58, 3) := by decide +kernel
theorem dX5_writeDigit_17 : decode cX5_writeDigit 17 = .ok (.bipush 48, 2) := by decide +kernel
theorem dX5_writeDigit_19 : decode cX5_writeDigit 19 = .ok (.iload_n 1, 1) := by decide +kernel
theorem dX5_writeDigit_20 : decode cX5_writeDigit 20 = .ok (.iadd, 1) := by decide +kernel
theorem dX5_writeDigit_21 : decode cX5_writeDigit 21 = .ok (.i2c, 1) := by decide +kernel
theorem dX5_writeDigit_22 : decode cX5_writeDigit 22 = .ok (.castore, 1) := by decide +kernel
theorem dX5_writeDigit_23 : decode cX5_writeDigit 23 = .ok (.aload_n 0, 1) := by decide +kernel
theorem dX5_writeDigit_24 : decode cX5_writeDigit 24 = .ok (.dup, 1) := by decide +kernel
theorem dX5_writeDigit_25 : decode cX5_writeDigit 25 = .ok (.getfield 58, 3) := by decide +kernel
theorem dX5_writeDigit_28 : decode cX5_writeDigit 28 = .ok (.iconst 1, 1) := by decide +kernel
theorem dX5_writeDigit_29 : decode cX5_writeDigit 29 = .ok (.iadd, 1) := by decide +kernel
theorem dX5_writeDigit_30 : decode cX5_writeDigit 30 = .ok (.putfield 58, 3) := by decide +kernel
theorem dX5_writeDigit_33 : decode cX5_writeDigit 33 = .ok (.return_, 1) := by decide +kernel
theorem dX5_isStone_0 : decode cX5_isStone 0 = .ok (.iload_n 0, 1) := by decide +kernel
theorem dX5_isStone_1 : decode cX5_isStone 1 = .ok (.ifCond .lt 13, 3) := by decide +kernel
theorem dX5_isStone_4 : decode cX5_isStone 4 = .ok (.iload_n 0, 1) := by decide +kernel
theorem dX5_isStone_5 : decode cX5_isStone 5 = .ok (.bipush 10, 2) := by decide +kernel
theorem dX5_isStone_7 : decode cX5_isStone 7 = .ok (.if_icmp .ge 7, 3) := by decide +kernel
theorem dX5_isStone_10 : decode cX5_isStone 10 = .ok (.iconst 1, 1) := by decide +kernel
theorem dX5_isStone_11 : decode cX5_isStone 11 = .ok (.goto 4, 3) := by decide +kernel
theorem dX5_isStone_14 : decode cX5_isStone 14 = .ok (.iconst 0, 1) := by decide +kernel
theorem dX5_isStone_15 : decode cX5_isStone 15 = .ok (.ireturn, 1) := by decide +kernel
theorem dJ9_max_7cf53_0 : decode cJ9_max_7cf53 0 = .ok (.iload_n 0, 1) := by decide +kernel
theorem dJ9_max_7cf53_1 : decode cJ9_max_7cf53 1 = .ok (.iload_n 1, 1) := by decide +kernel
theorem dJ9_max_7cf53_2 : decode cJ9_max_7cf53 2 = .ok (.if_icmp .lt 7, 3) := by decide +kernel
theorem dJ9_max_7cf53_5 : decode cJ9_max_7cf53 5 = .ok (.iload_n 0, 1) := by decide +kernel
theorem dJ9_max_7cf53_6 : decode cJ9_max_7cf53 6 = .ok (.goto 4, 3) := by decide +kernel
theorem dJ9_max_7cf53_9 : decode cJ9_max_7cf53 9 = .ok (.iload_n 1, 1) := by decide +kernel
theorem dJ9_max_7cf53_10 : decode cJ9_max_7cf53 10 = .ok (.ireturn, 1) := by decide +kernel
theorem dJ9_min_7cf53_0 : decode cJ9_min_7cf53 0 = .ok (.iload_n 0, 1) := by decide +kernel
theorem dJ9_min_7cf53_1 : decode cJ9_min_7cf53 1 = .ok (.iload_n 1, 1) := by decide +kernel
theorem dJ9_min_7cf53_2 : decode cJ9_min_7cf53 2 = .ok (.if_icmp .gt 7, 3) := by decide +kernel
theorem dJ9_min_7cf53_5 : decode cJ9_min_7cf53 5 = .ok (.iload_n 0, 1) := by decide +kernel
theorem dJ9_min_7cf53_6 : decode cJ9_min_7cf53 6 = .ok (.goto 4, 3) := by decide +kernel
theorem dJ9_min_7cf53_9 : decode cJ9_min_7cf53 9 = .ok (.iload_n 1, 1) := by decide +kernel
theorem dJ9_min_7cf53_10 : decode cJ9_min_7cf53 10 = .ok (.ireturn, 1) := by decide +kernel
theorem dJ0_length_8abf5_0 : decode cJ0_length_8abf5 0 = .ok (.aload_n 0, 1) := by decide +kernel
theorem dJ0_length_8abf5_1 : decode cJ0_length_8abf5 1 = .ok (.getfield 9, 3) := by decide +kernel
theorem dJ0_length_8abf5_4 : decode cJ0_length_8abf5 4 = .ok (.arraylength, 1) := by decide +kernel
theorem dJ0_length_8abf5_5 : decode cJ0_length_8abf5 5 = .ok (.aload_n 0, 1) := by decide +kernel
theorem dJ0_length_8abf5_6 : decode cJ0_length_8abf5 6 = .ok (.invokevirtual 335, 3) := by decide +kernel
theorem dJ0_length_8abf5_9 : decode cJ0_length_8abf5 9 = .ok (.ishr, 1) := by decide +kernel
theorem dJ0_length_8abf5_10 : decode cJ0_length_8abf5 10 = .ok (.ireturn, 1) := by decide +kernel
theorem dJ0_charAt_5068e_0 : decode cJ0_charAt_5068e 0 = .ok (.aload_n 0, 1) := by decide +kernel
theorem dJ0_charAt_5068e_1 : decode cJ0_charAt_5068e 1 = .ok (.invokevirtual 492, 3) := by decide +kernel
theorem dJ0_charAt_5068e_4 : decode cJ0_charAt_5068e 4 = .ok (.ifCond .eq 12, 3) := by decide +kernel
theorem dJ0_charAt_5068e_7 : decode cJ0_charAt_5068e 7 = .ok (.aload_n 0, 1) := by decide +kernel
theorem dJ0_charAt_5068e_8 : decode cJ0_charAt_5068e 8 = .ok (.getfield 9, 3) := by decide +kernel
theorem dJ0_charAt_5068e_11 : decode cJ0_charAt_5068e 11 = .ok (.iload_n 1, 1) := by decide +kernel
theorem dJ0_charAt_5068e_12 : decode cJ0_charAt_5068e 12 = .ok (.invokestatic 495, 3) := by decide +kernel
theorem dJ0_charAt_5068e_15 : decode cJ0_charAt_5068e 15 = .ok (.ireturn, 1) := by decide +kernel
theorem dJ0_charAt_5068e_16 : decode cJ0_charAt_5068e 16 = .ok (.aload_n 0, 1) := by decide +kernel
theorem dJ0_charAt_5068e_17 : decode cJ0_charAt_5068e 17 = .ok (.getfield 9, 3) := by decide +kernel
theorem dJ0_charAt_5068e_20 : decode cJ0_charAt_5068e 20 = .ok (.iload_n 1, 1) := by decide +kernel
theorem dJ0_charAt_5068e_21 : decode cJ0_charAt_5068e 21 = .ok (.invokestatic 498, 3) := by decide +kernel
theorem dJ0_charAt_5068e_24 : decode cJ0_charAt_5068e 24 = .ok (.ireturn, 1) := by decide +kernel
theorem dJ0_coder_7d493_0 : decode cJ0_coder_7d493 0 = .ok (.getstatic 38, 3) := by decide +kernel
theorem dJ0_coder_7d493_3 : decode cJ0_coder_7d493 3 = .ok (.ifCond .eq 10, 3) := by decide +kernel
theorem dJ0_coder_7d493_6 : decode cJ0_coder_7d493 6 = .ok (.aload_n 0, 1) := by decide +kernel
theorem dJ0_coder_7d493_7 : decode cJ0_coder_7d493 7 = .ok (.getfield 15, 3) := by decide +kernel
theorem dJ0_coder_7d493_10 : decode cJ0_coder_7d493 10 = .ok (.goto 4, 3) := by decide +kernel
theorem dJ0_coder_7d493_13 : decode cJ0_coder_7d493 13 = .ok (.iconst 1, 1) := by decide +kernel
theorem dJ0_coder_7d493_14 : decode cJ0_coder_7d493 14 = .ok (.ireturn, 1) := by decide +kernel
theorem dJ0_isLatin1_aae02_0 : decode cJ0_isLatin1_aae02 0 = .ok (.getstatic 38, 3) := by decide +kernel
theorem dJ0_isLatin1_aae02_3 : decode cJ0_isLatin1_aae02 3 = .ok (.ifCond .eq 14, 3) := by decide +kernel
theorem dJ0_isLatin1_aae02_6 : decode cJ0_isLatin1_aae02 6 = .ok (.aload_n 0, 1) := by decide +kernel
theorem dJ0_isLatin1_aae02_7 : decode cJ0_isLatin1_aae02 7 = .ok (.getfield 15, 3) := by decide +kernel
theorem dJ0_isLatin1_aae02_10 : decode cJ0_isLatin1_aae02 10 = .ok (.ifCond .ne 7, 3) := by decide +kernel
theorem dJ0_isLatin1_aae02_13 : decode cJ0_isLatin1_aae02 13 = .ok (.iconst 1, 1) := by decide +kernel
theorem dJ0_isLatin1_aae02_14 : decode cJ0_isLatin1_aae02 14 = .ok (.goto 4, 3) := by decide +kernel
theorem dJ0_isLatin1_aae02_17 : decode cJ0_isLatin1_aae02 17 = .ok (.iconst 0, 1) := by decide +kernel
theorem dJ0_isLatin1_aae02_18 : decode cJ0_isLatin1_aae02 18 = .ok (.ireturn, 1) := by decide +kernel
theorem dJ0_checkIndex_df160_0 : decode cJ0_checkIndex_df160 0 = .ok (.iload_n 0, 1) := by decide +kernel
theorem dJ0_checkIndex_df160_1 : decode cJ0_checkIndex_df160 1 = .ok (.iload_n 1, 1) := by decide +kernel
theorem dJ0_checkIndex_df160_2 : decode cJ0_checkIndex_df160 2 = .ok (.getstatic 1053, 3) := by decide +kernel
theorem dJ0_checkIndex_df160_5 : decode cJ0_checkIndex_df160 5 = .ok (.invokestatic 1059, 3) := by decide +kernel
theorem dJ0_checkIndex_df160_8 : decode cJ0_checkIndex_df160 8 = .ok (.pop, 1) := by decide +kernel
theorem dJ0_checkIndex_df160_9 : decode cJ0_checkIndex_df160 9 = .ok (.return_, 1) := by decide +kernel
theorem dJ1_charAt_3b067_0 : decode cJ1_charAt_3b067 0 = .ok (.iload_n 1, 1) := by decide +kernel
theorem dJ1_charAt_3b067_1 : decode cJ1_charAt_3b067 1 = .ok (.aload_n 0, 1) := by decide +kernel
theorem dJ1_charAt_3b067_2 : decode cJ1_charAt_3b067 2 = .ok (.arraylength, 1) := by decide +kernel
theorem dJ1_charAt_3b067_3 : decode cJ1_charAt_3b067 3 = .ok (.invokestatic 9, 3) := by decide +kernel
theorem dJ1_charAt_3b067_6 : decode cJ1_charAt_3b067 6 = .ok (.aload_n 0, 1) := by decide +kernel
theorem dJ1_charAt_3b067_7 : decode cJ1_charAt_3b067 7 = .ok (.iload_n 1, 1) := by decide +kernel
theorem dJ1_charAt_3b067_8 : decode cJ1_charAt_3b067 8 = .ok (.baload, 1) := by decide +kernel
theorem dJ1_charAt_3b067_9 : decode cJ1_charAt_3b067 9 = .ok (.sipush 255, 3) := by decide +kernel
theorem dJ1_charAt_3b067_12 : decode cJ1_charAt_3b067 12 = .ok (.iand, 1) := by decide +kernel
theorem dJ1_charAt_3b067_13 : decode cJ1_charAt_3b067 13 = .ok (.i2c, 1) := by decide +kernel
theorem dJ1_charAt_3b067_14 : decode cJ1_charAt_3b067 14 = .ok (.ireturn, 1) := by decide +kernel
theorem dJ2_getChar_3b067_0 : decode cJ2_getChar_3b067 0 = .ok (.getstatic 44, 3) := by decide +kernel
theorem dJ2_getChar_3b067_3 : decode cJ2_getChar_3b067 3 = .ok (.ifCond .ne 25, 3) := by decide +kernel
theorem dJ2_getChar_3b067_6 : decode cJ2_getChar_3b067 6 = .ok (.iload_n 1, 1) := by decide +kernel
theorem dJ2_getChar_3b067_7 : decode cJ2_getChar_3b067 7 = .ok (.ifCond .lt 11, 3) := by decide +kernel
theorem dJ2_getChar_3b067_10 : decode cJ2_getChar_3b067 10 = .ok (.iload_n 1, 1) := by decide +kernel
theorem dJ2_getChar_3b067_11 : decode cJ2_getChar_3b067 11 = .ok (.aload_n 0, 1) := by decide +kernel
theorem dJ2_getChar_3b067_12 : decode cJ2_getChar_3b067 12 = .ok (.invokestatic 48, 3) := by decide +kernel
theorem dJ2_getChar_3b067_15 : decode cJ2_getChar_3b067 15 = .ok (.if_icmp .lt 13, 3) := by decide +kernel
theorem dJ2_getChar_3b067_18 : decode cJ2_getChar_3b067 18 = .ok (.new 52, 3) := by decide +kernel
theorem dJ2_getChar_3b067_21 : decode cJ2_getChar_3b067 21 = .ok (.dup, 1) := by decide +kernel
theorem dJ2_getChar_3b067_22 : decode cJ2_getChar_3b067 22 = .ok (.ldc 54, 2) := by decide +kernel
theorem dJ2_getChar_3b067_24 : decode cJ2_getChar_3b067 24 = .ok (.invokespecial 56, 3) := by decide +kernel
theorem dJ2_getChar_3b067_27 : decode cJ2_getChar_3b067 27 = .ok (.athrow, 1) := by decide +kernel
theorem dJ2_getChar_3b067_28 : decode cJ2_getChar_3b067 28 = .ok (.iload_n 1, 1) := by decide +kernel
theorem dJ2_getChar_3b067_29 : decode cJ2_getChar_3b067 29 = .ok (.iconst 1, 1) := by decide +kernel
theorem dJ2_getChar_3b067_30 : decode cJ2_getChar_3b067 30 = .ok (.ishl, 1) := by decide +kernel
theorem dJ2_getChar_3b067_31 : decode cJ2_getChar_3b067 31 = .ok (.istore_n 1, 1) := by decide +kernel
theorem dJ2_getChar_3b067_32 : decode cJ2_getChar_3b067 32 = .ok (.aload_n 0, 1) := by decide +kernel
theorem dJ2_getChar_3b067_33 : decode cJ2_getChar_3b067 33 = .ok (.iload_n 1, 1) := by decide +kernel
theorem dJ2_getChar_3b067_34 : decode cJ2_getChar_3b067 34 = .ok (.iinc 1 1, 3) := by decide +kernel
theorem dJ2_getChar_3b067_37 : decode cJ2_getChar_3b067 37 = .ok (.baload, 1) := by decide +kernel
theorem dJ2_getChar_3b067_38 : decode cJ2_getChar_3b067 38 = .ok (.sipush 255, 3) := by decide +kernel
theorem dJ2_getChar_3b067_41 : decode cJ2_getChar_3b067 41 = .ok (.iand, 1) := by decide +kernel
theorem dJ2_getChar_3b067_42 : decode cJ2_getChar_3b067 42 = .ok (.getstatic 59, 3) := by decide +kernel
theorem dJ2_getChar_3b067_45 : decode cJ2_getChar_3b067 45 = .ok (.ishl, 1) := by decide +kernel
theorem dJ2_getChar_3b067_46 : decode cJ2_getChar_3b067 46 = .ok (.aload_n 0, 1) := by decide +kernel
theorem dJ2_getChar_3b067_47 : decode cJ2_getChar_3b067 47 = .ok (.iload_n 1, 1) := by decide +kernel
theorem dJ2_getChar_3b067_48 : decode cJ2_getChar_3b067 48 = .ok (.baload, 1) := by decide +kernel
theorem dJ2_getChar_3b067_49 : decode cJ2_getChar_3b067 49 = .ok (.sipush 255, 3) := by decide +kernel
theorem dJ2_getChar_3b067_52 : decode cJ2_getChar_3b067 52 = .ok (.iand, 1) := by decide +kernel
theorem dJ2_getChar_3b067_53 : decode cJ2_getChar_3b067 53 = .ok (.getstatic 63, 3) := by decide +kernel
theorem dJ2_getChar_3b067_56 : decode cJ2_getChar_3b067 56 = .ok (.ishl, 1) := by decide +kernel
theorem dJ2_getChar_3b067_57 : decode cJ2_getChar_3b067 57 = .ok (.ior, 1) := by decide +kernel
theorem dJ2_getChar_3b067_58 : decode cJ2_getChar_3b067 58 = .ok (.i2c, 1) := by decide +kernel
theorem dJ2_getChar_3b067_59 : decode cJ2_getChar_3b067 59 = .ok (.ireturn, 1) := by decide +kernel
theorem dJ2_length_9d52b_0 : decode cJ2_length_9d52b 0 = .ok (.aload_n 0, 1) := by decide +kernel
theorem dJ2_length_9d52b_1 : decode cJ2_length_9d52b 1 = .ok (.arraylength, 1) := by decide +kernel
theorem dJ2_length_9d52b_2 : decode cJ2_length_9d52b 2 = .ok (.iconst 1, 1) := by decide +kernel
theorem dJ2_length_9d52b_3 : decode cJ2_length_9d52b 3 = .ok (.ishr, 1) := by decide +kernel
theorem dJ2_length_9d52b_4 : decode cJ2_length_9d52b 4 = .ok (.ireturn, 1) := by decide +kernel
theorem dJ2_charAt_3b067_0 : decode cJ2_charAt_3b067 0 = .ok (.iload_n 1, 1) := by decide +kernel
theorem dJ2_charAt_3b067_1 : decode cJ2_charAt_3b067 1 = .ok (.aload_n 0, 1) := by decide +kernel
theorem dJ2_charAt_3b067_2 : decode cJ2_charAt_3b067 2 = .ok (.invokestatic 67, 3) := by decide +kernel
theorem dJ2_charAt_3b067_5 : decode cJ2_charAt_3b067 5 = .ok (.aload_n 0, 1) := by decide +kernel
theorem dJ2_charAt_3b067_6 : decode cJ2_charAt_3b067 6 = .ok (.iload_n 1, 1) := by decide +kernel
theorem dJ2_charAt_3b067_7 : decode cJ2_charAt_3b067 7 = .ok (.invokestatic 71, 3) := by decide +kernel
theorem dJ2_charAt_3b067_10 : decode cJ2_charAt_3b067 10 = .ok (.ireturn, 1) := by decide +kernel
theorem dJ2_checkIndex_2214a_0 : decode cJ2_checkIndex_2214a 0 = .ok (.iload_n 0, 1) := by decide +kernel
theorem dJ2_checkIndex_2214a_1 : decode cJ2_checkIndex_2214a 1 = .ok (.aload_n 1, 1) := by decide +kernel
theorem dJ2_checkIndex_2214a_2 : decode cJ2_checkIndex_2214a 2 = .ok (.invokestatic 48, 3) := by decide +kernel
theorem dJ2_checkIndex_2214a_5 : decode cJ2_checkIndex_2214a 5 = .ok (.invokestatic 414, 3) := by decide +kernel
theorem dJ2_checkIndex_2214a_8 : decode cJ2_checkIndex_2214a 8 = .ok (.return_, 1) := by decide +kernel
theorem dJ3_checkIndex_8e157_0 : decode cJ3_checkIndex_8e157 0 = .ok (.iload_n 0, 1) := by decide +kernel
theorem dJ3_checkIndex_8e157_1 : decode cJ3_checkIndex_8e157 1 = .ok (.ifCond .lt 8, 3) := by decide +kernel
theorem dJ3_checkIndex_8e157_4 : decode cJ3_checkIndex_8e157 4 = .ok (.iload_n 0, 1) := by decide +kernel
theorem dJ3_checkIndex_8e157_5 : decode cJ3_checkIndex_8e157 5 = .ok (.iload_n 1, 1) := by decide +kernel
theorem dJ3_checkIndex_8e157_6 : decode cJ3_checkIndex_8e157 6 = .ok (.if_icmp .lt 10, 3) := by decide +kernel
theorem dJ3_checkIndex_8e157_9 : decode cJ3_checkIndex_8e157 9 = .ok (.aload_n 2, 1) := by decide +kernel
theorem dJ3_checkIndex_8e157_10 : decode cJ3_checkIndex_8e157 10 = .ok (.iload_n 0, 1) := by decide +kernel
theorem dJ3_checkIndex_8e157_11 : decode cJ3_checkIndex_8e157 11 = .ok (.iload_n 1, 1) := by decide +kernel
theorem dJ3_checkIndex_8e157_12 : decode cJ3_checkIndex_8e157 12 = .ok (.invokestatic 95, 3) := by decide +kernel
theorem dJ3_checkIndex_8e157_15 : decode cJ3_checkIndex_8e157 15 = .ok (.athrow, 1) := by decide +kernel
theorem dJ3_checkIndex_8e157_16 : decode cJ3_checkIndex_8e157 16 = .ok (.iload_n 0, 1) := by decide +kernel
theorem dJ3_checkIndex_8e157_17 : decode cJ3_checkIndex_8e157 17 = .ok (.ireturn, 1) := by decide +kernel
theorem dL_at_0 : decode cL_at 0 = .ok (.iload_n 1, 1) := by decide +kernel
theorem dL_at_1 : decode cL_at 1 = .ok (.aload_n 0, 1) := by decide +kernel
theorem dL_at_2 : decode cL_at 2 = .ok (.arraylength, 1) := by decide +kernel
theorem dL_at_3 : decode cL_at 3 = .ok (.if_icmp .ge 9, 3) := by decide +kernel
theorem dL_at_6 : decode cL_at 6 = .ok (.aload_n 0, 1) := by decide +kernel
theorem dL_at_7 : decode cL_at 7 = .ok (.iload_n 1, 1) := by decide +kernel
theorem dL_at_8 : decode cL_at 8 = .ok (.iaload, 1) := by decide +kernel
theorem dL_at_9 : decode cL_at 9 = .ok (.goto 4, 3) := by decide +kernel
theorem dL_at_12 : decode cL_at 12 = .ok (.iconst 0, 1) := by decide +kernel
theorem dL_at_13 : decode cL_at 13 = .ok (.ireturn, 1) := by decide +kernel
theorem dL_some_0 : decode cL_some 0 = .ok (.iload_n 0, 1) := by decide +kernel
theorem dL_some_1 : decode cL_some 1 = .ok (.iload_n 1, 1) := by decide +kernel
theorem dL_some_2 : decode cL_some 2 = .ok (.irem, 1) := by decide +kernel
theorem dL_some_3 : decode cL_some 3 = .ok (.istore_n 2, 1) := by decide +kernel
theorem dL_some_4 : decode cL_some 4 = .ok (.iload_n 2, 1) := by decide +kernel
theorem dL_some_5 : decode cL_some 5 = .ok (.ifCond .ge 9, 3) := by decide +kernel
theorem dL_some_8 : decode cL_some 8 = .ok (.iload_n 2, 1) := by decide +kernel
theorem dL_some_9 : decode cL_some 9 = .ok (.iload_n 1, 1) := by decide +kernel
theorem dL_some_10 : decode cL_some 10 = .ok (.iadd, 1) := by decide +kernel
theorem dL_some_11 : decode cL_some 11 = .ok (.goto 4, 3) := by decide +kernel
theorem dL_some_14 : decode cL_some 14 = .ok (.iload_n 2, 1) := by decide +kernel
theorem dL_some_15 : decode cL_some 15 = .ok (.ireturn, 1) := by decide +kernel
theorem dL_height_0 : decode cL_height 0 = .ok (.aload_n 0, 1) := by decide +kernel
theorem dL_height_1 : decode cL_height 1 = .ok (.iload_n 1, 1) := by decide +kernel
theorem dL_height_2 : decode cL_height 2 = .ok (.iload_n 2, 1) := by decide +kernel
theorem dL_height_3 : decode cL_height 3 = .ok (.invokevirtual 7, 3) := by decide +kernel
theorem dL_height_6 : decode cL_height 6 = .ok (.ireturn, 1) := by decide +kernel
theorem dL_height_7 : decode cL_height 7 = .ok (.astore_n 3, 1) := by decide +kernel
theorem dL_height_8 : decode cL_height 8 = .ok (.sipush (-1001), 3) := by decide +kernel
theorem dL_height_11 : decode cL_height 11 = .ok (.ireturn, 1) := by decide +kernel
theorem dL_height_12 : decode cL_height 12 = .ok (.astore_n 3, 1) := by decide +kernel
theorem dL_height_13 : decode cL_height 13 = .ok (.sipush (-1002), 3) := by decide +kernel
theorem dL_height_16 : decode cL_height 16 = .ok (.ireturn, 1) := by decide +kernel
theorem dL_height_17 : decode cL_height 17 = .ok (.astore_n 3, 1) := by decide +kernel
theorem dL_height_18 : decode cL_height 18 = .ok (.sipush (-1003), 3) := by decide +kernel
theorem dL_height_21 : decode cL_height 21 = .ok (.ireturn, 1) := by decide +kernel
theorem dL_rain_0 : decode cL_rain 0 = .ok (.aload_n 0, 1) := by decide +kernel
theorem dL_rain_1 : decode cL_rain 1 = .ok (.iload_n 1, 1) := by decide +kernel
theorem dL_rain_2 : decode cL_rain 2 = .ok (.invokevirtual 19, 3) := by decide +kernel
theorem dL_rain_5 : decode cL_rain 5 = .ok (.ireturn, 1) := by decide +kernel
theorem dL_rain_6 : decode cL_rain 6 = .ok (.astore_n 2, 1) := by decide +kernel
theorem dL_rain_7 : decode cL_rain 7 = .ok (.sipush (-1001), 3) := by decide +kernel
theorem dL_rain_10 : decode cL_rain 10 = .ok (.ireturn, 1) := by decide +kernel
theorem dL_letters_0 : decode cL_letters 0 = .ok (.aload_n 0, 1) := by decide +kernel
theorem dL_letters_1 : decode cL_letters 1 = .ok (.iload_n 1, 1) := by decide +kernel
theorem dL_letters_2 : decode cL_letters 2 = .ok (.invokevirtual 23, 3) := by decide +kernel
theorem dL_letters_5 : decode cL_letters 5 = .ok (.ireturn, 1) := by decide +kernel
theorem dL_letters_6 : decode cL_letters 6 = .ok (.astore_n 2, 1) := by decide +kernel
theorem dL_letters_7 : decode cL_letters 7 = .ok (.sipush (-1001), 3) := by decide +kernel
theorem dL_letters_10 : decode cL_letters 10 = .ok (.ireturn, 1) := by decide +kernel
theorem dL_letters_11 : decode cL_letters 11 = .ok (.astore_n 2, 1) := by decide +kernel
theorem dL_letters_12 : decode cL_letters 12 = .ok (.sipush (-1002), 3) := by decide +kernel
theorem dL_letters_15 : decode cL_letters 15 = .ok (.ireturn, 1) := by decide +kernel
theorem dL_stoneOf_0 : decode cL_stoneOf 0 = .ok (.aload_n 0, 1) := by decide +kernel
theorem dL_stoneOf_1 : decode cL_stoneOf 1 = .ok (.iload_n 1, 1) := by decide +kernel
theorem dL_stoneOf_2 : decode cL_stoneOf 2 = .ok (.iload_n 2, 1) := by decide +kernel
theorem dL_stoneOf_3 : decode cL_stoneOf 3 = .ok (.invokevirtual 26, 3) := by decide +kernel
theorem dL_stoneOf_6 : decode cL_stoneOf 6 = .ok (.ireturn, 1) := by decide +kernel
theorem dL_stoneOf_7 : decode cL_stoneOf 7 = .ok (.astore_n 3, 1) := by decide +kernel
theorem dL_stoneOf_8 : decode cL_stoneOf 8 = .ok (.sipush (-1001), 3) := by decide +kernel
theorem dL_stoneOf_11 : decode cL_stoneOf 11 = .ok (.ireturn, 1) := by decide +kernel
theorem dL_stoneOf_12 : decode cL_stoneOf 12 = .ok (.astore_n 3, 1) := by decide +kernel
theorem dL_stoneOf_13 : decode cL_stoneOf 13 = .ok (.sipush (-1002), 3) := by decide +kernel
theorem dL_stoneOf_16 : decode cL_stoneOf 16 = .ok (.ireturn, 1) := by decide +kernel
theorem dL_flood_0 : decode cL_flood 0 = .ok (.aload_n 0, 1) := by decide +kernel
theorem dL_flood_1 : decode cL_flood 1 = .ok (.iload_n 1, 1) := by decide +kernel
theorem dL_flood_2 : decode cL_flood 2 = .ok (.invokevirtual 29, 3) := by decide +kernel
theorem dL_flood_5 : decode cL_flood 5 = .ok (.ireturn, 1) := by decide +kernel
theorem dL_flood_6 : decode cL_flood 6 = .ok (.astore_n 2, 1) := by decide +kernel
theorem dL_flood_7 : decode cL_flood 7 = .ok (.sipush (-1001), 3) := by decide +kernel
theorem dL_flood_10 : decode cL_flood 10 = .ok (.ireturn, 1) := by decide +kernel
theorem dL_floodAgain_0 : decode cL_floodAgain 0 = .ok (.aload_n 0, 1) := by decide +kernel
theorem dL_floodAgain_1 : decode cL_floodAgain 1 = .ok (.iload_n 1, 1) := by decide +kernel
theorem dL_floodAgain_2 : decode cL_floodAgain 2 = .ok (.invokevirtual 32, 3) := by decide +kernel
theorem dL_floodAgain_5 : decode cL_floodAgain 5 = .ok (.ireturn, 1) := by decide +kernel
theorem dL_floodAgain_6 : decode cL_floodAgain 6 = .ok (.astore_n 2, 1) := by decide +kernel
theorem dL_floodAgain_7 : decode cL_floodAgain 7 = .ok (.sipush (-1001), 3) := by decide +kernel
theorem dL_floodAgain_10 : decode cL_floodAgain 10 = .ok (.ireturn, 1) := by decide +kernel
theorem dL_clearIn_0 : decode cL_clearIn 0 = .ok (.aload_n 0, 1) := by decide +kernel
theorem dL_clearIn_1 : decode cL_clearIn 1 = .ok (.invokevirtual 35, 3) := by decide +kernel
theorem dL_clearIn_4 : decode cL_clearIn 4 = .ok (.ireturn, 1) := by decide +kernel
theorem dL_clearIn_5 : decode cL_clearIn 5 = .ok (.astore_n 1, 1) := by decide +kernel
theorem dL_clearIn_6 : decode cL_clearIn 6 = .ok (.sipush (-1001), 3) := by decide +kernel
theorem dL_clearIn_9 : decode cL_clearIn 9 = .ok (.ireturn, 1) := by decide +kernel
theorem dL_traveller_0 : decode cL_traveller 0 = .ok (.aload_n 0, 1) := by decide +kernel
theorem dL_traveller_1 : decode cL_traveller 1 = .ok (.iload_n 1, 1) := by decide +kernel
theorem dL_traveller_2 : decode cL_traveller 2 = .ok (.invokevirtual 41, 3) := by decide +kernel
theorem dL_traveller_5 : decode cL_traveller 5 = .ok (.ireturn, 1) := by decide +kernel
theorem dL_traveller_6 : decode cL_traveller 6 = .ok (.astore_n 2, 1) := by decide +kernel
theorem dL_traveller_7 : decode cL_traveller 7 = .ok (.sipush (-1001), 3) := by decide +kernel
theorem dL_traveller_10 : decode cL_traveller 10 = .ok (.ireturn, 1) := by decide +kernel
theorem dL_traveller_11 : decode cL_traveller 11 = .ok (.astore_n 2, 1) := by decide +kernel
theorem dL_traveller_12 : decode cL_traveller 12 = .ok (.sipush (-1002), 3) := by decide +kernel
theorem dL_traveller_15 : decode cL_traveller 15 = .ok (.ireturn, 1) := by decide +kernel
theorem dL_travellerOf_0 : decode cL_travellerOf 0 = .ok (.aload_n 0, 1) := by decide +kernel
theorem dL_travellerOf_1 : decode cL_travellerOf 1 = .ok (.iload_n 1, 1) := by decide +kernel
theorem dL_travellerOf_2 : decode cL_travellerOf 2 = .ok (.iload_n 2, 1) := by decide +kernel
theorem dL_travellerOf_3 : decode cL_travellerOf 3 = .ok (.invokevirtual 44, 3) := by decide +kernel
theorem dL_travellerOf_6 : decode cL_travellerOf 6 = .ok (.ireturn, 1) := by decide +kernel
theorem dL_travellerOf_7 : decode cL_travellerOf 7 = .ok (.astore_n 3, 1) := by decide +kernel
theorem dL_travellerOf_8 : decode cL_travellerOf 8 = .ok (.sipush (-1001), 3) := by decide +kernel
theorem dL_travellerOf_11 : decode cL_travellerOf 11 = .ok (.ireturn, 1) := by decide +kernel
theorem dL_travellerOf_12 : decode cL_travellerOf 12 = .ok (.astore_n 3, 1) := by decide +kernel
theorem dL_travellerOf_13 : decode cL_travellerOf 13 = .ok (.sipush (-1002), 3) := by decide +kernel
theorem dL_travellerOf_16 : decode cL_travellerOf 16 = .ok (.ireturn, 1) := by decide +kernel
theorem dL_fee_0 : decode cL_fee 0 = .ok (.aload_n 0, 1) := by decide +kernel
theorem dL_fee_1 : decode cL_fee 1 = .ok (.iload_n 1, 1) := by decide +kernel
theorem dL_fee_2 : decode cL_fee 2 = .ok (.invokevirtual 47, 3) := by decide +kernel
theorem dL_fee_5 : decode cL_fee 5 = .ok (.ireturn, 1) := by decide +kernel
theorem dL_fee_6 : decode cL_fee 6 = .ok (.astore_n 2, 1) := by decide +kernel
theorem dL_fee_7 : decode cL_fee 7 = .ok (.sipush (-1001), 3) := by decide +kernel
theorem dL_fee_10 : decode cL_fee 10 = .ok (.ireturn, 1) := by decide +kernel
theorem dL_setOut_0 : decode cL_setOut 0 = .ok (.aload_n 0, 1) := by decide +kernel
theorem dL_setOut_1 : decode cL_setOut 1 = .ok (.iload_n 1, 1) := by decide +kernel
theorem dL_setOut_2 : decode cL_setOut 2 = .ok (.invokevirtual 50, 3) := by decide +kernel
theorem dL_setOut_5 : decode cL_setOut 5 = .ok (.ireturn, 1) := by decide +kernel
theorem dL_setOut_6 : decode cL_setOut 6 = .ok (.astore_n 2, 1) := by decide +kernel
theorem dL_setOut_7 : decode cL_setOut 7 = .ok (.sipush (-1001), 3) := by decide +kernel
theorem dL_setOut_10 : decode cL_setOut 10 = .ok (.ireturn, 1) := by decide +kernel
theorem dL_setOut_11 : decode cL_setOut 11 = .ok (.astore_n 2, 1) := by decide +kernel
theorem dL_setOut_12 : decode cL_setOut 12 = .ok (.sipush (-1002), 3) := by decide +kernel
theorem dL_setOut_15 : decode cL_setOut 15 = .ok (.ireturn, 1) := by decide +kernel
theorem dL_stop_0 : decode cL_stop 0 = .ok (.aload_n 0, 1) := by decide +kernel
theorem dL_stop_1 : decode cL_stop 1 = .ok (.iload_n 1, 1) := by decide +kernel
theorem dL_stop_2 : decode cL_stop 2 = .ok (.invokevirtual 53, 3) := by decide +kernel
theorem dL_stop_5 : decode cL_stop 5 = .ok (.ireturn, 1) := by decide +kernel
theorem dL_stop_6 : decode cL_stop 6 = .ok (.astore_n 2, 1) := by decide +kernel
theorem dL_stop_7 : decode cL_stop 7 = .ok (.sipush (-1001), 3) := by decide +kernel
theorem dL_stop_10 : decode cL_stop 10 = .ok (.ireturn, 1) := by decide +kernel
theorem dL_stop_11 : decode cL_stop 11 = .ok (.astore_n 2, 1) := by decide +kernel
theorem dL_stop_12 : decode cL_stop 12 = .ok (.sipush (-1002), 3) := by decide +kernel
theorem dL_stop_15 : decode cL_stop 15 = .ok (.ireturn, 1) := by decide +kernel
theorem dL_go_0 : decode cL_go 0 = .ok (.aload_n 0, 1) := by decide +kernel
theorem dL_go_1 : decode cL_go 1 = .ok (.iload_n 1, 1) := by decide +kernel
theorem dL_go_2 : decode cL_go 2 = .ok (.invokevirtual 56, 3) := by decide +kernel
theorem dL_go_5 : decode cL_go 5 = .ok (.ireturn, 1) := by decide +kernel
theorem dL_go_6 : decode cL_go 6 = .ok (.astore_n 2, 1) := by decide +kernel
theorem dL_go_7 : decode cL_go 7 = .ok (.sipush (-1001), 3) := by decide +kernel
theorem dL_go_10 : decode cL_go 10 = .ok (.ireturn, 1) := by decide +kernel
theorem dL_go_11 : decode cL_go 11 = .ok (.astore_n 2, 1) := by decide +kernel
theorem dL_go_12 : decode cL_go 12 = .ok (.sipush (-1002), 3) := by decide +kernel
theorem dL_go_15 : decode cL_go 15 = .ok (.ireturn, 1) := by decide +kernel
theorem dL_leave_0 : decode cL_leave 0 = .ok (.aload_n 0, 1) := by decide +kernel
theorem dL_leave_1 : decode cL_leave 1 = .ok (.iload_n 1, 1) := by decide +kernel
theorem dL_leave_2 : decode cL_leave 2 = .ok (.invokevirtual 59, 3) := by decide +kernel
theorem dL_leave_5 : decode cL_leave 5 = .ok (.ireturn, 1) := by decide +kernel
theorem dL_leave_6 : decode cL_leave 6 = .ok (.astore_n 2, 1) := by decide +kernel
theorem dL_leave_7 : decode cL_leave 7 = .ok (.sipush (-1001), 3) := by decide +kernel
theorem dL_leave_10 : decode cL_leave 10 = .ok (.ireturn, 1) := by decide +kernel
theorem dL_leave_11 : decode cL_leave 11 = .ok (.astore_n 2, 1) := by decide +kernel
theorem dL_leave_12 : decode cL_leave 12 = .ok (.sipush (-1002), 3) := by decide +kernel
theorem dL_leave_15 : decode cL_leave 15 = .ok (.ireturn, 1) := by decide +kernel
theorem dL_pass_0 : decode cL_pass 0 = .ok (.aload_n 0, 1) := by decide +kernel
theorem dL_pass_1 : decode cL_pass 1 = .ok (.iload_n 1, 1) := by decide +kernel
theorem dL_pass_2 : decode cL_pass 2 = .ok (.invokevirtual 62, 3) := by decide +kernel
theorem dL_pass_5 : decode cL_pass 5 = .ok (.ireturn, 1) := by decide +kernel
theorem dL_pass_6 : decode cL_pass 6 = .ok (.astore_n 2, 1) := by decide +kernel
theorem dL_pass_7 : decode cL_pass 7 = .ok (.sipush (-1001), 3) := by decide +kernel
theorem dL_pass_10 : decode cL_pass 10 = .ok (.ireturn, 1) := by decide +kernel
theorem dL_crossedIn_0 : decode cL_crossedIn 0 = .ok (.aload_n 0, 1) := by decide +kernel
theorem dL_crossedIn_1 : decode cL_crossedIn 1 = .ok (.iload_n 1, 1) := by decide +kernel
theorem dL_crossedIn_2 : decode cL_crossedIn 2 = .ok (.invokevirtual 65, 3) := by decide +kernel
theorem dL_crossedIn_5 : decode cL_crossedIn 5 = .ok (.ireturn, 1) := by decide +kernel
theorem dL_crossedIn_6 : decode cL_crossedIn 6 = .ok (.astore_n 2, 1) := by decide +kernel
theorem dL_crossedIn_7 : decode cL_crossedIn 7 = .ok (.sipush (-1001), 3) := by decide +kernel
theorem dL_crossedIn_10 : decode cL_crossedIn 10 = .ok (.ireturn, 1) := by decide +kernel
theorem dL_crossedIn_11 : decode cL_crossedIn 11 = .ok (.astore_n 2, 1) := by decide +kernel
theorem dL_crossedIn_12 : decode cL_crossedIn 12 = .ok (.sipush (-1002), 3) := by decide +kernel
theorem dL_crossedIn_15 : decode cL_crossedIn 15 = .ok (.ireturn, 1) := by decide +kernel
theorem dL_wetSteps_0 : decode cL_wetSteps 0 = .ok (.aload_n 0, 1) := by decide +kernel
theorem dL_wetSteps_1 : decode cL_wetSteps 1 = .ok (.iload_n 1, 1) := by decide +kernel
theorem dL_wetSteps_2 : decode cL_wetSteps 2 = .ok (.invokevirtual 68, 3) := by decide +kernel
theorem dL_wetSteps_5 : decode cL_wetSteps 5 = .ok (.ireturn, 1) := by decide +kernel
theorem dL_wetSteps_6 : decode cL_wetSteps 6 = .ok (.astore_n 2, 1) := by decide +kernel
theorem dL_wetSteps_7 : decode cL_wetSteps 7 = .ok (.sipush (-1001), 3) := by decide +kernel
theorem dL_wetSteps_10 : decode cL_wetSteps 10 = .ok (.ireturn, 1) := by decide +kernel
theorem dL_wetSteps_11 : decode cL_wetSteps 11 = .ok (.astore_n 2, 1) := by decide +kernel
theorem dL_wetSteps_12 : decode cL_wetSteps 12 = .ok (.sipush (-1002), 3) := by decide +kernel
theorem dL_wetSteps_15 : decode cL_wetSteps 15 = .ok (.ireturn, 1) := by decide +kernel
theorem dL_type_0 : decode cL_type 0 = .ok (.aload_n 0, 1) := by decide +kernel
theorem dL_type_1 : decode cL_type 1 = .ok (.iload_n 1, 1) := by decide +kernel
theorem dL_type_2 : decode cL_type 2 = .ok (.invokevirtual 71, 3) := by decide +kernel
theorem dL_type_5 : decode cL_type 5 = .ok (.ireturn, 1) := by decide +kernel
theorem dL_type_6 : decode cL_type 6 = .ok (.astore_n 2, 1) := by decide +kernel
theorem dL_type_7 : decode cL_type 7 = .ok (.sipush (-1001), 3) := by decide +kernel
theorem dL_type_10 : decode cL_type 10 = .ok (.ireturn, 1) := by decide +kernel
theorem dL_ask_0 : decode cL_ask 0 = .ok (.aload_n 0, 1) := by decide +kernel
theorem dL_ask_1 : decode cL_ask 1 = .ok (.invokevirtual 77, 3) := by decide +kernel
theorem dL_ask_4 : decode cL_ask 4 = .ok (.ireturn, 1) := by decide +kernel
theorem dL_ask_5 : decode cL_ask 5 = .ok (.astore_n 1, 1) := by decide +kernel
theorem dL_ask_6 : decode cL_ask 6 = .ok (.sipush (-1001), 3) := by decide +kernel
theorem dL_ask_9 : decode cL_ask 9 = .ok (.ireturn, 1) := by decide +kernel
theorem dL_answer_0 : decode cL_answer 0 = .ok (.aload_n 0, 1) := by decide +kernel
theorem dL_answer_1 : decode cL_answer 1 = .ok (.iload_n 1, 1) := by decide +kernel
theorem dL_answer_2 : decode cL_answer 2 = .ok (.invokevirtual 80, 3) := by decide +kernel
theorem dL_answer_5 : decode cL_answer 5 = .ok (.ireturn, 1) := by decide +kernel
theorem dL_answer_6 : decode cL_answer 6 = .ok (.astore_n 2, 1) := by decide +kernel
theorem dL_answer_7 : decode cL_answer 7 = .ok (.sipush (-1001), 3) := by decide +kernel
theorem dL_answer_10 : decode cL_answer 10 = .ok (.ireturn, 1) := by decide +kernel
theorem dL_errorPosition_0 : decode cL_errorPosition 0 = .ok (.aload_n 0, 1) := by decide +kernel
theorem dL_errorPosition_1 : decode cL_errorPosition 1 = .ok (.invokevirtual 83, 3) := by decide +kernel
theorem dL_errorPosition_4 : decode cL_errorPosition 4 = .ok (.ireturn, 1) := by decide +kernel
theorem dL_errorPosition_5 : decode cL_errorPosition 5 = .ok (.astore_n 1, 1) := by decide +kernel
theorem dL_errorPosition_6 : decode cL_errorPosition 6 = .ok (.sipush (-1001), 3) := by decide +kernel
theorem dL_errorPosition_9 : decode cL_errorPosition 9 = .ok (.ireturn, 1) := by decide +kernel
theorem dL_refusal_0 : decode cL_refusal 0 = .ok (.aload_n 0, 1) := by decide +kernel
theorem dL_refusal_1 : decode cL_refusal 1 = .ok (.iload_n 1, 1) := by decide +kernel
theorem dL_refusal_2 : decode cL_refusal 2 = .ok (.invokevirtual 86, 3) := by decide +kernel
theorem dL_refusal_5 : decode cL_refusal 5 = .ok (.ireturn, 1) := by decide +kernel
theorem dL_refusal_6 : decode cL_refusal 6 = .ok (.astore_n 2, 1) := by decide +kernel
theorem dL_refusal_7 : decode cL_refusal 7 = .ok (.sipush (-1001), 3) := by decide +kernel
theorem dL_refusal_10 : decode cL_refusal 10 = .ok (.ireturn, 1) := by decide +kernel
theorem dL_written_0 : decode cL_written 0 = .ok (.aload_n 0, 1) := by decide +kernel
theorem dL_written_1 : decode cL_written 1 = .ok (.iload_n 1, 1) := by decide +kernel
theorem dL_written_2 : decode cL_written 2 = .ok (.invokevirtual 90, 3) := by decide +kernel
theorem dL_written_5 : decode cL_written 5 = .ok (.ireturn, 1) := by decide +kernel
theorem dL_written_6 : decode cL_written 6 = .ok (.astore_n 2, 1) := by decide +kernel
theorem dL_written_7 : decode cL_written 7 = .ok (.sipush (-1001), 3) := by decide +kernel
theorem dL_written_10 : decode cL_written 10 = .ok (.ireturn, 1) := by decide +kernel
theorem dL_account_0 : decode cL_account 0 = .ok (.aload_n 0, 1) := by decide +kernel
theorem dL_account_1 : decode cL_account 1 = .ok (.iload_n 1, 1) := by decide +kernel
theorem dL_account_2 : decode cL_account 2 = .ok (.invokevirtual 94, 3) := by decide +kernel
theorem dL_account_5 : decode cL_account 5 = .ok (.ireturn, 1) := by decide +kernel
theorem dL_account_6 : decode cL_account 6 = .ok (.astore_n 2, 1) := by decide +kernel
theorem dL_account_7 : decode cL_account 7 = .ok (.sipush (-1001), 3) := by decide +kernel
theorem dL_account_10 : decode cL_account 10 = .ok (.ireturn, 1) := by decide +kernel
theorem dL_meanWet_0 : decode cL_meanWet 0 = .ok (.aload_n 0, 1) := by decide +kernel
theorem dL_meanWet_1 : decode cL_meanWet 1 = .ok (.invokevirtual 97, 3) := by decide +kernel
theorem dL_meanWet_4 : decode cL_meanWet 4 = .ok (.dreturn, 1) := by decide +kernel
theorem dL_meanWet_5 : decode cL_meanWet 5 = .ok (.astore_n 1, 1) := by decide +kernel
theorem dL_meanWet_6 : decode cL_meanWet 6 = .ok (.ldc2_w 103, 3) := by decide +kernel
theorem dL_meanWet_9 : decode cL_meanWet 9 = .ok (.dreturn, 1) := by decide +kernel
theorem dL_crossingShare_0 : decode cL_crossingShare 0 = .ok (.aload_n 0, 1) := by decide +kernel
theorem dL_crossingShare_1 : decode cL_crossingShare 1 = .ok (.invokevirtual 105, 3) := by decide +kernel
theorem dL_crossingShare_4 : decode cL_crossingShare 4 = .ok (.freturn, 1) := by decide +kernel
theorem dL_crossingShare_5 : decode cL_crossingShare 5 = .ok (.astore_n 1, 1) := by decide +kernel
theorem dL_crossingShare_6 : decode cL_crossingShare 6 = .ok (.ldc 109, 2) := by decide +kernel
theorem dL_crossingShare_8 : decode cL_crossingShare 8 = .ok (.freturn, 1) := by decide +kernel
theorem dL_undo_0 : decode cL_undo 0 = .ok (.aload_n 0, 1) := by decide +kernel
theorem dL_undo_1 : decode cL_undo 1 = .ok (.invokevirtual 110, 3) := by decide +kernel
theorem dL_undo_4 : decode cL_undo 4 = .ok (.ireturn, 1) := by decide +kernel
theorem dL_undo_5 : decode cL_undo 5 = .ok (.astore_n 1, 1) := by decide +kernel
theorem dL_undo_6 : decode cL_undo 6 = .ok (.sipush (-1001), 3) := by decide +kernel
theorem dL_undo_9 : decode cL_undo 9 = .ok (.ireturn, 1) := by decide +kernel
theorem dL_restore_0 : decode cL_restore 0 = .ok (.aload_n 0, 1) := by decide +kernel
theorem dL_restore_1 : decode cL_restore 1 = .ok (.invokevirtual 113, 3) := by decide +kernel
theorem dL_restore_4 : decode cL_restore 4 = .ok (.ireturn, 1) := by decide +kernel
theorem dL_restore_5 : decode cL_restore 5 = .ok (.astore_n 1, 1) := by decide +kernel
theorem dL_restore_6 : decode cL_restore 6 = .ok (.sipush (-1001), 3) := by decide +kernel
theorem dL_restore_9 : decode cL_restore 9 = .ok (.ireturn, 1) := by decide +kernel
theorem dL_asks_0 : decode cL_asks 0 = .ok (.iconst 0, 1) := by decide +kernel
theorem dL_asks_1 : decode cL_asks 1 = .ok (.istore_n 2, 1) := by decide +kernel
theorem dL_asks_2 : decode cL_asks 2 = .ok (.iload_n 2, 1) := by decide +kernel
theorem dL_asks_3 : decode cL_asks 3 = .ok (.aload_n 1, 1) := by decide +kernel
theorem dL_asks_4 : decode cL_asks 4 = .ok (.invokevirtual 116, 3) := by decide +kernel
theorem dL_asks_7 : decode cL_asks 7 = .ok (.if_icmp .ge 27, 3) := by decide +kernel
theorem dL_asks_10 : decode cL_asks 10 = .ok (.aload_n 0, 1) := by decide +kernel
theorem dL_asks_11 : decode cL_asks 11 = .ok (.aload_n 1, 1) := by decide +kernel
theorem dL_asks_12 : decode cL_asks 12 = .ok (.iload_n 2, 1) := by decide +kernel
theorem dL_asks_13 : decode cL_asks 13 = .ok (.invokevirtual 121, 3) := by decide +kernel
theorem dL_asks_16 : decode cL_asks 16 = .ok (.invokestatic 124, 3) := by decide +kernel
theorem dL_asks_19 : decode cL_asks 19 = .ok (.iload_n 2, 1) := by decide +kernel
theorem dL_asks_20 : decode cL_asks 20 = .ok (.iconst 1, 1) := by decide +kernel
theorem dL_asks_21 : decode cL_asks 21 = .ok (.iadd, 1) := by decide +kernel
theorem dL_asks_22 : decode cL_asks 22 = .ok (.if_icmp .eq 6, 3) := by decide +kernel
theorem dL_asks_25 : decode cL_asks 25 = .ok (.bipush (-99), 2) := by decide +kernel
theorem dL_asks_27 : decode cL_asks 27 = .ok (.ireturn, 1) := by decide +kernel
theorem dL_asks_28 : decode cL_asks 28 = .ok (.iinc 2 1, 3) := by decide +kernel
theorem dL_asks_31 : decode cL_asks 31 = .ok (.goto (-29), 3) := by decide +kernel
theorem dL_asks_34 : decode cL_asks 34 = .ok (.aload_n 0, 1) := by decide +kernel
theorem dL_asks_35 : decode cL_asks 35 = .ok (.invokestatic 129, 3) := by decide +kernel
theorem dL_asks_38 : decode cL_asks 38 = .ok (.ireturn, 1) := by decide +kernel
theorem dL_is_0 : decode cL_is 0 = .ok (.aload_n 0, 1) := by decide +kernel
theorem dL_is_1 : decode cL_is 1 = .ok (.iconst 0, 1) := by decide +kernel
theorem dL_is_2 : decode cL_is 2 = .ok (.invokestatic 132, 3) := by decide +kernel
theorem dL_is_5 : decode cL_is 5 = .ok (.iload_n 1, 1) := by decide +kernel
theorem dL_is_6 : decode cL_is 6 = .ok (.if_icmp .ne 16, 3) := by decide +kernel
theorem dL_is_9 : decode cL_is 9 = .ok (.aload_n 0, 1) := by decide +kernel
theorem dL_is_10 : decode cL_is 10 = .ok (.iconst 1, 1) := by decide +kernel
theorem dL_is_11 : decode cL_is 11 = .ok (.invokestatic 132, 3) := by decide +kernel
theorem dL_is_14 : decode cL_is 14 = .ok (.iload_n 2, 1) := by decide +kernel
theorem dL_is_15 : decode cL_is 15 = .ok (.if_icmp .ne 7, 3) := by decide +kernel
theorem dL_is_18 : decode cL_is 18 = .ok (.iconst 1, 1) := by decide +kernel
theorem dL_is_19 : decode cL_is 19 = .ok (.goto 4, 3) := by decide +kernel
theorem dL_is_22 : decode cL_is 22 = .ok (.iconst 0, 1) := by decide +kernel
theorem dL_is_23 : decode cL_is 23 = .ok (.ireturn, 1) := by decide +kernel
theorem dL_makes_0 : decode cL_makes 0 = .ok (.iconst 0, 1) := by decide +kernel
theorem dL_makes_1 : decode cL_makes 1 = .ok (.istore_n 2, 1) := by decide +kernel
theorem dL_makes_2 : decode cL_makes 2 = .ok (.iload_n 2, 1) := by decide +kernel
theorem dL_makes_3 : decode cL_makes 3 = .ok (.bipush 10, 2) := by decide +kernel
theorem dL_makes_5 : decode cL_makes 5 = .ok (.if_icmp .ge 33, 3) := by decide +kernel
theorem dL_makes_8 : decode cL_makes 8 = .ok (.aload_n 0, 1) := by decide +kernel
theorem dL_makes_9 : decode cL_makes 9 = .ok (.iload_n 2, 1) := by decide +kernel
theorem dL_makes_10 : decode cL_makes 10 = .ok (.iconst 5, 1) := by decide +kernel
theorem dL_makes_11 : decode cL_makes 11 = .ok (.aload_n 1, 1) := by decide +kernel
theorem dL_makes_12 : decode cL_makes 12 = .ok (.iload_n 2, 1) := by decide +kernel
theorem dL_makes_13 : decode cL_makes 13 = .ok (.invokestatic 141, 3) := by decide +kernel
theorem dL_makes_16 : decode cL_makes 16 = .ok (.bipush 9, 2) := by decide +kernel
theorem dL_makes_18 : decode cL_makes 18 = .ok (.invokestatic 145, 3) := by decide +kernel
theorem dL_makes_21 : decode cL_makes 21 = .ok (.iadd, 1) := by decide +kernel
theorem dL_makes_22 : decode cL_makes 22 = .ok (.invokestatic 148, 3) := by decide +kernel
theorem dL_makes_25 : decode cL_makes 25 = .ok (.bipush 10, 2) := by decide +kernel
theorem dL_makes_27 : decode cL_makes 27 = .ok (.if_icmp .eq 5, 3) := by decide +kernel
theorem dL_makes_30 : decode cL_makes 30 = .ok (.iconst 0, 1) := by decide +kernel
theorem dL_makes_31 : decode cL_makes 31 = .ok (.ireturn, 1) := by decide +kernel
theorem dL_makes_32 : decode cL_makes 32 = .ok (.iinc 2 1, 3) := by decide +kernel
theorem dL_makes_35 : decode cL_makes 35 = .ok (.goto (-33), 3) := by decide +kernel
theorem dL_makes_38 : decode cL_makes 38 = .ok (.bipush 7, 2) := by decide +kernel
theorem dL_makes_40 : decode cL_makes 40 = .ok (.newarray .int, 2) := by decide +kernel
theorem dL_makes_42 : decode cL_makes 42 = .ok (.dup, 1) := by decide +kernel
theorem dL_makes_43 : decode cL_makes 43 = .ok (.iconst 0, 1) := by decide +kernel
theorem dL_makes_44 : decode cL_makes 44 = .ok (.iconst 0, 1) := by decide +kernel
theorem dL_makes_45 : decode cL_makes 45 = .ok (.iastore, 1) := by decide +kernel
theorem dL_makes_46 : decode cL_makes 46 = .ok (.dup, 1) := by decide +kernel
theorem dL_makes_47 : decode cL_makes 47 = .ok (.iconst 1, 1) := by decide +kernel
theorem dL_makes_48 : decode cL_makes 48 = .ok (.iconst 2, 1) := by decide +kernel
theorem dL_makes_49 : decode cL_makes 49 = .ok (.iastore, 1) := by decide +kernel
theorem dL_makes_50 : decode cL_makes 50 = .ok (.dup, 1) := by decide +kernel
theorem dL_makes_51 : decode cL_makes 51 = .ok (.iconst 2, 1) := by decide +kernel
theorem dL_makes_52 : decode cL_makes 52 = .ok (.iconst 3, 1) := by decide +kernel
theorem dL_makes_53 : decode cL_makes 53 = .ok (.iastore, 1) := by decide +kernel
theorem dL_makes_54 : decode cL_makes 54 = .ok (.dup, 1) := by decide +kernel
theorem dL_makes_55 : decode cL_makes 55 = .ok (.iconst 3, 1) := by decide +kernel
theorem dL_makes_56 : decode cL_makes 56 = .ok (.iconst 5, 1) := by decide +kernel
theorem dL_makes_57 : decode cL_makes 57 = .ok (.iastore, 1) := by decide +kernel
theorem dL_makes_58 : decode cL_makes 58 = .ok (.dup, 1) := by decide +kernel
theorem dL_makes_59 : decode cL_makes 59 = .ok (.iconst 4, 1) := by decide +kernel
theorem dL_makes_60 : decode cL_makes 60 = .ok (.bipush 8, 2) := by decide +kernel
theorem dL_makes_62 : decode cL_makes 62 = .ok (.iastore, 1) := by decide +kernel
theorem dL_makes_63 : decode cL_makes 63 = .ok (.dup, 1) := by decide +kernel
theorem dL_makes_64 : decode cL_makes 64 = .ok (.iconst 5, 1) := by decide +kernel
theorem dL_makes_65 : decode cL_makes 65 = .ok (.bipush 9, 2) := by decide +kernel
theorem dL_makes_67 : decode cL_makes 67 = .ok (.iastore, 1) := by decide +kernel
theorem dL_makes_68 : decode cL_makes 68 = .ok (.dup, 1) := by decide +kernel
theorem dL_makes_69 : decode cL_makes 69 = .ok (.bipush 6, 2) := by decide +kernel
theorem dL_makes_71 : decode cL_makes 71 = .ok (.bipush 20, 2) := by decide +kernel
theorem dL_makes_73 : decode cL_makes 73 = .ok (.iastore, 1) := by decide +kernel
theorem dL_makes_74 : decode cL_makes 74 = .ok (.astore_n 2, 1) := by decide +kernel
theorem dL_makes_75 : decode cL_makes 75 = .ok (.iconst 0, 1) := by decide +kernel
theorem dL_makes_76 : decode cL_makes 76 = .ok (.istore_n 3, 1) := by decide +kernel
theorem dL_makes_77 : decode cL_makes 77 = .ok (.iload_n 3, 1) := by decide +kernel
theorem dL_makes_78 : decode cL_makes 78 = .ok (.bipush 7, 2) := by decide +kernel
theorem dL_makes_80 : decode cL_makes 80 = .ok (.if_icmp .ge 22, 3) := by decide +kernel
theorem dL_makes_83 : decode cL_makes 83 = .ok (.aload_n 0, 1) := by decide +kernel
theorem dL_makes_84 : decode cL_makes 84 = .ok (.aload_n 2, 1) := by decide +kernel
theorem dL_makes_85 : decode cL_makes 85 = .ok (.iload_n 3, 1) := by decide +kernel
theorem dL_makes_86 : decode cL_makes 86 = .ok (.iaload, 1) := by decide +kernel
theorem dL_makes_87 : decode cL_makes 87 = .ok (.invokestatic 151, 3) := by decide +kernel
theorem dL_makes_90 : decode cL_makes 90 = .ok (.iload_n 3, 1) := by decide +kernel
theorem dL_makes_91 : decode cL_makes 91 = .ok (.if_icmp .eq 5, 3) := by decide +kernel
theorem dL_makes_94 : decode cL_makes 94 = .ok (.iconst 0, 1) := by decide +kernel
theorem dL_makes_95 : decode cL_makes 95 = .ok (.ireturn, 1) := by decide +kernel
theorem dL_makes_96 : decode cL_makes 96 = .ok (.iinc 3 1, 3) := by decide +kernel
theorem dL_makes_99 : decode cL_makes 99 = .ok (.goto (-22), 3) := by decide +kernel
theorem dL_makes_102 : decode cL_makes 102 = .ok (.aload_n 0, 1) := by decide +kernel
theorem dL_makes_103 : decode cL_makes 103 = .ok (.iconst 1, 1) := by decide +kernel
theorem dL_makes_104 : decode cL_makes 104 = .ok (.aload_n 1, 1) := by decide +kernel
theorem dL_makes_105 : decode cL_makes 105 = .ok (.bipush 10, 2) := by decide +kernel
theorem dL_makes_107 : decode cL_makes 107 = .ok (.invokestatic 141, 3) := by decide +kernel
theorem dL_makes_110 : decode cL_makes 110 = .ok (.bipush 50, 2) := by decide +kernel
theorem dL_makes_112 : decode cL_makes 112 = .ok (.invokestatic 145, 3) := by decide +kernel
theorem dL_makes_115 : decode cL_makes 115 = .ok (.iadd, 1) := by decide +kernel
theorem dL_makes_116 : decode cL_makes 116 = .ok (.invokestatic 153, 3) := by decide +kernel
theorem dL_makes_119 : decode cL_makes 119 = .ok (.ifCond .le 24, 3) := by decide +kernel
theorem dL_makes_122 : decode cL_makes 122 = .ok (.aload_n 0, 1) := by decide +kernel
theorem dL_makes_123 : decode cL_makes 123 = .ok (.aload_n 1, 1) := by decide +kernel
theorem dL_makes_124 : decode cL_makes 124 = .ok (.bipush 11, 2) := by decide +kernel
theorem dL_makes_126 : decode cL_makes 126 = .ok (.invokestatic 141, 3) := by decide +kernel
theorem dL_makes_129 : decode cL_makes 129 = .ok (.iconst 4, 1) := by decide +kernel
theorem dL_makes_130 : decode cL_makes 130 = .ok (.invokestatic 145, 3) := by decide +kernel
theorem dL_makes_133 : decode cL_makes 133 = .ok (.invokestatic 155, 3) := by decide +kernel
theorem dL_makes_136 : decode cL_makes 136 = .ok (.ifCond .ne 7, 3) := by decide +kernel
theorem dL_makes_139 : decode cL_makes 139 = .ok (.iconst 1, 1) := by decide +kernel
theorem dL_makes_140 : decode cL_makes 140 = .ok (.goto 4, 3) := by decide +kernel
theorem dL_makes_143 : decode cL_makes 143 = .ok (.iconst 0, 1) := by decide +kernel
theorem dL_makes_144 : decode cL_makes 144 = .ok (.ireturn, 1) := by decide +kernel
theorem dL_told_0 : decode cL_told 0 = .ok (.ldc2_w 157, 3) := by decide +kernel
theorem dL_told_3 : decode cL_told 3 = .ok (.aload_n 0, 1) := by decide +kernel
theorem dL_told_4 : decode cL_told 4 = .ok (.invokestatic 159, 3) := by decide +kernel
theorem dL_told_7 : decode cL_told 7 = .ok (.invokestatic 162, 3) := by decide +kernel
theorem dL_told_10 : decode cL_told 10 = .ok (.lmul, 1) := by decide +kernel
theorem dL_told_11 : decode cL_told 11 = .ok (.aload_n 0, 1) := by decide +kernel
theorem dL_told_12 : decode cL_told 12 = .ok (.invokestatic 168, 3) := by decide +kernel
theorem dL_told_15 : decode cL_told 15 = .ok (.invokestatic 171, 3) := by decide +kernel
theorem dL_told_18 : decode cL_told 18 = .ok (.i2l, 1) := by decide +kernel
theorem dL_told_19 : decode cL_told 19 = .ok (.ladd, 1) := by decide +kernel
theorem dL_told_20 : decode cL_told 20 = .ok (.lstore_n 1, 1) := by decide +kernel
theorem dL_told_21 : decode cL_told 21 = .ok (.iconst 0, 1) := by decide +kernel
theorem dL_told_22 : decode cL_told 22 = .ok (.istore_n 3, 1) := by decide +kernel
theorem dL_told_23 : decode cL_told 23 = .ok (.iload_n 3, 1) := by decide +kernel
theorem dL_told_24 : decode cL_told 24 = .ok (.bipush 16, 2) := by decide +kernel
theorem dL_told_26 : decode cL_told 26 = .ok (.if_icmp .ge 22, 3) := by decide +kernel
theorem dL_told_29 : decode cL_told 29 = .ok (.ldc2_w 157, 3) := by decide +kernel
theorem dL_told_32 : decode cL_told 32 = .ok (.lload_n 1, 1) := by decide +kernel
theorem dL_told_33 : decode cL_told 33 = .ok (.lmul, 1) := by decide +kernel
theorem dL_told_34 : decode cL_told 34 = .ok (.aload_n 0, 1) := by decide +kernel
theorem dL_told_35 : decode cL_told 35 = .ok (.iload_n 3, 1) := by decide +kernel
theorem dL_told_36 : decode cL_told 36 = .ok (.invokestatic 177, 3) := by decide +kernel
theorem dL_told_39 : decode cL_told 39 = .ok (.i2l, 1) := by decide +kernel
theorem dL_told_40 : decode cL_told 40 = .ok (.ladd, 1) := by decide +kernel
theorem dL_told_41 : decode cL_told 41 = .ok (.lstore_n 1, 1) := by decide +kernel
theorem dL_told_42 : decode cL_told 42 = .ok (.iinc 3 1, 3) := by decide +kernel
theorem dL_told_45 : decode cL_told 45 = .ok (.goto (-22), 3) := by decide +kernel
theorem dL_told_48 : decode cL_told 48 = .ok (.iconst 0, 1) := by decide +kernel
theorem dL_told_49 : decode cL_told 49 = .ok (.istore_n 3, 1) := by decide +kernel
theorem dL_told_50 : decode cL_told 50 = .ok (.iload_n 3, 1) := by decide +kernel
theorem dL_told_51 : decode cL_told 51 = .ok (.bipush 10, 2) := by decide +kernel
theorem dL_told_53 : decode cL_told 53 = .ok (.if_icmp .ge 39, 3) := by decide +kernel
theorem dL_told_56 : decode cL_told 56 = .ok (.iconst 0, 1) := by decide +kernel
theorem dL_told_57 : decode cL_told 57 = .ok (.istore 4, 2) := by decide +kernel
theorem dL_told_59 : decode cL_told 59 = .ok (.iload 4, 2) := by decide +kernel
theorem dL_told_61 : decode cL_told 61 = .ok (.iconst 3, 1) := by decide +kernel
theorem dL_told_62 : decode cL_told 62 = .ok (.if_icmp .ge 24, 3) := by decide +kernel
theorem dL_told_65 : decode cL_told 65 = .ok (.ldc2_w 157, 3) := by decide +kernel
theorem dL_told_68 : decode cL_told 68 = .ok (.lload_n 1, 1) := by decide +kernel
theorem dL_told_69 : decode cL_told 69 = .ok (.lmul, 1) := by decide +kernel
theorem dL_told_70 : decode cL_told 70 = .ok (.aload_n 0, 1) := by decide +kernel
theorem dL_told_71 : decode cL_told 71 = .ok (.iload_n 3, 1) := by decide +kernel
theorem dL_told_72 : decode cL_told 72 = .ok (.iload 4, 2) := by decide +kernel
theorem dL_told_74 : decode cL_told 74 = .ok (.invokestatic 179, 3) := by decide +kernel
theorem dL_told_77 : decode cL_told 77 = .ok (.i2l, 1) := by decide +kernel
theorem dL_told_78 : decode cL_told 78 = .ok (.ladd, 1) := by decide +kernel
theorem dL_told_79 : decode cL_told 79 = .ok (.lstore_n 1, 1) := by decide +kernel
theorem dL_told_80 : decode cL_told 80 = .ok (.iinc 4 1, 3) := by decide +kernel
theorem dL_told_83 : decode cL_told 83 = .ok (.goto (-24), 3) := by decide +kernel
theorem dL_told_86 : decode cL_told 86 = .ok (.iinc 3 1, 3) := by decide +kernel
theorem dL_told_89 : decode cL_told 89 = .ok (.goto (-39), 3) := by decide +kernel
theorem dL_told_92 : decode cL_told 92 = .ok (.iconst 0, 1) := by decide +kernel
theorem dL_told_93 : decode cL_told 93 = .ok (.istore_n 3, 1) := by decide +kernel
theorem dL_told_94 : decode cL_told 94 = .ok (.iload_n 3, 1) := by decide +kernel
theorem dL_told_95 : decode cL_told 95 = .ok (.aload_n 0, 1) := by decide +kernel
theorem dL_told_96 : decode cL_told 96 = .ok (.iconst 3, 1) := by decide +kernel
theorem dL_told_97 : decode cL_told 97 = .ok (.invokestatic 177, 3) := by decide +kernel
theorem dL_told_100 : decode cL_told 100 = .ok (.if_icmp .ge 64, 3) := by decide +kernel
theorem dL_told_103 : decode cL_told 103 = .ok (.iconst 0, 1) := by decide +kernel
theorem dL_told_104 : decode cL_told 104 = .ok (.istore 4, 2) := by decide +kernel
theorem dL_told_106 : decode cL_told 106 = .ok (.iload 4, 2) := by decide +kernel
theorem dL_told_108 : decode cL_told 108 = .ok (.bipush 9, 2) := by decide +kernel
theorem dL_told_110 : decode cL_told 110 = .ok (.if_icmp .ge 24, 3) := by decide +kernel
theorem dL_told_113 : decode cL_told 113 = .ok (.ldc2_w 157, 3) := by decide +kernel
theorem dL_told_116 : decode cL_told 116 = .ok (.lload_n 1, 1) := by decide +kernel
theorem dL_told_117 : decode cL_told 117 = .ok (.lmul, 1) := by decide +kernel
theorem dL_told_118 : decode cL_told 118 = .ok (.aload_n 0, 1) := by decide +kernel
theorem dL_told_119 : decode cL_told 119 = .ok (.iload_n 3, 1) := by decide +kernel
theorem dL_told_120 : decode cL_told 120 = .ok (.iload 4, 2) := by decide +kernel
theorem dL_told_122 : decode cL_told 122 = .ok (.invokestatic 181, 3) := by decide +kernel
theorem dL_told_125 : decode cL_told 125 = .ok (.i2l, 1) := by decide +kernel
theorem dL_told_126 : decode cL_told 126 = .ok (.ladd, 1) := by decide +kernel
theorem dL_told_127 : decode cL_told 127 = .ok (.lstore_n 1, 1) := by decide +kernel
theorem dL_told_128 : decode cL_told 128 = .ok (.iinc 4 1, 3) := by decide +kernel
theorem dL_told_131 : decode cL_told 131 = .ok (.goto (-25), 3) := by decide +kernel
theorem dL_told_134 : decode cL_told 134 = .ok (.ldc2_w 157, 3) := by decide +kernel
theorem dL_told_137 : decode cL_told 137 = .ok (.ldc2_w 157, 3) := by decide +kernel
theorem dL_told_140 : decode cL_told 140 = .ok (.lload_n 1, 1) := by decide +kernel
theorem dL_told_141 : decode cL_told 141 = .ok (.lmul, 1) := by decide +kernel
theorem dL_told_142 : decode cL_told 142 = .ok (.aload_n 0, 1) := by decide +kernel
theorem dL_told_143 : decode cL_told 143 = .ok (.iload_n 3, 1) := by decide +kernel
theorem dL_told_144 : decode cL_told 144 = .ok (.invokestatic 183, 3) := by decide +kernel
theorem dL_told_147 : decode cL_told 147 = .ok (.i2l, 1) := by decide +kernel
theorem dL_told_148 : decode cL_told 148 = .ok (.ladd, 1) := by decide +kernel
theorem dL_told_149 : decode cL_told 149 = .ok (.lmul, 1) := by decide +kernel
theorem dL_told_150 : decode cL_told 150 = .ok (.aload_n 0, 1) := by decide +kernel
theorem dL_told_151 : decode cL_told 151 = .ok (.iload_n 3, 1) := by decide +kernel
theorem dL_told_152 : decode cL_told 152 = .ok (.invokestatic 185, 3) := by decide +kernel
theorem dL_told_155 : decode cL_told 155 = .ok (.i2l, 1) := by decide +kernel
theorem dL_told_156 : decode cL_told 156 = .ok (.ladd, 1) := by decide +kernel
theorem dL_told_157 : decode cL_told 157 = .ok (.lstore_n 1, 1) := by decide +kernel
theorem dL_told_158 : decode cL_told 158 = .ok (.iinc 3 1, 3) := by decide +kernel
theorem dL_told_161 : decode cL_told 161 = .ok (.goto (-67), 3) := by decide +kernel
theorem dL_told_164 : decode cL_told 164 = .ok (.aload_n 0, 1) := by decide +kernel
theorem dL_told_165 : decode cL_told 165 = .ok (.invokevirtual 135, 3) := by decide +kernel
theorem dL_told_168 : decode cL_told 168 = .ok (.istore_n 3, 1) := by decide +kernel
theorem dL_told_169 : decode cL_told 169 = .ok (.iconst 0, 1) := by decide +kernel
theorem dL_told_170 : decode cL_told 170 = .ok (.istore 4, 2) := by decide +kernel
theorem dL_told_172 : decode cL_told 172 = .ok (.iload 4, 2) := by decide +kernel
theorem dL_told_174 : decode cL_told 174 = .ok (.iload_n 3, 1) := by decide +kernel
theorem dL_told_175 : decode cL_told 175 = .ok (.if_icmp .ge 23, 3) := by decide +kernel
theorem dL_told_178 : decode cL_told 178 = .ok (.ldc2_w 157, 3) := by decide +kernel
theorem dL_told_181 : decode cL_told 181 = .ok (.lload_n 1, 1) := by decide +kernel
theorem dL_told_182 : decode cL_told 182 = .ok (.lmul, 1) := by decide +kernel
theorem dL_told_183 : decode cL_told 183 = .ok (.aload_n 0, 1) := by decide +kernel
theorem dL_told_184 : decode cL_told 184 = .ok (.iload 4, 2) := by decide +kernel
theorem dL_told_186 : decode cL_told 186 = .ok (.invokestatic 138, 3) := by decide +kernel
theorem dL_told_189 : decode cL_told 189 = .ok (.i2l, 1) := by decide +kernel
theorem dL_told_190 : decode cL_told 190 = .ok (.ladd, 1) := by decide +kernel
theorem dL_told_191 : decode cL_told 191 = .ok (.lstore_n 1, 1) := by decide +kernel
theorem dL_told_192 : decode cL_told 192 = .ok (.iinc 4 1, 3) := by decide +kernel
theorem dL_told_195 : decode cL_told 195 = .ok (.goto (-23), 3) := by decide +kernel
theorem dL_told_198 : decode cL_told 198 = .ok (.iconst 0, 1) := by decide +kernel
theorem dL_told_199 : decode cL_told 199 = .ok (.istore 4, 2) := by decide +kernel
theorem dL_told_201 : decode cL_told 201 = .ok (.iload 4, 2) := by decide +kernel
theorem dL_told_203 : decode cL_told 203 = .ok (.iconst 3, 1) := by decide +kernel
theorem dL_told_204 : decode cL_told 204 = .ok (.if_icmp .ge 23, 3) := by decide +kernel
theorem dL_told_207 : decode cL_told 207 = .ok (.ldc2_w 157, 3) := by decide +kernel
theorem dL_told_210 : decode cL_told 210 = .ok (.lload_n 1, 1) := by decide +kernel
theorem dL_told_211 : decode cL_told 211 = .ok (.lmul, 1) := by decide +kernel
theorem dL_told_212 : decode cL_told 212 = .ok (.aload_n 0, 1) := by decide +kernel
theorem dL_told_213 : decode cL_told 213 = .ok (.iload 4, 2) := by decide +kernel
theorem dL_told_215 : decode cL_told 215 = .ok (.invokestatic 187, 3) := by decide +kernel
theorem dL_told_218 : decode cL_told 218 = .ok (.i2l, 1) := by decide +kernel
theorem dL_told_219 : decode cL_told 219 = .ok (.ladd, 1) := by decide +kernel
theorem dL_told_220 : decode cL_told 220 = .ok (.lstore_n 1, 1) := by decide +kernel
theorem dL_told_221 : decode cL_told 221 = .ok (.iinc 4 1, 3) := by decide +kernel
theorem dL_told_224 : decode cL_told 224 = .ok (.goto (-23), 3) := by decide +kernel
theorem dL_told_227 : decode cL_told 227 = .ok (.ldc2_w 157, 3) := by decide +kernel
theorem dL_told_230 : decode cL_told 230 = .ok (.ldc2_w 157, 3) := by decide +kernel
theorem dL_told_233 : decode cL_told 233 = .ok (.ldc2_w 157, 3) := by decide +kernel
theorem dL_told_236 : decode cL_told 236 = .ok (.lload_n 1, 1) := by decide +kernel
theorem dL_told_237 : decode cL_told 237 = .ok (.lmul, 1) := by decide +kernel
theorem dL_told_238 : decode cL_told 238 = .ok (.aload_n 0, 1) := by decide +kernel
theorem dL_told_239 : decode cL_told 239 = .ok (.invokevirtual 189, 3) := by decide +kernel
theorem dL_told_242 : decode cL_told 242 = .ok (.i2l, 1) := by decide +kernel
theorem dL_told_243 : decode cL_told 243 = .ok (.ladd, 1) := by decide +kernel
theorem dL_told_244 : decode cL_told 244 = .ok (.lmul, 1) := by decide +kernel
theorem dL_told_245 : decode cL_told 245 = .ok (.aload_n 0, 1) := by decide +kernel
theorem dL_told_246 : decode cL_told 246 = .ok (.invokevirtual 192, 3) := by decide +kernel
theorem dL_told_249 : decode cL_told 249 = .ok (.i2l, 1) := by decide +kernel
theorem dL_told_250 : decode cL_told 250 = .ok (.ladd, 1) := by decide +kernel
theorem dL_told_251 : decode cL_told 251 = .ok (.lmul, 1) := by decide +kernel
theorem dL_told_252 : decode cL_told 252 = .ok (.aload_n 0, 1) := by decide +kernel
theorem dL_told_253 : decode cL_told 253 = .ok (.invokestatic 195, 3) := by decide +kernel
theorem dL_told_256 : decode cL_told 256 = .ok (.i2l, 1) := by decide +kernel
theorem dL_told_257 : decode cL_told 257 = .ok (.ladd, 1) := by decide +kernel
theorem dL_told_258 : decode cL_told 258 = .ok (.lstore_n 1, 1) := by decide +kernel
theorem dL_told_259 : decode cL_told 259 = .ok (.ldc2_w 157, 3) := by decide +kernel
theorem dL_told_262 : decode cL_told 262 = .ok (.ldc2_w 157, 3) := by decide +kernel
theorem dL_told_265 : decode cL_told 265 = .ok (.ldc2_w 157, 3) := by decide +kernel
theorem dL_told_268 : decode cL_told 268 = .ok (.lload_n 1, 1) := by decide +kernel
theorem dL_told_269 : decode cL_told 269 = .ok (.lmul, 1) := by decide +kernel
theorem dL_told_270 : decode cL_told 270 = .ok (.aload_n 0, 1) := by decide +kernel
theorem dL_told_271 : decode cL_told 271 = .ok (.bipush 17, 2) := by decide +kernel
theorem dL_told_273 : decode cL_told 273 = .ok (.invokestatic 197, 3) := by decide +kernel
theorem dL_told_276 : decode cL_told 276 = .ok (.i2l, 1) := by decide +kernel
theorem dL_told_277 : decode cL_told 277 = .ok (.ladd, 1) := by decide +kernel
theorem dL_told_278 : decode cL_told 278 = .ok (.lmul, 1) := by decide +kernel
theorem dL_told_279 : decode cL_told 279 = .ok (.aload_n 0, 1) := by decide +kernel
theorem dL_told_280 : decode cL_told 280 = .ok (.bipush 17, 2) := by decide +kernel
theorem dL_told_282 : decode cL_told 282 = .ok (.invokestatic 199, 3) := by decide +kernel
theorem dL_told_285 : decode cL_told 285 = .ok (.i2l, 1) := by decide +kernel
theorem dL_told_286 : decode cL_told 286 = .ok (.ladd, 1) := by decide +kernel
theorem dL_told_287 : decode cL_told 287 = .ok (.lmul, 1) := by decide +kernel
theorem dL_told_288 : decode cL_told 288 = .ok (.aload_n 0, 1) := by decide +kernel
theorem dL_told_289 : decode cL_told 289 = .ok (.invokevirtual 201, 3) := by decide +kernel
theorem dL_told_292 : decode cL_told 292 = .ok (.i2l, 1) := by decide +kernel
theorem dL_told_293 : decode cL_told 293 = .ok (.ladd, 1) := by decide +kernel
theorem dL_told_294 : decode cL_told 294 = .ok (.lreturn, 1) := by decide +kernel
theorem dL_changes_0 : decode cL_changes 0 = .ok (.iload_n 1, 1) := by decide +kernel
theorem dL_changes_1 : decode cL_changes 1 = .ok (.iconst 4, 1) := by decide +kernel
theorem dL_changes_2 : decode cL_changes 2 = .ok (.ishr, 1) := by decide +kernel
theorem dL_changes_3 : decode cL_changes 3 = .ok (.aload_n 0, 1) := by decide +kernel
theorem dL_changes_4 : decode cL_changes 4 = .ok (.iconst 3, 1) := by decide +kernel
theorem dL_changes_5 : decode cL_changes 5 = .ok (.invokestatic 177, 3) := by decide +kernel
theorem dL_changes_8 : decode cL_changes 8 = .ok (.iconst 1, 1) := by decide +kernel
theorem dL_changes_9 : decode cL_changes 9 = .ok (.iadd, 1) := by decide +kernel
theorem dL_changes_10 : decode cL_changes 10 = .ok (.invokestatic 145, 3) := by decide +kernel
theorem dL_changes_13 : decode cL_changes 13 = .ok (.istore_n 2, 1) := by decide +kernel
theorem dL_changes_14 : decode cL_changes 14 = .ok (.iload_n 1, 1) := by decide +kernel
theorem dL_changes_15 : decode cL_changes 15 = .ok (.bipush 13, 2) := by decide +kernel
theorem dL_changes_17 : decode cL_changes 17 = .ok (.invokestatic 145, 3) := by decide +kernel
theorem dL_changes_20 : decode cL_changes 20 = .ok (.tableswitch 207 0 9 #[56, 86, 107, 128, 149, 163, 163, 163, 177, 192], 56) := by decide +kernel
theorem dL_changes_76 : decode cL_changes 76 = .ok (.aload_n 0, 1) := by decide +kernel
theorem dL_changes_77 : decode cL_changes 77 = .ok (.iload_n 1, 1) := by decide +kernel
theorem dL_changes_78 : decode cL_changes 78 = .ok (.iconst 4, 1) := by decide +kernel
theorem dL_changes_79 : decode cL_changes 79 = .ok (.ishr, 1) := by decide +kernel
theorem dL_changes_80 : decode cL_changes 80 = .ok (.bipush 11, 2) := by decide +kernel
theorem dL_changes_82 : decode cL_changes 82 = .ok (.invokestatic 145, 3) := by decide +kernel
theorem dL_changes_85 : decode cL_changes 85 = .ok (.iload_n 1, 1) := by decide +kernel
theorem dL_changes_86 : decode cL_changes 86 = .ok (.bipush 6, 2) := by decide +kernel
theorem dL_changes_88 : decode cL_changes 88 = .ok (.ishr, 1) := by decide +kernel
theorem dL_changes_89 : decode cL_changes 89 = .ok (.bipush 32, 2) := by decide +kernel
theorem dL_changes_91 : decode cL_changes 91 = .ok (.invokestatic 145, 3) := by decide +kernel
theorem dL_changes_94 : decode cL_changes 94 = .ok (.invokestatic 148, 3) := by decide +kernel
theorem dL_changes_97 : decode cL_changes 97 = .ok (.ifCond .lt 7, 3) := by decide +kernel
theorem dL_changes_100 : decode cL_changes 100 = .ok (.iconst 1, 1) := by decide +kernel
theorem dL_changes_101 : decode cL_changes 101 = .ok (.goto 4, 3) := by decide +kernel
theorem dL_changes_104 : decode cL_changes 104 = .ok (.iconst 0, 1) := by decide +kernel
theorem dL_changes_105 : decode cL_changes 105 = .ok (.ireturn, 1) := by decide +kernel
theorem dL_changes_106 : decode cL_changes 106 = .ok (.aload_n 0, 1) := by decide +kernel
theorem dL_changes_107 : decode cL_changes 107 = .ok (.iload_n 1, 1) := by decide +kernel
theorem dL_changes_108 : decode cL_changes 108 = .ok (.iconst 4, 1) := by decide +kernel
theorem dL_changes_109 : decode cL_changes 109 = .ok (.ishr, 1) := by decide +kernel
theorem dL_changes_110 : decode cL_changes 110 = .ok (.bipush 11, 2) := by decide +kernel
theorem dL_changes_112 : decode cL_changes 112 = .ok (.invokestatic 145, 3) := by decide +kernel
theorem dL_changes_115 : decode cL_changes 115 = .ok (.invokestatic 155, 3) := by decide +kernel
theorem dL_changes_118 : decode cL_changes 118 = .ok (.ifCond .lt 7, 3) := by decide +kernel
theorem dL_changes_121 : decode cL_changes 121 = .ok (.iconst 1, 1) := by decide +kernel
theorem dL_changes_122 : decode cL_changes 122 = .ok (.goto 4, 3) := by decide +kernel
theorem dL_changes_125 : decode cL_changes 125 = .ok (.iconst 0, 1) := by decide +kernel
theorem dL_changes_126 : decode cL_changes 126 = .ok (.ireturn, 1) := by decide +kernel
theorem dL_changes_127 : decode cL_changes 127 = .ok (.aload_n 0, 1) := by decide +kernel
theorem dL_changes_128 : decode cL_changes 128 = .ok (.iload_n 1, 1) := by decide +kernel
theorem dL_changes_129 : decode cL_changes 129 = .ok (.iconst 4, 1) := by decide +kernel
theorem dL_changes_130 : decode cL_changes 130 = .ok (.ishr, 1) := by decide +kernel
theorem dL_changes_131 : decode cL_changes 131 = .ok (.bipush 52, 2) := by decide +kernel
theorem dL_changes_133 : decode cL_changes 133 = .ok (.invokestatic 145, 3) := by decide +kernel
theorem dL_changes_136 : decode cL_changes 136 = .ok (.invokestatic 153, 3) := by decide +kernel
theorem dL_changes_139 : decode cL_changes 139 = .ok (.ifCond .lt 7, 3) := by decide +kernel
theorem dL_changes_142 : decode cL_changes 142 = .ok (.iconst 1, 1) := by decide +kernel
theorem dL_changes_143 : decode cL_changes 143 = .ok (.goto 4, 3) := by decide +kernel
theorem dL_changes_146 : decode cL_changes 146 = .ok (.iconst 0, 1) := by decide +kernel
theorem dL_changes_147 : decode cL_changes 147 = .ok (.ireturn, 1) := by decide +kernel
theorem dL_changes_148 : decode cL_changes 148 = .ok (.aload_n 0, 1) := by decide +kernel
theorem dL_changes_149 : decode cL_changes 149 = .ok (.iload_n 1, 1) := by decide +kernel
theorem dL_changes_150 : decode cL_changes 150 = .ok (.iconst 4, 1) := by decide +kernel
theorem dL_changes_151 : decode cL_changes 151 = .ok (.ishr, 1) := by decide +kernel
theorem dL_changes_152 : decode cL_changes 152 = .ok (.bipush 23, 2) := by decide +kernel
theorem dL_changes_154 : decode cL_changes 154 = .ok (.invokestatic 145, 3) := by decide +kernel
theorem dL_changes_157 : decode cL_changes 157 = .ok (.invokestatic 151, 3) := by decide +kernel
theorem dL_changes_160 : decode cL_changes 160 = .ok (.ifCond .lt 7, 3) := by decide +kernel
theorem dL_changes_163 : decode cL_changes 163 = .ok (.iconst 1, 1) := by decide +kernel
theorem dL_changes_164 : decode cL_changes 164 = .ok (.goto 4, 3) := by decide +kernel
theorem dL_changes_167 : decode cL_changes 167 = .ok (.iconst 0, 1) := by decide +kernel
theorem dL_changes_168 : decode cL_changes 168 = .ok (.ireturn, 1) := by decide +kernel
theorem dL_changes_169 : decode cL_changes 169 = .ok (.aload_n 0, 1) := by decide +kernel
theorem dL_changes_170 : decode cL_changes 170 = .ok (.iload_n 2, 1) := by decide +kernel
theorem dL_changes_171 : decode cL_changes 171 = .ok (.invokestatic 204, 3) := by decide +kernel
theorem dL_changes_174 : decode cL_changes 174 = .ok (.ifCond .lt 7, 3) := by decide +kernel
theorem dL_changes_177 : decode cL_changes 177 = .ok (.iconst 1, 1) := by decide +kernel
theorem dL_changes_178 : decode cL_changes 178 = .ok (.goto 4, 3) := by decide +kernel
theorem dL_changes_181 : decode cL_changes 181 = .ok (.iconst 0, 1) := by decide +kernel
theorem dL_changes_182 : decode cL_changes 182 = .ok (.ireturn, 1) := by decide +kernel
theorem dL_changes_183 : decode cL_changes 183 = .ok (.aload_n 0, 1) := by decide +kernel
theorem dL_changes_184 : decode cL_changes 184 = .ok (.iload_n 2, 1) := by decide +kernel
theorem dL_changes_185 : decode cL_changes 185 = .ok (.invokestatic 206, 3) := by decide +kernel
theorem dL_changes_188 : decode cL_changes 188 = .ok (.ifCond .lt 7, 3) := by decide +kernel
theorem dL_changes_191 : decode cL_changes 191 = .ok (.iconst 1, 1) := by decide +kernel
theorem dL_changes_192 : decode cL_changes 192 = .ok (.goto 4, 3) := by decide +kernel
theorem dL_changes_195 : decode cL_changes 195 = .ok (.iconst 0, 1) := by decide +kernel
theorem dL_changes_196 : decode cL_changes 196 = .ok (.ireturn, 1) := by decide +kernel
theorem dL_changes_197 : decode cL_changes 197 = .ok (.aload_n 0, 1) := by decide +kernel
theorem dL_changes_198 : decode cL_changes 198 = .ok (.iload_n 2, 1) := by decide +kernel
theorem dL_changes_199 : decode cL_changes 199 = .ok (.invokestatic 208, 3) := by decide +kernel
theorem dL_changes_202 : decode cL_changes 202 = .ok (.iconst (-1), 1) := by decide +kernel
theorem dL_changes_203 : decode cL_changes 203 = .ok (.if_icmp .lt 7, 3) := by decide +kernel
theorem dL_changes_206 : decode cL_changes 206 = .ok (.iconst 1, 1) := by decide +kernel
theorem dL_changes_207 : decode cL_changes 207 = .ok (.goto 4, 3) := by decide +kernel
theorem dL_changes_210 : decode cL_changes 210 = .ok (.iconst 0, 1) := by decide +kernel
theorem dL_changes_211 : decode cL_changes 211 = .ok (.ireturn, 1) := by decide +kernel
theorem dL_changes_212 : decode cL_changes 212 = .ok (.aload_n 0, 1) := by decide +kernel
theorem dL_changes_213 : decode cL_changes 213 = .ok (.iload_n 2, 1) := by decide +kernel
theorem dL_changes_214 : decode cL_changes 214 = .ok (.invokestatic 210, 3) := by decide +kernel
theorem dL_changes_217 : decode cL_changes 217 = .ok (.iconst (-1), 1) := by decide +kernel
theorem dL_changes_218 : decode cL_changes 218 = .ok (.if_icmp .lt 7, 3) := by decide +kernel
theorem dL_changes_221 : decode cL_changes 221 = .ok (.iconst 1, 1) := by decide +kernel
theorem dL_changes_222 : decode cL_changes 222 = .ok (.goto 4, 3) := by decide +kernel
theorem dL_changes_225 : decode cL_changes 225 = .ok (.iconst 0, 1) := by decide +kernel
theorem dL_changes_226 : decode cL_changes 226 = .ok (.ireturn, 1) := by decide +kernel
theorem dL_changes_227 : decode cL_changes 227 = .ok (.aload_n 0, 1) := by decide +kernel
theorem dL_changes_228 : decode cL_changes 228 = .ok (.iload_n 1, 1) := by decide +kernel
theorem dL_changes_229 : decode cL_changes 229 = .ok (.iconst 4, 1) := by decide +kernel
theorem dL_changes_230 : decode cL_changes 230 = .ok (.ishr, 1) := by decide +kernel
theorem dL_changes_231 : decode cL_changes 231 = .ok (.bipush 9, 2) := by decide +kernel
theorem dL_changes_233 : decode cL_changes 233 = .ok (.invokestatic 145, 3) := by decide +kernel
theorem dL_changes_236 : decode cL_changes 236 = .ok (.invokestatic 212, 3) := by decide +kernel
theorem dL_changes_239 : decode cL_changes 239 = .ok (.ifCond .lt 7, 3) := by decide +kernel
theorem dL_changes_242 : decode cL_changes 242 = .ok (.iconst 1, 1) := by decide +kernel
theorem dL_changes_243 : decode cL_changes 243 = .ok (.goto 4, 3) := by decide +kernel
theorem dL_changes_246 : decode cL_changes 246 = .ok (.iconst 0, 1) := by decide +kernel
theorem dL_changes_247 : decode cL_changes 247 = .ok (.ireturn, 1) := by decide +kernel
theorem dL_refused_0 : decode cL_refused 0 = .ok (.aload_n 0, 1) := by decide +kernel
theorem dL_refused_1 : decode cL_refused 1 = .ok (.invokestatic 214, 3) := by decide +kernel
theorem dL_refused_4 : decode cL_refused 4 = .ok (.lstore_n 1, 1) := by decide +kernel
theorem dL_refused_5 : decode cL_refused 5 = .ok (.aload_n 0, 1) := by decide +kernel
theorem dL_refused_6 : decode cL_refused 6 = .ok (.iconst 3, 1) := by decide +kernel
theorem dL_refused_7 : decode cL_refused 7 = .ok (.invokestatic 177, 3) := by decide +kernel
theorem dL_refused_10 : decode cL_refused 10 = .ok (.istore_n 3, 1) := by decide +kernel
theorem dL_refused_11 : decode cL_refused 11 = .ok (.aload_n 0, 1) := by decide +kernel
theorem dL_refused_12 : decode cL_refused 12 = .ok (.bipush 10, 2) := by decide +kernel
theorem dL_refused_14 : decode cL_refused 14 = .ok (.iconst 0, 1) := by decide +kernel
theorem dL_refused_15 : decode cL_refused 15 = .ok (.invokestatic 148, 3) := by decide +kernel
theorem dL_refused_18 : decode cL_refused 18 = .ok (.sipush (-1001), 3) := by decide +kernel
theorem dL_refused_21 : decode cL_refused 21 = .ok (.if_icmp .ne 290, 3) := by decide +kernel
theorem dL_refused_24 : decode cL_refused 24 = .ok (.aload_n 0, 1) := by decide +kernel
theorem dL_refused_25 : decode cL_refused 25 = .ok (.iconst (-1), 1) := by decide +kernel
theorem dL_refused_26 : decode cL_refused 26 = .ok (.iconst 5, 1) := by decide +kernel
theorem dL_refused_27 : decode cL_refused 27 = .ok (.invokestatic 148, 3) := by decide +kernel
theorem dL_refused_30 : decode cL_refused 30 = .ok (.sipush (-1001), 3) := by decide +kernel
theorem dL_refused_33 : decode cL_refused 33 = .ok (.if_icmp .ne 278, 3) := by decide +kernel
theorem dL_refused_36 : decode cL_refused 36 = .ok (.aload_n 0, 1) := by decide +kernel
theorem dL_refused_37 : decode cL_refused 37 = .ok (.iconst 0, 1) := by decide +kernel
theorem dL_refused_38 : decode cL_refused 38 = .ok (.iconst 0, 1) := by decide +kernel
theorem dL_refused_39 : decode cL_refused 39 = .ok (.invokestatic 148, 3) := by decide +kernel
theorem dL_refused_42 : decode cL_refused 42 = .ok (.sipush (-1002), 3) := by decide +kernel
theorem dL_refused_45 : decode cL_refused 45 = .ok (.if_icmp .ne 266, 3) := by decide +kernel
theorem dL_refused_48 : decode cL_refused 48 = .ok (.aload_n 0, 1) := by decide +kernel
theorem dL_refused_49 : decode cL_refused 49 = .ok (.iconst 0, 1) := by decide +kernel
theorem dL_refused_50 : decode cL_refused 50 = .ok (.bipush 31, 2) := by decide +kernel
theorem dL_refused_52 : decode cL_refused 52 = .ok (.invokestatic 148, 3) := by decide +kernel
theorem dL_refused_55 : decode cL_refused 55 = .ok (.sipush (-1002), 3) := by decide +kernel
theorem dL_refused_58 : decode cL_refused 58 = .ok (.if_icmp .ne 253, 3) := by decide +kernel
theorem dL_refused_61 : decode cL_refused 61 = .ok (.aload_n 0, 1) := by decide +kernel
theorem dL_refused_62 : decode cL_refused 62 = .ok (.iconst (-1), 1) := by decide +kernel
theorem dL_refused_63 : decode cL_refused 63 = .ok (.invokestatic 155, 3) := by decide +kernel
theorem dL_refused_66 : decode cL_refused 66 = .ok (.sipush (-1001), 3) := by decide +kernel
theorem dL_refused_69 : decode cL_refused 69 = .ok (.if_icmp .ne 242, 3) := by decide +kernel
theorem dL_refused_72 : decode cL_refused 72 = .ok (.aload_n 0, 1) := by decide +kernel
theorem dL_refused_73 : decode cL_refused 73 = .ok (.bipush 10, 2) := by decide +kernel
theorem dL_refused_75 : decode cL_refused 75 = .ok (.invokestatic 155, 3) := by decide +kernel
theorem dL_refused_78 : decode cL_refused 78 = .ok (.sipush (-1001), 3) := by decide +kernel
theorem dL_refused_81 : decode cL_refused 81 = .ok (.if_icmp .ne 230, 3) := by decide +kernel
theorem dL_refused_84 : decode cL_refused 84 = .ok (.aload_n 0, 1) := by decide +kernel
theorem dL_refused_85 : decode cL_refused 85 = .ok (.iconst 0, 1) := by decide +kernel
theorem dL_refused_86 : decode cL_refused 86 = .ok (.invokestatic 153, 3) := by decide +kernel
theorem dL_refused_89 : decode cL_refused 89 = .ok (.sipush (-1001), 3) := by decide +kernel
theorem dL_refused_92 : decode cL_refused 92 = .ok (.if_icmp .ne 219, 3) := by decide +kernel
theorem dL_refused_95 : decode cL_refused 95 = .ok (.aload_n 0, 1) := by decide +kernel
theorem dL_refused_96 : decode cL_refused 96 = .ok (.bipush 51, 2) := by decide +kernel
theorem dL_refused_98 : decode cL_refused 98 = .ok (.invokestatic 153, 3) := by decide +kernel
theorem dL_refused_101 : decode cL_refused 101 = .ok (.sipush (-1001), 3) := by decide +kernel
theorem dL_refused_104 : decode cL_refused 104 = .ok (.if_icmp .ne 207, 3) := by decide +kernel
theorem dL_refused_107 : decode cL_refused 107 = .ok (.aload_n 0, 1) := by decide +kernel
theorem dL_refused_108 : decode cL_refused 108 = .ok (.bipush 10, 2) := by decide +kernel
theorem dL_refused_110 : decode cL_refused 110 = .ok (.bipush 9, 2) := by decide +kernel
theorem dL_refused_112 : decode cL_refused 112 = .ok (.invokestatic 179, 3) := by decide +kernel
theorem dL_refused_115 : decode cL_refused 115 = .ok (.sipush (-1001), 3) := by decide +kernel
theorem dL_refused_118 : decode cL_refused 118 = .ok (.if_icmp .ne 193, 3) := by decide +kernel
theorem dL_refused_121 : decode cL_refused 121 = .ok (.aload_n 0, 1) := by decide +kernel
theorem dL_refused_122 : decode cL_refused 122 = .ok (.iconst 0, 1) := by decide +kernel
theorem dL_refused_123 : decode cL_refused 123 = .ok (.iconst 3, 1) := by decide +kernel
theorem dL_refused_124 : decode cL_refused 124 = .ok (.invokestatic 179, 3) := by decide +kernel
theorem dL_refused_127 : decode cL_refused 127 = .ok (.sipush (-1002), 3) := by decide +kernel
theorem dL_refused_130 : decode cL_refused 130 = .ok (.if_icmp .ne 181, 3) := by decide +kernel
theorem dL_refused_133 : decode cL_refused 133 = .ok (.aload_n 0, 1) := by decide +kernel
theorem dL_refused_134 : decode cL_refused 134 = .ok (.iconst 0, 1) := by decide +kernel
theorem dL_refused_135 : decode cL_refused 135 = .ok (.iconst (-1), 1) := by decide +kernel
theorem dL_refused_136 : decode cL_refused 136 = .ok (.invokestatic 179, 3) := by decide +kernel
theorem dL_refused_139 : decode cL_refused 139 = .ok (.sipush (-1002), 3) := by decide +kernel
theorem dL_refused_142 : decode cL_refused 142 = .ok (.if_icmp .ne 169, 3) := by decide +kernel
theorem dL_refused_145 : decode cL_refused 145 = .ok (.aload_n 0, 1) := by decide +kernel
theorem dL_refused_146 : decode cL_refused 146 = .ok (.iconst (-1), 1) := by decide +kernel
theorem dL_refused_147 : decode cL_refused 147 = .ok (.invokestatic 197, 3) := by decide +kernel
theorem dL_refused_150 : decode cL_refused 150 = .ok (.sipush (-1001), 3) := by decide +kernel
theorem dL_refused_153 : decode cL_refused 153 = .ok (.if_icmp .ne 158, 3) := by decide +kernel
theorem dL_refused_156 : decode cL_refused 156 = .ok (.aload_n 0, 1) := by decide +kernel
theorem dL_refused_157 : decode cL_refused 157 = .ok (.bipush 61, 2) := by decide +kernel
theorem dL_refused_159 : decode cL_refused 159 = .ok (.invokestatic 197, 3) := by decide +kernel
theorem dL_refused_162 : decode cL_refused 162 = .ok (.sipush (-1001), 3) := by decide +kernel
theorem dL_refused_165 : decode cL_refused 165 = .ok (.if_icmp .ne 146, 3) := by decide +kernel
theorem dL_refused_168 : decode cL_refused 168 = .ok (.aload_n 0, 1) := by decide +kernel
theorem dL_refused_169 : decode cL_refused 169 = .ok (.bipush 61, 2) := by decide +kernel
theorem dL_refused_171 : decode cL_refused 171 = .ok (.invokestatic 199, 3) := by decide +kernel
theorem dL_refused_174 : decode cL_refused 174 = .ok (.sipush (-1001), 3) := by decide +kernel
theorem dL_refused_177 : decode cL_refused 177 = .ok (.if_icmp .ne 134, 3) := by decide +kernel
theorem dL_refused_180 : decode cL_refused 180 = .ok (.aload_n 0, 1) := by decide +kernel
theorem dL_refused_181 : decode cL_refused 181 = .ok (.iconst (-1), 1) := by decide +kernel
theorem dL_refused_182 : decode cL_refused 182 = .ok (.invokestatic 199, 3) := by decide +kernel
theorem dL_refused_185 : decode cL_refused 185 = .ok (.sipush (-1001), 3) := by decide +kernel
theorem dL_refused_188 : decode cL_refused 188 = .ok (.if_icmp .ne 123, 3) := by decide +kernel
theorem dL_refused_191 : decode cL_refused 191 = .ok (.aload_n 0, 1) := by decide +kernel
theorem dL_refused_192 : decode cL_refused 192 = .ok (.iconst (-1), 1) := by decide +kernel
theorem dL_refused_193 : decode cL_refused 193 = .ok (.invokestatic 151, 3) := by decide +kernel
theorem dL_refused_196 : decode cL_refused 196 = .ok (.sipush (-1001), 3) := by decide +kernel
theorem dL_refused_199 : decode cL_refused 199 = .ok (.if_icmp .ne 112, 3) := by decide +kernel
theorem dL_refused_202 : decode cL_refused 202 = .ok (.aload_n 0, 1) := by decide +kernel
theorem dL_refused_203 : decode cL_refused 203 = .ok (.bipush 21, 2) := by decide +kernel
theorem dL_refused_205 : decode cL_refused 205 = .ok (.invokestatic 151, 3) := by decide +kernel
theorem dL_refused_208 : decode cL_refused 208 = .ok (.sipush (-1001), 3) := by decide +kernel
theorem dL_refused_211 : decode cL_refused 211 = .ok (.if_icmp .ne 100, 3) := by decide +kernel
theorem dL_refused_214 : decode cL_refused 214 = .ok (.aload_n 0, 1) := by decide +kernel
theorem dL_refused_215 : decode cL_refused 215 = .ok (.iload_n 3, 1) := by decide +kernel
theorem dL_refused_216 : decode cL_refused 216 = .ok (.bipush 99, 2) := by decide +kernel
theorem dL_refused_218 : decode cL_refused 218 = .ok (.invokestatic 181, 3) := by decide +kernel
theorem dL_refused_221 : decode cL_refused 221 = .ok (.sipush (-1001), 3) := by decide +kernel
theorem dL_refused_224 : decode cL_refused 224 = .ok (.if_icmp .ne 87, 3) := by decide +kernel
theorem dL_refused_227 : decode cL_refused 227 = .ok (.aload_n 0, 1) := by decide +kernel
theorem dL_refused_228 : decode cL_refused 228 = .ok (.iconst 0, 1) := by decide +kernel
theorem dL_refused_229 : decode cL_refused 229 = .ok (.bipush 9, 2) := by decide +kernel
theorem dL_refused_231 : decode cL_refused 231 = .ok (.invokestatic 181, 3) := by decide +kernel
theorem dL_refused_234 : decode cL_refused 234 = .ok (.sipush (-1002), 3) := by decide +kernel
theorem dL_refused_237 : decode cL_refused 237 = .ok (.if_icmp .ne 74, 3) := by decide +kernel
theorem dL_refused_240 : decode cL_refused 240 = .ok (.aload_n 0, 1) := by decide +kernel
theorem dL_refused_241 : decode cL_refused 241 = .ok (.iconst 0, 1) := by decide +kernel
theorem dL_refused_242 : decode cL_refused 242 = .ok (.iconst (-1), 1) := by decide +kernel
theorem dL_refused_243 : decode cL_refused 243 = .ok (.invokestatic 181, 3) := by decide +kernel
theorem dL_refused_246 : decode cL_refused 246 = .ok (.sipush (-1002), 3) := by decide +kernel
theorem dL_refused_249 : decode cL_refused 249 = .ok (.if_icmp .ne 62, 3) := by decide +kernel
theorem dL_refused_252 : decode cL_refused 252 = .ok (.aload_n 0, 1) := by decide +kernel
theorem dL_refused_253 : decode cL_refused 253 = .ok (.iload_n 3, 1) := by decide +kernel
theorem dL_refused_254 : decode cL_refused 254 = .ok (.invokestatic 183, 3) := by decide +kernel
theorem dL_refused_257 : decode cL_refused 257 = .ok (.sipush (-1001), 3) := by decide +kernel
theorem dL_refused_260 : decode cL_refused 260 = .ok (.if_icmp .ne 51, 3) := by decide +kernel
theorem dL_refused_263 : decode cL_refused 263 = .ok (.aload_n 0, 1) := by decide +kernel
theorem dL_refused_264 : decode cL_refused 264 = .ok (.iload_n 3, 1) := by decide +kernel
theorem dL_refused_265 : decode cL_refused 265 = .ok (.invokestatic 206, 3) := by decide +kernel
theorem dL_refused_268 : decode cL_refused 268 = .ok (.sipush (-1001), 3) := by decide +kernel
theorem dL_refused_271 : decode cL_refused 271 = .ok (.if_icmp .ne 40, 3) := by decide +kernel
theorem dL_refused_274 : decode cL_refused 274 = .ok (.aload_n 0, 1) := by decide +kernel
theorem dL_refused_275 : decode cL_refused 275 = .ok (.iload_n 3, 1) := by decide +kernel
theorem dL_refused_276 : decode cL_refused 276 = .ok (.invokestatic 208, 3) := by decide +kernel
theorem dL_refused_279 : decode cL_refused 279 = .ok (.sipush (-1001), 3) := by decide +kernel
theorem dL_refused_282 : decode cL_refused 282 = .ok (.if_icmp .ne 29, 3) := by decide +kernel
theorem dL_refused_285 : decode cL_refused 285 = .ok (.aload_n 0, 1) := by decide +kernel
theorem dL_refused_286 : decode cL_refused 286 = .ok (.iconst (-1), 1) := by decide +kernel
theorem dL_refused_287 : decode cL_refused 287 = .ok (.invokestatic 210, 3) := by decide +kernel
theorem dL_refused_290 : decode cL_refused 290 = .ok (.sipush (-1001), 3) := by decide +kernel
theorem dL_refused_293 : decode cL_refused 293 = .ok (.if_icmp .ne 18, 3) := by decide +kernel
theorem dL_refused_296 : decode cL_refused 296 = .ok (.aload_n 0, 1) := by decide +kernel
theorem dL_refused_297 : decode cL_refused 297 = .ok (.iload_n 3, 1) := by decide +kernel
theorem dL_refused_298 : decode cL_refused 298 = .ok (.invokestatic 204, 3) := by decide +kernel
theorem dL_refused_301 : decode cL_refused 301 = .ok (.sipush (-1001), 3) := by decide +kernel
theorem dL_refused_304 : decode cL_refused 304 = .ok (.if_icmp .ne 7, 3) := by decide +kernel
theorem dL_refused_307 : decode cL_refused 307 = .ok (.iconst 1, 1) := by decide +kernel
theorem dL_refused_308 : decode cL_refused 308 = .ok (.goto 4, 3) := by decide +kernel
theorem dL_refused_311 : decode cL_refused 311 = .ok (.iconst 0, 1) := by decide +kernel
theorem dL_refused_312 : decode cL_refused 312 = .ok (.istore 4, 2) := by decide +kernel
theorem dL_refused_314 : decode cL_refused 314 = .ok (.iload 4, 2) := by decide +kernel
theorem dL_refused_316 : decode cL_refused 316 = .ok (.ifCond .eq 132, 3) := by decide +kernel
theorem dL_refused_319 : decode cL_refused 319 = .ok (.aload_n 0, 1) := by decide +kernel
theorem dL_refused_320 : decode cL_refused 320 = .ok (.iconst 0, 1) := by decide +kernel
theorem dL_refused_321 : decode cL_refused 321 = .ok (.invokestatic 212, 3) := by decide +kernel
theorem dL_refused_324 : decode cL_refused 324 = .ok (.sipush (-1001), 3) := by decide +kernel
theorem dL_refused_327 : decode cL_refused 327 = .ok (.if_icmp .ne 121, 3) := by decide +kernel
theorem dL_refused_330 : decode cL_refused 330 = .ok (.aload_n 0, 1) := by decide +kernel
theorem dL_refused_331 : decode cL_refused 331 = .ok (.bipush 25, 2) := by decide +kernel
theorem dL_refused_333 : decode cL_refused 333 = .ok (.invokestatic 212, 3) := by decide +kernel
theorem dL_refused_336 : decode cL_refused 336 = .ok (.sipush (-1001), 3) := by decide +kernel
theorem dL_refused_339 : decode cL_refused 339 = .ok (.if_icmp .ne 109, 3) := by decide +kernel
theorem dL_refused_342 : decode cL_refused 342 = .ok (.aload_n 0, 1) := by decide +kernel
theorem dL_refused_343 : decode cL_refused 343 = .ok (.iload_n 3, 1) := by decide +kernel
theorem dL_refused_344 : decode cL_refused 344 = .ok (.invokestatic 185, 3) := by decide +kernel
theorem dL_refused_347 : decode cL_refused 347 = .ok (.sipush (-1001), 3) := by decide +kernel
theorem dL_refused_350 : decode cL_refused 350 = .ok (.if_icmp .ne 98, 3) := by decide +kernel
theorem dL_refused_353 : decode cL_refused 353 = .ok (.aload_n 0, 1) := by decide +kernel
theorem dL_refused_354 : decode cL_refused 354 = .ok (.iconst 3, 1) := by decide +kernel
theorem dL_refused_355 : decode cL_refused 355 = .ok (.invokestatic 187, 3) := by decide +kernel
theorem dL_refused_358 : decode cL_refused 358 = .ok (.sipush (-1001), 3) := by decide +kernel
theorem dL_refused_361 : decode cL_refused 361 = .ok (.if_icmp .ne 87, 3) := by decide +kernel
theorem dL_refused_364 : decode cL_refused 364 = .ok (.aload_n 0, 1) := by decide +kernel
theorem dL_refused_365 : decode cL_refused 365 = .ok (.iconst (-1), 1) := by decide +kernel
theorem dL_refused_366 : decode cL_refused 366 = .ok (.invokestatic 187, 3) := by decide +kernel
theorem dL_refused_369 : decode cL_refused 369 = .ok (.sipush (-1001), 3) := by decide +kernel
theorem dL_refused_372 : decode cL_refused 372 = .ok (.if_icmp .ne 76, 3) := by decide +kernel
theorem dL_refused_375 : decode cL_refused 375 = .ok (.aload_n 0, 1) := by decide +kernel
theorem dL_refused_376 : decode cL_refused 376 = .ok (.iconst (-1), 1) := by decide +kernel
theorem dL_refused_377 : decode cL_refused 377 = .ok (.invokestatic 218, 3) := by decide +kernel
theorem dL_refused_380 : decode cL_refused 380 = .ok (.sipush (-1001), 3) := by decide +kernel
theorem dL_refused_383 : decode cL_refused 383 = .ok (.if_icmp .ne 65, 3) := by decide +kernel
theorem dL_refused_386 : decode cL_refused 386 = .ok (.aload_n 0, 1) := by decide +kernel
theorem dL_refused_387 : decode cL_refused 387 = .ok (.bipush 8, 2) := by decide +kernel
theorem dL_refused_389 : decode cL_refused 389 = .ok (.invokestatic 218, 3) := by decide +kernel
theorem dL_refused_392 : decode cL_refused 392 = .ok (.sipush (-1001), 3) := by decide +kernel
theorem dL_refused_395 : decode cL_refused 395 = .ok (.if_icmp .ne 53, 3) := by decide +kernel
theorem dL_refused_398 : decode cL_refused 398 = .ok (.aload_n 0, 1) := by decide +kernel
theorem dL_refused_399 : decode cL_refused 399 = .ok (.iconst (-1), 1) := by decide +kernel
theorem dL_refused_400 : decode cL_refused 400 = .ok (.invokestatic 138, 3) := by decide +kernel
theorem dL_refused_403 : decode cL_refused 403 = .ok (.sipush (-1001), 3) := by decide +kernel
theorem dL_refused_406 : decode cL_refused 406 = .ok (.if_icmp .ne 42, 3) := by decide +kernel
theorem dL_refused_409 : decode cL_refused 409 = .ok (.aload_n 0, 1) := by decide +kernel
theorem dL_refused_410 : decode cL_refused 410 = .ok (.bipush 13, 2) := by decide +kernel
theorem dL_refused_412 : decode cL_refused 412 = .ok (.invokestatic 138, 3) := by decide +kernel
theorem dL_refused_415 : decode cL_refused 415 = .ok (.sipush (-1001), 3) := by decide +kernel
theorem dL_refused_418 : decode cL_refused 418 = .ok (.if_icmp .ne 30, 3) := by decide +kernel
theorem dL_refused_421 : decode cL_refused 421 = .ok (.aload_n 0, 1) := by decide +kernel
theorem dL_refused_422 : decode cL_refused 422 = .ok (.bipush 19, 2) := by decide +kernel
theorem dL_refused_424 : decode cL_refused 424 = .ok (.invokestatic 177, 3) := by decide +kernel
theorem dL_refused_427 : decode cL_refused 427 = .ok (.sipush (-1001), 3) := by decide +kernel
theorem dL_refused_430 : decode cL_refused 430 = .ok (.if_icmp .ne 18, 3) := by decide +kernel
theorem dL_refused_433 : decode cL_refused 433 = .ok (.aload_n 0, 1) := by decide +kernel
theorem dL_refused_434 : decode cL_refused 434 = .ok (.iconst (-1), 1) := by decide +kernel
theorem dL_refused_435 : decode cL_refused 435 = .ok (.invokestatic 177, 3) := by decide +kernel
theorem dL_refused_438 : decode cL_refused 438 = .ok (.sipush (-1001), 3) := by decide +kernel
theorem dL_refused_441 : decode cL_refused 441 = .ok (.if_icmp .ne 7, 3) := by decide +kernel
theorem dL_refused_444 : decode cL_refused 444 = .ok (.iconst 1, 1) := by decide +kernel
theorem dL_refused_445 : decode cL_refused 445 = .ok (.goto 4, 3) := by decide +kernel
theorem dL_refused_448 : decode cL_refused 448 = .ok (.iconst 0, 1) := by decide +kernel
theorem dL_refused_449 : decode cL_refused 449 = .ok (.istore 4, 2) := by decide +kernel
theorem dL_refused_451 : decode cL_refused 451 = .ok (.iload 4, 2) := by decide +kernel
theorem dL_refused_453 : decode cL_refused 453 = .ok (.ifCond .eq 53, 3) := by decide +kernel
theorem dL_refused_456 : decode cL_refused 456 = .ok (.aload_n 0, 1) := by decide +kernel
theorem dL_refused_457 : decode cL_refused 457 = .ok (.ldc 220, 2) := by decide +kernel
theorem dL_refused_459 : decode cL_refused 459 = .ok (.invokestatic 222, 3) := by decide +kernel
theorem dL_refused_462 : decode cL_refused 462 = .ok (.sipush (-1001), 3) := by decide +kernel
theorem dL_refused_465 : decode cL_refused 465 = .ok (.if_icmp .ne 41, 3) := by decide +kernel
theorem dL_refused_468 : decode cL_refused 468 = .ok (.aload_n 0, 1) := by decide +kernel
theorem dL_refused_469 : decode cL_refused 469 = .ok (.invokestatic 226, 3) := by decide +kernel
theorem dL_refused_472 : decode cL_refused 472 = .ok (.ifCond .ne 34, 3) := by decide +kernel
theorem dL_refused_475 : decode cL_refused 475 = .ok (.aload_n 0, 1) := by decide +kernel
theorem dL_refused_476 : decode cL_refused 476 = .ok (.ldc 228, 2) := by decide +kernel
theorem dL_refused_478 : decode cL_refused 478 = .ok (.invokestatic 222, 3) := by decide +kernel
theorem dL_refused_481 : decode cL_refused 481 = .ok (.iload_n 3, 1) := by decide +kernel
theorem dL_refused_482 : decode cL_refused 482 = .ok (.if_icmp .ne 24, 3) := by decide +kernel
theorem dL_refused_485 : decode cL_refused 485 = .ok (.aload_n 0, 1) := by decide +kernel
theorem dL_refused_486 : decode cL_refused 486 = .ok (.iconst 0, 1) := by decide +kernel
theorem dL_refused_487 : decode cL_refused 487 = .ok (.invokestatic 218, 3) := by decide +kernel
theorem dL_refused_490 : decode cL_refused 490 = .ok (.ifCond .ne 16, 3) := by decide +kernel
theorem dL_refused_493 : decode cL_refused 493 = .ok (.aload_n 0, 1) := by decide +kernel
theorem dL_refused_494 : decode cL_refused 494 = .ok (.invokestatic 214, 3) := by decide +kernel
theorem dL_refused_497 : decode cL_refused 497 = .ok (.lload_n 1, 1) := by decide +kernel
theorem dL_refused_498 : decode cL_refused 498 = .ok (.lcmp, 1) := by decide +kernel
theorem dL_refused_499 : decode cL_refused 499 = .ok (.ifCond .ne 7, 3) := by decide +kernel
theorem dL_refused_502 : decode cL_refused 502 = .ok (.iconst 1, 1) := by decide +kernel
theorem dL_refused_503 : decode cL_refused 503 = .ok (.goto 4, 3) := by decide +kernel
theorem dL_refused_506 : decode cL_refused 506 = .ok (.iconst 0, 1) := by decide +kernel
theorem dL_refused_507 : decode cL_refused 507 = .ok (.ireturn, 1) := by decide +kernel
theorem dL_law_0 : decode cL_law 0 = .ok (.new 8, 3) := by decide +kernel
theorem dL_law_3 : decode cL_law 3 = .ok (.dup, 1) := by decide +kernel
theorem dL_law_4 : decode cL_law 4 = .ok (.invokespecial 230, 3) := by decide +kernel
theorem dL_law_7 : decode cL_law 7 = .ok (.astore_n 1, 1) := by decide +kernel
theorem dL_law_8 : decode cL_law 8 = .ok (.aload_n 1, 1) := by decide +kernel
theorem dL_law_9 : decode cL_law 9 = .ok (.invokestatic 231, 3) := by decide +kernel
theorem dL_law_12 : decode cL_law 12 = .ok (.sipush (-1001), 3) := by decide +kernel
theorem dL_law_15 : decode cL_law 15 = .ok (.if_icmp .ne 71, 3) := by decide +kernel
theorem dL_law_18 : decode cL_law 18 = .ok (.aload_n 1, 1) := by decide +kernel
theorem dL_law_19 : decode cL_law 19 = .ok (.invokestatic 233, 3) := by decide +kernel
theorem dL_law_22 : decode cL_law 22 = .ok (.sipush (-1001), 3) := by decide +kernel
theorem dL_law_25 : decode cL_law 25 = .ok (.if_icmp .ne 61, 3) := by decide +kernel
theorem dL_law_28 : decode cL_law 28 = .ok (.aload_n 1, 1) := by decide +kernel
theorem dL_law_29 : decode cL_law 29 = .ok (.invokevirtual 235, 3) := by decide +kernel
theorem dL_law_32 : decode cL_law 32 = .ok (.ifCond .ne 54, 3) := by decide +kernel
theorem dL_law_35 : decode cL_law 35 = .ok (.aload_n 1, 1) := by decide +kernel
theorem dL_law_36 : decode cL_law 36 = .ok (.bipush 24, 2) := by decide +kernel
theorem dL_law_38 : decode cL_law 38 = .ok (.invokestatic 212, 3) := by decide +kernel
theorem dL_law_41 : decode cL_law 41 = .ok (.ifCond .ne 45, 3) := by decide +kernel
theorem dL_law_44 : decode cL_law 44 = .ok (.aload_n 1, 1) := by decide +kernel
theorem dL_law_45 : decode cL_law 45 = .ok (.iconst 0, 1) := by decide +kernel
theorem dL_law_46 : decode cL_law 46 = .ok (.invokestatic 177, 3) := by decide +kernel
theorem dL_law_49 : decode cL_law 49 = .ok (.bipush 24, 2) := by decide +kernel
theorem dL_law_51 : decode cL_law 51 = .ok (.if_icmp .ne 35, 3) := by decide +kernel
theorem dL_law_54 : decode cL_law 54 = .ok (.aload_n 1, 1) := by decide +kernel
theorem dL_law_55 : decode cL_law 55 = .ok (.iconst 1, 1) := by decide +kernel
theorem dL_law_56 : decode cL_law 56 = .ok (.invokestatic 177, 3) := by decide +kernel
theorem dL_law_59 : decode cL_law 59 = .ok (.iconst 4, 1) := by decide +kernel
theorem dL_law_60 : decode cL_law 60 = .ok (.if_icmp .ne 26, 3) := by decide +kernel
theorem dL_law_63 : decode cL_law 63 = .ok (.aload_n 1, 1) := by decide +kernel
theorem dL_law_64 : decode cL_law 64 = .ok (.invokevirtual 189, 3) := by decide +kernel
theorem dL_law_67 : decode cL_law 67 = .ok (.ifCond .ne 19, 3) := by decide +kernel
theorem dL_law_70 : decode cL_law 70 = .ok (.aload_n 1, 1) := by decide +kernel
theorem dL_law_71 : decode cL_law 71 = .ok (.invokestatic 195, 3) := by decide +kernel
theorem dL_law_74 : decode cL_law 74 = .ok (.ifCond .ne 12, 3) := by decide +kernel
theorem dL_law_77 : decode cL_law 77 = .ok (.aload_n 1, 1) := by decide +kernel
theorem dL_law_78 : decode cL_law 78 = .ok (.invokevirtual 192, 3) := by decide +kernel
theorem dL_law_81 : decode cL_law 81 = .ok (.bipush 7, 2) := by decide +kernel
theorem dL_law_83 : decode cL_law 83 = .ok (.if_icmp .eq 5, 3) := by decide +kernel
theorem dL_law_86 : decode cL_law 86 = .ok (.iconst 0, 1) := by decide +kernel
theorem dL_law_87 : decode cL_law 87 = .ok (.ireturn, 1) := by decide +kernel
theorem dL_law_88 : decode cL_law 88 = .ok (.iconst 0, 1) := by decide +kernel
theorem dL_law_89 : decode cL_law 89 = .ok (.istore_n 2, 1) := by decide +kernel
theorem dL_law_90 : decode cL_law 90 = .ok (.iload_n 2, 1) := by decide +kernel
theorem dL_law_91 : decode cL_law 91 = .ok (.bipush 60, 2) := by decide +kernel
theorem dL_law_93 : decode cL_law 93 = .ok (.if_icmp .ge 27, 3) := by decide +kernel
theorem dL_law_96 : decode cL_law 96 = .ok (.aload_n 1, 1) := by decide +kernel
theorem dL_law_97 : decode cL_law 97 = .ok (.sipush 300, 3) := by decide +kernel
theorem dL_law_100 : decode cL_law 100 = .ok (.iload_n 2, 1) := by decide +kernel
theorem dL_law_101 : decode cL_law 101 = .ok (.iadd, 1) := by decide +kernel
theorem dL_law_102 : decode cL_law 102 = .ok (.i2c, 1) := by decide +kernel
theorem dL_law_103 : decode cL_law 103 = .ok (.invokestatic 124, 3) := by decide +kernel
theorem dL_law_106 : decode cL_law 106 = .ok (.iload_n 2, 1) := by decide +kernel
theorem dL_law_107 : decode cL_law 107 = .ok (.iconst 1, 1) := by decide +kernel
theorem dL_law_108 : decode cL_law 108 = .ok (.iadd, 1) := by decide +kernel
theorem dL_law_109 : decode cL_law 109 = .ok (.if_icmp .eq 5, 3) := by decide +kernel
theorem dL_law_112 : decode cL_law 112 = .ok (.iconst 0, 1) := by decide +kernel
theorem dL_law_113 : decode cL_law 113 = .ok (.ireturn, 1) := by decide +kernel
theorem dL_law_114 : decode cL_law 114 = .ok (.iinc 2 1, 3) := by decide +kernel
theorem dL_law_117 : decode cL_law 117 = .ok (.goto (-27), 3) := by decide +kernel
theorem dL_law_120 : decode cL_law 120 = .ok (.aload_n 1, 1) := by decide +kernel
theorem dL_law_121 : decode cL_law 121 = .ok (.bipush 119, 2) := by decide +kernel
theorem dL_law_123 : decode cL_law 123 = .ok (.invokestatic 124, 3) := by decide +kernel
theorem dL_law_126 : decode cL_law 126 = .ok (.sipush (-1001), 3) := by decide +kernel
theorem dL_law_129 : decode cL_law 129 = .ok (.if_icmp .ne 29, 3) := by decide +kernel
theorem dL_law_132 : decode cL_law 132 = .ok (.aload_n 1, 1) := by decide +kernel
theorem dL_law_133 : decode cL_law 133 = .ok (.invokestatic 129, 3) := by decide +kernel
theorem dL_law_136 : decode cL_law 136 = .ok (.sipush (-1001), 3) := by decide +kernel
theorem dL_law_139 : decode cL_law 139 = .ok (.if_icmp .ne 19, 3) := by decide +kernel
theorem dL_law_142 : decode cL_law 142 = .ok (.aload_n 1, 1) := by decide +kernel
theorem dL_law_143 : decode cL_law 143 = .ok (.invokestatic 226, 3) := by decide +kernel
theorem dL_law_146 : decode cL_law 146 = .ok (.ifCond .ne 12, 3) := by decide +kernel
theorem dL_law_149 : decode cL_law 149 = .ok (.aload_n 1, 1) := by decide +kernel
theorem dL_law_150 : decode cL_law 150 = .ok (.bipush 17, 2) := by decide +kernel
theorem dL_law_152 : decode cL_law 152 = .ok (.invokestatic 177, 3) := by decide +kernel
theorem dL_law_155 : decode cL_law 155 = .ok (.ifCond .eq 5, 3) := by decide +kernel
theorem dL_law_158 : decode cL_law 158 = .ok (.iconst 0, 1) := by decide +kernel
theorem dL_law_159 : decode cL_law 159 = .ok (.ireturn, 1) := by decide +kernel
theorem dL_law_160 : decode cL_law 160 = .ok (.iconst 0, 1) := by decide +kernel
theorem dL_law_161 : decode cL_law 161 = .ok (.istore_n 2, 1) := by decide +kernel
theorem dL_law_162 : decode cL_law 162 = .ok (.iload_n 2, 1) := by decide +kernel
theorem dL_law_163 : decode cL_law 163 = .ok (.bipush 8, 2) := by decide +kernel
theorem dL_law_165 : decode cL_law 165 = .ok (.if_icmp .ge 30, 3) := by decide +kernel
theorem dL_law_168 : decode cL_law 168 = .ok (.aload_n 1, 1) := by decide +kernel
theorem dL_law_169 : decode cL_law 169 = .ok (.iload_n 2, 1) := by decide +kernel
theorem dL_law_170 : decode cL_law 170 = .ok (.iconst 4, 1) := by decide +kernel
theorem dL_law_171 : decode cL_law 171 = .ok (.if_icmp .ge 7, 3) := by decide +kernel
theorem dL_law_174 : decode cL_law 174 = .ok (.iconst 0, 1) := by decide +kernel
theorem dL_law_175 : decode cL_law 175 = .ok (.goto 5, 3) := by decide +kernel
theorem dL_law_178 : decode cL_law 178 = .ok (.bipush 20, 2) := by decide +kernel
theorem dL_law_180 : decode cL_law 180 = .ok (.invokestatic 151, 3) := by decide +kernel
theorem dL_law_183 : decode cL_law 183 = .ok (.iload_n 2, 1) := by decide +kernel
theorem dL_law_184 : decode cL_law 184 = .ok (.if_icmp .eq 5, 3) := by decide +kernel
theorem dL_law_187 : decode cL_law 187 = .ok (.iconst 0, 1) := by decide +kernel
theorem dL_law_188 : decode cL_law 188 = .ok (.ireturn, 1) := by decide +kernel
theorem dL_law_189 : decode cL_law 189 = .ok (.iinc 2 1, 3) := by decide +kernel
theorem dL_law_192 : decode cL_law 192 = .ok (.goto (-30), 3) := by decide +kernel
theorem dL_law_195 : decode cL_law 195 = .ok (.aload_n 1, 1) := by decide +kernel
theorem dL_law_196 : decode cL_law 196 = .ok (.iconst 0, 1) := by decide +kernel
theorem dL_law_197 : decode cL_law 197 = .ok (.invokestatic 151, 3) := by decide +kernel
theorem dL_law_200 : decode cL_law 200 = .ok (.sipush (-1002), 3) := by decide +kernel
theorem dL_law_203 : decode cL_law 203 = .ok (.if_icmp .ne 191, 3) := by decide +kernel
theorem dL_law_206 : decode cL_law 206 = .ok (.aload_n 1, 1) := by decide +kernel
theorem dL_law_207 : decode cL_law 207 = .ok (.iconst 1, 1) := by decide +kernel
theorem dL_law_208 : decode cL_law 208 = .ok (.bipush 8, 2) := by decide +kernel
theorem dL_law_210 : decode cL_law 210 = .ok (.invokestatic 238, 3) := by decide +kernel
theorem dL_law_213 : decode cL_law 213 = .ok (.ifCond .eq 181, 3) := by decide +kernel
theorem dL_law_216 : decode cL_law 216 = .ok (.aload_n 1, 1) := by decide +kernel
theorem dL_law_217 : decode cL_law 217 = .ok (.iconst 0, 1) := by decide +kernel
theorem dL_law_218 : decode cL_law 218 = .ok (.invokestatic 183, 3) := by decide +kernel
theorem dL_law_221 : decode cL_law 221 = .ok (.iconst 2, 1) := by decide +kernel
theorem dL_law_222 : decode cL_law 222 = .ok (.if_icmp .ne 172, 3) := by decide +kernel
theorem dL_law_225 : decode cL_law 225 = .ok (.aload_n 1, 1) := by decide +kernel
theorem dL_law_226 : decode cL_law 226 = .ok (.bipush 7, 2) := by decide +kernel
theorem dL_law_228 : decode cL_law 228 = .ok (.invokestatic 183, 3) := by decide +kernel
theorem dL_law_231 : decode cL_law 231 = .ok (.bipush 8, 2) := by decide +kernel
theorem dL_law_233 : decode cL_law 233 = .ok (.if_icmp .ne 161, 3) := by decide +kernel
theorem dL_law_236 : decode cL_law 236 = .ok (.aload_n 1, 1) := by decide +kernel
theorem dL_law_237 : decode cL_law 237 = .ok (.bipush 7, 2) := by decide +kernel
theorem dL_law_239 : decode cL_law 239 = .ok (.invokestatic 206, 3) := by decide +kernel
theorem dL_law_242 : decode cL_law 242 = .ok (.bipush 8, 2) := by decide +kernel
theorem dL_law_244 : decode cL_law 244 = .ok (.if_icmp .ne 150, 3) := by decide +kernel
theorem dL_law_247 : decode cL_law 247 = .ok (.aload_n 1, 1) := by decide +kernel
theorem dL_law_248 : decode cL_law 248 = .ok (.bipush 7, 2) := by decide +kernel
theorem dL_law_250 : decode cL_law 250 = .ok (.bipush 8, 2) := by decide +kernel
theorem dL_law_252 : decode cL_law 252 = .ok (.invokestatic 181, 3) := by decide +kernel
theorem dL_law_255 : decode cL_law 255 = .ok (.ifCond .ne 139, 3) := by decide +kernel
theorem dL_law_258 : decode cL_law 258 = .ok (.aload_n 1, 1) := by decide +kernel
theorem dL_law_259 : decode cL_law 259 = .ok (.bipush 7, 2) := by decide +kernel
theorem dL_law_261 : decode cL_law 261 = .ok (.invokestatic 208, 3) := by decide +kernel
theorem dL_law_264 : decode cL_law 264 = .ok (.iconst (-1), 1) := by decide +kernel
theorem dL_law_265 : decode cL_law 265 = .ok (.if_icmp .ne 129, 3) := by decide +kernel
theorem dL_law_268 : decode cL_law 268 = .ok (.aload_n 1, 1) := by decide +kernel
theorem dL_law_269 : decode cL_law 269 = .ok (.bipush 7, 2) := by decide +kernel
theorem dL_law_271 : decode cL_law 271 = .ok (.invokestatic 210, 3) := by decide +kernel
theorem dL_law_274 : decode cL_law 274 = .ok (.iconst (-1), 1) := by decide +kernel
theorem dL_law_275 : decode cL_law 275 = .ok (.if_icmp .ne 119, 3) := by decide +kernel
theorem dL_law_278 : decode cL_law 278 = .ok (.aload_n 1, 1) := by decide +kernel
theorem dL_law_279 : decode cL_law 279 = .ok (.bipush 7, 2) := by decide +kernel
theorem dL_law_281 : decode cL_law 281 = .ok (.invokestatic 204, 3) := by decide +kernel
theorem dL_law_284 : decode cL_law 284 = .ok (.sipush (-1002), 3) := by decide +kernel
theorem dL_law_287 : decode cL_law 287 = .ok (.if_icmp .ne 107, 3) := by decide +kernel
theorem dL_law_290 : decode cL_law 290 = .ok (.aload_n 1, 1) := by decide +kernel
theorem dL_law_291 : decode cL_law 291 = .ok (.iconst 2, 1) := by decide +kernel
theorem dL_law_292 : decode cL_law 292 = .ok (.iconst (-1), 1) := by decide +kernel
theorem dL_law_293 : decode cL_law 293 = .ok (.invokestatic 238, 3) := by decide +kernel
theorem dL_law_296 : decode cL_law 296 = .ok (.ifCond .eq 98, 3) := by decide +kernel
theorem dL_law_299 : decode cL_law 299 = .ok (.aload_n 1, 1) := by decide +kernel
theorem dL_law_300 : decode cL_law 300 = .ok (.iconst 0, 1) := by decide +kernel
theorem dL_law_301 : decode cL_law 301 = .ok (.invokestatic 210, 3) := by decide +kernel
theorem dL_law_304 : decode cL_law 304 = .ok (.sipush (-1002), 3) := by decide +kernel
theorem dL_law_307 : decode cL_law 307 = .ok (.if_icmp .ne 87, 3) := by decide +kernel
theorem dL_law_310 : decode cL_law 310 = .ok (.aload_n 1, 1) := by decide +kernel
theorem dL_law_311 : decode cL_law 311 = .ok (.iconst 3, 1) := by decide +kernel
theorem dL_law_312 : decode cL_law 312 = .ok (.iconst (-1), 1) := by decide +kernel
theorem dL_law_313 : decode cL_law 313 = .ok (.invokestatic 238, 3) := by decide +kernel
theorem dL_law_316 : decode cL_law 316 = .ok (.ifCond .eq 78, 3) := by decide +kernel
theorem dL_law_319 : decode cL_law 319 = .ok (.aload_n 1, 1) := by decide +kernel
theorem dL_law_320 : decode cL_law 320 = .ok (.bipush 7, 2) := by decide +kernel
theorem dL_law_322 : decode cL_law 322 = .ok (.invokestatic 185, 3) := by decide +kernel
theorem dL_law_325 : decode cL_law 325 = .ok (.bipush 11, 2) := by decide +kernel
theorem dL_law_327 : decode cL_law 327 = .ok (.if_icmp .ne 67, 3) := by decide +kernel
theorem dL_law_330 : decode cL_law 330 = .ok (.aload_n 1, 1) := by decide +kernel
theorem dL_law_331 : decode cL_law 331 = .ok (.bipush 11, 2) := by decide +kernel
theorem dL_law_333 : decode cL_law 333 = .ok (.invokestatic 212, 3) := by decide +kernel
theorem dL_law_336 : decode cL_law 336 = .ok (.iconst 1, 1) := by decide +kernel
theorem dL_law_337 : decode cL_law 337 = .ok (.if_icmp .ne 57, 3) := by decide +kernel
theorem dL_law_340 : decode cL_law 340 = .ok (.aload_n 1, 1) := by decide +kernel
theorem dL_law_341 : decode cL_law 341 = .ok (.bipush 7, 2) := by decide +kernel
theorem dL_law_343 : decode cL_law 343 = .ok (.iconst 3, 1) := by decide +kernel
theorem dL_law_344 : decode cL_law 344 = .ok (.invokestatic 181, 3) := by decide +kernel
theorem dL_law_347 : decode cL_law 347 = .ok (.bipush 10, 2) := by decide +kernel
theorem dL_law_349 : decode cL_law 349 = .ok (.if_icmp .ne 45, 3) := by decide +kernel
theorem dL_law_352 : decode cL_law 352 = .ok (.aload_n 1, 1) := by decide +kernel
theorem dL_law_353 : decode cL_law 353 = .ok (.bipush 12, 2) := by decide +kernel
theorem dL_law_355 : decode cL_law 355 = .ok (.invokestatic 177, 3) := by decide +kernel
theorem dL_law_358 : decode cL_law 358 = .ok (.bipush 8, 2) := by decide +kernel
theorem dL_law_360 : decode cL_law 360 = .ok (.if_icmp .ne 34, 3) := by decide +kernel
theorem dL_law_363 : decode cL_law 363 = .ok (.aload_n 1, 1) := by decide +kernel
theorem dL_law_364 : decode cL_law 364 = .ok (.iconst 0, 1) := by decide +kernel
theorem dL_law_365 : decode cL_law 365 = .ok (.invokestatic 204, 3) := by decide +kernel
theorem dL_law_368 : decode cL_law 368 = .ok (.ifCond .ne 26, 3) := by decide +kernel
theorem dL_law_371 : decode cL_law 371 = .ok (.aload_n 1, 1) := by decide +kernel
theorem dL_law_372 : decode cL_law 372 = .ok (.bipush 6, 2) := by decide +kernel
theorem dL_law_374 : decode cL_law 374 = .ok (.iconst 3, 1) := by decide +kernel
theorem dL_law_375 : decode cL_law 375 = .ok (.invokestatic 181, 3) := by decide +kernel
theorem dL_law_378 : decode cL_law 378 = .ok (.bipush 10, 2) := by decide +kernel
theorem dL_law_380 : decode cL_law 380 = .ok (.if_icmp .ne 14, 3) := by decide +kernel
theorem dL_law_383 : decode cL_law 383 = .ok (.aload_n 1, 1) := by decide +kernel
theorem dL_law_384 : decode cL_law 384 = .ok (.bipush 18, 2) := by decide +kernel
theorem dL_law_386 : decode cL_law 386 = .ok (.invokestatic 177, 3) := by decide +kernel
theorem dL_law_389 : decode cL_law 389 = .ok (.bipush 8, 2) := by decide +kernel
theorem dL_law_391 : decode cL_law 391 = .ok (.if_icmp .eq 5, 3) := by decide +kernel
theorem dL_law_394 : decode cL_law 394 = .ok (.iconst 0, 1) := by decide +kernel
theorem dL_law_395 : decode cL_law 395 = .ok (.ireturn, 1) := by decide +kernel
theorem dL_law_396 : decode cL_law 396 = .ok (.iconst 0, 1) := by decide +kernel
theorem dL_law_397 : decode cL_law 397 = .ok (.istore_n 2, 1) := by decide +kernel
theorem dL_law_398 : decode cL_law 398 = .ok (.iload_n 2, 1) := by decide +kernel
theorem dL_law_399 : decode cL_law 399 = .ok (.bipush 10, 2) := by decide +kernel
theorem dL_law_401 : decode cL_law 401 = .ok (.if_icmp .ge 23, 3) := by decide +kernel
theorem dL_law_404 : decode cL_law 404 = .ok (.aload_n 1, 1) := by decide +kernel
theorem dL_law_405 : decode cL_law 405 = .ok (.iload_n 2, 1) := by decide +kernel
theorem dL_law_406 : decode cL_law 406 = .ok (.bipush 6, 2) := by decide +kernel
theorem dL_law_408 : decode cL_law 408 = .ok (.invokestatic 148, 3) := by decide +kernel
theorem dL_law_411 : decode cL_law 411 = .ok (.bipush 10, 2) := by decide +kernel
theorem dL_law_413 : decode cL_law 413 = .ok (.if_icmp .eq 5, 3) := by decide +kernel
theorem dL_law_416 : decode cL_law 416 = .ok (.iconst 0, 1) := by decide +kernel
theorem dL_law_417 : decode cL_law 417 = .ok (.ireturn, 1) := by decide +kernel
theorem dL_law_418 : decode cL_law 418 = .ok (.iinc 2 1, 3) := by decide +kernel
theorem dL_law_421 : decode cL_law 421 = .ok (.goto (-23), 3) := by decide +kernel
theorem dL_law_424 : decode cL_law 424 = .ok (.iconst 0, 1) := by decide +kernel
theorem dL_law_425 : decode cL_law 425 = .ok (.istore_n 2, 1) := by decide +kernel
theorem dL_law_426 : decode cL_law 426 = .ok (.iload_n 2, 1) := by decide +kernel
theorem dL_law_427 : decode cL_law 427 = .ok (.iconst 3, 1) := by decide +kernel
theorem dL_law_428 : decode cL_law 428 = .ok (.if_icmp .ge 20, 3) := by decide +kernel
theorem dL_law_431 : decode cL_law 431 = .ok (.aload_n 1, 1) := by decide +kernel
theorem dL_law_432 : decode cL_law 432 = .ok (.iload_n 2, 1) := by decide +kernel
theorem dL_law_433 : decode cL_law 433 = .ok (.invokestatic 206, 3) := by decide +kernel
theorem dL_law_436 : decode cL_law 436 = .ok (.iconst 2, 1) := by decide +kernel
theorem dL_law_437 : decode cL_law 437 = .ok (.if_icmp .eq 5, 3) := by decide +kernel
theorem dL_law_440 : decode cL_law 440 = .ok (.iconst 0, 1) := by decide +kernel
theorem dL_law_441 : decode cL_law 441 = .ok (.ireturn, 1) := by decide +kernel
theorem dL_law_442 : decode cL_law 442 = .ok (.iinc 2 1, 3) := by decide +kernel
theorem dL_law_445 : decode cL_law 445 = .ok (.goto (-19), 3) := by decide +kernel
theorem dL_law_448 : decode cL_law 448 = .ok (.aload_n 1, 1) := by decide +kernel
theorem dL_law_449 : decode cL_law 449 = .ok (.invokestatic 242, 3) := by decide +kernel
theorem dL_law_452 : decode cL_law 452 = .ok (.iconst 3, 1) := by decide +kernel
theorem dL_law_453 : decode cL_law 453 = .ok (.if_icmp .ne 168, 3) := by decide +kernel
theorem dL_law_456 : decode cL_law 456 = .ok (.aload_n 1, 1) := by decide +kernel
theorem dL_law_457 : decode cL_law 457 = .ok (.bipush 10, 2) := by decide +kernel
theorem dL_law_459 : decode cL_law 459 = .ok (.invokestatic 212, 3) := by decide +kernel
theorem dL_law_462 : decode cL_law 462 = .ok (.ifCond .ne 159, 3) := by decide +kernel
theorem dL_law_465 : decode cL_law 465 = .ok (.aload_n 1, 1) := by decide +kernel
theorem dL_law_466 : decode cL_law 466 = .ok (.iconst 0, 1) := by decide +kernel
theorem dL_law_467 : decode cL_law 467 = .ok (.iconst 2, 1) := by decide +kernel
theorem dL_law_468 : decode cL_law 468 = .ok (.invokestatic 181, 3) := by decide +kernel
theorem dL_law_471 : decode cL_law 471 = .ok (.bipush 20, 2) := by decide +kernel
theorem dL_law_473 : decode cL_law 473 = .ok (.if_icmp .ne 148, 3) := by decide +kernel
theorem dL_law_476 : decode cL_law 476 = .ok (.aload_n 1, 1) := by decide +kernel
theorem dL_law_477 : decode cL_law 477 = .ok (.iconst 2, 1) := by decide +kernel
theorem dL_law_478 : decode cL_law 478 = .ok (.iconst 2, 1) := by decide +kernel
theorem dL_law_479 : decode cL_law 479 = .ok (.invokestatic 181, 3) := by decide +kernel
theorem dL_law_482 : decode cL_law 482 = .ok (.bipush 20, 2) := by decide +kernel
theorem dL_law_484 : decode cL_law 484 = .ok (.if_icmp .ne 137, 3) := by decide +kernel
theorem dL_law_487 : decode cL_law 487 = .ok (.aload_n 1, 1) := by decide +kernel
theorem dL_law_488 : decode cL_law 488 = .ok (.iconst 1, 1) := by decide +kernel
theorem dL_law_489 : decode cL_law 489 = .ok (.invokestatic 212, 3) := by decide +kernel
theorem dL_law_492 : decode cL_law 492 = .ok (.iconst 3, 1) := by decide +kernel
theorem dL_law_493 : decode cL_law 493 = .ok (.if_icmp .ne 128, 3) := by decide +kernel
theorem dL_law_496 : decode cL_law 496 = .ok (.aload_n 1, 1) := by decide +kernel
theorem dL_law_497 : decode cL_law 497 = .ok (.iconst 0, 1) := by decide +kernel
theorem dL_law_498 : decode cL_law 498 = .ok (.iconst 2, 1) := by decide +kernel
theorem dL_law_499 : decode cL_law 499 = .ok (.invokestatic 181, 3) := by decide +kernel
theorem dL_law_502 : decode cL_law 502 = .ok (.bipush 17, 2) := by decide +kernel
theorem dL_law_504 : decode cL_law 504 = .ok (.if_icmp .ne 117, 3) := by decide +kernel
theorem dL_law_507 : decode cL_law 507 = .ok (.aload_n 1, 1) := by decide +kernel
theorem dL_law_508 : decode cL_law 508 = .ok (.iconst 1, 1) := by decide +kernel
theorem dL_law_509 : decode cL_law 509 = .ok (.iconst 2, 1) := by decide +kernel
theorem dL_law_510 : decode cL_law 510 = .ok (.invokestatic 181, 3) := by decide +kernel
theorem dL_law_513 : decode cL_law 513 = .ok (.bipush 17, 2) := by decide +kernel
theorem dL_law_515 : decode cL_law 515 = .ok (.if_icmp .ne 106, 3) := by decide +kernel
theorem dL_law_518 : decode cL_law 518 = .ok (.aload_n 1, 1) := by decide +kernel
theorem dL_law_519 : decode cL_law 519 = .ok (.iconst 2, 1) := by decide +kernel
theorem dL_law_520 : decode cL_law 520 = .ok (.iconst 2, 1) := by decide +kernel
theorem dL_law_521 : decode cL_law 521 = .ok (.invokestatic 181, 3) := by decide +kernel
theorem dL_law_524 : decode cL_law 524 = .ok (.bipush 20, 2) := by decide +kernel
theorem dL_law_526 : decode cL_law 526 = .ok (.if_icmp .ne 95, 3) := by decide +kernel
theorem dL_law_529 : decode cL_law 529 = .ok (.aload_n 1, 1) := by decide +kernel
theorem dL_law_530 : decode cL_law 530 = .ok (.iconst 2, 1) := by decide +kernel
theorem dL_law_531 : decode cL_law 531 = .ok (.invokestatic 206, 3) := by decide +kernel
theorem dL_law_534 : decode cL_law 534 = .ok (.sipush (-1002), 3) := by decide +kernel
theorem dL_law_537 : decode cL_law 537 = .ok (.if_icmp .ne 84, 3) := by decide +kernel
theorem dL_law_540 : decode cL_law 540 = .ok (.aload_n 1, 1) := by decide +kernel
theorem dL_law_541 : decode cL_law 541 = .ok (.iconst 4, 1) := by decide +kernel
theorem dL_law_542 : decode cL_law 542 = .ok (.bipush 20, 2) := by decide +kernel
theorem dL_law_544 : decode cL_law 544 = .ok (.invokestatic 238, 3) := by decide +kernel
theorem dL_law_547 : decode cL_law 547 = .ok (.ifCond .eq 74, 3) := by decide +kernel
theorem dL_law_550 : decode cL_law 550 = .ok (.aload_n 1, 1) := by decide +kernel
theorem dL_law_551 : decode cL_law 551 = .ok (.bipush 15, 2) := by decide +kernel
theorem dL_law_553 : decode cL_law 553 = .ok (.invokestatic 177, 3) := by decide +kernel
theorem dL_law_556 : decode cL_law 556 = .ok (.bipush 54, 2) := by decide +kernel
theorem dL_law_558 : decode cL_law 558 = .ok (.if_icmp .ne 63, 3) := by decide +kernel
theorem dL_law_561 : decode cL_law 561 = .ok (.aload_n 1, 1) := by decide +kernel
theorem dL_law_562 : decode cL_law 562 = .ok (.iconst 1, 1) := by decide +kernel
theorem dL_law_563 : decode cL_law 563 = .ok (.invokestatic 212, 3) := by decide +kernel
theorem dL_law_566 : decode cL_law 566 = .ok (.ifCond .ne 55, 3) := by decide +kernel
theorem dL_law_569 : decode cL_law 569 = .ok (.aload_n 1, 1) := by decide +kernel
theorem dL_law_570 : decode cL_law 570 = .ok (.iconst 2, 1) := by decide +kernel
theorem dL_law_571 : decode cL_law 571 = .ok (.iconst 2, 1) := by decide +kernel
theorem dL_law_572 : decode cL_law 572 = .ok (.invokestatic 181, 3) := by decide +kernel
theorem dL_law_575 : decode cL_law 575 = .ok (.bipush 17, 2) := by decide +kernel
theorem dL_law_577 : decode cL_law 577 = .ok (.if_icmp .ne 44, 3) := by decide +kernel
theorem dL_law_580 : decode cL_law 580 = .ok (.aload_n 1, 1) := by decide +kernel
theorem dL_law_581 : decode cL_law 581 = .ok (.iconst 0, 1) := by decide +kernel
theorem dL_law_582 : decode cL_law 582 = .ok (.iconst 2, 1) := by decide +kernel
theorem dL_law_583 : decode cL_law 583 = .ok (.invokestatic 181, 3) := by decide +kernel
theorem dL_law_586 : decode cL_law 586 = .ok (.bipush 14, 2) := by decide +kernel
theorem dL_law_588 : decode cL_law 588 = .ok (.if_icmp .ne 33, 3) := by decide +kernel
theorem dL_law_591 : decode cL_law 591 = .ok (.aload_n 1, 1) := by decide +kernel
theorem dL_law_592 : decode cL_law 592 = .ok (.iconst 1, 1) := by decide +kernel
theorem dL_law_593 : decode cL_law 593 = .ok (.iconst 2, 1) := by decide +kernel
theorem dL_law_594 : decode cL_law 594 = .ok (.invokestatic 181, 3) := by decide +kernel
theorem dL_law_597 : decode cL_law 597 = .ok (.bipush 17, 2) := by decide +kernel
theorem dL_law_599 : decode cL_law 599 = .ok (.if_icmp .ne 22, 3) := by decide +kernel
theorem dL_law_602 : decode cL_law 602 = .ok (.aload_n 1, 1) := by decide +kernel
theorem dL_law_603 : decode cL_law 603 = .ok (.invokestatic 168, 3) := by decide +kernel
theorem dL_law_606 : decode cL_law 606 = .ok (.fconst 1, 1) := by decide +kernel
theorem dL_law_607 : decode cL_law 607 = .ok (.fcmp .l, 1) := by decide +kernel
theorem dL_law_608 : decode cL_law 608 = .ok (.ifCond .ne 13, 3) := by decide +kernel
theorem dL_law_611 : decode cL_law 611 = .ok (.aload_n 1, 1) := by decide +kernel
theorem dL_law_612 : decode cL_law 612 = .ok (.bipush 13, 2) := by decide +kernel
theorem dL_law_614 : decode cL_law 614 = .ok (.invokestatic 177, 3) := by decide +kernel
theorem dL_law_617 : decode cL_law 617 = .ok (.iconst 4, 1) := by decide +kernel
theorem dL_law_618 : decode cL_law 618 = .ok (.if_icmp .eq 5, 3) := by decide +kernel
theorem dL_law_621 : decode cL_law 621 = .ok (.iconst 0, 1) := by decide +kernel
theorem dL_law_622 : decode cL_law 622 = .ok (.ireturn, 1) := by decide +kernel
theorem dL_law_623 : decode cL_law 623 = .ok (.aload_n 1, 1) := by decide +kernel
theorem dL_law_624 : decode cL_law 624 = .ok (.invokestatic 233, 3) := by decide +kernel
theorem dL_law_627 : decode cL_law 627 = .ok (.ifCond .ne 29, 3) := by decide +kernel
theorem dL_law_630 : decode cL_law 630 = .ok (.aload_n 1, 1) := by decide +kernel
theorem dL_law_631 : decode cL_law 631 = .ok (.iconst 0, 1) := by decide +kernel
theorem dL_law_632 : decode cL_law 632 = .ok (.invokestatic 177, 3) := by decide +kernel
theorem dL_law_635 : decode cL_law 635 = .ok (.ifCond .ne 21, 3) := by decide +kernel
theorem dL_law_638 : decode cL_law 638 = .ok (.aload_n 1, 1) := by decide +kernel
theorem dL_law_639 : decode cL_law 639 = .ok (.iconst 3, 1) := by decide +kernel
theorem dL_law_640 : decode cL_law 640 = .ok (.invokestatic 177, 3) := by decide +kernel
theorem dL_law_643 : decode cL_law 643 = .ok (.ifCond .ne 13, 3) := by decide +kernel
theorem dL_law_646 : decode cL_law 646 = .ok (.aload_n 1, 1) := by decide +kernel
theorem dL_law_647 : decode cL_law 647 = .ok (.invokestatic 231, 3) := by decide +kernel
theorem dL_law_650 : decode cL_law 650 = .ok (.sipush (-1001), 3) := by decide +kernel
theorem dL_law_653 : decode cL_law 653 = .ok (.if_icmp .eq 5, 3) := by decide +kernel
theorem dL_law_656 : decode cL_law 656 = .ok (.iconst 0, 1) := by decide +kernel
theorem dL_law_657 : decode cL_law 657 = .ok (.ireturn, 1) := by decide +kernel
theorem dL_law_658 : decode cL_law 658 = .ok (.new 8, 3) := by decide +kernel
theorem dL_law_661 : decode cL_law 661 = .ok (.dup, 1) := by decide +kernel
theorem dL_law_662 : decode cL_law 662 = .ok (.invokespecial 230, 3) := by decide +kernel
theorem dL_law_665 : decode cL_law 665 = .ok (.astore_n 2, 1) := by decide +kernel
theorem dL_law_666 : decode cL_law 666 = .ok (.aload_n 2, 1) := by decide +kernel
theorem dL_law_667 : decode cL_law 667 = .ok (.aload_n 0, 1) := by decide +kernel
theorem dL_law_668 : decode cL_law 668 = .ok (.invokestatic 245, 3) := by decide +kernel
theorem dL_law_671 : decode cL_law 671 = .ok (.ifCond .ne 5, 3) := by decide +kernel
theorem dL_law_674 : decode cL_law 674 = .ok (.iconst 0, 1) := by decide +kernel
theorem dL_law_675 : decode cL_law 675 = .ok (.ireturn, 1) := by decide +kernel
theorem dL_law_676 : decode cL_law 676 = .ok (.iconst 0, 1) := by decide +kernel
theorem dL_law_677 : decode cL_law 677 = .ok (.istore_n 3, 1) := by decide +kernel
theorem dL_law_678 : decode cL_law 678 = .ok (.iload_n 3, 1) := by decide +kernel
theorem dL_law_679 : decode cL_law 679 = .ok (.iconst 5, 1) := by decide +kernel
theorem dL_law_680 : decode cL_law 680 = .ok (.if_icmp .ge 19, 3) := by decide +kernel
theorem dL_law_683 : decode cL_law 683 = .ok (.aload_n 2, 1) := by decide +kernel
theorem dL_law_684 : decode cL_law 684 = .ok (.iload_n 3, 1) := by decide +kernel
theorem dL_law_685 : decode cL_law 685 = .ok (.invokestatic 206, 3) := by decide +kernel
theorem dL_law_688 : decode cL_law 688 = .ok (.ifCond .ge 5, 3) := by decide +kernel
theorem dL_law_691 : decode cL_law 691 = .ok (.iconst 0, 1) := by decide +kernel
theorem dL_law_692 : decode cL_law 692 = .ok (.ireturn, 1) := by decide +kernel
theorem dL_law_693 : decode cL_law 693 = .ok (.iinc 3 1, 3) := by decide +kernel
theorem dL_law_696 : decode cL_law 696 = .ok (.goto (-18), 3) := by decide +kernel
theorem dL_law_699 : decode cL_law 699 = .ok (.aload_n 2, 1) := by decide +kernel
theorem dL_law_700 : decode cL_law 700 = .ok (.iconst 1, 1) := by decide +kernel
theorem dL_law_701 : decode cL_law 701 = .ok (.aload_n 0, 1) := by decide +kernel
theorem dL_law_702 : decode cL_law 702 = .ok (.bipush 12, 2) := by decide +kernel
theorem dL_law_704 : decode cL_law 704 = .ok (.invokestatic 141, 3) := by decide +kernel
theorem dL_law_707 : decode cL_law 707 = .ok (.bipush 9, 2) := by decide +kernel
theorem dL_law_709 : decode cL_law 709 = .ok (.invokestatic 145, 3) := by decide +kernel
theorem dL_law_712 : decode cL_law 712 = .ok (.iadd, 1) := by decide +kernel
theorem dL_law_713 : decode cL_law 713 = .ok (.invokestatic 212, 3) := by decide +kernel
theorem dL_law_716 : decode cL_law 716 = .ok (.ifCond .ge 5, 3) := by decide +kernel
theorem dL_law_719 : decode cL_law 719 = .ok (.iconst 0, 1) := by decide +kernel
theorem dL_law_720 : decode cL_law 720 = .ok (.ireturn, 1) := by decide +kernel
theorem dL_law_721 : decode cL_law 721 = .ok (.aload_n 2, 1) := by decide +kernel
theorem dL_law_722 : decode cL_law 722 = .ok (.invokestatic 214, 3) := by decide +kernel
theorem dL_law_725 : decode cL_law 725 = .ok (.lstore_n 3, 1) := by decide +kernel
theorem dL_law_726 : decode cL_law 726 = .ok (.aload_n 2, 1) := by decide +kernel
theorem dL_law_727 : decode cL_law 727 = .ok (.invokestatic 214, 3) := by decide +kernel
theorem dL_law_730 : decode cL_law 730 = .ok (.lload_n 3, 1) := by decide +kernel
theorem dL_law_731 : decode cL_law 731 = .ok (.lcmp, 1) := by decide +kernel
theorem dL_law_732 : decode cL_law 732 = .ok (.ifCond .ne 10, 3) := by decide +kernel
theorem dL_law_735 : decode cL_law 735 = .ok (.aload_n 2, 1) := by decide +kernel
theorem dL_law_736 : decode cL_law 736 = .ok (.invokestatic 249, 3) := by decide +kernel
theorem dL_law_739 : decode cL_law 739 = .ok (.ifCond .ne 5, 3) := by decide +kernel
theorem dL_law_742 : decode cL_law 742 = .ok (.iconst 0, 1) := by decide +kernel
theorem dL_law_743 : decode cL_law 743 = .ok (.ireturn, 1) := by decide +kernel
theorem dL_law_744 : decode cL_law 744 = .ok (.aload_n 2, 1) := by decide +kernel
theorem dL_law_745 : decode cL_law 745 = .ok (.invokevirtual 235, 3) := by decide +kernel
theorem dL_law_748 : decode cL_law 748 = .ok (.istore 5, 2) := by decide +kernel
theorem dL_law_750 : decode cL_law 750 = .ok (.iload 5, 2) := by decide +kernel
theorem dL_law_752 : decode cL_law 752 = .ok (.aload_n 2, 1) := by decide +kernel
theorem dL_law_753 : decode cL_law 753 = .ok (.iconst 0, 1) := by decide +kernel
theorem dL_law_754 : decode cL_law 754 = .ok (.invokestatic 177, 3) := by decide +kernel
theorem dL_law_757 : decode cL_law 757 = .ok (.if_icmp .ne 12, 3) := by decide +kernel
theorem dL_law_760 : decode cL_law 760 = .ok (.aload_n 2, 1) := by decide +kernel
theorem dL_law_761 : decode cL_law 761 = .ok (.invokestatic 214, 3) := by decide +kernel
theorem dL_law_764 : decode cL_law 764 = .ok (.lload_n 3, 1) := by decide +kernel
theorem dL_law_765 : decode cL_law 765 = .ok (.lcmp, 1) := by decide +kernel
theorem dL_law_766 : decode cL_law 766 = .ok (.ifCond .eq 5, 3) := by decide +kernel
theorem dL_law_769 : decode cL_law 769 = .ok (.iconst 0, 1) := by decide +kernel
theorem dL_law_770 : decode cL_law 770 = .ok (.ireturn, 1) := by decide +kernel
theorem dL_law_771 : decode cL_law 771 = .ok (.bipush 13, 2) := by decide +kernel
theorem dL_law_773 : decode cL_law 773 = .ok (.newarray .long, 2) := by decide +kernel
theorem dL_law_775 : decode cL_law 775 = .ok (.astore 6, 2) := by decide +kernel
theorem dL_law_777 : decode cL_law 777 = .ok (.iconst 0, 1) := by decide +kernel
theorem dL_law_778 : decode cL_law 778 = .ok (.istore 7, 2) := by decide +kernel
theorem dL_law_780 : decode cL_law 780 = .ok (.iconst 0, 1) := by decide +kernel
theorem dL_law_781 : decode cL_law 781 = .ok (.istore 8, 2) := by decide +kernel
theorem dL_law_783 : decode cL_law 783 = .ok (.iload 8, 2) := by decide +kernel
theorem dL_law_785 : decode cL_law 785 = .ok (.bipush 12, 2) := by decide +kernel
theorem dL_law_787 : decode cL_law 787 = .ok (.if_icmp .ge 63, 3) := by decide +kernel
theorem dL_law_790 : decode cL_law 790 = .ok (.aload_n 2, 1) := by decide +kernel
theorem dL_law_791 : decode cL_law 791 = .ok (.invokestatic 214, 3) := by decide +kernel
theorem dL_law_794 : decode cL_law 794 = .ok (.lstore 9, 2) := by decide +kernel
theorem dL_law_796 : decode cL_law 796 = .ok (.aload_n 2, 1) := by decide +kernel
theorem dL_law_797 : decode cL_law 797 = .ok (.aload_n 0, 1) := by decide +kernel
theorem dL_law_798 : decode cL_law 798 = .ok (.bipush 20, 2) := by decide +kernel
theorem dL_law_800 : decode cL_law 800 = .ok (.iload 8, 2) := by decide +kernel
theorem dL_law_802 : decode cL_law 802 = .ok (.iadd, 1) := by decide +kernel
theorem dL_law_803 : decode cL_law 803 = .ok (.invokestatic 141, 3) := by decide +kernel
theorem dL_law_806 : decode cL_law 806 = .ok (.iload 8, 2) := by decide +kernel
theorem dL_law_808 : decode cL_law 808 = .ok (.sipush 977, 3) := by decide +kernel
theorem dL_law_811 : decode cL_law 811 = .ok (.imul, 1) := by decide +kernel
theorem dL_law_812 : decode cL_law 812 = .ok (.ixor, 1) := by decide +kernel
theorem dL_law_813 : decode cL_law 813 = .ok (.invokestatic 253, 3) := by decide +kernel
theorem dL_law_816 : decode cL_law 816 = .ok (.ifCond .eq 16, 3) := by decide +kernel
theorem dL_law_819 : decode cL_law 819 = .ok (.aload 6, 2) := by decide +kernel
theorem dL_law_821 : decode cL_law 821 = .ok (.iload 7, 2) := by decide +kernel
theorem dL_law_823 : decode cL_law 823 = .ok (.iinc 7 1, 3) := by decide +kernel
theorem dL_law_826 : decode cL_law 826 = .ok (.lload 9, 2) := by decide +kernel
theorem dL_law_828 : decode cL_law 828 = .ok (.lastore, 1) := by decide +kernel
theorem dL_law_829 : decode cL_law 829 = .ok (.goto 15, 3) := by decide +kernel
theorem dL_law_832 : decode cL_law 832 = .ok (.aload_n 2, 1) := by decide +kernel
theorem dL_law_833 : decode cL_law 833 = .ok (.invokestatic 214, 3) := by decide +kernel
theorem dL_law_836 : decode cL_law 836 = .ok (.lload 9, 2) := by decide +kernel
theorem dL_law_838 : decode cL_law 838 = .ok (.lcmp, 1) := by decide +kernel
theorem dL_law_839 : decode cL_law 839 = .ok (.ifCond .eq 5, 3) := by decide +kernel
theorem dL_law_842 : decode cL_law 842 = .ok (.iconst 0, 1) := by decide +kernel
theorem dL_law_843 : decode cL_law 843 = .ok (.ireturn, 1) := by decide +kernel
theorem dL_law_844 : decode cL_law 844 = .ok (.iinc 8 1, 3) := by decide +kernel
theorem dL_law_847 : decode cL_law 847 = .ok (.goto (-64), 3) := by decide +kernel
theorem dL_law_850 : decode cL_law 850 = .ok (.bipush 8, 2) := by decide +kernel
theorem dL_law_852 : decode cL_law 852 = .ok (.iload 7, 2) := by decide +kernel
theorem dL_law_854 : decode cL_law 854 = .ok (.invokestatic 257, 3) := by decide +kernel
theorem dL_law_857 : decode cL_law 857 = .ok (.istore 8, 2) := by decide +kernel
theorem dL_law_859 : decode cL_law 859 = .ok (.iconst 1, 1) := by decide +kernel
theorem dL_law_860 : decode cL_law 860 = .ok (.istore 9, 2) := by decide +kernel
theorem dL_law_862 : decode cL_law 862 = .ok (.iload 9, 2) := by decide +kernel
theorem dL_law_864 : decode cL_law 864 = .ok (.iload 8, 2) := by decide +kernel
theorem dL_law_866 : decode cL_law 866 = .ok (.if_icmp .gt 53, 3) := by decide +kernel
theorem dL_law_869 : decode cL_law 869 = .ok (.aload_n 2, 1) := by decide +kernel
theorem dL_law_870 : decode cL_law 870 = .ok (.invokestatic 231, 3) := by decide +kernel
theorem dL_law_873 : decode cL_law 873 = .ok (.istore 10, 2) := by decide +kernel
theorem dL_law_875 : decode cL_law 875 = .ok (.iload 10, 2) := by decide +kernel
theorem dL_law_877 : decode cL_law 877 = .ok (.iload 8, 2) := by decide +kernel
theorem dL_law_879 : decode cL_law 879 = .ok (.iload 9, 2) := by decide +kernel
theorem dL_law_881 : decode cL_law 881 = .ok (.isub, 1) := by decide +kernel
theorem dL_law_882 : decode cL_law 882 = .ok (.if_icmp .lt 29, 3) := by decide +kernel
theorem dL_law_885 : decode cL_law 885 = .ok (.iload 10, 2) := by decide +kernel
theorem dL_law_887 : decode cL_law 887 = .ok (.bipush 8, 2) := by decide +kernel
theorem dL_law_889 : decode cL_law 889 = .ok (.iload 9, 2) := by decide +kernel
theorem dL_law_891 : decode cL_law 891 = .ok (.isub, 1) := by decide +kernel
theorem dL_law_892 : decode cL_law 892 = .ok (.if_icmp .gt 19, 3) := by decide +kernel
theorem dL_law_895 : decode cL_law 895 = .ok (.aload_n 2, 1) := by decide +kernel
theorem dL_law_896 : decode cL_law 896 = .ok (.invokestatic 214, 3) := by decide +kernel
theorem dL_law_899 : decode cL_law 899 = .ok (.aload 6, 2) := by decide +kernel
theorem dL_law_901 : decode cL_law 901 = .ok (.iload 7, 2) := by decide +kernel
theorem dL_law_903 : decode cL_law 903 = .ok (.iload 9, 2) := by decide +kernel
theorem dL_law_905 : decode cL_law 905 = .ok (.isub, 1) := by decide +kernel
theorem dL_law_906 : decode cL_law 906 = .ok (.laload, 1) := by decide +kernel
theorem dL_law_907 : decode cL_law 907 = .ok (.lcmp, 1) := by decide +kernel
theorem dL_law_908 : decode cL_law 908 = .ok (.ifCond .eq 5, 3) := by decide +kernel
theorem dL_law_911 : decode cL_law 911 = .ok (.iconst 0, 1) := by decide +kernel
theorem dL_law_912 : decode cL_law 912 = .ok (.ireturn, 1) := by decide +kernel
theorem dL_law_913 : decode cL_law 913 = .ok (.iinc 9 1, 3) := by decide +kernel
theorem dL_law_916 : decode cL_law 916 = .ok (.goto (-54), 3) := by decide +kernel
theorem dL_law_919 : decode cL_law 919 = .ok (.aload_n 2, 1) := by decide +kernel
theorem dL_law_920 : decode cL_law 920 = .ok (.invokestatic 233, 3) := by decide +kernel
theorem dL_law_923 : decode cL_law 923 = .ok (.iload 5, 2) := by decide +kernel
theorem dL_law_925 : decode cL_law 925 = .ok (.if_icmp .ne 44, 3) := by decide +kernel
theorem dL_law_928 : decode cL_law 928 = .ok (.aload_n 2, 1) := by decide +kernel
theorem dL_law_929 : decode cL_law 929 = .ok (.invokestatic 231, 3) := by decide +kernel
theorem dL_law_932 : decode cL_law 932 = .ok (.sipush (-1001), 3) := by decide +kernel
theorem dL_law_935 : decode cL_law 935 = .ok (.if_icmp .ne 34, 3) := by decide +kernel
theorem dL_law_938 : decode cL_law 938 = .ok (.aload_n 2, 1) := by decide +kernel
theorem dL_law_939 : decode cL_law 939 = .ok (.invokestatic 214, 3) := by decide +kernel
theorem dL_law_942 : decode cL_law 942 = .ok (.lload_n 3, 1) := by decide +kernel
theorem dL_law_943 : decode cL_law 943 = .ok (.lcmp, 1) := by decide +kernel
theorem dL_law_944 : decode cL_law 944 = .ok (.ifCond .ne 25, 3) := by decide +kernel
theorem dL_law_947 : decode cL_law 947 = .ok (.aload_n 2, 1) := by decide +kernel
theorem dL_law_948 : decode cL_law 948 = .ok (.invokestatic 233, 3) := by decide +kernel
theorem dL_law_951 : decode cL_law 951 = .ok (.iload 5, 2) := by decide +kernel
theorem dL_law_953 : decode cL_law 953 = .ok (.if_icmp .ne 16, 3) := by decide +kernel
theorem dL_law_956 : decode cL_law 956 = .ok (.aload_n 2, 1) := by decide +kernel
theorem dL_law_957 : decode cL_law 957 = .ok (.invokestatic 214, 3) := by decide +kernel
theorem dL_law_960 : decode cL_law 960 = .ok (.lload_n 3, 1) := by decide +kernel
theorem dL_law_961 : decode cL_law 961 = .ok (.lcmp, 1) := by decide +kernel
theorem dL_law_962 : decode cL_law 962 = .ok (.ifCond .ne 7, 3) := by decide +kernel
theorem dL_law_965 : decode cL_law 965 = .ok (.iconst 1, 1) := by decide +kernel
theorem dL_law_966 : decode cL_law 966 = .ok (.goto 4, 3) := by decide +kernel
theorem dL_law_969 : decode cL_law 969 = .ok (.iconst 0, 1) := by decide +kernel
theorem dL_law_970 : decode cL_law 970 = .ok (.ireturn, 1) := by decide +kernel
theorem dL_o9_0 : decode cL_o9 0 = .ok (.aload_n 0, 1) := by decide +kernel
theorem dL_o9_1 : decode cL_o9 1 = .ok (.invokevirtual 192, 3) := by decide +kernel
theorem dL_o9_4 : decode cL_o9 4 = .ok (.ireturn, 1) := by decide +kernel
