theorem dX0_init_0 : decode cX0_init 0 = .ok (.aload_n 0, 1) := by decide +kernel
theorem dX0_init_1 : decode cX0_init 1 = .ok (.invokespecial 3, 3) := by decide +kernel
theorem dX0_init_4 : decode cX0_init 4 = .ok (.aload_n 0, 1) := by decide +kernel
theorem dX0_init_5 : decode cX0_init 5 = .ok (.bipush 10, 2) := by decide +kernel
theorem dX0_init_7 : decode cX0_init 7 = .ok (.newarray .int, 2) := by decide +kernel
theorem dX0_init_9 : decode cX0_init 9 = .ok (.putfield 9, 3) := by decide +kernel
theorem dX0_init_12 : decode cX0_init 12 = .ok (.aload_n 0, 1) := by decide +kernel
theorem dX0_init_13 : decode cX0_init 13 = .ok (.bipush 8, 2) := by decide +kernel
theorem dX0_init_15 : decode cX0_init 15 = .ok (.anewarray 15, 3) := by decide +kernel
theorem dX0_init_18 : decode cX0_init 18 = .ok (.putfield 17, 3) := by decide +kernel
theorem dX0_init_21 : decode cX0_init 21 = .ok (.aload_n 0, 1) := by decide +kernel
theorem dX0_init_22 : decode cX0_init 22 = .ok (.iconst 0, 1) := by decide +kernel
theorem dX0_init_23 : decode cX0_init 23 = .ok (.putfield 21, 3) := by decide +kernel
theorem dX0_init_26 : decode cX0_init 26 = .ok (.aload_n 0, 1) := by decide +kernel
theorem dX0_init_27 : decode cX0_init 27 = .ok (.iconst 0, 1) := by decide +kernel
theorem dX0_init_28 : decode cX0_init 28 = .ok (.putfield 25, 3) := by decide +kernel
theorem dX0_init_31 : decode cX0_init 31 = .ok (.aload_n 0, 1) := by decide +kernel
theorem dX0_init_32 : decode cX0_init 32 = .ok (.iconst 4, 1) := by decide +kernel
theorem dX0_init_33 : decode cX0_init 33 = .ok (.putfield 28, 3) := by decide +kernel
theorem dX0_init_36 : decode cX0_init 36 = .ok (.aload_n 0, 1) := by decide +kernel
theorem dX0_init_37 : decode cX0_init 37 = .ok (.iconst 0, 1) := by decide +kernel
theorem dX0_init_38 : decode cX0_init 38 = .ok (.putfield 31, 3) := by decide +kernel
theorem dX0_init_41 : decode cX0_init 41 = .ok (.aload_n 0, 1) := by decide +kernel
theorem dX0_init_42 : decode cX0_init 42 = .ok (.iconst 0, 1) := by decide +kernel
theorem dX0_init_43 : decode cX0_init 43 = .ok (.putfield 34, 3) := by decide +kernel
theorem dX0_init_46 : decode cX0_init 46 = .ok (.aload_n 0, 1) := by decide +kernel
theorem dX0_init_47 : decode cX0_init 47 = .ok (.iconst 0, 1) := by decide +kernel
theorem dX0_init_48 : decode cX0_init 48 = .ok (.putfield 37, 3) := by decide +kernel
theorem dX0_init_51 : decode cX0_init 51 = .ok (.aload_n 0, 1) := by decide +kernel
theorem dX0_init_52 : decode cX0_init 52 = .ok (.iconst 0, 1) := by decide +kernel
theorem dX0_init_53 : decode cX0_init 53 = .ok (.putfield 40, 3) := by decide +kernel
theorem dX0_init_56 : decode cX0_init 56 = .ok (.aload_n 0, 1) := by decide +kernel
theorem dX0_init_57 : decode cX0_init 57 = .ok (.iconst 0, 1) := by decide +kernel
theorem dX0_init_58 : decode cX0_init 58 = .ok (.putfield 43, 3) := by decide +kernel
theorem dX0_init_61 : decode cX0_init 61 = .ok (.aload_n 0, 1) := by decide +kernel
theorem dX0_init_62 : decode cX0_init 62 = .ok (.iconst 0, 1) := by decide +kernel
theorem dX0_init_63 : decode cX0_init 63 = .ok (.putfield 46, 3) := by decide +kernel
theorem dX0_init_66 : decode cX0_init 66 = .ok (.aload_n 0, 1) := by decide +kernel
theorem dX0_init_67 : decode cX0_init 67 = .ok (.iconst 0, 1) := by decide +kernel
theorem dX0_init_68 : decode cX0_init 68 = .ok (.putfield 49, 3) := by decide +kernel
theorem dX0_init_71 : decode cX0_init 71 = .ok (.iconst 0, 1) := by decide +kernel
theorem dX0_init_72 : decode cX0_init 72 = .ok (.istore_n 1, 1) := by decide +kernel
theorem dX0_init_73 : decode cX0_init 73 = .ok (.iload_n 1, 1) := by decide +kernel
theorem dX0_init_74 : decode cX0_init 74 = .ok (.bipush 10, 2) := by decide +kernel
theorem dX0_init_76 : decode cX0_init 76 = .ok (.if_icmp .ge 17, 3) := by decide +kernel
theorem dX0_init_79 : decode cX0_init 79 = .ok (.aload_n 0, 1) := by decide +kernel
theorem dX0_init_80 : decode cX0_init 80 = .ok (.getfield 9, 3) := by decide +kernel
theorem dX0_init_83 : decode cX0_init 83 = .ok (.iload_n 1, 1) := by decide +kernel
theorem dX0_init_84 : decode cX0_init 84 = .ok (.bipush 10, 2) := by decide +kernel
theorem dX0_init_86 : decode cX0_init 86 = .ok (.iastore, 1) := by decide +kernel
theorem dX0_init_87 : decode cX0_init 87 = .ok (.iinc 1 1, 3) := by decide +kernel
theorem dX0_init_90 : decode cX0_init 90 = .ok (.goto (-17), 3) := by decide +kernel
theorem dX0_init_93 : decode cX0_init 93 = .ok (.iconst 0, 1) := by decide +kernel
theorem dX0_init_94 : decode cX0_init 94 = .ok (.istore_n 1, 1) := by decide +kernel
theorem dX0_init_95 : decode cX0_init 95 = .ok (.iload_n 1, 1) := by decide +kernel
theorem dX0_init_96 : decode cX0_init 96 = .ok (.bipush 8, 2) := by decide +kernel
theorem dX0_init_98 : decode cX0_init 98 = .ok (.if_icmp .ge 22, 3) := by decide +kernel
theorem dX0_init_101 : decode cX0_init 101 = .ok (.aload_n 0, 1) := by decide +kernel
theorem dX0_init_102 : decode cX0_init 102 = .ok (.getfield 17, 3) := by decide +kernel
theorem dX0_init_105 : decode cX0_init 105 = .ok (.iload_n 1, 1) := by decide +kernel
theorem dX0_init_106 : decode cX0_init 106 = .ok (.new 15, 3) := by decide +kernel
theorem dX0_init_109 : decode cX0_init 109 = .ok (.dup, 1) := by decide +kernel
theorem dX0_init_110 : decode cX0_init 110 = .ok (.invokespecial 52, 3) := by decide +kernel
theorem dX0_init_113 : decode cX0_init 113 = .ok (.aastore, 1) := by decide +kernel
theorem dX0_init_114 : decode cX0_init 114 = .ok (.iinc 1 1, 3) := by decide +kernel
theorem dX0_init_117 : decode cX0_init 117 = .ok (.goto (-22), 3) := by decide +kernel
theorem dX0_init_120 : decode cX0_init 120 = .ok (.return_, 1) := by decide +kernel
theorem dX0_copyFrom_0 : decode cX0_copyFrom 0 = .ok (.iconst 0, 1) := by decide +kernel
theorem dX0_copyFrom_1 : decode cX0_copyFrom 1 = .ok (.istore_n 2, 1) := by decide +kernel
theorem dX0_copyFrom_2 : decode cX0_copyFrom 2 = .ok (.iload_n 2, 1) := by decide +kernel
theorem dX0_copyFrom_3 : decode cX0_copyFrom 3 = .ok (.bipush 10, 2) := by decide +kernel
theorem dX0_copyFrom_5 : decode cX0_copyFrom 5 = .ok (.if_icmp .ge 21, 3) := by decide +kernel
theorem dX0_copyFrom_8 : decode cX0_copyFrom 8 = .ok (.aload_n 0, 1) := by decide +kernel
theorem dX0_copyFrom_9 : decode cX0_copyFrom 9 = .ok (.getfield 9, 3) := by decide +kernel
theorem dX0_copyFrom_12 : decode cX0_copyFrom 12 = .ok (.iload_n 2, 1) := by decide +kernel
theorem dX0_copyFrom_13 : decode cX0_copyFrom 13 = .ok (.aload_n 1, 1) := by decide +kernel
theorem dX0_copyFrom_14 : decode cX0_copyFrom 14 = .ok (.getfield 9, 3) := by decide +kernel
theorem dX0_copyFrom_17 : decode cX0_copyFrom 17 = .ok (.iload_n 2, 1) := by decide +kernel
theorem dX0_copyFrom_18 : decode cX0_copyFrom 18 = .ok (.iaload, 1) := by decide +kernel
theorem dX0_copyFrom_19 : decode cX0_copyFrom 19 = .ok (.iastore, 1) := by decide +kernel
theorem dX0_copyFrom_20 : decode cX0_copyFrom 20 = .ok (.iinc 2 1, 3) := by decide +kernel
theorem dX0_copyFrom_23 : decode cX0_copyFrom 23 = .ok (.goto (-21), 3) := by decide +kernel
theorem dX0_copyFrom_26 : decode cX0_copyFrom 26 = .ok (.iconst 0, 1) := by decide +kernel
theorem dX0_copyFrom_27 : decode cX0_copyFrom 27 = .ok (.istore_n 2, 1) := by decide +kernel
theorem dX0_copyFrom_28 : decode cX0_copyFrom 28 = .ok (.iload_n 2, 1) := by decide +kernel
theorem dX0_copyFrom_29 : decode cX0_copyFrom 29 = .ok (.aload_n 1, 1) := by decide +kernel
theorem dX0_copyFrom_30 : decode cX0_copyFrom 30 = .ok (.getfield 21, 3) := by decide +kernel
theorem dX0_copyFrom_33 : decode cX0_copyFrom 33 = .ok (.if_icmp .ge 24, 3) := by decide +kernel
theorem dX0_copyFrom_36 : decode cX0_copyFrom 36 = .ok (.aload_n 0, 1) := by decide +kernel
theorem dX0_copyFrom_37 : decode cX0_copyFrom 37 = .ok (.getfield 17, 3) := by decide +kernel
theorem dX0_copyFrom_40 : decode cX0_copyFrom 40 = .ok (.iload_n 2, 1) := by decide +kernel
theorem dX0_copyFrom_41 : decode cX0_copyFrom 41 = .ok (.aaload, 1) := by decide +kernel
theorem dX0_copyFrom_42 : decode cX0_copyFrom 42 = .ok (.aload_n 1, 1) := by decide +kernel
theorem dX0_copyFrom_43 : decode cX0_copyFrom 43 = .ok (.getfield 17, 3) := by decide +kernel
theorem dX0_copyFrom_46 : decode cX0_copyFrom 46 = .ok (.iload_n 2, 1) := by decide +kernel
theorem dX0_copyFrom_47 : decode cX0_copyFrom 47 = .ok (.aaload, 1) := by decide +kernel
theorem dX0_copyFrom_48 : decode cX0_copyFrom 48 = .ok (.invokevirtual 53, 3) := by decide +kernel
theorem dX0_copyFrom_51 : decode cX0_copyFrom 51 = .ok (.iinc 2 1, 3) := by decide +kernel
theorem dX0_copyFrom_54 : decode cX0_copyFrom 54 = .ok (.goto (-26), 3) := by decide +kernel
theorem dX0_copyFrom_57 : decode cX0_copyFrom 57 = .ok (.aload_n 0, 1) := by decide +kernel
theorem dX0_copyFrom_58 : decode cX0_copyFrom 58 = .ok (.aload_n 1, 1) := by decide +kernel
theorem dX0_copyFrom_59 : decode cX0_copyFrom 59 = .ok (.getfield 21, 3) := by decide +kernel
theorem dX0_copyFrom_62 : decode cX0_copyFrom 62 = .ok (.putfield 21, 3) := by decide +kernel
theorem dX0_copyFrom_65 : decode cX0_copyFrom 65 = .ok (.aload_n 0, 1) := by decide +kernel
theorem dX0_copyFrom_66 : decode cX0_copyFrom 66 = .ok (.aload_n 1, 1) := by decide +kernel
theorem dX0_copyFrom_67 : decode cX0_copyFrom 67 = .ok (.getfield 25, 3) := by decide +kernel
theorem dX0_copyFrom_70 : decode cX0_copyFrom 70 = .ok (.putfield 25, 3) := by decide +kernel
theorem dX0_copyFrom_73 : decode cX0_copyFrom 73 = .ok (.aload_n 0, 1) := by decide +kernel
theorem dX0_copyFrom_74 : decode cX0_copyFrom 74 = .ok (.aload_n 1, 1) := by decide +kernel
theorem dX0_copyFrom_75 : decode cX0_copyFrom 75 = .ok (.getfield 28, 3) := by decide +kernel
theorem dX0_copyFrom_78 : decode cX0_copyFrom 78 = .ok (.putfield 28, 3) := by decide +kernel
theorem dX0_copyFrom_81 : decode cX0_copyFrom 81 = .ok (.aload_n 0, 1) := by decide +kernel
theorem dX0_copyFrom_82 : decode cX0_copyFrom 82 = .ok (.aload_n 1, 1) := by decide +kernel
theorem dX0_copyFrom_83 : decode cX0_copyFrom 83 = .ok (.getfield 31, 3) := by decide +kernel
theorem dX0_copyFrom_86 : decode cX0_copyFrom 86 = .ok (.putfield 31, 3) := by decide +kernel
theorem dX0_copyFrom_89 : decode cX0_copyFrom 89 = .ok (.aload_n 0, 1) := by decide +kernel
theorem dX0_copyFrom_90 : decode cX0_copyFrom 90 = .ok (.aload_n 1, 1) := by decide +kernel
theorem dX0_copyFrom_91 : decode cX0_copyFrom 91 = .ok (.getfield 34, 3) := by decide +kernel
theorem dX0_copyFrom_94 : decode cX0_copyFrom 94 = .ok (.putfield 34, 3) := by decide +kernel
theorem dX0_copyFrom_97 : decode cX0_copyFrom 97 = .ok (.aload_n 0, 1) := by decide +kernel
theorem dX0_copyFrom_98 : decode cX0_copyFrom 98 = .ok (.aload_n 1, 1) := by decide +kernel
theorem dX0_copyFrom_99 : decode cX0_copyFrom 99 = .ok (.getfield 37, 3) := by decide +kernel
theorem dX0_copyFrom_102 : decode cX0_copyFrom 102 = .ok (.putfield 37, 3) := by decide +kernel
theorem dX0_copyFrom_105 : decode cX0_copyFrom 105 = .ok (.aload_n 0, 1) := by decide +kernel
theorem dX0_copyFrom_106 : decode cX0_copyFrom 106 = .ok (.aload_n 1, 1) := by decide +kernel
theorem dX0_copyFrom_107 : decode cX0_copyFrom 107 = .ok (.getfield 40, 3) := by decide +kernel
theorem dX0_copyFrom_110 : decode cX0_copyFrom 110 = .ok (.putfield 40, 3) := by decide +kernel
theorem dX0_copyFrom_113 : decode cX0_copyFrom 113 = .ok (.aload_n 0, 1) := by decide +kernel
theorem dX0_copyFrom_114 : decode cX0_copyFrom 114 = .ok (.aload_n 1, 1) := by decide +kernel
theorem dX0_copyFrom_115 : decode cX0_copyFrom 115 = .ok (.getfield 43, 3) := by decide +kernel
theorem dX0_copyFrom_118 : decode cX0_copyFrom 118 = .ok (.putfield 43, 3) := by decide +kernel
theorem dX0_copyFrom_121 : decode cX0_copyFrom 121 = .ok (.aload_n 0, 1) := by decide +kernel
theorem dX0_copyFrom_122 : decode cX0_copyFrom 122 = .ok (.aload_n 1, 1) := by decide +kernel
theorem dX0_copyFrom_123 : decode cX0_copyFrom 123 = .ok (.getfield 46, 3) := by decide +kernel
theorem dX0_copyFrom_126 : decode cX0_copyFrom 126 = .ok (.putfield 46, 3) := by decide +kernel
theorem dX0_copyFrom_129 : decode cX0_copyFrom 129 = .ok (.aload_n 0, 1) := by decide +kernel
theorem dX0_copyFrom_130 : decode cX0_copyFrom 130 = .ok (.aload_n 1, 1) := by decide +kernel
theorem dX0_copyFrom_131 : decode cX0_copyFrom 131 = .ok (.getfield 49, 3) := by decide +kernel
theorem dX0_copyFrom_134 : decode cX0_copyFrom 134 = .ok (.putfield 49, 3) := by decide +kernel
theorem dX0_copyFrom_137 : decode cX0_copyFrom 137 = .ok (.return_, 1) := by decide +kernel
theorem dX0_stateOf_0 : decode cX0_stateOf 0 = .ok (.aload_n 0, 1) := by decide +kernel
theorem dX0_stateOf_1 : decode cX0_stateOf 1 = .ok (.getfield 9, 3) := by decide +kernel
theorem dX0_stateOf_4 : decode cX0_stateOf 4 = .ok (.iload_n 1, 1) := by decide +kernel
theorem dX0_stateOf_5 : decode cX0_stateOf 5 = .ok (.iaload, 1) := by decide +kernel
theorem dX0_stateOf_6 : decode cX0_stateOf 6 = .ok (.iload_n 2, 1) := by decide +kernel
theorem dX0_stateOf_7 : decode cX0_stateOf 7 = .ok (.isub, 1) := by decide +kernel
theorem dX0_stateOf_8 : decode cX0_stateOf 8 = .ok (.istore_n 3, 1) := by decide +kernel
theorem dX0_stateOf_9 : decode cX0_stateOf 9 = .ok (.iload_n 3, 1) := by decide +kernel
theorem dX0_stateOf_10 : decode cX0_stateOf 10 = .ok (.ifCond .ge 5, 3) := by decide +kernel
theorem dX0_stateOf_13 : decode cX0_stateOf 13 = .ok (.iconst 2, 1) := by decide +kernel
theorem dX0_stateOf_14 : decode cX0_stateOf 14 = .ok (.ireturn, 1) := by decide +kernel
theorem dX0_stateOf_15 : decode cX0_stateOf 15 = .ok (.iload_n 3, 1) := by decide +kernel
theorem dX0_stateOf_16 : decode cX0_stateOf 16 = .ok (.iconst 2, 1) := by decide +kernel
theorem dX0_stateOf_17 : decode cX0_stateOf 17 = .ok (.if_icmp .gt 7, 3) := by decide +kernel
theorem dX0_stateOf_20 : decode cX0_stateOf 20 = .ok (.iconst 1, 1) := by decide +kernel
theorem dX0_stateOf_21 : decode cX0_stateOf 21 = .ok (.goto 4, 3) := by decide +kernel
theorem dX0_stateOf_24 : decode cX0_stateOf 24 = .ok (.iconst 0, 1) := by decide +kernel
theorem dX0_stateOf_25 : decode cX0_stateOf 25 = .ok (.ireturn, 1) := by decide +kernel
theorem dX0_lowestHeight_0 : decode cX0_lowestHeight 0 = .ok (.bipush 30, 2) := by decide +kernel
theorem dX0_lowestHeight_2 : decode cX0_lowestHeight 2 = .ok (.istore_n 1, 1) := by decide +kernel
theorem dX0_lowestHeight_3 : decode cX0_lowestHeight 3 = .ok (.iconst 0, 1) := by decide +kernel
theorem dX0_lowestHeight_4 : decode cX0_lowestHeight 4 = .ok (.istore_n 2, 1) := by decide +kernel
theorem dX0_lowestHeight_5 : decode cX0_lowestHeight 5 = .ok (.iload_n 2, 1) := by decide +kernel
theorem dX0_lowestHeight_6 : decode cX0_lowestHeight 6 = .ok (.bipush 10, 2) := by decide +kernel
theorem dX0_lowestHeight_8 : decode cX0_lowestHeight 8 = .ok (.if_icmp .ge 20, 3) := by decide +kernel
theorem dX0_lowestHeight_11 : decode cX0_lowestHeight 11 = .ok (.iload_n 1, 1) := by decide +kernel
theorem dX0_lowestHeight_12 : decode cX0_lowestHeight 12 = .ok (.aload_n 0, 1) := by decide +kernel
theorem dX0_lowestHeight_13 : decode cX0_lowestHeight 13 = .ok (.getfield 9, 3) := by decide +kernel
theorem dX0_lowestHeight_16 : decode cX0_lowestHeight 16 = .ok (.iload_n 2, 1) := by decide +kernel
theorem dX0_lowestHeight_17 : decode cX0_lowestHeight 17 = .ok (.iaload, 1) := by decide +kernel
theorem dX0_lowestHeight_18 : decode cX0_lowestHeight 18 = .ok (.invokestatic 57, 3) := by decide +kernel
theorem dX0_lowestHeight_21 : decode cX0_lowestHeight 21 = .ok (.istore_n 1, 1) := by decide +kernel
theorem dX0_lowestHeight_22 : decode cX0_lowestHeight 22 = .ok (.iinc 2 1, 3) := by decide +kernel
theorem dX0_lowestHeight_25 : decode cX0_lowestHeight 25 = .ok (.goto (-20), 3) := by decide +kernel
theorem dX0_lowestHeight_28 : decode cX0_lowestHeight 28 = .ok (.iload_n 1, 1) := by decide +kernel
theorem dX0_lowestHeight_29 : decode cX0_lowestHeight 29 = .ok (.ireturn, 1) := by decide +kernel
theorem dX0_levelAfterHour_0 : decode cX0_levelAfterHour 0 = .ok (.bipush 40, 2) := by decide +kernel
theorem dX0_levelAfterHour_2 : decode cX0_levelAfterHour 2 = .ok (.iload_n 1, 1) := by decide +kernel
theorem dX0_levelAfterHour_3 : decode cX0_levelAfterHour 3 = .ok (.aload_n 0, 1) := by decide +kernel
theorem dX0_levelAfterHour_4 : decode cX0_levelAfterHour 4 = .ok (.getfield 31, 3) := by decide +kernel
theorem dX0_levelAfterHour_7 : decode cX0_levelAfterHour 7 = .ok (.iadd, 1) := by decide +kernel
theorem dX0_levelAfterHour_8 : decode cX0_levelAfterHour 8 = .ok (.invokestatic 57, 3) := by decide +kernel
theorem dX0_levelAfterHour_11 : decode cX0_levelAfterHour 11 = .ok (.istore_n 2, 1) := by decide +kernel
theorem dX0_levelAfterHour_12 : decode cX0_levelAfterHour 12 = .ok (.iconst 4, 1) := by decide +kernel
theorem dX0_levelAfterHour_13 : decode cX0_levelAfterHour 13 = .ok (.iload_n 2, 1) := by decide +kernel
theorem dX0_levelAfterHour_14 : decode cX0_levelAfterHour 14 = .ok (.iconst 2, 1) := by decide +kernel
theorem dX0_levelAfterHour_15 : decode cX0_levelAfterHour 15 = .ok (.isub, 1) := by decide +kernel
theorem dX0_levelAfterHour_16 : decode cX0_levelAfterHour 16 = .ok (.invokestatic 63, 3) := by decide +kernel
theorem dX0_levelAfterHour_19 : decode cX0_levelAfterHour 19 = .ok (.ireturn, 1) := by decide +kernel
theorem dX0_levelOnTheWayToRest_0 : decode cX0_levelOnTheWayToRest 0 = .ok (.aload_n 0, 1) := by decide +kernel
theorem dX0_levelOnTheWayToRest_1 : decode cX0_levelOnTheWayToRest 1 = .ok (.getfield 28, 3) := by decide +kernel
theorem dX0_levelOnTheWayToRest_4 : decode cX0_levelOnTheWayToRest 4 = .ok (.aload_n 0, 1) := by decide +kernel
theorem dX0_levelOnTheWayToRest_5 : decode cX0_levelOnTheWayToRest 5 = .ok (.getfield 31, 3) := by decide +kernel
theorem dX0_levelOnTheWayToRest_8 : decode cX0_levelOnTheWayToRest 8 = .ok (.iconst 2, 1) := by decide +kernel
theorem dX0_levelOnTheWayToRest_9 : decode cX0_levelOnTheWayToRest 9 = .ok (.isub, 1) := by decide +kernel
theorem dX0_levelOnTheWayToRest_10 : decode cX0_levelOnTheWayToRest 10 = .ok (.iload_n 1, 1) := by decide +kernel
theorem dX0_levelOnTheWayToRest_11 : decode cX0_levelOnTheWayToRest 11 = .ok (.imul, 1) := by decide +kernel
theorem dX0_levelOnTheWayToRest_12 : decode cX0_levelOnTheWayToRest 12 = .ok (.iadd, 1) := by decide +kernel
theorem dX0_levelOnTheWayToRest_13 : decode cX0_levelOnTheWayToRest 13 = .ok (.istore_n 2, 1) := by decide +kernel
theorem dX0_levelOnTheWayToRest_14 : decode cX0_levelOnTheWayToRest 14 = .ok (.aload_n 0, 1) := by decide +kernel
theorem dX0_levelOnTheWayToRest_15 : decode cX0_levelOnTheWayToRest 15 = .ok (.getfield 31, 3) := by decide +kernel
theorem dX0_levelOnTheWayToRest_18 : decode cX0_levelOnTheWayToRest 18 = .ok (.iconst 2, 1) := by decide +kernel
theorem dX0_levelOnTheWayToRest_19 : decode cX0_levelOnTheWayToRest 19 = .ok (.if_icmp .ge 9, 3) := by decide +kernel
theorem dX0_levelOnTheWayToRest_22 : decode cX0_levelOnTheWayToRest 22 = .ok (.iconst 4, 1) := by decide +kernel
theorem dX0_levelOnTheWayToRest_23 : decode cX0_levelOnTheWayToRest 23 = .ok (.iload_n 2, 1) := by decide +kernel
theorem dX0_levelOnTheWayToRest_24 : decode cX0_levelOnTheWayToRest 24 = .ok (.invokestatic 63, 3) := by decide +kernel
theorem dX0_levelOnTheWayToRest_27 : decode cX0_levelOnTheWayToRest 27 = .ok (.ireturn, 1) := by decide +kernel
theorem dX0_levelOnTheWayToRest_28 : decode cX0_levelOnTheWayToRest 28 = .ok (.bipush 38, 2) := by decide +kernel
theorem dX0_levelOnTheWayToRest_30 : decode cX0_levelOnTheWayToRest 30 = .ok (.iload_n 2, 1) := by decide +kernel
theorem dX0_levelOnTheWayToRest_31 : decode cX0_levelOnTheWayToRest 31 = .ok (.invokestatic 57, 3) := by decide +kernel
theorem dX0_levelOnTheWayToRest_34 : decode cX0_levelOnTheWayToRest 34 = .ok (.ireturn, 1) := by decide +kernel
theorem dX0_lowestOn_0 : decode cX0_lowestOn 0 = .ok (.iconst 0, 1) := by decide +kernel
theorem dX0_lowestOn_1 : decode cX0_lowestOn 1 = .ok (.istore_n 2, 1) := by decide +kernel
theorem dX0_lowestOn_2 : decode cX0_lowestOn 2 = .ok (.iload_n 2, 1) := by decide +kernel
theorem dX0_lowestOn_3 : decode cX0_lowestOn 3 = .ok (.aload_n 0, 1) := by decide +kernel
theorem dX0_lowestOn_4 : decode cX0_lowestOn 4 = .ok (.getfield 21, 3) := by decide +kernel
theorem dX0_lowestOn_7 : decode cX0_lowestOn 7 = .ok (.if_icmp .ge 24, 3) := by decide +kernel
theorem dX0_lowestOn_10 : decode cX0_lowestOn 10 = .ok (.aload_n 0, 1) := by decide +kernel
theorem dX0_lowestOn_11 : decode cX0_lowestOn 11 = .ok (.getfield 17, 3) := by decide +kernel
theorem dX0_lowestOn_14 : decode cX0_lowestOn 14 = .ok (.iload_n 2, 1) := by decide +kernel
theorem dX0_lowestOn_15 : decode cX0_lowestOn 15 = .ok (.aaload, 1) := by decide +kernel
theorem dX0_lowestOn_16 : decode cX0_lowestOn 16 = .ok (.getfield 66, 3) := by decide +kernel
theorem dX0_lowestOn_19 : decode cX0_lowestOn 19 = .ok (.iload_n 1, 1) := by decide +kernel
theorem dX0_lowestOn_20 : decode cX0_lowestOn 20 = .ok (.if_icmp .ne 5, 3) := by decide +kernel
theorem dX0_lowestOn_23 : decode cX0_lowestOn 23 = .ok (.iload_n 2, 1) := by decide +kernel
theorem dX0_lowestOn_24 : decode cX0_lowestOn 24 = .ok (.ireturn, 1) := by decide +kernel
theorem dX0_lowestOn_25 : decode cX0_lowestOn 25 = .ok (.iinc 2 1, 3) := by decide +kernel
theorem dX0_lowestOn_28 : decode cX0_lowestOn 28 = .ok (.goto (-26), 3) := by decide +kernel
theorem dX0_lowestOn_31 : decode cX0_lowestOn 31 = .ok (.iconst (-1), 1) := by decide +kernel
theorem dX0_lowestOn_32 : decode cX0_lowestOn 32 = .ok (.ireturn, 1) := by decide +kernel
theorem dX0_countOn_0 : decode cX0_countOn 0 = .ok (.iconst 0, 1) := by decide +kernel
theorem dX0_countOn_1 : decode cX0_countOn 1 = .ok (.istore_n 2, 1) := by decide +kernel
theorem dX0_countOn_2 : decode cX0_countOn 2 = .ok (.iconst 0, 1) := by decide +kernel
theorem dX0_countOn_3 : decode cX0_countOn 3 = .ok (.istore_n 3, 1) := by decide +kernel
theorem dX0_countOn_4 : decode cX0_countOn 4 = .ok (.iload_n 3, 1) := by decide +kernel
theorem dX0_countOn_5 : decode cX0_countOn 5 = .ok (.aload_n 0, 1) := by decide +kernel
theorem dX0_countOn_6 : decode cX0_countOn 6 = .ok (.getfield 21, 3) := by decide +kernel
theorem dX0_countOn_9 : decode cX0_countOn 9 = .ok (.if_icmp .ge 25, 3) := by decide +kernel
theorem dX0_countOn_12 : decode cX0_countOn 12 = .ok (.aload_n 0, 1) := by decide +kernel
theorem dX0_countOn_13 : decode cX0_countOn 13 = .ok (.getfield 17, 3) := by decide +kernel
theorem dX0_countOn_16 : decode cX0_countOn 16 = .ok (.iload_n 3, 1) := by decide +kernel
theorem dX0_countOn_17 : decode cX0_countOn 17 = .ok (.aaload, 1) := by decide +kernel
theorem dX0_countOn_18 : decode cX0_countOn 18 = .ok (.getfield 66, 3) := by decide +kernel
theorem dX0_countOn_21 : decode cX0_countOn 21 = .ok (.iload_n 1, 1) := by decide +kernel
theorem dX0_countOn_22 : decode cX0_countOn 22 = .ok (.if_icmp .ne 6, 3) := by decide +kernel
theorem dX0_countOn_25 : decode cX0_countOn 25 = .ok (.iinc 2 1, 3) := by decide +kernel
theorem dX0_countOn_28 : decode cX0_countOn 28 = .ok (.iinc 3 1, 3) := by decide +kernel
theorem dX0_countOn_31 : decode cX0_countOn 31 = .ok (.goto (-27), 3) := by decide +kernel
theorem dX0_countOn_34 : decode cX0_countOn 34 = .ok (.iload_n 2, 1) := by decide +kernel
theorem dX0_countOn_35 : decode cX0_countOn 35 = .ok (.ireturn, 1) := by decide +kernel
theorem dX0_countIn_0 : decode cX0_countIn 0 = .ok (.iconst 0, 1) := by decide +kernel
theorem dX0_countIn_1 : decode cX0_countIn 1 = .ok (.istore_n 2, 1) := by decide +kernel
theorem dX0_countIn_2 : decode cX0_countIn 2 = .ok (.iconst 0, 1) := by decide +kernel
theorem dX0_countIn_3 : decode cX0_countIn 3 = .ok (.istore_n 3, 1) := by decide +kernel
theorem dX0_countIn_4 : decode cX0_countIn 4 = .ok (.iload_n 3, 1) := by decide +kernel
theorem dX0_countIn_5 : decode cX0_countIn 5 = .ok (.aload_n 0, 1) := by decide +kernel
theorem dX0_countIn_6 : decode cX0_countIn 6 = .ok (.getfield 21, 3) := by decide +kernel
theorem dX0_countIn_9 : decode cX0_countIn 9 = .ok (.if_icmp .ge 25, 3) := by decide +kernel
theorem dX0_countIn_12 : decode cX0_countIn 12 = .ok (.aload_n 0, 1) := by decide +kernel
theorem dX0_countIn_13 : decode cX0_countIn 13 = .ok (.getfield 17, 3) := by decide +kernel
theorem dX0_countIn_16 : decode cX0_countIn 16 = .ok (.iload_n 3, 1) := by decide +kernel
theorem dX0_countIn_17 : decode cX0_countIn 17 = .ok (.aaload, 1) := by decide +kernel
theorem dX0_countIn_18 : decode cX0_countIn 18 = .ok (.invokevirtual 69, 3) := by decide +kernel
theorem dX0_countIn_21 : decode cX0_countIn 21 = .ok (.iload_n 1, 1) := by decide +kernel
theorem dX0_countIn_22 : decode cX0_countIn 22 = .ok (.if_icmp .ne 6, 3) := by decide +kernel
theorem dX0_countIn_25 : decode cX0_countIn 25 = .ok (.iinc 2 1, 3) := by decide +kernel
theorem dX0_countIn_28 : decode cX0_countIn 28 = .ok (.iinc 3 1, 3) := by decide +kernel
theorem dX0_countIn_31 : decode cX0_countIn 31 = .ok (.goto (-27), 3) := by decide +kernel
theorem dX0_countIn_34 : decode cX0_countIn 34 = .ok (.iload_n 2, 1) := by decide +kernel
theorem dX0_countIn_35 : decode cX0_countIn 35 = .ok (.ireturn, 1) := by decide +kernel
theorem dX0_sumOf_0 : decode cX0_sumOf 0 = .ok (.iconst 0, 1) := by decide +kernel
theorem dX0_sumOf_1 : decode cX0_sumOf 1 = .ok (.istore_n 2, 1) := by decide +kernel
theorem dX0_sumOf_2 : decode cX0_sumOf 2 = .ok (.iconst 0, 1) := by decide +kernel
theorem dX0_sumOf_3 : decode cX0_sumOf 3 = .ok (.istore_n 3, 1) := by decide +kernel
theorem dX0_sumOf_4 : decode cX0_sumOf 4 = .ok (.iload_n 3, 1) := by decide +kernel
theorem dX0_sumOf_5 : decode cX0_sumOf 5 = .ok (.aload_n 0, 1) := by decide +kernel
theorem dX0_sumOf_6 : decode cX0_sumOf 6 = .ok (.getfield 21, 3) := by decide +kernel
theorem dX0_sumOf_9 : decode cX0_sumOf 9 = .ok (.if_icmp .ge 22, 3) := by decide +kernel
theorem dX0_sumOf_12 : decode cX0_sumOf 12 = .ok (.iload_n 2, 1) := by decide +kernel
theorem dX0_sumOf_13 : decode cX0_sumOf 13 = .ok (.aload_n 0, 1) := by decide +kernel
theorem dX0_sumOf_14 : decode cX0_sumOf 14 = .ok (.getfield 17, 3) := by decide +kernel
theorem dX0_sumOf_17 : decode cX0_sumOf 17 = .ok (.iload_n 3, 1) := by decide +kernel
theorem dX0_sumOf_18 : decode cX0_sumOf 18 = .ok (.aaload, 1) := by decide +kernel
theorem dX0_sumOf_19 : decode cX0_sumOf 19 = .ok (.iload_n 1, 1) := by decide +kernel
theorem dX0_sumOf_20 : decode cX0_sumOf 20 = .ok (.invokevirtual 73, 3) := by decide +kernel
theorem dX0_sumOf_23 : decode cX0_sumOf 23 = .ok (.iadd, 1) := by decide +kernel
theorem dX0_sumOf_24 : decode cX0_sumOf 24 = .ok (.istore_n 2, 1) := by decide +kernel
theorem dX0_sumOf_25 : decode cX0_sumOf 25 = .ok (.iinc 3 1, 3) := by decide +kernel
theorem dX0_sumOf_28 : decode cX0_sumOf 28 = .ok (.goto (-24), 3) := by decide +kernel
theorem dX0_sumOf_31 : decode cX0_sumOf 31 = .ok (.iload_n 2, 1) := by decide +kernel
theorem dX0_sumOf_32 : decode cX0_sumOf 32 = .ok (.ireturn, 1) := by decide +kernel
theorem dX0_welcome_0 : decode cX0_welcome 0 = .ok (.aload_n 0, 1) := by decide +kernel
theorem dX0_welcome_1 : decode cX0_welcome 1 = .ok (.getfield 21, 3) := by decide +kernel
theorem dX0_welcome_4 : decode cX0_welcome 4 = .ok (.istore_n 2, 1) := by decide +kernel
theorem dX0_welcome_5 : decode cX0_welcome 5 = .ok (.iload_n 2, 1) := by decide +kernel
theorem dX0_welcome_6 : decode cX0_welcome 6 = .ok (.bipush 8, 2) := by decide +kernel
theorem dX0_welcome_8 : decode cX0_welcome 8 = .ok (.if_icmp .ge 23, 3) := by decide +kernel
theorem dX0_welcome_11 : decode cX0_welcome 11 = .ok (.aload_n 0, 1) := by decide +kernel
theorem dX0_welcome_12 : decode cX0_welcome 12 = .ok (.getfield 17, 3) := by decide +kernel
theorem dX0_welcome_15 : decode cX0_welcome 15 = .ok (.iload_n 2, 1) := by decide +kernel
theorem dX0_welcome_16 : decode cX0_welcome 16 = .ok (.aaload, 1) := by decide +kernel
theorem dX0_welcome_17 : decode cX0_welcome 17 = .ok (.iload_n 1, 1) := by decide +kernel
theorem dX0_welcome_18 : decode cX0_welcome 18 = .ok (.invokevirtual 77, 3) := by decide +kernel
theorem dX0_welcome_21 : decode cX0_welcome 21 = .ok (.aload_n 0, 1) := by decide +kernel
theorem dX0_welcome_22 : decode cX0_welcome 22 = .ok (.dup, 1) := by decide +kernel
theorem dX0_welcome_23 : decode cX0_welcome 23 = .ok (.getfield 21, 3) := by decide +kernel
theorem dX0_welcome_26 : decode cX0_welcome 26 = .ok (.iconst 1, 1) := by decide +kernel
theorem dX0_welcome_27 : decode cX0_welcome 27 = .ok (.iadd, 1) := by decide +kernel
theorem dX0_welcome_28 : decode cX0_welcome 28 = .ok (.putfield 21, 3) := by decide +kernel
theorem dX0_welcome_31 : decode cX0_welcome 31 = .ok (.iload_n 2, 1) := by decide +kernel
theorem dX0_welcome_32 : decode cX0_welcome 32 = .ok (.ireturn, 1) := by decide +kernel
theorem dX0_takeAway_0 : decode cX0_takeAway 0 = .ok (.iload_n 1, 1) := by decide +kernel
theorem dX0_takeAway_1 : decode cX0_takeAway 1 = .ok (.istore_n 2, 1) := by decide +kernel
theorem dX0_takeAway_2 : decode cX0_takeAway 2 = .ok (.iload_n 2, 1) := by decide +kernel
theorem dX0_takeAway_3 : decode cX0_takeAway 3 = .ok (.aload_n 0, 1) := by decide +kernel
theorem dX0_takeAway_4 : decode cX0_takeAway 4 = .ok (.getfield 21, 3) := by decide +kernel
theorem dX0_takeAway_7 : decode cX0_takeAway 7 = .ok (.iconst 1, 1) := by decide +kernel
theorem dX0_takeAway_8 : decode cX0_takeAway 8 = .ok (.isub, 1) := by decide +kernel
theorem dX0_takeAway_9 : decode cX0_takeAway 9 = .ok (.if_icmp .ge 26, 3) := by decide +kernel
theorem dX0_takeAway_12 : decode cX0_takeAway 12 = .ok (.aload_n 0, 1) := by decide +kernel
theorem dX0_takeAway_13 : decode cX0_takeAway 13 = .ok (.getfield 17, 3) := by decide +kernel
theorem dX0_takeAway_16 : decode cX0_takeAway 16 = .ok (.iload_n 2, 1) := by decide +kernel
theorem dX0_takeAway_17 : decode cX0_takeAway 17 = .ok (.aaload, 1) := by decide +kernel
theorem dX0_takeAway_18 : decode cX0_takeAway 18 = .ok (.aload_n 0, 1) := by decide +kernel
theorem dX0_takeAway_19 : decode cX0_takeAway 19 = .ok (.getfield 17, 3) := by decide +kernel
theorem dX0_takeAway_22 : decode cX0_takeAway 22 = .ok (.iload_n 2, 1) := by decide +kernel
theorem dX0_takeAway_23 : decode cX0_takeAway 23 = .ok (.iconst 1, 1) := by decide +kernel
theorem dX0_takeAway_24 : decode cX0_takeAway 24 = .ok (.iadd, 1) := by decide +kernel
theorem dX0_takeAway_25 : decode cX0_takeAway 25 = .ok (.aaload, 1) := by decide +kernel
theorem dX0_takeAway_26 : decode cX0_takeAway 26 = .ok (.invokevirtual 53, 3) := by decide +kernel
theorem dX0_takeAway_29 : decode cX0_takeAway 29 = .ok (.iinc 2 1, 3) := by decide +kernel
theorem dX0_takeAway_32 : decode cX0_takeAway 32 = .ok (.goto (-30), 3) := by decide +kernel
theorem dX0_takeAway_35 : decode cX0_takeAway 35 = .ok (.aload_n 0, 1) := by decide +kernel
theorem dX0_takeAway_36 : decode cX0_takeAway 36 = .ok (.dup, 1) := by decide +kernel
theorem dX0_takeAway_37 : decode cX0_takeAway 37 = .ok (.getfield 21, 3) := by decide +kernel
theorem dX0_takeAway_40 : decode cX0_takeAway 40 = .ok (.iconst 1, 1) := by decide +kernel
theorem dX0_takeAway_41 : decode cX0_takeAway 41 = .ok (.isub, 1) := by decide +kernel
theorem dX0_takeAway_42 : decode cX0_takeAway 42 = .ok (.putfield 21, 3) := by decide +kernel
theorem dX0_takeAway_45 : decode cX0_takeAway 45 = .ok (.return_, 1) := by decide +kernel
theorem dX0_startCrossing_0 : decode cX0_startCrossing 0 = .ok (.aload_n 1, 1) := by decide +kernel
theorem dX0_startCrossing_1 : decode cX0_startCrossing 1 = .ok (.iconst 1, 1) := by decide +kernel
theorem dX0_startCrossing_2 : decode cX0_startCrossing 2 = .ok (.putfield 81, 3) := by decide +kernel
theorem dX0_startCrossing_5 : decode cX0_startCrossing 5 = .ok (.aload_n 1, 1) := by decide +kernel
theorem dX0_startCrossing_6 : decode cX0_startCrossing 6 = .ok (.invokevirtual 85, 3) := by decide +kernel
theorem dX0_startCrossing_9 : decode cX0_startCrossing 9 = .ok (.ifCond .ne 46, 3) := by decide +kernel
theorem dX0_startCrossing_12 : decode cX0_startCrossing 12 = .ok (.aload_n 1, 1) := by decide +kernel
theorem dX0_startCrossing_13 : decode cX0_startCrossing 13 = .ok (.getfield 66, 3) := by decide +kernel
theorem dX0_startCrossing_16 : decode cX0_startCrossing 16 = .ok (.iconst (-1), 1) := by decide +kernel
theorem dX0_startCrossing_17 : decode cX0_startCrossing 17 = .ok (.if_icmp .ne 38, 3) := by decide +kernel
theorem dX0_startCrossing_20 : decode cX0_startCrossing 20 = .ok (.bipush 12, 2) := by decide +kernel
theorem dX0_startCrossing_22 : decode cX0_startCrossing 22 = .ok (.iconst 3, 1) := by decide +kernel
theorem dX0_startCrossing_23 : decode cX0_startCrossing 23 = .ok (.aload_n 1, 1) := by decide +kernel
theorem dX0_startCrossing_24 : decode cX0_startCrossing 24 = .ok (.getfield 88, 3) := by decide +kernel
theorem dX0_startCrossing_27 : decode cX0_startCrossing 27 = .ok (.imul, 1) := by decide +kernel
theorem dX0_startCrossing_28 : decode cX0_startCrossing 28 = .ok (.isub, 1) := by decide +kernel
theorem dX0_startCrossing_29 : decode cX0_startCrossing 29 = .ok (.istore_n 2, 1) := by decide +kernel
theorem dX0_startCrossing_30 : decode cX0_startCrossing 30 = .ok (.aload_n 1, 1) := by decide +kernel
theorem dX0_startCrossing_31 : decode cX0_startCrossing 31 = .ok (.iload_n 2, 1) := by decide +kernel
theorem dX0_startCrossing_32 : decode cX0_startCrossing 32 = .ok (.aload_n 0, 1) := by decide +kernel
theorem dX0_startCrossing_33 : decode cX0_startCrossing 33 = .ok (.getfield 34, 3) := by decide +kernel
theorem dX0_startCrossing_36 : decode cX0_startCrossing 36 = .ok (.invokestatic 57, 3) := by decide +kernel
theorem dX0_startCrossing_39 : decode cX0_startCrossing 39 = .ok (.putfield 91, 3) := by decide +kernel
theorem dX0_startCrossing_42 : decode cX0_startCrossing 42 = .ok (.aload_n 0, 1) := by decide +kernel
theorem dX0_startCrossing_43 : decode cX0_startCrossing 43 = .ok (.dup, 1) := by decide +kernel
theorem dX0_startCrossing_44 : decode cX0_startCrossing 44 = .ok (.getfield 34, 3) := by decide +kernel
theorem dX0_startCrossing_47 : decode cX0_startCrossing 47 = .ok (.aload_n 1, 1) := by decide +kernel
theorem dX0_startCrossing_48 : decode cX0_startCrossing 48 = .ok (.getfield 91, 3) := by decide +kernel
theorem dX0_startCrossing_51 : decode cX0_startCrossing 51 = .ok (.isub, 1) := by decide +kernel
theorem dX0_startCrossing_52 : decode cX0_startCrossing 52 = .ok (.putfield 34, 3) := by decide +kernel
theorem dX0_startCrossing_55 : decode cX0_startCrossing 55 = .ok (.aload_n 1, 1) := by decide +kernel
theorem dX0_startCrossing_56 : decode cX0_startCrossing 56 = .ok (.invokevirtual 94, 3) := by decide +kernel
theorem dX0_startCrossing_59 : decode cX0_startCrossing 59 = .ok (.istore_n 2, 1) := by decide +kernel
theorem dX0_startCrossing_60 : decode cX0_startCrossing 60 = .ok (.aload_n 0, 1) := by decide +kernel
theorem dX0_startCrossing_61 : decode cX0_startCrossing 61 = .ok (.dup, 1) := by decide +kernel
theorem dX0_startCrossing_62 : decode cX0_startCrossing 62 = .ok (.getfield 43, 3) := by decide +kernel
theorem dX0_startCrossing_65 : decode cX0_startCrossing 65 = .ok (.iload_n 2, 1) := by decide +kernel
theorem dX0_startCrossing_66 : decode cX0_startCrossing 66 = .ok (.iadd, 1) := by decide +kernel
theorem dX0_startCrossing_67 : decode cX0_startCrossing 67 = .ok (.putfield 43, 3) := by decide +kernel
theorem dX0_startCrossing_70 : decode cX0_startCrossing 70 = .ok (.iload_n 2, 1) := by decide +kernel
theorem dX0_startCrossing_71 : decode cX0_startCrossing 71 = .ok (.ireturn, 1) := by decide +kernel
theorem dX0_canGo_0 : decode cX0_canGo 0 = .ok (.iload_n 3, 1) := by decide +kernel
theorem dX0_canGo_1 : decode cX0_canGo 1 = .ok (.invokestatic 97, 3) := by decide +kernel
theorem dX0_canGo_4 : decode cX0_canGo 4 = .ok (.ifCond .ne 5, 3) := by decide +kernel
theorem dX0_canGo_7 : decode cX0_canGo 7 = .ok (.iconst 1, 1) := by decide +kernel
theorem dX0_canGo_8 : decode cX0_canGo 8 = .ok (.ireturn, 1) := by decide +kernel
theorem dX0_canGo_9 : decode cX0_canGo 9 = .ok (.aload_n 0, 1) := by decide +kernel
theorem dX0_canGo_10 : decode cX0_canGo 10 = .ok (.iload_n 3, 1) := by decide +kernel
theorem dX0_canGo_11 : decode cX0_canGo 11 = .ok (.iload 4, 2) := by decide +kernel
theorem dX0_canGo_13 : decode cX0_canGo 13 = .ok (.invokevirtual 101, 3) := by decide +kernel
theorem dX0_canGo_16 : decode cX0_canGo 16 = .ok (.istore 5, 2) := by decide +kernel
theorem dX0_canGo_18 : decode cX0_canGo 18 = .ok (.iload 5, 2) := by decide +kernel
theorem dX0_canGo_20 : decode cX0_canGo 20 = .ok (.iconst 1, 1) := by decide +kernel
theorem dX0_canGo_21 : decode cX0_canGo 21 = .ok (.if_icmp .eq 14, 3) := by decide +kernel
theorem dX0_canGo_24 : decode cX0_canGo 24 = .ok (.iload 5, 2) := by decide +kernel
theorem dX0_canGo_26 : decode cX0_canGo 26 = .ok (.ifCond .ne 7, 3) := by decide +kernel
theorem dX0_canGo_29 : decode cX0_canGo 29 = .ok (.iconst 1, 1) := by decide +kernel
theorem dX0_canGo_30 : decode cX0_canGo 30 = .ok (.goto 4, 3) := by decide +kernel
theorem dX0_canGo_33 : decode cX0_canGo 33 = .ok (.iconst 0, 1) := by decide +kernel
theorem dX0_canGo_34 : decode cX0_canGo 34 = .ok (.ireturn, 1) := by decide +kernel
theorem dX0_canGo_35 : decode cX0_canGo 35 = .ok (.iload_n 1, 1) := by decide +kernel
theorem dX0_canGo_36 : decode cX0_canGo 36 = .ok (.iconst 1, 1) := by decide +kernel
theorem dX0_canGo_37 : decode cX0_canGo 37 = .ok (.if_icmp .ne 31, 3) := by decide +kernel
theorem dX0_canGo_40 : decode cX0_canGo 40 = .ok (.iload_n 2, 1) := by decide +kernel
theorem dX0_canGo_41 : decode cX0_canGo 41 = .ok (.invokestatic 97, 3) := by decide +kernel
theorem dX0_canGo_44 : decode cX0_canGo 44 = .ok (.ifCond .eq 18, 3) := by decide +kernel
theorem dX0_canGo_47 : decode cX0_canGo 47 = .ok (.aload_n 0, 1) := by decide +kernel
theorem dX0_canGo_48 : decode cX0_canGo 48 = .ok (.getfield 9, 3) := by decide +kernel
theorem dX0_canGo_51 : decode cX0_canGo 51 = .ok (.iload_n 3, 1) := by decide +kernel
theorem dX0_canGo_52 : decode cX0_canGo 52 = .ok (.iaload, 1) := by decide +kernel
theorem dX0_canGo_53 : decode cX0_canGo 53 = .ok (.aload_n 0, 1) := by decide +kernel
theorem dX0_canGo_54 : decode cX0_canGo 54 = .ok (.getfield 9, 3) := by decide +kernel
theorem dX0_canGo_57 : decode cX0_canGo 57 = .ok (.iload_n 2, 1) := by decide +kernel
theorem dX0_canGo_58 : decode cX0_canGo 58 = .ok (.iaload, 1) := by decide +kernel
theorem dX0_canGo_59 : decode cX0_canGo 59 = .ok (.if_icmp .lt 7, 3) := by decide +kernel
theorem dX0_canGo_62 : decode cX0_canGo 62 = .ok (.iconst 1, 1) := by decide +kernel
theorem dX0_canGo_63 : decode cX0_canGo 63 = .ok (.goto 4, 3) := by decide +kernel
theorem dX0_canGo_66 : decode cX0_canGo 66 = .ok (.iconst 0, 1) := by decide +kernel
theorem dX0_canGo_67 : decode cX0_canGo 67 = .ok (.ireturn, 1) := by decide +kernel
theorem dX0_canGo_68 : decode cX0_canGo 68 = .ok (.iload_n 1, 1) := by decide +kernel
theorem dX0_canGo_69 : decode cX0_canGo 69 = .ok (.ifCond .ne 7, 3) := by decide +kernel
theorem dX0_canGo_72 : decode cX0_canGo 72 = .ok (.iconst 1, 1) := by decide +kernel
theorem dX0_canGo_73 : decode cX0_canGo 73 = .ok (.goto 4, 3) := by decide +kernel
theorem dX0_canGo_76 : decode cX0_canGo 76 = .ok (.iconst 0, 1) := by decide +kernel
theorem dX0_canGo_77 : decode cX0_canGo 77 = .ok (.ireturn, 1) := by decide +kernel
theorem dX0_placeAfterStep_0 : decode cX0_placeAfterStep 0 = .ok (.iload_n 3, 1) := by decide +kernel
theorem dX0_placeAfterStep_1 : decode cX0_placeAfterStep 1 = .ok (.ifCond .eq 9, 3) := by decide +kernel
theorem dX0_placeAfterStep_4 : decode cX0_placeAfterStep 4 = .ok (.iload_n 2, 1) := by decide +kernel
theorem dX0_placeAfterStep_5 : decode cX0_placeAfterStep 5 = .ok (.iconst 1, 1) := by decide +kernel
theorem dX0_placeAfterStep_6 : decode cX0_placeAfterStep 6 = .ok (.iadd, 1) := by decide +kernel
theorem dX0_placeAfterStep_7 : decode cX0_placeAfterStep 7 = .ok (.goto 6, 3) := by decide +kernel
theorem dX0_placeAfterStep_10 : decode cX0_placeAfterStep 10 = .ok (.iload_n 2, 1) := by decide +kernel
theorem dX0_placeAfterStep_11 : decode cX0_placeAfterStep 11 = .ok (.iconst 1, 1) := by decide +kernel
theorem dX0_placeAfterStep_12 : decode cX0_placeAfterStep 12 = .ok (.isub, 1) := by decide +kernel
theorem dX0_placeAfterStep_13 : decode cX0_placeAfterStep 13 = .ok (.istore 5, 2) := by decide +kernel
theorem dX0_placeAfterStep_15 : decode cX0_placeAfterStep 15 = .ok (.aload_n 0, 1) := by decide +kernel
theorem dX0_placeAfterStep_16 : decode cX0_placeAfterStep 16 = .ok (.iload_n 1, 1) := by decide +kernel
theorem dX0_placeAfterStep_17 : decode cX0_placeAfterStep 17 = .ok (.iload_n 2, 1) := by decide +kernel
theorem dX0_placeAfterStep_18 : decode cX0_placeAfterStep 18 = .ok (.iload 5, 2) := by decide +kernel
theorem dX0_placeAfterStep_20 : decode cX0_placeAfterStep 20 = .ok (.iload 4, 2) := by decide +kernel
theorem dX0_placeAfterStep_22 : decode cX0_placeAfterStep 22 = .ok (.invokevirtual 104, 3) := by decide +kernel
theorem dX0_placeAfterStep_25 : decode cX0_placeAfterStep 25 = .ok (.ifCond .eq 8, 3) := by decide +kernel
theorem dX0_placeAfterStep_28 : decode cX0_placeAfterStep 28 = .ok (.iload 5, 2) := by decide +kernel
theorem dX0_placeAfterStep_30 : decode cX0_placeAfterStep 30 = .ok (.goto 4, 3) := by decide +kernel
theorem dX0_placeAfterStep_33 : decode cX0_placeAfterStep 33 = .ok (.iload_n 2, 1) := by decide +kernel
theorem dX0_placeAfterStep_34 : decode cX0_placeAfterStep 34 = .ok (.ireturn, 1) := by decide +kernel
theorem dX0_placeAfterGoingBack_0 : decode cX0_placeAfterGoingBack 0 = .ok (.iload_n 1, 1) := by decide +kernel
theorem dX0_placeAfterGoingBack_1 : decode cX0_placeAfterGoingBack 1 = .ok (.istore 4, 2) := by decide +kernel
theorem dX0_placeAfterGoingBack_3 : decode cX0_placeAfterGoingBack 3 = .ok (.iconst 0, 1) := by decide +kernel
theorem dX0_placeAfterGoingBack_4 : decode cX0_placeAfterGoingBack 4 = .ok (.istore 5, 2) := by decide +kernel
theorem dX0_placeAfterGoingBack_6 : decode cX0_placeAfterGoingBack 6 = .ok (.iload 5, 2) := by decide +kernel
theorem dX0_placeAfterGoingBack_8 : decode cX0_placeAfterGoingBack 8 = .ok (.bipush 10, 2) := by decide +kernel
theorem dX0_placeAfterGoingBack_10 : decode cX0_placeAfterGoingBack 10 = .ok (.if_icmp .ge 48, 3) := by decide +kernel
theorem dX0_placeAfterGoingBack_13 : decode cX0_placeAfterGoingBack 13 = .ok (.iload 4, 2) := by decide +kernel
theorem dX0_placeAfterGoingBack_15 : decode cX0_placeAfterGoingBack 15 = .ok (.invokestatic 97, 3) := by decide +kernel
theorem dX0_placeAfterGoingBack_18 : decode cX0_placeAfterGoingBack 18 = .ok (.ifCond .eq 14, 3) := by decide +kernel
theorem dX0_placeAfterGoingBack_21 : decode cX0_placeAfterGoingBack 21 = .ok (.aload_n 0, 1) := by decide +kernel
theorem dX0_placeAfterGoingBack_22 : decode cX0_placeAfterGoingBack 22 = .ok (.iload 4, 2) := by decide +kernel
theorem dX0_placeAfterGoingBack_24 : decode cX0_placeAfterGoingBack 24 = .ok (.iload_n 3, 1) := by decide +kernel
theorem dX0_placeAfterGoingBack_25 : decode cX0_placeAfterGoingBack 25 = .ok (.invokevirtual 101, 3) := by decide +kernel
theorem dX0_placeAfterGoingBack_28 : decode cX0_placeAfterGoingBack 28 = .ok (.iconst 2, 1) := by decide +kernel
theorem dX0_placeAfterGoingBack_29 : decode cX0_placeAfterGoingBack 29 = .ok (.if_icmp .eq 6, 3) := by decide +kernel
theorem dX0_placeAfterGoingBack_32 : decode cX0_placeAfterGoingBack 32 = .ok (.iload 4, 2) := by decide +kernel
theorem dX0_placeAfterGoingBack_34 : decode cX0_placeAfterGoingBack 34 = .ok (.ireturn, 1) := by decide +kernel
theorem dX0_placeAfterGoingBack_35 : decode cX0_placeAfterGoingBack 35 = .ok (.iload_n 2, 1) := by decide +kernel
theorem dX0_placeAfterGoingBack_36 : decode cX0_placeAfterGoingBack 36 = .ok (.ifCond .eq 10, 3) := by decide +kernel
theorem dX0_placeAfterGoingBack_39 : decode cX0_placeAfterGoingBack 39 = .ok (.iload 4, 2) := by decide +kernel
theorem dX0_placeAfterGoingBack_41 : decode cX0_placeAfterGoingBack 41 = .ok (.iconst 1, 1) := by decide +kernel
theorem dX0_placeAfterGoingBack_42 : decode cX0_placeAfterGoingBack 42 = .ok (.isub, 1) := by decide +kernel
theorem dX0_placeAfterGoingBack_43 : decode cX0_placeAfterGoingBack 43 = .ok (.goto 7, 3) := by decide +kernel
theorem dX0_placeAfterGoingBack_46 : decode cX0_placeAfterGoingBack 46 = .ok (.iload 4, 2) := by decide +kernel
theorem dX0_placeAfterGoingBack_48 : decode cX0_placeAfterGoingBack 48 = .ok (.iconst 1, 1) := by decide +kernel
theorem dX0_placeAfterGoingBack_49 : decode cX0_placeAfterGoingBack 49 = .ok (.iadd, 1) := by decide +kernel
theorem dX0_placeAfterGoingBack_50 : decode cX0_placeAfterGoingBack 50 = .ok (.istore 4, 2) := by decide +kernel
theorem dX0_placeAfterGoingBack_52 : decode cX0_placeAfterGoingBack 52 = .ok (.iinc 5 1, 3) := by decide +kernel
theorem dX0_placeAfterGoingBack_55 : decode cX0_placeAfterGoingBack 55 = .ok (.goto (-49), 3) := by decide +kernel
theorem dX0_placeAfterGoingBack_58 : decode cX0_placeAfterGoingBack 58 = .ok (.iload 4, 2) := by decide +kernel
theorem dX0_placeAfterGoingBack_60 : decode cX0_placeAfterGoingBack 60 = .ok (.ireturn, 1) := by decide +kernel
theorem dX0_wetStepsOf_0 : decode cX0_wetStepsOf 0 = .ok (.iconst 0, 1) := by decide +kernel
theorem dX0_wetStepsOf_1 : decode cX0_wetStepsOf 1 = .ok (.istore_n 2, 1) := by decide +kernel
theorem dX0_wetStepsOf_2 : decode cX0_wetStepsOf 2 = .ok (.iconst 0, 1) := by decide +kernel
theorem dX0_wetStepsOf_3 : decode cX0_wetStepsOf 3 = .ok (.istore_n 3, 1) := by decide +kernel
theorem dX0_wetStepsOf_4 : decode cX0_wetStepsOf 4 = .ok (.iload_n 3, 1) := by decide +kernel
theorem dX0_wetStepsOf_5 : decode cX0_wetStepsOf 5 = .ok (.bipush 10, 2) := by decide +kernel
theorem dX0_wetStepsOf_7 : decode cX0_wetStepsOf 7 = .ok (.if_icmp .ge 43, 3) := by decide +kernel
theorem dX0_wetStepsOf_10 : decode cX0_wetStepsOf 10 = .ok (.aload_n 0, 1) := by decide +kernel
theorem dX0_wetStepsOf_11 : decode cX0_wetStepsOf 11 = .ok (.iload_n 1, 1) := by decide +kernel
theorem dX0_wetStepsOf_12 : decode cX0_wetStepsOf 12 = .ok (.iload_n 3, 1) := by decide +kernel
theorem dX0_wetStepsOf_13 : decode cX0_wetStepsOf 13 = .ok (.iconst 1, 1) := by decide +kernel
theorem dX0_wetStepsOf_14 : decode cX0_wetStepsOf 14 = .ok (.isub, 1) := by decide +kernel
theorem dX0_wetStepsOf_15 : decode cX0_wetStepsOf 15 = .ok (.iload_n 3, 1) := by decide +kernel
theorem dX0_wetStepsOf_16 : decode cX0_wetStepsOf 16 = .ok (.aload_n 0, 1) := by decide +kernel
theorem dX0_wetStepsOf_17 : decode cX0_wetStepsOf 17 = .ok (.getfield 28, 3) := by decide +kernel
theorem dX0_wetStepsOf_20 : decode cX0_wetStepsOf 20 = .ok (.invokevirtual 104, 3) := by decide +kernel
theorem dX0_wetStepsOf_23 : decode cX0_wetStepsOf 23 = .ok (.ifCond .ne 5, 3) := by decide +kernel
theorem dX0_wetStepsOf_26 : decode cX0_wetStepsOf 26 = .ok (.iconst (-1), 1) := by decide +kernel
theorem dX0_wetStepsOf_27 : decode cX0_wetStepsOf 27 = .ok (.ireturn, 1) := by decide +kernel
theorem dX0_wetStepsOf_28 : decode cX0_wetStepsOf 28 = .ok (.aload_n 0, 1) := by decide +kernel
theorem dX0_wetStepsOf_29 : decode cX0_wetStepsOf 29 = .ok (.iload_n 3, 1) := by decide +kernel
theorem dX0_wetStepsOf_30 : decode cX0_wetStepsOf 30 = .ok (.aload_n 0, 1) := by decide +kernel
theorem dX0_wetStepsOf_31 : decode cX0_wetStepsOf 31 = .ok (.getfield 28, 3) := by decide +kernel
theorem dX0_wetStepsOf_34 : decode cX0_wetStepsOf 34 = .ok (.invokevirtual 101, 3) := by decide +kernel
theorem dX0_wetStepsOf_37 : decode cX0_wetStepsOf 37 = .ok (.iconst 1, 1) := by decide +kernel
theorem dX0_wetStepsOf_38 : decode cX0_wetStepsOf 38 = .ok (.if_icmp .ne 6, 3) := by decide +kernel
theorem dX0_wetStepsOf_41 : decode cX0_wetStepsOf 41 = .ok (.iinc 2 1, 3) := by decide +kernel
theorem dX0_wetStepsOf_44 : decode cX0_wetStepsOf 44 = .ok (.iinc 3 1, 3) := by decide +kernel
theorem dX0_wetStepsOf_47 : decode cX0_wetStepsOf 47 = .ok (.goto (-43), 3) := by decide +kernel
theorem dX0_wetStepsOf_50 : decode cX0_wetStepsOf 50 = .ok (.iload_n 2, 1) := by decide +kernel
theorem dX0_wetStepsOf_51 : decode cX0_wetStepsOf 51 = .ok (.ireturn, 1) := by decide +kernel
theorem dX0_hoursToCross_0 : decode cX0_hoursToCross 0 = .ok (.aload_n 1, 1) := by decide +kernel
theorem dX0_hoursToCross_1 : decode cX0_hoursToCross 1 = .ok (.getfield 81, 3) := by decide +kernel
theorem dX0_hoursToCross_4 : decode cX0_hoursToCross 4 = .ok (.ifCond .eq 10, 3) := by decide +kernel
theorem dX0_hoursToCross_7 : decode cX0_hoursToCross 7 = .ok (.aload_n 1, 1) := by decide +kernel
theorem dX0_hoursToCross_8 : decode cX0_hoursToCross 8 = .ok (.getfield 108, 3) := by decide +kernel
theorem dX0_hoursToCross_11 : decode cX0_hoursToCross 11 = .ok (.ifCond .eq 5, 3) := by decide +kernel
theorem dX0_hoursToCross_14 : decode cX0_hoursToCross 14 = .ok (.iconst (-1), 1) := by decide +kernel
theorem dX0_hoursToCross_15 : decode cX0_hoursToCross 15 = .ok (.ireturn, 1) := by decide +kernel
theorem dX0_hoursToCross_16 : decode cX0_hoursToCross 16 = .ok (.aload_n 1, 1) := by decide +kernel
theorem dX0_hoursToCross_17 : decode cX0_hoursToCross 17 = .ok (.invokevirtual 85, 3) := by decide +kernel
theorem dX0_hoursToCross_20 : decode cX0_hoursToCross 20 = .ok (.istore_n 2, 1) := by decide +kernel
theorem dX0_hoursToCross_21 : decode cX0_hoursToCross 21 = .ok (.aload_n 1, 1) := by decide +kernel
theorem dX0_hoursToCross_22 : decode cX0_hoursToCross 22 = .ok (.getfield 66, 3) := by decide +kernel
theorem dX0_hoursToCross_25 : decode cX0_hoursToCross 25 = .ok (.istore_n 3, 1) := by decide +kernel
theorem dX0_hoursToCross_26 : decode cX0_hoursToCross 26 = .ok (.aload_n 0, 1) := by decide +kernel
theorem dX0_hoursToCross_27 : decode cX0_hoursToCross 27 = .ok (.getfield 28, 3) := by decide +kernel
theorem dX0_hoursToCross_30 : decode cX0_hoursToCross 30 = .ok (.istore 4, 2) := by decide +kernel
theorem dX0_hoursToCross_32 : decode cX0_hoursToCross 32 = .ok (.iconst 1, 1) := by decide +kernel
theorem dX0_hoursToCross_33 : decode cX0_hoursToCross 33 = .ok (.istore 5, 2) := by decide +kernel
theorem dX0_hoursToCross_35 : decode cX0_hoursToCross 35 = .ok (.iload 5, 2) := by decide +kernel
theorem dX0_hoursToCross_37 : decode cX0_hoursToCross 37 = .ok (.bipush 60, 2) := by decide +kernel
theorem dX0_hoursToCross_39 : decode cX0_hoursToCross 39 = .ok (.if_icmp .gt 80, 3) := by decide +kernel
theorem dX0_hoursToCross_42 : decode cX0_hoursToCross 42 = .ok (.aload_n 0, 1) := by decide +kernel
theorem dX0_hoursToCross_43 : decode cX0_hoursToCross 43 = .ok (.iload 4, 2) := by decide +kernel
theorem dX0_hoursToCross_45 : decode cX0_hoursToCross 45 = .ok (.invokevirtual 111, 3) := by decide +kernel
theorem dX0_hoursToCross_48 : decode cX0_hoursToCross 48 = .ok (.istore 4, 2) := by decide +kernel
theorem dX0_hoursToCross_50 : decode cX0_hoursToCross 50 = .ok (.aload_n 0, 1) := by decide +kernel
theorem dX0_hoursToCross_51 : decode cX0_hoursToCross 51 = .ok (.iload_n 3, 1) := by decide +kernel
theorem dX0_hoursToCross_52 : decode cX0_hoursToCross 52 = .ok (.aload_n 1, 1) := by decide +kernel
theorem dX0_hoursToCross_53 : decode cX0_hoursToCross 53 = .ok (.getfield 114, 3) := by decide +kernel
theorem dX0_hoursToCross_56 : decode cX0_hoursToCross 56 = .ok (.iload 4, 2) := by decide +kernel
theorem dX0_hoursToCross_58 : decode cX0_hoursToCross 58 = .ok (.invokevirtual 117, 3) := by decide +kernel
theorem dX0_hoursToCross_61 : decode cX0_hoursToCross 61 = .ok (.istore 6, 2) := by decide +kernel
theorem dX0_hoursToCross_63 : decode cX0_hoursToCross 63 = .ok (.iload 6, 2) := by decide +kernel
theorem dX0_hoursToCross_65 : decode cX0_hoursToCross 65 = .ok (.iload_n 3, 1) := by decide +kernel
theorem dX0_hoursToCross_66 : decode cX0_hoursToCross 66 = .ok (.if_icmp .eq 13, 3) := by decide +kernel
theorem dX0_hoursToCross_69 : decode cX0_hoursToCross 69 = .ok (.iload 6, 2) := by decide +kernel
theorem dX0_hoursToCross_71 : decode cX0_hoursToCross 71 = .ok (.invokestatic 97, 3) := by decide +kernel
theorem dX0_hoursToCross_74 : decode cX0_hoursToCross 74 = .ok (.ifCond .ne 5, 3) := by decide +kernel
theorem dX0_hoursToCross_77 : decode cX0_hoursToCross 77 = .ok (.iconst (-1), 1) := by decide +kernel
theorem dX0_hoursToCross_78 : decode cX0_hoursToCross 78 = .ok (.ireturn, 1) := by decide +kernel
theorem dX0_hoursToCross_79 : decode cX0_hoursToCross 79 = .ok (.aload_n 0, 1) := by decide +kernel
theorem dX0_hoursToCross_80 : decode cX0_hoursToCross 80 = .ok (.iload_n 2, 1) := by decide +kernel
theorem dX0_hoursToCross_81 : decode cX0_hoursToCross 81 = .ok (.iload 6, 2) := by decide +kernel
theorem dX0_hoursToCross_83 : decode cX0_hoursToCross 83 = .ok (.aload_n 1, 1) := by decide +kernel
theorem dX0_hoursToCross_84 : decode cX0_hoursToCross 84 = .ok (.getfield 114, 3) := by decide +kernel
theorem dX0_hoursToCross_87 : decode cX0_hoursToCross 87 = .ok (.iload 4, 2) := by decide +kernel
theorem dX0_hoursToCross_89 : decode cX0_hoursToCross 89 = .ok (.invokevirtual 121, 3) := by decide +kernel
theorem dX0_hoursToCross_92 : decode cX0_hoursToCross 92 = .ok (.istore_n 3, 1) := by decide +kernel
theorem dX0_hoursToCross_93 : decode cX0_hoursToCross 93 = .ok (.iload_n 3, 1) := by decide +kernel
theorem dX0_hoursToCross_94 : decode cX0_hoursToCross 94 = .ok (.aload_n 1, 1) := by decide +kernel
theorem dX0_hoursToCross_95 : decode cX0_hoursToCross 95 = .ok (.getfield 114, 3) := by decide +kernel
theorem dX0_hoursToCross_98 : decode cX0_hoursToCross 98 = .ok (.ifCond .eq 8, 3) := by decide +kernel
theorem dX0_hoursToCross_101 : decode cX0_hoursToCross 101 = .ok (.bipush 10, 2) := by decide +kernel
theorem dX0_hoursToCross_103 : decode cX0_hoursToCross 103 = .ok (.goto 4, 3) := by decide +kernel
theorem dX0_hoursToCross_106 : decode cX0_hoursToCross 106 = .ok (.iconst (-1), 1) := by decide +kernel
theorem dX0_hoursToCross_107 : decode cX0_hoursToCross 107 = .ok (.if_icmp .ne 6, 3) := by decide +kernel
theorem dX0_hoursToCross_110 : decode cX0_hoursToCross 110 = .ok (.iload 5, 2) := by decide +kernel
theorem dX0_hoursToCross_112 : decode cX0_hoursToCross 112 = .ok (.ireturn, 1) := by decide +kernel
theorem dX0_hoursToCross_113 : decode cX0_hoursToCross 113 = .ok (.iinc 5 1, 3) := by decide +kernel
theorem dX0_hoursToCross_116 : decode cX0_hoursToCross 116 = .ok (.goto (-81), 3) := by decide +kernel
theorem dX0_hoursToCross_119 : decode cX0_hoursToCross 119 = .ok (.iconst (-1), 1) := by decide +kernel
theorem dX0_hoursToCross_120 : decode cX0_hoursToCross 120 = .ok (.ireturn, 1) := by decide +kernel
theorem dX0_letHourGoBy_0 : decode cX0_letHourGoBy 0 = .ok (.aload_n 0, 1) := by decide +kernel
theorem dX0_letHourGoBy_1 : decode cX0_letHourGoBy 1 = .ok (.aload_n 0, 1) := by decide +kernel
theorem dX0_letHourGoBy_2 : decode cX0_letHourGoBy 2 = .ok (.aload_n 0, 1) := by decide +kernel
theorem dX0_letHourGoBy_3 : decode cX0_letHourGoBy 3 = .ok (.getfield 28, 3) := by decide +kernel
theorem dX0_letHourGoBy_6 : decode cX0_letHourGoBy 6 = .ok (.invokevirtual 111, 3) := by decide +kernel
theorem dX0_letHourGoBy_9 : decode cX0_letHourGoBy 9 = .ok (.putfield 28, 3) := by decide +kernel
theorem dX0_letHourGoBy_12 : decode cX0_letHourGoBy 12 = .ok (.iconst 0, 1) := by decide +kernel
theorem dX0_letHourGoBy_13 : decode cX0_letHourGoBy 13 = .ok (.istore_n 1, 1) := by decide +kernel
theorem dX0_letHourGoBy_14 : decode cX0_letHourGoBy 14 = .ok (.iload_n 1, 1) := by decide +kernel
theorem dX0_letHourGoBy_15 : decode cX0_letHourGoBy 15 = .ok (.aload_n 0, 1) := by decide +kernel
theorem dX0_letHourGoBy_16 : decode cX0_letHourGoBy 16 = .ok (.getfield 21, 3) := by decide +kernel
theorem dX0_letHourGoBy_19 : decode cX0_letHourGoBy 19 = .ok (.if_icmp .ge 19, 3) := by decide +kernel
theorem dX0_letHourGoBy_22 : decode cX0_letHourGoBy 22 = .ok (.aload_n 0, 1) := by decide +kernel
theorem dX0_letHourGoBy_23 : decode cX0_letHourGoBy 23 = .ok (.aload_n 0, 1) := by decide +kernel
theorem dX0_letHourGoBy_24 : decode cX0_letHourGoBy 24 = .ok (.getfield 17, 3) := by decide +kernel
theorem dX0_letHourGoBy_27 : decode cX0_letHourGoBy 27 = .ok (.iload_n 1, 1) := by decide +kernel
theorem dX0_letHourGoBy_28 : decode cX0_letHourGoBy 28 = .ok (.aaload, 1) := by decide +kernel
theorem dX0_letHourGoBy_29 : decode cX0_letHourGoBy 29 = .ok (.invokevirtual 125, 3) := by decide +kernel
theorem dX0_letHourGoBy_32 : decode cX0_letHourGoBy 32 = .ok (.iinc 1 1, 3) := by decide +kernel
theorem dX0_letHourGoBy_35 : decode cX0_letHourGoBy 35 = .ok (.goto (-21), 3) := by decide +kernel
theorem dX0_letHourGoBy_38 : decode cX0_letHourGoBy 38 = .ok (.iconst 0, 1) := by decide +kernel
theorem dX0_letHourGoBy_39 : decode cX0_letHourGoBy 39 = .ok (.istore_n 1, 1) := by decide +kernel
theorem dX0_letHourGoBy_40 : decode cX0_letHourGoBy 40 = .ok (.iload_n 1, 1) := by decide +kernel
theorem dX0_letHourGoBy_41 : decode cX0_letHourGoBy 41 = .ok (.aload_n 0, 1) := by decide +kernel
theorem dX0_letHourGoBy_42 : decode cX0_letHourGoBy 42 = .ok (.getfield 21, 3) := by decide +kernel
theorem dX0_letHourGoBy_45 : decode cX0_letHourGoBy 45 = .ok (.if_icmp .ge 19, 3) := by decide +kernel
theorem dX0_letHourGoBy_48 : decode cX0_letHourGoBy 48 = .ok (.aload_n 0, 1) := by decide +kernel
theorem dX0_letHourGoBy_49 : decode cX0_letHourGoBy 49 = .ok (.aload_n 0, 1) := by decide +kernel
theorem dX0_letHourGoBy_50 : decode cX0_letHourGoBy 50 = .ok (.getfield 17, 3) := by decide +kernel
theorem dX0_letHourGoBy_53 : decode cX0_letHourGoBy 53 = .ok (.iload_n 1, 1) := by decide +kernel
theorem dX0_letHourGoBy_54 : decode cX0_letHourGoBy 54 = .ok (.aaload, 1) := by decide +kernel
theorem dX0_letHourGoBy_55 : decode cX0_letHourGoBy 55 = .ok (.invokevirtual 128, 3) := by decide +kernel
theorem dX0_letHourGoBy_58 : decode cX0_letHourGoBy 58 = .ok (.iinc 1 1, 3) := by decide +kernel
theorem dX0_letHourGoBy_61 : decode cX0_letHourGoBy 61 = .ok (.goto (-21), 3) := by decide +kernel
theorem dX0_letHourGoBy_64 : decode cX0_letHourGoBy 64 = .ok (.iconst 0, 1) := by decide +kernel
theorem dX0_letHourGoBy_65 : decode cX0_letHourGoBy 65 = .ok (.istore_n 1, 1) := by decide +kernel
theorem dX0_letHourGoBy_66 : decode cX0_letHourGoBy 66 = .ok (.iload_n 1, 1) := by decide +kernel
theorem dX0_letHourGoBy_67 : decode cX0_letHourGoBy 67 = .ok (.aload_n 0, 1) := by decide +kernel
theorem dX0_letHourGoBy_68 : decode cX0_letHourGoBy 68 = .ok (.getfield 21, 3) := by decide +kernel
theorem dX0_letHourGoBy_71 : decode cX0_letHourGoBy 71 = .ok (.if_icmp .ge 19, 3) := by decide +kernel
theorem dX0_letHourGoBy_74 : decode cX0_letHourGoBy 74 = .ok (.aload_n 0, 1) := by decide +kernel
theorem dX0_letHourGoBy_75 : decode cX0_letHourGoBy 75 = .ok (.aload_n 0, 1) := by decide +kernel
theorem dX0_letHourGoBy_76 : decode cX0_letHourGoBy 76 = .ok (.getfield 17, 3) := by decide +kernel
theorem dX0_letHourGoBy_79 : decode cX0_letHourGoBy 79 = .ok (.iload_n 1, 1) := by decide +kernel
theorem dX0_letHourGoBy_80 : decode cX0_letHourGoBy 80 = .ok (.aaload, 1) := by decide +kernel
theorem dX0_letHourGoBy_81 : decode cX0_letHourGoBy 81 = .ok (.invokevirtual 131, 3) := by decide +kernel
theorem dX0_letHourGoBy_84 : decode cX0_letHourGoBy 84 = .ok (.iinc 1 1, 3) := by decide +kernel
theorem dX0_letHourGoBy_87 : decode cX0_letHourGoBy 87 = .ok (.goto (-21), 3) := by decide +kernel
theorem dX0_letHourGoBy_90 : decode cX0_letHourGoBy 90 = .ok (.aload_n 0, 1) := by decide +kernel
theorem dX0_letHourGoBy_91 : decode cX0_letHourGoBy 91 = .ok (.iconst (-1), 1) := by decide +kernel
theorem dX0_letHourGoBy_92 : decode cX0_letHourGoBy 92 = .ok (.invokevirtual 134, 3) := by decide +kernel
theorem dX0_letHourGoBy_95 : decode cX0_letHourGoBy 95 = .ok (.aload_n 0, 1) := by decide +kernel
theorem dX0_letHourGoBy_96 : decode cX0_letHourGoBy 96 = .ok (.bipush 10, 2) := by decide +kernel
theorem dX0_letHourGoBy_98 : decode cX0_letHourGoBy 98 = .ok (.invokevirtual 134, 3) := by decide +kernel
theorem dX0_letHourGoBy_101 : decode cX0_letHourGoBy 101 = .ok (.aload_n 0, 1) := by decide +kernel
theorem dX0_letHourGoBy_102 : decode cX0_letHourGoBy 102 = .ok (.dup, 1) := by decide +kernel
theorem dX0_letHourGoBy_103 : decode cX0_letHourGoBy 103 = .ok (.getfield 25, 3) := by decide +kernel
theorem dX0_letHourGoBy_106 : decode cX0_letHourGoBy 106 = .ok (.iconst 1, 1) := by decide +kernel
theorem dX0_letHourGoBy_107 : decode cX0_letHourGoBy 107 = .ok (.iadd, 1) := by decide +kernel
theorem dX0_letHourGoBy_108 : decode cX0_letHourGoBy 108 = .ok (.putfield 25, 3) := by decide +kernel
theorem dX0_letHourGoBy_111 : decode cX0_letHourGoBy 111 = .ok (.return_, 1) := by decide +kernel
theorem dX0_sendBack_0 : decode cX0_sendBack 0 = .ok (.aload_n 0, 1) := by decide +kernel
theorem dX0_sendBack_1 : decode cX0_sendBack 1 = .ok (.aload_n 1, 1) := by decide +kernel
theorem dX0_sendBack_2 : decode cX0_sendBack 2 = .ok (.getfield 66, 3) := by decide +kernel
theorem dX0_sendBack_5 : decode cX0_sendBack 5 = .ok (.aload_n 1, 1) := by decide +kernel
theorem dX0_sendBack_6 : decode cX0_sendBack 6 = .ok (.getfield 114, 3) := by decide +kernel
theorem dX0_sendBack_9 : decode cX0_sendBack 9 = .ok (.aload_n 0, 1) := by decide +kernel
theorem dX0_sendBack_10 : decode cX0_sendBack 10 = .ok (.getfield 28, 3) := by decide +kernel
theorem dX0_sendBack_13 : decode cX0_sendBack 13 = .ok (.invokevirtual 117, 3) := by decide +kernel
theorem dX0_sendBack_16 : decode cX0_sendBack 16 = .ok (.istore_n 2, 1) := by decide +kernel
theorem dX0_sendBack_17 : decode cX0_sendBack 17 = .ok (.iload_n 2, 1) := by decide +kernel
theorem dX0_sendBack_18 : decode cX0_sendBack 18 = .ok (.aload_n 1, 1) := by decide +kernel
theorem dX0_sendBack_19 : decode cX0_sendBack 19 = .ok (.getfield 66, 3) := by decide +kernel
theorem dX0_sendBack_22 : decode cX0_sendBack 22 = .ok (.if_icmp .ne 4, 3) := by decide +kernel
theorem dX0_sendBack_25 : decode cX0_sendBack 25 = .ok (.return_, 1) := by decide +kernel
theorem dX0_sendBack_26 : decode cX0_sendBack 26 = .ok (.aload_n 1, 1) := by decide +kernel
theorem dX0_sendBack_27 : decode cX0_sendBack 27 = .ok (.iload_n 2, 1) := by decide +kernel
theorem dX0_sendBack_28 : decode cX0_sendBack 28 = .ok (.putfield 66, 3) := by decide +kernel
theorem dX0_sendBack_31 : decode cX0_sendBack 31 = .ok (.aload_n 1, 1) := by decide +kernel
theorem dX0_sendBack_32 : decode cX0_sendBack 32 = .ok (.iconst 5, 1) := by decide +kernel
theorem dX0_sendBack_33 : decode cX0_sendBack 33 = .ok (.invokevirtual 137, 3) := by decide +kernel
theorem dX0_sendBack_36 : decode cX0_sendBack 36 = .ok (.aload_n 0, 1) := by decide +kernel
theorem dX0_sendBack_37 : decode cX0_sendBack 37 = .ok (.dup, 1) := by decide +kernel
theorem dX0_sendBack_38 : decode cX0_sendBack 38 = .ok (.getfield 49, 3) := by decide +kernel
theorem dX0_sendBack_41 : decode cX0_sendBack 41 = .ok (.iconst 1, 1) := by decide +kernel
theorem dX0_sendBack_42 : decode cX0_sendBack 42 = .ok (.iadd, 1) := by decide +kernel
theorem dX0_sendBack_43 : decode cX0_sendBack 43 = .ok (.putfield 49, 3) := by decide +kernel
theorem dX0_sendBack_46 : decode cX0_sendBack 46 = .ok (.iload_n 2, 1) := by decide +kernel
theorem dX0_sendBack_47 : decode cX0_sendBack 47 = .ok (.invokestatic 97, 3) := by decide +kernel
theorem dX0_sendBack_50 : decode cX0_sendBack 50 = .ok (.ifCond .ne 7, 3) := by decide +kernel
theorem dX0_sendBack_53 : decode cX0_sendBack 53 = .ok (.aload_n 1, 1) := by decide +kernel
theorem dX0_sendBack_54 : decode cX0_sendBack 54 = .ok (.invokevirtual 140, 3) := by decide +kernel
theorem dX0_sendBack_57 : decode cX0_sendBack 57 = .ok (.iload_n 2, 1) := by decide +kernel
theorem dX0_sendBack_58 : decode cX0_sendBack 58 = .ok (.iconst (-1), 1) := by decide +kernel
theorem dX0_sendBack_59 : decode cX0_sendBack 59 = .ok (.if_icmp .ne 21, 3) := by decide +kernel
theorem dX0_sendBack_62 : decode cX0_sendBack 62 = .ok (.aload_n 0, 1) := by decide +kernel
theorem dX0_sendBack_63 : decode cX0_sendBack 63 = .ok (.dup, 1) := by decide +kernel
theorem dX0_sendBack_64 : decode cX0_sendBack 64 = .ok (.getfield 34, 3) := by decide +kernel
theorem dX0_sendBack_67 : decode cX0_sendBack 67 = .ok (.aload_n 1, 1) := by decide +kernel
theorem dX0_sendBack_68 : decode cX0_sendBack 68 = .ok (.getfield 91, 3) := by decide +kernel
theorem dX0_sendBack_71 : decode cX0_sendBack 71 = .ok (.iadd, 1) := by decide +kernel
theorem dX0_sendBack_72 : decode cX0_sendBack 72 = .ok (.putfield 34, 3) := by decide +kernel
theorem dX0_sendBack_75 : decode cX0_sendBack 75 = .ok (.aload_n 1, 1) := by decide +kernel
theorem dX0_sendBack_76 : decode cX0_sendBack 76 = .ok (.iconst 0, 1) := by decide +kernel
theorem dX0_sendBack_77 : decode cX0_sendBack 77 = .ok (.putfield 91, 3) := by decide +kernel
theorem dX0_sendBack_80 : decode cX0_sendBack 80 = .ok (.return_, 1) := by decide +kernel
theorem dX0_sendOn_0 : decode cX0_sendOn 0 = .ok (.aload_n 1, 1) := by decide +kernel
theorem dX0_sendOn_1 : decode cX0_sendOn 1 = .ok (.getfield 81, 3) := by decide +kernel
theorem dX0_sendOn_4 : decode cX0_sendOn 4 = .ok (.ifCond .eq 10, 3) := by decide +kernel
theorem dX0_sendOn_7 : decode cX0_sendOn 7 = .ok (.aload_n 1, 1) := by decide +kernel
theorem dX0_sendOn_8 : decode cX0_sendOn 8 = .ok (.getfield 108, 3) := by decide +kernel
theorem dX0_sendOn_11 : decode cX0_sendOn 11 = .ok (.ifCond .eq 4, 3) := by decide +kernel
theorem dX0_sendOn_14 : decode cX0_sendOn 14 = .ok (.return_, 1) := by decide +kernel
theorem dX0_sendOn_15 : decode cX0_sendOn 15 = .ok (.aload_n 1, 1) := by decide +kernel
theorem dX0_sendOn_16 : decode cX0_sendOn 16 = .ok (.aload_n 0, 1) := by decide +kernel
theorem dX0_sendOn_17 : decode cX0_sendOn 17 = .ok (.aload_n 1, 1) := by decide +kernel
theorem dX0_sendOn_18 : decode cX0_sendOn 18 = .ok (.invokevirtual 85, 3) := by decide +kernel
theorem dX0_sendOn_21 : decode cX0_sendOn 21 = .ok (.aload_n 1, 1) := by decide +kernel
theorem dX0_sendOn_22 : decode cX0_sendOn 22 = .ok (.getfield 66, 3) := by decide +kernel
theorem dX0_sendOn_25 : decode cX0_sendOn 25 = .ok (.aload_n 1, 1) := by decide +kernel
theorem dX0_sendOn_26 : decode cX0_sendOn 26 = .ok (.getfield 114, 3) := by decide +kernel
theorem dX0_sendOn_29 : decode cX0_sendOn 29 = .ok (.aload_n 0, 1) := by decide +kernel
theorem dX0_sendOn_30 : decode cX0_sendOn 30 = .ok (.getfield 28, 3) := by decide +kernel
theorem dX0_sendOn_33 : decode cX0_sendOn 33 = .ok (.invokevirtual 121, 3) := by decide +kernel
theorem dX0_sendOn_36 : decode cX0_sendOn 36 = .ok (.putfield 66, 3) := by decide +kernel
theorem dX0_sendOn_39 : decode cX0_sendOn 39 = .ok (.aload_n 1, 1) := by decide +kernel
theorem dX0_sendOn_40 : decode cX0_sendOn 40 = .ok (.getfield 66, 3) := by decide +kernel
theorem dX0_sendOn_43 : decode cX0_sendOn 43 = .ok (.aload_n 1, 1) := by decide +kernel
theorem dX0_sendOn_44 : decode cX0_sendOn 44 = .ok (.getfield 114, 3) := by decide +kernel
theorem dX0_sendOn_47 : decode cX0_sendOn 47 = .ok (.ifCond .eq 8, 3) := by decide +kernel
theorem dX0_sendOn_50 : decode cX0_sendOn 50 = .ok (.bipush 10, 2) := by decide +kernel
theorem dX0_sendOn_52 : decode cX0_sendOn 52 = .ok (.goto 4, 3) := by decide +kernel
theorem dX0_sendOn_55 : decode cX0_sendOn 55 = .ok (.iconst (-1), 1) := by decide +kernel
theorem dX0_sendOn_56 : decode cX0_sendOn 56 = .ok (.if_icmp .ne 8, 3) := by decide +kernel
theorem dX0_sendOn_59 : decode cX0_sendOn 59 = .ok (.aload_n 0, 1) := by decide +kernel
theorem dX0_sendOn_60 : decode cX0_sendOn 60 = .ok (.aload_n 1, 1) := by decide +kernel
theorem dX0_sendOn_61 : decode cX0_sendOn 61 = .ok (.invokevirtual 143, 3) := by decide +kernel
theorem dX0_sendOn_64 : decode cX0_sendOn 64 = .ok (.return_, 1) := by decide +kernel
theorem dX0_comeOver_0 : decode cX0_comeOver 0 = .ok (.aload_n 1, 1) := by decide +kernel
theorem dX0_comeOver_1 : decode cX0_comeOver 1 = .ok (.invokevirtual 140, 3) := by decide +kernel
theorem dX0_comeOver_4 : decode cX0_comeOver 4 = .ok (.aload_n 1, 1) := by decide +kernel
theorem dX0_comeOver_5 : decode cX0_comeOver 5 = .ok (.aload_n 1, 1) := by decide +kernel
theorem dX0_comeOver_6 : decode cX0_comeOver 6 = .ok (.getfield 114, 3) := by decide +kernel
theorem dX0_comeOver_9 : decode cX0_comeOver 9 = .ok (.ifCond .ne 7, 3) := by decide +kernel
theorem dX0_comeOver_12 : decode cX0_comeOver 12 = .ok (.iconst 1, 1) := by decide +kernel
theorem dX0_comeOver_13 : decode cX0_comeOver 13 = .ok (.goto 4, 3) := by decide +kernel
theorem dX0_comeOver_16 : decode cX0_comeOver 16 = .ok (.iconst 0, 1) := by decide +kernel
theorem dX0_comeOver_17 : decode cX0_comeOver 17 = .ok (.putfield 114, 3) := by decide +kernel
theorem dX0_comeOver_20 : decode cX0_comeOver 20 = .ok (.aload_n 1, 1) := by decide +kernel
theorem dX0_comeOver_21 : decode cX0_comeOver 21 = .ok (.dup, 1) := by decide +kernel
theorem dX0_comeOver_22 : decode cX0_comeOver 22 = .ok (.getfield 146, 3) := by decide +kernel
theorem dX0_comeOver_25 : decode cX0_comeOver 25 = .ok (.iconst 1, 1) := by decide +kernel
theorem dX0_comeOver_26 : decode cX0_comeOver 26 = .ok (.iadd, 1) := by decide +kernel
theorem dX0_comeOver_27 : decode cX0_comeOver 27 = .ok (.putfield 146, 3) := by decide +kernel
theorem dX0_comeOver_30 : decode cX0_comeOver 30 = .ok (.aload_n 0, 1) := by decide +kernel
theorem dX0_comeOver_31 : decode cX0_comeOver 31 = .ok (.dup, 1) := by decide +kernel
theorem dX0_comeOver_32 : decode cX0_comeOver 32 = .ok (.getfield 46, 3) := by decide +kernel
theorem dX0_comeOver_35 : decode cX0_comeOver 35 = .ok (.iconst 1, 1) := by decide +kernel
theorem dX0_comeOver_36 : decode cX0_comeOver 36 = .ok (.iadd, 1) := by decide +kernel
theorem dX0_comeOver_37 : decode cX0_comeOver 37 = .ok (.putfield 46, 3) := by decide +kernel
theorem dX0_comeOver_40 : decode cX0_comeOver 40 = .ok (.aload_n 0, 1) := by decide +kernel
theorem dX0_comeOver_41 : decode cX0_comeOver 41 = .ok (.dup, 1) := by decide +kernel
theorem dX0_comeOver_42 : decode cX0_comeOver 42 = .ok (.getfield 37, 3) := by decide +kernel
theorem dX0_comeOver_45 : decode cX0_comeOver 45 = .ok (.aload_n 1, 1) := by decide +kernel
theorem dX0_comeOver_46 : decode cX0_comeOver 46 = .ok (.getfield 91, 3) := by decide +kernel
theorem dX0_comeOver_49 : decode cX0_comeOver 49 = .ok (.iadd, 1) := by decide +kernel
theorem dX0_comeOver_50 : decode cX0_comeOver 50 = .ok (.putfield 37, 3) := by decide +kernel
theorem dX0_comeOver_53 : decode cX0_comeOver 53 = .ok (.aload_n 1, 1) := by decide +kernel
theorem dX0_comeOver_54 : decode cX0_comeOver 54 = .ok (.iconst 0, 1) := by decide +kernel
theorem dX0_comeOver_55 : decode cX0_comeOver 55 = .ok (.putfield 91, 3) := by decide +kernel
theorem dX0_comeOver_58 : decode cX0_comeOver 58 = .ok (.return_, 1) := by decide +kernel
theorem dX0_wetOrDry_0 : decode cX0_wetOrDry 0 = .ok (.aload_n 1, 1) := by decide +kernel
theorem dX0_wetOrDry_1 : decode cX0_wetOrDry 1 = .ok (.getfield 66, 3) := by decide +kernel
theorem dX0_wetOrDry_4 : decode cX0_wetOrDry 4 = .ok (.invokestatic 97, 3) := by decide +kernel
theorem dX0_wetOrDry_7 : decode cX0_wetOrDry 7 = .ok (.ifCond .ne 4, 3) := by decide +kernel
theorem dX0_wetOrDry_10 : decode cX0_wetOrDry 10 = .ok (.return_, 1) := by decide +kernel
theorem dX0_wetOrDry_11 : decode cX0_wetOrDry 11 = .ok (.aload_n 0, 1) := by decide +kernel
theorem dX0_wetOrDry_12 : decode cX0_wetOrDry 12 = .ok (.aload_n 1, 1) := by decide +kernel
theorem dX0_wetOrDry_13 : decode cX0_wetOrDry 13 = .ok (.getfield 66, 3) := by decide +kernel
theorem dX0_wetOrDry_16 : decode cX0_wetOrDry 16 = .ok (.aload_n 0, 1) := by decide +kernel
theorem dX0_wetOrDry_17 : decode cX0_wetOrDry 17 = .ok (.getfield 28, 3) := by decide +kernel
theorem dX0_wetOrDry_20 : decode cX0_wetOrDry 20 = .ok (.invokevirtual 101, 3) := by decide +kernel
theorem dX0_wetOrDry_23 : decode cX0_wetOrDry 23 = .ok (.istore_n 2, 1) := by decide +kernel
theorem dX0_wetOrDry_24 : decode cX0_wetOrDry 24 = .ok (.iload_n 2, 1) := by decide +kernel
theorem dX0_wetOrDry_25 : decode cX0_wetOrDry 25 = .ok (.iconst 1, 1) := by decide +kernel
theorem dX0_wetOrDry_26 : decode cX0_wetOrDry 26 = .ok (.if_icmp .ne 11, 3) := by decide +kernel
theorem dX0_wetOrDry_29 : decode cX0_wetOrDry 29 = .ok (.aload_n 1, 1) := by decide +kernel
theorem dX0_wetOrDry_30 : decode cX0_wetOrDry 30 = .ok (.iconst 2, 1) := by decide +kernel
theorem dX0_wetOrDry_31 : decode cX0_wetOrDry 31 = .ok (.invokevirtual 137, 3) := by decide +kernel
theorem dX0_wetOrDry_34 : decode cX0_wetOrDry 34 = .ok (.goto 12, 3) := by decide +kernel
theorem dX0_wetOrDry_37 : decode cX0_wetOrDry 37 = .ok (.iload_n 2, 1) := by decide +kernel
theorem dX0_wetOrDry_38 : decode cX0_wetOrDry 38 = .ok (.ifCond .ne 8, 3) := by decide +kernel
theorem dX0_wetOrDry_41 : decode cX0_wetOrDry 41 = .ok (.aload_n 1, 1) := by decide +kernel
theorem dX0_wetOrDry_42 : decode cX0_wetOrDry 42 = .ok (.iconst 1, 1) := by decide +kernel
theorem dX0_wetOrDry_43 : decode cX0_wetOrDry 43 = .ok (.invokevirtual 149, 3) := by decide +kernel
theorem dX0_wetOrDry_46 : decode cX0_wetOrDry 46 = .ok (.return_, 1) := by decide +kernel
theorem dX0_heat_0 : decode cX0_heat 0 = .ok (.aload_n 0, 1) := by decide +kernel
theorem dX0_heat_1 : decode cX0_heat 1 = .ok (.iload_n 1, 1) := by decide +kernel
theorem dX0_heat_2 : decode cX0_heat 2 = .ok (.iconst (-1), 1) := by decide +kernel
theorem dX0_heat_3 : decode cX0_heat 3 = .ok (.invokevirtual 152, 3) := by decide +kernel
theorem dX0_heat_6 : decode cX0_heat 6 = .ok (.istore_n 2, 1) := by decide +kernel
theorem dX0_heat_7 : decode cX0_heat 7 = .ok (.aload_n 0, 1) := by decide +kernel
theorem dX0_heat_8 : decode cX0_heat 8 = .ok (.iload_n 1, 1) := by decide +kernel
theorem dX0_heat_9 : decode cX0_heat 9 = .ok (.iload_n 2, 1) := by decide +kernel
theorem dX0_heat_10 : decode cX0_heat 10 = .ok (.invokevirtual 152, 3) := by decide +kernel
theorem dX0_heat_13 : decode cX0_heat 13 = .ok (.istore_n 3, 1) := by decide +kernel
theorem dX0_heat_14 : decode cX0_heat 14 = .ok (.iload_n 2, 1) := by decide +kernel
theorem dX0_heat_15 : decode cX0_heat 15 = .ok (.iconst (-1), 1) := by decide +kernel
theorem dX0_heat_16 : decode cX0_heat 16 = .ok (.if_icmp .eq 13, 3) := by decide +kernel
theorem dX0_heat_19 : decode cX0_heat 19 = .ok (.aload_n 0, 1) := by decide +kernel
theorem dX0_heat_20 : decode cX0_heat 20 = .ok (.getfield 17, 3) := by decide +kernel
theorem dX0_heat_23 : decode cX0_heat 23 = .ok (.iload_n 2, 1) := by decide +kernel
theorem dX0_heat_24 : decode cX0_heat 24 = .ok (.aaload, 1) := by decide +kernel
theorem dX0_heat_25 : decode cX0_heat 25 = .ok (.iconst 3, 1) := by decide +kernel
theorem dX0_heat_26 : decode cX0_heat 26 = .ok (.invokevirtual 149, 3) := by decide +kernel
theorem dX0_heat_29 : decode cX0_heat 29 = .ok (.iload_n 3, 1) := by decide +kernel
theorem dX0_heat_30 : decode cX0_heat 30 = .ok (.iconst (-1), 1) := by decide +kernel
theorem dX0_heat_31 : decode cX0_heat 31 = .ok (.if_icmp .eq 13, 3) := by decide +kernel
theorem dX0_heat_34 : decode cX0_heat 34 = .ok (.aload_n 0, 1) := by decide +kernel
theorem dX0_heat_35 : decode cX0_heat 35 = .ok (.getfield 17, 3) := by decide +kernel
theorem dX0_heat_38 : decode cX0_heat 38 = .ok (.iload_n 3, 1) := by decide +kernel
theorem dX0_heat_39 : decode cX0_heat 39 = .ok (.aaload, 1) := by decide +kernel
theorem dX0_heat_40 : decode cX0_heat 40 = .ok (.iconst 3, 1) := by decide +kernel
theorem dX0_heat_41 : decode cX0_heat 41 = .ok (.invokevirtual 149, 3) := by decide +kernel
theorem dX0_heat_44 : decode cX0_heat 44 = .ok (.return_, 1) := by decide +kernel
theorem dX0_wettestOn_0 : decode cX0_wettestOn 0 = .ok (.iconst (-1), 1) := by decide +kernel
theorem dX0_wettestOn_1 : decode cX0_wettestOn 1 = .ok (.istore_n 3, 1) := by decide +kernel
theorem dX0_wettestOn_2 : decode cX0_wettestOn 2 = .ok (.iconst 0, 1) := by decide +kernel
theorem dX0_wettestOn_3 : decode cX0_wettestOn 3 = .ok (.istore 4, 2) := by decide +kernel
theorem dX0_wettestOn_5 : decode cX0_wettestOn 5 = .ok (.iconst 0, 1) := by decide +kernel
theorem dX0_wettestOn_6 : decode cX0_wettestOn 6 = .ok (.istore 5, 2) := by decide +kernel
theorem dX0_wettestOn_8 : decode cX0_wettestOn 8 = .ok (.iload 5, 2) := by decide +kernel
theorem dX0_wettestOn_10 : decode cX0_wettestOn 10 = .ok (.aload_n 0, 1) := by decide +kernel
theorem dX0_wettestOn_11 : decode cX0_wettestOn 11 = .ok (.getfield 21, 3) := by decide +kernel
theorem dX0_wettestOn_14 : decode cX0_wettestOn 14 = .ok (.if_icmp .ge 61, 3) := by decide +kernel
theorem dX0_wettestOn_17 : decode cX0_wettestOn 17 = .ok (.aload_n 0, 1) := by decide +kernel
theorem dX0_wettestOn_18 : decode cX0_wettestOn 18 = .ok (.getfield 17, 3) := by decide +kernel
theorem dX0_wettestOn_21 : decode cX0_wettestOn 21 = .ok (.iload 5, 2) := by decide +kernel
theorem dX0_wettestOn_23 : decode cX0_wettestOn 23 = .ok (.aaload, 1) := by decide +kernel
theorem dX0_wettestOn_24 : decode cX0_wettestOn 24 = .ok (.astore 6, 2) := by decide +kernel
theorem dX0_wettestOn_26 : decode cX0_wettestOn 26 = .ok (.iload 5, 2) := by decide +kernel
theorem dX0_wettestOn_28 : decode cX0_wettestOn 28 = .ok (.iload_n 2, 1) := by decide +kernel
theorem dX0_wettestOn_29 : decode cX0_wettestOn 29 = .ok (.if_icmp .eq 40, 3) := by decide +kernel
theorem dX0_wettestOn_32 : decode cX0_wettestOn 32 = .ok (.aload 6, 2) := by decide +kernel
theorem dX0_wettestOn_34 : decode cX0_wettestOn 34 = .ok (.getfield 66, 3) := by decide +kernel
theorem dX0_wettestOn_37 : decode cX0_wettestOn 37 = .ok (.iload_n 1, 1) := by decide +kernel
theorem dX0_wettestOn_38 : decode cX0_wettestOn 38 = .ok (.if_icmp .ne 31, 3) := by decide +kernel
theorem dX0_wettestOn_41 : decode cX0_wettestOn 41 = .ok (.aload 6, 2) := by decide +kernel
theorem dX0_wettestOn_43 : decode cX0_wettestOn 43 = .ok (.getfield 81, 3) := by decide +kernel
theorem dX0_wettestOn_46 : decode cX0_wettestOn 46 = .ok (.ifCond .ne 23, 3) := by decide +kernel
theorem dX0_wettestOn_49 : decode cX0_wettestOn 49 = .ok (.aload 6, 2) := by decide +kernel
theorem dX0_wettestOn_51 : decode cX0_wettestOn 51 = .ok (.getfield 155, 3) := by decide +kernel
theorem dX0_wettestOn_54 : decode cX0_wettestOn 54 = .ok (.iload 4, 2) := by decide +kernel
theorem dX0_wettestOn_56 : decode cX0_wettestOn 56 = .ok (.if_icmp .le 13, 3) := by decide +kernel
theorem dX0_wettestOn_59 : decode cX0_wettestOn 59 = .ok (.iload 5, 2) := by decide +kernel
theorem dX0_wettestOn_61 : decode cX0_wettestOn 61 = .ok (.istore_n 3, 1) := by decide +kernel
theorem dX0_wettestOn_62 : decode cX0_wettestOn 62 = .ok (.aload 6, 2) := by decide +kernel
theorem dX0_wettestOn_64 : decode cX0_wettestOn 64 = .ok (.getfield 155, 3) := by decide +kernel
theorem dX0_wettestOn_67 : decode cX0_wettestOn 67 = .ok (.istore 4, 2) := by decide +kernel
theorem dX0_wettestOn_69 : decode cX0_wettestOn 69 = .ok (.iinc 5 1, 3) := by decide +kernel
theorem dX0_wettestOn_72 : decode cX0_wettestOn 72 = .ok (.goto (-64), 3) := by decide +kernel
theorem dX0_wettestOn_75 : decode cX0_wettestOn 75 = .ok (.iload_n 3, 1) := by decide +kernel
theorem dX0_wettestOn_76 : decode cX0_wettestOn 76 = .ok (.ireturn, 1) := by decide +kernel
theorem dX1_init_0 : decode cX1_init 0 = .ok (.aload_n 0, 1) := by decide +kernel
theorem dX1_init_1 : decode cX1_init 1 = .ok (.invokespecial 3, 3) := by decide +kernel
theorem dX1_init_4 : decode cX1_init 4 = .ok (.aload_n 0, 1) := by decide +kernel
theorem dX1_init_5 : decode cX1_init 5 = .ok (.bipush 8, 2) := by decide +kernel
theorem dX1_init_7 : decode cX1_init 7 = .ok (.anewarray 9, 3) := by decide +kernel
theorem dX1_init_10 : decode cX1_init 10 = .ok (.putfield 11, 3) := by decide +kernel
theorem dX1_init_13 : decode cX1_init 13 = .ok (.aload_n 0, 1) := by decide +kernel
theorem dX1_init_14 : decode cX1_init 14 = .ok (.iconst 0, 1) := by decide +kernel
theorem dX1_init_15 : decode cX1_init 15 = .ok (.putfield 17, 3) := by decide +kernel
theorem dX1_init_18 : decode cX1_init 18 = .ok (.aload_n 0, 1) := by decide +kernel
theorem dX1_init_19 : decode cX1_init 19 = .ok (.iconst 0, 1) := by decide +kernel
theorem dX1_init_20 : decode cX1_init 20 = .ok (.putfield 21, 3) := by decide +kernel
theorem dX1_init_23 : decode cX1_init 23 = .ok (.iconst 0, 1) := by decide +kernel
theorem dX1_init_24 : decode cX1_init 24 = .ok (.istore_n 1, 1) := by decide +kernel
theorem dX1_init_25 : decode cX1_init 25 = .ok (.iload_n 1, 1) := by decide +kernel
theorem dX1_init_26 : decode cX1_init 26 = .ok (.bipush 8, 2) := by decide +kernel
theorem dX1_init_28 : decode cX1_init 28 = .ok (.if_icmp .ge 22, 3) := by decide +kernel
theorem dX1_init_31 : decode cX1_init 31 = .ok (.aload_n 0, 1) := by decide +kernel
theorem dX1_init_32 : decode cX1_init 32 = .ok (.getfield 11, 3) := by decide +kernel
theorem dX1_init_35 : decode cX1_init 35 = .ok (.iload_n 1, 1) := by decide +kernel
theorem dX1_init_36 : decode cX1_init 36 = .ok (.new 9, 3) := by decide +kernel
theorem dX1_init_39 : decode cX1_init 39 = .ok (.dup, 1) := by decide +kernel
theorem dX1_init_40 : decode cX1_init 40 = .ok (.invokespecial 24, 3) := by decide +kernel
theorem dX1_init_43 : decode cX1_init 43 = .ok (.aastore, 1) := by decide +kernel
theorem dX1_init_44 : decode cX1_init 44 = .ok (.iinc 1 1, 3) := by decide +kernel
theorem dX1_init_47 : decode cX1_init 47 = .ok (.goto (-22), 3) := by decide +kernel
theorem dX1_init_50 : decode cX1_init 50 = .ok (.return_, 1) := by decide +kernel
theorem dX1_keep_0 : decode cX1_keep 0 = .ok (.aload_n 0, 1) := by decide +kernel
theorem dX1_keep_1 : decode cX1_keep 1 = .ok (.getfield 11, 3) := by decide +kernel
theorem dX1_keep_4 : decode cX1_keep 4 = .ok (.aload_n 0, 1) := by decide +kernel
theorem dX1_keep_5 : decode cX1_keep 5 = .ok (.getfield 17, 3) := by decide +kernel
theorem dX1_keep_8 : decode cX1_keep 8 = .ok (.aaload, 1) := by decide +kernel
theorem dX1_keep_9 : decode cX1_keep 9 = .ok (.aload_n 1, 1) := by decide +kernel
theorem dX1_keep_10 : decode cX1_keep 10 = .ok (.invokevirtual 25, 3) := by decide +kernel
theorem dX1_keep_13 : decode cX1_keep 13 = .ok (.aload_n 0, 1) := by decide +kernel
theorem dX1_keep_14 : decode cX1_keep 14 = .ok (.aload_n 0, 1) := by decide +kernel
theorem dX1_keep_15 : decode cX1_keep 15 = .ok (.getfield 17, 3) := by decide +kernel
theorem dX1_keep_18 : decode cX1_keep 18 = .ok (.bipush 7, 2) := by decide +kernel
theorem dX1_keep_20 : decode cX1_keep 20 = .ok (.if_icmp .ge 12, 3) := by decide +kernel
theorem dX1_keep_23 : decode cX1_keep 23 = .ok (.aload_n 0, 1) := by decide +kernel
theorem dX1_keep_24 : decode cX1_keep 24 = .ok (.getfield 17, 3) := by decide +kernel
theorem dX1_keep_27 : decode cX1_keep 27 = .ok (.iconst 1, 1) := by decide +kernel
theorem dX1_keep_28 : decode cX1_keep 28 = .ok (.iadd, 1) := by decide +kernel
theorem dX1_keep_29 : decode cX1_keep 29 = .ok (.goto 4, 3) := by decide +kernel
theorem dX1_keep_32 : decode cX1_keep 32 = .ok (.iconst 0, 1) := by decide +kernel
theorem dX1_keep_33 : decode cX1_keep 33 = .ok (.putfield 17, 3) := by decide +kernel
theorem dX1_keep_36 : decode cX1_keep 36 = .ok (.aload_n 0, 1) := by decide +kernel
theorem dX1_keep_37 : decode cX1_keep 37 = .ok (.bipush 8, 2) := by decide +kernel
theorem dX1_keep_39 : decode cX1_keep 39 = .ok (.aload_n 0, 1) := by decide +kernel
theorem dX1_keep_40 : decode cX1_keep 40 = .ok (.getfield 21, 3) := by decide +kernel
theorem dX1_keep_43 : decode cX1_keep 43 = .ok (.iconst 1, 1) := by decide +kernel
theorem dX1_keep_44 : decode cX1_keep 44 = .ok (.iadd, 1) := by decide +kernel
theorem dX1_keep_45 : decode cX1_keep 45 = .ok (.invokestatic 29, 3) := by decide +kernel
theorem dX1_keep_48 : decode cX1_keep 48 = .ok (.putfield 21, 3) := by decide +kernel
theorem dX1_keep_51 : decode cX1_keep 51 = .ok (.return_, 1) := by decide +kernel
theorem dX1_takeBack_0 : decode cX1_takeBack 0 = .ok (.aload_n 0, 1) := by decide +kernel
theorem dX1_takeBack_1 : decode cX1_takeBack 1 = .ok (.aload_n 0, 1) := by decide +kernel
theorem dX1_takeBack_2 : decode cX1_takeBack 2 = .ok (.getfield 17, 3) := by decide +kernel
theorem dX1_takeBack_5 : decode cX1_takeBack 5 = .ok (.ifCond .le 12, 3) := by decide +kernel
theorem dX1_takeBack_8 : decode cX1_takeBack 8 = .ok (.aload_n 0, 1) := by decide +kernel
theorem dX1_takeBack_9 : decode cX1_takeBack 9 = .ok (.getfield 17, 3) := by decide +kernel
theorem dX1_takeBack_12 : decode cX1_takeBack 12 = .ok (.iconst 1, 1) := by decide +kernel
theorem dX1_takeBack_13 : decode cX1_takeBack 13 = .ok (.isub, 1) := by decide +kernel
theorem dX1_takeBack_14 : decode cX1_takeBack 14 = .ok (.goto 5, 3) := by decide +kernel
theorem dX1_takeBack_17 : decode cX1_takeBack 17 = .ok (.bipush 7, 2) := by decide +kernel
theorem dX1_takeBack_19 : decode cX1_takeBack 19 = .ok (.putfield 17, 3) := by decide +kernel
theorem dX1_takeBack_22 : decode cX1_takeBack 22 = .ok (.aload_n 1, 1) := by decide +kernel
theorem dX1_takeBack_23 : decode cX1_takeBack 23 = .ok (.aload_n 0, 1) := by decide +kernel
theorem dX1_takeBack_24 : decode cX1_takeBack 24 = .ok (.getfield 11, 3) := by decide +kernel
theorem dX1_takeBack_27 : decode cX1_takeBack 27 = .ok (.aload_n 0, 1) := by decide +kernel
theorem dX1_takeBack_28 : decode cX1_takeBack 28 = .ok (.getfield 17, 3) := by decide +kernel
theorem dX1_takeBack_31 : decode cX1_takeBack 31 = .ok (.aaload, 1) := by decide +kernel
theorem dX1_takeBack_32 : decode cX1_takeBack 32 = .ok (.invokevirtual 25, 3) := by decide +kernel
theorem dX1_takeBack_35 : decode cX1_takeBack 35 = .ok (.aload_n 0, 1) := by decide +kernel
theorem dX1_takeBack_36 : decode cX1_takeBack 36 = .ok (.dup, 1) := by decide +kernel
theorem dX1_takeBack_37 : decode cX1_takeBack 37 = .ok (.getfield 21, 3) := by decide +kernel
theorem dX1_takeBack_40 : decode cX1_takeBack 40 = .ok (.iconst 1, 1) := by decide +kernel
theorem dX1_takeBack_41 : decode cX1_takeBack 41 = .ok (.isub, 1) := by decide +kernel
theorem dX1_takeBack_42 : decode cX1_takeBack 42 = .ok (.putfield 21, 3) := by decide +kernel
theorem dX1_takeBack_45 : decode cX1_takeBack 45 = .ok (.return_, 1) := by decide +kernel
theorem dX1_forget_0 : decode cX1_forget 0 = .ok (.aload_n 0, 1) := by decide +kernel
theorem dX1_forget_1 : decode cX1_forget 1 = .ok (.iconst 0, 1) := by decide +kernel
theorem dX1_forget_2 : decode cX1_forget 2 = .ok (.putfield 21, 3) := by decide +kernel
theorem dX1_forget_5 : decode cX1_forget 5 = .ok (.return_, 1) := by decide +kernel
theorem dX2_init_0 : decode cX2_init 0 = .ok (.aload_n 0, 1) := by decide +kernel
theorem dX2_init_1 : decode cX2_init 1 = .ok (.invokespecial 3, 3) := by decide +kernel
theorem dX2_init_4 : decode cX2_init 4 = .ok (.aload_n 0, 1) := by decide +kernel
theorem dX2_init_5 : decode cX2_init 5 = .ok (.bipush 60, 2) := by decide +kernel
theorem dX2_init_7 : decode cX2_init 7 = .ok (.newarray .char, 2) := by decide +kernel
theorem dX2_init_9 : decode cX2_init 9 = .ok (.putfield 9, 3) := by decide +kernel
theorem dX2_init_12 : decode cX2_init 12 = .ok (.aload_n 0, 1) := by decide +kernel
theorem dX2_init_13 : decode cX2_init 13 = .ok (.iconst 0, 1) := by decide +kernel
theorem dX2_init_14 : decode cX2_init 14 = .ok (.putfield 15, 3) := by decide +kernel
theorem dX2_init_17 : decode cX2_init 17 = .ok (.aload_n 0, 1) := by decide +kernel
theorem dX2_init_18 : decode cX2_init 18 = .ok (.iconst 0, 1) := by decide +kernel
theorem dX2_init_19 : decode cX2_init 19 = .ok (.putfield 19, 3) := by decide +kernel
theorem dX2_init_22 : decode cX2_init 22 = .ok (.aload_n 0, 1) := by decide +kernel
theorem dX2_init_23 : decode cX2_init 23 = .ok (.iconst (-1), 1) := by decide +kernel
theorem dX2_init_24 : decode cX2_init 24 = .ok (.putfield 22, 3) := by decide +kernel
theorem dX2_init_27 : decode cX2_init 27 = .ok (.return_, 1) := by decide +kernel
theorem dX2_isFull_0 : decode cX2_isFull 0 = .ok (.aload_n 0, 1) := by decide +kernel
theorem dX2_isFull_1 : decode cX2_isFull 1 = .ok (.getfield 15, 3) := by decide +kernel
theorem dX2_isFull_4 : decode cX2_isFull 4 = .ok (.bipush 60, 2) := by decide +kernel
theorem dX2_isFull_6 : decode cX2_isFull 6 = .ok (.if_icmp .lt 7, 3) := by decide +kernel
theorem dX2_isFull_9 : decode cX2_isFull 9 = .ok (.iconst 1, 1) := by decide +kernel
theorem dX2_isFull_10 : decode cX2_isFull 10 = .ok (.goto 4, 3) := by decide +kernel
theorem dX2_isFull_13 : decode cX2_isFull 13 = .ok (.iconst 0, 1) := by decide +kernel
theorem dX2_isFull_14 : decode cX2_isFull 14 = .ok (.ireturn, 1) := by decide +kernel
theorem dX2_append_0 : decode cX2_append 0 = .ok (.aload_n 0, 1) := by decide +kernel
theorem dX2_append_1 : decode cX2_append 1 = .ok (.getfield 15, 3) := by decide +kernel
theorem dX2_append_4 : decode cX2_append 4 = .ok (.bipush 60, 2) := by decide +kernel
theorem dX2_append_6 : decode cX2_append 6 = .ok (.if_icmp .ge 23, 3) := by decide +kernel
theorem dX2_append_9 : decode cX2_append 9 = .ok (.aload_n 0, 1) := by decide +kernel
theorem dX2_append_10 : decode cX2_append 10 = .ok (.getfield 9, 3) := by decide +kernel
theorem dX2_append_13 : decode cX2_append 13 = .ok (.aload_n 0, 1) := by decide +kernel
theorem dX2_append_14 : decode cX2_append 14 = .ok (.getfield 15, 3) := by decide +kernel
theorem dX2_append_17 : decode cX2_append 17 = .ok (.iload_n 1, 1) := by decide +kernel
theorem dX2_append_18 : decode cX2_append 18 = .ok (.castore, 1) := by decide +kernel
theorem dX2_append_19 : decode cX2_append 19 = .ok (.aload_n 0, 1) := by decide +kernel
theorem dX2_append_20 : decode cX2_append 20 = .ok (.dup, 1) := by decide +kernel
theorem dX2_append_21 : decode cX2_append 21 = .ok (.getfield 15, 3) := by decide +kernel
theorem dX2_append_24 : decode cX2_append 24 = .ok (.iconst 1, 1) := by decide +kernel
theorem dX2_append_25 : decode cX2_append 25 = .ok (.iadd, 1) := by decide +kernel
theorem dX2_append_26 : decode cX2_append 26 = .ok (.putfield 15, 3) := by decide +kernel
theorem dX2_append_29 : decode cX2_append 29 = .ok (.aload_n 0, 1) := by decide +kernel
theorem dX2_append_30 : decode cX2_append 30 = .ok (.getfield 15, 3) := by decide +kernel
theorem dX2_append_33 : decode cX2_append 33 = .ok (.ireturn, 1) := by decide +kernel
theorem dX2_empty_0 : decode cX2_empty 0 = .ok (.aload_n 0, 1) := by decide +kernel
theorem dX2_empty_1 : decode cX2_empty 1 = .ok (.iconst 0, 1) := by decide +kernel
theorem dX2_empty_2 : decode cX2_empty 2 = .ok (.putfield 15, 3) := by decide +kernel
theorem dX2_empty_5 : decode cX2_empty 5 = .ok (.return_, 1) := by decide +kernel
theorem dX2_readFor_0 : decode cX2_readFor 0 = .ok (.aload_n 0, 1) := by decide +kernel
theorem dX2_readFor_1 : decode cX2_readFor 1 = .ok (.iconst 0, 1) := by decide +kernel
theorem dX2_readFor_2 : decode cX2_readFor 2 = .ok (.putfield 19, 3) := by decide +kernel
theorem dX2_readFor_5 : decode cX2_readFor 5 = .ok (.aload_n 0, 1) := by decide +kernel
theorem dX2_readFor_6 : decode cX2_readFor 6 = .ok (.iconst (-1), 1) := by decide +kernel
theorem dX2_readFor_7 : decode cX2_readFor 7 = .ok (.putfield 22, 3) := by decide +kernel
theorem dX2_readFor_10 : decode cX2_readFor 10 = .ok (.aload_n 0, 1) := by decide +kernel
theorem dX2_readFor_11 : decode cX2_readFor 11 = .ok (.aload_n 1, 1) := by decide +kernel
theorem dX2_readFor_12 : decode cX2_readFor 12 = .ok (.iconst 0, 1) := by decide +kernel
theorem dX2_readFor_13 : decode cX2_readFor 13 = .ok (.invokevirtual 25, 3) := by decide +kernel
theorem dX2_readFor_16 : decode cX2_readFor 16 = .ok (.istore_n 2, 1) := by decide +kernel
theorem dX2_readFor_17 : decode cX2_readFor 17 = .ok (.aload_n 0, 1) := by decide +kernel
theorem dX2_readFor_18 : decode cX2_readFor 18 = .ok (.getfield 19, 3) := by decide +kernel
theorem dX2_readFor_21 : decode cX2_readFor 21 = .ok (.aload_n 0, 1) := by decide +kernel
theorem dX2_readFor_22 : decode cX2_readFor 22 = .ok (.getfield 15, 3) := by decide +kernel
theorem dX2_readFor_25 : decode cX2_readFor 25 = .ok (.if_icmp .ge 11, 3) := by decide +kernel
theorem dX2_readFor_28 : decode cX2_readFor 28 = .ok (.aload_n 0, 1) := by decide +kernel
theorem dX2_readFor_29 : decode cX2_readFor 29 = .ok (.aload_n 0, 1) := by decide +kernel
theorem dX2_readFor_30 : decode cX2_readFor 30 = .ok (.getfield 19, 3) := by decide +kernel
theorem dX2_readFor_33 : decode cX2_readFor 33 = .ok (.invokevirtual 29, 3) := by decide +kernel
theorem dX2_readFor_36 : decode cX2_readFor 36 = .ok (.iload_n 2, 1) := by decide +kernel
theorem dX2_readFor_37 : decode cX2_readFor 37 = .ok (.ireturn, 1) := by decide +kernel
theorem dX2_readQuestion_0 : decode cX2_readQuestion 0 = .ok (.aload_n 0, 1) := by decide +kernel
theorem dX2_readQuestion_1 : decode cX2_readQuestion 1 = .ok (.aload_n 1, 1) := by decide +kernel
theorem dX2_readQuestion_2 : decode cX2_readQuestion 2 = .ok (.iload_n 2, 1) := by decide +kernel
theorem dX2_readQuestion_3 : decode cX2_readQuestion 3 = .ok (.invokevirtual 33, 3) := by decide +kernel
theorem dX2_readQuestion_6 : decode cX2_readQuestion 6 = .ok (.istore_n 3, 1) := by decide +kernel
theorem dX2_readQuestion_7 : decode cX2_readQuestion 7 = .ok (.iconst 0, 1) := by decide +kernel
theorem dX2_readQuestion_8 : decode cX2_readQuestion 8 = .ok (.istore 4, 2) := by decide +kernel
theorem dX2_readQuestion_10 : decode cX2_readQuestion 10 = .ok (.iload 4, 2) := by decide +kernel
theorem dX2_readQuestion_12 : decode cX2_readQuestion 12 = .ok (.bipush 60, 2) := by decide +kernel
theorem dX2_readQuestion_14 : decode cX2_readQuestion 14 = .ok (.if_icmp .ge 27, 3) := by decide +kernel
theorem dX2_readQuestion_17 : decode cX2_readQuestion 17 = .ok (.aload_n 0, 1) := by decide +kernel
theorem dX2_readQuestion_18 : decode cX2_readQuestion 18 = .ok (.bipush 47, 2) := by decide +kernel
theorem dX2_readQuestion_20 : decode cX2_readQuestion 20 = .ok (.invokevirtual 36, 3) := by decide +kernel
theorem dX2_readQuestion_23 : decode cX2_readQuestion 23 = .ok (.ifCond .eq 18, 3) := by decide +kernel
theorem dX2_readQuestion_26 : decode cX2_readQuestion 26 = .ok (.iload_n 3, 1) := by decide +kernel
theorem dX2_readQuestion_27 : decode cX2_readQuestion 27 = .ok (.aload_n 0, 1) := by decide +kernel
theorem dX2_readQuestion_28 : decode cX2_readQuestion 28 = .ok (.aload_n 1, 1) := by decide +kernel
theorem dX2_readQuestion_29 : decode cX2_readQuestion 29 = .ok (.iload_n 2, 1) := by decide +kernel
theorem dX2_readQuestion_30 : decode cX2_readQuestion 30 = .ok (.invokevirtual 33, 3) := by decide +kernel
theorem dX2_readQuestion_33 : decode cX2_readQuestion 33 = .ok (.ior, 1) := by decide +kernel
theorem dX2_readQuestion_34 : decode cX2_readQuestion 34 = .ok (.istore_n 3, 1) := by decide +kernel
theorem dX2_readQuestion_35 : decode cX2_readQuestion 35 = .ok (.iinc 4 1, 3) := by decide +kernel
theorem dX2_readQuestion_38 : decode cX2_readQuestion 38 = .ok (.goto (-28), 3) := by decide +kernel
theorem dX2_readQuestion_41 : decode cX2_readQuestion 41 = .ok (.iload_n 3, 1) := by decide +kernel
theorem dX2_readQuestion_42 : decode cX2_readQuestion 42 = .ok (.ireturn, 1) := by decide +kernel
theorem dX2_readPart_0 : decode cX2_readPart 0 = .ok (.aload_n 0, 1) := by decide +kernel
theorem dX2_readPart_1 : decode cX2_readPart 1 = .ok (.aload_n 1, 1) := by decide +kernel
theorem dX2_readPart_2 : decode cX2_readPart 2 = .ok (.iload_n 2, 1) := by decide +kernel
theorem dX2_readPart_3 : decode cX2_readPart 3 = .ok (.invokevirtual 40, 3) := by decide +kernel
theorem dX2_readPart_6 : decode cX2_readPart 6 = .ok (.istore_n 3, 1) := by decide +kernel
theorem dX2_readPart_7 : decode cX2_readPart 7 = .ok (.iconst 0, 1) := by decide +kernel
theorem dX2_readPart_8 : decode cX2_readPart 8 = .ok (.istore 4, 2) := by decide +kernel
theorem dX2_readPart_10 : decode cX2_readPart 10 = .ok (.iload 4, 2) := by decide +kernel
theorem dX2_readPart_12 : decode cX2_readPart 12 = .ok (.bipush 60, 2) := by decide +kernel
theorem dX2_readPart_14 : decode cX2_readPart 14 = .ok (.if_icmp .ge 27, 3) := by decide +kernel
theorem dX2_readPart_17 : decode cX2_readPart 17 = .ok (.aload_n 0, 1) := by decide +kernel
theorem dX2_readPart_18 : decode cX2_readPart 18 = .ok (.bipush 43, 2) := by decide +kernel
theorem dX2_readPart_20 : decode cX2_readPart 20 = .ok (.invokevirtual 36, 3) := by decide +kernel
theorem dX2_readPart_23 : decode cX2_readPart 23 = .ok (.ifCond .eq 18, 3) := by decide +kernel
theorem dX2_readPart_26 : decode cX2_readPart 26 = .ok (.iload_n 3, 1) := by decide +kernel
theorem dX2_readPart_27 : decode cX2_readPart 27 = .ok (.aload_n 0, 1) := by decide +kernel
theorem dX2_readPart_28 : decode cX2_readPart 28 = .ok (.aload_n 1, 1) := by decide +kernel
theorem dX2_readPart_29 : decode cX2_readPart 29 = .ok (.iload_n 2, 1) := by decide +kernel
theorem dX2_readPart_30 : decode cX2_readPart 30 = .ok (.invokevirtual 40, 3) := by decide +kernel
theorem dX2_readPart_33 : decode cX2_readPart 33 = .ok (.iand, 1) := by decide +kernel
theorem dX2_readPart_34 : decode cX2_readPart 34 = .ok (.istore_n 3, 1) := by decide +kernel
theorem dX2_readPart_35 : decode cX2_readPart 35 = .ok (.iinc 4 1, 3) := by decide +kernel
theorem dX2_readPart_38 : decode cX2_readPart 38 = .ok (.goto (-28), 3) := by decide +kernel
theorem dX2_readPart_41 : decode cX2_readPart 41 = .ok (.iload_n 3, 1) := by decide +kernel
theorem dX2_readPart_42 : decode cX2_readPart 42 = .ok (.ireturn, 1) := by decide +kernel
theorem dX2_readOne_0 : decode cX2_readOne 0 = .ok (.iload_n 2, 1) := by decide +kernel
theorem dX2_readOne_1 : decode cX2_readOne 1 = .ok (.iconst 4, 1) := by decide +kernel
theorem dX2_readOne_2 : decode cX2_readOne 2 = .ok (.if_icmp .lt 31, 3) := by decide +kernel
theorem dX2_readOne_5 : decode cX2_readOne 5 = .ok (.aload_n 0, 1) := by decide +kernel
theorem dX2_readOne_6 : decode cX2_readOne 6 = .ok (.bipush 45, 2) := by decide +kernel
theorem dX2_readOne_8 : decode cX2_readOne 8 = .ok (.invokevirtual 43, 3) := by decide +kernel
theorem dX2_readOne_11 : decode cX2_readOne 11 = .ok (.ifCond .ne 12, 3) := by decide +kernel
theorem dX2_readOne_14 : decode cX2_readOne 14 = .ok (.aload_n 0, 1) := by decide +kernel
theorem dX2_readOne_15 : decode cX2_readOne 15 = .ok (.bipush 91, 2) := by decide +kernel
theorem dX2_readOne_17 : decode cX2_readOne 17 = .ok (.invokevirtual 43, 3) := by decide +kernel
theorem dX2_readOne_20 : decode cX2_readOne 20 = .ok (.ifCond .eq 13, 3) := by decide +kernel
theorem dX2_readOne_23 : decode cX2_readOne 23 = .ok (.aload_n 0, 1) := by decide +kernel
theorem dX2_readOne_24 : decode cX2_readOne 24 = .ok (.aload_n 0, 1) := by decide +kernel
theorem dX2_readOne_25 : decode cX2_readOne 25 = .ok (.getfield 19, 3) := by decide +kernel
theorem dX2_readOne_28 : decode cX2_readOne 28 = .ok (.invokevirtual 29, 3) := by decide +kernel
theorem dX2_readOne_31 : decode cX2_readOne 31 = .ok (.iconst 0, 1) := by decide +kernel
theorem dX2_readOne_32 : decode cX2_readOne 32 = .ok (.ireturn, 1) := by decide +kernel
theorem dX2_readOne_33 : decode cX2_readOne 33 = .ok (.aload_n 0, 1) := by decide +kernel
theorem dX2_readOne_34 : decode cX2_readOne 34 = .ok (.bipush 45, 2) := by decide +kernel
theorem dX2_readOne_36 : decode cX2_readOne 36 = .ok (.invokevirtual 36, 3) := by decide +kernel
theorem dX2_readOne_39 : decode cX2_readOne 39 = .ok (.ifCond .eq 19, 3) := by decide +kernel
theorem dX2_readOne_42 : decode cX2_readOne 42 = .ok (.aload_n 1, 1) := by decide +kernel
theorem dX2_readOne_43 : decode cX2_readOne 43 = .ok (.invokestatic 46, 3) := by decide +kernel
theorem dX2_readOne_46 : decode cX2_readOne 46 = .ok (.aload_n 0, 1) := by decide +kernel
theorem dX2_readOne_47 : decode cX2_readOne 47 = .ok (.aload_n 1, 1) := by decide +kernel
theorem dX2_readOne_48 : decode cX2_readOne 48 = .ok (.iload_n 2, 1) := by decide +kernel
theorem dX2_readOne_49 : decode cX2_readOne 49 = .ok (.iconst 1, 1) := by decide +kernel
theorem dX2_readOne_50 : decode cX2_readOne 50 = .ok (.iadd, 1) := by decide +kernel
theorem dX2_readOne_51 : decode cX2_readOne 51 = .ok (.invokevirtual 40, 3) := by decide +kernel
theorem dX2_readOne_54 : decode cX2_readOne 54 = .ok (.iconst (-1), 1) := by decide +kernel
theorem dX2_readOne_55 : decode cX2_readOne 55 = .ok (.ixor, 1) := by decide +kernel
theorem dX2_readOne_56 : decode cX2_readOne 56 = .ok (.iand, 1) := by decide +kernel
theorem dX2_readOne_57 : decode cX2_readOne 57 = .ok (.ireturn, 1) := by decide +kernel
theorem dX2_readOne_58 : decode cX2_readOne 58 = .ok (.aload_n 0, 1) := by decide +kernel
theorem dX2_readOne_59 : decode cX2_readOne 59 = .ok (.bipush 91, 2) := by decide +kernel
theorem dX2_readOne_61 : decode cX2_readOne 61 = .ok (.invokevirtual 36, 3) := by decide +kernel
theorem dX2_readOne_64 : decode cX2_readOne 64 = .ok (.ifCond .eq 31, 3) := by decide +kernel
theorem dX2_readOne_67 : decode cX2_readOne 67 = .ok (.aload_n 0, 1) := by decide +kernel
theorem dX2_readOne_68 : decode cX2_readOne 68 = .ok (.aload_n 1, 1) := by decide +kernel
theorem dX2_readOne_69 : decode cX2_readOne 69 = .ok (.iload_n 2, 1) := by decide +kernel
theorem dX2_readOne_70 : decode cX2_readOne 70 = .ok (.iconst 1, 1) := by decide +kernel
theorem dX2_readOne_71 : decode cX2_readOne 71 = .ok (.iadd, 1) := by decide +kernel
theorem dX2_readOne_72 : decode cX2_readOne 72 = .ok (.invokevirtual 25, 3) := by decide +kernel
theorem dX2_readOne_75 : decode cX2_readOne 75 = .ok (.istore_n 3, 1) := by decide +kernel
theorem dX2_readOne_76 : decode cX2_readOne 76 = .ok (.aload_n 0, 1) := by decide +kernel
theorem dX2_readOne_77 : decode cX2_readOne 77 = .ok (.bipush 93, 2) := by decide +kernel
theorem dX2_readOne_79 : decode cX2_readOne 79 = .ok (.invokevirtual 36, 3) := by decide +kernel
theorem dX2_readOne_82 : decode cX2_readOne 82 = .ok (.ifCond .ne 11, 3) := by decide +kernel
theorem dX2_readOne_85 : decode cX2_readOne 85 = .ok (.aload_n 0, 1) := by decide +kernel
theorem dX2_readOne_86 : decode cX2_readOne 86 = .ok (.aload_n 0, 1) := by decide +kernel
theorem dX2_readOne_87 : decode cX2_readOne 87 = .ok (.getfield 19, 3) := by decide +kernel
theorem dX2_readOne_90 : decode cX2_readOne 90 = .ok (.invokevirtual 29, 3) := by decide +kernel
theorem dX2_readOne_93 : decode cX2_readOne 93 = .ok (.iload_n 3, 1) := by decide +kernel
theorem dX2_readOne_94 : decode cX2_readOne 94 = .ok (.ireturn, 1) := by decide +kernel
theorem dX2_readOne_95 : decode cX2_readOne 95 = .ok (.aload_n 0, 1) := by decide +kernel
theorem dX2_readOne_96 : decode cX2_readOne 96 = .ok (.invokevirtual 50, 3) := by decide +kernel
theorem dX2_readOne_99 : decode cX2_readOne 99 = .ok (.astore_n 3, 1) := by decide +kernel
theorem dX2_readOne_100 : decode cX2_readOne 100 = .ok (.aload_n 3, 1) := by decide +kernel
theorem dX2_readOne_101 : decode cX2_readOne 101 = .ok (.ifnonnull 5, 3) := by decide +kernel
theorem dX2_readOne_104 : decode cX2_readOne 104 = .ok (.iconst 0, 1) := by decide +kernel
theorem dX2_readOne_105 : decode cX2_readOne 105 = .ok (.ireturn, 1) := by decide +kernel
theorem dX2_readOne_106 : decode cX2_readOne 106 = .ok (.aload_n 3, 1) := by decide +kernel
theorem dX2_readOne_107 : decode cX2_readOne 107 = .ok (.getfield 54, 3) := by decide +kernel
theorem dX2_readOne_110 : decode cX2_readOne 110 = .ok (.iconst (-1), 1) := by decide +kernel
theorem dX2_readOne_111 : decode cX2_readOne 111 = .ok (.if_icmp .eq 18, 3) := by decide +kernel
theorem dX2_readOne_114 : decode cX2_readOne 114 = .ok (.aload_n 1, 1) := by decide +kernel
theorem dX2_readOne_115 : decode cX2_readOne 115 = .ok (.aload_n 3, 1) := by decide +kernel
theorem dX2_readOne_116 : decode cX2_readOne 116 = .ok (.getfield 59, 3) := by decide +kernel
theorem dX2_readOne_119 : decode cX2_readOne 119 = .ok (.bipush 61, 2) := by decide +kernel
theorem dX2_readOne_121 : decode cX2_readOne 121 = .ok (.aload_n 3, 1) := by decide +kernel
theorem dX2_readOne_122 : decode cX2_readOne 122 = .ok (.getfield 54, 3) := by decide +kernel
theorem dX2_readOne_125 : decode cX2_readOne 125 = .ok (.invokestatic 62, 3) := by decide +kernel
theorem dX2_readOne_128 : decode cX2_readOne 128 = .ok (.ireturn, 1) := by decide +kernel
theorem dX2_readOne_129 : decode cX2_readOne 129 = .ok (.aload_n 0, 1) := by decide +kernel
theorem dX2_readOne_130 : decode cX2_readOne 130 = .ok (.invokevirtual 66, 3) := by decide +kernel
theorem dX2_readOne_133 : decode cX2_readOne 133 = .ok (.istore 4, 2) := by decide +kernel
theorem dX2_readOne_135 : decode cX2_readOne 135 = .ok (.aload_n 0, 1) := by decide +kernel
theorem dX2_readOne_136 : decode cX2_readOne 136 = .ok (.invokevirtual 70, 3) := by decide +kernel
theorem dX2_readOne_139 : decode cX2_readOne 139 = .ok (.istore 5, 2) := by decide +kernel
theorem dX2_readOne_141 : decode cX2_readOne 141 = .ok (.aload_n 1, 1) := by decide +kernel
theorem dX2_readOne_142 : decode cX2_readOne 142 = .ok (.aload_n 3, 1) := by decide +kernel
theorem dX2_readOne_143 : decode cX2_readOne 143 = .ok (.getfield 59, 3) := by decide +kernel
theorem dX2_readOne_146 : decode cX2_readOne 146 = .ok (.iload 4, 2) := by decide +kernel
theorem dX2_readOne_148 : decode cX2_readOne 148 = .ok (.iload 5, 2) := by decide +kernel
theorem dX2_readOne_150 : decode cX2_readOne 150 = .ok (.invokestatic 62, 3) := by decide +kernel
theorem dX2_readOne_153 : decode cX2_readOne 153 = .ok (.ireturn, 1) := by decide +kernel
theorem dX2_readWord_0 : decode cX2_readWord 0 = .ok (.iconst 0, 1) := by decide +kernel
theorem dX2_readWord_1 : decode cX2_readWord 1 = .ok (.istore_n 1, 1) := by decide +kernel
theorem dX2_readWord_2 : decode cX2_readWord 2 = .ok (.iconst 0, 1) := by decide +kernel
theorem dX2_readWord_3 : decode cX2_readWord 3 = .ok (.istore_n 2, 1) := by decide +kernel
theorem dX2_readWord_4 : decode cX2_readWord 4 = .ok (.iload_n 2, 1) := by decide +kernel
theorem dX2_readWord_5 : decode cX2_readWord 5 = .ok (.getstatic 74, 3) := by decide +kernel
theorem dX2_readWord_8 : decode cX2_readWord 8 = .ok (.arraylength, 1) := by decide +kernel
theorem dX2_readWord_9 : decode cX2_readWord 9 = .ok (.if_icmp .ge 57, 3) := by decide +kernel
theorem dX2_readWord_12 : decode cX2_readWord 12 = .ok (.getstatic 74, 3) := by decide +kernel
theorem dX2_readWord_15 : decode cX2_readWord 15 = .ok (.iload_n 2, 1) := by decide +kernel
theorem dX2_readWord_16 : decode cX2_readWord 16 = .ok (.aaload, 1) := by decide +kernel
theorem dX2_readWord_17 : decode cX2_readWord 17 = .ok (.astore_n 3, 1) := by decide +kernel
theorem dX2_readWord_18 : decode cX2_readWord 18 = .ok (.aload_n 0, 1) := by decide +kernel
theorem dX2_readWord_19 : decode cX2_readWord 19 = .ok (.aload_n 3, 1) := by decide +kernel
theorem dX2_readWord_20 : decode cX2_readWord 20 = .ok (.getfield 78, 3) := by decide +kernel
theorem dX2_readWord_23 : decode cX2_readWord 23 = .ok (.invokevirtual 82, 3) := by decide +kernel
theorem dX2_readWord_26 : decode cX2_readWord 26 = .ok (.istore 4, 2) := by decide +kernel
theorem dX2_readWord_28 : decode cX2_readWord 28 = .ok (.iload 4, 2) := by decide +kernel
theorem dX2_readWord_30 : decode cX2_readWord 30 = .ok (.aload_n 3, 1) := by decide +kernel
theorem dX2_readWord_31 : decode cX2_readWord 31 = .ok (.getfield 78, 3) := by decide +kernel
theorem dX2_readWord_34 : decode cX2_readWord 34 = .ok (.invokevirtual 86, 3) := by decide +kernel
theorem dX2_readWord_37 : decode cX2_readWord 37 = .ok (.if_icmp .ne 16, 3) := by decide +kernel
theorem dX2_readWord_40 : decode cX2_readWord 40 = .ok (.aload_n 0, 1) := by decide +kernel
theorem dX2_readWord_41 : decode cX2_readWord 41 = .ok (.dup, 1) := by decide +kernel
theorem dX2_readWord_42 : decode cX2_readWord 42 = .ok (.getfield 19, 3) := by decide +kernel
theorem dX2_readWord_45 : decode cX2_readWord 45 = .ok (.iload 4, 2) := by decide +kernel
theorem dX2_readWord_47 : decode cX2_readWord 47 = .ok (.iadd, 1) := by decide +kernel
theorem dX2_readWord_48 : decode cX2_readWord 48 = .ok (.putfield 19, 3) := by decide +kernel
theorem dX2_readWord_51 : decode cX2_readWord 51 = .ok (.aload_n 3, 1) := by decide +kernel
theorem dX2_readWord_52 : decode cX2_readWord 52 = .ok (.areturn, 1) := by decide +kernel
theorem dX2_readWord_53 : decode cX2_readWord 53 = .ok (.iload_n 1, 1) := by decide +kernel
theorem dX2_readWord_54 : decode cX2_readWord 54 = .ok (.iload 4, 2) := by decide +kernel
theorem dX2_readWord_56 : decode cX2_readWord 56 = .ok (.invokestatic 90, 3) := by decide +kernel
theorem dX2_readWord_59 : decode cX2_readWord 59 = .ok (.istore_n 1, 1) := by decide +kernel
theorem dX2_readWord_60 : decode cX2_readWord 60 = .ok (.iinc 2 1, 3) := by decide +kernel
theorem dX2_readWord_63 : decode cX2_readWord 63 = .ok (.goto (-59), 3) := by decide +kernel
theorem dX2_readWord_66 : decode cX2_readWord 66 = .ok (.aload_n 0, 1) := by decide +kernel
theorem dX2_readWord_67 : decode cX2_readWord 67 = .ok (.aload_n 0, 1) := by decide +kernel
theorem dX2_readWord_68 : decode cX2_readWord 68 = .ok (.getfield 19, 3) := by decide +kernel
theorem dX2_readWord_71 : decode cX2_readWord 71 = .ok (.iload_n 1, 1) := by decide +kernel
theorem dX2_readWord_72 : decode cX2_readWord 72 = .ok (.iadd, 1) := by decide +kernel
theorem dX2_readWord_73 : decode cX2_readWord 73 = .ok (.invokevirtual 29, 3) := by decide +kernel
theorem dX2_readWord_76 : decode cX2_readWord 76 = .ok (.aconst_null, 1) := by decide +kernel
theorem dX2_readWord_77 : decode cX2_readWord 77 = .ok (.areturn, 1) := by decide +kernel
theorem dX2_lettersAlike_0 : decode cX2_lettersAlike 0 = .ok (.aload_n 1, 1) := by decide +kernel
theorem dX2_lettersAlike_1 : decode cX2_lettersAlike 1 = .ok (.invokevirtual 86, 3) := by decide +kernel
theorem dX2_lettersAlike_4 : decode cX2_lettersAlike 4 = .ok (.aload_n 0, 1) := by decide +kernel
theorem dX2_lettersAlike_5 : decode cX2_lettersAlike 5 = .ok (.getfield 15, 3) := by decide +kernel
theorem dX2_lettersAlike_8 : decode cX2_lettersAlike 8 = .ok (.aload_n 0, 1) := by decide +kernel
theorem dX2_lettersAlike_9 : decode cX2_lettersAlike 9 = .ok (.getfield 19, 3) := by decide +kernel
theorem dX2_lettersAlike_12 : decode cX2_lettersAlike 12 = .ok (.isub, 1) := by decide +kernel
theorem dX2_lettersAlike_13 : decode cX2_lettersAlike 13 = .ok (.invokestatic 96, 3) := by decide +kernel
theorem dX2_lettersAlike_16 : decode cX2_lettersAlike 16 = .ok (.istore_n 2, 1) := by decide +kernel
theorem dX2_lettersAlike_17 : decode cX2_lettersAlike 17 = .ok (.iconst 0, 1) := by decide +kernel
theorem dX2_lettersAlike_18 : decode cX2_lettersAlike 18 = .ok (.istore_n 3, 1) := by decide +kernel
theorem dX2_lettersAlike_19 : decode cX2_lettersAlike 19 = .ok (.iload_n 3, 1) := by decide +kernel
theorem dX2_lettersAlike_20 : decode cX2_lettersAlike 20 = .ok (.iload_n 2, 1) := by decide +kernel
theorem dX2_lettersAlike_21 : decode cX2_lettersAlike 21 = .ok (.if_icmp .ge 30, 3) := by decide +kernel
theorem dX2_lettersAlike_24 : decode cX2_lettersAlike 24 = .ok (.aload_n 0, 1) := by decide +kernel
theorem dX2_lettersAlike_25 : decode cX2_lettersAlike 25 = .ok (.getfield 9, 3) := by decide +kernel
theorem dX2_lettersAlike_28 : decode cX2_lettersAlike 28 = .ok (.aload_n 0, 1) := by decide +kernel
theorem dX2_lettersAlike_29 : decode cX2_lettersAlike 29 = .ok (.getfield 19, 3) := by decide +kernel
theorem dX2_lettersAlike_32 : decode cX2_lettersAlike 32 = .ok (.iload_n 3, 1) := by decide +kernel
theorem dX2_lettersAlike_33 : decode cX2_lettersAlike 33 = .ok (.iadd, 1) := by decide +kernel
theorem dX2_lettersAlike_34 : decode cX2_lettersAlike 34 = .ok (.caload, 1) := by decide +kernel
theorem dX2_lettersAlike_35 : decode cX2_lettersAlike 35 = .ok (.aload_n 1, 1) := by decide +kernel
theorem dX2_lettersAlike_36 : decode cX2_lettersAlike 36 = .ok (.iload_n 3, 1) := by decide +kernel
theorem dX2_lettersAlike_37 : decode cX2_lettersAlike 37 = .ok (.invokevirtual 99, 3) := by decide +kernel
theorem dX2_lettersAlike_40 : decode cX2_lettersAlike 40 = .ok (.if_icmp .eq 5, 3) := by decide +kernel
theorem dX2_lettersAlike_43 : decode cX2_lettersAlike 43 = .ok (.iload_n 3, 1) := by decide +kernel
theorem dX2_lettersAlike_44 : decode cX2_lettersAlike 44 = .ok (.ireturn, 1) := by decide +kernel
theorem dX2_lettersAlike_45 : decode cX2_lettersAlike 45 = .ok (.iinc 3 1, 3) := by decide +kernel
theorem dX2_lettersAlike_48 : decode cX2_lettersAlike 48 = .ok (.goto (-29), 3) := by decide +kernel
theorem dX2_lettersAlike_51 : decode cX2_lettersAlike 51 = .ok (.iconst 0, 1) := by decide +kernel
theorem dX2_lettersAlike_52 : decode cX2_lettersAlike 52 = .ok (.iload_n 2, 1) := by decide +kernel
theorem dX2_lettersAlike_53 : decode cX2_lettersAlike 53 = .ok (.invokestatic 90, 3) := by decide +kernel
theorem dX2_lettersAlike_56 : decode cX2_lettersAlike 56 = .ok (.ireturn, 1) := by decide +kernel
theorem dX2_readSign_0 : decode cX2_readSign 0 = .ok (.aload_n 0, 1) := by decide +kernel
theorem dX2_readSign_1 : decode cX2_readSign 1 = .ok (.bipush 60, 2) := by decide +kernel
theorem dX2_readSign_3 : decode cX2_readSign 3 = .ok (.invokevirtual 36, 3) := by decide +kernel
theorem dX2_readSign_6 : decode cX2_readSign 6 = .ok (.ifCond .eq 6, 3) := by decide +kernel
theorem dX2_readSign_9 : decode cX2_readSign 9 = .ok (.bipush 60, 2) := by decide +kernel
theorem dX2_readSign_11 : decode cX2_readSign 11 = .ok (.ireturn, 1) := by decide +kernel
theorem dX2_readSign_12 : decode cX2_readSign 12 = .ok (.aload_n 0, 1) := by decide +kernel
theorem dX2_readSign_13 : decode cX2_readSign 13 = .ok (.bipush 62, 2) := by decide +kernel
theorem dX2_readSign_15 : decode cX2_readSign 15 = .ok (.invokevirtual 36, 3) := by decide +kernel
theorem dX2_readSign_18 : decode cX2_readSign 18 = .ok (.ifCond .eq 6, 3) := by decide +kernel
theorem dX2_readSign_21 : decode cX2_readSign 21 = .ok (.bipush 62, 2) := by decide +kernel
theorem dX2_readSign_23 : decode cX2_readSign 23 = .ok (.ireturn, 1) := by decide +kernel
theorem dX2_readSign_24 : decode cX2_readSign 24 = .ok (.aload_n 0, 1) := by decide +kernel
theorem dX2_readSign_25 : decode cX2_readSign 25 = .ok (.bipush 61, 2) := by decide +kernel
theorem dX2_readSign_27 : decode cX2_readSign 27 = .ok (.invokevirtual 36, 3) := by decide +kernel
theorem dX2_readSign_30 : decode cX2_readSign 30 = .ok (.ifCond .ne 11, 3) := by decide +kernel
theorem dX2_readSign_33 : decode cX2_readSign 33 = .ok (.aload_n 0, 1) := by decide +kernel
theorem dX2_readSign_34 : decode cX2_readSign 34 = .ok (.aload_n 0, 1) := by decide +kernel
theorem dX2_readSign_35 : decode cX2_readSign 35 = .ok (.getfield 19, 3) := by decide +kernel
theorem dX2_readSign_38 : decode cX2_readSign 38 = .ok (.invokevirtual 29, 3) := by decide +kernel
theorem dX2_readSign_41 : decode cX2_readSign 41 = .ok (.bipush 61, 2) := by decide +kernel
theorem dX2_readSign_43 : decode cX2_readSign 43 = .ok (.ireturn, 1) := by decide +kernel
theorem dX2_readNumber_0 : decode cX2_readNumber 0 = .ok (.aload_n 0, 1) := by decide +kernel
theorem dX2_readNumber_1 : decode cX2_readNumber 1 = .ok (.invokevirtual 103, 3) := by decide +kernel
theorem dX2_readNumber_4 : decode cX2_readNumber 4 = .ok (.ifCond .ne 13, 3) := by decide +kernel
theorem dX2_readNumber_7 : decode cX2_readNumber 7 = .ok (.aload_n 0, 1) := by decide +kernel
theorem dX2_readNumber_8 : decode cX2_readNumber 8 = .ok (.aload_n 0, 1) := by decide +kernel
theorem dX2_readNumber_9 : decode cX2_readNumber 9 = .ok (.getfield 19, 3) := by decide +kernel
theorem dX2_readNumber_12 : decode cX2_readNumber 12 = .ok (.invokevirtual 29, 3) := by decide +kernel
theorem dX2_readNumber_15 : decode cX2_readNumber 15 = .ok (.iconst 0, 1) := by decide +kernel
theorem dX2_readNumber_16 : decode cX2_readNumber 16 = .ok (.ireturn, 1) := by decide +kernel
theorem dX2_readNumber_17 : decode cX2_readNumber 17 = .ok (.aload_n 0, 1) := by decide +kernel
theorem dX2_readNumber_18 : decode cX2_readNumber 18 = .ok (.invokevirtual 107, 3) := by decide +kernel
theorem dX2_readNumber_21 : decode cX2_readNumber 21 = .ok (.istore_n 1, 1) := by decide +kernel
theorem dX2_readNumber_22 : decode cX2_readNumber 22 = .ok (.aload_n 0, 1) := by decide +kernel
theorem dX2_readNumber_23 : decode cX2_readNumber 23 = .ok (.invokevirtual 103, 3) := by decide +kernel
theorem dX2_readNumber_26 : decode cX2_readNumber 26 = .ok (.ifCond .eq 15, 3) := by decide +kernel
theorem dX2_readNumber_29 : decode cX2_readNumber 29 = .ok (.iload_n 1, 1) := by decide +kernel
theorem dX2_readNumber_30 : decode cX2_readNumber 30 = .ok (.bipush 10, 2) := by decide +kernel
theorem dX2_readNumber_32 : decode cX2_readNumber 32 = .ok (.imul, 1) := by decide +kernel
theorem dX2_readNumber_33 : decode cX2_readNumber 33 = .ok (.aload_n 0, 1) := by decide +kernel
theorem dX2_readNumber_34 : decode cX2_readNumber 34 = .ok (.invokevirtual 107, 3) := by decide +kernel
theorem dX2_readNumber_37 : decode cX2_readNumber 37 = .ok (.iadd, 1) := by decide +kernel
theorem dX2_readNumber_38 : decode cX2_readNumber 38 = .ok (.goto 4, 3) := by decide +kernel
theorem dX2_readNumber_41 : decode cX2_readNumber 41 = .ok (.iload_n 1, 1) := by decide +kernel
theorem dX2_readNumber_42 : decode cX2_readNumber 42 = .ok (.ireturn, 1) := by decide +kernel
theorem dX2_isDigitNext_0 : decode cX2_isDigitNext 0 = .ok (.aload_n 0, 1) := by decide +kernel
theorem dX2_isDigitNext_1 : decode cX2_isDigitNext 1 = .ok (.getfield 22, 3) := by decide +kernel
theorem dX2_isDigitNext_4 : decode cX2_isDigitNext 4 = .ok (.iconst (-1), 1) := by decide +kernel
theorem dX2_isDigitNext_5 : decode cX2_isDigitNext 5 = .ok (.if_icmp .ne 46, 3) := by decide +kernel
theorem dX2_isDigitNext_8 : decode cX2_isDigitNext 8 = .ok (.aload_n 0, 1) := by decide +kernel
theorem dX2_isDigitNext_9 : decode cX2_isDigitNext 9 = .ok (.getfield 19, 3) := by decide +kernel
theorem dX2_isDigitNext_12 : decode cX2_isDigitNext 12 = .ok (.aload_n 0, 1) := by decide +kernel
theorem dX2_isDigitNext_13 : decode cX2_isDigitNext 13 = .ok (.getfield 15, 3) := by decide +kernel
theorem dX2_isDigitNext_16 : decode cX2_isDigitNext 16 = .ok (.if_icmp .ge 35, 3) := by decide +kernel
theorem dX2_isDigitNext_19 : decode cX2_isDigitNext 19 = .ok (.aload_n 0, 1) := by decide +kernel
theorem dX2_isDigitNext_20 : decode cX2_isDigitNext 20 = .ok (.getfield 9, 3) := by decide +kernel
theorem dX2_isDigitNext_23 : decode cX2_isDigitNext 23 = .ok (.aload_n 0, 1) := by decide +kernel
theorem dX2_isDigitNext_24 : decode cX2_isDigitNext 24 = .ok (.getfield 19, 3) := by decide +kernel
theorem dX2_isDigitNext_27 : decode cX2_isDigitNext 27 = .ok (.caload, 1) := by decide +kernel
theorem dX2_isDigitNext_28 : decode cX2_isDigitNext 28 = .ok (.bipush 48, 2) := by decide +kernel
theorem dX2_isDigitNext_30 : decode cX2_isDigitNext 30 = .ok (.if_icmp .lt 21, 3) := by decide +kernel
theorem dX2_isDigitNext_33 : decode cX2_isDigitNext 33 = .ok (.aload_n 0, 1) := by decide +kernel
theorem dX2_isDigitNext_34 : decode cX2_isDigitNext 34 = .ok (.getfield 9, 3) := by decide +kernel
theorem dX2_isDigitNext_37 : decode cX2_isDigitNext 37 = .ok (.aload_n 0, 1) := by decide +kernel
theorem dX2_isDigitNext_38 : decode cX2_isDigitNext 38 = .ok (.getfield 19, 3) := by decide +kernel
theorem dX2_isDigitNext_41 : decode cX2_isDigitNext 41 = .ok (.caload, 1) := by decide +kernel
theorem dX2_isDigitNext_42 : decode cX2_isDigitNext 42 = .ok (.bipush 57, 2) := by decide +kernel
theorem dX2_isDigitNext_44 : decode cX2_isDigitNext 44 = .ok (.if_icmp .gt 7, 3) := by decide +kernel
theorem dX2_isDigitNext_47 : decode cX2_isDigitNext 47 = .ok (.iconst 1, 1) := by decide +kernel
theorem dX2_isDigitNext_48 : decode cX2_isDigitNext 48 = .ok (.goto 4, 3) := by decide +kernel
theorem dX2_isDigitNext_51 : decode cX2_isDigitNext 51 = .ok (.iconst 0, 1) := by decide +kernel
theorem dX2_isDigitNext_52 : decode cX2_isDigitNext 52 = .ok (.ireturn, 1) := by decide +kernel
theorem dX2_readDigit_0 : decode cX2_readDigit 0 = .ok (.aload_n 0, 1) := by decide +kernel
theorem dX2_readDigit_1 : decode cX2_readDigit 1 = .ok (.getfield 9, 3) := by decide +kernel
theorem dX2_readDigit_4 : decode cX2_readDigit 4 = .ok (.aload_n 0, 1) := by decide +kernel
theorem dX2_readDigit_5 : decode cX2_readDigit 5 = .ok (.getfield 19, 3) := by decide +kernel
theorem dX2_readDigit_8 : decode cX2_readDigit 8 = .ok (.caload, 1) := by decide +kernel
theorem dX2_readDigit_9 : decode cX2_readDigit 9 = .ok (.bipush 48, 2) := by decide +kernel
theorem dX2_readDigit_11 : decode cX2_readDigit 11 = .ok (.isub, 1) := by decide +kernel
theorem dX2_readDigit_12 : decode cX2_readDigit 12 = .ok (.istore_n 1, 1) := by decide +kernel
theorem dX2_readDigit_13 : decode cX2_readDigit 13 = .ok (.aload_n 0, 1) := by decide +kernel
theorem dX2_readDigit_14 : decode cX2_readDigit 14 = .ok (.dup, 1) := by decide +kernel
theorem dX2_readDigit_15 : decode cX2_readDigit 15 = .ok (.getfield 19, 3) := by decide +kernel
theorem dX2_readDigit_18 : decode cX2_readDigit 18 = .ok (.iconst 1, 1) := by decide +kernel
theorem dX2_readDigit_19 : decode cX2_readDigit 19 = .ok (.iadd, 1) := by decide +kernel
theorem dX2_readDigit_20 : decode cX2_readDigit 20 = .ok (.putfield 19, 3) := by decide +kernel
theorem dX2_readDigit_23 : decode cX2_readDigit 23 = .ok (.iload_n 1, 1) := by decide +kernel
theorem dX2_readDigit_24 : decode cX2_readDigit 24 = .ok (.ireturn, 1) := by decide +kernel
theorem dX2_isNext_0 : decode cX2_isNext 0 = .ok (.aload_n 0, 1) := by decide +kernel
theorem dX2_isNext_1 : decode cX2_isNext 1 = .ok (.getfield 22, 3) := by decide +kernel
theorem dX2_isNext_4 : decode cX2_isNext 4 = .ok (.iconst (-1), 1) := by decide +kernel
theorem dX2_isNext_5 : decode cX2_isNext 5 = .ok (.if_icmp .ne 31, 3) := by decide +kernel
theorem dX2_isNext_8 : decode cX2_isNext 8 = .ok (.aload_n 0, 1) := by decide +kernel
theorem dX2_isNext_9 : decode cX2_isNext 9 = .ok (.getfield 19, 3) := by decide +kernel
theorem dX2_isNext_12 : decode cX2_isNext 12 = .ok (.aload_n 0, 1) := by decide +kernel
theorem dX2_isNext_13 : decode cX2_isNext 13 = .ok (.getfield 15, 3) := by decide +kernel
theorem dX2_isNext_16 : decode cX2_isNext 16 = .ok (.if_icmp .ge 20, 3) := by decide +kernel
theorem dX2_isNext_19 : decode cX2_isNext 19 = .ok (.aload_n 0, 1) := by decide +kernel
theorem dX2_isNext_20 : decode cX2_isNext 20 = .ok (.getfield 9, 3) := by decide +kernel
theorem dX2_isNext_23 : decode cX2_isNext 23 = .ok (.aload_n 0, 1) := by decide +kernel
theorem dX2_isNext_24 : decode cX2_isNext 24 = .ok (.getfield 19, 3) := by decide +kernel
theorem dX2_isNext_27 : decode cX2_isNext 27 = .ok (.caload, 1) := by decide +kernel
theorem dX2_isNext_28 : decode cX2_isNext 28 = .ok (.iload_n 1, 1) := by decide +kernel
theorem dX2_isNext_29 : decode cX2_isNext 29 = .ok (.if_icmp .ne 7, 3) := by decide +kernel
theorem dX2_isNext_32 : decode cX2_isNext 32 = .ok (.iconst 1, 1) := by decide +kernel
theorem dX2_isNext_33 : decode cX2_isNext 33 = .ok (.goto 4, 3) := by decide +kernel
theorem dX2_isNext_36 : decode cX2_isNext 36 = .ok (.iconst 0, 1) := by decide +kernel
theorem dX2_isNext_37 : decode cX2_isNext 37 = .ok (.ireturn, 1) := by decide +kernel
theorem dX2_takes_0 : decode cX2_takes 0 = .ok (.aload_n 0, 1) := by decide +kernel
theorem dX2_takes_1 : decode cX2_takes 1 = .ok (.iload_n 1, 1) := by decide +kernel
theorem dX2_takes_2 : decode cX2_takes 2 = .ok (.invokevirtual 43, 3) := by decide +kernel
theorem dX2_takes_5 : decode cX2_takes 5 = .ok (.istore_n 2, 1) := by decide +kernel
theorem dX2_takes_6 : decode cX2_takes 6 = .ok (.iload_n 2, 1) := by decide +kernel
theorem dX2_takes_7 : decode cX2_takes 7 = .ok (.ifCond .eq 13, 3) := by decide +kernel
theorem dX2_takes_10 : decode cX2_takes 10 = .ok (.aload_n 0, 1) := by decide +kernel
theorem dX2_takes_11 : decode cX2_takes 11 = .ok (.dup, 1) := by decide +kernel
theorem dX2_takes_12 : decode cX2_takes 12 = .ok (.getfield 19, 3) := by decide +kernel
theorem dX2_takes_15 : decode cX2_takes 15 = .ok (.iconst 1, 1) := by decide +kernel
theorem dX2_takes_16 : decode cX2_takes 16 = .ok (.iadd, 1) := by decide +kernel
theorem dX2_takes_17 : decode cX2_takes 17 = .ok (.putfield 19, 3) := by decide +kernel
theorem dX2_takes_20 : decode cX2_takes 20 = .ok (.iload_n 2, 1) := by decide +kernel
theorem dX2_takes_21 : decode cX2_takes 21 = .ok (.ireturn, 1) := by decide +kernel
theorem dX2_fail_0 : decode cX2_fail 0 = .ok (.aload_n 0, 1) := by decide +kernel
theorem dX2_fail_1 : decode cX2_fail 1 = .ok (.getfield 22, 3) := by decide +kernel
theorem dX2_fail_4 : decode cX2_fail 4 = .ok (.iconst (-1), 1) := by decide +kernel
theorem dX2_fail_5 : decode cX2_fail 5 = .ok (.if_icmp .ne 8, 3) := by decide +kernel
theorem dX2_fail_8 : decode cX2_fail 8 = .ok (.aload_n 0, 1) := by decide +kernel
theorem dX2_fail_9 : decode cX2_fail 9 = .ok (.iload_n 1, 1) := by decide +kernel
theorem dX2_fail_10 : decode cX2_fail 10 = .ok (.putfield 22, 3) := by decide +kernel
theorem dX2_fail_13 : decode cX2_fail 13 = .ok (.return_, 1) := by decide +kernel
theorem dX2_everyone_0 : decode cX2_everyone 0 = .ok (.iconst 1, 1) := by decide +kernel
theorem dX2_everyone_1 : decode cX2_everyone 1 = .ok (.aload_n 0, 1) := by decide +kernel
theorem dX2_everyone_2 : decode cX2_everyone 2 = .ok (.getfield 110, 3) := by decide +kernel
theorem dX2_everyone_5 : decode cX2_everyone 5 = .ok (.ishl, 1) := by decide +kernel
theorem dX2_everyone_6 : decode cX2_everyone 6 = .ok (.iconst 1, 1) := by decide +kernel
theorem dX2_everyone_7 : decode cX2_everyone 7 = .ok (.isub, 1) := by decide +kernel
theorem dX2_everyone_8 : decode cX2_everyone 8 = .ok (.ireturn, 1) := by decide +kernel
theorem dX2_thoseWith_0 : decode cX2_thoseWith 0 = .ok (.iconst 0, 1) := by decide +kernel
theorem dX2_thoseWith_1 : decode cX2_thoseWith 1 = .ok (.istore 4, 2) := by decide +kernel
theorem dX2_thoseWith_3 : decode cX2_thoseWith 3 = .ok (.iconst 0, 1) := by decide +kernel
theorem dX2_thoseWith_4 : decode cX2_thoseWith 4 = .ok (.istore 5, 2) := by decide +kernel
theorem dX2_thoseWith_6 : decode cX2_thoseWith 6 = .ok (.iload 5, 2) := by decide +kernel
theorem dX2_thoseWith_8 : decode cX2_thoseWith 8 = .ok (.aload_n 0, 1) := by decide +kernel
theorem dX2_thoseWith_9 : decode cX2_thoseWith 9 = .ok (.getfield 110, 3) := by decide +kernel
theorem dX2_thoseWith_12 : decode cX2_thoseWith 12 = .ok (.if_icmp .ge 37, 3) := by decide +kernel
theorem dX2_thoseWith_15 : decode cX2_thoseWith 15 = .ok (.aload_n 0, 1) := by decide +kernel
theorem dX2_thoseWith_16 : decode cX2_thoseWith 16 = .ok (.getfield 115, 3) := by decide +kernel
theorem dX2_thoseWith_19 : decode cX2_thoseWith 19 = .ok (.iload 5, 2) := by decide +kernel
theorem dX2_thoseWith_21 : decode cX2_thoseWith 21 = .ok (.aaload, 1) := by decide +kernel
theorem dX2_thoseWith_22 : decode cX2_thoseWith 22 = .ok (.iload_n 1, 1) := by decide +kernel
theorem dX2_thoseWith_23 : decode cX2_thoseWith 23 = .ok (.invokevirtual 119, 3) := by decide +kernel
theorem dX2_thoseWith_26 : decode cX2_thoseWith 26 = .ok (.iload_n 2, 1) := by decide +kernel
theorem dX2_thoseWith_27 : decode cX2_thoseWith 27 = .ok (.iload_n 3, 1) := by decide +kernel
theorem dX2_thoseWith_28 : decode cX2_thoseWith 28 = .ok (.invokestatic 125, 3) := by decide +kernel
theorem dX2_thoseWith_31 : decode cX2_thoseWith 31 = .ok (.ifCond .eq 12, 3) := by decide +kernel
theorem dX2_thoseWith_34 : decode cX2_thoseWith 34 = .ok (.iload 4, 2) := by decide +kernel
theorem dX2_thoseWith_36 : decode cX2_thoseWith 36 = .ok (.iconst 1, 1) := by decide +kernel
theorem dX2_thoseWith_37 : decode cX2_thoseWith 37 = .ok (.iload 5, 2) := by decide +kernel
theorem dX2_thoseWith_39 : decode cX2_thoseWith 39 = .ok (.ishl, 1) := by decide +kernel
theorem dX2_thoseWith_40 : decode cX2_thoseWith 40 = .ok (.ior, 1) := by decide +kernel
theorem dX2_thoseWith_41 : decode cX2_thoseWith 41 = .ok (.istore 4, 2) := by decide +kernel
theorem dX2_thoseWith_43 : decode cX2_thoseWith 43 = .ok (.iinc 5 1, 3) := by decide +kernel
theorem dX2_thoseWith_46 : decode cX2_thoseWith 46 = .ok (.goto (-40), 3) := by decide +kernel
theorem dX2_thoseWith_49 : decode cX2_thoseWith 49 = .ok (.iload 4, 2) := by decide +kernel
theorem dX2_thoseWith_51 : decode cX2_thoseWith 51 = .ok (.ireturn, 1) := by decide +kernel
theorem dX2_isSo_0 : decode cX2_isSo 0 = .ok (.iload_n 1, 1) := by decide +kernel
theorem dX2_isSo_1 : decode cX2_isSo 1 = .ok (.bipush 60, 2) := by decide +kernel
theorem dX2_isSo_3 : decode cX2_isSo 3 = .ok (.if_icmp .ne 14, 3) := by decide +kernel
theorem dX2_isSo_6 : decode cX2_isSo 6 = .ok (.iload_n 0, 1) := by decide +kernel
theorem dX2_isSo_7 : decode cX2_isSo 7 = .ok (.iload_n 2, 1) := by decide +kernel
theorem dX2_isSo_8 : decode cX2_isSo 8 = .ok (.if_icmp .ge 7, 3) := by decide +kernel
theorem dX2_isSo_11 : decode cX2_isSo 11 = .ok (.iconst 1, 1) := by decide +kernel
theorem dX2_isSo_12 : decode cX2_isSo 12 = .ok (.goto 4, 3) := by decide +kernel
theorem dX2_isSo_15 : decode cX2_isSo 15 = .ok (.iconst 0, 1) := by decide +kernel
theorem dX2_isSo_16 : decode cX2_isSo 16 = .ok (.ireturn, 1) := by decide +kernel
theorem dX2_isSo_17 : decode cX2_isSo 17 = .ok (.iload_n 1, 1) := by decide +kernel
theorem dX2_isSo_18 : decode cX2_isSo 18 = .ok (.bipush 62, 2) := by decide +kernel
theorem dX2_isSo_20 : decode cX2_isSo 20 = .ok (.if_icmp .ne 16, 3) := by decide +kernel
theorem dX2_isSo_23 : decode cX2_isSo 23 = .ok (.iload_n 0, 1) := by decide +kernel
theorem dX2_isSo_24 : decode cX2_isSo 24 = .ok (.iload_n 2, 1) := by decide +kernel
theorem dX2_isSo_25 : decode cX2_isSo 25 = .ok (.if_icmp .le 7, 3) := by decide +kernel
theorem dX2_isSo_28 : decode cX2_isSo 28 = .ok (.iconst 1, 1) := by decide +kernel
theorem dX2_isSo_29 : decode cX2_isSo 29 = .ok (.goto 17, 3) := by decide +kernel
theorem dX2_isSo_32 : decode cX2_isSo 32 = .ok (.iconst 0, 1) := by decide +kernel
theorem dX2_isSo_33 : decode cX2_isSo 33 = .ok (.goto 13, 3) := by decide +kernel
theorem dX2_isSo_36 : decode cX2_isSo 36 = .ok (.iload_n 0, 1) := by decide +kernel
theorem dX2_isSo_37 : decode cX2_isSo 37 = .ok (.iload_n 2, 1) := by decide +kernel
theorem dX2_isSo_38 : decode cX2_isSo 38 = .ok (.if_icmp .ne 7, 3) := by decide +kernel
theorem dX2_isSo_41 : decode cX2_isSo 41 = .ok (.iconst 1, 1) := by decide +kernel
theorem dX2_isSo_42 : decode cX2_isSo 42 = .ok (.goto 4, 3) := by decide +kernel
theorem dX2_isSo_45 : decode cX2_isSo 45 = .ok (.iconst 0, 1) := by decide +kernel
theorem dX2_isSo_46 : decode cX2_isSo 46 = .ok (.ireturn, 1) := by decide +kernel
theorem dX3_init_0 : decode cX3_init 0 = .ok (.aload_n 0, 1) := by decide +kernel
theorem dX3_init_1 : decode cX3_init 1 = .ok (.invokespecial 3, 3) := by decide +kernel
theorem dX3_init_4 : decode cX3_init 4 = .ok (.aload_n 0, 1) := by decide +kernel
theorem dX3_init_5 : decode cX3_init 5 = .ok (.iconst 0, 1) := by decide +kernel
theorem dX3_init_6 : decode cX3_init 6 = .ok (.putfield 9, 3) := by decide +kernel
theorem dX3_init_9 : decode cX3_init 9 = .ok (.aload_n 0, 1) := by decide +kernel
theorem dX3_init_10 : decode cX3_init 10 = .ok (.iconst 0, 1) := by decide +kernel
theorem dX3_init_11 : decode cX3_init 11 = .ok (.putfield 15, 3) := by decide +kernel
theorem dX3_init_14 : decode cX3_init 14 = .ok (.aload_n 0, 1) := by decide +kernel
theorem dX3_init_15 : decode cX3_init 15 = .ok (.iconst (-1), 1) := by decide +kernel
theorem dX3_init_16 : decode cX3_init 16 = .ok (.putfield 18, 3) := by decide +kernel
theorem dX3_init_19 : decode cX3_init 19 = .ok (.aload_n 0, 1) := by decide +kernel
theorem dX3_init_20 : decode cX3_init 20 = .ok (.iconst 0, 1) := by decide +kernel
theorem dX3_init_21 : decode cX3_init 21 = .ok (.putfield 21, 3) := by decide +kernel
theorem dX3_init_24 : decode cX3_init 24 = .ok (.aload_n 0, 1) := by decide +kernel
theorem dX3_init_25 : decode cX3_init 25 = .ok (.iconst 1, 1) := by decide +kernel
theorem dX3_init_26 : decode cX3_init 26 = .ok (.putfield 25, 3) := by decide +kernel
theorem dX3_init_29 : decode cX3_init 29 = .ok (.aload_n 0, 1) := by decide +kernel
theorem dX3_init_30 : decode cX3_init 30 = .ok (.iconst 0, 1) := by decide +kernel
theorem dX3_init_31 : decode cX3_init 31 = .ok (.putfield 28, 3) := by decide +kernel
theorem dX3_init_34 : decode cX3_init 34 = .ok (.aload_n 0, 1) := by decide +kernel
theorem dX3_init_35 : decode cX3_init 35 = .ok (.iconst 0, 1) := by decide +kernel
theorem dX3_init_36 : decode cX3_init 36 = .ok (.putfield 31, 3) := by decide +kernel
theorem dX3_init_39 : decode cX3_init 39 = .ok (.aload_n 0, 1) := by decide +kernel
theorem dX3_init_40 : decode cX3_init 40 = .ok (.iconst 0, 1) := by decide +kernel
theorem dX3_init_41 : decode cX3_init 41 = .ok (.putfield 34, 3) := by decide +kernel
theorem dX3_init_44 : decode cX3_init 44 = .ok (.return_, 1) := by decide +kernel
theorem dX3_arrive_0 : decode cX3_arrive 0 = .ok (.aload_n 0, 1) := by decide +kernel
theorem dX3_arrive_1 : decode cX3_arrive 1 = .ok (.iload_n 1, 1) := by decide +kernel
theorem dX3_arrive_2 : decode cX3_arrive 2 = .ok (.putfield 9, 3) := by decide +kernel
theorem dX3_arrive_5 : decode cX3_arrive 5 = .ok (.aload_n 0, 1) := by decide +kernel
theorem dX3_arrive_6 : decode cX3_arrive 6 = .ok (.iconst 0, 1) := by decide +kernel
theorem dX3_arrive_7 : decode cX3_arrive 7 = .ok (.putfield 15, 3) := by decide +kernel
theorem dX3_arrive_10 : decode cX3_arrive 10 = .ok (.aload_n 0, 1) := by decide +kernel
theorem dX3_arrive_11 : decode cX3_arrive 11 = .ok (.iconst (-1), 1) := by decide +kernel
theorem dX3_arrive_12 : decode cX3_arrive 12 = .ok (.putfield 18, 3) := by decide +kernel
theorem dX3_arrive_15 : decode cX3_arrive 15 = .ok (.aload_n 0, 1) := by decide +kernel
theorem dX3_arrive_16 : decode cX3_arrive 16 = .ok (.iconst 0, 1) := by decide +kernel
theorem dX3_arrive_17 : decode cX3_arrive 17 = .ok (.putfield 21, 3) := by decide +kernel
theorem dX3_arrive_20 : decode cX3_arrive 20 = .ok (.aload_n 0, 1) := by decide +kernel
theorem dX3_arrive_21 : decode cX3_arrive 21 = .ok (.iconst 1, 1) := by decide +kernel
theorem dX3_arrive_22 : decode cX3_arrive 22 = .ok (.putfield 25, 3) := by decide +kernel
theorem dX3_arrive_25 : decode cX3_arrive 25 = .ok (.aload_n 0, 1) := by decide +kernel
theorem dX3_arrive_26 : decode cX3_arrive 26 = .ok (.iconst 0, 1) := by decide +kernel
theorem dX3_arrive_27 : decode cX3_arrive 27 = .ok (.putfield 28, 3) := by decide +kernel
theorem dX3_arrive_30 : decode cX3_arrive 30 = .ok (.aload_n 0, 1) := by decide +kernel
theorem dX3_arrive_31 : decode cX3_arrive 31 = .ok (.iconst 0, 1) := by decide +kernel
theorem dX3_arrive_32 : decode cX3_arrive 32 = .ok (.putfield 31, 3) := by decide +kernel
theorem dX3_arrive_35 : decode cX3_arrive 35 = .ok (.aload_n 0, 1) := by decide +kernel
theorem dX3_arrive_36 : decode cX3_arrive 36 = .ok (.iconst 0, 1) := by decide +kernel
theorem dX3_arrive_37 : decode cX3_arrive 37 = .ok (.putfield 34, 3) := by decide +kernel
theorem dX3_arrive_40 : decode cX3_arrive 40 = .ok (.return_, 1) := by decide +kernel
theorem dX3_copyFrom_0 : decode cX3_copyFrom 0 = .ok (.aload_n 0, 1) := by decide +kernel
theorem dX3_copyFrom_1 : decode cX3_copyFrom 1 = .ok (.aload_n 1, 1) := by decide +kernel
theorem dX3_copyFrom_2 : decode cX3_copyFrom 2 = .ok (.getfield 9, 3) := by decide +kernel
theorem dX3_copyFrom_5 : decode cX3_copyFrom 5 = .ok (.putfield 9, 3) := by decide +kernel
theorem dX3_copyFrom_8 : decode cX3_copyFrom 8 = .ok (.aload_n 0, 1) := by decide +kernel
theorem dX3_copyFrom_9 : decode cX3_copyFrom 9 = .ok (.aload_n 1, 1) := by decide +kernel
theorem dX3_copyFrom_10 : decode cX3_copyFrom 10 = .ok (.getfield 15, 3) := by decide +kernel
theorem dX3_copyFrom_13 : decode cX3_copyFrom 13 = .ok (.putfield 15, 3) := by decide +kernel
theorem dX3_copyFrom_16 : decode cX3_copyFrom 16 = .ok (.aload_n 0, 1) := by decide +kernel
theorem dX3_copyFrom_17 : decode cX3_copyFrom 17 = .ok (.aload_n 1, 1) := by decide +kernel
theorem dX3_copyFrom_18 : decode cX3_copyFrom 18 = .ok (.getfield 18, 3) := by decide +kernel
theorem dX3_copyFrom_21 : decode cX3_copyFrom 21 = .ok (.putfield 18, 3) := by decide +kernel
theorem dX3_copyFrom_24 : decode cX3_copyFrom 24 = .ok (.aload_n 0, 1) := by decide +kernel
theorem dX3_copyFrom_25 : decode cX3_copyFrom 25 = .ok (.aload_n 1, 1) := by decide +kernel
theorem dX3_copyFrom_26 : decode cX3_copyFrom 26 = .ok (.getfield 21, 3) := by decide +kernel
theorem dX3_copyFrom_29 : decode cX3_copyFrom 29 = .ok (.putfield 21, 3) := by decide +kernel
theorem dX3_copyFrom_32 : decode cX3_copyFrom 32 = .ok (.aload_n 0, 1) := by decide +kernel
theorem dX3_copyFrom_33 : decode cX3_copyFrom 33 = .ok (.aload_n 1, 1) := by decide +kernel
theorem dX3_copyFrom_34 : decode cX3_copyFrom 34 = .ok (.getfield 25, 3) := by decide +kernel
theorem dX3_copyFrom_37 : decode cX3_copyFrom 37 = .ok (.putfield 25, 3) := by decide +kernel
theorem dX3_copyFrom_40 : decode cX3_copyFrom 40 = .ok (.aload_n 0, 1) := by decide +kernel
theorem dX3_copyFrom_41 : decode cX3_copyFrom 41 = .ok (.aload_n 1, 1) := by decide +kernel
theorem dX3_copyFrom_42 : decode cX3_copyFrom 42 = .ok (.getfield 28, 3) := by decide +kernel
theorem dX3_copyFrom_45 : decode cX3_copyFrom 45 = .ok (.putfield 28, 3) := by decide +kernel
theorem dX3_copyFrom_48 : decode cX3_copyFrom 48 = .ok (.aload_n 0, 1) := by decide +kernel
theorem dX3_copyFrom_49 : decode cX3_copyFrom 49 = .ok (.aload_n 1, 1) := by decide +kernel
theorem dX3_copyFrom_50 : decode cX3_copyFrom 50 = .ok (.getfield 31, 3) := by decide +kernel
theorem dX3_copyFrom_53 : decode cX3_copyFrom 53 = .ok (.putfield 31, 3) := by decide +kernel
theorem dX3_copyFrom_56 : decode cX3_copyFrom 56 = .ok (.aload_n 0, 1) := by decide +kernel
theorem dX3_copyFrom_57 : decode cX3_copyFrom 57 = .ok (.aload_n 1, 1) := by decide +kernel
theorem dX3_copyFrom_58 : decode cX3_copyFrom 58 = .ok (.getfield 34, 3) := by decide +kernel
theorem dX3_copyFrom_61 : decode cX3_copyFrom 61 = .ok (.putfield 34, 3) := by decide +kernel
theorem dX3_copyFrom_64 : decode cX3_copyFrom 64 = .ok (.return_, 1) := by decide +kernel
theorem dX3_kind_0 : decode cX3_kind 0 = .ok (.aload_n 0, 1) := by decide +kernel
theorem dX3_kind_1 : decode cX3_kind 1 = .ok (.getfield 9, 3) := by decide +kernel
theorem dX3_kind_4 : decode cX3_kind 4 = .ok (.iconst 3, 1) := by decide +kernel
theorem dX3_kind_5 : decode cX3_kind 5 = .ok (.if_icmp .gt 5, 3) := by decide +kernel
theorem dX3_kind_8 : decode cX3_kind 8 = .ok (.iconst 0, 1) := by decide +kernel
theorem dX3_kind_9 : decode cX3_kind 9 = .ok (.ireturn, 1) := by decide +kernel
theorem dX3_kind_10 : decode cX3_kind 10 = .ok (.aload_n 0, 1) := by decide +kernel
theorem dX3_kind_11 : decode cX3_kind 11 = .ok (.getfield 9, 3) := by decide +kernel
theorem dX3_kind_14 : decode cX3_kind 14 = .ok (.bipush 8, 2) := by decide +kernel
theorem dX3_kind_16 : decode cX3_kind 16 = .ok (.if_icmp .gt 7, 3) := by decide +kernel
theorem dX3_kind_19 : decode cX3_kind 19 = .ok (.iconst 1, 1) := by decide +kernel
theorem dX3_kind_20 : decode cX3_kind 20 = .ok (.goto 4, 3) := by decide +kernel
theorem dX3_kind_23 : decode cX3_kind 23 = .ok (.iconst 2, 1) := by decide +kernel
theorem dX3_kind_24 : decode cX3_kind 24 = .ok (.ireturn, 1) := by decide +kernel
theorem dX3_toll_0 : decode cX3_toll 0 = .ok (.aload_n 0, 1) := by decide +kernel
theorem dX3_toll_1 : decode cX3_toll 1 = .ok (.invokevirtual 37, 3) := by decide +kernel
theorem dX3_toll_4 : decode cX3_toll 4 = .ok (.iconst 2, 1) := by decide +kernel
theorem dX3_toll_5 : decode cX3_toll 5 = .ok (.if_icmp .ne 7, 3) := by decide +kernel
theorem dX3_toll_8 : decode cX3_toll 8 = .ok (.iconst 4, 1) := by decide +kernel
theorem dX3_toll_9 : decode cX3_toll 9 = .ok (.goto 4, 3) := by decide +kernel
theorem dX3_toll_12 : decode cX3_toll 12 = .ok (.iconst 2, 1) := by decide +kernel
theorem dX3_toll_13 : decode cX3_toll 13 = .ok (.istore_n 1, 1) := by decide +kernel
theorem dX3_toll_14 : decode cX3_toll 14 = .ok (.iload_n 1, 1) := by decide +kernel
theorem dX3_toll_15 : decode cX3_toll 15 = .ok (.aload_n 0, 1) := by decide +kernel
theorem dX3_toll_16 : decode cX3_toll 16 = .ok (.getfield 9, 3) := by decide +kernel
theorem dX3_toll_19 : decode cX3_toll 19 = .ok (.iconst 5, 1) := by decide +kernel
theorem dX3_toll_20 : decode cX3_toll 20 = .ok (.idiv, 1) := by decide +kernel
theorem dX3_toll_21 : decode cX3_toll 21 = .ok (.iadd, 1) := by decide +kernel
theorem dX3_toll_22 : decode cX3_toll 22 = .ok (.ireturn, 1) := by decide +kernel
theorem dX3_region_0 : decode cX3_region 0 = .ok (.aload_n 0, 1) := by decide +kernel
theorem dX3_region_1 : decode cX3_region 1 = .ok (.getfield 18, 3) := by decide +kernel
theorem dX3_region_4 : decode cX3_region 4 = .ok (.iconst (-1), 1) := by decide +kernel
theorem dX3_region_5 : decode cX3_region 5 = .ok (.if_icmp .ne 5, 3) := by decide +kernel
theorem dX3_region_8 : decode cX3_region 8 = .ok (.iconst 0, 1) := by decide +kernel
theorem dX3_region_9 : decode cX3_region 9 = .ok (.ireturn, 1) := by decide +kernel
theorem dX3_region_10 : decode cX3_region 10 = .ok (.aload_n 0, 1) := by decide +kernel
theorem dX3_region_11 : decode cX3_region 11 = .ok (.getfield 18, 3) := by decide +kernel
theorem dX3_region_14 : decode cX3_region 14 = .ok (.bipush 10, 2) := by decide +kernel
theorem dX3_region_16 : decode cX3_region 16 = .ok (.if_icmp .ne 7, 3) := by decide +kernel
theorem dX3_region_19 : decode cX3_region 19 = .ok (.iconst 2, 1) := by decide +kernel
theorem dX3_region_20 : decode cX3_region 20 = .ok (.goto 4, 3) := by decide +kernel
theorem dX3_region_23 : decode cX3_region 23 = .ok (.iconst 1, 1) := by decide +kernel
theorem dX3_region_24 : decode cX3_region 24 = .ok (.ireturn, 1) := by decide +kernel
theorem dX3_getWetter_0 : decode cX3_getWetter 0 = .ok (.aload_n 0, 1) := by decide +kernel
theorem dX3_getWetter_1 : decode cX3_getWetter 1 = .ok (.bipush 20, 2) := by decide +kernel
theorem dX3_getWetter_3 : decode cX3_getWetter 3 = .ok (.aload_n 0, 1) := by decide +kernel
theorem dX3_getWetter_4 : decode cX3_getWetter 4 = .ok (.getfield 15, 3) := by decide +kernel
theorem dX3_getWetter_7 : decode cX3_getWetter 7 = .ok (.iload_n 1, 1) := by decide +kernel
theorem dX3_getWetter_8 : decode cX3_getWetter 8 = .ok (.iadd, 1) := by decide +kernel
theorem dX3_getWetter_9 : decode cX3_getWetter 9 = .ok (.invokestatic 41, 3) := by decide +kernel
theorem dX3_getWetter_12 : decode cX3_getWetter 12 = .ok (.putfield 15, 3) := by decide +kernel
theorem dX3_getWetter_15 : decode cX3_getWetter 15 = .ok (.return_, 1) := by decide +kernel
theorem dX3_getDrier_0 : decode cX3_getDrier 0 = .ok (.aload_n 0, 1) := by decide +kernel
theorem dX3_getDrier_1 : decode cX3_getDrier 1 = .ok (.iconst 0, 1) := by decide +kernel
theorem dX3_getDrier_2 : decode cX3_getDrier 2 = .ok (.aload_n 0, 1) := by decide +kernel
theorem dX3_getDrier_3 : decode cX3_getDrier 3 = .ok (.getfield 15, 3) := by decide +kernel
theorem dX3_getDrier_6 : decode cX3_getDrier 6 = .ok (.iload_n 1, 1) := by decide +kernel
theorem dX3_getDrier_7 : decode cX3_getDrier 7 = .ok (.isub, 1) := by decide +kernel
theorem dX3_getDrier_8 : decode cX3_getDrier 8 = .ok (.invokestatic 47, 3) := by decide +kernel
theorem dX3_getDrier_11 : decode cX3_getDrier 11 = .ok (.putfield 15, 3) := by decide +kernel
theorem dX3_getDrier_14 : decode cX3_getDrier 14 = .ok (.return_, 1) := by decide +kernel
theorem dX3_restOnBank_0 : decode cX3_restOnBank 0 = .ok (.aload_n 0, 1) := by decide +kernel
theorem dX3_restOnBank_1 : decode cX3_restOnBank 1 = .ok (.iconst 0, 1) := by decide +kernel
theorem dX3_restOnBank_2 : decode cX3_restOnBank 2 = .ok (.putfield 21, 3) := by decide +kernel
theorem dX3_restOnBank_5 : decode cX3_restOnBank 5 = .ok (.aload_n 0, 1) := by decide +kernel
theorem dX3_restOnBank_6 : decode cX3_restOnBank 6 = .ok (.iconst 0, 1) := by decide +kernel
theorem dX3_restOnBank_7 : decode cX3_restOnBank 7 = .ok (.putfield 28, 3) := by decide +kernel
theorem dX3_restOnBank_10 : decode cX3_restOnBank 10 = .ok (.return_, 1) := by decide +kernel
theorem dX3_numberOf_0 : decode cX3_numberOf 0 = .ok (.iload_n 1, 1) := by decide +kernel
theorem dX3_numberOf_1 : decode cX3_numberOf 1 = .ok (.tableswitch 120 0 8 #[51, 56, 61, 66, 71, 84, 97, 110, 115], 51) := by decide +kernel
theorem dX3_numberOf_52 : decode cX3_numberOf 52 = .ok (.aload_n 0, 1) := by decide +kernel
theorem dX3_numberOf_53 : decode cX3_numberOf 53 = .ok (.invokevirtual 37, 3) := by decide +kernel
theorem dX3_numberOf_56 : decode cX3_numberOf 56 = .ok (.ireturn, 1) := by decide +kernel
theorem dX3_numberOf_57 : decode cX3_numberOf 57 = .ok (.aload_n 0, 1) := by decide +kernel
theorem dX3_numberOf_58 : decode cX3_numberOf 58 = .ok (.getfield 9, 3) := by decide +kernel
theorem dX3_numberOf_61 : decode cX3_numberOf 61 = .ok (.ireturn, 1) := by decide +kernel
theorem dX3_numberOf_62 : decode cX3_numberOf 62 = .ok (.aload_n 0, 1) := by decide +kernel
theorem dX3_numberOf_63 : decode cX3_numberOf 63 = .ok (.getfield 15, 3) := by decide +kernel
theorem dX3_numberOf_66 : decode cX3_numberOf 66 = .ok (.ireturn, 1) := by decide +kernel
theorem dX3_numberOf_67 : decode cX3_numberOf 67 = .ok (.aload_n 0, 1) := by decide +kernel
theorem dX3_numberOf_68 : decode cX3_numberOf 68 = .ok (.getfield 18, 3) := by decide +kernel
theorem dX3_numberOf_71 : decode cX3_numberOf 71 = .ok (.ireturn, 1) := by decide +kernel
theorem dX3_numberOf_72 : decode cX3_numberOf 72 = .ok (.aload_n 0, 1) := by decide +kernel
theorem dX3_numberOf_73 : decode cX3_numberOf 73 = .ok (.getfield 21, 3) := by decide +kernel
theorem dX3_numberOf_76 : decode cX3_numberOf 76 = .ok (.ifCond .eq 7, 3) := by decide +kernel
theorem dX3_numberOf_79 : decode cX3_numberOf 79 = .ok (.iconst 1, 1) := by decide +kernel
theorem dX3_numberOf_80 : decode cX3_numberOf 80 = .ok (.goto 4, 3) := by decide +kernel
theorem dX3_numberOf_83 : decode cX3_numberOf 83 = .ok (.iconst 0, 1) := by decide +kernel
theorem dX3_numberOf_84 : decode cX3_numberOf 84 = .ok (.ireturn, 1) := by decide +kernel
theorem dX3_numberOf_85 : decode cX3_numberOf 85 = .ok (.aload_n 0, 1) := by decide +kernel
theorem dX3_numberOf_86 : decode cX3_numberOf 86 = .ok (.getfield 25, 3) := by decide +kernel
theorem dX3_numberOf_89 : decode cX3_numberOf 89 = .ok (.ifCond .eq 7, 3) := by decide +kernel
theorem dX3_numberOf_92 : decode cX3_numberOf 92 = .ok (.iconst 1, 1) := by decide +kernel
theorem dX3_numberOf_93 : decode cX3_numberOf 93 = .ok (.goto 4, 3) := by decide +kernel
theorem dX3_numberOf_96 : decode cX3_numberOf 96 = .ok (.iconst 0, 1) := by decide +kernel
theorem dX3_numberOf_97 : decode cX3_numberOf 97 = .ok (.ireturn, 1) := by decide +kernel
theorem dX3_numberOf_98 : decode cX3_numberOf 98 = .ok (.aload_n 0, 1) := by decide +kernel
theorem dX3_numberOf_99 : decode cX3_numberOf 99 = .ok (.getfield 28, 3) := by decide +kernel
theorem dX3_numberOf_102 : decode cX3_numberOf 102 = .ok (.ifCond .eq 7, 3) := by decide +kernel
theorem dX3_numberOf_105 : decode cX3_numberOf 105 = .ok (.iconst 1, 1) := by decide +kernel
theorem dX3_numberOf_106 : decode cX3_numberOf 106 = .ok (.goto 4, 3) := by decide +kernel
theorem dX3_numberOf_109 : decode cX3_numberOf 109 = .ok (.iconst 0, 1) := by decide +kernel
theorem dX3_numberOf_110 : decode cX3_numberOf 110 = .ok (.ireturn, 1) := by decide +kernel
theorem dX3_numberOf_111 : decode cX3_numberOf 111 = .ok (.aload_n 0, 1) := by decide +kernel
theorem dX3_numberOf_112 : decode cX3_numberOf 112 = .ok (.getfield 31, 3) := by decide +kernel
theorem dX3_numberOf_115 : decode cX3_numberOf 115 = .ok (.ireturn, 1) := by decide +kernel
theorem dX3_numberOf_116 : decode cX3_numberOf 116 = .ok (.aload_n 0, 1) := by decide +kernel
theorem dX3_numberOf_117 : decode cX3_numberOf 117 = .ok (.getfield 34, 3) := by decide +kernel
theorem dX3_numberOf_120 : decode cX3_numberOf 120 = .ok (.ireturn, 1) := by decide +kernel
theorem dX3_numberOf_121 : decode cX3_numberOf 121 = .ok (.aload_n 0, 1) := by decide +kernel
theorem dX3_numberOf_122 : decode cX3_numberOf 122 = .ok (.invokevirtual 50, 3) := by decide +kernel
theorem dX3_numberOf_125 : decode cX3_numberOf 125 = .ok (.ireturn, 1) := by decide +kernel
theorem dX5_init_0 : decode cX5_init 0 = .ok (.aload_n 0, 1) := by decide +kernel
theorem dX5_init_1 : decode cX5_init 1 = .ok (.invokespecial 3, 3) := by decide +kernel
theorem dX5_init_4 : decode cX5_init 4 = .ok (.aload_n 0, 1) := by decide +kernel
theorem dX5_init_5 : decode cX5_init 5 = .ok (.new 9, 3) := by decide +kernel
theorem dX5_init_8 : decode cX5_init 8 = .ok (.dup, 1) := by decide +kernel
theorem dX5_init_9 : decode cX5_init 9 = .ok (.invokespecial 11, 3) := by decide +kernel
theorem dX5_init_12 : decode cX5_init 12 = .ok (.putfield 12, 3) := by decide +kernel
theorem dX5_init_15 : decode cX5_init 15 = .ok (.aload_n 0, 1) := by decide +kernel
theorem dX5_init_16 : decode cX5_init 16 = .ok (.new 16, 3) := by decide +kernel
theorem dX5_init_19 : decode cX5_init 19 = .ok (.dup, 1) := by decide +kernel
theorem dX5_init_20 : decode cX5_init 20 = .ok (.invokespecial 18, 3) := by decide +kernel
theorem dX5_init_23 : decode cX5_init 23 = .ok (.putfield 19, 3) := by decide +kernel
theorem dX5_init_26 : decode cX5_init 26 = .ok (.aload_n 0, 1) := by decide +kernel
theorem dX5_init_27 : decode cX5_init 27 = .ok (.new 9, 3) := by decide +kernel
theorem dX5_init_30 : decode cX5_init 30 = .ok (.dup, 1) := by decide +kernel
theorem dX5_init_31 : decode cX5_init 31 = .ok (.invokespecial 11, 3) := by decide +kernel
theorem dX5_init_34 : decode cX5_init 34 = .ok (.putfield 23, 3) := by decide +kernel
theorem dX5_init_37 : decode cX5_init 37 = .ok (.aload_n 0, 1) := by decide +kernel
theorem dX5_init_38 : decode cX5_init 38 = .ok (.iconst 0, 1) := by decide +kernel
theorem dX5_init_39 : decode cX5_init 39 = .ok (.putfield 26, 3) := by decide +kernel
theorem dX5_init_42 : decode cX5_init 42 = .ok (.aload_n 0, 1) := by decide +kernel
theorem dX5_init_43 : decode cX5_init 43 = .ok (.new 30, 3) := by decide +kernel
theorem dX5_init_46 : decode cX5_init 46 = .ok (.dup, 1) := by decide +kernel
theorem dX5_init_47 : decode cX5_init 47 = .ok (.invokespecial 32, 3) := by decide +kernel
theorem dX5_init_50 : decode cX5_init 50 = .ok (.putfield 33, 3) := by decide +kernel
theorem dX5_init_53 : decode cX5_init 53 = .ok (.aload_n 0, 1) := by decide +kernel
theorem dX5_init_54 : decode cX5_init 54 = .ok (.iconst (-1), 1) := by decide +kernel
theorem dX5_init_55 : decode cX5_init 55 = .ok (.putfield 37, 3) := by decide +kernel
theorem dX5_init_58 : decode cX5_init 58 = .ok (.aload_n 0, 1) := by decide +kernel
theorem dX5_init_59 : decode cX5_init 59 = .ok (.bipush 8, 2) := by decide +kernel
theorem dX5_init_61 : decode cX5_init 61 = .ok (.newarray .int, 2) := by decide +kernel
theorem dX5_init_63 : decode cX5_init 63 = .ok (.putfield 41, 3) := by decide +kernel
theorem dX5_init_66 : decode cX5_init 66 = .ok (.aload_n 0, 1) := by decide +kernel
theorem dX5_init_67 : decode cX5_init 67 = .ok (.iconst 0, 1) := by decide +kernel
theorem dX5_init_68 : decode cX5_init 68 = .ok (.putfield 45, 3) := by decide +kernel
theorem dX5_init_71 : decode cX5_init 71 = .ok (.aload_n 0, 1) := by decide +kernel
theorem dX5_init_72 : decode cX5_init 72 = .ok (.iconst 0, 1) := by decide +kernel
theorem dX5_init_73 : decode cX5_init 73 = .ok (.putfield 48, 3) := by decide +kernel
theorem dX5_init_76 : decode cX5_init 76 = .ok (.aload_n 0, 1) := by decide +kernel
theorem dX5_init_77 : decode cX5_init 77 = .ok (.iconst 0, 1) := by decide +kernel
theorem dX5_init_78 : decode cX5_init 78 = .ok (.putfield 51, 3) := by decide +kernel
theorem dX5_init_81 : decode cX5_init 81 = .ok (.aload_n 0, 1) := by decide +kernel
theorem dX5_init_82 : decode cX5_init 82 = .ok (.bipush 13, 2) := by decide +kernel
theorem dX5_init_84 : decode cX5_init 84 = .ok (.newarray .char, 2) := by decide +kernel
theorem dX5_init_86 : decode cX5_init 86 = .ok (.putfield 54, 3) := by decide +kernel
theorem dX5_init_89 : decode cX5_init 89 = .ok (.aload_n 0, 1) := by decide +kernel
theorem dX5_init_90 : decode cX5_init 90 = .ok (.iconst 0, 1) := by decide +kernel
theorem dX5_init_91 : decode cX5_init 91 = .ok (.putfield 58, 3) := by decide +kernel
theorem dX5_init_94 : decode cX5_init 94 = .ok (.return_, 1) := by decide +kernel
theorem dX5_height_0 : decode cX5_height 0 = .ok (.iload_n 1, 1) := by decide +kernel
theorem dX5_height_1 : decode cX5_height 1 = .ok (.invokestatic 61, 3) := by decide +kernel
theorem dX5_height_4 : decode cX5_height 4 = .ok (.iload_n 2, 1) := by decide +kernel
theorem dX5_height_5 : decode cX5_height 5 = .ok (.iconst 1, 1) := by decide +kernel
theorem dX5_height_6 : decode cX5_height 6 = .ok (.bipush 30, 2) := by decide +kernel
theorem dX5_height_8 : decode cX5_height 8 = .ok (.invokestatic 65, 3) := by decide +kernel
theorem dX5_height_11 : decode cX5_height 11 = .ok (.aload_n 0, 1) := by decide +kernel
theorem dX5_height_12 : decode cX5_height 12 = .ok (.getfield 12, 3) := by decide +kernel
theorem dX5_height_15 : decode cX5_height 15 = .ok (.iload_n 1, 1) := by decide +kernel
theorem dX5_height_16 : decode cX5_height 16 = .ok (.invokevirtual 69, 3) := by decide +kernel
theorem dX5_height_19 : decode cX5_height 19 = .ok (.istore_n 3, 1) := by decide +kernel
theorem dX5_height_20 : decode cX5_height 20 = .ok (.iload_n 3, 1) := by decide +kernel
theorem dX5_height_21 : decode cX5_height 21 = .ok (.iconst (-1), 1) := by decide +kernel
theorem dX5_height_22 : decode cX5_height 22 = .ok (.if_icmp .eq 10, 3) := by decide +kernel
theorem dX5_height_25 : decode cX5_height 25 = .ok (.aload_n 0, 1) := by decide +kernel
theorem dX5_height_26 : decode cX5_height 26 = .ok (.bipush 6, 2) := by decide +kernel
theorem dX5_height_28 : decode cX5_height 28 = .ok (.iload_n 3, 1) := by decide +kernel
theorem dX5_height_29 : decode cX5_height 29 = .ok (.invokevirtual 73, 3) := by decide +kernel
theorem dX5_height_32 : decode cX5_height 32 = .ok (.aload_n 0, 1) := by decide +kernel
theorem dX5_height_33 : decode cX5_height 33 = .ok (.getfield 19, 3) := by decide +kernel
theorem dX5_height_36 : decode cX5_height 36 = .ok (.aload_n 0, 1) := by decide +kernel
theorem dX5_height_37 : decode cX5_height 37 = .ok (.getfield 12, 3) := by decide +kernel
theorem dX5_height_40 : decode cX5_height 40 = .ok (.invokevirtual 77, 3) := by decide +kernel
theorem dX5_height_43 : decode cX5_height 43 = .ok (.aload_n 0, 1) := by decide +kernel
theorem dX5_height_44 : decode cX5_height 44 = .ok (.getfield 12, 3) := by decide +kernel
theorem dX5_height_47 : decode cX5_height 47 = .ok (.getfield 81, 3) := by decide +kernel
theorem dX5_height_50 : decode cX5_height 50 = .ok (.iload_n 1, 1) := by decide +kernel
theorem dX5_height_51 : decode cX5_height 51 = .ok (.iaload, 1) := by decide +kernel
theorem dX5_height_52 : decode cX5_height 52 = .ok (.istore 4, 2) := by decide +kernel
theorem dX5_height_54 : decode cX5_height 54 = .ok (.aload_n 0, 1) := by decide +kernel
theorem dX5_height_55 : decode cX5_height 55 = .ok (.getfield 12, 3) := by decide +kernel
theorem dX5_height_58 : decode cX5_height 58 = .ok (.getfield 81, 3) := by decide +kernel
theorem dX5_height_61 : decode cX5_height 61 = .ok (.iload_n 1, 1) := by decide +kernel
theorem dX5_height_62 : decode cX5_height 62 = .ok (.iload_n 2, 1) := by decide +kernel
theorem dX5_height_63 : decode cX5_height 63 = .ok (.iastore, 1) := by decide +kernel
theorem dX5_height_64 : decode cX5_height 64 = .ok (.iload 4, 2) := by decide +kernel
theorem dX5_height_66 : decode cX5_height 66 = .ok (.ireturn, 1) := by decide +kernel
theorem dX5_rain_0 : decode cX5_rain 0 = .ok (.iload_n 1, 1) := by decide +kernel
theorem dX5_rain_1 : decode cX5_rain 1 = .ok (.iconst 0, 1) := by decide +kernel
theorem dX5_rain_2 : decode cX5_rain 2 = .ok (.bipush 9, 2) := by decide +kernel
theorem dX5_rain_4 : decode cX5_rain 4 = .ok (.invokestatic 65, 3) := by decide +kernel
theorem dX5_rain_7 : decode cX5_rain 7 = .ok (.aload_n 0, 1) := by decide +kernel
theorem dX5_rain_8 : decode cX5_rain 8 = .ok (.getfield 19, 3) := by decide +kernel
theorem dX5_rain_11 : decode cX5_rain 11 = .ok (.aload_n 0, 1) := by decide +kernel
theorem dX5_rain_12 : decode cX5_rain 12 = .ok (.getfield 12, 3) := by decide +kernel
theorem dX5_rain_15 : decode cX5_rain 15 = .ok (.invokevirtual 77, 3) := by decide +kernel
theorem dX5_rain_18 : decode cX5_rain 18 = .ok (.aload_n 0, 1) := by decide +kernel
theorem dX5_rain_19 : decode cX5_rain 19 = .ok (.getfield 12, 3) := by decide +kernel
theorem dX5_rain_22 : decode cX5_rain 22 = .ok (.getfield 84, 3) := by decide +kernel
theorem dX5_rain_25 : decode cX5_rain 25 = .ok (.istore_n 2, 1) := by decide +kernel
theorem dX5_rain_26 : decode cX5_rain 26 = .ok (.aload_n 0, 1) := by decide +kernel
theorem dX5_rain_27 : decode cX5_rain 27 = .ok (.getfield 12, 3) := by decide +kernel
theorem dX5_rain_30 : decode cX5_rain 30 = .ok (.iload_n 1, 1) := by decide +kernel
theorem dX5_rain_31 : decode cX5_rain 31 = .ok (.putfield 84, 3) := by decide +kernel
theorem dX5_rain_34 : decode cX5_rain 34 = .ok (.iload_n 2, 1) := by decide +kernel
theorem dX5_rain_35 : decode cX5_rain 35 = .ok (.ireturn, 1) := by decide +kernel
theorem dX5_letters_0 : decode cX5_letters 0 = .ok (.iload_n 1, 1) := by decide +kernel
theorem dX5_letters_1 : decode cX5_letters 1 = .ok (.iconst 1, 1) := by decide +kernel
theorem dX5_letters_2 : decode cX5_letters 2 = .ok (.bipush 50, 2) := by decide +kernel
theorem dX5_letters_4 : decode cX5_letters 4 = .ok (.invokestatic 65, 3) := by decide +kernel
theorem dX5_letters_7 : decode cX5_letters 7 = .ok (.aload_n 0, 1) := by decide +kernel
theorem dX5_letters_8 : decode cX5_letters 8 = .ok (.getfield 12, 3) := by decide +kernel
theorem dX5_letters_11 : decode cX5_letters 11 = .ok (.getfield 87, 3) := by decide +kernel
theorem dX5_letters_14 : decode cX5_letters 14 = .ok (.iload_n 1, 1) := by decide +kernel
theorem dX5_letters_15 : decode cX5_letters 15 = .ok (.iadd, 1) := by decide +kernel
theorem dX5_letters_16 : decode cX5_letters 16 = .ok (.bipush 99, 2) := by decide +kernel
theorem dX5_letters_18 : decode cX5_letters 18 = .ok (.if_icmp .le 15, 3) := by decide +kernel
theorem dX5_letters_21 : decode cX5_letters 21 = .ok (.aload_n 0, 1) := by decide +kernel
theorem dX5_letters_22 : decode cX5_letters 22 = .ok (.iconst 5, 1) := by decide +kernel
theorem dX5_letters_23 : decode cX5_letters 23 = .ok (.aload_n 0, 1) := by decide +kernel
theorem dX5_letters_24 : decode cX5_letters 24 = .ok (.getfield 12, 3) := by decide +kernel
theorem dX5_letters_27 : decode cX5_letters 27 = .ok (.getfield 87, 3) := by decide +kernel
theorem dX5_letters_30 : decode cX5_letters 30 = .ok (.invokevirtual 73, 3) := by decide +kernel
theorem dX5_letters_33 : decode cX5_letters 33 = .ok (.aload_n 0, 1) := by decide +kernel
theorem dX5_letters_34 : decode cX5_letters 34 = .ok (.getfield 19, 3) := by decide +kernel
theorem dX5_letters_37 : decode cX5_letters 37 = .ok (.aload_n 0, 1) := by decide +kernel
theorem dX5_letters_38 : decode cX5_letters 38 = .ok (.getfield 12, 3) := by decide +kernel
theorem dX5_letters_41 : decode cX5_letters 41 = .ok (.invokevirtual 77, 3) := by decide +kernel
theorem dX5_letters_44 : decode cX5_letters 44 = .ok (.aload_n 0, 1) := by decide +kernel
theorem dX5_letters_45 : decode cX5_letters 45 = .ok (.getfield 12, 3) := by decide +kernel
theorem dX5_letters_48 : decode cX5_letters 48 = .ok (.dup, 1) := by decide +kernel
theorem dX5_letters_49 : decode cX5_letters 49 = .ok (.getfield 87, 3) := by decide +kernel
theorem dX5_letters_52 : decode cX5_letters 52 = .ok (.iload_n 1, 1) := by decide +kernel
theorem dX5_letters_53 : decode cX5_letters 53 = .ok (.iadd, 1) := by decide +kernel
theorem dX5_letters_54 : decode cX5_letters 54 = .ok (.putfield 87, 3) := by decide +kernel
theorem dX5_letters_57 : decode cX5_letters 57 = .ok (.aload_n 0, 1) := by decide +kernel
theorem dX5_letters_58 : decode cX5_letters 58 = .ok (.getfield 12, 3) := by decide +kernel
theorem dX5_letters_61 : decode cX5_letters 61 = .ok (.dup, 1) := by decide +kernel
theorem dX5_letters_62 : decode cX5_letters 62 = .ok (.getfield 90, 3) := by decide +kernel
theorem dX5_letters_65 : decode cX5_letters 65 = .ok (.iload_n 1, 1) := by decide +kernel
theorem dX5_letters_66 : decode cX5_letters 66 = .ok (.iadd, 1) := by decide +kernel
theorem dX5_letters_67 : decode cX5_letters 67 = .ok (.putfield 90, 3) := by decide +kernel
theorem dX5_letters_70 : decode cX5_letters 70 = .ok (.aload_n 0, 1) := by decide +kernel
theorem dX5_letters_71 : decode cX5_letters 71 = .ok (.getfield 12, 3) := by decide +kernel
theorem dX5_letters_74 : decode cX5_letters 74 = .ok (.getfield 87, 3) := by decide +kernel
theorem dX5_letters_77 : decode cX5_letters 77 = .ok (.ireturn, 1) := by decide +kernel
theorem dX5_stoneOf_0 : decode cX5_stoneOf 0 = .ok (.iload_n 1, 1) := by decide +kernel
theorem dX5_stoneOf_1 : decode cX5_stoneOf 1 = .ok (.invokestatic 61, 3) := by decide +kernel
theorem dX5_stoneOf_4 : decode cX5_stoneOf 4 = .ok (.iload_n 2, 1) := by decide +kernel
theorem dX5_stoneOf_5 : decode cX5_stoneOf 5 = .ok (.iconst 0, 1) := by decide +kernel
theorem dX5_stoneOf_6 : decode cX5_stoneOf 6 = .ok (.iconst 2, 1) := by decide +kernel
theorem dX5_stoneOf_7 : decode cX5_stoneOf 7 = .ok (.invokestatic 65, 3) := by decide +kernel
theorem dX5_stoneOf_10 : decode cX5_stoneOf 10 = .ok (.iload_n 2, 1) := by decide +kernel
theorem dX5_stoneOf_11 : decode cX5_stoneOf 11 = .ok (.ifCond .ne 13, 3) := by decide +kernel
theorem dX5_stoneOf_14 : decode cX5_stoneOf 14 = .ok (.aload_n 0, 1) := by decide +kernel
theorem dX5_stoneOf_15 : decode cX5_stoneOf 15 = .ok (.getfield 12, 3) := by decide +kernel
theorem dX5_stoneOf_18 : decode cX5_stoneOf 18 = .ok (.getfield 81, 3) := by decide +kernel
theorem dX5_stoneOf_21 : decode cX5_stoneOf 21 = .ok (.iload_n 1, 1) := by decide +kernel
theorem dX5_stoneOf_22 : decode cX5_stoneOf 22 = .ok (.iaload, 1) := by decide +kernel
theorem dX5_stoneOf_23 : decode cX5_stoneOf 23 = .ok (.ireturn, 1) := by decide +kernel
theorem dX5_stoneOf_24 : decode cX5_stoneOf 24 = .ok (.iload_n 2, 1) := by decide +kernel
theorem dX5_stoneOf_25 : decode cX5_stoneOf 25 = .ok (.iconst 1, 1) := by decide +kernel
theorem dX5_stoneOf_26 : decode cX5_stoneOf 26 = .ok (.if_icmp .ne 21, 3) := by decide +kernel
theorem dX5_stoneOf_29 : decode cX5_stoneOf 29 = .ok (.aload_n 0, 1) := by decide +kernel
theorem dX5_stoneOf_30 : decode cX5_stoneOf 30 = .ok (.getfield 12, 3) := by decide +kernel
theorem dX5_stoneOf_33 : decode cX5_stoneOf 33 = .ok (.iload_n 1, 1) := by decide +kernel
theorem dX5_stoneOf_34 : decode cX5_stoneOf 34 = .ok (.aload_n 0, 1) := by decide +kernel
theorem dX5_stoneOf_35 : decode cX5_stoneOf 35 = .ok (.getfield 12, 3) := by decide +kernel
theorem dX5_stoneOf_38 : decode cX5_stoneOf 38 = .ok (.getfield 93, 3) := by decide +kernel
theorem dX5_stoneOf_41 : decode cX5_stoneOf 41 = .ok (.invokevirtual 96, 3) := by decide +kernel
theorem dX5_stoneOf_44 : decode cX5_stoneOf 44 = .ok (.goto 11, 3) := by decide +kernel
theorem dX5_stoneOf_47 : decode cX5_stoneOf 47 = .ok (.aload_n 0, 1) := by decide +kernel
theorem dX5_stoneOf_48 : decode cX5_stoneOf 48 = .ok (.getfield 12, 3) := by decide +kernel
theorem dX5_stoneOf_51 : decode cX5_stoneOf 51 = .ok (.iload_n 1, 1) := by decide +kernel
theorem dX5_stoneOf_52 : decode cX5_stoneOf 52 = .ok (.invokevirtual 100, 3) := by decide +kernel
theorem dX5_stoneOf_55 : decode cX5_stoneOf 55 = .ok (.ireturn, 1) := by decide +kernel
theorem dX5_under_0 : decode cX5_under 0 = .ok (.iconst 0, 1) := by decide +kernel
theorem dX5_under_1 : decode cX5_under 1 = .ok (.istore_n 1, 1) := by decide +kernel
theorem dX5_under_2 : decode cX5_under 2 = .ok (.iconst 0, 1) := by decide +kernel
theorem dX5_under_3 : decode cX5_under 3 = .ok (.istore_n 2, 1) := by decide +kernel
theorem dX5_under_4 : decode cX5_under 4 = .ok (.iload_n 2, 1) := by decide +kernel
theorem dX5_under_5 : decode cX5_under 5 = .ok (.bipush 10, 2) := by decide +kernel
theorem dX5_under_7 : decode cX5_under 7 = .ok (.if_icmp .ge 34, 3) := by decide +kernel
theorem dX5_under_10 : decode cX5_under 10 = .ok (.aload_n 0, 1) := by decide +kernel
theorem dX5_under_11 : decode cX5_under 11 = .ok (.getfield 12, 3) := by decide +kernel
theorem dX5_under_14 : decode cX5_under 14 = .ok (.iload_n 2, 1) := by decide +kernel
theorem dX5_under_15 : decode cX5_under 15 = .ok (.aload_n 0, 1) := by decide +kernel
theorem dX5_under_16 : decode cX5_under 16 = .ok (.getfield 12, 3) := by decide +kernel
theorem dX5_under_19 : decode cX5_under 19 = .ok (.getfield 93, 3) := by decide +kernel
theorem dX5_under_22 : decode cX5_under 22 = .ok (.invokevirtual 96, 3) := by decide +kernel
theorem dX5_under_25 : decode cX5_under 25 = .ok (.iconst 2, 1) := by decide +kernel
theorem dX5_under_26 : decode cX5_under 26 = .ok (.if_icmp .ne 9, 3) := by decide +kernel
theorem dX5_under_29 : decode cX5_under 29 = .ok (.iload_n 1, 1) := by decide +kernel
theorem dX5_under_30 : decode cX5_under 30 = .ok (.iconst 1, 1) := by decide +kernel
theorem dX5_under_31 : decode cX5_under 31 = .ok (.iload_n 2, 1) := by decide +kernel
theorem dX5_under_32 : decode cX5_under 32 = .ok (.ishl, 1) := by decide +kernel
theorem dX5_under_33 : decode cX5_under 33 = .ok (.ior, 1) := by decide +kernel
theorem dX5_under_34 : decode cX5_under 34 = .ok (.istore_n 1, 1) := by decide +kernel
theorem dX5_under_35 : decode cX5_under 35 = .ok (.iinc 2 1, 3) := by decide +kernel
theorem dX5_under_38 : decode cX5_under 38 = .ok (.goto (-34), 3) := by decide +kernel
theorem dX5_under_41 : decode cX5_under 41 = .ok (.iload_n 1, 1) := by decide +kernel
theorem dX5_under_42 : decode cX5_under 42 = .ok (.ireturn, 1) := by decide +kernel
theorem dX5_flood_0 : decode cX5_flood 0 = .ok (.iload_n 1, 1) := by decide +kernel
theorem dX5_flood_1 : decode cX5_flood 1 = .ok (.iconst 0, 1) := by decide +kernel
theorem dX5_flood_2 : decode cX5_flood 2 = .ok (.bipush 60, 2) := by decide +kernel
theorem dX5_flood_4 : decode cX5_flood 4 = .ok (.invokestatic 65, 3) := by decide +kernel
theorem dX5_flood_7 : decode cX5_flood 7 = .ok (.aload_n 0, 1) := by decide +kernel
theorem dX5_flood_8 : decode cX5_flood 8 = .ok (.getfield 12, 3) := by decide +kernel
theorem dX5_flood_11 : decode cX5_flood 11 = .ok (.getfield 93, 3) := by decide +kernel
theorem dX5_flood_14 : decode cX5_flood 14 = .ok (.istore_n 2, 1) := by decide +kernel
theorem dX5_flood_15 : decode cX5_flood 15 = .ok (.iconst 0, 1) := by decide +kernel
theorem dX5_flood_16 : decode cX5_flood 16 = .ok (.istore_n 3, 1) := by decide +kernel
theorem dX5_flood_17 : decode cX5_flood 17 = .ok (.iload_n 3, 1) := by decide +kernel
theorem dX5_flood_18 : decode cX5_flood 18 = .ok (.iload_n 1, 1) := by decide +kernel
theorem dX5_flood_19 : decode cX5_flood 19 = .ok (.if_icmp .ge 18, 3) := by decide +kernel
theorem dX5_flood_22 : decode cX5_flood 22 = .ok (.aload_n 0, 1) := by decide +kernel
theorem dX5_flood_23 : decode cX5_flood 23 = .ok (.getfield 12, 3) := by decide +kernel
theorem dX5_flood_26 : decode cX5_flood 26 = .ok (.iload_n 2, 1) := by decide +kernel
theorem dX5_flood_27 : decode cX5_flood 27 = .ok (.invokevirtual 103, 3) := by decide +kernel
theorem dX5_flood_30 : decode cX5_flood 30 = .ok (.istore_n 2, 1) := by decide +kernel
theorem dX5_flood_31 : decode cX5_flood 31 = .ok (.iinc 3 1, 3) := by decide +kernel
theorem dX5_flood_34 : decode cX5_flood 34 = .ok (.goto (-17), 3) := by decide +kernel
theorem dX5_flood_37 : decode cX5_flood 37 = .ok (.iload_n 2, 1) := by decide +kernel
theorem dX5_flood_38 : decode cX5_flood 38 = .ok (.ireturn, 1) := by decide +kernel
theorem dX5_floodAgain_0 : decode cX5_floodAgain 0 = .ok (.iload_n 1, 1) := by decide +kernel
theorem dX5_floodAgain_1 : decode cX5_floodAgain 1 = .ok (.iconst 0, 1) := by decide +kernel
theorem dX5_floodAgain_2 : decode cX5_floodAgain 2 = .ok (.bipush 60, 2) := by decide +kernel
theorem dX5_floodAgain_4 : decode cX5_floodAgain 4 = .ok (.invokestatic 65, 3) := by decide +kernel
theorem dX5_floodAgain_7 : decode cX5_floodAgain 7 = .ok (.aload_n 0, 1) := by decide +kernel
theorem dX5_floodAgain_8 : decode cX5_floodAgain 8 = .ok (.getfield 12, 3) := by decide +kernel
theorem dX5_floodAgain_11 : decode cX5_floodAgain 11 = .ok (.iload_n 1, 1) := by decide +kernel
theorem dX5_floodAgain_12 : decode cX5_floodAgain 12 = .ok (.invokevirtual 106, 3) := by decide +kernel
theorem dX5_floodAgain_15 : decode cX5_floodAgain 15 = .ok (.ireturn, 1) := by decide +kernel
theorem dX5_clearIn_0 : decode cX5_clearIn 0 = .ok (.aload_n 0, 1) := by decide +kernel
theorem dX5_clearIn_1 : decode cX5_clearIn 1 = .ok (.getfield 12, 3) := by decide +kernel
theorem dX5_clearIn_4 : decode cX5_clearIn 4 = .ok (.invokevirtual 109, 3) := by decide +kernel
theorem dX5_clearIn_7 : decode cX5_clearIn 7 = .ok (.istore_n 1, 1) := by decide +kernel
theorem dX5_clearIn_8 : decode cX5_clearIn 8 = .ok (.aload_n 0, 1) := by decide +kernel
theorem dX5_clearIn_9 : decode cX5_clearIn 9 = .ok (.getfield 12, 3) := by decide +kernel
theorem dX5_clearIn_12 : decode cX5_clearIn 12 = .ok (.getfield 93, 3) := by decide +kernel
theorem dX5_clearIn_15 : decode cX5_clearIn 15 = .ok (.istore_n 2, 1) := by decide +kernel
theorem dX5_clearIn_16 : decode cX5_clearIn 16 = .ok (.iconst 0, 1) := by decide +kernel
theorem dX5_clearIn_17 : decode cX5_clearIn 17 = .ok (.istore_n 3, 1) := by decide +kernel
theorem dX5_clearIn_18 : decode cX5_clearIn 18 = .ok (.iload_n 3, 1) := by decide +kernel
theorem dX5_clearIn_19 : decode cX5_clearIn 19 = .ok (.bipush 60, 2) := by decide +kernel
theorem dX5_clearIn_21 : decode cX5_clearIn 21 = .ok (.if_icmp .gt 25, 3) := by decide +kernel
theorem dX5_clearIn_24 : decode cX5_clearIn 24 = .ok (.iload_n 2, 1) := by decide +kernel
theorem dX5_clearIn_25 : decode cX5_clearIn 25 = .ok (.iload_n 1, 1) := by decide +kernel
theorem dX5_clearIn_26 : decode cX5_clearIn 26 = .ok (.if_icmp .gt 5, 3) := by decide +kernel
theorem dX5_clearIn_29 : decode cX5_clearIn 29 = .ok (.iload_n 3, 1) := by decide +kernel
theorem dX5_clearIn_30 : decode cX5_clearIn 30 = .ok (.ireturn, 1) := by decide +kernel
theorem dX5_clearIn_31 : decode cX5_clearIn 31 = .ok (.aload_n 0, 1) := by decide +kernel
theorem dX5_clearIn_32 : decode cX5_clearIn 32 = .ok (.getfield 12, 3) := by decide +kernel
theorem dX5_clearIn_35 : decode cX5_clearIn 35 = .ok (.iload_n 2, 1) := by decide +kernel
theorem dX5_clearIn_36 : decode cX5_clearIn 36 = .ok (.invokevirtual 103, 3) := by decide +kernel
theorem dX5_clearIn_39 : decode cX5_clearIn 39 = .ok (.istore_n 2, 1) := by decide +kernel
theorem dX5_clearIn_40 : decode cX5_clearIn 40 = .ok (.iinc 3 1, 3) := by decide +kernel
theorem dX5_clearIn_43 : decode cX5_clearIn 43 = .ok (.goto (-25), 3) := by decide +kernel
theorem dX5_clearIn_46 : decode cX5_clearIn 46 = .ok (.new 113, 3) := by decide +kernel
theorem dX5_clearIn_49 : decode cX5_clearIn 49 = .ok (.dup, 1) := by decide +kernel
theorem dX5_clearIn_50 : decode cX5_clearIn 50 = .ok (.ldc 115, 2) := by decide +kernel
theorem dX5_clearIn_52 : decode cX5_clearIn 52 = .ok (.invokespecial 117, 3) := by decide +kernel
theorem dX5_clearIn_55 : decode cX5_clearIn 55 = .ok (.athrow, 1) := by decide +kernel
theorem dX5_traveller_0 : decode cX5_traveller 0 = .ok (.iload_n 1, 1) := by decide +kernel
theorem dX5_traveller_1 : decode cX5_traveller 1 = .ok (.iconst 0, 1) := by decide +kernel
theorem dX5_traveller_2 : decode cX5_traveller 2 = .ok (.bipush 20, 2) := by decide +kernel
theorem dX5_traveller_4 : decode cX5_traveller 4 = .ok (.invokestatic 65, 3) := by decide +kernel
theorem dX5_traveller_7 : decode cX5_traveller 7 = .ok (.aload_n 0, 1) := by decide +kernel
theorem dX5_traveller_8 : decode cX5_traveller 8 = .ok (.getfield 12, 3) := by decide +kernel
theorem dX5_traveller_11 : decode cX5_traveller 11 = .ok (.getfield 120, 3) := by decide +kernel
theorem dX5_traveller_14 : decode cX5_traveller 14 = .ok (.bipush 8, 2) := by decide +kernel
theorem dX5_traveller_16 : decode cX5_traveller 16 = .ok (.if_icmp .lt 15, 3) := by decide +kernel
theorem dX5_traveller_19 : decode cX5_traveller 19 = .ok (.aload_n 0, 1) := by decide +kernel
theorem dX5_traveller_20 : decode cX5_traveller 20 = .ok (.iconst 1, 1) := by decide +kernel
theorem dX5_traveller_21 : decode cX5_traveller 21 = .ok (.aload_n 0, 1) := by decide +kernel
theorem dX5_traveller_22 : decode cX5_traveller 22 = .ok (.getfield 12, 3) := by decide +kernel
theorem dX5_traveller_25 : decode cX5_traveller 25 = .ok (.getfield 120, 3) := by decide +kernel
theorem dX5_traveller_28 : decode cX5_traveller 28 = .ok (.invokevirtual 73, 3) := by decide +kernel
theorem dX5_traveller_31 : decode cX5_traveller 31 = .ok (.aload_n 0, 1) := by decide +kernel
theorem dX5_traveller_32 : decode cX5_traveller 32 = .ok (.getfield 19, 3) := by decide +kernel
theorem dX5_traveller_35 : decode cX5_traveller 35 = .ok (.aload_n 0, 1) := by decide +kernel
theorem dX5_traveller_36 : decode cX5_traveller 36 = .ok (.getfield 12, 3) := by decide +kernel
theorem dX5_traveller_39 : decode cX5_traveller 39 = .ok (.invokevirtual 77, 3) := by decide +kernel
theorem dX5_traveller_42 : decode cX5_traveller 42 = .ok (.aload_n 0, 1) := by decide +kernel
theorem dX5_traveller_43 : decode cX5_traveller 43 = .ok (.getfield 12, 3) := by decide +kernel
theorem dX5_traveller_46 : decode cX5_traveller 46 = .ok (.iload_n 1, 1) := by decide +kernel
theorem dX5_traveller_47 : decode cX5_traveller 47 = .ok (.invokevirtual 123, 3) := by decide +kernel
theorem dX5_traveller_50 : decode cX5_traveller 50 = .ok (.ireturn, 1) := by decide +kernel
theorem dX5_travellerOf_0 : decode cX5_travellerOf 0 = .ok (.aload_n 0, 1) := by decide +kernel
theorem dX5_travellerOf_1 : decode cX5_travellerOf 1 = .ok (.iload_n 1, 1) := by decide +kernel
theorem dX5_travellerOf_2 : decode cX5_travellerOf 2 = .ok (.invokevirtual 126, 3) := by decide +kernel
theorem dX5_travellerOf_5 : decode cX5_travellerOf 5 = .ok (.astore_n 3, 1) := by decide +kernel
theorem dX5_travellerOf_6 : decode cX5_travellerOf 6 = .ok (.iload_n 2, 1) := by decide +kernel
theorem dX5_travellerOf_7 : decode cX5_travellerOf 7 = .ok (.iconst 0, 1) := by decide +kernel
theorem dX5_travellerOf_8 : decode cX5_travellerOf 8 = .ok (.bipush 8, 2) := by decide +kernel
theorem dX5_travellerOf_10 : decode cX5_travellerOf 10 = .ok (.invokestatic 65, 3) := by decide +kernel
theorem dX5_travellerOf_13 : decode cX5_travellerOf 13 = .ok (.aload_n 3, 1) := by decide +kernel
theorem dX5_travellerOf_14 : decode cX5_travellerOf 14 = .ok (.iload_n 2, 1) := by decide +kernel
theorem dX5_travellerOf_15 : decode cX5_travellerOf 15 = .ok (.invokevirtual 130, 3) := by decide +kernel
theorem dX5_travellerOf_18 : decode cX5_travellerOf 18 = .ok (.ireturn, 1) := by decide +kernel
theorem dX5_fee_0 : decode cX5_fee 0 = .ok (.aload_n 0, 1) := by decide +kernel
theorem dX5_fee_1 : decode cX5_fee 1 = .ok (.iload_n 1, 1) := by decide +kernel
theorem dX5_fee_2 : decode cX5_fee 2 = .ok (.invokevirtual 126, 3) := by decide +kernel
theorem dX5_fee_5 : decode cX5_fee 5 = .ok (.invokevirtual 135, 3) := by decide +kernel
theorem dX5_fee_8 : decode cX5_fee 8 = .ok (.ireturn, 1) := by decide +kernel
theorem dX5_setOut_0 : decode cX5_setOut 0 = .ok (.aload_n 0, 1) := by decide +kernel
theorem dX5_setOut_1 : decode cX5_setOut 1 = .ok (.iload_n 1, 1) := by decide +kernel
theorem dX5_setOut_2 : decode cX5_setOut 2 = .ok (.invokevirtual 126, 3) := by decide +kernel
theorem dX5_setOut_5 : decode cX5_setOut 5 = .ok (.astore_n 2, 1) := by decide +kernel
theorem dX5_setOut_6 : decode cX5_setOut 6 = .ok (.aload_n 2, 1) := by decide +kernel
theorem dX5_setOut_7 : decode cX5_setOut 7 = .ok (.getfield 138, 3) := by decide +kernel
theorem dX5_setOut_10 : decode cX5_setOut 10 = .ok (.ifCond .eq 12, 3) := by decide +kernel
theorem dX5_setOut_13 : decode cX5_setOut 13 = .ok (.aload_n 0, 1) := by decide +kernel
theorem dX5_setOut_14 : decode cX5_setOut 14 = .ok (.iconst 2, 1) := by decide +kernel
theorem dX5_setOut_15 : decode cX5_setOut 15 = .ok (.aload_n 2, 1) := by decide +kernel
theorem dX5_setOut_16 : decode cX5_setOut 16 = .ok (.getfield 141, 3) := by decide +kernel
theorem dX5_setOut_19 : decode cX5_setOut 19 = .ok (.invokevirtual 73, 3) := by decide +kernel
theorem dX5_setOut_22 : decode cX5_setOut 22 = .ok (.aload_n 2, 1) := by decide +kernel
theorem dX5_setOut_23 : decode cX5_setOut 23 = .ok (.getfield 144, 3) := by decide +kernel
theorem dX5_setOut_26 : decode cX5_setOut 26 = .ok (.bipush 12, 2) := by decide +kernel
theorem dX5_setOut_28 : decode cX5_setOut 28 = .ok (.if_icmp .lt 12, 3) := by decide +kernel
theorem dX5_setOut_31 : decode cX5_setOut 31 = .ok (.aload_n 0, 1) := by decide +kernel
theorem dX5_setOut_32 : decode cX5_setOut 32 = .ok (.iconst 4, 1) := by decide +kernel
theorem dX5_setOut_33 : decode cX5_setOut 33 = .ok (.aload_n 2, 1) := by decide +kernel
theorem dX5_setOut_34 : decode cX5_setOut 34 = .ok (.getfield 144, 3) := by decide +kernel
theorem dX5_setOut_37 : decode cX5_setOut 37 = .ok (.invokevirtual 73, 3) := by decide +kernel
theorem dX5_setOut_40 : decode cX5_setOut 40 = .ok (.aload_n 0, 1) := by decide +kernel
theorem dX5_setOut_41 : decode cX5_setOut 41 = .ok (.getfield 19, 3) := by decide +kernel
theorem dX5_setOut_44 : decode cX5_setOut 44 = .ok (.aload_n 0, 1) := by decide +kernel
theorem dX5_setOut_45 : decode cX5_setOut 45 = .ok (.getfield 12, 3) := by decide +kernel
theorem dX5_setOut_48 : decode cX5_setOut 48 = .ok (.invokevirtual 77, 3) := by decide +kernel
theorem dX5_setOut_51 : decode cX5_setOut 51 = .ok (.aload_n 0, 1) := by decide +kernel
theorem dX5_setOut_52 : decode cX5_setOut 52 = .ok (.getfield 12, 3) := by decide +kernel
theorem dX5_setOut_55 : decode cX5_setOut 55 = .ok (.aload_n 2, 1) := by decide +kernel
theorem dX5_setOut_56 : decode cX5_setOut 56 = .ok (.invokevirtual 147, 3) := by decide +kernel
theorem dX5_setOut_59 : decode cX5_setOut 59 = .ok (.ireturn, 1) := by decide +kernel
theorem dX5_stop_0 : decode cX5_stop 0 = .ok (.aload_n 0, 1) := by decide +kernel
theorem dX5_stop_1 : decode cX5_stop 1 = .ok (.iload_n 1, 1) := by decide +kernel
theorem dX5_stop_2 : decode cX5_stop 2 = .ok (.iconst 1, 1) := by decide +kernel
theorem dX5_stop_3 : decode cX5_stop 3 = .ok (.invokevirtual 151, 3) := by decide +kernel
theorem dX5_stop_6 : decode cX5_stop 6 = .ok (.ireturn, 1) := by decide +kernel
theorem dX5_go_0 : decode cX5_go 0 = .ok (.aload_n 0, 1) := by decide +kernel
theorem dX5_go_1 : decode cX5_go 1 = .ok (.iload_n 1, 1) := by decide +kernel
theorem dX5_go_2 : decode cX5_go 2 = .ok (.iconst 0, 1) := by decide +kernel
theorem dX5_go_3 : decode cX5_go 3 = .ok (.invokevirtual 151, 3) := by decide +kernel
theorem dX5_go_6 : decode cX5_go 6 = .ok (.ireturn, 1) := by decide +kernel
theorem dX5_leave_0 : decode cX5_leave 0 = .ok (.aload_n 0, 1) := by decide +kernel
theorem dX5_leave_1 : decode cX5_leave 1 = .ok (.iload_n 1, 1) := by decide +kernel
theorem dX5_leave_2 : decode cX5_leave 2 = .ok (.invokevirtual 126, 3) := by decide +kernel
theorem dX5_leave_5 : decode cX5_leave 5 = .ok (.astore_n 2, 1) := by decide +kernel
theorem dX5_leave_6 : decode cX5_leave 6 = .ok (.aload_n 2, 1) := by decide +kernel
theorem dX5_leave_7 : decode cX5_leave 7 = .ok (.getfield 138, 3) := by decide +kernel
theorem dX5_leave_10 : decode cX5_leave 10 = .ok (.ifCond .eq 12, 3) := by decide +kernel
theorem dX5_leave_13 : decode cX5_leave 13 = .ok (.aload_n 0, 1) := by decide +kernel
theorem dX5_leave_14 : decode cX5_leave 14 = .ok (.iconst 2, 1) := by decide +kernel
theorem dX5_leave_15 : decode cX5_leave 15 = .ok (.aload_n 2, 1) := by decide +kernel
theorem dX5_leave_16 : decode cX5_leave 16 = .ok (.getfield 141, 3) := by decide +kernel
theorem dX5_leave_19 : decode cX5_leave 19 = .ok (.invokevirtual 73, 3) := by decide +kernel
theorem dX5_leave_22 : decode cX5_leave 22 = .ok (.aload_n 0, 1) := by decide +kernel
theorem dX5_leave_23 : decode cX5_leave 23 = .ok (.getfield 19, 3) := by decide +kernel
theorem dX5_leave_26 : decode cX5_leave 26 = .ok (.aload_n 0, 1) := by decide +kernel
theorem dX5_leave_27 : decode cX5_leave 27 = .ok (.getfield 12, 3) := by decide +kernel
theorem dX5_leave_30 : decode cX5_leave 30 = .ok (.invokevirtual 77, 3) := by decide +kernel
theorem dX5_leave_33 : decode cX5_leave 33 = .ok (.aload_n 2, 1) := by decide +kernel
theorem dX5_leave_34 : decode cX5_leave 34 = .ok (.getfield 155, 3) := by decide +kernel
theorem dX5_leave_37 : decode cX5_leave 37 = .ok (.istore_n 3, 1) := by decide +kernel
theorem dX5_leave_38 : decode cX5_leave 38 = .ok (.aload_n 0, 1) := by decide +kernel
theorem dX5_leave_39 : decode cX5_leave 39 = .ok (.getfield 12, 3) := by decide +kernel
theorem dX5_leave_42 : decode cX5_leave 42 = .ok (.iload_n 1, 1) := by decide +kernel
theorem dX5_leave_43 : decode cX5_leave 43 = .ok (.invokevirtual 158, 3) := by decide +kernel
theorem dX5_leave_46 : decode cX5_leave 46 = .ok (.iload_n 3, 1) := by decide +kernel
theorem dX5_leave_47 : decode cX5_leave 47 = .ok (.ireturn, 1) := by decide +kernel
theorem dX5_pass_0 : decode cX5_pass 0 = .ok (.iload_n 1, 1) := by decide +kernel
theorem dX5_pass_1 : decode cX5_pass 1 = .ok (.iconst 1, 1) := by decide +kernel
theorem dX5_pass_2 : decode cX5_pass 2 = .ok (.bipush 24, 2) := by decide +kernel
theorem dX5_pass_4 : decode cX5_pass 4 = .ok (.invokestatic 65, 3) := by decide +kernel
theorem dX5_pass_7 : decode cX5_pass 7 = .ok (.aload_n 0, 1) := by decide +kernel
theorem dX5_pass_8 : decode cX5_pass 8 = .ok (.getfield 19, 3) := by decide +kernel
theorem dX5_pass_11 : decode cX5_pass 11 = .ok (.aload_n 0, 1) := by decide +kernel
theorem dX5_pass_12 : decode cX5_pass 12 = .ok (.getfield 12, 3) := by decide +kernel
theorem dX5_pass_15 : decode cX5_pass 15 = .ok (.invokevirtual 77, 3) := by decide +kernel
theorem dX5_pass_18 : decode cX5_pass 18 = .ok (.aload_n 0, 1) := by decide +kernel
theorem dX5_pass_19 : decode cX5_pass 19 = .ok (.getfield 12, 3) := by decide +kernel
theorem dX5_pass_22 : decode cX5_pass 22 = .ok (.getfield 161, 3) := by decide +kernel
theorem dX5_pass_25 : decode cX5_pass 25 = .ok (.istore_n 2, 1) := by decide +kernel
theorem dX5_pass_26 : decode cX5_pass 26 = .ok (.iconst 0, 1) := by decide +kernel
theorem dX5_pass_27 : decode cX5_pass 27 = .ok (.istore_n 3, 1) := by decide +kernel
theorem dX5_pass_28 : decode cX5_pass 28 = .ok (.iload_n 3, 1) := by decide +kernel
theorem dX5_pass_29 : decode cX5_pass 29 = .ok (.iload_n 1, 1) := by decide +kernel
theorem dX5_pass_30 : decode cX5_pass 30 = .ok (.if_icmp .ge 16, 3) := by decide +kernel
theorem dX5_pass_33 : decode cX5_pass 33 = .ok (.aload_n 0, 1) := by decide +kernel
theorem dX5_pass_34 : decode cX5_pass 34 = .ok (.getfield 12, 3) := by decide +kernel
theorem dX5_pass_37 : decode cX5_pass 37 = .ok (.invokevirtual 164, 3) := by decide +kernel
theorem dX5_pass_40 : decode cX5_pass 40 = .ok (.iinc 3 1, 3) := by decide +kernel
theorem dX5_pass_43 : decode cX5_pass 43 = .ok (.goto (-15), 3) := by decide +kernel
theorem dX5_pass_46 : decode cX5_pass 46 = .ok (.aload_n 0, 1) := by decide +kernel
theorem dX5_pass_47 : decode cX5_pass 47 = .ok (.getfield 12, 3) := by decide +kernel
theorem dX5_pass_50 : decode cX5_pass 50 = .ok (.getfield 161, 3) := by decide +kernel
theorem dX5_pass_53 : decode cX5_pass 53 = .ok (.iload_n 2, 1) := by decide +kernel
theorem dX5_pass_54 : decode cX5_pass 54 = .ok (.isub, 1) := by decide +kernel
theorem dX5_pass_55 : decode cX5_pass 55 = .ok (.ireturn, 1) := by decide +kernel
theorem dX5_crossedIn_0 : decode cX5_crossedIn 0 = .ok (.aload_n 0, 1) := by decide +kernel
theorem dX5_crossedIn_1 : decode cX5_crossedIn 1 = .ok (.getfield 12, 3) := by decide +kernel
theorem dX5_crossedIn_4 : decode cX5_crossedIn 4 = .ok (.aload_n 0, 1) := by decide +kernel
theorem dX5_crossedIn_5 : decode cX5_crossedIn 5 = .ok (.iload_n 1, 1) := by decide +kernel
theorem dX5_crossedIn_6 : decode cX5_crossedIn 6 = .ok (.invokevirtual 126, 3) := by decide +kernel
theorem dX5_crossedIn_9 : decode cX5_crossedIn 9 = .ok (.invokevirtual 167, 3) := by decide +kernel
theorem dX5_crossedIn_12 : decode cX5_crossedIn 12 = .ok (.istore_n 2, 1) := by decide +kernel
theorem dX5_crossedIn_13 : decode cX5_crossedIn 13 = .ok (.iload_n 2, 1) := by decide +kernel
theorem dX5_crossedIn_14 : decode cX5_crossedIn 14 = .ok (.iconst (-1), 1) := by decide +kernel
theorem dX5_crossedIn_15 : decode cX5_crossedIn 15 = .ok (.if_icmp .ne 13, 3) := by decide +kernel
theorem dX5_crossedIn_18 : decode cX5_crossedIn 18 = .ok (.new 113, 3) := by decide +kernel
theorem dX5_crossedIn_21 : decode cX5_crossedIn 21 = .ok (.dup, 1) := by decide +kernel
theorem dX5_crossedIn_22 : decode cX5_crossedIn 22 = .ok (.ldc 170, 2) := by decide +kernel
theorem dX5_crossedIn_24 : decode cX5_crossedIn 24 = .ok (.invokespecial 117, 3) := by decide +kernel
theorem dX5_crossedIn_27 : decode cX5_crossedIn 27 = .ok (.athrow, 1) := by decide +kernel
theorem dX5_crossedIn_28 : decode cX5_crossedIn 28 = .ok (.iload_n 2, 1) := by decide +kernel
theorem dX5_crossedIn_29 : decode cX5_crossedIn 29 = .ok (.ireturn, 1) := by decide +kernel
theorem dX5_wetSteps_0 : decode cX5_wetSteps 0 = .ok (.iload_n 1, 1) := by decide +kernel
theorem dX5_wetSteps_1 : decode cX5_wetSteps 1 = .ok (.iconst 0, 1) := by decide +kernel
theorem dX5_wetSteps_2 : decode cX5_wetSteps 2 = .ok (.iconst 2, 1) := by decide +kernel
theorem dX5_wetSteps_3 : decode cX5_wetSteps 3 = .ok (.invokestatic 65, 3) := by decide +kernel
theorem dX5_wetSteps_6 : decode cX5_wetSteps 6 = .ok (.aload_n 0, 1) := by decide +kernel
theorem dX5_wetSteps_7 : decode cX5_wetSteps 7 = .ok (.getfield 12, 3) := by decide +kernel
theorem dX5_wetSteps_10 : decode cX5_wetSteps 10 = .ok (.iload_n 1, 1) := by decide +kernel
theorem dX5_wetSteps_11 : decode cX5_wetSteps 11 = .ok (.invokevirtual 172, 3) := by decide +kernel
theorem dX5_wetSteps_14 : decode cX5_wetSteps 14 = .ok (.istore_n 2, 1) := by decide +kernel
theorem dX5_wetSteps_15 : decode cX5_wetSteps 15 = .ok (.iload_n 2, 1) := by decide +kernel
theorem dX5_wetSteps_16 : decode cX5_wetSteps 16 = .ok (.iconst (-1), 1) := by decide +kernel
theorem dX5_wetSteps_17 : decode cX5_wetSteps 17 = .ok (.if_icmp .ne 13, 3) := by decide +kernel
theorem dX5_wetSteps_20 : decode cX5_wetSteps 20 = .ok (.new 113, 3) := by decide +kernel
theorem dX5_wetSteps_23 : decode cX5_wetSteps 23 = .ok (.dup, 1) := by decide +kernel
theorem dX5_wetSteps_24 : decode cX5_wetSteps 24 = .ok (.ldc 175, 2) := by decide +kernel
theorem dX5_wetSteps_26 : decode cX5_wetSteps 26 = .ok (.invokespecial 117, 3) := by decide +kernel
theorem dX5_wetSteps_29 : decode cX5_wetSteps 29 = .ok (.athrow, 1) := by decide +kernel
theorem dX5_wetSteps_30 : decode cX5_wetSteps 30 = .ok (.iload_n 2, 1) := by decide +kernel
theorem dX5_wetSteps_31 : decode cX5_wetSteps 31 = .ok (.ireturn, 1) := by decide +kernel
theorem dX5_kinds_0 : decode cX5_kinds 0 = .ok (.iconst 0, 1) := by decide +kernel
theorem dX5_kinds_1 : decode cX5_kinds 1 = .ok (.istore_n 1, 1) := by decide +kernel
theorem dX5_kinds_2 : decode cX5_kinds 2 = .ok (.iconst 0, 1) := by decide +kernel
theorem dX5_kinds_3 : decode cX5_kinds 3 = .ok (.istore_n 2, 1) := by decide +kernel
theorem dX5_kinds_4 : decode cX5_kinds 4 = .ok (.iload_n 2, 1) := by decide +kernel
theorem dX5_kinds_5 : decode cX5_kinds 5 = .ok (.iconst 2, 1) := by decide +kernel
theorem dX5_kinds_6 : decode cX5_kinds 6 = .ok (.if_icmp .gt 27, 3) := by decide +kernel
theorem dX5_kinds_9 : decode cX5_kinds 9 = .ok (.aload_n 0, 1) := by decide +kernel
theorem dX5_kinds_10 : decode cX5_kinds 10 = .ok (.getfield 12, 3) := by decide +kernel
theorem dX5_kinds_13 : decode cX5_kinds 13 = .ok (.iload_n 2, 1) := by decide +kernel
theorem dX5_kinds_14 : decode cX5_kinds 14 = .ok (.invokevirtual 172, 3) := by decide +kernel
theorem dX5_kinds_17 : decode cX5_kinds 17 = .ok (.iconst (-1), 1) := by decide +kernel
theorem dX5_kinds_18 : decode cX5_kinds 18 = .ok (.if_icmp .eq 9, 3) := by decide +kernel
theorem dX5_kinds_21 : decode cX5_kinds 21 = .ok (.iload_n 1, 1) := by decide +kernel
theorem dX5_kinds_22 : decode cX5_kinds 22 = .ok (.iconst 1, 1) := by decide +kernel
theorem dX5_kinds_23 : decode cX5_kinds 23 = .ok (.iload_n 2, 1) := by decide +kernel
theorem dX5_kinds_24 : decode cX5_kinds 24 = .ok (.ishl, 1) := by decide +kernel
theorem dX5_kinds_25 : decode cX5_kinds 25 = .ok (.ior, 1) := by decide +kernel
theorem dX5_kinds_26 : decode cX5_kinds 26 = .ok (.istore_n 1, 1) := by decide +kernel
theorem dX5_kinds_27 : decode cX5_kinds 27 = .ok (.iinc 2 1, 3) := by decide +kernel
theorem dX5_kinds_30 : decode cX5_kinds 30 = .ok (.goto (-26), 3) := by decide +kernel
theorem dX5_kinds_33 : decode cX5_kinds 33 = .ok (.iload_n 1, 1) := by decide +kernel
theorem dX5_kinds_34 : decode cX5_kinds 34 = .ok (.ireturn, 1) := by decide +kernel
theorem dX5_type_0 : decode cX5_type 0 = .ok (.aload_n 0, 1) := by decide +kernel
theorem dX5_type_1 : decode cX5_type 1 = .ok (.getfield 33, 3) := by decide +kernel
theorem dX5_type_4 : decode cX5_type 4 = .ok (.invokevirtual 177, 3) := by decide +kernel
theorem dX5_type_7 : decode cX5_type 7 = .ok (.ifCond .eq 13, 3) := by decide +kernel
theorem dX5_type_10 : decode cX5_type 10 = .ok (.new 181, 3) := by decide +kernel
theorem dX5_type_13 : decode cX5_type 13 = .ok (.dup, 1) := by decide +kernel
theorem dX5_type_14 : decode cX5_type 14 = .ok (.ldc 183, 2) := by decide +kernel
theorem dX5_type_16 : decode cX5_type 16 = .ok (.invokespecial 185, 3) := by decide +kernel
theorem dX5_type_19 : decode cX5_type 19 = .ok (.athrow, 1) := by decide +kernel
theorem dX5_type_20 : decode cX5_type 20 = .ok (.aload_n 0, 1) := by decide +kernel
theorem dX5_type_21 : decode cX5_type 21 = .ok (.getfield 33, 3) := by decide +kernel
theorem dX5_type_24 : decode cX5_type 24 = .ok (.iload_n 1, 1) := by decide +kernel
theorem dX5_type_25 : decode cX5_type 25 = .ok (.invokevirtual 186, 3) := by decide +kernel
theorem dX5_type_28 : decode cX5_type 28 = .ok (.ireturn, 1) := by decide +kernel
theorem dX5_ask_0 : decode cX5_ask 0 = .ok (.aload_n 0, 1) := by decide +kernel
theorem dX5_ask_1 : decode cX5_ask 1 = .ok (.getfield 33, 3) := by decide +kernel
theorem dX5_ask_4 : decode cX5_ask 4 = .ok (.aload_n 0, 1) := by decide +kernel
theorem dX5_ask_5 : decode cX5_ask 5 = .ok (.getfield 12, 3) := by decide +kernel
theorem dX5_ask_8 : decode cX5_ask 8 = .ok (.invokevirtual 190, 3) := by decide +kernel
theorem dX5_ask_11 : decode cX5_ask 11 = .ok (.istore_n 1, 1) := by decide +kernel
theorem dX5_ask_12 : decode cX5_ask 12 = .ok (.aload_n 0, 1) := by decide +kernel
theorem dX5_ask_13 : decode cX5_ask 13 = .ok (.getfield 33, 3) := by decide +kernel
theorem dX5_ask_16 : decode cX5_ask 16 = .ok (.invokevirtual 194, 3) := by decide +kernel
theorem dX5_ask_19 : decode cX5_ask 19 = .ok (.aload_n 0, 1) := by decide +kernel
theorem dX5_ask_20 : decode cX5_ask 20 = .ok (.getfield 33, 3) := by decide +kernel
theorem dX5_ask_23 : decode cX5_ask 23 = .ok (.getfield 197, 3) := by decide +kernel
theorem dX5_ask_26 : decode cX5_ask 26 = .ok (.iconst (-1), 1) := by decide +kernel
theorem dX5_ask_27 : decode cX5_ask 27 = .ok (.if_icmp .eq 24, 3) := by decide +kernel
theorem dX5_ask_30 : decode cX5_ask 30 = .ok (.aload_n 0, 1) := by decide +kernel
theorem dX5_ask_31 : decode cX5_ask 31 = .ok (.aload_n 0, 1) := by decide +kernel
theorem dX5_ask_32 : decode cX5_ask 32 = .ok (.getfield 33, 3) := by decide +kernel
theorem dX5_ask_35 : decode cX5_ask 35 = .ok (.getfield 197, 3) := by decide +kernel
theorem dX5_ask_38 : decode cX5_ask 38 = .ok (.putfield 37, 3) := by decide +kernel
theorem dX5_ask_41 : decode cX5_ask 41 = .ok (.new 200, 3) := by decide +kernel
theorem dX5_ask_44 : decode cX5_ask 44 = .ok (.dup, 1) := by decide +kernel
theorem dX5_ask_45 : decode cX5_ask 45 = .ok (.ldc 202, 2) := by decide +kernel
theorem dX5_ask_47 : decode cX5_ask 47 = .ok (.invokespecial 204, 3) := by decide +kernel
theorem dX5_ask_50 : decode cX5_ask 50 = .ok (.athrow, 1) := by decide +kernel
theorem dX5_ask_51 : decode cX5_ask 51 = .ok (.aload_n 0, 1) := by decide +kernel
theorem dX5_ask_52 : decode cX5_ask 52 = .ok (.iload_n 1, 1) := by decide +kernel
theorem dX5_ask_53 : decode cX5_ask 53 = .ok (.invokevirtual 205, 3) := by decide +kernel
theorem dX5_ask_56 : decode cX5_ask 56 = .ok (.aload_n 0, 1) := by decide +kernel
theorem dX5_ask_57 : decode cX5_ask 57 = .ok (.getfield 45, 3) := by decide +kernel
theorem dX5_ask_60 : decode cX5_ask 60 = .ok (.ireturn, 1) := by decide +kernel
theorem dX5_answer_0 : decode cX5_answer 0 = .ok (.iload_n 1, 1) := by decide +kernel
theorem dX5_answer_1 : decode cX5_answer 1 = .ok (.ifCond .lt 11, 3) := by decide +kernel
theorem dX5_answer_4 : decode cX5_answer 4 = .ok (.iload_n 1, 1) := by decide +kernel
theorem dX5_answer_5 : decode cX5_answer 5 = .ok (.aload_n 0, 1) := by decide +kernel
theorem dX5_answer_6 : decode cX5_answer 6 = .ok (.getfield 45, 3) := by decide +kernel
theorem dX5_answer_9 : decode cX5_answer 9 = .ok (.if_icmp .lt 13, 3) := by decide +kernel
theorem dX5_answer_12 : decode cX5_answer 12 = .ok (.new 113, 3) := by decide +kernel
theorem dX5_answer_15 : decode cX5_answer 15 = .ok (.dup, 1) := by decide +kernel
theorem dX5_answer_16 : decode cX5_answer 16 = .ok (.ldc 208, 2) := by decide +kernel
theorem dX5_answer_18 : decode cX5_answer 18 = .ok (.invokespecial 117, 3) := by decide +kernel
theorem dX5_answer_21 : decode cX5_answer 21 = .ok (.athrow, 1) := by decide +kernel
theorem dX5_answer_22 : decode cX5_answer 22 = .ok (.aload_n 0, 1) := by decide +kernel
theorem dX5_answer_23 : decode cX5_answer 23 = .ok (.getfield 41, 3) := by decide +kernel
theorem dX5_answer_26 : decode cX5_answer 26 = .ok (.iload_n 1, 1) := by decide +kernel
theorem dX5_answer_27 : decode cX5_answer 27 = .ok (.iaload, 1) := by decide +kernel
theorem dX5_answer_28 : decode cX5_answer 28 = .ok (.ireturn, 1) := by decide +kernel
theorem dX5_errorPosition_0 : decode cX5_errorPosition 0 = .ok (.aload_n 0, 1) := by decide +kernel
theorem dX5_errorPosition_1 : decode cX5_errorPosition 1 = .ok (.getfield 37, 3) := by decide +kernel
theorem dX5_errorPosition_4 : decode cX5_errorPosition 4 = .ok (.iconst (-1), 1) := by decide +kernel
theorem dX5_errorPosition_5 : decode cX5_errorPosition 5 = .ok (.if_icmp .ne 13, 3) := by decide +kernel
theorem dX5_errorPosition_8 : decode cX5_errorPosition 8 = .ok (.new 113, 3) := by decide +kernel
theorem dX5_errorPosition_11 : decode cX5_errorPosition 11 = .ok (.dup, 1) := by decide +kernel
theorem dX5_errorPosition_12 : decode cX5_errorPosition 12 = .ok (.ldc 210, 2) := by decide +kernel
theorem dX5_errorPosition_14 : decode cX5_errorPosition 14 = .ok (.invokespecial 117, 3) := by decide +kernel
theorem dX5_errorPosition_17 : decode cX5_errorPosition 17 = .ok (.athrow, 1) := by decide +kernel
theorem dX5_errorPosition_18 : decode cX5_errorPosition 18 = .ok (.aload_n 0, 1) := by decide +kernel
theorem dX5_errorPosition_19 : decode cX5_errorPosition 19 = .ok (.getfield 37, 3) := by decide +kernel
theorem dX5_errorPosition_22 : decode cX5_errorPosition 22 = .ok (.ireturn, 1) := by decide +kernel
theorem dX5_refusal_0 : decode cX5_refusal 0 = .ok (.aload_n 0, 1) := by decide +kernel
theorem dX5_refusal_1 : decode cX5_refusal 1 = .ok (.getfield 48, 3) := by decide +kernel
theorem dX5_refusal_4 : decode cX5_refusal 4 = .ok (.ifCond .ne 13, 3) := by decide +kernel
theorem dX5_refusal_7 : decode cX5_refusal 7 = .ok (.new 113, 3) := by decide +kernel
theorem dX5_refusal_10 : decode cX5_refusal 10 = .ok (.dup, 1) := by decide +kernel
theorem dX5_refusal_11 : decode cX5_refusal 11 = .ok (.ldc 212, 2) := by decide +kernel
theorem dX5_refusal_13 : decode cX5_refusal 13 = .ok (.invokespecial 117, 3) := by decide +kernel
theorem dX5_refusal_16 : decode cX5_refusal 16 = .ok (.athrow, 1) := by decide +kernel
theorem dX5_refusal_17 : decode cX5_refusal 17 = .ok (.iload_n 1, 1) := by decide +kernel
theorem dX5_refusal_18 : decode cX5_refusal 18 = .ok (.ifCond .eq 10, 3) := by decide +kernel
theorem dX5_refusal_21 : decode cX5_refusal 21 = .ok (.aload_n 0, 1) := by decide +kernel
theorem dX5_refusal_22 : decode cX5_refusal 22 = .ok (.getfield 51, 3) := by decide +kernel
theorem dX5_refusal_25 : decode cX5_refusal 25 = .ok (.goto 7, 3) := by decide +kernel
theorem dX5_refusal_28 : decode cX5_refusal 28 = .ok (.aload_n 0, 1) := by decide +kernel
theorem dX5_refusal_29 : decode cX5_refusal 29 = .ok (.getfield 48, 3) := by decide +kernel
theorem dX5_refusal_32 : decode cX5_refusal 32 = .ok (.ireturn, 1) := by decide +kernel
theorem dX5_describe_0 : decode cX5_describe 0 = .ok (.iconst 0, 1) := by decide +kernel
theorem dX5_describe_1 : decode cX5_describe 1 = .ok (.istore_n 1, 1) := by decide +kernel
theorem dX5_describe_2 : decode cX5_describe 2 = .ok (.iload_n 1, 1) := by decide +kernel
theorem dX5_describe_3 : decode cX5_describe 3 = .ok (.bipush 10, 2) := by decide +kernel
theorem dX5_describe_5 : decode cX5_describe 5 = .ok (.if_icmp .ge 20, 3) := by decide +kernel
theorem dX5_describe_8 : decode cX5_describe 8 = .ok (.aload_n 0, 1) := by decide +kernel
theorem dX5_describe_9 : decode cX5_describe 9 = .ok (.getfield 54, 3) := by decide +kernel
theorem dX5_describe_12 : decode cX5_describe 12 = .ok (.iload_n 1, 1) := by decide +kernel
theorem dX5_describe_13 : decode cX5_describe 13 = .ok (.aload_n 0, 1) := by decide +kernel
theorem dX5_describe_14 : decode cX5_describe 14 = .ok (.iload_n 1, 1) := by decide +kernel
theorem dX5_describe_15 : decode cX5_describe 15 = .ok (.invokevirtual 214, 3) := by decide +kernel
theorem dX5_describe_18 : decode cX5_describe 18 = .ok (.castore, 1) := by decide +kernel
theorem dX5_describe_19 : decode cX5_describe 19 = .ok (.iinc 1 1, 3) := by decide +kernel
theorem dX5_describe_22 : decode cX5_describe 22 = .ok (.goto (-20), 3) := by decide +kernel
theorem dX5_describe_25 : decode cX5_describe 25 = .ok (.aload_n 0, 1) := by decide +kernel
theorem dX5_describe_26 : decode cX5_describe 26 = .ok (.getfield 54, 3) := by decide +kernel
theorem dX5_describe_29 : decode cX5_describe 29 = .ok (.bipush 10, 2) := by decide +kernel
theorem dX5_describe_31 : decode cX5_describe 31 = .ok (.bipush 32, 2) := by decide +kernel
theorem dX5_describe_33 : decode cX5_describe 33 = .ok (.castore, 1) := by decide +kernel
theorem dX5_describe_34 : decode cX5_describe 34 = .ok (.aload_n 0, 1) := by decide +kernel
theorem dX5_describe_35 : decode cX5_describe 35 = .ok (.bipush 11, 2) := by decide +kernel
theorem dX5_describe_37 : decode cX5_describe 37 = .ok (.putfield 58, 3) := by decide +kernel
theorem dX5_describe_40 : decode cX5_describe 40 = .ok (.aload_n 0, 1) := by decide +kernel
theorem dX5_describe_41 : decode cX5_describe 41 = .ok (.getfield 12, 3) := by decide +kernel
theorem dX5_describe_44 : decode cX5_describe 44 = .ok (.getfield 93, 3) := by decide +kernel
theorem dX5_describe_47 : decode cX5_describe 47 = .ok (.bipush 10, 2) := by decide +kernel
theorem dX5_describe_49 : decode cX5_describe 49 = .ok (.if_icmp .lt 17, 3) := by decide +kernel
theorem dX5_describe_52 : decode cX5_describe 52 = .ok (.aload_n 0, 1) := by decide +kernel
theorem dX5_describe_53 : decode cX5_describe 53 = .ok (.aload_n 0, 1) := by decide +kernel
theorem dX5_describe_54 : decode cX5_describe 54 = .ok (.getfield 12, 3) := by decide +kernel
theorem dX5_describe_57 : decode cX5_describe 57 = .ok (.getfield 93, 3) := by decide +kernel
theorem dX5_describe_60 : decode cX5_describe 60 = .ok (.bipush 10, 2) := by decide +kernel
theorem dX5_describe_62 : decode cX5_describe 62 = .ok (.idiv, 1) := by decide +kernel
theorem dX5_describe_63 : decode cX5_describe 63 = .ok (.invokevirtual 218, 3) := by decide +kernel
theorem dX5_describe_66 : decode cX5_describe 66 = .ok (.aload_n 0, 1) := by decide +kernel
theorem dX5_describe_67 : decode cX5_describe 67 = .ok (.aload_n 0, 1) := by decide +kernel
theorem dX5_describe_68 : decode cX5_describe 68 = .ok (.getfield 12, 3) := by decide +kernel
theorem dX5_describe_71 : decode cX5_describe 71 = .ok (.getfield 93, 3) := by decide +kernel
theorem dX5_describe_74 : decode cX5_describe 74 = .ok (.bipush 10, 2) := by decide +kernel
theorem dX5_describe_76 : decode cX5_describe 76 = .ok (.irem, 1) := by decide +kernel
theorem dX5_describe_77 : decode cX5_describe 77 = .ok (.invokevirtual 218, 3) := by decide +kernel
theorem dX5_describe_80 : decode cX5_describe 80 = .ok (.aload_n 0, 1) := by decide +kernel
theorem dX5_describe_81 : decode cX5_describe 81 = .ok (.getfield 58, 3) := by decide +kernel
theorem dX5_describe_84 : decode cX5_describe 84 = .ok (.ireturn, 1) := by decide +kernel
theorem dX5_written_0 : decode cX5_written 0 = .ok (.iload_n 1, 1) := by decide +kernel
theorem dX5_written_1 : decode cX5_written 1 = .ok (.ifCond .lt 11, 3) := by decide +kernel
theorem dX5_written_4 : decode cX5_written 4 = .ok (.iload_n 1, 1) := by decide +kernel
theorem dX5_written_5 : decode cX5_written 5 = .ok (.aload_n 0, 1) := by decide +kernel
theorem dX5_written_6 : decode cX5_written 6 = .ok (.getfield 58, 3) := by decide +kernel
theorem dX5_written_9 : decode cX5_written 9 = .ok (.if_icmp .lt 13, 3) := by decide +kernel
theorem dX5_written_12 : decode cX5_written 12 = .ok (.new 113, 3) := by decide +kernel
theorem dX5_written_15 : decode cX5_written 15 = .ok (.dup, 1) := by decide +kernel
theorem dX5_written_16 : decode cX5_written 16 = .ok (.ldc 221, 2) := by decide +kernel
theorem dX5_written_18 : decode cX5_written 18 = .ok (.invokespecial 117, 3) := by decide +kernel
theorem dX5_written_21 : decode cX5_written 21 = .ok (.athrow, 1) := by decide +kernel
theorem dX5_written_22 : decode cX5_written 22 = .ok (.aload_n 0, 1) := by decide +kernel
theorem dX5_written_23 : decode cX5_written 23 = .ok (.getfield 54, 3) := by decide +kernel
theorem dX5_written_26 : decode cX5_written 26 = .ok (.iload_n 1, 1) := by decide +kernel
theorem dX5_written_27 : decode cX5_written 27 = .ok (.caload, 1) := by decide +kernel
theorem dX5_written_28 : decode cX5_written 28 = .ok (.ireturn, 1) := by decide +kernel
theorem dX5_account_0 : decode cX5_account 0 = .ok (.iload_n 1, 1) := by decide +kernel
theorem dX5_account_1 : decode cX5_account 1 = .ok (.iconst 0, 1) := by decide +kernel
theorem dX5_account_2 : decode cX5_account 2 = .ok (.bipush 18, 2) := by decide +kernel
theorem dX5_account_4 : decode cX5_account 4 = .ok (.invokestatic 65, 3) := by decide +kernel
theorem dX5_account_7 : decode cX5_account 7 = .ok (.iload_n 1, 1) := by decide +kernel
theorem dX5_account_8 : decode cX5_account 8 = .ok (.tableswitch 236 0 17 #[88, 96, 104, 112, 120, 129, 138, 147, 156, 164, 174, 182, 190, 198, 206, 214, 223, 228], 88) := by decide +kernel
theorem dX5_account_96 : decode cX5_account 96 = .ok (.aload_n 0, 1) := by decide +kernel
theorem dX5_account_97 : decode cX5_account 97 = .ok (.getfield 12, 3) := by decide +kernel
theorem dX5_account_100 : decode cX5_account 100 = .ok (.getfield 223, 3) := by decide +kernel
theorem dX5_account_103 : decode cX5_account 103 = .ok (.ireturn, 1) := by decide +kernel
theorem dX5_account_104 : decode cX5_account 104 = .ok (.aload_n 0, 1) := by decide +kernel
theorem dX5_account_105 : decode cX5_account 105 = .ok (.getfield 12, 3) := by decide +kernel
theorem dX5_account_108 : decode cX5_account 108 = .ok (.getfield 93, 3) := by decide +kernel
theorem dX5_account_111 : decode cX5_account 111 = .ok (.ireturn, 1) := by decide +kernel
theorem dX5_account_112 : decode cX5_account 112 = .ok (.aload_n 0, 1) := by decide +kernel
theorem dX5_account_113 : decode cX5_account 113 = .ok (.getfield 12, 3) := by decide +kernel
theorem dX5_account_116 : decode cX5_account 116 = .ok (.getfield 84, 3) := by decide +kernel
theorem dX5_account_119 : decode cX5_account 119 = .ok (.ireturn, 1) := by decide +kernel
theorem dX5_account_120 : decode cX5_account 120 = .ok (.aload_n 0, 1) := by decide +kernel
theorem dX5_account_121 : decode cX5_account 121 = .ok (.getfield 12, 3) := by decide +kernel
theorem dX5_account_124 : decode cX5_account 124 = .ok (.getfield 120, 3) := by decide +kernel
theorem dX5_account_127 : decode cX5_account 127 = .ok (.ireturn, 1) := by decide +kernel
theorem dX5_account_128 : decode cX5_account 128 = .ok (.aload_n 0, 1) := by decide +kernel
theorem dX5_account_129 : decode cX5_account 129 = .ok (.getfield 12, 3) := by decide +kernel
theorem dX5_account_132 : decode cX5_account 132 = .ok (.iconst 0, 1) := by decide +kernel
theorem dX5_account_133 : decode cX5_account 133 = .ok (.invokevirtual 226, 3) := by decide +kernel
theorem dX5_account_136 : decode cX5_account 136 = .ok (.ireturn, 1) := by decide +kernel
theorem dX5_account_137 : decode cX5_account 137 = .ok (.aload_n 0, 1) := by decide +kernel
theorem dX5_account_138 : decode cX5_account 138 = .ok (.getfield 12, 3) := by decide +kernel
theorem dX5_account_141 : decode cX5_account 141 = .ok (.iconst 1, 1) := by decide +kernel
theorem dX5_account_142 : decode cX5_account 142 = .ok (.invokevirtual 226, 3) := by decide +kernel
theorem dX5_account_145 : decode cX5_account 145 = .ok (.ireturn, 1) := by decide +kernel
theorem dX5_account_146 : decode cX5_account 146 = .ok (.aload_n 0, 1) := by decide +kernel
theorem dX5_account_147 : decode cX5_account 147 = .ok (.getfield 12, 3) := by decide +kernel
theorem dX5_account_150 : decode cX5_account 150 = .ok (.iconst 2, 1) := by decide +kernel
theorem dX5_account_151 : decode cX5_account 151 = .ok (.invokevirtual 226, 3) := by decide +kernel
theorem dX5_account_154 : decode cX5_account 154 = .ok (.ireturn, 1) := by decide +kernel
theorem dX5_account_155 : decode cX5_account 155 = .ok (.aload_n 0, 1) := by decide +kernel
theorem dX5_account_156 : decode cX5_account 156 = .ok (.getfield 12, 3) := by decide +kernel
theorem dX5_account_159 : decode cX5_account 159 = .ok (.iconst 4, 1) := by decide +kernel
theorem dX5_account_160 : decode cX5_account 160 = .ok (.invokevirtual 229, 3) := by decide +kernel
theorem dX5_account_163 : decode cX5_account 163 = .ok (.ireturn, 1) := by decide +kernel
theorem dX5_account_164 : decode cX5_account 164 = .ok (.aload_n 0, 1) := by decide +kernel
theorem dX5_account_165 : decode cX5_account 165 = .ok (.getfield 12, 3) := by decide +kernel
theorem dX5_account_168 : decode cX5_account 168 = .ok (.getfield 87, 3) := by decide +kernel
theorem dX5_account_171 : decode cX5_account 171 = .ok (.ireturn, 1) := by decide +kernel
theorem dX5_account_172 : decode cX5_account 172 = .ok (.aload_n 0, 1) := by decide +kernel
theorem dX5_account_173 : decode cX5_account 173 = .ok (.getfield 12, 3) := by decide +kernel
theorem dX5_account_176 : decode cX5_account 176 = .ok (.bipush 8, 2) := by decide +kernel
theorem dX5_account_178 : decode cX5_account 178 = .ok (.invokevirtual 229, 3) := by decide +kernel
theorem dX5_account_181 : decode cX5_account 181 = .ok (.ireturn, 1) := by decide +kernel
theorem dX5_account_182 : decode cX5_account 182 = .ok (.aload_n 0, 1) := by decide +kernel
theorem dX5_account_183 : decode cX5_account 183 = .ok (.getfield 12, 3) := by decide +kernel
theorem dX5_account_186 : decode cX5_account 186 = .ok (.getfield 232, 3) := by decide +kernel
theorem dX5_account_189 : decode cX5_account 189 = .ok (.ireturn, 1) := by decide +kernel
theorem dX5_account_190 : decode cX5_account 190 = .ok (.aload_n 0, 1) := by decide +kernel
theorem dX5_account_191 : decode cX5_account 191 = .ok (.getfield 12, 3) := by decide +kernel
theorem dX5_account_194 : decode cX5_account 194 = .ok (.getfield 90, 3) := by decide +kernel
theorem dX5_account_197 : decode cX5_account 197 = .ok (.ireturn, 1) := by decide +kernel
theorem dX5_account_198 : decode cX5_account 198 = .ok (.aload_n 0, 1) := by decide +kernel
theorem dX5_account_199 : decode cX5_account 199 = .ok (.getfield 12, 3) := by decide +kernel
theorem dX5_account_202 : decode cX5_account 202 = .ok (.getfield 235, 3) := by decide +kernel
theorem dX5_account_205 : decode cX5_account 205 = .ok (.ireturn, 1) := by decide +kernel
theorem dX5_account_206 : decode cX5_account 206 = .ok (.aload_n 0, 1) := by decide +kernel
theorem dX5_account_207 : decode cX5_account 207 = .ok (.getfield 12, 3) := by decide +kernel
theorem dX5_account_210 : decode cX5_account 210 = .ok (.getfield 161, 3) := by decide +kernel
theorem dX5_account_213 : decode cX5_account 213 = .ok (.ireturn, 1) := by decide +kernel
theorem dX5_account_214 : decode cX5_account 214 = .ok (.aload_n 0, 1) := by decide +kernel
theorem dX5_account_215 : decode cX5_account 215 = .ok (.getfield 12, 3) := by decide +kernel
theorem dX5_account_218 : decode cX5_account 218 = .ok (.getfield 238, 3) := by decide +kernel
theorem dX5_account_221 : decode cX5_account 221 = .ok (.ireturn, 1) := by decide +kernel
theorem dX5_account_222 : decode cX5_account 222 = .ok (.aload_n 0, 1) := by decide +kernel
theorem dX5_account_223 : decode cX5_account 223 = .ok (.getfield 12, 3) := by decide +kernel
theorem dX5_account_226 : decode cX5_account 226 = .ok (.iconst 2, 1) := by decide +kernel
theorem dX5_account_227 : decode cX5_account 227 = .ok (.invokevirtual 229, 3) := by decide +kernel
theorem dX5_account_230 : decode cX5_account 230 = .ok (.ireturn, 1) := by decide +kernel
theorem dX5_account_231 : decode cX5_account 231 = .ok (.aload_n 0, 1) := by decide +kernel
theorem dX5_account_232 : decode cX5_account 232 = .ok (.getfield 45, 3) := by decide +kernel
theorem dX5_account_235 : decode cX5_account 235 = .ok (.ireturn, 1) := by decide +kernel
theorem dX5_account_236 : decode cX5_account 236 = .ok (.aload_n 0, 1) := by decide +kernel
theorem dX5_account_237 : decode cX5_account 237 = .ok (.getfield 33, 3) := by decide +kernel
theorem dX5_account_240 : decode cX5_account 240 = .ok (.getfield 241, 3) := by decide +kernel
theorem dX5_account_243 : decode cX5_account 243 = .ok (.ireturn, 1) := by decide +kernel
theorem dX5_account_244 : decode cX5_account 244 = .ok (.aload_n 0, 1) := by decide +kernel
theorem dX5_account_245 : decode cX5_account 245 = .ok (.getfield 19, 3) := by decide +kernel
theorem dX5_account_248 : decode cX5_account 248 = .ok (.getfield 244, 3) := by decide +kernel
theorem dX5_account_251 : decode cX5_account 251 = .ok (.ireturn, 1) := by decide +kernel
theorem dX5_lettersAgain_0 : decode cX5_lettersAgain 0 = .ok (.aload_n 0, 1) := by decide +kernel
theorem dX5_lettersAgain_1 : decode cX5_lettersAgain 1 = .ok (.getfield 12, 3) := by decide +kernel
theorem dX5_lettersAgain_4 : decode cX5_lettersAgain 4 = .ok (.getfield 90, 3) := by decide +kernel
theorem dX5_lettersAgain_7 : decode cX5_lettersAgain 7 = .ok (.aload_n 0, 1) := by decide +kernel
theorem dX5_lettersAgain_8 : decode cX5_lettersAgain 8 = .ok (.getfield 12, 3) := by decide +kernel
theorem dX5_lettersAgain_11 : decode cX5_lettersAgain 11 = .ok (.getfield 232, 3) := by decide +kernel
theorem dX5_lettersAgain_14 : decode cX5_lettersAgain 14 = .ok (.isub, 1) := by decide +kernel
theorem dX5_lettersAgain_15 : decode cX5_lettersAgain 15 = .ok (.aload_n 0, 1) := by decide +kernel
theorem dX5_lettersAgain_16 : decode cX5_lettersAgain 16 = .ok (.getfield 12, 3) := by decide +kernel
theorem dX5_lettersAgain_19 : decode cX5_lettersAgain 19 = .ok (.bipush 8, 2) := by decide +kernel
theorem dX5_lettersAgain_21 : decode cX5_lettersAgain 21 = .ok (.invokevirtual 229, 3) := by decide +kernel
theorem dX5_lettersAgain_24 : decode cX5_lettersAgain 24 = .ok (.isub, 1) := by decide +kernel
theorem dX5_lettersAgain_25 : decode cX5_lettersAgain 25 = .ok (.ireturn, 1) := by decide +kernel
theorem dX5_meanWet_0 : decode cX5_meanWet 0 = .ok (.aload_n 0, 1) := by decide +kernel
theorem dX5_meanWet_1 : decode cX5_meanWet 1 = .ok (.getfield 12, 3) := by decide +kernel
theorem dX5_meanWet_4 : decode cX5_meanWet 4 = .ok (.getfield 120, 3) := by decide +kernel
theorem dX5_meanWet_7 : decode cX5_meanWet 7 = .ok (.ifCond .ne 13, 3) := by decide +kernel
theorem dX5_meanWet_10 : decode cX5_meanWet 10 = .ok (.new 245, 3) := by decide +kernel
theorem dX5_meanWet_13 : decode cX5_meanWet 13 = .ok (.dup, 1) := by decide +kernel
theorem dX5_meanWet_14 : decode cX5_meanWet 14 = .ok (.ldc 247, 2) := by decide +kernel
theorem dX5_meanWet_16 : decode cX5_meanWet 16 = .ok (.invokespecial 249, 3) := by decide +kernel
theorem dX5_meanWet_19 : decode cX5_meanWet 19 = .ok (.athrow, 1) := by decide +kernel
theorem dX5_meanWet_20 : decode cX5_meanWet 20 = .ok (.aload_n 0, 1) := by decide +kernel
theorem dX5_meanWet_21 : decode cX5_meanWet 21 = .ok (.getfield 12, 3) := by decide +kernel
theorem dX5_meanWet_24 : decode cX5_meanWet 24 = .ok (.iconst 2, 1) := by decide +kernel
theorem dX5_meanWet_25 : decode cX5_meanWet 25 = .ok (.invokevirtual 229, 3) := by decide +kernel
theorem dX5_meanWet_28 : decode cX5_meanWet 28 = .ok (.i2d, 1) := by decide +kernel
theorem dX5_meanWet_29 : decode cX5_meanWet 29 = .ok (.aload_n 0, 1) := by decide +kernel
theorem dX5_meanWet_30 : decode cX5_meanWet 30 = .ok (.getfield 12, 3) := by decide +kernel
theorem dX5_meanWet_33 : decode cX5_meanWet 33 = .ok (.getfield 120, 3) := by decide +kernel
theorem dX5_meanWet_36 : decode cX5_meanWet 36 = .ok (.i2d, 1) := by decide +kernel
theorem dX5_meanWet_37 : decode cX5_meanWet 37 = .ok (.ddiv, 1) := by decide +kernel
theorem dX5_meanWet_38 : decode cX5_meanWet 38 = .ok (.dreturn, 1) := by decide +kernel
theorem dX5_crossingShare_0 : decode cX5_crossingShare 0 = .ok (.aload_n 0, 1) := by decide +kernel
theorem dX5_crossingShare_1 : decode cX5_crossingShare 1 = .ok (.getfield 12, 3) := by decide +kernel
theorem dX5_crossingShare_4 : decode cX5_crossingShare 4 = .ok (.getfield 161, 3) := by decide +kernel
theorem dX5_crossingShare_7 : decode cX5_crossingShare 7 = .ok (.aload_n 0, 1) := by decide +kernel
theorem dX5_crossingShare_8 : decode cX5_crossingShare 8 = .ok (.getfield 12, 3) := by decide +kernel
theorem dX5_crossingShare_11 : decode cX5_crossingShare 11 = .ok (.getfield 238, 3) := by decide +kernel
theorem dX5_crossingShare_14 : decode cX5_crossingShare 14 = .ok (.iadd, 1) := by decide +kernel
theorem dX5_crossingShare_15 : decode cX5_crossingShare 15 = .ok (.istore_n 1, 1) := by decide +kernel
theorem dX5_crossingShare_16 : decode cX5_crossingShare 16 = .ok (.iload_n 1, 1) := by decide +kernel
theorem dX5_crossingShare_17 : decode cX5_crossingShare 17 = .ok (.ifCond .ne 13, 3) := by decide +kernel
theorem dX5_crossingShare_20 : decode cX5_crossingShare 20 = .ok (.new 245, 3) := by decide +kernel
theorem dX5_crossingShare_23 : decode cX5_crossingShare 23 = .ok (.dup, 1) := by decide +kernel
theorem dX5_crossingShare_24 : decode cX5_crossingShare 24 = .ok (.ldc 250, 2) := by decide +kernel
theorem dX5_crossingShare_26 : decode cX5_crossingShare 26 = .ok (.invokespecial 249, 3) := by decide +kernel
theorem dX5_crossingShare_29 : decode cX5_crossingShare 29 = .ok (.athrow, 1) := by decide +kernel
theorem dX5_crossingShare_30 : decode cX5_crossingShare 30 = .ok (.aload_n 0, 1) := by decide +kernel
theorem dX5_crossingShare_31 : decode cX5_crossingShare 31 = .ok (.getfield 12, 3) := by decide +kernel
theorem dX5_crossingShare_34 : decode cX5_crossingShare 34 = .ok (.getfield 161, 3) := by decide +kernel
theorem dX5_crossingShare_37 : decode cX5_crossingShare 37 = .ok (.i2f, 1) := by decide +kernel
theorem dX5_crossingShare_38 : decode cX5_crossingShare 38 = .ok (.iload_n 1, 1) := by decide +kernel
theorem dX5_crossingShare_39 : decode cX5_crossingShare 39 = .ok (.i2f, 1) := by decide +kernel
theorem dX5_crossingShare_40 : decode cX5_crossingShare 40 = .ok (.fdiv, 1) := by decide +kernel
theorem dX5_crossingShare_41 : decode cX5_crossingShare 41 = .ok (.freturn, 1) := by decide +kernel
theorem dX5_undo_0 : decode cX5_undo 0 = .ok (.aload_n 0, 1) := by decide +kernel
theorem dX5_undo_1 : decode cX5_undo 1 = .ok (.getfield 19, 3) := by decide +kernel
theorem dX5_undo_4 : decode cX5_undo 4 = .ok (.getfield 244, 3) := by decide +kernel
theorem dX5_undo_7 : decode cX5_undo 7 = .ok (.ifCond .ne 13, 3) := by decide +kernel
theorem dX5_undo_10 : decode cX5_undo 10 = .ok (.new 181, 3) := by decide +kernel
theorem dX5_undo_13 : decode cX5_undo 13 = .ok (.dup, 1) := by decide +kernel
theorem dX5_undo_14 : decode cX5_undo 14 = .ok (.ldc 252, 2) := by decide +kernel
theorem dX5_undo_16 : decode cX5_undo 16 = .ok (.invokespecial 185, 3) := by decide +kernel
theorem dX5_undo_19 : decode cX5_undo 19 = .ok (.athrow, 1) := by decide +kernel
theorem dX5_undo_20 : decode cX5_undo 20 = .ok (.aload_n 0, 1) := by decide +kernel
theorem dX5_undo_21 : decode cX5_undo 21 = .ok (.getfield 19, 3) := by decide +kernel
theorem dX5_undo_24 : decode cX5_undo 24 = .ok (.aload_n 0, 1) := by decide +kernel
theorem dX5_undo_25 : decode cX5_undo 25 = .ok (.getfield 12, 3) := by decide +kernel
theorem dX5_undo_28 : decode cX5_undo 28 = .ok (.invokevirtual 254, 3) := by decide +kernel
theorem dX5_undo_31 : decode cX5_undo 31 = .ok (.aload_n 0, 1) := by decide +kernel
theorem dX5_undo_32 : decode cX5_undo 32 = .ok (.getfield 19, 3) := by decide +kernel
theorem dX5_undo_35 : decode cX5_undo 35 = .ok (.getfield 244, 3) := by decide +kernel
theorem dX5_undo_38 : decode cX5_undo 38 = .ok (.ireturn, 1) := by decide +kernel
theorem dX5_save_0 : decode cX5_save 0 = .ok (.aload_n 0, 1) := by decide +kernel
theorem dX5_save_1 : decode cX5_save 1 = .ok (.getfield 23, 3) := by decide +kernel
theorem dX5_save_4 : decode cX5_save 4 = .ok (.aload_n 0, 1) := by decide +kernel
theorem dX5_save_5 : decode cX5_save 5 = .ok (.getfield 12, 3) := by decide +kernel
theorem dX5_save_8 : decode cX5_save 8 = .ok (.invokevirtual 257, 3) := by decide +kernel
theorem dX5_save_11 : decode cX5_save 11 = .ok (.aload_n 0, 1) := by decide +kernel
theorem dX5_save_12 : decode cX5_save 12 = .ok (.iconst 1, 1) := by decide +kernel
theorem dX5_save_13 : decode cX5_save 13 = .ok (.putfield 26, 3) := by decide +kernel
theorem dX5_save_16 : decode cX5_save 16 = .ok (.aload_n 0, 1) := by decide +kernel
theorem dX5_save_17 : decode cX5_save 17 = .ok (.getfield 12, 3) := by decide +kernel
theorem dX5_save_20 : decode cX5_save 20 = .ok (.getfield 223, 3) := by decide +kernel
theorem dX5_save_23 : decode cX5_save 23 = .ok (.ireturn, 1) := by decide +kernel
theorem dX5_restore_0 : decode cX5_restore 0 = .ok (.aload_n 0, 1) := by decide +kernel
theorem dX5_restore_1 : decode cX5_restore 1 = .ok (.getfield 26, 3) := by decide +kernel
theorem dX5_restore_4 : decode cX5_restore 4 = .ok (.ifCond .ne 14, 3) := by decide +kernel
theorem dX5_restore_7 : decode cX5_restore 7 = .ok (.new 181, 3) := by decide +kernel
theorem dX5_restore_10 : decode cX5_restore 10 = .ok (.dup, 1) := by decide +kernel
theorem dX5_restore_11 : decode cX5_restore 11 = .ok (.ldc_w 260, 3) := by decide +kernel
theorem dX5_restore_14 : decode cX5_restore 14 = .ok (.invokespecial 185, 3) := by decide +kernel
theorem dX5_restore_17 : decode cX5_restore 17 = .ok (.athrow, 1) := by decide +kernel
theorem dX5_restore_18 : decode cX5_restore 18 = .ok (.aload_n 0, 1) := by decide +kernel
theorem dX5_restore_19 : decode cX5_restore 19 = .ok (.getfield 12, 3) := by decide +kernel
theorem dX5_restore_22 : decode cX5_restore 22 = .ok (.aload_n 0, 1) := by decide +kernel
theorem dX5_restore_23 : decode cX5_restore 23 = .ok (.getfield 23, 3) := by decide +kernel
theorem dX5_restore_26 : decode cX5_restore 26 = .ok (.invokevirtual 257, 3) := by decide +kernel
theorem dX5_restore_29 : decode cX5_restore 29 = .ok (.aload_n 0, 1) := by decide +kernel
theorem dX5_restore_30 : decode cX5_restore 30 = .ok (.getfield 19, 3) := by decide +kernel
theorem dX5_restore_33 : decode cX5_restore 33 = .ok (.invokevirtual 262, 3) := by decide +kernel
theorem dX5_restore_36 : decode cX5_restore 36 = .ok (.aload_n 0, 1) := by decide +kernel
theorem dX5_restore_37 : decode cX5_restore 37 = .ok (.getfield 12, 3) := by decide +kernel
theorem dX5_restore_40 : decode cX5_restore 40 = .ok (.getfield 223, 3) := by decide +kernel
theorem dX5_restore_43 : decode cX5_restore 43 = .ok (.ireturn, 1) := by decide +kernel
theorem dX5_checkStone_0 : decode cX5_checkStone 0 = .ok (.iload_n 0, 1) := by decide +kernel
theorem dX5_checkStone_1 : decode cX5_checkStone 1 = .ok (.ifCond .lt 9, 3) := by decide +kernel
theorem dX5_checkStone_4 : decode cX5_checkStone 4 = .ok (.iload_n 0, 1) := by decide +kernel
theorem dX5_checkStone_5 : decode cX5_checkStone 5 = .ok (.bipush 10, 2) := by decide +kernel
theorem dX5_checkStone_7 : decode cX5_checkStone 7 = .ok (.if_icmp .lt 14, 3) := by decide +kernel
theorem dX5_checkStone_10 : decode cX5_checkStone 10 = .ok (.new 265, 3) := by decide +kernel
theorem dX5_checkStone_13 : decode cX5_checkStone 13 = .ok (.dup, 1) := by decide +kernel
theorem dX5_checkStone_14 : decode cX5_checkStone 14 = .ok (.ldc_w 267, 3) := by decide +kernel
theorem dX5_checkStone_17 : decode cX5_checkStone 17 = .ok (.invokespecial 269, 3) := by decide +kernel
theorem dX5_checkStone_20 : decode cX5_checkStone 20 = .ok (.athrow, 1) := by decide +kernel
theorem dX5_checkStone_21 : decode cX5_checkStone 21 = .ok (.return_, 1) := by decide +kernel
theorem dX5_checkRange_0 : decode cX5_checkRange 0 = .ok (.iload_n 0, 1) := by decide +kernel
theorem dX5_checkRange_1 : decode cX5_checkRange 1 = .ok (.iload_n 1, 1) := by decide +kernel
theorem dX5_checkRange_2 : decode cX5_checkRange 2 = .ok (.if_icmp .lt 8, 3) := by decide +kernel
theorem dX5_checkRange_5 : decode cX5_checkRange 5 = .ok (.iload_n 0, 1) := by decide +kernel
theorem dX5_checkRange_6 : decode cX5_checkRange 6 = .ok (.iload_n 2, 1) := by decide +kernel
theorem dX5_checkRange_7 : decode cX5_checkRange 7 = .ok (.if_icmp .le 14, 3) := by decide +kernel
theorem dX5_checkRange_10 : decode cX5_checkRange 10 = .ok (.new 200, 3) := by decide +kernel
theorem dX5_checkRange_13 : decode cX5_checkRange 13 = .ok (.dup, 1) := by decide +kernel
theorem dX5_checkRange_14 : decode cX5_checkRange 14 = .ok (.ldc_w 270, 3) := by decide +kernel
theorem dX5_checkRange_17 : decode cX5_checkRange 17 = .ok (.invokespecial 204, 3) := by decide +kernel
theorem dX5_checkRange_20 : decode cX5_checkRange 20 = .ok (.athrow, 1) := by decide +kernel
theorem dX5_checkRange_21 : decode cX5_checkRange 21 = .ok (.return_, 1) := by decide +kernel
theorem dX5_found_0 : decode cX5_found 0 = .ok (.iload_n 1, 1) := by decide +kernel
theorem dX5_found_1 : decode cX5_found 1 = .ok (.ifCond .lt 14, 3) := by decide +kernel
theorem dX5_found_4 : decode cX5_found 4 = .ok (.iload_n 1, 1) := by decide +kernel
theorem dX5_found_5 : decode cX5_found 5 = .ok (.aload_n 0, 1) := by decide +kernel
theorem dX5_found_6 : decode cX5_found 6 = .ok (.getfield 12, 3) := by decide +kernel
theorem dX5_found_9 : decode cX5_found 9 = .ok (.getfield 120, 3) := by decide +kernel
theorem dX5_found_12 : decode cX5_found 12 = .ok (.if_icmp .lt 14, 3) := by decide +kernel
theorem dX5_found_15 : decode cX5_found 15 = .ok (.new 265, 3) := by decide +kernel
theorem dX5_found_18 : decode cX5_found 18 = .ok (.dup, 1) := by decide +kernel
theorem dX5_found_19 : decode cX5_found 19 = .ok (.ldc_w 272, 3) := by decide +kernel
theorem dX5_found_22 : decode cX5_found 22 = .ok (.invokespecial 269, 3) := by decide +kernel
theorem dX5_found_25 : decode cX5_found 25 = .ok (.athrow, 1) := by decide +kernel
theorem dX5_found_26 : decode cX5_found 26 = .ok (.aload_n 0, 1) := by decide +kernel
theorem dX5_found_27 : decode cX5_found 27 = .ok (.getfield 12, 3) := by decide +kernel
theorem dX5_found_30 : decode cX5_found 30 = .ok (.getfield 274, 3) := by decide +kernel
theorem dX5_found_33 : decode cX5_found 33 = .ok (.iload_n 1, 1) := by decide +kernel
theorem dX5_found_34 : decode cX5_found 34 = .ok (.aaload, 1) := by decide +kernel
theorem dX5_found_35 : decode cX5_found 35 = .ok (.areturn, 1) := by decide +kernel
theorem dX5_refuse_0 : decode cX5_refuse 0 = .ok (.aload_n 0, 1) := by decide +kernel
theorem dX5_refuse_1 : decode cX5_refuse 1 = .ok (.iload_n 1, 1) := by decide +kernel
theorem dX5_refuse_2 : decode cX5_refuse 2 = .ok (.putfield 48, 3) := by decide +kernel
theorem dX5_refuse_5 : decode cX5_refuse 5 = .ok (.aload_n 0, 1) := by decide +kernel
theorem dX5_refuse_6 : decode cX5_refuse 6 = .ok (.iload_n 2, 1) := by decide +kernel
theorem dX5_refuse_7 : decode cX5_refuse 7 = .ok (.putfield 51, 3) := by decide +kernel
theorem dX5_refuse_10 : decode cX5_refuse 10 = .ok (.new 278, 3) := by decide +kernel
theorem dX5_refuse_13 : decode cX5_refuse 13 = .ok (.dup, 1) := by decide +kernel
theorem dX5_refuse_14 : decode cX5_refuse 14 = .ok (.ldc_w 280, 3) := by decide +kernel
theorem dX5_refuse_17 : decode cX5_refuse 17 = .ok (.invokespecial 282, 3) := by decide +kernel
theorem dX5_refuse_20 : decode cX5_refuse 20 = .ok (.athrow, 1) := by decide +kernel
theorem dX5_setStopped_0 : decode cX5_setStopped 0 = .ok (.aload_n 0, 1) := by decide +kernel
theorem dX5_setStopped_1 : decode cX5_setStopped 1 = .ok (.iload_n 1, 1) := by decide +kernel
theorem dX5_setStopped_2 : decode cX5_setStopped 2 = .ok (.invokevirtual 126, 3) := by decide +kernel
theorem dX5_setStopped_5 : decode cX5_setStopped 5 = .ok (.astore_n 3, 1) := by decide +kernel
theorem dX5_setStopped_6 : decode cX5_setStopped 6 = .ok (.aload_n 3, 1) := by decide +kernel
theorem dX5_setStopped_7 : decode cX5_setStopped 7 = .ok (.getfield 138, 3) := by decide +kernel
theorem dX5_setStopped_10 : decode cX5_setStopped 10 = .ok (.ifCond .ne 12, 3) := by decide +kernel
theorem dX5_setStopped_13 : decode cX5_setStopped 13 = .ok (.aload_n 0, 1) := by decide +kernel
theorem dX5_setStopped_14 : decode cX5_setStopped 14 = .ok (.iconst 3, 1) := by decide +kernel
theorem dX5_setStopped_15 : decode cX5_setStopped 15 = .ok (.aload_n 3, 1) := by decide +kernel
theorem dX5_setStopped_16 : decode cX5_setStopped 16 = .ok (.getfield 141, 3) := by decide +kernel
theorem dX5_setStopped_19 : decode cX5_setStopped 19 = .ok (.invokevirtual 73, 3) := by decide +kernel
theorem dX5_setStopped_22 : decode cX5_setStopped 22 = .ok (.aload_n 3, 1) := by decide +kernel
theorem dX5_setStopped_23 : decode cX5_setStopped 23 = .ok (.getfield 283, 3) := by decide +kernel
theorem dX5_setStopped_26 : decode cX5_setStopped 26 = .ok (.iload_n 2, 1) := by decide +kernel
theorem dX5_setStopped_27 : decode cX5_setStopped 27 = .ok (.if_icmp .ne 10, 3) := by decide +kernel
theorem dX5_setStopped_30 : decode cX5_setStopped 30 = .ok (.aload_n 0, 1) := by decide +kernel
theorem dX5_setStopped_31 : decode cX5_setStopped 31 = .ok (.bipush 7, 2) := by decide +kernel
theorem dX5_setStopped_33 : decode cX5_setStopped 33 = .ok (.iload_n 1, 1) := by decide +kernel
theorem dX5_setStopped_34 : decode cX5_setStopped 34 = .ok (.invokevirtual 73, 3) := by decide +kernel
theorem dX5_setStopped_37 : decode cX5_setStopped 37 = .ok (.aload_n 0, 1) := by decide +kernel
theorem dX5_setStopped_38 : decode cX5_setStopped 38 = .ok (.getfield 19, 3) := by decide +kernel
theorem dX5_setStopped_41 : decode cX5_setStopped 41 = .ok (.aload_n 0, 1) := by decide +kernel
theorem dX5_setStopped_42 : decode cX5_setStopped 42 = .ok (.getfield 12, 3) := by decide +kernel
theorem dX5_setStopped_45 : decode cX5_setStopped 45 = .ok (.invokevirtual 77, 3) := by decide +kernel
theorem dX5_setStopped_48 : decode cX5_setStopped 48 = .ok (.aload_n 3, 1) := by decide +kernel
theorem dX5_setStopped_49 : decode cX5_setStopped 49 = .ok (.iload_n 2, 1) := by decide +kernel
theorem dX5_setStopped_50 : decode cX5_setStopped 50 = .ok (.putfield 283, 3) := by decide +kernel
theorem dX5_setStopped_53 : decode cX5_setStopped 53 = .ok (.aload_n 3, 1) := by decide +kernel
theorem dX5_setStopped_54 : decode cX5_setStopped 54 = .ok (.getfield 141, 3) := by decide +kernel
theorem dX5_setStopped_57 : decode cX5_setStopped 57 = .ok (.ireturn, 1) := by decide +kernel
theorem dX5_keepAnswer_0 : decode cX5_keepAnswer 0 = .ok (.aload_n 0, 1) := by decide +kernel
theorem dX5_keepAnswer_1 : decode cX5_keepAnswer 1 = .ok (.iconst 0, 1) := by decide +kernel
theorem dX5_keepAnswer_2 : decode cX5_keepAnswer 2 = .ok (.putfield 45, 3) := by decide +kernel
theorem dX5_keepAnswer_5 : decode cX5_keepAnswer 5 = .ok (.iconst 0, 1) := by decide +kernel
theorem dX5_keepAnswer_6 : decode cX5_keepAnswer 6 = .ok (.istore_n 2, 1) := by decide +kernel
theorem dX5_keepAnswer_7 : decode cX5_keepAnswer 7 = .ok (.iload_n 2, 1) := by decide +kernel
theorem dX5_keepAnswer_8 : decode cX5_keepAnswer 8 = .ok (.bipush 8, 2) := by decide +kernel
theorem dX5_keepAnswer_10 : decode cX5_keepAnswer 10 = .ok (.if_icmp .ge 37, 3) := by decide +kernel
theorem dX5_keepAnswer_13 : decode cX5_keepAnswer 13 = .ok (.iload_n 1, 1) := by decide +kernel
theorem dX5_keepAnswer_14 : decode cX5_keepAnswer 14 = .ok (.iload_n 2, 1) := by decide +kernel
theorem dX5_keepAnswer_15 : decode cX5_keepAnswer 15 = .ok (.ishr, 1) := by decide +kernel
theorem dX5_keepAnswer_16 : decode cX5_keepAnswer 16 = .ok (.iconst 1, 1) := by decide +kernel
theorem dX5_keepAnswer_17 : decode cX5_keepAnswer 17 = .ok (.iand, 1) := by decide +kernel
theorem dX5_keepAnswer_18 : decode cX5_keepAnswer 18 = .ok (.ifCond .eq 23, 3) := by decide +kernel
theorem dX5_keepAnswer_21 : decode cX5_keepAnswer 21 = .ok (.aload_n 0, 1) := by decide +kernel
theorem dX5_keepAnswer_22 : decode cX5_keepAnswer 22 = .ok (.getfield 41, 3) := by decide +kernel
theorem dX5_keepAnswer_25 : decode cX5_keepAnswer 25 = .ok (.aload_n 0, 1) := by decide +kernel
theorem dX5_keepAnswer_26 : decode cX5_keepAnswer 26 = .ok (.getfield 45, 3) := by decide +kernel
theorem dX5_keepAnswer_29 : decode cX5_keepAnswer 29 = .ok (.iload_n 2, 1) := by decide +kernel
theorem dX5_keepAnswer_30 : decode cX5_keepAnswer 30 = .ok (.iastore, 1) := by decide +kernel
theorem dX5_keepAnswer_31 : decode cX5_keepAnswer 31 = .ok (.aload_n 0, 1) := by decide +kernel
theorem dX5_keepAnswer_32 : decode cX5_keepAnswer 32 = .ok (.dup, 1) := by decide +kernel
theorem dX5_keepAnswer_33 : decode cX5_keepAnswer 33 = .ok (.getfield 45, 3) := by decide +kernel
theorem dX5_keepAnswer_36 : decode cX5_keepAnswer 36 = .ok (.iconst 1, 1) := by decide +kernel
theorem dX5_keepAnswer_37 : decode cX5_keepAnswer 37 = .ok (.iadd, 1) := by decide +kernel
theorem dX5_keepAnswer_38 : decode cX5_keepAnswer 38 = .ok (.putfield 45, 3) := by decide +kernel
theorem dX5_keepAnswer_41 : decode cX5_keepAnswer 41 = .ok (.iinc 2 1, 3) := by decide +kernel
theorem dX5_keepAnswer_44 : decode cX5_keepAnswer 44 = .ok (.goto (-37), 3) := by decide +kernel
theorem dX5_keepAnswer_47 : decode cX5_keepAnswer 47 = .ok (.return_, 1) := by decide +kernel
theorem dX5_signOf_0 : decode cX5_signOf 0 = .ok (.aload_n 0, 1) := by decide +kernel
theorem dX5_signOf_1 : decode cX5_signOf 1 = .ok (.getfield 12, 3) := by decide +kernel
theorem dX5_signOf_4 : decode cX5_signOf 4 = .ok (.iload_n 1, 1) := by decide +kernel
theorem dX5_signOf_5 : decode cX5_signOf 5 = .ok (.invokevirtual 69, 3) := by decide +kernel
theorem dX5_signOf_8 : decode cX5_signOf 8 = .ok (.istore_n 2, 1) := by decide +kernel
theorem dX5_signOf_9 : decode cX5_signOf 9 = .ok (.iload_n 2, 1) := by decide +kernel
theorem dX5_signOf_10 : decode cX5_signOf 10 = .ok (.iconst (-1), 1) := by decide +kernel
theorem dX5_signOf_11 : decode cX5_signOf 11 = .ok (.if_icmp .eq 9, 3) := by decide +kernel
theorem dX5_signOf_14 : decode cX5_signOf 14 = .ok (.bipush 48, 2) := by decide +kernel
theorem dX5_signOf_16 : decode cX5_signOf 16 = .ok (.iload_n 2, 1) := by decide +kernel
theorem dX5_signOf_17 : decode cX5_signOf 17 = .ok (.iadd, 1) := by decide +kernel
theorem dX5_signOf_18 : decode cX5_signOf 18 = .ok (.i2c, 1) := by decide +kernel
theorem dX5_signOf_19 : decode cX5_signOf 19 = .ok (.ireturn, 1) := by decide +kernel
theorem dX5_signOf_20 : decode cX5_signOf 20 = .ok (.aload_n 0, 1) := by decide +kernel
theorem dX5_signOf_21 : decode cX5_signOf 21 = .ok (.getfield 12, 3) := by decide +kernel
theorem dX5_signOf_24 : decode cX5_signOf 24 = .ok (.iload_n 1, 1) := by decide +kernel
theorem dX5_signOf_25 : decode cX5_signOf 25 = .ok (.aload_n 0, 1) := by decide +kernel
theorem dX5_signOf_26 : decode cX5_signOf 26 = .ok (.getfield 12, 3) := by decide +kernel
theorem dX5_signOf_29 : decode cX5_signOf 29 = .ok (.getfield 93, 3) := by decide +kernel
theorem dX5_signOf_32 : decode cX5_signOf 32 = .ok (.invokevirtual 96, 3) := by decide +kernel
theorem dX5_signOf_35 : decode cX5_signOf 35 = .ok (.istore_n 3, 1) := by decide +kernel
theorem dX5_signOf_36 : decode cX5_signOf 36 = .ok (.iload_n 3, 1) := by decide +kernel
theorem dX5_signOf_37 : decode cX5_signOf 37 = .ok (.iconst 2, 1) := by decide +kernel
theorem dX5_signOf_38 : decode cX5_signOf 38 = .ok (.if_icmp .ne 6, 3) := by decide +kernel
theorem dX5_signOf_41 : decode cX5_signOf 41 = .ok (.bipush 95, 2) := by decide +kernel
theorem dX5_signOf_43 : decode cX5_signOf 43 = .ok (.ireturn, 1) := by decide +kernel
theorem dX5_signOf_44 : decode cX5_signOf 44 = .ok (.iload_n 3, 1) := by decide +kernel
theorem dX5_signOf_45 : decode cX5_signOf 45 = .ok (.iconst 1, 1) := by decide +kernel
theorem dX5_signOf_46 : decode cX5_signOf 46 = .ok (.if_icmp .ne 8, 3) := by decide +kernel
theorem dX5_signOf_49 : decode cX5_signOf 49 = .ok (.bipush 126, 2) := by decide +kernel
theorem dX5_signOf_51 : decode cX5_signOf 51 = .ok (.goto 5, 3) := by decide +kernel
theorem dX5_signOf_54 : decode cX5_signOf 54 = .ok (.bipush 46, 2) := by decide +kernel
theorem dX5_signOf_56 : decode cX5_signOf 56 = .ok (.ireturn, 1) := by decide +kernel
theorem dX5_writeDigit_0 : decode cX5_writeDigit 0 = .ok (.aload_n 0, 1) := by decide +kernel
theorem dX5_writeDigit_1 : decode cX5_writeDigit 1 = .ok (.getfield 58, 3) := by decide +kernel
theorem dX5_writeDigit_4 : decode cX5_writeDigit 4 = .ok (.bipush 13, 2) := by decide +kernel
theorem dX5_writeDigit_6 : decode cX5_writeDigit 6 = .ok (.if_icmp .ge 27, 3) := by decide +kernel
theorem dX5_writeDigit_9 : decode cX5_writeDigit 9 = .ok (.aload_n 0, 1) := by decide +kernel
theorem dX5_writeDigit_10 : decode cX5_writeDigit 10 = .ok (.getfield 54, 3) := by decide +kernel
theorem dX5_writeDigit_13 : decode cX5_writeDigit 13 = .ok (.aload_n 0, 1) := by decide +kernel
theorem dX5_writeDigit_14 : decode cX5_writeDigit 14 = .ok (.getfield 58, 3) := by decide +kernel
theorem dX5_writeDigit_17 : decode cX5_writeDigit 17 = .ok (.bipush 48, 2) := by decide +kernel
theorem dX5_writeDigit_19 : decode cX5_writeDigit 19 = .ok (.iload_n 1, 1) := by decide +kernel
theorem dX5_writeDigit_20 : decode cX5_writeDigit 20 = .ok (.iadd, 1) := by decide +kernel
theorem dX5_writeDigit_21 : decode cX5_writeDigit 21 = .ok (.i2c, 1) := by decide +kernel
theorem dX5_writeDigit_22 : decode cX5_writeDigit 22 = .ok (.castore, 1) := by decide +kernel
theorem dX5_writeDigit_23 : decode cX5_writeDigit 23 = .ok (.aload_n 0, 1) := by decide +kernel
theorem dX5_writeDigit_24 : decode cX5_writeDigit 24 = .ok (.dup, 1) := by decide +kernel
theorem dX5_writeDigit_25 : decode cX5_writeDigit 25 = .ok (.getfield 58, 3) := by decide +kernel
theorem dX5_writeDigit_28 : decode cX5_writeDigit 28 = .ok (.iconst 1, 1) := by decide +kernel
theorem dX5_writeDigit_29 : decode cX5_writeDigit 29 = .ok (.iadd, 1) := by decide +kernel
theorem dX5_writeDigit_30 : decode cX5_writeDigit 30 = .ok (.putfield 58, 3) := by decide +kernel
theorem dX5_writeDigit_33 : decode cX5_writeDigit 33 = .ok (.return_, 1) := by decide +kernel
theorem dX5_isStone_0 : decode cX5_isStone 0 = .ok (.iload_n 0, 1) := by decide +kernel
theorem dX5_isStone_1 : decode cX5_isStone 1 = .ok (.ifCond .lt 13, 3) := by decide +kernel
theorem dX5_isStone_4 : decode cX5_isStone 4 = .ok (.iload_n 0, 1) := by decide +kernel
theorem dX5_isStone_5 : decode cX5_isStone 5 = .ok (.bipush 10, 2) := by decide +kernel
theorem dX5_isStone_7 : decode cX5_isStone 7 = .ok (.if_icmp .ge 7, 3) := by decide +kernel
theorem dX5_isStone_10 : decode cX5_isStone 10 = .ok (.iconst 1, 1) := by decide +kernel
theorem dX5_isStone_11 : decode cX5_isStone 11 = .ok (.goto 4, 3) := by decide +kernel
theorem dX5_isStone_14 : decode cX5_isStone 14 = .ok (.iconst 0, 1) := by decide +kernel
theorem dX5_isStone_15 : decode cX5_isStone 15 = .ok (.ireturn, 1) := by decide +kernel
theorem dX6_init_0 : decode cX6_init 0 = .ok (.aload_n 0, 1) := by decide +kernel
theorem dX6_init_1 : decode cX6_init 1 = .ok (.invokespecial 3, 3) := by decide +kernel
theorem dX6_init_4 : decode cX6_init 4 = .ok (.aload_n 0, 1) := by decide +kernel
theorem dX6_init_5 : decode cX6_init 5 = .ok (.bipush 84, 2) := by decide +kernel
theorem dX6_init_7 : decode cX6_init 7 = .ok (.newarray .int, 2) := by decide +kernel
theorem dX6_init_9 : decode cX6_init 9 = .ok (.putfield 9, 3) := by decide +kernel
theorem dX6_init_12 : decode cX6_init 12 = .ok (.aload_n 0, 1) := by decide +kernel
theorem dX6_init_13 : decode cX6_init 13 = .ok (.bipush 84, 2) := by decide +kernel
theorem dX6_init_15 : decode cX6_init 15 = .ok (.newarray .int, 2) := by decide +kernel
theorem dX6_init_17 : decode cX6_init 17 = .ok (.putfield 13, 3) := by decide +kernel
theorem dX6_init_20 : decode cX6_init 20 = .ok (.aload_n 0, 1) := by decide +kernel
theorem dX6_init_21 : decode cX6_init 21 = .ok (.bipush 84, 2) := by decide +kernel
theorem dX6_init_23 : decode cX6_init 23 = .ok (.newarray .int, 2) := by decide +kernel
theorem dX6_init_25 : decode cX6_init 25 = .ok (.putfield 16, 3) := by decide +kernel
theorem dX6_init_28 : decode cX6_init 28 = .ok (.aload_n 0, 1) := by decide +kernel
theorem dX6_init_29 : decode cX6_init 29 = .ok (.sipush 672, 3) := by decide +kernel
theorem dX6_init_32 : decode cX6_init 32 = .ok (.newarray .int, 2) := by decide +kernel
theorem dX6_init_34 : decode cX6_init 34 = .ok (.putfield 19, 3) := by decide +kernel
theorem dX6_init_37 : decode cX6_init 37 = .ok (.aload_n 0, 1) := by decide +kernel
theorem dX6_init_38 : decode cX6_init 38 = .ok (.bipush 84, 2) := by decide +kernel
theorem dX6_init_40 : decode cX6_init 40 = .ok (.newarray .int, 2) := by decide +kernel
theorem dX6_init_42 : decode cX6_init 42 = .ok (.putfield 22, 3) := by decide +kernel
theorem dX6_init_45 : decode cX6_init 45 = .ok (.aload_n 0, 1) := by decide +kernel
theorem dX6_init_46 : decode cX6_init 46 = .ok (.bipush 13, 2) := by decide +kernel
theorem dX6_init_48 : decode cX6_init 48 = .ok (.newarray .char, 2) := by decide +kernel
theorem dX6_init_50 : decode cX6_init 50 = .ok (.putfield 25, 3) := by decide +kernel
theorem dX6_init_53 : decode cX6_init 53 = .ok (.aload_n 0, 1) := by decide +kernel
theorem dX6_init_54 : decode cX6_init 54 = .ok (.bipush 60, 2) := by decide +kernel
theorem dX6_init_56 : decode cX6_init 56 = .ok (.newarray .char, 2) := by decide +kernel
theorem dX6_init_58 : decode cX6_init 58 = .ok (.putfield 29, 3) := by decide +kernel
theorem dX6_init_61 : decode cX6_init 61 = .ok (.aload_n 0, 1) := by decide +kernel
theorem dX6_init_62 : decode cX6_init 62 = .ok (.bipush 64, 2) := by decide +kernel
theorem dX6_init_64 : decode cX6_init 64 = .ok (.newarray .int, 2) := by decide +kernel
theorem dX6_init_66 : decode cX6_init 66 = .ok (.putfield 32, 3) := by decide +kernel
theorem dX6_init_69 : decode cX6_init 69 = .ok (.aload_n 0, 1) := by decide +kernel
theorem dX6_init_70 : decode cX6_init 70 = .ok (.bipush 64, 2) := by decide +kernel
theorem dX6_init_72 : decode cX6_init 72 = .ok (.newarray .boolean, 2) := by decide +kernel
theorem dX6_init_74 : decode cX6_init 74 = .ok (.putfield 35, 3) := by decide +kernel
theorem dX6_init_77 : decode cX6_init 77 = .ok (.aload_n 0, 1) := by decide +kernel
theorem dX6_init_78 : decode cX6_init 78 = .ok (.bipush 8, 2) := by decide +kernel
theorem dX6_init_80 : decode cX6_init 80 = .ok (.newarray .int, 2) := by decide +kernel
theorem dX6_init_82 : decode cX6_init 82 = .ok (.putfield 39, 3) := by decide +kernel
theorem dX6_init_85 : decode cX6_init 85 = .ok (.aload_n 0, 1) := by decide +kernel
theorem dX6_init_86 : decode cX6_init 86 = .ok (.iconst (-1), 1) := by decide +kernel
theorem dX6_init_87 : decode cX6_init 87 = .ok (.putfield 42, 3) := by decide +kernel
theorem dX6_init_90 : decode cX6_init 90 = .ok (.iconst 0, 1) := by decide +kernel
theorem dX6_init_91 : decode cX6_init 91 = .ok (.istore_n 1, 1) := by decide +kernel
theorem dX6_init_92 : decode cX6_init 92 = .ok (.iload_n 1, 1) := by decide +kernel
theorem dX6_init_93 : decode cX6_init 93 = .ok (.bipush 10, 2) := by decide +kernel
theorem dX6_init_95 : decode cX6_init 95 = .ok (.if_icmp .ge 20, 3) := by decide +kernel
theorem dX6_init_98 : decode cX6_init 98 = .ok (.aload_n 0, 1) := by decide +kernel
theorem dX6_init_99 : decode cX6_init 99 = .ok (.getfield 9, 3) := by decide +kernel
theorem dX6_init_102 : decode cX6_init 102 = .ok (.bipush 10, 2) := by decide +kernel
theorem dX6_init_104 : decode cX6_init 104 = .ok (.iload_n 1, 1) := by decide +kernel
theorem dX6_init_105 : decode cX6_init 105 = .ok (.iadd, 1) := by decide +kernel
theorem dX6_init_106 : decode cX6_init 106 = .ok (.bipush 10, 2) := by decide +kernel
theorem dX6_init_108 : decode cX6_init 108 = .ok (.iastore, 1) := by decide +kernel
theorem dX6_init_109 : decode cX6_init 109 = .ok (.iinc 1 1, 3) := by decide +kernel
theorem dX6_init_112 : decode cX6_init 112 = .ok (.goto (-20), 3) := by decide +kernel
theorem dX6_init_115 : decode cX6_init 115 = .ok (.aload_n 0, 1) := by decide +kernel
theorem dX6_init_116 : decode cX6_init 116 = .ok (.getfield 9, 3) := by decide +kernel
theorem dX6_init_119 : decode cX6_init 119 = .ok (.iconst 1, 1) := by decide +kernel
theorem dX6_init_120 : decode cX6_init 120 = .ok (.iconst 4, 1) := by decide +kernel
theorem dX6_init_121 : decode cX6_init 121 = .ok (.iastore, 1) := by decide +kernel
theorem dX6_init_122 : decode cX6_init 122 = .ok (.return_, 1) := by decide +kernel
theorem dX6_thrown_0 : decode cX6_thrown 0 = .ok (.aload_n 0, 1) := by decide +kernel
theorem dX6_thrown_1 : decode cX6_thrown 1 = .ok (.getfield 46, 3) := by decide +kernel
theorem dX6_thrown_4 : decode cX6_thrown 4 = .ok (.ireturn, 1) := by decide +kernel
theorem dX6_raises_0 : decode cX6_raises 0 = .ok (.aload_n 0, 1) := by decide +kernel
theorem dX6_raises_1 : decode cX6_raises 1 = .ok (.iload_n 1, 1) := by decide +kernel
theorem dX6_raises_2 : decode cX6_raises 2 = .ok (.putfield 46, 3) := by decide +kernel
theorem dX6_raises_5 : decode cX6_raises 5 = .ok (.iconst 0, 1) := by decide +kernel
theorem dX6_raises_6 : decode cX6_raises 6 = .ok (.ireturn, 1) := by decide +kernel
theorem dX6_in_0 : decode cX6_in 0 = .ok (.iload_n 0, 1) := by decide +kernel
theorem dX6_in_1 : decode cX6_in 1 = .ok (.iload_n 1, 1) := by decide +kernel
theorem dX6_in_2 : decode cX6_in 2 = .ok (.if_icmp .lt 12, 3) := by decide +kernel
theorem dX6_in_5 : decode cX6_in 5 = .ok (.iload_n 0, 1) := by decide +kernel
theorem dX6_in_6 : decode cX6_in 6 = .ok (.iload_n 2, 1) := by decide +kernel
theorem dX6_in_7 : decode cX6_in 7 = .ok (.if_icmp .gt 7, 3) := by decide +kernel
theorem dX6_in_10 : decode cX6_in 10 = .ok (.iconst 1, 1) := by decide +kernel
theorem dX6_in_11 : decode cX6_in 11 = .ok (.goto 4, 3) := by decide +kernel
theorem dX6_in_14 : decode cX6_in 14 = .ok (.iconst 0, 1) := by decide +kernel
theorem dX6_in_15 : decode cX6_in 15 = .ok (.ireturn, 1) := by decide +kernel
theorem dX6_tries_0 : decode cX6_tries 0 = .ok (.aload_n 0, 1) := by decide +kernel
theorem dX6_tries_1 : decode cX6_tries 1 = .ok (.iconst 0, 1) := by decide +kernel
theorem dX6_tries_2 : decode cX6_tries 2 = .ok (.putfield 46, 3) := by decide +kernel
theorem dX6_tries_5 : decode cX6_tries 5 = .ok (.iconst 0, 1) := by decide +kernel
theorem dX6_tries_6 : decode cX6_tries 6 = .ok (.istore_n 1, 1) := by decide +kernel
theorem dX6_tries_7 : decode cX6_tries 7 = .ok (.iload_n 1, 1) := by decide +kernel
theorem dX6_tries_8 : decode cX6_tries 8 = .ok (.bipush 84, 2) := by decide +kernel
theorem dX6_tries_10 : decode cX6_tries 10 = .ok (.if_icmp .ge 21, 3) := by decide +kernel
theorem dX6_tries_13 : decode cX6_tries 13 = .ok (.aload_n 0, 1) := by decide +kernel
theorem dX6_tries_14 : decode cX6_tries 14 = .ok (.getfield 13, 3) := by decide +kernel
theorem dX6_tries_17 : decode cX6_tries 17 = .ok (.iload_n 1, 1) := by decide +kernel
theorem dX6_tries_18 : decode cX6_tries 18 = .ok (.aload_n 0, 1) := by decide +kernel
theorem dX6_tries_19 : decode cX6_tries 19 = .ok (.getfield 9, 3) := by decide +kernel
theorem dX6_tries_22 : decode cX6_tries 22 = .ok (.iload_n 1, 1) := by decide +kernel
theorem dX6_tries_23 : decode cX6_tries 23 = .ok (.iaload, 1) := by decide +kernel
theorem dX6_tries_24 : decode cX6_tries 24 = .ok (.iastore, 1) := by decide +kernel
theorem dX6_tries_25 : decode cX6_tries 25 = .ok (.iinc 1 1, 3) := by decide +kernel
theorem dX6_tries_28 : decode cX6_tries 28 = .ok (.goto (-21), 3) := by decide +kernel
theorem dX6_tries_31 : decode cX6_tries 31 = .ok (.return_, 1) := by decide +kernel
theorem dX6_thinks_0 : decode cX6_thinks 0 = .ok (.iconst 0, 1) := by decide +kernel
theorem dX6_thinks_1 : decode cX6_thinks 1 = .ok (.istore_n 1, 1) := by decide +kernel
theorem dX6_thinks_2 : decode cX6_thinks 2 = .ok (.iload_n 1, 1) := by decide +kernel
theorem dX6_thinks_3 : decode cX6_thinks 3 = .ok (.bipush 84, 2) := by decide +kernel
theorem dX6_thinks_5 : decode cX6_thinks 5 = .ok (.if_icmp .ge 21, 3) := by decide +kernel
theorem dX6_thinks_8 : decode cX6_thinks 8 = .ok (.aload_n 0, 1) := by decide +kernel
theorem dX6_thinks_9 : decode cX6_thinks 9 = .ok (.getfield 16, 3) := by decide +kernel
theorem dX6_thinks_12 : decode cX6_thinks 12 = .ok (.iload_n 1, 1) := by decide +kernel
theorem dX6_thinks_13 : decode cX6_thinks 13 = .ok (.aload_n 0, 1) := by decide +kernel
theorem dX6_thinks_14 : decode cX6_thinks 14 = .ok (.getfield 9, 3) := by decide +kernel
theorem dX6_thinks_17 : decode cX6_thinks 17 = .ok (.iload_n 1, 1) := by decide +kernel
theorem dX6_thinks_18 : decode cX6_thinks 18 = .ok (.iaload, 1) := by decide +kernel
theorem dX6_thinks_19 : decode cX6_thinks 19 = .ok (.iastore, 1) := by decide +kernel
theorem dX6_thinks_20 : decode cX6_thinks 20 = .ok (.iinc 1 1, 3) := by decide +kernel
theorem dX6_thinks_23 : decode cX6_thinks 23 = .ok (.goto (-21), 3) := by decide +kernel
theorem dX6_thinks_26 : decode cX6_thinks 26 = .ok (.return_, 1) := by decide +kernel
theorem dX6_thinksNoMore_0 : decode cX6_thinksNoMore 0 = .ok (.iconst 0, 1) := by decide +kernel
theorem dX6_thinksNoMore_1 : decode cX6_thinksNoMore 1 = .ok (.istore_n 1, 1) := by decide +kernel
theorem dX6_thinksNoMore_2 : decode cX6_thinksNoMore 2 = .ok (.iload_n 1, 1) := by decide +kernel
theorem dX6_thinksNoMore_3 : decode cX6_thinksNoMore 3 = .ok (.bipush 84, 2) := by decide +kernel
theorem dX6_thinksNoMore_5 : decode cX6_thinksNoMore 5 = .ok (.if_icmp .ge 21, 3) := by decide +kernel
theorem dX6_thinksNoMore_8 : decode cX6_thinksNoMore 8 = .ok (.aload_n 0, 1) := by decide +kernel
theorem dX6_thinksNoMore_9 : decode cX6_thinksNoMore 9 = .ok (.getfield 9, 3) := by decide +kernel
theorem dX6_thinksNoMore_12 : decode cX6_thinksNoMore 12 = .ok (.iload_n 1, 1) := by decide +kernel
theorem dX6_thinksNoMore_13 : decode cX6_thinksNoMore 13 = .ok (.aload_n 0, 1) := by decide +kernel
theorem dX6_thinksNoMore_14 : decode cX6_thinksNoMore 14 = .ok (.getfield 16, 3) := by decide +kernel
theorem dX6_thinksNoMore_17 : decode cX6_thinksNoMore 17 = .ok (.iload_n 1, 1) := by decide +kernel
theorem dX6_thinksNoMore_18 : decode cX6_thinksNoMore 18 = .ok (.iaload, 1) := by decide +kernel
theorem dX6_thinksNoMore_19 : decode cX6_thinksNoMore 19 = .ok (.iastore, 1) := by decide +kernel
theorem dX6_thinksNoMore_20 : decode cX6_thinksNoMore 20 = .ok (.iinc 1 1, 3) := by decide +kernel
theorem dX6_thinksNoMore_23 : decode cX6_thinksNoMore 23 = .ok (.goto (-21), 3) := by decide +kernel
theorem dX6_thinksNoMore_26 : decode cX6_thinksNoMore 26 = .ok (.return_, 1) := by decide +kernel
theorem dX6_keeps_0 : decode cX6_keeps 0 = .ok (.aload_n 0, 1) := by decide +kernel
theorem dX6_keeps_1 : decode cX6_keeps 1 = .ok (.getfield 49, 3) := by decide +kernel
theorem dX6_keeps_4 : decode cX6_keeps 4 = .ok (.bipush 8, 2) := by decide +kernel
theorem dX6_keeps_6 : decode cX6_keeps 6 = .ok (.if_icmp .ne 43, 3) := by decide +kernel
theorem dX6_keeps_9 : decode cX6_keeps 9 = .ok (.iconst 0, 1) := by decide +kernel
theorem dX6_keeps_10 : decode cX6_keeps 10 = .ok (.istore_n 2, 1) := by decide +kernel
theorem dX6_keeps_11 : decode cX6_keeps 11 = .ok (.iload_n 2, 1) := by decide +kernel
theorem dX6_keeps_12 : decode cX6_keeps 12 = .ok (.sipush 588, 3) := by decide +kernel
theorem dX6_keeps_15 : decode cX6_keeps 15 = .ok (.if_icmp .ge 24, 3) := by decide +kernel
theorem dX6_keeps_18 : decode cX6_keeps 18 = .ok (.aload_n 0, 1) := by decide +kernel
theorem dX6_keeps_19 : decode cX6_keeps 19 = .ok (.getfield 19, 3) := by decide +kernel
theorem dX6_keeps_22 : decode cX6_keeps 22 = .ok (.iload_n 2, 1) := by decide +kernel
theorem dX6_keeps_23 : decode cX6_keeps 23 = .ok (.aload_n 0, 1) := by decide +kernel
theorem dX6_keeps_24 : decode cX6_keeps 24 = .ok (.getfield 19, 3) := by decide +kernel
theorem dX6_keeps_27 : decode cX6_keeps 27 = .ok (.bipush 84, 2) := by decide +kernel
theorem dX6_keeps_29 : decode cX6_keeps 29 = .ok (.iload_n 2, 1) := by decide +kernel
theorem dX6_keeps_30 : decode cX6_keeps 30 = .ok (.iadd, 1) := by decide +kernel
theorem dX6_keeps_31 : decode cX6_keeps 31 = .ok (.iaload, 1) := by decide +kernel
theorem dX6_keeps_32 : decode cX6_keeps 32 = .ok (.iastore, 1) := by decide +kernel
theorem dX6_keeps_33 : decode cX6_keeps 33 = .ok (.iinc 2 1, 3) := by decide +kernel
theorem dX6_keeps_36 : decode cX6_keeps 36 = .ok (.goto (-25), 3) := by decide +kernel
theorem dX6_keeps_39 : decode cX6_keeps 39 = .ok (.aload_n 0, 1) := by decide +kernel
theorem dX6_keeps_40 : decode cX6_keeps 40 = .ok (.dup, 1) := by decide +kernel
theorem dX6_keeps_41 : decode cX6_keeps 41 = .ok (.getfield 49, 3) := by decide +kernel
theorem dX6_keeps_44 : decode cX6_keeps 44 = .ok (.iconst 1, 1) := by decide +kernel
theorem dX6_keeps_45 : decode cX6_keeps 45 = .ok (.isub, 1) := by decide +kernel
theorem dX6_keeps_46 : decode cX6_keeps 46 = .ok (.putfield 49, 3) := by decide +kernel
theorem dX6_keeps_49 : decode cX6_keeps 49 = .ok (.iconst 0, 1) := by decide +kernel
theorem dX6_keeps_50 : decode cX6_keeps 50 = .ok (.istore_n 2, 1) := by decide +kernel
theorem dX6_keeps_51 : decode cX6_keeps 51 = .ok (.iload_n 2, 1) := by decide +kernel
theorem dX6_keeps_52 : decode cX6_keeps 52 = .ok (.bipush 84, 2) := by decide +kernel
theorem dX6_keeps_54 : decode cX6_keeps 54 = .ok (.if_icmp .ge 29, 3) := by decide +kernel
theorem dX6_keeps_57 : decode cX6_keeps 57 = .ok (.aload_n 0, 1) := by decide +kernel
theorem dX6_keeps_58 : decode cX6_keeps 58 = .ok (.getfield 19, 3) := by decide +kernel
theorem dX6_keeps_61 : decode cX6_keeps 61 = .ok (.bipush 84, 2) := by decide +kernel
theorem dX6_keeps_63 : decode cX6_keeps 63 = .ok (.aload_n 0, 1) := by decide +kernel
theorem dX6_keeps_64 : decode cX6_keeps 64 = .ok (.getfield 49, 3) := by decide +kernel
theorem dX6_keeps_67 : decode cX6_keeps 67 = .ok (.imul, 1) := by decide +kernel
theorem dX6_keeps_68 : decode cX6_keeps 68 = .ok (.iload_n 2, 1) := by decide +kernel
theorem dX6_keeps_69 : decode cX6_keeps 69 = .ok (.iadd, 1) := by decide +kernel
theorem dX6_keeps_70 : decode cX6_keeps 70 = .ok (.aload_n 0, 1) := by decide +kernel
theorem dX6_keeps_71 : decode cX6_keeps 71 = .ok (.getfield 13, 3) := by decide +kernel
theorem dX6_keeps_74 : decode cX6_keeps 74 = .ok (.iload_n 2, 1) := by decide +kernel
theorem dX6_keeps_75 : decode cX6_keeps 75 = .ok (.iaload, 1) := by decide +kernel
theorem dX6_keeps_76 : decode cX6_keeps 76 = .ok (.iastore, 1) := by decide +kernel
theorem dX6_keeps_77 : decode cX6_keeps 77 = .ok (.iinc 2 1, 3) := by decide +kernel
theorem dX6_keeps_80 : decode cX6_keeps 80 = .ok (.goto (-29), 3) := by decide +kernel
theorem dX6_keeps_83 : decode cX6_keeps 83 = .ok (.aload_n 0, 1) := by decide +kernel
theorem dX6_keeps_84 : decode cX6_keeps 84 = .ok (.dup, 1) := by decide +kernel
theorem dX6_keeps_85 : decode cX6_keeps 85 = .ok (.getfield 49, 3) := by decide +kernel
theorem dX6_keeps_88 : decode cX6_keeps 88 = .ok (.iconst 1, 1) := by decide +kernel
theorem dX6_keeps_89 : decode cX6_keeps 89 = .ok (.iadd, 1) := by decide +kernel
theorem dX6_keeps_90 : decode cX6_keeps 90 = .ok (.putfield 49, 3) := by decide +kernel
theorem dX6_keeps_93 : decode cX6_keeps 93 = .ok (.iload_n 1, 1) := by decide +kernel
theorem dX6_keeps_94 : decode cX6_keeps 94 = .ok (.ireturn, 1) := by decide +kernel
theorem dX6_refuses_0 : decode cX6_refuses 0 = .ok (.aload_n 0, 1) := by decide +kernel
theorem dX6_refuses_1 : decode cX6_refuses 1 = .ok (.iload_n 2, 1) := by decide +kernel
theorem dX6_refuses_2 : decode cX6_refuses 2 = .ok (.putfield 52, 3) := by decide +kernel
theorem dX6_refuses_5 : decode cX6_refuses 5 = .ok (.aload_n 0, 1) := by decide +kernel
theorem dX6_refuses_6 : decode cX6_refuses 6 = .ok (.iload_n 3, 1) := by decide +kernel
theorem dX6_refuses_7 : decode cX6_refuses 7 = .ok (.putfield 55, 3) := by decide +kernel
theorem dX6_refuses_10 : decode cX6_refuses 10 = .ok (.aload_n 0, 1) := by decide +kernel
theorem dX6_refuses_11 : decode cX6_refuses 11 = .ok (.iload_n 1, 1) := by decide +kernel
theorem dX6_refuses_12 : decode cX6_refuses 12 = .ok (.invokevirtual 58, 3) := by decide +kernel
theorem dX6_refuses_15 : decode cX6_refuses 15 = .ok (.ireturn, 1) := by decide +kernel
theorem dX6_isStone_0 : decode cX6_isStone 0 = .ok (.iload_n 0, 1) := by decide +kernel
theorem dX6_isStone_1 : decode cX6_isStone 1 = .ok (.iconst 0, 1) := by decide +kernel
theorem dX6_isStone_2 : decode cX6_isStone 2 = .ok (.bipush 9, 2) := by decide +kernel
theorem dX6_isStone_4 : decode cX6_isStone 4 = .ok (.invokestatic 62, 3) := by decide +kernel
theorem dX6_isStone_7 : decode cX6_isStone 7 = .ok (.ireturn, 1) := by decide +kernel
theorem dX6_isTraveller_0 : decode cX6_isTraveller 0 = .ok (.iload_n 1, 1) := by decide +kernel
theorem dX6_isTraveller_1 : decode cX6_isTraveller 1 = .ok (.iconst 0, 1) := by decide +kernel
theorem dX6_isTraveller_2 : decode cX6_isTraveller 2 = .ok (.aload_n 0, 1) := by decide +kernel
theorem dX6_isTraveller_3 : decode cX6_isTraveller 3 = .ok (.getfield 9, 3) := by decide +kernel
theorem dX6_isTraveller_6 : decode cX6_isTraveller 6 = .ok (.iconst 3, 1) := by decide +kernel
theorem dX6_isTraveller_7 : decode cX6_isTraveller 7 = .ok (.iaload, 1) := by decide +kernel
theorem dX6_isTraveller_8 : decode cX6_isTraveller 8 = .ok (.iconst 1, 1) := by decide +kernel
theorem dX6_isTraveller_9 : decode cX6_isTraveller 9 = .ok (.isub, 1) := by decide +kernel
theorem dX6_isTraveller_10 : decode cX6_isTraveller 10 = .ok (.invokestatic 62, 3) := by decide +kernel
theorem dX6_isTraveller_13 : decode cX6_isTraveller 13 = .ok (.ireturn, 1) := by decide +kernel
theorem dX6_of_0 : decode cX6_of 0 = .ok (.aload_n 0, 1) := by decide +kernel
theorem dX6_of_1 : decode cX6_of 1 = .ok (.getfield 9, 3) := by decide +kernel
theorem dX6_of_4 : decode cX6_of 4 = .ok (.bipush 20, 2) := by decide +kernel
theorem dX6_of_6 : decode cX6_of 6 = .ok (.bipush 8, 2) := by decide +kernel
theorem dX6_of_8 : decode cX6_of 8 = .ok (.iload_n 1, 1) := by decide +kernel
theorem dX6_of_9 : decode cX6_of 9 = .ok (.imul, 1) := by decide +kernel
theorem dX6_of_10 : decode cX6_of 10 = .ok (.iadd, 1) := by decide +kernel
theorem dX6_of_11 : decode cX6_of 11 = .ok (.iload_n 2, 1) := by decide +kernel
theorem dX6_of_12 : decode cX6_of 12 = .ok (.iadd, 1) := by decide +kernel
theorem dX6_of_13 : decode cX6_of 13 = .ok (.iaload, 1) := by decide +kernel
theorem dX6_of_14 : decode cX6_of 14 = .ok (.ireturn, 1) := by decide +kernel
theorem dX6_sets_0 : decode cX6_sets 0 = .ok (.aload_n 0, 1) := by decide +kernel
theorem dX6_sets_1 : decode cX6_sets 1 = .ok (.getfield 9, 3) := by decide +kernel
theorem dX6_sets_4 : decode cX6_sets 4 = .ok (.bipush 20, 2) := by decide +kernel
theorem dX6_sets_6 : decode cX6_sets 6 = .ok (.bipush 8, 2) := by decide +kernel
theorem dX6_sets_8 : decode cX6_sets 8 = .ok (.iload_n 1, 1) := by decide +kernel
theorem dX6_sets_9 : decode cX6_sets 9 = .ok (.imul, 1) := by decide +kernel
theorem dX6_sets_10 : decode cX6_sets 10 = .ok (.iadd, 1) := by decide +kernel
theorem dX6_sets_11 : decode cX6_sets 11 = .ok (.iload_n 2, 1) := by decide +kernel
theorem dX6_sets_12 : decode cX6_sets 12 = .ok (.iadd, 1) := by decide +kernel
theorem dX6_sets_13 : decode cX6_sets 13 = .ok (.iload_n 3, 1) := by decide +kernel
theorem dX6_sets_14 : decode cX6_sets 14 = .ok (.iastore, 1) := by decide +kernel
theorem dX6_sets_15 : decode cX6_sets 15 = .ok (.return_, 1) := by decide +kernel
theorem dX6_wets_0 : decode cX6_wets 0 = .ok (.aload_n 0, 1) := by decide +kernel
theorem dX6_wets_1 : decode cX6_wets 1 = .ok (.iload_n 1, 1) := by decide +kernel
theorem dX6_wets_2 : decode cX6_wets 2 = .ok (.iconst 1, 1) := by decide +kernel
theorem dX6_wets_3 : decode cX6_wets 3 = .ok (.iconst 0, 1) := by decide +kernel
theorem dX6_wets_4 : decode cX6_wets 4 = .ok (.bipush 20, 2) := by decide +kernel
theorem dX6_wets_6 : decode cX6_wets 6 = .ok (.aload_n 0, 1) := by decide +kernel
theorem dX6_wets_7 : decode cX6_wets 7 = .ok (.iload_n 1, 1) := by decide +kernel
theorem dX6_wets_8 : decode cX6_wets 8 = .ok (.iconst 1, 1) := by decide +kernel
theorem dX6_wets_9 : decode cX6_wets 9 = .ok (.invokevirtual 66, 3) := by decide +kernel
theorem dX6_wets_12 : decode cX6_wets 12 = .ok (.iload_n 2, 1) := by decide +kernel
theorem dX6_wets_13 : decode cX6_wets 13 = .ok (.iadd, 1) := by decide +kernel
theorem dX6_wets_14 : decode cX6_wets 14 = .ok (.invokestatic 70, 3) := by decide +kernel
theorem dX6_wets_17 : decode cX6_wets 17 = .ok (.invokestatic 75, 3) := by decide +kernel
theorem dX6_wets_20 : decode cX6_wets 20 = .ok (.invokevirtual 78, 3) := by decide +kernel
theorem dX6_wets_23 : decode cX6_wets 23 = .ok (.return_, 1) := by decide +kernel
theorem dX6_kind_0 : decode cX6_kind 0 = .ok (.aload_n 0, 1) := by decide +kernel
theorem dX6_kind_1 : decode cX6_kind 1 = .ok (.iload_n 1, 1) := by decide +kernel
theorem dX6_kind_2 : decode cX6_kind 2 = .ok (.iconst 0, 1) := by decide +kernel
theorem dX6_kind_3 : decode cX6_kind 3 = .ok (.invokevirtual 66, 3) := by decide +kernel
theorem dX6_kind_6 : decode cX6_kind 6 = .ok (.istore_n 2, 1) := by decide +kernel
theorem dX6_kind_7 : decode cX6_kind 7 = .ok (.iload_n 2, 1) := by decide +kernel
theorem dX6_kind_8 : decode cX6_kind 8 = .ok (.iconst 4, 1) := by decide +kernel
theorem dX6_kind_9 : decode cX6_kind 9 = .ok (.if_icmp .ge 7, 3) := by decide +kernel
theorem dX6_kind_12 : decode cX6_kind 12 = .ok (.iconst 0, 1) := by decide +kernel
theorem dX6_kind_13 : decode cX6_kind 13 = .ok (.goto 14, 3) := by decide +kernel
theorem dX6_kind_16 : decode cX6_kind 16 = .ok (.iload_n 2, 1) := by decide +kernel
theorem dX6_kind_17 : decode cX6_kind 17 = .ok (.bipush 9, 2) := by decide +kernel
theorem dX6_kind_19 : decode cX6_kind 19 = .ok (.if_icmp .ge 7, 3) := by decide +kernel
theorem dX6_kind_22 : decode cX6_kind 22 = .ok (.iconst 1, 1) := by decide +kernel
theorem dX6_kind_23 : decode cX6_kind 23 = .ok (.goto 4, 3) := by decide +kernel
theorem dX6_kind_26 : decode cX6_kind 26 = .ok (.iconst 2, 1) := by decide +kernel
theorem dX6_kind_27 : decode cX6_kind 27 = .ok (.ireturn, 1) := by decide +kernel
theorem dX6_state_0 : decode cX6_state 0 = .ok (.aload_n 0, 1) := by decide +kernel
theorem dX6_state_1 : decode cX6_state 1 = .ok (.getfield 9, 3) := by decide +kernel
theorem dX6_state_4 : decode cX6_state 4 = .ok (.iconst 1, 1) := by decide +kernel
theorem dX6_state_5 : decode cX6_state 5 = .ok (.iaload, 1) := by decide +kernel
theorem dX6_state_6 : decode cX6_state 6 = .ok (.aload_n 0, 1) := by decide +kernel
theorem dX6_state_7 : decode cX6_state 7 = .ok (.getfield 9, 3) := by decide +kernel
theorem dX6_state_10 : decode cX6_state 10 = .ok (.bipush 10, 2) := by decide +kernel
theorem dX6_state_12 : decode cX6_state 12 = .ok (.iload_n 1, 1) := by decide +kernel
theorem dX6_state_13 : decode cX6_state 13 = .ok (.iadd, 1) := by decide +kernel
theorem dX6_state_14 : decode cX6_state 14 = .ok (.iaload, 1) := by decide +kernel
theorem dX6_state_15 : decode cX6_state 15 = .ok (.isub, 1) := by decide +kernel
theorem dX6_state_16 : decode cX6_state 16 = .ok (.istore_n 2, 1) := by decide +kernel
theorem dX6_state_17 : decode cX6_state 17 = .ok (.iload_n 2, 1) := by decide +kernel
theorem dX6_state_18 : decode cX6_state 18 = .ok (.ifCond .le 7, 3) := by decide +kernel
theorem dX6_state_21 : decode cX6_state 21 = .ok (.iconst 2, 1) := by decide +kernel
theorem dX6_state_22 : decode cX6_state 22 = .ok (.goto 14, 3) := by decide +kernel
theorem dX6_state_25 : decode cX6_state 25 = .ok (.iload_n 2, 1) := by decide +kernel
theorem dX6_state_26 : decode cX6_state 26 = .ok (.bipush (-2), 2) := by decide +kernel
theorem dX6_state_28 : decode cX6_state 28 = .ok (.if_icmp .lt 7, 3) := by decide +kernel
theorem dX6_state_31 : decode cX6_state 31 = .ok (.iconst 1, 1) := by decide +kernel
theorem dX6_state_32 : decode cX6_state 32 = .ok (.goto 4, 3) := by decide +kernel
theorem dX6_state_35 : decode cX6_state 35 = .ok (.iconst 0, 1) := by decide +kernel
theorem dX6_state_36 : decode cX6_state 36 = .ok (.ireturn, 1) := by decide +kernel
theorem dX6_lowestOn_0 : decode cX6_lowestOn 0 = .ok (.iconst 0, 1) := by decide +kernel
theorem dX6_lowestOn_1 : decode cX6_lowestOn 1 = .ok (.istore_n 2, 1) := by decide +kernel
theorem dX6_lowestOn_2 : decode cX6_lowestOn 2 = .ok (.iload_n 2, 1) := by decide +kernel
theorem dX6_lowestOn_3 : decode cX6_lowestOn 3 = .ok (.aload_n 0, 1) := by decide +kernel
theorem dX6_lowestOn_4 : decode cX6_lowestOn 4 = .ok (.getfield 9, 3) := by decide +kernel
theorem dX6_lowestOn_7 : decode cX6_lowestOn 7 = .ok (.iconst 3, 1) := by decide +kernel
theorem dX6_lowestOn_8 : decode cX6_lowestOn 8 = .ok (.iaload, 1) := by decide +kernel
theorem dX6_lowestOn_9 : decode cX6_lowestOn 9 = .ok (.if_icmp .ge 21, 3) := by decide +kernel
theorem dX6_lowestOn_12 : decode cX6_lowestOn 12 = .ok (.aload_n 0, 1) := by decide +kernel
theorem dX6_lowestOn_13 : decode cX6_lowestOn 13 = .ok (.iload_n 2, 1) := by decide +kernel
theorem dX6_lowestOn_14 : decode cX6_lowestOn 14 = .ok (.iconst 2, 1) := by decide +kernel
theorem dX6_lowestOn_15 : decode cX6_lowestOn 15 = .ok (.invokevirtual 66, 3) := by decide +kernel
theorem dX6_lowestOn_18 : decode cX6_lowestOn 18 = .ok (.iload_n 1, 1) := by decide +kernel
theorem dX6_lowestOn_19 : decode cX6_lowestOn 19 = .ok (.if_icmp .ne 5, 3) := by decide +kernel
theorem dX6_lowestOn_22 : decode cX6_lowestOn 22 = .ok (.iload_n 2, 1) := by decide +kernel
theorem dX6_lowestOn_23 : decode cX6_lowestOn 23 = .ok (.ireturn, 1) := by decide +kernel
theorem dX6_lowestOn_24 : decode cX6_lowestOn 24 = .ok (.iinc 2 1, 3) := by decide +kernel
theorem dX6_lowestOn_27 : decode cX6_lowestOn 27 = .ok (.goto (-25), 3) := by decide +kernel
theorem dX6_lowestOn_30 : decode cX6_lowestOn 30 = .ok (.iconst (-1), 1) := by decide +kernel
theorem dX6_lowestOn_31 : decode cX6_lowestOn 31 = .ok (.ireturn, 1) := by decide +kernel
theorem dX6_countAt_0 : decode cX6_countAt 0 = .ok (.iconst 0, 1) := by decide +kernel
theorem dX6_countAt_1 : decode cX6_countAt 1 = .ok (.istore_n 3, 1) := by decide +kernel
theorem dX6_countAt_2 : decode cX6_countAt 2 = .ok (.iconst 0, 1) := by decide +kernel
theorem dX6_countAt_3 : decode cX6_countAt 3 = .ok (.istore 4, 2) := by decide +kernel
theorem dX6_countAt_5 : decode cX6_countAt 5 = .ok (.iload 4, 2) := by decide +kernel
theorem dX6_countAt_7 : decode cX6_countAt 7 = .ok (.aload_n 0, 1) := by decide +kernel
theorem dX6_countAt_8 : decode cX6_countAt 8 = .ok (.getfield 9, 3) := by decide +kernel
theorem dX6_countAt_11 : decode cX6_countAt 11 = .ok (.iconst 3, 1) := by decide +kernel
theorem dX6_countAt_12 : decode cX6_countAt 12 = .ok (.iaload, 1) := by decide +kernel
theorem dX6_countAt_13 : decode cX6_countAt 13 = .ok (.if_icmp .ge 27, 3) := by decide +kernel
theorem dX6_countAt_16 : decode cX6_countAt 16 = .ok (.aload_n 0, 1) := by decide +kernel
theorem dX6_countAt_17 : decode cX6_countAt 17 = .ok (.iload 4, 2) := by decide +kernel
theorem dX6_countAt_19 : decode cX6_countAt 19 = .ok (.iconst 2, 1) := by decide +kernel
theorem dX6_countAt_20 : decode cX6_countAt 20 = .ok (.invokevirtual 66, 3) := by decide +kernel
theorem dX6_countAt_23 : decode cX6_countAt 23 = .ok (.iload_n 1, 1) := by decide +kernel
theorem dX6_countAt_24 : decode cX6_countAt 24 = .ok (.iload_n 2, 1) := by decide +kernel
theorem dX6_countAt_25 : decode cX6_countAt 25 = .ok (.invokestatic 62, 3) := by decide +kernel
theorem dX6_countAt_28 : decode cX6_countAt 28 = .ok (.ifCond .eq 6, 3) := by decide +kernel
theorem dX6_countAt_31 : decode cX6_countAt 31 = .ok (.iinc 3 1, 3) := by decide +kernel
theorem dX6_countAt_34 : decode cX6_countAt 34 = .ok (.iinc 4 1, 3) := by decide +kernel
theorem dX6_countAt_37 : decode cX6_countAt 37 = .ok (.goto (-32), 3) := by decide +kernel
theorem dX6_countAt_40 : decode cX6_countAt 40 = .ok (.iload_n 3, 1) := by decide +kernel
theorem dX6_countAt_41 : decode cX6_countAt 41 = .ok (.ireturn, 1) := by decide +kernel
theorem dX6_sum_0 : decode cX6_sum 0 = .ok (.iconst 0, 1) := by decide +kernel
theorem dX6_sum_1 : decode cX6_sum 1 = .ok (.istore_n 2, 1) := by decide +kernel
theorem dX6_sum_2 : decode cX6_sum 2 = .ok (.iconst 0, 1) := by decide +kernel
theorem dX6_sum_3 : decode cX6_sum 3 = .ok (.istore_n 3, 1) := by decide +kernel
theorem dX6_sum_4 : decode cX6_sum 4 = .ok (.iload_n 3, 1) := by decide +kernel
theorem dX6_sum_5 : decode cX6_sum 5 = .ok (.aload_n 0, 1) := by decide +kernel
theorem dX6_sum_6 : decode cX6_sum 6 = .ok (.getfield 9, 3) := by decide +kernel
theorem dX6_sum_9 : decode cX6_sum 9 = .ok (.iconst 3, 1) := by decide +kernel
theorem dX6_sum_10 : decode cX6_sum 10 = .ok (.iaload, 1) := by decide +kernel
theorem dX6_sum_11 : decode cX6_sum 11 = .ok (.if_icmp .ge 18, 3) := by decide +kernel
theorem dX6_sum_14 : decode cX6_sum 14 = .ok (.iload_n 2, 1) := by decide +kernel
theorem dX6_sum_15 : decode cX6_sum 15 = .ok (.aload_n 0, 1) := by decide +kernel
theorem dX6_sum_16 : decode cX6_sum 16 = .ok (.iload_n 3, 1) := by decide +kernel
theorem dX6_sum_17 : decode cX6_sum 17 = .ok (.iload_n 1, 1) := by decide +kernel
theorem dX6_sum_18 : decode cX6_sum 18 = .ok (.invokevirtual 66, 3) := by decide +kernel
theorem dX6_sum_21 : decode cX6_sum 21 = .ok (.iadd, 1) := by decide +kernel
theorem dX6_sum_22 : decode cX6_sum 22 = .ok (.istore_n 2, 1) := by decide +kernel
theorem dX6_sum_23 : decode cX6_sum 23 = .ok (.iinc 3 1, 3) := by decide +kernel
theorem dX6_sum_26 : decode cX6_sum 26 = .ok (.goto (-22), 3) := by decide +kernel
theorem dX6_sum_29 : decode cX6_sum 29 = .ok (.iload_n 2, 1) := by decide +kernel
theorem dX6_sum_30 : decode cX6_sum 30 = .ok (.ireturn, 1) := by decide +kernel
theorem dX6_height_0 : decode cX6_height 0 = .ok (.aload_n 0, 1) := by decide +kernel
theorem dX6_height_1 : decode cX6_height 1 = .ok (.invokevirtual 82, 3) := by decide +kernel
theorem dX6_height_4 : decode cX6_height 4 = .ok (.iload_n 1, 1) := by decide +kernel
theorem dX6_height_5 : decode cX6_height 5 = .ok (.invokestatic 85, 3) := by decide +kernel
theorem dX6_height_8 : decode cX6_height 8 = .ok (.ifCond .ne 9, 3) := by decide +kernel
theorem dX6_height_11 : decode cX6_height 11 = .ok (.aload_n 0, 1) := by decide +kernel
theorem dX6_height_12 : decode cX6_height 12 = .ok (.iconst 1, 1) := by decide +kernel
theorem dX6_height_13 : decode cX6_height 13 = .ok (.invokevirtual 58, 3) := by decide +kernel
theorem dX6_height_16 : decode cX6_height 16 = .ok (.ireturn, 1) := by decide +kernel
theorem dX6_height_17 : decode cX6_height 17 = .ok (.iload_n 2, 1) := by decide +kernel
theorem dX6_height_18 : decode cX6_height 18 = .ok (.iconst 1, 1) := by decide +kernel
theorem dX6_height_19 : decode cX6_height 19 = .ok (.bipush 30, 2) := by decide +kernel
theorem dX6_height_21 : decode cX6_height 21 = .ok (.invokestatic 62, 3) := by decide +kernel
theorem dX6_height_24 : decode cX6_height 24 = .ok (.ifCond .ne 9, 3) := by decide +kernel
theorem dX6_height_27 : decode cX6_height 27 = .ok (.aload_n 0, 1) := by decide +kernel
theorem dX6_height_28 : decode cX6_height 28 = .ok (.iconst 2, 1) := by decide +kernel
theorem dX6_height_29 : decode cX6_height 29 = .ok (.invokevirtual 58, 3) := by decide +kernel
theorem dX6_height_32 : decode cX6_height 32 = .ok (.ireturn, 1) := by decide +kernel
theorem dX6_height_33 : decode cX6_height 33 = .ok (.aload_n 0, 1) := by decide +kernel
theorem dX6_height_34 : decode cX6_height 34 = .ok (.iload_n 1, 1) := by decide +kernel
theorem dX6_height_35 : decode cX6_height 35 = .ok (.invokevirtual 89, 3) := by decide +kernel
theorem dX6_height_38 : decode cX6_height 38 = .ok (.istore_n 3, 1) := by decide +kernel
theorem dX6_height_39 : decode cX6_height 39 = .ok (.iload_n 3, 1) := by decide +kernel
theorem dX6_height_40 : decode cX6_height 40 = .ok (.ifCond .lt 12, 3) := by decide +kernel
theorem dX6_height_43 : decode cX6_height 43 = .ok (.aload_n 0, 1) := by decide +kernel
theorem dX6_height_44 : decode cX6_height 44 = .ok (.iconst 3, 1) := by decide +kernel
theorem dX6_height_45 : decode cX6_height 45 = .ok (.bipush 6, 2) := by decide +kernel
theorem dX6_height_47 : decode cX6_height 47 = .ok (.iload_n 3, 1) := by decide +kernel
theorem dX6_height_48 : decode cX6_height 48 = .ok (.invokevirtual 92, 3) := by decide +kernel
theorem dX6_height_51 : decode cX6_height 51 = .ok (.ireturn, 1) := by decide +kernel
theorem dX6_height_52 : decode cX6_height 52 = .ok (.aload_n 0, 1) := by decide +kernel
theorem dX6_height_53 : decode cX6_height 53 = .ok (.getfield 9, 3) := by decide +kernel
theorem dX6_height_56 : decode cX6_height 56 = .ok (.bipush 10, 2) := by decide +kernel
theorem dX6_height_58 : decode cX6_height 58 = .ok (.iload_n 1, 1) := by decide +kernel
theorem dX6_height_59 : decode cX6_height 59 = .ok (.iadd, 1) := by decide +kernel
theorem dX6_height_60 : decode cX6_height 60 = .ok (.iaload, 1) := by decide +kernel
theorem dX6_height_61 : decode cX6_height 61 = .ok (.istore 4, 2) := by decide +kernel
theorem dX6_height_63 : decode cX6_height 63 = .ok (.aload_n 0, 1) := by decide +kernel
theorem dX6_height_64 : decode cX6_height 64 = .ok (.getfield 9, 3) := by decide +kernel
theorem dX6_height_67 : decode cX6_height 67 = .ok (.bipush 10, 2) := by decide +kernel
theorem dX6_height_69 : decode cX6_height 69 = .ok (.iload_n 1, 1) := by decide +kernel
theorem dX6_height_70 : decode cX6_height 70 = .ok (.iadd, 1) := by decide +kernel
theorem dX6_height_71 : decode cX6_height 71 = .ok (.iload_n 2, 1) := by decide +kernel
theorem dX6_height_72 : decode cX6_height 72 = .ok (.iastore, 1) := by decide +kernel
theorem dX6_height_73 : decode cX6_height 73 = .ok (.aload_n 0, 1) := by decide +kernel
theorem dX6_height_74 : decode cX6_height 74 = .ok (.iload 4, 2) := by decide +kernel
theorem dX6_height_76 : decode cX6_height 76 = .ok (.invokevirtual 96, 3) := by decide +kernel
theorem dX6_height_79 : decode cX6_height 79 = .ok (.ireturn, 1) := by decide +kernel
theorem dX6_rain_0 : decode cX6_rain 0 = .ok (.aload_n 0, 1) := by decide +kernel
theorem dX6_rain_1 : decode cX6_rain 1 = .ok (.invokevirtual 82, 3) := by decide +kernel
theorem dX6_rain_4 : decode cX6_rain 4 = .ok (.iload_n 1, 1) := by decide +kernel
theorem dX6_rain_5 : decode cX6_rain 5 = .ok (.iconst 0, 1) := by decide +kernel
theorem dX6_rain_6 : decode cX6_rain 6 = .ok (.bipush 9, 2) := by decide +kernel
theorem dX6_rain_8 : decode cX6_rain 8 = .ok (.invokestatic 62, 3) := by decide +kernel
theorem dX6_rain_11 : decode cX6_rain 11 = .ok (.ifCond .ne 9, 3) := by decide +kernel
theorem dX6_rain_14 : decode cX6_rain 14 = .ok (.aload_n 0, 1) := by decide +kernel
theorem dX6_rain_15 : decode cX6_rain 15 = .ok (.iconst 1, 1) := by decide +kernel
theorem dX6_rain_16 : decode cX6_rain 16 = .ok (.invokevirtual 58, 3) := by decide +kernel
theorem dX6_rain_19 : decode cX6_rain 19 = .ok (.ireturn, 1) := by decide +kernel
theorem dX6_rain_20 : decode cX6_rain 20 = .ok (.aload_n 0, 1) := by decide +kernel
theorem dX6_rain_21 : decode cX6_rain 21 = .ok (.getfield 9, 3) := by decide +kernel
theorem dX6_rain_24 : decode cX6_rain 24 = .ok (.iconst 2, 1) := by decide +kernel
theorem dX6_rain_25 : decode cX6_rain 25 = .ok (.iaload, 1) := by decide +kernel
theorem dX6_rain_26 : decode cX6_rain 26 = .ok (.istore_n 2, 1) := by decide +kernel
theorem dX6_rain_27 : decode cX6_rain 27 = .ok (.aload_n 0, 1) := by decide +kernel
theorem dX6_rain_28 : decode cX6_rain 28 = .ok (.getfield 9, 3) := by decide +kernel
theorem dX6_rain_31 : decode cX6_rain 31 = .ok (.iconst 2, 1) := by decide +kernel
theorem dX6_rain_32 : decode cX6_rain 32 = .ok (.iload_n 1, 1) := by decide +kernel
theorem dX6_rain_33 : decode cX6_rain 33 = .ok (.iastore, 1) := by decide +kernel
theorem dX6_rain_34 : decode cX6_rain 34 = .ok (.aload_n 0, 1) := by decide +kernel
theorem dX6_rain_35 : decode cX6_rain 35 = .ok (.iload_n 2, 1) := by decide +kernel
theorem dX6_rain_36 : decode cX6_rain 36 = .ok (.invokevirtual 96, 3) := by decide +kernel
theorem dX6_rain_39 : decode cX6_rain 39 = .ok (.ireturn, 1) := by decide +kernel
theorem dX6_letters_0 : decode cX6_letters 0 = .ok (.aload_n 0, 1) := by decide +kernel
theorem dX6_letters_1 : decode cX6_letters 1 = .ok (.invokevirtual 82, 3) := by decide +kernel
theorem dX6_letters_4 : decode cX6_letters 4 = .ok (.iload_n 1, 1) := by decide +kernel
theorem dX6_letters_5 : decode cX6_letters 5 = .ok (.iconst 1, 1) := by decide +kernel
theorem dX6_letters_6 : decode cX6_letters 6 = .ok (.bipush 50, 2) := by decide +kernel
theorem dX6_letters_8 : decode cX6_letters 8 = .ok (.invokestatic 62, 3) := by decide +kernel
theorem dX6_letters_11 : decode cX6_letters 11 = .ok (.ifCond .ne 9, 3) := by decide +kernel
theorem dX6_letters_14 : decode cX6_letters 14 = .ok (.aload_n 0, 1) := by decide +kernel
theorem dX6_letters_15 : decode cX6_letters 15 = .ok (.iconst 1, 1) := by decide +kernel
theorem dX6_letters_16 : decode cX6_letters 16 = .ok (.invokevirtual 58, 3) := by decide +kernel
theorem dX6_letters_19 : decode cX6_letters 19 = .ok (.ireturn, 1) := by decide +kernel
theorem dX6_letters_20 : decode cX6_letters 20 = .ok (.aload_n 0, 1) := by decide +kernel
theorem dX6_letters_21 : decode cX6_letters 21 = .ok (.getfield 9, 3) := by decide +kernel
theorem dX6_letters_24 : decode cX6_letters 24 = .ok (.iconst 4, 1) := by decide +kernel
theorem dX6_letters_25 : decode cX6_letters 25 = .ok (.iaload, 1) := by decide +kernel
theorem dX6_letters_26 : decode cX6_letters 26 = .ok (.iload_n 1, 1) := by decide +kernel
theorem dX6_letters_27 : decode cX6_letters 27 = .ok (.iadd, 1) := by decide +kernel
theorem dX6_letters_28 : decode cX6_letters 28 = .ok (.bipush 99, 2) := by decide +kernel
theorem dX6_letters_30 : decode cX6_letters 30 = .ok (.if_icmp .le 16, 3) := by decide +kernel
theorem dX6_letters_33 : decode cX6_letters 33 = .ok (.aload_n 0, 1) := by decide +kernel
theorem dX6_letters_34 : decode cX6_letters 34 = .ok (.iconst 2, 1) := by decide +kernel
theorem dX6_letters_35 : decode cX6_letters 35 = .ok (.iconst 5, 1) := by decide +kernel
theorem dX6_letters_36 : decode cX6_letters 36 = .ok (.aload_n 0, 1) := by decide +kernel
theorem dX6_letters_37 : decode cX6_letters 37 = .ok (.getfield 9, 3) := by decide +kernel
theorem dX6_letters_40 : decode cX6_letters 40 = .ok (.iconst 4, 1) := by decide +kernel
theorem dX6_letters_41 : decode cX6_letters 41 = .ok (.iaload, 1) := by decide +kernel
theorem dX6_letters_42 : decode cX6_letters 42 = .ok (.invokevirtual 92, 3) := by decide +kernel
theorem dX6_letters_45 : decode cX6_letters 45 = .ok (.ireturn, 1) := by decide +kernel
theorem dX6_letters_46 : decode cX6_letters 46 = .ok (.aload_n 0, 1) := by decide +kernel
theorem dX6_letters_47 : decode cX6_letters 47 = .ok (.getfield 9, 3) := by decide +kernel
theorem dX6_letters_50 : decode cX6_letters 50 = .ok (.iconst 4, 1) := by decide +kernel
theorem dX6_letters_51 : decode cX6_letters 51 = .ok (.dup2, 1) := by decide +kernel
theorem dX6_letters_52 : decode cX6_letters 52 = .ok (.iaload, 1) := by decide +kernel
theorem dX6_letters_53 : decode cX6_letters 53 = .ok (.iload_n 1, 1) := by decide +kernel
theorem dX6_letters_54 : decode cX6_letters 54 = .ok (.iadd, 1) := by decide +kernel
theorem dX6_letters_55 : decode cX6_letters 55 = .ok (.iastore, 1) := by decide +kernel
theorem dX6_letters_56 : decode cX6_letters 56 = .ok (.aload_n 0, 1) := by decide +kernel
theorem dX6_letters_57 : decode cX6_letters 57 = .ok (.getfield 9, 3) := by decide +kernel
theorem dX6_letters_60 : decode cX6_letters 60 = .ok (.bipush 6, 2) := by decide +kernel
theorem dX6_letters_62 : decode cX6_letters 62 = .ok (.dup2, 1) := by decide +kernel
theorem dX6_letters_63 : decode cX6_letters 63 = .ok (.iaload, 1) := by decide +kernel
theorem dX6_letters_64 : decode cX6_letters 64 = .ok (.iload_n 1, 1) := by decide +kernel
theorem dX6_letters_65 : decode cX6_letters 65 = .ok (.iadd, 1) := by decide +kernel
theorem dX6_letters_66 : decode cX6_letters 66 = .ok (.iastore, 1) := by decide +kernel
theorem dX6_letters_67 : decode cX6_letters 67 = .ok (.aload_n 0, 1) := by decide +kernel
theorem dX6_letters_68 : decode cX6_letters 68 = .ok (.aload_n 0, 1) := by decide +kernel
theorem dX6_letters_69 : decode cX6_letters 69 = .ok (.getfield 9, 3) := by decide +kernel
theorem dX6_letters_72 : decode cX6_letters 72 = .ok (.iconst 4, 1) := by decide +kernel
theorem dX6_letters_73 : decode cX6_letters 73 = .ok (.iaload, 1) := by decide +kernel
theorem dX6_letters_74 : decode cX6_letters 74 = .ok (.invokevirtual 96, 3) := by decide +kernel
theorem dX6_letters_77 : decode cX6_letters 77 = .ok (.ireturn, 1) := by decide +kernel
theorem dX6_stoneOf_0 : decode cX6_stoneOf 0 = .ok (.aload_n 0, 1) := by decide +kernel
theorem dX6_stoneOf_1 : decode cX6_stoneOf 1 = .ok (.iconst 0, 1) := by decide +kernel
theorem dX6_stoneOf_2 : decode cX6_stoneOf 2 = .ok (.putfield 46, 3) := by decide +kernel
theorem dX6_stoneOf_5 : decode cX6_stoneOf 5 = .ok (.iload_n 1, 1) := by decide +kernel
theorem dX6_stoneOf_6 : decode cX6_stoneOf 6 = .ok (.invokestatic 85, 3) := by decide +kernel
theorem dX6_stoneOf_9 : decode cX6_stoneOf 9 = .ok (.ifCond .ne 9, 3) := by decide +kernel
theorem dX6_stoneOf_12 : decode cX6_stoneOf 12 = .ok (.aload_n 0, 1) := by decide +kernel
theorem dX6_stoneOf_13 : decode cX6_stoneOf 13 = .ok (.iconst 1, 1) := by decide +kernel
theorem dX6_stoneOf_14 : decode cX6_stoneOf 14 = .ok (.invokevirtual 58, 3) := by decide +kernel
theorem dX6_stoneOf_17 : decode cX6_stoneOf 17 = .ok (.ireturn, 1) := by decide +kernel
theorem dX6_stoneOf_18 : decode cX6_stoneOf 18 = .ok (.iload_n 2, 1) := by decide +kernel
theorem dX6_stoneOf_19 : decode cX6_stoneOf 19 = .ok (.tableswitch 48 0 2 #[25, 35, 41], 25) := by decide +kernel
theorem dX6_stoneOf_44 : decode cX6_stoneOf 44 = .ok (.aload_n 0, 1) := by decide +kernel
theorem dX6_stoneOf_45 : decode cX6_stoneOf 45 = .ok (.getfield 9, 3) := by decide +kernel
theorem dX6_stoneOf_48 : decode cX6_stoneOf 48 = .ok (.bipush 10, 2) := by decide +kernel
theorem dX6_stoneOf_50 : decode cX6_stoneOf 50 = .ok (.iload_n 1, 1) := by decide +kernel
theorem dX6_stoneOf_51 : decode cX6_stoneOf 51 = .ok (.iadd, 1) := by decide +kernel
theorem dX6_stoneOf_52 : decode cX6_stoneOf 52 = .ok (.iaload, 1) := by decide +kernel
theorem dX6_stoneOf_53 : decode cX6_stoneOf 53 = .ok (.ireturn, 1) := by decide +kernel
theorem dX6_stoneOf_54 : decode cX6_stoneOf 54 = .ok (.aload_n 0, 1) := by decide +kernel
theorem dX6_stoneOf_55 : decode cX6_stoneOf 55 = .ok (.iload_n 1, 1) := by decide +kernel
theorem dX6_stoneOf_56 : decode cX6_stoneOf 56 = .ok (.invokevirtual 99, 3) := by decide +kernel
theorem dX6_stoneOf_59 : decode cX6_stoneOf 59 = .ok (.ireturn, 1) := by decide +kernel
theorem dX6_stoneOf_60 : decode cX6_stoneOf 60 = .ok (.aload_n 0, 1) := by decide +kernel
theorem dX6_stoneOf_61 : decode cX6_stoneOf 61 = .ok (.iload_n 1, 1) := by decide +kernel
theorem dX6_stoneOf_62 : decode cX6_stoneOf 62 = .ok (.iload_n 1, 1) := by decide +kernel
theorem dX6_stoneOf_63 : decode cX6_stoneOf 63 = .ok (.invokevirtual 102, 3) := by decide +kernel
theorem dX6_stoneOf_66 : decode cX6_stoneOf 66 = .ok (.ireturn, 1) := by decide +kernel
theorem dX6_stoneOf_67 : decode cX6_stoneOf 67 = .ok (.aload_n 0, 1) := by decide +kernel
theorem dX6_stoneOf_68 : decode cX6_stoneOf 68 = .ok (.iconst 2, 1) := by decide +kernel
theorem dX6_stoneOf_69 : decode cX6_stoneOf 69 = .ok (.invokevirtual 58, 3) := by decide +kernel
theorem dX6_stoneOf_72 : decode cX6_stoneOf 72 = .ok (.ireturn, 1) := by decide +kernel
theorem dX6_underNow_0 : decode cX6_underNow 0 = .ok (.iconst 0, 1) := by decide +kernel
theorem dX6_underNow_1 : decode cX6_underNow 1 = .ok (.istore_n 1, 1) := by decide +kernel
theorem dX6_underNow_2 : decode cX6_underNow 2 = .ok (.iconst 0, 1) := by decide +kernel
theorem dX6_underNow_3 : decode cX6_underNow 3 = .ok (.istore_n 2, 1) := by decide +kernel
theorem dX6_underNow_4 : decode cX6_underNow 4 = .ok (.iload_n 2, 1) := by decide +kernel
theorem dX6_underNow_5 : decode cX6_underNow 5 = .ok (.bipush 10, 2) := by decide +kernel
theorem dX6_underNow_7 : decode cX6_underNow 7 = .ok (.if_icmp .ge 24, 3) := by decide +kernel
theorem dX6_underNow_10 : decode cX6_underNow 10 = .ok (.aload_n 0, 1) := by decide +kernel
theorem dX6_underNow_11 : decode cX6_underNow 11 = .ok (.iload_n 2, 1) := by decide +kernel
theorem dX6_underNow_12 : decode cX6_underNow 12 = .ok (.invokevirtual 99, 3) := by decide +kernel
theorem dX6_underNow_15 : decode cX6_underNow 15 = .ok (.iconst 2, 1) := by decide +kernel
theorem dX6_underNow_16 : decode cX6_underNow 16 = .ok (.if_icmp .ne 9, 3) := by decide +kernel
theorem dX6_underNow_19 : decode cX6_underNow 19 = .ok (.iload_n 1, 1) := by decide +kernel
theorem dX6_underNow_20 : decode cX6_underNow 20 = .ok (.iconst 1, 1) := by decide +kernel
theorem dX6_underNow_21 : decode cX6_underNow 21 = .ok (.iload_n 2, 1) := by decide +kernel
theorem dX6_underNow_22 : decode cX6_underNow 22 = .ok (.ishl, 1) := by decide +kernel
theorem dX6_underNow_23 : decode cX6_underNow 23 = .ok (.ior, 1) := by decide +kernel
theorem dX6_underNow_24 : decode cX6_underNow 24 = .ok (.istore_n 1, 1) := by decide +kernel
theorem dX6_underNow_25 : decode cX6_underNow 25 = .ok (.iinc 2 1, 3) := by decide +kernel
theorem dX6_underNow_28 : decode cX6_underNow 28 = .ok (.goto (-24), 3) := by decide +kernel
theorem dX6_underNow_31 : decode cX6_underNow 31 = .ok (.iload_n 1, 1) := by decide +kernel
theorem dX6_underNow_32 : decode cX6_underNow 32 = .ok (.ireturn, 1) := by decide +kernel
theorem dX6_under_0 : decode cX6_under 0 = .ok (.aload_n 0, 1) := by decide +kernel
theorem dX6_under_1 : decode cX6_under 1 = .ok (.iconst 0, 1) := by decide +kernel
theorem dX6_under_2 : decode cX6_under 2 = .ok (.putfield 46, 3) := by decide +kernel
theorem dX6_under_5 : decode cX6_under 5 = .ok (.aload_n 0, 1) := by decide +kernel
theorem dX6_under_6 : decode cX6_under 6 = .ok (.invokevirtual 105, 3) := by decide +kernel
theorem dX6_under_9 : decode cX6_under 9 = .ok (.ireturn, 1) := by decide +kernel
theorem dX6_next_0 : decode cX6_next 0 = .ok (.bipush 40, 2) := by decide +kernel
theorem dX6_next_2 : decode cX6_next 2 = .ok (.iload_n 1, 1) := by decide +kernel
theorem dX6_next_3 : decode cX6_next 3 = .ok (.aload_n 0, 1) := by decide +kernel
theorem dX6_next_4 : decode cX6_next 4 = .ok (.getfield 9, 3) := by decide +kernel
theorem dX6_next_7 : decode cX6_next 7 = .ok (.iconst 2, 1) := by decide +kernel
theorem dX6_next_8 : decode cX6_next 8 = .ok (.iaload, 1) := by decide +kernel
theorem dX6_next_9 : decode cX6_next 9 = .ok (.iadd, 1) := by decide +kernel
theorem dX6_next_10 : decode cX6_next 10 = .ok (.invokestatic 70, 3) := by decide +kernel
theorem dX6_next_13 : decode cX6_next 13 = .ok (.istore_n 2, 1) := by decide +kernel
theorem dX6_next_14 : decode cX6_next 14 = .ok (.iload_n 2, 1) := by decide +kernel
theorem dX6_next_15 : decode cX6_next 15 = .ok (.iconst 4, 1) := by decide +kernel
theorem dX6_next_16 : decode cX6_next 16 = .ok (.if_icmp .le 13, 3) := by decide +kernel
theorem dX6_next_19 : decode cX6_next 19 = .ok (.iconst 4, 1) := by decide +kernel
theorem dX6_next_20 : decode cX6_next 20 = .ok (.iload_n 2, 1) := by decide +kernel
theorem dX6_next_21 : decode cX6_next 21 = .ok (.iconst 2, 1) := by decide +kernel
theorem dX6_next_22 : decode cX6_next 22 = .ok (.isub, 1) := by decide +kernel
theorem dX6_next_23 : decode cX6_next 23 = .ok (.invokestatic 75, 3) := by decide +kernel
theorem dX6_next_26 : decode cX6_next 26 = .ok (.goto 4, 3) := by decide +kernel
theorem dX6_next_29 : decode cX6_next 29 = .ok (.iload_n 2, 1) := by decide +kernel
theorem dX6_next_30 : decode cX6_next 30 = .ok (.ireturn, 1) := by decide +kernel
theorem dX6_floodIn_0 : decode cX6_floodIn 0 = .ok (.aload_n 0, 1) := by decide +kernel
theorem dX6_floodIn_1 : decode cX6_floodIn 1 = .ok (.getfield 9, 3) := by decide +kernel
theorem dX6_floodIn_4 : decode cX6_floodIn 4 = .ok (.iconst 1, 1) := by decide +kernel
theorem dX6_floodIn_5 : decode cX6_floodIn 5 = .ok (.iaload, 1) := by decide +kernel
theorem dX6_floodIn_6 : decode cX6_floodIn 6 = .ok (.istore_n 2, 1) := by decide +kernel
theorem dX6_floodIn_7 : decode cX6_floodIn 7 = .ok (.iconst 0, 1) := by decide +kernel
theorem dX6_floodIn_8 : decode cX6_floodIn 8 = .ok (.istore_n 3, 1) := by decide +kernel
theorem dX6_floodIn_9 : decode cX6_floodIn 9 = .ok (.iload_n 3, 1) := by decide +kernel
theorem dX6_floodIn_10 : decode cX6_floodIn 10 = .ok (.iload_n 1, 1) := by decide +kernel
theorem dX6_floodIn_11 : decode cX6_floodIn 11 = .ok (.if_icmp .ge 15, 3) := by decide +kernel
theorem dX6_floodIn_14 : decode cX6_floodIn 14 = .ok (.aload_n 0, 1) := by decide +kernel
theorem dX6_floodIn_15 : decode cX6_floodIn 15 = .ok (.iload_n 2, 1) := by decide +kernel
theorem dX6_floodIn_16 : decode cX6_floodIn 16 = .ok (.invokevirtual 109, 3) := by decide +kernel
theorem dX6_floodIn_19 : decode cX6_floodIn 19 = .ok (.istore_n 2, 1) := by decide +kernel
theorem dX6_floodIn_20 : decode cX6_floodIn 20 = .ok (.iinc 3 1, 3) := by decide +kernel
theorem dX6_floodIn_23 : decode cX6_floodIn 23 = .ok (.goto (-14), 3) := by decide +kernel
theorem dX6_floodIn_26 : decode cX6_floodIn 26 = .ok (.iload_n 2, 1) := by decide +kernel
theorem dX6_floodIn_27 : decode cX6_floodIn 27 = .ok (.ireturn, 1) := by decide +kernel
theorem dX6_flood_0 : decode cX6_flood 0 = .ok (.aload_n 0, 1) := by decide +kernel
theorem dX6_flood_1 : decode cX6_flood 1 = .ok (.iconst 0, 1) := by decide +kernel
theorem dX6_flood_2 : decode cX6_flood 2 = .ok (.putfield 46, 3) := by decide +kernel
theorem dX6_flood_5 : decode cX6_flood 5 = .ok (.iload_n 1, 1) := by decide +kernel
theorem dX6_flood_6 : decode cX6_flood 6 = .ok (.iconst 0, 1) := by decide +kernel
theorem dX6_flood_7 : decode cX6_flood 7 = .ok (.bipush 60, 2) := by decide +kernel
theorem dX6_flood_9 : decode cX6_flood 9 = .ok (.invokestatic 62, 3) := by decide +kernel
theorem dX6_flood_12 : decode cX6_flood 12 = .ok (.ifCond .eq 11, 3) := by decide +kernel
theorem dX6_flood_15 : decode cX6_flood 15 = .ok (.aload_n 0, 1) := by decide +kernel
theorem dX6_flood_16 : decode cX6_flood 16 = .ok (.iload_n 1, 1) := by decide +kernel
theorem dX6_flood_17 : decode cX6_flood 17 = .ok (.invokevirtual 112, 3) := by decide +kernel
theorem dX6_flood_20 : decode cX6_flood 20 = .ok (.goto 8, 3) := by decide +kernel
theorem dX6_flood_23 : decode cX6_flood 23 = .ok (.aload_n 0, 1) := by decide +kernel
theorem dX6_flood_24 : decode cX6_flood 24 = .ok (.iconst 1, 1) := by decide +kernel
theorem dX6_flood_25 : decode cX6_flood 25 = .ok (.invokevirtual 58, 3) := by decide +kernel
theorem dX6_flood_28 : decode cX6_flood 28 = .ok (.ireturn, 1) := by decide +kernel
theorem dX6_floodAgain_0 : decode cX6_floodAgain 0 = .ok (.aload_n 0, 1) := by decide +kernel
theorem dX6_floodAgain_1 : decode cX6_floodAgain 1 = .ok (.iload_n 1, 1) := by decide +kernel
theorem dX6_floodAgain_2 : decode cX6_floodAgain 2 = .ok (.invokevirtual 115, 3) := by decide +kernel
theorem dX6_floodAgain_5 : decode cX6_floodAgain 5 = .ok (.ireturn, 1) := by decide +kernel
theorem dX6_clearIn_0 : decode cX6_clearIn 0 = .ok (.aload_n 0, 1) := by decide +kernel
theorem dX6_clearIn_1 : decode cX6_clearIn 1 = .ok (.iconst 0, 1) := by decide +kernel
theorem dX6_clearIn_2 : decode cX6_clearIn 2 = .ok (.putfield 46, 3) := by decide +kernel
theorem dX6_clearIn_5 : decode cX6_clearIn 5 = .ok (.bipush 30, 2) := by decide +kernel
theorem dX6_clearIn_7 : decode cX6_clearIn 7 = .ok (.istore_n 1, 1) := by decide +kernel
theorem dX6_clearIn_8 : decode cX6_clearIn 8 = .ok (.iconst 0, 1) := by decide +kernel
theorem dX6_clearIn_9 : decode cX6_clearIn 9 = .ok (.istore_n 2, 1) := by decide +kernel
theorem dX6_clearIn_10 : decode cX6_clearIn 10 = .ok (.iload_n 2, 1) := by decide +kernel
theorem dX6_clearIn_11 : decode cX6_clearIn 11 = .ok (.bipush 10, 2) := by decide +kernel
theorem dX6_clearIn_13 : decode cX6_clearIn 13 = .ok (.if_icmp .ge 23, 3) := by decide +kernel
theorem dX6_clearIn_16 : decode cX6_clearIn 16 = .ok (.iload_n 1, 1) := by decide +kernel
theorem dX6_clearIn_17 : decode cX6_clearIn 17 = .ok (.aload_n 0, 1) := by decide +kernel
theorem dX6_clearIn_18 : decode cX6_clearIn 18 = .ok (.getfield 9, 3) := by decide +kernel
theorem dX6_clearIn_21 : decode cX6_clearIn 21 = .ok (.bipush 10, 2) := by decide +kernel
theorem dX6_clearIn_23 : decode cX6_clearIn 23 = .ok (.iload_n 2, 1) := by decide +kernel
theorem dX6_clearIn_24 : decode cX6_clearIn 24 = .ok (.iadd, 1) := by decide +kernel
theorem dX6_clearIn_25 : decode cX6_clearIn 25 = .ok (.iaload, 1) := by decide +kernel
theorem dX6_clearIn_26 : decode cX6_clearIn 26 = .ok (.invokestatic 70, 3) := by decide +kernel
theorem dX6_clearIn_29 : decode cX6_clearIn 29 = .ok (.istore_n 1, 1) := by decide +kernel
theorem dX6_clearIn_30 : decode cX6_clearIn 30 = .ok (.iinc 2 1, 3) := by decide +kernel
theorem dX6_clearIn_33 : decode cX6_clearIn 33 = .ok (.goto (-23), 3) := by decide +kernel
theorem dX6_clearIn_36 : decode cX6_clearIn 36 = .ok (.iconst 0, 1) := by decide +kernel
theorem dX6_clearIn_37 : decode cX6_clearIn 37 = .ok (.istore_n 2, 1) := by decide +kernel
theorem dX6_clearIn_38 : decode cX6_clearIn 38 = .ok (.iload_n 2, 1) := by decide +kernel
theorem dX6_clearIn_39 : decode cX6_clearIn 39 = .ok (.bipush 60, 2) := by decide +kernel
theorem dX6_clearIn_41 : decode cX6_clearIn 41 = .ok (.if_icmp .gt 20, 3) := by decide +kernel
theorem dX6_clearIn_44 : decode cX6_clearIn 44 = .ok (.aload_n 0, 1) := by decide +kernel
theorem dX6_clearIn_45 : decode cX6_clearIn 45 = .ok (.iload_n 2, 1) := by decide +kernel
theorem dX6_clearIn_46 : decode cX6_clearIn 46 = .ok (.invokevirtual 112, 3) := by decide +kernel
theorem dX6_clearIn_49 : decode cX6_clearIn 49 = .ok (.iload_n 1, 1) := by decide +kernel
theorem dX6_clearIn_50 : decode cX6_clearIn 50 = .ok (.if_icmp .gt 5, 3) := by decide +kernel
theorem dX6_clearIn_53 : decode cX6_clearIn 53 = .ok (.iload_n 2, 1) := by decide +kernel
theorem dX6_clearIn_54 : decode cX6_clearIn 54 = .ok (.ireturn, 1) := by decide +kernel
theorem dX6_clearIn_55 : decode cX6_clearIn 55 = .ok (.iinc 2 1, 3) := by decide +kernel
theorem dX6_clearIn_58 : decode cX6_clearIn 58 = .ok (.goto (-20), 3) := by decide +kernel
theorem dX6_clearIn_61 : decode cX6_clearIn 61 = .ok (.aload_n 0, 1) := by decide +kernel
theorem dX6_clearIn_62 : decode cX6_clearIn 62 = .ok (.iconst 1, 1) := by decide +kernel
theorem dX6_clearIn_63 : decode cX6_clearIn 63 = .ok (.invokevirtual 58, 3) := by decide +kernel
theorem dX6_clearIn_66 : decode cX6_clearIn 66 = .ok (.ireturn, 1) := by decide +kernel
theorem dX6_traveller_0 : decode cX6_traveller 0 = .ok (.aload_n 0, 1) := by decide +kernel
theorem dX6_traveller_1 : decode cX6_traveller 1 = .ok (.invokevirtual 82, 3) := by decide +kernel
theorem dX6_traveller_4 : decode cX6_traveller 4 = .ok (.iload_n 1, 1) := by decide +kernel
theorem dX6_traveller_5 : decode cX6_traveller 5 = .ok (.iconst 0, 1) := by decide +kernel
theorem dX6_traveller_6 : decode cX6_traveller 6 = .ok (.bipush 20, 2) := by decide +kernel
theorem dX6_traveller_8 : decode cX6_traveller 8 = .ok (.invokestatic 62, 3) := by decide +kernel
theorem dX6_traveller_11 : decode cX6_traveller 11 = .ok (.ifCond .ne 9, 3) := by decide +kernel
theorem dX6_traveller_14 : decode cX6_traveller 14 = .ok (.aload_n 0, 1) := by decide +kernel
theorem dX6_traveller_15 : decode cX6_traveller 15 = .ok (.iconst 1, 1) := by decide +kernel
theorem dX6_traveller_16 : decode cX6_traveller 16 = .ok (.invokevirtual 58, 3) := by decide +kernel
theorem dX6_traveller_19 : decode cX6_traveller 19 = .ok (.ireturn, 1) := by decide +kernel
theorem dX6_traveller_20 : decode cX6_traveller 20 = .ok (.aload_n 0, 1) := by decide +kernel
theorem dX6_traveller_21 : decode cX6_traveller 21 = .ok (.getfield 9, 3) := by decide +kernel
theorem dX6_traveller_24 : decode cX6_traveller 24 = .ok (.iconst 3, 1) := by decide +kernel
theorem dX6_traveller_25 : decode cX6_traveller 25 = .ok (.iaload, 1) := by decide +kernel
theorem dX6_traveller_26 : decode cX6_traveller 26 = .ok (.bipush 8, 2) := by decide +kernel
theorem dX6_traveller_28 : decode cX6_traveller 28 = .ok (.if_icmp .ne 12, 3) := by decide +kernel
theorem dX6_traveller_31 : decode cX6_traveller 31 = .ok (.aload_n 0, 1) := by decide +kernel
theorem dX6_traveller_32 : decode cX6_traveller 32 = .ok (.iconst 2, 1) := by decide +kernel
theorem dX6_traveller_33 : decode cX6_traveller 33 = .ok (.iconst 1, 1) := by decide +kernel
theorem dX6_traveller_34 : decode cX6_traveller 34 = .ok (.bipush 8, 2) := by decide +kernel
theorem dX6_traveller_36 : decode cX6_traveller 36 = .ok (.invokevirtual 92, 3) := by decide +kernel
theorem dX6_traveller_39 : decode cX6_traveller 39 = .ok (.ireturn, 1) := by decide +kernel
theorem dX6_traveller_40 : decode cX6_traveller 40 = .ok (.aload_n 0, 1) := by decide +kernel
theorem dX6_traveller_41 : decode cX6_traveller 41 = .ok (.getfield 9, 3) := by decide +kernel
theorem dX6_traveller_44 : decode cX6_traveller 44 = .ok (.iconst 3, 1) := by decide +kernel
theorem dX6_traveller_45 : decode cX6_traveller 45 = .ok (.dup2, 1) := by decide +kernel
theorem dX6_traveller_46 : decode cX6_traveller 46 = .ok (.iaload, 1) := by decide +kernel
theorem dX6_traveller_47 : decode cX6_traveller 47 = .ok (.dup_x2, 1) := by decide +kernel
theorem dX6_traveller_48 : decode cX6_traveller 48 = .ok (.iconst 1, 1) := by decide +kernel
theorem dX6_traveller_49 : decode cX6_traveller 49 = .ok (.iadd, 1) := by decide +kernel
theorem dX6_traveller_50 : decode cX6_traveller 50 = .ok (.iastore, 1) := by decide +kernel
theorem dX6_traveller_51 : decode cX6_traveller 51 = .ok (.istore_n 2, 1) := by decide +kernel
theorem dX6_traveller_52 : decode cX6_traveller 52 = .ok (.iconst 0, 1) := by decide +kernel
theorem dX6_traveller_53 : decode cX6_traveller 53 = .ok (.istore_n 3, 1) := by decide +kernel
theorem dX6_traveller_54 : decode cX6_traveller 54 = .ok (.iload_n 3, 1) := by decide +kernel
theorem dX6_traveller_55 : decode cX6_traveller 55 = .ok (.bipush 8, 2) := by decide +kernel
theorem dX6_traveller_57 : decode cX6_traveller 57 = .ok (.if_icmp .ge 16, 3) := by decide +kernel
theorem dX6_traveller_60 : decode cX6_traveller 60 = .ok (.aload_n 0, 1) := by decide +kernel
theorem dX6_traveller_61 : decode cX6_traveller 61 = .ok (.iload_n 2, 1) := by decide +kernel
theorem dX6_traveller_62 : decode cX6_traveller 62 = .ok (.iload_n 3, 1) := by decide +kernel
theorem dX6_traveller_63 : decode cX6_traveller 63 = .ok (.iconst 0, 1) := by decide +kernel
theorem dX6_traveller_64 : decode cX6_traveller 64 = .ok (.invokevirtual 78, 3) := by decide +kernel
theorem dX6_traveller_67 : decode cX6_traveller 67 = .ok (.iinc 3 1, 3) := by decide +kernel
theorem dX6_traveller_70 : decode cX6_traveller 70 = .ok (.goto (-16), 3) := by decide +kernel
theorem dX6_traveller_73 : decode cX6_traveller 73 = .ok (.aload_n 0, 1) := by decide +kernel
theorem dX6_traveller_74 : decode cX6_traveller 74 = .ok (.iload_n 2, 1) := by decide +kernel
theorem dX6_traveller_75 : decode cX6_traveller 75 = .ok (.iconst 0, 1) := by decide +kernel
theorem dX6_traveller_76 : decode cX6_traveller 76 = .ok (.iload_n 1, 1) := by decide +kernel
theorem dX6_traveller_77 : decode cX6_traveller 77 = .ok (.invokevirtual 78, 3) := by decide +kernel
theorem dX6_traveller_80 : decode cX6_traveller 80 = .ok (.aload_n 0, 1) := by decide +kernel
theorem dX6_traveller_81 : decode cX6_traveller 81 = .ok (.iload_n 2, 1) := by decide +kernel
theorem dX6_traveller_82 : decode cX6_traveller 82 = .ok (.iconst 2, 1) := by decide +kernel
theorem dX6_traveller_83 : decode cX6_traveller 83 = .ok (.iconst (-1), 1) := by decide +kernel
theorem dX6_traveller_84 : decode cX6_traveller 84 = .ok (.invokevirtual 78, 3) := by decide +kernel
theorem dX6_traveller_87 : decode cX6_traveller 87 = .ok (.aload_n 0, 1) := by decide +kernel
theorem dX6_traveller_88 : decode cX6_traveller 88 = .ok (.iload_n 2, 1) := by decide +kernel
theorem dX6_traveller_89 : decode cX6_traveller 89 = .ok (.iconst 4, 1) := by decide +kernel
theorem dX6_traveller_90 : decode cX6_traveller 90 = .ok (.iconst 1, 1) := by decide +kernel
theorem dX6_traveller_91 : decode cX6_traveller 91 = .ok (.invokevirtual 78, 3) := by decide +kernel
theorem dX6_traveller_94 : decode cX6_traveller 94 = .ok (.aload_n 0, 1) := by decide +kernel
theorem dX6_traveller_95 : decode cX6_traveller 95 = .ok (.iload_n 2, 1) := by decide +kernel
theorem dX6_traveller_96 : decode cX6_traveller 96 = .ok (.invokevirtual 96, 3) := by decide +kernel
theorem dX6_traveller_99 : decode cX6_traveller 99 = .ok (.ireturn, 1) := by decide +kernel
theorem dX6_travellerOf_0 : decode cX6_travellerOf 0 = .ok (.aload_n 0, 1) := by decide +kernel
theorem dX6_travellerOf_1 : decode cX6_travellerOf 1 = .ok (.iconst 0, 1) := by decide +kernel
theorem dX6_travellerOf_2 : decode cX6_travellerOf 2 = .ok (.putfield 46, 3) := by decide +kernel
theorem dX6_travellerOf_5 : decode cX6_travellerOf 5 = .ok (.aload_n 0, 1) := by decide +kernel
theorem dX6_travellerOf_6 : decode cX6_travellerOf 6 = .ok (.iload_n 1, 1) := by decide +kernel
theorem dX6_travellerOf_7 : decode cX6_travellerOf 7 = .ok (.invokevirtual 118, 3) := by decide +kernel
theorem dX6_travellerOf_10 : decode cX6_travellerOf 10 = .ok (.ifCond .ne 9, 3) := by decide +kernel
theorem dX6_travellerOf_13 : decode cX6_travellerOf 13 = .ok (.aload_n 0, 1) := by decide +kernel
theorem dX6_travellerOf_14 : decode cX6_travellerOf 14 = .ok (.iconst 1, 1) := by decide +kernel
theorem dX6_travellerOf_15 : decode cX6_travellerOf 15 = .ok (.invokevirtual 58, 3) := by decide +kernel
theorem dX6_travellerOf_18 : decode cX6_travellerOf 18 = .ok (.ireturn, 1) := by decide +kernel
theorem dX6_travellerOf_19 : decode cX6_travellerOf 19 = .ok (.iload_n 2, 1) := by decide +kernel
theorem dX6_travellerOf_20 : decode cX6_travellerOf 20 = .ok (.ifCond .ne 9, 3) := by decide +kernel
theorem dX6_travellerOf_23 : decode cX6_travellerOf 23 = .ok (.aload_n 0, 1) := by decide +kernel
theorem dX6_travellerOf_24 : decode cX6_travellerOf 24 = .ok (.iload_n 1, 1) := by decide +kernel
theorem dX6_travellerOf_25 : decode cX6_travellerOf 25 = .ok (.invokevirtual 121, 3) := by decide +kernel
theorem dX6_travellerOf_28 : decode cX6_travellerOf 28 = .ok (.ireturn, 1) := by decide +kernel
theorem dX6_travellerOf_29 : decode cX6_travellerOf 29 = .ok (.iload_n 2, 1) := by decide +kernel
theorem dX6_travellerOf_30 : decode cX6_travellerOf 30 = .ok (.iconst 5, 1) := by decide +kernel
theorem dX6_travellerOf_31 : decode cX6_travellerOf 31 = .ok (.if_icmp .ne 31, 3) := by decide +kernel
theorem dX6_travellerOf_34 : decode cX6_travellerOf 34 = .ok (.aload_n 0, 1) := by decide +kernel
theorem dX6_travellerOf_35 : decode cX6_travellerOf 35 = .ok (.iload_n 1, 1) := by decide +kernel
theorem dX6_travellerOf_36 : decode cX6_travellerOf 36 = .ok (.iconst 2, 1) := by decide +kernel
theorem dX6_travellerOf_37 : decode cX6_travellerOf 37 = .ok (.invokevirtual 66, 3) := by decide +kernel
theorem dX6_travellerOf_40 : decode cX6_travellerOf 40 = .ok (.invokestatic 85, 3) := by decide +kernel
theorem dX6_travellerOf_43 : decode cX6_travellerOf 43 = .ok (.ifCond .ne 19, 3) := by decide +kernel
theorem dX6_travellerOf_46 : decode cX6_travellerOf 46 = .ok (.aload_n 0, 1) := by decide +kernel
theorem dX6_travellerOf_47 : decode cX6_travellerOf 47 = .ok (.iload_n 1, 1) := by decide +kernel
theorem dX6_travellerOf_48 : decode cX6_travellerOf 48 = .ok (.iconst 2, 1) := by decide +kernel
theorem dX6_travellerOf_49 : decode cX6_travellerOf 49 = .ok (.invokevirtual 66, 3) := by decide +kernel
theorem dX6_travellerOf_52 : decode cX6_travellerOf 52 = .ok (.iconst (-1), 1) := by decide +kernel
theorem dX6_travellerOf_53 : decode cX6_travellerOf 53 = .ok (.if_icmp .ne 7, 3) := by decide +kernel
theorem dX6_travellerOf_56 : decode cX6_travellerOf 56 = .ok (.iconst 1, 1) := by decide +kernel
theorem dX6_travellerOf_57 : decode cX6_travellerOf 57 = .ok (.goto 4, 3) := by decide +kernel
theorem dX6_travellerOf_60 : decode cX6_travellerOf 60 = .ok (.iconst 0, 1) := by decide +kernel
theorem dX6_travellerOf_61 : decode cX6_travellerOf 61 = .ok (.ireturn, 1) := by decide +kernel
theorem dX6_travellerOf_62 : decode cX6_travellerOf 62 = .ok (.iload_n 2, 1) := by decide +kernel
theorem dX6_travellerOf_63 : decode cX6_travellerOf 63 = .ok (.iconst 1, 1) := by decide +kernel
theorem dX6_travellerOf_64 : decode cX6_travellerOf 64 = .ok (.bipush 8, 2) := by decide +kernel
theorem dX6_travellerOf_66 : decode cX6_travellerOf 66 = .ok (.invokestatic 62, 3) := by decide +kernel
theorem dX6_travellerOf_69 : decode cX6_travellerOf 69 = .ok (.ifCond .eq 14, 3) := by decide +kernel
theorem dX6_travellerOf_72 : decode cX6_travellerOf 72 = .ok (.aload_n 0, 1) := by decide +kernel
theorem dX6_travellerOf_73 : decode cX6_travellerOf 73 = .ok (.iload_n 1, 1) := by decide +kernel
theorem dX6_travellerOf_74 : decode cX6_travellerOf 74 = .ok (.iload_n 2, 1) := by decide +kernel
theorem dX6_travellerOf_75 : decode cX6_travellerOf 75 = .ok (.iconst 1, 1) := by decide +kernel
theorem dX6_travellerOf_76 : decode cX6_travellerOf 76 = .ok (.isub, 1) := by decide +kernel
theorem dX6_travellerOf_77 : decode cX6_travellerOf 77 = .ok (.invokevirtual 66, 3) := by decide +kernel
theorem dX6_travellerOf_80 : decode cX6_travellerOf 80 = .ok (.goto 8, 3) := by decide +kernel
theorem dX6_travellerOf_83 : decode cX6_travellerOf 83 = .ok (.aload_n 0, 1) := by decide +kernel
theorem dX6_travellerOf_84 : decode cX6_travellerOf 84 = .ok (.iconst 2, 1) := by decide +kernel
theorem dX6_travellerOf_85 : decode cX6_travellerOf 85 = .ok (.invokevirtual 58, 3) := by decide +kernel
theorem dX6_travellerOf_88 : decode cX6_travellerOf 88 = .ok (.ireturn, 1) := by decide +kernel
theorem dX6_feeOf_0 : decode cX6_feeOf 0 = .ok (.aload_n 0, 1) := by decide +kernel
theorem dX6_feeOf_1 : decode cX6_feeOf 1 = .ok (.iload_n 1, 1) := by decide +kernel
theorem dX6_feeOf_2 : decode cX6_feeOf 2 = .ok (.invokevirtual 121, 3) := by decide +kernel
theorem dX6_feeOf_5 : decode cX6_feeOf 5 = .ok (.iconst 2, 1) := by decide +kernel
theorem dX6_feeOf_6 : decode cX6_feeOf 6 = .ok (.if_icmp .ne 7, 3) := by decide +kernel
theorem dX6_feeOf_9 : decode cX6_feeOf 9 = .ok (.iconst 4, 1) := by decide +kernel
theorem dX6_feeOf_10 : decode cX6_feeOf 10 = .ok (.goto 4, 3) := by decide +kernel
theorem dX6_feeOf_13 : decode cX6_feeOf 13 = .ok (.iconst 2, 1) := by decide +kernel
theorem dX6_feeOf_14 : decode cX6_feeOf 14 = .ok (.aload_n 0, 1) := by decide +kernel
theorem dX6_feeOf_15 : decode cX6_feeOf 15 = .ok (.iload_n 1, 1) := by decide +kernel
theorem dX6_feeOf_16 : decode cX6_feeOf 16 = .ok (.iconst 0, 1) := by decide +kernel
theorem dX6_feeOf_17 : decode cX6_feeOf 17 = .ok (.invokevirtual 66, 3) := by decide +kernel
theorem dX6_feeOf_20 : decode cX6_feeOf 20 = .ok (.iconst 5, 1) := by decide +kernel
theorem dX6_feeOf_21 : decode cX6_feeOf 21 = .ok (.idiv, 1) := by decide +kernel
theorem dX6_feeOf_22 : decode cX6_feeOf 22 = .ok (.iadd, 1) := by decide +kernel
theorem dX6_feeOf_23 : decode cX6_feeOf 23 = .ok (.ireturn, 1) := by decide +kernel
theorem dX6_fee_0 : decode cX6_fee 0 = .ok (.aload_n 0, 1) := by decide +kernel
theorem dX6_fee_1 : decode cX6_fee 1 = .ok (.iconst 0, 1) := by decide +kernel
theorem dX6_fee_2 : decode cX6_fee 2 = .ok (.putfield 46, 3) := by decide +kernel
theorem dX6_fee_5 : decode cX6_fee 5 = .ok (.aload_n 0, 1) := by decide +kernel
theorem dX6_fee_6 : decode cX6_fee 6 = .ok (.iload_n 1, 1) := by decide +kernel
theorem dX6_fee_7 : decode cX6_fee 7 = .ok (.invokevirtual 118, 3) := by decide +kernel
theorem dX6_fee_10 : decode cX6_fee 10 = .ok (.ifCond .eq 11, 3) := by decide +kernel
theorem dX6_fee_13 : decode cX6_fee 13 = .ok (.aload_n 0, 1) := by decide +kernel
theorem dX6_fee_14 : decode cX6_fee 14 = .ok (.iload_n 1, 1) := by decide +kernel
theorem dX6_fee_15 : decode cX6_fee 15 = .ok (.invokevirtual 124, 3) := by decide +kernel
theorem dX6_fee_18 : decode cX6_fee 18 = .ok (.goto 8, 3) := by decide +kernel
theorem dX6_fee_21 : decode cX6_fee 21 = .ok (.aload_n 0, 1) := by decide +kernel
theorem dX6_fee_22 : decode cX6_fee 22 = .ok (.iconst 1, 1) := by decide +kernel
theorem dX6_fee_23 : decode cX6_fee 23 = .ok (.invokevirtual 58, 3) := by decide +kernel
theorem dX6_fee_26 : decode cX6_fee 26 = .ok (.ireturn, 1) := by decide +kernel
theorem dX6_setOut_0 : decode cX6_setOut 0 = .ok (.aload_n 0, 1) := by decide +kernel
theorem dX6_setOut_1 : decode cX6_setOut 1 = .ok (.invokevirtual 82, 3) := by decide +kernel
theorem dX6_setOut_4 : decode cX6_setOut 4 = .ok (.aload_n 0, 1) := by decide +kernel
theorem dX6_setOut_5 : decode cX6_setOut 5 = .ok (.iload_n 1, 1) := by decide +kernel
theorem dX6_setOut_6 : decode cX6_setOut 6 = .ok (.invokevirtual 118, 3) := by decide +kernel
theorem dX6_setOut_9 : decode cX6_setOut 9 = .ok (.ifCond .ne 9, 3) := by decide +kernel
theorem dX6_setOut_12 : decode cX6_setOut 12 = .ok (.aload_n 0, 1) := by decide +kernel
theorem dX6_setOut_13 : decode cX6_setOut 13 = .ok (.iconst 1, 1) := by decide +kernel
theorem dX6_setOut_14 : decode cX6_setOut 14 = .ok (.invokevirtual 58, 3) := by decide +kernel
theorem dX6_setOut_17 : decode cX6_setOut 17 = .ok (.ireturn, 1) := by decide +kernel
theorem dX6_setOut_18 : decode cX6_setOut 18 = .ok (.aload_n 0, 1) := by decide +kernel
theorem dX6_setOut_19 : decode cX6_setOut 19 = .ok (.iload_n 1, 1) := by decide +kernel
theorem dX6_setOut_20 : decode cX6_setOut 20 = .ok (.iconst 3, 1) := by decide +kernel
theorem dX6_setOut_21 : decode cX6_setOut 21 = .ok (.invokevirtual 66, 3) := by decide +kernel
theorem dX6_setOut_24 : decode cX6_setOut 24 = .ok (.iconst 1, 1) := by decide +kernel
theorem dX6_setOut_25 : decode cX6_setOut 25 = .ok (.if_icmp .ne 16, 3) := by decide +kernel
theorem dX6_setOut_28 : decode cX6_setOut 28 = .ok (.aload_n 0, 1) := by decide +kernel
theorem dX6_setOut_29 : decode cX6_setOut 29 = .ok (.iconst 2, 1) := by decide +kernel
theorem dX6_setOut_30 : decode cX6_setOut 30 = .ok (.iconst 2, 1) := by decide +kernel
theorem dX6_setOut_31 : decode cX6_setOut 31 = .ok (.aload_n 0, 1) := by decide +kernel
theorem dX6_setOut_32 : decode cX6_setOut 32 = .ok (.iload_n 1, 1) := by decide +kernel
theorem dX6_setOut_33 : decode cX6_setOut 33 = .ok (.iconst 2, 1) := by decide +kernel
theorem dX6_setOut_34 : decode cX6_setOut 34 = .ok (.invokevirtual 66, 3) := by decide +kernel
theorem dX6_setOut_37 : decode cX6_setOut 37 = .ok (.invokevirtual 92, 3) := by decide +kernel
theorem dX6_setOut_40 : decode cX6_setOut 40 = .ok (.ireturn, 1) := by decide +kernel
theorem dX6_setOut_41 : decode cX6_setOut 41 = .ok (.aload_n 0, 1) := by decide +kernel
theorem dX6_setOut_42 : decode cX6_setOut 42 = .ok (.iload_n 1, 1) := by decide +kernel
theorem dX6_setOut_43 : decode cX6_setOut 43 = .ok (.iconst 1, 1) := by decide +kernel
theorem dX6_setOut_44 : decode cX6_setOut 44 = .ok (.invokevirtual 66, 3) := by decide +kernel
theorem dX6_setOut_47 : decode cX6_setOut 47 = .ok (.bipush 12, 2) := by decide +kernel
theorem dX6_setOut_49 : decode cX6_setOut 49 = .ok (.if_icmp .lt 16, 3) := by decide +kernel
theorem dX6_setOut_52 : decode cX6_setOut 52 = .ok (.aload_n 0, 1) := by decide +kernel
theorem dX6_setOut_53 : decode cX6_setOut 53 = .ok (.iconst 2, 1) := by decide +kernel
theorem dX6_setOut_54 : decode cX6_setOut 54 = .ok (.iconst 4, 1) := by decide +kernel
theorem dX6_setOut_55 : decode cX6_setOut 55 = .ok (.aload_n 0, 1) := by decide +kernel
theorem dX6_setOut_56 : decode cX6_setOut 56 = .ok (.iload_n 1, 1) := by decide +kernel
theorem dX6_setOut_57 : decode cX6_setOut 57 = .ok (.iconst 1, 1) := by decide +kernel
theorem dX6_setOut_58 : decode cX6_setOut 58 = .ok (.invokevirtual 66, 3) := by decide +kernel
theorem dX6_setOut_61 : decode cX6_setOut 61 = .ok (.invokevirtual 92, 3) := by decide +kernel
theorem dX6_setOut_64 : decode cX6_setOut 64 = .ok (.ireturn, 1) := by decide +kernel
theorem dX6_setOut_65 : decode cX6_setOut 65 = .ok (.aload_n 0, 1) := by decide +kernel
theorem dX6_setOut_66 : decode cX6_setOut 66 = .ok (.iload_n 1, 1) := by decide +kernel
theorem dX6_setOut_67 : decode cX6_setOut 67 = .ok (.iconst 3, 1) := by decide +kernel
theorem dX6_setOut_68 : decode cX6_setOut 68 = .ok (.iconst 1, 1) := by decide +kernel
theorem dX6_setOut_69 : decode cX6_setOut 69 = .ok (.invokevirtual 78, 3) := by decide +kernel
theorem dX6_setOut_72 : decode cX6_setOut 72 = .ok (.aload_n 0, 1) := by decide +kernel
theorem dX6_setOut_73 : decode cX6_setOut 73 = .ok (.iload_n 1, 1) := by decide +kernel
theorem dX6_setOut_74 : decode cX6_setOut 74 = .ok (.iconst 5, 1) := by decide +kernel
theorem dX6_setOut_75 : decode cX6_setOut 75 = .ok (.iconst 0, 1) := by decide +kernel
theorem dX6_setOut_76 : decode cX6_setOut 76 = .ok (.invokevirtual 78, 3) := by decide +kernel
theorem dX6_setOut_79 : decode cX6_setOut 79 = .ok (.aload_n 0, 1) := by decide +kernel
theorem dX6_setOut_80 : decode cX6_setOut 80 = .ok (.iload_n 1, 1) := by decide +kernel
theorem dX6_setOut_81 : decode cX6_setOut 81 = .ok (.iconst 4, 1) := by decide +kernel
theorem dX6_setOut_82 : decode cX6_setOut 82 = .ok (.aload_n 0, 1) := by decide +kernel
theorem dX6_setOut_83 : decode cX6_setOut 83 = .ok (.iload_n 1, 1) := by decide +kernel
theorem dX6_setOut_84 : decode cX6_setOut 84 = .ok (.iconst 2, 1) := by decide +kernel
theorem dX6_setOut_85 : decode cX6_setOut 85 = .ok (.invokevirtual 66, 3) := by decide +kernel
theorem dX6_setOut_88 : decode cX6_setOut 88 = .ok (.iconst (-1), 1) := by decide +kernel
theorem dX6_setOut_89 : decode cX6_setOut 89 = .ok (.if_icmp .ne 7, 3) := by decide +kernel
theorem dX6_setOut_92 : decode cX6_setOut 92 = .ok (.iconst 1, 1) := by decide +kernel
theorem dX6_setOut_93 : decode cX6_setOut 93 = .ok (.goto 4, 3) := by decide +kernel
theorem dX6_setOut_96 : decode cX6_setOut 96 = .ok (.iconst 0, 1) := by decide +kernel
theorem dX6_setOut_97 : decode cX6_setOut 97 = .ok (.invokevirtual 78, 3) := by decide +kernel
theorem dX6_setOut_100 : decode cX6_setOut 100 = .ok (.aload_n 0, 1) := by decide +kernel
theorem dX6_setOut_101 : decode cX6_setOut 101 = .ok (.getfield 9, 3) := by decide +kernel
theorem dX6_setOut_104 : decode cX6_setOut 104 = .ok (.bipush 7, 2) := by decide +kernel
theorem dX6_setOut_106 : decode cX6_setOut 106 = .ok (.dup2, 1) := by decide +kernel
theorem dX6_setOut_107 : decode cX6_setOut 107 = .ok (.iaload, 1) := by decide +kernel
theorem dX6_setOut_108 : decode cX6_setOut 108 = .ok (.aload_n 0, 1) := by decide +kernel
theorem dX6_setOut_109 : decode cX6_setOut 109 = .ok (.iload_n 1, 1) := by decide +kernel
theorem dX6_setOut_110 : decode cX6_setOut 110 = .ok (.invokevirtual 124, 3) := by decide +kernel
theorem dX6_setOut_113 : decode cX6_setOut 113 = .ok (.iadd, 1) := by decide +kernel
theorem dX6_setOut_114 : decode cX6_setOut 114 = .ok (.iastore, 1) := by decide +kernel
theorem dX6_setOut_115 : decode cX6_setOut 115 = .ok (.aload_n 0, 1) := by decide +kernel
theorem dX6_setOut_116 : decode cX6_setOut 116 = .ok (.iload_n 1, 1) := by decide +kernel
theorem dX6_setOut_117 : decode cX6_setOut 117 = .ok (.invokevirtual 121, 3) := by decide +kernel
theorem dX6_setOut_120 : decode cX6_setOut 120 = .ok (.ifCond .ne 52, 3) := by decide +kernel
theorem dX6_setOut_123 : decode cX6_setOut 123 = .ok (.aload_n 0, 1) := by decide +kernel
theorem dX6_setOut_124 : decode cX6_setOut 124 = .ok (.iload_n 1, 1) := by decide +kernel
theorem dX6_setOut_125 : decode cX6_setOut 125 = .ok (.iconst 2, 1) := by decide +kernel
theorem dX6_setOut_126 : decode cX6_setOut 126 = .ok (.invokevirtual 66, 3) := by decide +kernel
theorem dX6_setOut_129 : decode cX6_setOut 129 = .ok (.iconst (-1), 1) := by decide +kernel
theorem dX6_setOut_130 : decode cX6_setOut 130 = .ok (.if_icmp .ne 42, 3) := by decide +kernel
theorem dX6_setOut_133 : decode cX6_setOut 133 = .ok (.aload_n 0, 1) := by decide +kernel
theorem dX6_setOut_134 : decode cX6_setOut 134 = .ok (.getfield 9, 3) := by decide +kernel
theorem dX6_setOut_137 : decode cX6_setOut 137 = .ok (.iconst 4, 1) := by decide +kernel
theorem dX6_setOut_138 : decode cX6_setOut 138 = .ok (.iaload, 1) := by decide +kernel
theorem dX6_setOut_139 : decode cX6_setOut 139 = .ok (.bipush 12, 2) := by decide +kernel
theorem dX6_setOut_141 : decode cX6_setOut 141 = .ok (.iconst 3, 1) := by decide +kernel
theorem dX6_setOut_142 : decode cX6_setOut 142 = .ok (.aload_n 0, 1) := by decide +kernel
theorem dX6_setOut_143 : decode cX6_setOut 143 = .ok (.iload_n 1, 1) := by decide +kernel
theorem dX6_setOut_144 : decode cX6_setOut 144 = .ok (.iconst 0, 1) := by decide +kernel
theorem dX6_setOut_145 : decode cX6_setOut 145 = .ok (.invokevirtual 66, 3) := by decide +kernel
theorem dX6_setOut_148 : decode cX6_setOut 148 = .ok (.imul, 1) := by decide +kernel
theorem dX6_setOut_149 : decode cX6_setOut 149 = .ok (.isub, 1) := by decide +kernel
theorem dX6_setOut_150 : decode cX6_setOut 150 = .ok (.invokestatic 70, 3) := by decide +kernel
theorem dX6_setOut_153 : decode cX6_setOut 153 = .ok (.istore_n 2, 1) := by decide +kernel
theorem dX6_setOut_154 : decode cX6_setOut 154 = .ok (.aload_n 0, 1) := by decide +kernel
theorem dX6_setOut_155 : decode cX6_setOut 155 = .ok (.getfield 9, 3) := by decide +kernel
theorem dX6_setOut_158 : decode cX6_setOut 158 = .ok (.iconst 4, 1) := by decide +kernel
theorem dX6_setOut_159 : decode cX6_setOut 159 = .ok (.dup2, 1) := by decide +kernel
theorem dX6_setOut_160 : decode cX6_setOut 160 = .ok (.iaload, 1) := by decide +kernel
theorem dX6_setOut_161 : decode cX6_setOut 161 = .ok (.iload_n 2, 1) := by decide +kernel
theorem dX6_setOut_162 : decode cX6_setOut 162 = .ok (.isub, 1) := by decide +kernel
theorem dX6_setOut_163 : decode cX6_setOut 163 = .ok (.iastore, 1) := by decide +kernel
theorem dX6_setOut_164 : decode cX6_setOut 164 = .ok (.aload_n 0, 1) := by decide +kernel
theorem dX6_setOut_165 : decode cX6_setOut 165 = .ok (.iload_n 1, 1) := by decide +kernel
theorem dX6_setOut_166 : decode cX6_setOut 166 = .ok (.bipush 7, 2) := by decide +kernel
theorem dX6_setOut_168 : decode cX6_setOut 168 = .ok (.iload_n 2, 1) := by decide +kernel
theorem dX6_setOut_169 : decode cX6_setOut 169 = .ok (.invokevirtual 78, 3) := by decide +kernel
theorem dX6_setOut_172 : decode cX6_setOut 172 = .ok (.aload_n 0, 1) := by decide +kernel
theorem dX6_setOut_173 : decode cX6_setOut 173 = .ok (.aload_n 0, 1) := by decide +kernel
theorem dX6_setOut_174 : decode cX6_setOut 174 = .ok (.iload_n 1, 1) := by decide +kernel
theorem dX6_setOut_175 : decode cX6_setOut 175 = .ok (.invokevirtual 124, 3) := by decide +kernel
theorem dX6_setOut_178 : decode cX6_setOut 178 = .ok (.invokevirtual 96, 3) := by decide +kernel
theorem dX6_setOut_181 : decode cX6_setOut 181 = .ok (.ireturn, 1) := by decide +kernel
theorem dX6_halts_0 : decode cX6_halts 0 = .ok (.aload_n 0, 1) := by decide +kernel
theorem dX6_halts_1 : decode cX6_halts 1 = .ok (.invokevirtual 82, 3) := by decide +kernel
theorem dX6_halts_4 : decode cX6_halts 4 = .ok (.aload_n 0, 1) := by decide +kernel
theorem dX6_halts_5 : decode cX6_halts 5 = .ok (.iload_n 1, 1) := by decide +kernel
theorem dX6_halts_6 : decode cX6_halts 6 = .ok (.invokevirtual 118, 3) := by decide +kernel
theorem dX6_halts_9 : decode cX6_halts 9 = .ok (.ifCond .ne 9, 3) := by decide +kernel
theorem dX6_halts_12 : decode cX6_halts 12 = .ok (.aload_n 0, 1) := by decide +kernel
theorem dX6_halts_13 : decode cX6_halts 13 = .ok (.iconst 1, 1) := by decide +kernel
theorem dX6_halts_14 : decode cX6_halts 14 = .ok (.invokevirtual 58, 3) := by decide +kernel
theorem dX6_halts_17 : decode cX6_halts 17 = .ok (.ireturn, 1) := by decide +kernel
theorem dX6_halts_18 : decode cX6_halts 18 = .ok (.aload_n 0, 1) := by decide +kernel
theorem dX6_halts_19 : decode cX6_halts 19 = .ok (.iload_n 1, 1) := by decide +kernel
theorem dX6_halts_20 : decode cX6_halts 20 = .ok (.iconst 3, 1) := by decide +kernel
theorem dX6_halts_21 : decode cX6_halts 21 = .ok (.invokevirtual 66, 3) := by decide +kernel
theorem dX6_halts_24 : decode cX6_halts 24 = .ok (.ifCond .ne 16, 3) := by decide +kernel
theorem dX6_halts_27 : decode cX6_halts 27 = .ok (.aload_n 0, 1) := by decide +kernel
theorem dX6_halts_28 : decode cX6_halts 28 = .ok (.iconst 2, 1) := by decide +kernel
theorem dX6_halts_29 : decode cX6_halts 29 = .ok (.iconst 3, 1) := by decide +kernel
theorem dX6_halts_30 : decode cX6_halts 30 = .ok (.aload_n 0, 1) := by decide +kernel
theorem dX6_halts_31 : decode cX6_halts 31 = .ok (.iload_n 1, 1) := by decide +kernel
theorem dX6_halts_32 : decode cX6_halts 32 = .ok (.iconst 2, 1) := by decide +kernel
theorem dX6_halts_33 : decode cX6_halts 33 = .ok (.invokevirtual 66, 3) := by decide +kernel
theorem dX6_halts_36 : decode cX6_halts 36 = .ok (.invokevirtual 92, 3) := by decide +kernel
theorem dX6_halts_39 : decode cX6_halts 39 = .ok (.ireturn, 1) := by decide +kernel
theorem dX6_halts_40 : decode cX6_halts 40 = .ok (.aload_n 0, 1) := by decide +kernel
theorem dX6_halts_41 : decode cX6_halts 41 = .ok (.iload_n 1, 1) := by decide +kernel
theorem dX6_halts_42 : decode cX6_halts 42 = .ok (.iconst 5, 1) := by decide +kernel
theorem dX6_halts_43 : decode cX6_halts 43 = .ok (.invokevirtual 66, 3) := by decide +kernel
theorem dX6_halts_46 : decode cX6_halts 46 = .ok (.iload_n 2, 1) := by decide +kernel
theorem dX6_halts_47 : decode cX6_halts 47 = .ok (.if_icmp .ne 12, 3) := by decide +kernel
theorem dX6_halts_50 : decode cX6_halts 50 = .ok (.aload_n 0, 1) := by decide +kernel
theorem dX6_halts_51 : decode cX6_halts 51 = .ok (.iconst 2, 1) := by decide +kernel
theorem dX6_halts_52 : decode cX6_halts 52 = .ok (.bipush 7, 2) := by decide +kernel
theorem dX6_halts_54 : decode cX6_halts 54 = .ok (.iload_n 1, 1) := by decide +kernel
theorem dX6_halts_55 : decode cX6_halts 55 = .ok (.invokevirtual 92, 3) := by decide +kernel
theorem dX6_halts_58 : decode cX6_halts 58 = .ok (.ireturn, 1) := by decide +kernel
theorem dX6_halts_59 : decode cX6_halts 59 = .ok (.aload_n 0, 1) := by decide +kernel
theorem dX6_halts_60 : decode cX6_halts 60 = .ok (.iload_n 1, 1) := by decide +kernel
theorem dX6_halts_61 : decode cX6_halts 61 = .ok (.iconst 5, 1) := by decide +kernel
theorem dX6_halts_62 : decode cX6_halts 62 = .ok (.iload_n 2, 1) := by decide +kernel
theorem dX6_halts_63 : decode cX6_halts 63 = .ok (.invokevirtual 78, 3) := by decide +kernel
theorem dX6_halts_66 : decode cX6_halts 66 = .ok (.aload_n 0, 1) := by decide +kernel
theorem dX6_halts_67 : decode cX6_halts 67 = .ok (.aload_n 0, 1) := by decide +kernel
theorem dX6_halts_68 : decode cX6_halts 68 = .ok (.iload_n 1, 1) := by decide +kernel
theorem dX6_halts_69 : decode cX6_halts 69 = .ok (.iconst 2, 1) := by decide +kernel
theorem dX6_halts_70 : decode cX6_halts 70 = .ok (.invokevirtual 66, 3) := by decide +kernel
theorem dX6_halts_73 : decode cX6_halts 73 = .ok (.invokevirtual 96, 3) := by decide +kernel
theorem dX6_halts_76 : decode cX6_halts 76 = .ok (.ireturn, 1) := by decide +kernel
theorem dX6_stop_0 : decode cX6_stop 0 = .ok (.aload_n 0, 1) := by decide +kernel
theorem dX6_stop_1 : decode cX6_stop 1 = .ok (.iload_n 1, 1) := by decide +kernel
theorem dX6_stop_2 : decode cX6_stop 2 = .ok (.iconst 1, 1) := by decide +kernel
theorem dX6_stop_3 : decode cX6_stop 3 = .ok (.invokevirtual 127, 3) := by decide +kernel
theorem dX6_stop_6 : decode cX6_stop 6 = .ok (.ireturn, 1) := by decide +kernel
theorem dX6_go_0 : decode cX6_go 0 = .ok (.aload_n 0, 1) := by decide +kernel
theorem dX6_go_1 : decode cX6_go 1 = .ok (.iload_n 1, 1) := by decide +kernel
theorem dX6_go_2 : decode cX6_go 2 = .ok (.iconst 0, 1) := by decide +kernel
theorem dX6_go_3 : decode cX6_go 3 = .ok (.invokevirtual 127, 3) := by decide +kernel
theorem dX6_go_6 : decode cX6_go 6 = .ok (.ireturn, 1) := by decide +kernel
theorem dX6_leave_0 : decode cX6_leave 0 = .ok (.aload_n 0, 1) := by decide +kernel
theorem dX6_leave_1 : decode cX6_leave 1 = .ok (.invokevirtual 82, 3) := by decide +kernel
theorem dX6_leave_4 : decode cX6_leave 4 = .ok (.aload_n 0, 1) := by decide +kernel
theorem dX6_leave_5 : decode cX6_leave 5 = .ok (.iload_n 1, 1) := by decide +kernel
theorem dX6_leave_6 : decode cX6_leave 6 = .ok (.invokevirtual 118, 3) := by decide +kernel
theorem dX6_leave_9 : decode cX6_leave 9 = .ok (.ifCond .ne 9, 3) := by decide +kernel
theorem dX6_leave_12 : decode cX6_leave 12 = .ok (.aload_n 0, 1) := by decide +kernel
theorem dX6_leave_13 : decode cX6_leave 13 = .ok (.iconst 1, 1) := by decide +kernel
theorem dX6_leave_14 : decode cX6_leave 14 = .ok (.invokevirtual 58, 3) := by decide +kernel
theorem dX6_leave_17 : decode cX6_leave 17 = .ok (.ireturn, 1) := by decide +kernel
theorem dX6_leave_18 : decode cX6_leave 18 = .ok (.aload_n 0, 1) := by decide +kernel
theorem dX6_leave_19 : decode cX6_leave 19 = .ok (.iload_n 1, 1) := by decide +kernel
theorem dX6_leave_20 : decode cX6_leave 20 = .ok (.iconst 3, 1) := by decide +kernel
theorem dX6_leave_21 : decode cX6_leave 21 = .ok (.invokevirtual 66, 3) := by decide +kernel
theorem dX6_leave_24 : decode cX6_leave 24 = .ok (.iconst 1, 1) := by decide +kernel
theorem dX6_leave_25 : decode cX6_leave 25 = .ok (.if_icmp .ne 16, 3) := by decide +kernel
theorem dX6_leave_28 : decode cX6_leave 28 = .ok (.aload_n 0, 1) := by decide +kernel
theorem dX6_leave_29 : decode cX6_leave 29 = .ok (.iconst 2, 1) := by decide +kernel
theorem dX6_leave_30 : decode cX6_leave 30 = .ok (.iconst 2, 1) := by decide +kernel
theorem dX6_leave_31 : decode cX6_leave 31 = .ok (.aload_n 0, 1) := by decide +kernel
theorem dX6_leave_32 : decode cX6_leave 32 = .ok (.iload_n 1, 1) := by decide +kernel
theorem dX6_leave_33 : decode cX6_leave 33 = .ok (.iconst 2, 1) := by decide +kernel
theorem dX6_leave_34 : decode cX6_leave 34 = .ok (.invokevirtual 66, 3) := by decide +kernel
theorem dX6_leave_37 : decode cX6_leave 37 = .ok (.invokevirtual 92, 3) := by decide +kernel
theorem dX6_leave_40 : decode cX6_leave 40 = .ok (.ireturn, 1) := by decide +kernel
theorem dX6_leave_41 : decode cX6_leave 41 = .ok (.aload_n 0, 1) := by decide +kernel
theorem dX6_leave_42 : decode cX6_leave 42 = .ok (.iload_n 1, 1) := by decide +kernel
theorem dX6_leave_43 : decode cX6_leave 43 = .ok (.bipush 6, 2) := by decide +kernel
theorem dX6_leave_45 : decode cX6_leave 45 = .ok (.invokevirtual 66, 3) := by decide +kernel
theorem dX6_leave_48 : decode cX6_leave 48 = .ok (.istore_n 2, 1) := by decide +kernel
theorem dX6_leave_49 : decode cX6_leave 49 = .ok (.aload_n 0, 1) := by decide +kernel
theorem dX6_leave_50 : decode cX6_leave 50 = .ok (.getfield 9, 3) := by decide +kernel
theorem dX6_leave_53 : decode cX6_leave 53 = .ok (.iconst 3, 1) := by decide +kernel
theorem dX6_leave_54 : decode cX6_leave 54 = .ok (.dup2, 1) := by decide +kernel
theorem dX6_leave_55 : decode cX6_leave 55 = .ok (.iaload, 1) := by decide +kernel
theorem dX6_leave_56 : decode cX6_leave 56 = .ok (.iconst 1, 1) := by decide +kernel
theorem dX6_leave_57 : decode cX6_leave 57 = .ok (.isub, 1) := by decide +kernel
theorem dX6_leave_58 : decode cX6_leave 58 = .ok (.iastore, 1) := by decide +kernel
theorem dX6_leave_59 : decode cX6_leave 59 = .ok (.bipush 20, 2) := by decide +kernel
theorem dX6_leave_61 : decode cX6_leave 61 = .ok (.bipush 8, 2) := by decide +kernel
theorem dX6_leave_63 : decode cX6_leave 63 = .ok (.iload_n 1, 1) := by decide +kernel
theorem dX6_leave_64 : decode cX6_leave 64 = .ok (.imul, 1) := by decide +kernel
theorem dX6_leave_65 : decode cX6_leave 65 = .ok (.iadd, 1) := by decide +kernel
theorem dX6_leave_66 : decode cX6_leave 66 = .ok (.istore_n 3, 1) := by decide +kernel
theorem dX6_leave_67 : decode cX6_leave 67 = .ok (.iload_n 3, 1) := by decide +kernel
theorem dX6_leave_68 : decode cX6_leave 68 = .ok (.bipush 20, 2) := by decide +kernel
theorem dX6_leave_70 : decode cX6_leave 70 = .ok (.bipush 8, 2) := by decide +kernel
theorem dX6_leave_72 : decode cX6_leave 72 = .ok (.aload_n 0, 1) := by decide +kernel
theorem dX6_leave_73 : decode cX6_leave 73 = .ok (.getfield 9, 3) := by decide +kernel
theorem dX6_leave_76 : decode cX6_leave 76 = .ok (.iconst 3, 1) := by decide +kernel
theorem dX6_leave_77 : decode cX6_leave 77 = .ok (.iaload, 1) := by decide +kernel
theorem dX6_leave_78 : decode cX6_leave 78 = .ok (.imul, 1) := by decide +kernel
theorem dX6_leave_79 : decode cX6_leave 79 = .ok (.iadd, 1) := by decide +kernel
theorem dX6_leave_80 : decode cX6_leave 80 = .ok (.if_icmp .ge 24, 3) := by decide +kernel
theorem dX6_leave_83 : decode cX6_leave 83 = .ok (.aload_n 0, 1) := by decide +kernel
theorem dX6_leave_84 : decode cX6_leave 84 = .ok (.getfield 9, 3) := by decide +kernel
theorem dX6_leave_87 : decode cX6_leave 87 = .ok (.iload_n 3, 1) := by decide +kernel
theorem dX6_leave_88 : decode cX6_leave 88 = .ok (.aload_n 0, 1) := by decide +kernel
theorem dX6_leave_89 : decode cX6_leave 89 = .ok (.getfield 9, 3) := by decide +kernel
theorem dX6_leave_92 : decode cX6_leave 92 = .ok (.iload_n 3, 1) := by decide +kernel
theorem dX6_leave_93 : decode cX6_leave 93 = .ok (.bipush 8, 2) := by decide +kernel
theorem dX6_leave_95 : decode cX6_leave 95 = .ok (.iadd, 1) := by decide +kernel
theorem dX6_leave_96 : decode cX6_leave 96 = .ok (.iaload, 1) := by decide +kernel
theorem dX6_leave_97 : decode cX6_leave 97 = .ok (.iastore, 1) := by decide +kernel
theorem dX6_leave_98 : decode cX6_leave 98 = .ok (.iinc 3 1, 3) := by decide +kernel
theorem dX6_leave_101 : decode cX6_leave 101 = .ok (.goto (-34), 3) := by decide +kernel
theorem dX6_leave_104 : decode cX6_leave 104 = .ok (.aload_n 0, 1) := by decide +kernel
theorem dX6_leave_105 : decode cX6_leave 105 = .ok (.iload_n 2, 1) := by decide +kernel
theorem dX6_leave_106 : decode cX6_leave 106 = .ok (.invokevirtual 96, 3) := by decide +kernel
theorem dX6_leave_109 : decode cX6_leave 109 = .ok (.ireturn, 1) := by decide +kernel
theorem dX6_comesToBank_0 : decode cX6_comesToBank 0 = .ok (.aload_n 0, 1) := by decide +kernel
theorem dX6_comesToBank_1 : decode cX6_comesToBank 1 = .ok (.iload_n 1, 1) := by decide +kernel
theorem dX6_comesToBank_2 : decode cX6_comesToBank 2 = .ok (.iconst 2, 1) := by decide +kernel
theorem dX6_comesToBank_3 : decode cX6_comesToBank 3 = .ok (.iload_n 2, 1) := by decide +kernel
theorem dX6_comesToBank_4 : decode cX6_comesToBank 4 = .ok (.invokevirtual 78, 3) := by decide +kernel
theorem dX6_comesToBank_7 : decode cX6_comesToBank 7 = .ok (.aload_n 0, 1) := by decide +kernel
theorem dX6_comesToBank_8 : decode cX6_comesToBank 8 = .ok (.iload_n 1, 1) := by decide +kernel
theorem dX6_comesToBank_9 : decode cX6_comesToBank 9 = .ok (.iconst 3, 1) := by decide +kernel
theorem dX6_comesToBank_10 : decode cX6_comesToBank 10 = .ok (.iconst 0, 1) := by decide +kernel
theorem dX6_comesToBank_11 : decode cX6_comesToBank 11 = .ok (.invokevirtual 78, 3) := by decide +kernel
theorem dX6_comesToBank_14 : decode cX6_comesToBank 14 = .ok (.aload_n 0, 1) := by decide +kernel
theorem dX6_comesToBank_15 : decode cX6_comesToBank 15 = .ok (.iload_n 1, 1) := by decide +kernel
theorem dX6_comesToBank_16 : decode cX6_comesToBank 16 = .ok (.iconst 5, 1) := by decide +kernel
theorem dX6_comesToBank_17 : decode cX6_comesToBank 17 = .ok (.iconst 0, 1) := by decide +kernel
theorem dX6_comesToBank_18 : decode cX6_comesToBank 18 = .ok (.invokevirtual 78, 3) := by decide +kernel
theorem dX6_comesToBank_21 : decode cX6_comesToBank 21 = .ok (.iload_n 2, 1) := by decide +kernel
theorem dX6_comesToBank_22 : decode cX6_comesToBank 22 = .ok (.iconst (-1), 1) := by decide +kernel
theorem dX6_comesToBank_23 : decode cX6_comesToBank 23 = .ok (.if_icmp .ne 22, 3) := by decide +kernel
theorem dX6_comesToBank_26 : decode cX6_comesToBank 26 = .ok (.aload_n 0, 1) := by decide +kernel
theorem dX6_comesToBank_27 : decode cX6_comesToBank 27 = .ok (.getfield 9, 3) := by decide +kernel
theorem dX6_comesToBank_30 : decode cX6_comesToBank 30 = .ok (.iconst 4, 1) := by decide +kernel
theorem dX6_comesToBank_31 : decode cX6_comesToBank 31 = .ok (.dup2, 1) := by decide +kernel
theorem dX6_comesToBank_32 : decode cX6_comesToBank 32 = .ok (.iaload, 1) := by decide +kernel
theorem dX6_comesToBank_33 : decode cX6_comesToBank 33 = .ok (.aload_n 0, 1) := by decide +kernel
theorem dX6_comesToBank_34 : decode cX6_comesToBank 34 = .ok (.iload_n 1, 1) := by decide +kernel
theorem dX6_comesToBank_35 : decode cX6_comesToBank 35 = .ok (.bipush 7, 2) := by decide +kernel
theorem dX6_comesToBank_37 : decode cX6_comesToBank 37 = .ok (.invokevirtual 66, 3) := by decide +kernel
theorem dX6_comesToBank_40 : decode cX6_comesToBank 40 = .ok (.iadd, 1) := by decide +kernel
theorem dX6_comesToBank_41 : decode cX6_comesToBank 41 = .ok (.iastore, 1) := by decide +kernel
theorem dX6_comesToBank_42 : decode cX6_comesToBank 42 = .ok (.goto 19, 3) := by decide +kernel
theorem dX6_comesToBank_45 : decode cX6_comesToBank 45 = .ok (.aload_n 0, 1) := by decide +kernel
theorem dX6_comesToBank_46 : decode cX6_comesToBank 46 = .ok (.getfield 9, 3) := by decide +kernel
theorem dX6_comesToBank_49 : decode cX6_comesToBank 49 = .ok (.iconst 5, 1) := by decide +kernel
theorem dX6_comesToBank_50 : decode cX6_comesToBank 50 = .ok (.dup2, 1) := by decide +kernel
theorem dX6_comesToBank_51 : decode cX6_comesToBank 51 = .ok (.iaload, 1) := by decide +kernel
theorem dX6_comesToBank_52 : decode cX6_comesToBank 52 = .ok (.aload_n 0, 1) := by decide +kernel
theorem dX6_comesToBank_53 : decode cX6_comesToBank 53 = .ok (.iload_n 1, 1) := by decide +kernel
theorem dX6_comesToBank_54 : decode cX6_comesToBank 54 = .ok (.bipush 7, 2) := by decide +kernel
theorem dX6_comesToBank_56 : decode cX6_comesToBank 56 = .ok (.invokevirtual 66, 3) := by decide +kernel
theorem dX6_comesToBank_59 : decode cX6_comesToBank 59 = .ok (.iadd, 1) := by decide +kernel
theorem dX6_comesToBank_60 : decode cX6_comesToBank 60 = .ok (.iastore, 1) := by decide +kernel
theorem dX6_comesToBank_61 : decode cX6_comesToBank 61 = .ok (.aload_n 0, 1) := by decide +kernel
theorem dX6_comesToBank_62 : decode cX6_comesToBank 62 = .ok (.iload_n 1, 1) := by decide +kernel
theorem dX6_comesToBank_63 : decode cX6_comesToBank 63 = .ok (.bipush 7, 2) := by decide +kernel
theorem dX6_comesToBank_65 : decode cX6_comesToBank 65 = .ok (.iconst 0, 1) := by decide +kernel
theorem dX6_comesToBank_66 : decode cX6_comesToBank 66 = .ok (.invokevirtual 78, 3) := by decide +kernel
theorem dX6_comesToBank_69 : decode cX6_comesToBank 69 = .ok (.return_, 1) := by decide +kernel
theorem dX6_goesBack_0 : decode cX6_goesBack 0 = .ok (.aload_n 0, 1) := by decide +kernel
theorem dX6_goesBack_1 : decode cX6_goesBack 1 = .ok (.iload_n 1, 1) := by decide +kernel
theorem dX6_goesBack_2 : decode cX6_goesBack 2 = .ok (.iconst 4, 1) := by decide +kernel
theorem dX6_goesBack_3 : decode cX6_goesBack 3 = .ok (.invokevirtual 66, 3) := by decide +kernel
theorem dX6_goesBack_6 : decode cX6_goesBack 6 = .ok (.iconst 1, 1) := by decide +kernel
theorem dX6_goesBack_7 : decode cX6_goesBack 7 = .ok (.if_icmp .ne 7, 3) := by decide +kernel
theorem dX6_goesBack_10 : decode cX6_goesBack 10 = .ok (.iconst (-1), 1) := by decide +kernel
theorem dX6_goesBack_11 : decode cX6_goesBack 11 = .ok (.goto 4, 3) := by decide +kernel
theorem dX6_goesBack_14 : decode cX6_goesBack 14 = .ok (.iconst 1, 1) := by decide +kernel
theorem dX6_goesBack_15 : decode cX6_goesBack 15 = .ok (.istore_n 2, 1) := by decide +kernel
theorem dX6_goesBack_16 : decode cX6_goesBack 16 = .ok (.aload_n 0, 1) := by decide +kernel
theorem dX6_goesBack_17 : decode cX6_goesBack 17 = .ok (.iload_n 1, 1) := by decide +kernel
theorem dX6_goesBack_18 : decode cX6_goesBack 18 = .ok (.iconst 2, 1) := by decide +kernel
theorem dX6_goesBack_19 : decode cX6_goesBack 19 = .ok (.invokevirtual 66, 3) := by decide +kernel
theorem dX6_goesBack_22 : decode cX6_goesBack 22 = .ok (.istore_n 3, 1) := by decide +kernel
theorem dX6_goesBack_23 : decode cX6_goesBack 23 = .ok (.iload_n 3, 1) := by decide +kernel
theorem dX6_goesBack_24 : decode cX6_goesBack 24 = .ok (.invokestatic 85, 3) := by decide +kernel
theorem dX6_goesBack_27 : decode cX6_goesBack 27 = .ok (.ifCond .eq 19, 3) := by decide +kernel
theorem dX6_goesBack_30 : decode cX6_goesBack 30 = .ok (.aload_n 0, 1) := by decide +kernel
theorem dX6_goesBack_31 : decode cX6_goesBack 31 = .ok (.iload_n 3, 1) := by decide +kernel
theorem dX6_goesBack_32 : decode cX6_goesBack 32 = .ok (.invokevirtual 99, 3) := by decide +kernel
theorem dX6_goesBack_35 : decode cX6_goesBack 35 = .ok (.iconst 2, 1) := by decide +kernel
theorem dX6_goesBack_36 : decode cX6_goesBack 36 = .ok (.if_icmp .ne 10, 3) := by decide +kernel
theorem dX6_goesBack_39 : decode cX6_goesBack 39 = .ok (.iload_n 3, 1) := by decide +kernel
theorem dX6_goesBack_40 : decode cX6_goesBack 40 = .ok (.iload_n 2, 1) := by decide +kernel
theorem dX6_goesBack_41 : decode cX6_goesBack 41 = .ok (.iadd, 1) := by decide +kernel
theorem dX6_goesBack_42 : decode cX6_goesBack 42 = .ok (.istore_n 3, 1) := by decide +kernel
theorem dX6_goesBack_43 : decode cX6_goesBack 43 = .ok (.goto (-20), 3) := by decide +kernel
theorem dX6_goesBack_46 : decode cX6_goesBack 46 = .ok (.aload_n 0, 1) := by decide +kernel
theorem dX6_goesBack_47 : decode cX6_goesBack 47 = .ok (.iload_n 1, 1) := by decide +kernel
theorem dX6_goesBack_48 : decode cX6_goesBack 48 = .ok (.iconst 5, 1) := by decide +kernel
theorem dX6_goesBack_49 : decode cX6_goesBack 49 = .ok (.invokevirtual 130, 3) := by decide +kernel
theorem dX6_goesBack_52 : decode cX6_goesBack 52 = .ok (.aload_n 0, 1) := by decide +kernel
theorem dX6_goesBack_53 : decode cX6_goesBack 53 = .ok (.getfield 9, 3) := by decide +kernel
theorem dX6_goesBack_56 : decode cX6_goesBack 56 = .ok (.bipush 9, 2) := by decide +kernel
theorem dX6_goesBack_58 : decode cX6_goesBack 58 = .ok (.dup2, 1) := by decide +kernel
theorem dX6_goesBack_59 : decode cX6_goesBack 59 = .ok (.iaload, 1) := by decide +kernel
theorem dX6_goesBack_60 : decode cX6_goesBack 60 = .ok (.iconst 1, 1) := by decide +kernel
theorem dX6_goesBack_61 : decode cX6_goesBack 61 = .ok (.iadd, 1) := by decide +kernel
theorem dX6_goesBack_62 : decode cX6_goesBack 62 = .ok (.iastore, 1) := by decide +kernel
theorem dX6_goesBack_63 : decode cX6_goesBack 63 = .ok (.iload_n 3, 1) := by decide +kernel
theorem dX6_goesBack_64 : decode cX6_goesBack 64 = .ok (.invokestatic 85, 3) := by decide +kernel
theorem dX6_goesBack_67 : decode cX6_goesBack 67 = .ok (.ifCond .eq 13, 3) := by decide +kernel
theorem dX6_goesBack_70 : decode cX6_goesBack 70 = .ok (.aload_n 0, 1) := by decide +kernel
theorem dX6_goesBack_71 : decode cX6_goesBack 71 = .ok (.iload_n 1, 1) := by decide +kernel
theorem dX6_goesBack_72 : decode cX6_goesBack 72 = .ok (.iconst 2, 1) := by decide +kernel
theorem dX6_goesBack_73 : decode cX6_goesBack 73 = .ok (.iload_n 3, 1) := by decide +kernel
theorem dX6_goesBack_74 : decode cX6_goesBack 74 = .ok (.invokevirtual 78, 3) := by decide +kernel
theorem dX6_goesBack_77 : decode cX6_goesBack 77 = .ok (.goto 9, 3) := by decide +kernel
theorem dX6_goesBack_80 : decode cX6_goesBack 80 = .ok (.aload_n 0, 1) := by decide +kernel
theorem dX6_goesBack_81 : decode cX6_goesBack 81 = .ok (.iload_n 1, 1) := by decide +kernel
theorem dX6_goesBack_82 : decode cX6_goesBack 82 = .ok (.iload_n 3, 1) := by decide +kernel
theorem dX6_goesBack_83 : decode cX6_goesBack 83 = .ok (.invokevirtual 134, 3) := by decide +kernel
theorem dX6_goesBack_86 : decode cX6_goesBack 86 = .ok (.return_, 1) := by decide +kernel
theorem dX6_can_0 : decode cX6_can 0 = .ok (.aload_n 0, 1) := by decide +kernel
theorem dX6_can_1 : decode cX6_can 1 = .ok (.iload_n 3, 1) := by decide +kernel
theorem dX6_can_2 : decode cX6_can 2 = .ok (.invokevirtual 99, 3) := by decide +kernel
theorem dX6_can_5 : decode cX6_can 5 = .ok (.istore 4, 2) := by decide +kernel
theorem dX6_can_7 : decode cX6_can 7 = .ok (.iload 4, 2) := by decide +kernel
theorem dX6_can_9 : decode cX6_can 9 = .ok (.iconst 2, 1) := by decide +kernel
theorem dX6_can_10 : decode cX6_can 10 = .ok (.if_icmp .ne 5, 3) := by decide +kernel
theorem dX6_can_13 : decode cX6_can 13 = .ok (.iconst 0, 1) := by decide +kernel
theorem dX6_can_14 : decode cX6_can 14 = .ok (.ireturn, 1) := by decide +kernel
theorem dX6_can_15 : decode cX6_can 15 = .ok (.iload_n 1, 1) := by decide +kernel
theorem dX6_can_16 : decode cX6_can 16 = .ok (.iconst 2, 1) := by decide +kernel
theorem dX6_can_17 : decode cX6_can 17 = .ok (.if_icmp .ne 14, 3) := by decide +kernel
theorem dX6_can_20 : decode cX6_can 20 = .ok (.iload 4, 2) := by decide +kernel
theorem dX6_can_22 : decode cX6_can 22 = .ok (.ifCond .ne 7, 3) := by decide +kernel
theorem dX6_can_25 : decode cX6_can 25 = .ok (.iconst 1, 1) := by decide +kernel
theorem dX6_can_26 : decode cX6_can 26 = .ok (.goto 4, 3) := by decide +kernel
theorem dX6_can_29 : decode cX6_can 29 = .ok (.iconst 0, 1) := by decide +kernel
theorem dX6_can_30 : decode cX6_can 30 = .ok (.ireturn, 1) := by decide +kernel
theorem dX6_can_31 : decode cX6_can 31 = .ok (.iload_n 1, 1) := by decide +kernel
theorem dX6_can_32 : decode cX6_can 32 = .ok (.ifCond .eq 36, 3) := by decide +kernel
theorem dX6_can_35 : decode cX6_can 35 = .ok (.iload 4, 2) := by decide +kernel
theorem dX6_can_37 : decode cX6_can 37 = .ok (.ifCond .eq 31, 3) := by decide +kernel
theorem dX6_can_40 : decode cX6_can 40 = .ok (.iload_n 2, 1) := by decide +kernel
theorem dX6_can_41 : decode cX6_can 41 = .ok (.invokestatic 85, 3) := by decide +kernel
theorem dX6_can_44 : decode cX6_can 44 = .ok (.ifCond .eq 24, 3) := by decide +kernel
theorem dX6_can_47 : decode cX6_can 47 = .ok (.aload_n 0, 1) := by decide +kernel
theorem dX6_can_48 : decode cX6_can 48 = .ok (.getfield 9, 3) := by decide +kernel
theorem dX6_can_51 : decode cX6_can 51 = .ok (.bipush 10, 2) := by decide +kernel
theorem dX6_can_53 : decode cX6_can 53 = .ok (.iload_n 3, 1) := by decide +kernel
theorem dX6_can_54 : decode cX6_can 54 = .ok (.iadd, 1) := by decide +kernel
theorem dX6_can_55 : decode cX6_can 55 = .ok (.iaload, 1) := by decide +kernel
theorem dX6_can_56 : decode cX6_can 56 = .ok (.aload_n 0, 1) := by decide +kernel
theorem dX6_can_57 : decode cX6_can 57 = .ok (.getfield 9, 3) := by decide +kernel
theorem dX6_can_60 : decode cX6_can 60 = .ok (.bipush 10, 2) := by decide +kernel
theorem dX6_can_62 : decode cX6_can 62 = .ok (.iload_n 2, 1) := by decide +kernel
theorem dX6_can_63 : decode cX6_can 63 = .ok (.iadd, 1) := by decide +kernel
theorem dX6_can_64 : decode cX6_can 64 = .ok (.iaload, 1) := by decide +kernel
theorem dX6_can_65 : decode cX6_can 65 = .ok (.if_icmp .lt 7, 3) := by decide +kernel
theorem dX6_can_68 : decode cX6_can 68 = .ok (.iconst 1, 1) := by decide +kernel
theorem dX6_can_69 : decode cX6_can 69 = .ok (.goto 4, 3) := by decide +kernel
theorem dX6_can_72 : decode cX6_can 72 = .ok (.iconst 0, 1) := by decide +kernel
theorem dX6_can_73 : decode cX6_can 73 = .ok (.ireturn, 1) := by decide +kernel
theorem dX6_steps_0 : decode cX6_steps 0 = .ok (.aload_n 0, 1) := by decide +kernel
theorem dX6_steps_1 : decode cX6_steps 1 = .ok (.iload_n 1, 1) := by decide +kernel
theorem dX6_steps_2 : decode cX6_steps 2 = .ok (.iconst 2, 1) := by decide +kernel
theorem dX6_steps_3 : decode cX6_steps 3 = .ok (.invokevirtual 66, 3) := by decide +kernel
theorem dX6_steps_6 : decode cX6_steps 6 = .ok (.istore_n 2, 1) := by decide +kernel
theorem dX6_steps_7 : decode cX6_steps 7 = .ok (.iload_n 2, 1) := by decide +kernel
theorem dX6_steps_8 : decode cX6_steps 8 = .ok (.aload_n 0, 1) := by decide +kernel
theorem dX6_steps_9 : decode cX6_steps 9 = .ok (.iload_n 1, 1) := by decide +kernel
theorem dX6_steps_10 : decode cX6_steps 10 = .ok (.iconst 4, 1) := by decide +kernel
theorem dX6_steps_11 : decode cX6_steps 11 = .ok (.invokevirtual 66, 3) := by decide +kernel
theorem dX6_steps_14 : decode cX6_steps 14 = .ok (.iconst 1, 1) := by decide +kernel
theorem dX6_steps_15 : decode cX6_steps 15 = .ok (.if_icmp .ne 7, 3) := by decide +kernel
theorem dX6_steps_18 : decode cX6_steps 18 = .ok (.iconst 1, 1) := by decide +kernel
theorem dX6_steps_19 : decode cX6_steps 19 = .ok (.goto 4, 3) := by decide +kernel
theorem dX6_steps_22 : decode cX6_steps 22 = .ok (.iconst (-1), 1) := by decide +kernel
theorem dX6_steps_23 : decode cX6_steps 23 = .ok (.iadd, 1) := by decide +kernel
theorem dX6_steps_24 : decode cX6_steps 24 = .ok (.istore_n 3, 1) := by decide +kernel
theorem dX6_steps_25 : decode cX6_steps 25 = .ok (.iload_n 3, 1) := by decide +kernel
theorem dX6_steps_26 : decode cX6_steps 26 = .ok (.invokestatic 85, 3) := by decide +kernel
theorem dX6_steps_29 : decode cX6_steps 29 = .ok (.ifCond .ne 38, 3) := by decide +kernel
theorem dX6_steps_32 : decode cX6_steps 32 = .ok (.aload_n 0, 1) := by decide +kernel
theorem dX6_steps_33 : decode cX6_steps 33 = .ok (.iload_n 1, 1) := by decide +kernel
theorem dX6_steps_34 : decode cX6_steps 34 = .ok (.bipush 6, 2) := by decide +kernel
theorem dX6_steps_36 : decode cX6_steps 36 = .ok (.aload_n 0, 1) := by decide +kernel
theorem dX6_steps_37 : decode cX6_steps 37 = .ok (.iload_n 1, 1) := by decide +kernel
theorem dX6_steps_38 : decode cX6_steps 38 = .ok (.bipush 6, 2) := by decide +kernel
theorem dX6_steps_40 : decode cX6_steps 40 = .ok (.invokevirtual 66, 3) := by decide +kernel
theorem dX6_steps_43 : decode cX6_steps 43 = .ok (.iconst 1, 1) := by decide +kernel
theorem dX6_steps_44 : decode cX6_steps 44 = .ok (.iadd, 1) := by decide +kernel
theorem dX6_steps_45 : decode cX6_steps 45 = .ok (.invokevirtual 78, 3) := by decide +kernel
theorem dX6_steps_48 : decode cX6_steps 48 = .ok (.aload_n 0, 1) := by decide +kernel
theorem dX6_steps_49 : decode cX6_steps 49 = .ok (.getfield 9, 3) := by decide +kernel
theorem dX6_steps_52 : decode cX6_steps 52 = .ok (.bipush 8, 2) := by decide +kernel
theorem dX6_steps_54 : decode cX6_steps 54 = .ok (.dup2, 1) := by decide +kernel
theorem dX6_steps_55 : decode cX6_steps 55 = .ok (.iaload, 1) := by decide +kernel
theorem dX6_steps_56 : decode cX6_steps 56 = .ok (.iconst 1, 1) := by decide +kernel
theorem dX6_steps_57 : decode cX6_steps 57 = .ok (.iadd, 1) := by decide +kernel
theorem dX6_steps_58 : decode cX6_steps 58 = .ok (.iastore, 1) := by decide +kernel
theorem dX6_steps_59 : decode cX6_steps 59 = .ok (.aload_n 0, 1) := by decide +kernel
theorem dX6_steps_60 : decode cX6_steps 60 = .ok (.iload_n 1, 1) := by decide +kernel
theorem dX6_steps_61 : decode cX6_steps 61 = .ok (.iload_n 3, 1) := by decide +kernel
theorem dX6_steps_62 : decode cX6_steps 62 = .ok (.invokevirtual 134, 3) := by decide +kernel
theorem dX6_steps_65 : decode cX6_steps 65 = .ok (.iconst 1, 1) := by decide +kernel
theorem dX6_steps_66 : decode cX6_steps 66 = .ok (.ireturn, 1) := by decide +kernel
theorem dX6_steps_67 : decode cX6_steps 67 = .ok (.aload_n 0, 1) := by decide +kernel
theorem dX6_steps_68 : decode cX6_steps 68 = .ok (.aload_n 0, 1) := by decide +kernel
theorem dX6_steps_69 : decode cX6_steps 69 = .ok (.iload_n 1, 1) := by decide +kernel
theorem dX6_steps_70 : decode cX6_steps 70 = .ok (.invokevirtual 121, 3) := by decide +kernel
theorem dX6_steps_73 : decode cX6_steps 73 = .ok (.iload_n 2, 1) := by decide +kernel
theorem dX6_steps_74 : decode cX6_steps 74 = .ok (.iload_n 3, 1) := by decide +kernel
theorem dX6_steps_75 : decode cX6_steps 75 = .ok (.invokevirtual 137, 3) := by decide +kernel
theorem dX6_steps_78 : decode cX6_steps 78 = .ok (.ifCond .ne 5, 3) := by decide +kernel
theorem dX6_steps_81 : decode cX6_steps 81 = .ok (.iconst 0, 1) := by decide +kernel
theorem dX6_steps_82 : decode cX6_steps 82 = .ok (.ireturn, 1) := by decide +kernel
theorem dX6_steps_83 : decode cX6_steps 83 = .ok (.aload_n 0, 1) := by decide +kernel
theorem dX6_steps_84 : decode cX6_steps 84 = .ok (.iload_n 1, 1) := by decide +kernel
theorem dX6_steps_85 : decode cX6_steps 85 = .ok (.iconst 2, 1) := by decide +kernel
theorem dX6_steps_86 : decode cX6_steps 86 = .ok (.iload_n 3, 1) := by decide +kernel
theorem dX6_steps_87 : decode cX6_steps 87 = .ok (.invokevirtual 78, 3) := by decide +kernel
theorem dX6_steps_90 : decode cX6_steps 90 = .ok (.iconst 0, 1) := by decide +kernel
theorem dX6_steps_91 : decode cX6_steps 91 = .ok (.ireturn, 1) := by decide +kernel
theorem dX6_dries_0 : decode cX6_dries 0 = .ok (.iconst (-1), 1) := by decide +kernel
theorem dX6_dries_1 : decode cX6_dries 1 = .ok (.istore_n 2, 1) := by decide +kernel
theorem dX6_dries_2 : decode cX6_dries 2 = .ok (.iconst 0, 1) := by decide +kernel
theorem dX6_dries_3 : decode cX6_dries 3 = .ok (.istore_n 3, 1) := by decide +kernel
theorem dX6_dries_4 : decode cX6_dries 4 = .ok (.iload_n 3, 1) := by decide +kernel
theorem dX6_dries_5 : decode cX6_dries 5 = .ok (.iconst 2, 1) := by decide +kernel
theorem dX6_dries_6 : decode cX6_dries 6 = .ok (.if_icmp .ge 106, 3) := by decide +kernel
theorem dX6_dries_9 : decode cX6_dries 9 = .ok (.iconst (-1), 1) := by decide +kernel
theorem dX6_dries_10 : decode cX6_dries 10 = .ok (.istore 4, 2) := by decide +kernel
theorem dX6_dries_12 : decode cX6_dries 12 = .ok (.iconst 0, 1) := by decide +kernel
theorem dX6_dries_13 : decode cX6_dries 13 = .ok (.istore 5, 2) := by decide +kernel
theorem dX6_dries_15 : decode cX6_dries 15 = .ok (.iload 5, 2) := by decide +kernel
theorem dX6_dries_17 : decode cX6_dries 17 = .ok (.aload_n 0, 1) := by decide +kernel
theorem dX6_dries_18 : decode cX6_dries 18 = .ok (.getfield 9, 3) := by decide +kernel
theorem dX6_dries_21 : decode cX6_dries 21 = .ok (.iconst 3, 1) := by decide +kernel
theorem dX6_dries_22 : decode cX6_dries 22 = .ok (.iaload, 1) := by decide +kernel
theorem dX6_dries_23 : decode cX6_dries 23 = .ok (.if_icmp .ge 66, 3) := by decide +kernel
theorem dX6_dries_26 : decode cX6_dries 26 = .ok (.iload 5, 2) := by decide +kernel
theorem dX6_dries_28 : decode cX6_dries 28 = .ok (.iload_n 2, 1) := by decide +kernel
theorem dX6_dries_29 : decode cX6_dries 29 = .ok (.if_icmp .eq 54, 3) := by decide +kernel
theorem dX6_dries_32 : decode cX6_dries 32 = .ok (.aload_n 0, 1) := by decide +kernel
theorem dX6_dries_33 : decode cX6_dries 33 = .ok (.iload 5, 2) := by decide +kernel
theorem dX6_dries_35 : decode cX6_dries 35 = .ok (.iconst 2, 1) := by decide +kernel
theorem dX6_dries_36 : decode cX6_dries 36 = .ok (.invokevirtual 66, 3) := by decide +kernel
theorem dX6_dries_39 : decode cX6_dries 39 = .ok (.iload_n 1, 1) := by decide +kernel
theorem dX6_dries_40 : decode cX6_dries 40 = .ok (.if_icmp .ne 43, 3) := by decide +kernel
theorem dX6_dries_43 : decode cX6_dries 43 = .ok (.aload_n 0, 1) := by decide +kernel
theorem dX6_dries_44 : decode cX6_dries 44 = .ok (.iload 5, 2) := by decide +kernel
theorem dX6_dries_46 : decode cX6_dries 46 = .ok (.iconst 3, 1) := by decide +kernel
theorem dX6_dries_47 : decode cX6_dries 47 = .ok (.invokevirtual 66, 3) := by decide +kernel
theorem dX6_dries_50 : decode cX6_dries 50 = .ok (.ifCond .ne 33, 3) := by decide +kernel
theorem dX6_dries_53 : decode cX6_dries 53 = .ok (.aload_n 0, 1) := by decide +kernel
theorem dX6_dries_54 : decode cX6_dries 54 = .ok (.iload 5, 2) := by decide +kernel
theorem dX6_dries_56 : decode cX6_dries 56 = .ok (.iconst 1, 1) := by decide +kernel
theorem dX6_dries_57 : decode cX6_dries 57 = .ok (.invokevirtual 66, 3) := by decide +kernel
theorem dX6_dries_60 : decode cX6_dries 60 = .ok (.iload 4, 2) := by decide +kernel
theorem dX6_dries_62 : decode cX6_dries 62 = .ok (.ifCond .ge 7, 3) := by decide +kernel
theorem dX6_dries_65 : decode cX6_dries 65 = .ok (.iconst 0, 1) := by decide +kernel
theorem dX6_dries_66 : decode cX6_dries 66 = .ok (.goto 10, 3) := by decide +kernel
theorem dX6_dries_69 : decode cX6_dries 69 = .ok (.aload_n 0, 1) := by decide +kernel
theorem dX6_dries_70 : decode cX6_dries 70 = .ok (.iload 4, 2) := by decide +kernel
theorem dX6_dries_72 : decode cX6_dries 72 = .ok (.iconst 1, 1) := by decide +kernel
theorem dX6_dries_73 : decode cX6_dries 73 = .ok (.invokevirtual 66, 3) := by decide +kernel
theorem dX6_dries_76 : decode cX6_dries 76 = .ok (.if_icmp .le 7, 3) := by decide +kernel
theorem dX6_dries_79 : decode cX6_dries 79 = .ok (.iload 5, 2) := by decide +kernel
theorem dX6_dries_81 : decode cX6_dries 81 = .ok (.istore 4, 2) := by decide +kernel
theorem dX6_dries_83 : decode cX6_dries 83 = .ok (.iinc 5 1, 3) := by decide +kernel
theorem dX6_dries_86 : decode cX6_dries 86 = .ok (.goto (-71), 3) := by decide +kernel
theorem dX6_dries_89 : decode cX6_dries 89 = .ok (.iload 4, 2) := by decide +kernel
theorem dX6_dries_91 : decode cX6_dries 91 = .ok (.ifCond .ge 4, 3) := by decide +kernel
theorem dX6_dries_94 : decode cX6_dries 94 = .ok (.return_, 1) := by decide +kernel
theorem dX6_dries_95 : decode cX6_dries 95 = .ok (.aload_n 0, 1) := by decide +kernel
theorem dX6_dries_96 : decode cX6_dries 96 = .ok (.iload 4, 2) := by decide +kernel
theorem dX6_dries_98 : decode cX6_dries 98 = .ok (.bipush (-3), 2) := by decide +kernel
theorem dX6_dries_100 : decode cX6_dries 100 = .ok (.invokevirtual 130, 3) := by decide +kernel
theorem dX6_dries_103 : decode cX6_dries 103 = .ok (.iload 4, 2) := by decide +kernel
theorem dX6_dries_105 : decode cX6_dries 105 = .ok (.istore_n 2, 1) := by decide +kernel
theorem dX6_dries_106 : decode cX6_dries 106 = .ok (.iinc 3 1, 3) := by decide +kernel
theorem dX6_dries_109 : decode cX6_dries 109 = .ok (.goto (-105), 3) := by decide +kernel
theorem dX6_dries_112 : decode cX6_dries 112 = .ok (.return_, 1) := by decide +kernel
theorem dX6_goes_0 : decode cX6_goes 0 = .ok (.aload_n 0, 1) := by decide +kernel
theorem dX6_goes_1 : decode cX6_goes 1 = .ok (.getfield 9, 3) := by decide +kernel
theorem dX6_goes_4 : decode cX6_goes 4 = .ok (.iconst 1, 1) := by decide +kernel
theorem dX6_goes_5 : decode cX6_goes 5 = .ok (.aload_n 0, 1) := by decide +kernel
theorem dX6_goes_6 : decode cX6_goes 6 = .ok (.aload_n 0, 1) := by decide +kernel
theorem dX6_goes_7 : decode cX6_goes 7 = .ok (.getfield 9, 3) := by decide +kernel
theorem dX6_goes_10 : decode cX6_goes 10 = .ok (.iconst 1, 1) := by decide +kernel
theorem dX6_goes_11 : decode cX6_goes 11 = .ok (.iaload, 1) := by decide +kernel
theorem dX6_goes_12 : decode cX6_goes 12 = .ok (.invokevirtual 109, 3) := by decide +kernel
theorem dX6_goes_15 : decode cX6_goes 15 = .ok (.iastore, 1) := by decide +kernel
theorem dX6_goes_16 : decode cX6_goes 16 = .ok (.iconst 0, 1) := by decide +kernel
theorem dX6_goes_17 : decode cX6_goes 17 = .ok (.istore_n 1, 1) := by decide +kernel
theorem dX6_goes_18 : decode cX6_goes 18 = .ok (.iload_n 1, 1) := by decide +kernel
theorem dX6_goes_19 : decode cX6_goes 19 = .ok (.aload_n 0, 1) := by decide +kernel
theorem dX6_goes_20 : decode cX6_goes 20 = .ok (.getfield 9, 3) := by decide +kernel
theorem dX6_goes_23 : decode cX6_goes 23 = .ok (.iconst 3, 1) := by decide +kernel
theorem dX6_goes_24 : decode cX6_goes 24 = .ok (.iaload, 1) := by decide +kernel
theorem dX6_goes_25 : decode cX6_goes 25 = .ok (.if_icmp .ge 40, 3) := by decide +kernel
theorem dX6_goes_28 : decode cX6_goes 28 = .ok (.aload_n 0, 1) := by decide +kernel
theorem dX6_goes_29 : decode cX6_goes 29 = .ok (.iload_n 1, 1) := by decide +kernel
theorem dX6_goes_30 : decode cX6_goes 30 = .ok (.iconst 2, 1) := by decide +kernel
theorem dX6_goes_31 : decode cX6_goes 31 = .ok (.invokevirtual 66, 3) := by decide +kernel
theorem dX6_goes_34 : decode cX6_goes 34 = .ok (.invokestatic 85, 3) := by decide +kernel
theorem dX6_goes_37 : decode cX6_goes 37 = .ok (.ifCond .eq 22, 3) := by decide +kernel
theorem dX6_goes_40 : decode cX6_goes 40 = .ok (.aload_n 0, 1) := by decide +kernel
theorem dX6_goes_41 : decode cX6_goes 41 = .ok (.aload_n 0, 1) := by decide +kernel
theorem dX6_goes_42 : decode cX6_goes 42 = .ok (.iload_n 1, 1) := by decide +kernel
theorem dX6_goes_43 : decode cX6_goes 43 = .ok (.iconst 2, 1) := by decide +kernel
theorem dX6_goes_44 : decode cX6_goes 44 = .ok (.invokevirtual 66, 3) := by decide +kernel
theorem dX6_goes_47 : decode cX6_goes 47 = .ok (.invokevirtual 99, 3) := by decide +kernel
theorem dX6_goes_50 : decode cX6_goes 50 = .ok (.iconst 2, 1) := by decide +kernel
theorem dX6_goes_51 : decode cX6_goes 51 = .ok (.if_icmp .ne 8, 3) := by decide +kernel
theorem dX6_goes_54 : decode cX6_goes 54 = .ok (.aload_n 0, 1) := by decide +kernel
theorem dX6_goes_55 : decode cX6_goes 55 = .ok (.iload_n 1, 1) := by decide +kernel
theorem dX6_goes_56 : decode cX6_goes 56 = .ok (.invokevirtual 140, 3) := by decide +kernel
theorem dX6_goes_59 : decode cX6_goes 59 = .ok (.iinc 1 1, 3) := by decide +kernel
theorem dX6_goes_62 : decode cX6_goes 62 = .ok (.goto (-44), 3) := by decide +kernel
theorem dX6_goes_65 : decode cX6_goes 65 = .ok (.iconst 0, 1) := by decide +kernel
theorem dX6_goes_66 : decode cX6_goes 66 = .ok (.istore_n 1, 1) := by decide +kernel
theorem dX6_goes_67 : decode cX6_goes 67 = .ok (.iconst 0, 1) := by decide +kernel
theorem dX6_goes_68 : decode cX6_goes 68 = .ok (.istore_n 2, 1) := by decide +kernel
theorem dX6_goes_69 : decode cX6_goes 69 = .ok (.iload_n 2, 1) := by decide +kernel
theorem dX6_goes_70 : decode cX6_goes 70 = .ok (.aload_n 0, 1) := by decide +kernel
theorem dX6_goes_71 : decode cX6_goes 71 = .ok (.getfield 9, 3) := by decide +kernel
theorem dX6_goes_74 : decode cX6_goes 74 = .ok (.iconst 3, 1) := by decide +kernel
theorem dX6_goes_75 : decode cX6_goes 75 = .ok (.iaload, 1) := by decide +kernel
theorem dX6_goes_76 : decode cX6_goes 76 = .ok (.if_icmp .ge 39, 3) := by decide +kernel
theorem dX6_goes_79 : decode cX6_goes 79 = .ok (.aload_n 0, 1) := by decide +kernel
theorem dX6_goes_80 : decode cX6_goes 80 = .ok (.iload_n 2, 1) := by decide +kernel
theorem dX6_goes_81 : decode cX6_goes 81 = .ok (.iconst 3, 1) := by decide +kernel
theorem dX6_goes_82 : decode cX6_goes 82 = .ok (.invokevirtual 66, 3) := by decide +kernel
theorem dX6_goes_85 : decode cX6_goes 85 = .ok (.iconst 1, 1) := by decide +kernel
theorem dX6_goes_86 : decode cX6_goes 86 = .ok (.if_icmp .ne 23, 3) := by decide +kernel
theorem dX6_goes_89 : decode cX6_goes 89 = .ok (.aload_n 0, 1) := by decide +kernel
theorem dX6_goes_90 : decode cX6_goes 90 = .ok (.iload_n 2, 1) := by decide +kernel
theorem dX6_goes_91 : decode cX6_goes 91 = .ok (.iconst 5, 1) := by decide +kernel
theorem dX6_goes_92 : decode cX6_goes 92 = .ok (.invokevirtual 66, 3) := by decide +kernel
theorem dX6_goes_95 : decode cX6_goes 95 = .ok (.ifCond .ne 14, 3) := by decide +kernel
theorem dX6_goes_98 : decode cX6_goes 98 = .ok (.aload_n 0, 1) := by decide +kernel
theorem dX6_goes_99 : decode cX6_goes 99 = .ok (.iload_n 2, 1) := by decide +kernel
theorem dX6_goes_100 : decode cX6_goes 100 = .ok (.invokevirtual 144, 3) := by decide +kernel
theorem dX6_goes_103 : decode cX6_goes 103 = .ok (.ifCond .eq 6, 3) := by decide +kernel
theorem dX6_goes_106 : decode cX6_goes 106 = .ok (.iinc 1 1, 3) := by decide +kernel
theorem dX6_goes_109 : decode cX6_goes 109 = .ok (.iinc 2 1, 3) := by decide +kernel
theorem dX6_goes_112 : decode cX6_goes 112 = .ok (.goto (-43), 3) := by decide +kernel
theorem dX6_goes_115 : decode cX6_goes 115 = .ok (.iconst 0, 1) := by decide +kernel
theorem dX6_goes_116 : decode cX6_goes 116 = .ok (.istore_n 2, 1) := by decide +kernel
theorem dX6_goes_117 : decode cX6_goes 117 = .ok (.iload_n 2, 1) := by decide +kernel
theorem dX6_goes_118 : decode cX6_goes 118 = .ok (.aload_n 0, 1) := by decide +kernel
theorem dX6_goes_119 : decode cX6_goes 119 = .ok (.getfield 9, 3) := by decide +kernel
theorem dX6_goes_122 : decode cX6_goes 122 = .ok (.iconst 3, 1) := by decide +kernel
theorem dX6_goes_123 : decode cX6_goes 123 = .ok (.iaload, 1) := by decide +kernel
theorem dX6_goes_124 : decode cX6_goes 124 = .ok (.if_icmp .ge 45, 3) := by decide +kernel
theorem dX6_goes_127 : decode cX6_goes 127 = .ok (.aload_n 0, 1) := by decide +kernel
theorem dX6_goes_128 : decode cX6_goes 128 = .ok (.iload_n 2, 1) := by decide +kernel
theorem dX6_goes_129 : decode cX6_goes 129 = .ok (.iconst 2, 1) := by decide +kernel
theorem dX6_goes_130 : decode cX6_goes 130 = .ok (.invokevirtual 66, 3) := by decide +kernel
theorem dX6_goes_133 : decode cX6_goes 133 = .ok (.invokestatic 85, 3) := by decide +kernel
theorem dX6_goes_136 : decode cX6_goes 136 = .ok (.ifCond .eq 27, 3) := by decide +kernel
theorem dX6_goes_139 : decode cX6_goes 139 = .ok (.aload_n 0, 1) := by decide +kernel
theorem dX6_goes_140 : decode cX6_goes 140 = .ok (.iload_n 2, 1) := by decide +kernel
theorem dX6_goes_141 : decode cX6_goes 141 = .ok (.aload_n 0, 1) := by decide +kernel
theorem dX6_goes_142 : decode cX6_goes 142 = .ok (.aload_n 0, 1) := by decide +kernel
theorem dX6_goes_143 : decode cX6_goes 143 = .ok (.iload_n 2, 1) := by decide +kernel
theorem dX6_goes_144 : decode cX6_goes 144 = .ok (.iconst 2, 1) := by decide +kernel
theorem dX6_goes_145 : decode cX6_goes 145 = .ok (.invokevirtual 66, 3) := by decide +kernel
theorem dX6_goes_148 : decode cX6_goes 148 = .ok (.invokevirtual 99, 3) := by decide +kernel
theorem dX6_goes_151 : decode cX6_goes 151 = .ok (.iconst 1, 1) := by decide +kernel
theorem dX6_goes_152 : decode cX6_goes 152 = .ok (.if_icmp .ne 7, 3) := by decide +kernel
theorem dX6_goes_155 : decode cX6_goes 155 = .ok (.iconst 2, 1) := by decide +kernel
theorem dX6_goes_156 : decode cX6_goes 156 = .ok (.goto 4, 3) := by decide +kernel
theorem dX6_goes_159 : decode cX6_goes 159 = .ok (.iconst (-1), 1) := by decide +kernel
theorem dX6_goes_160 : decode cX6_goes 160 = .ok (.invokevirtual 130, 3) := by decide +kernel
theorem dX6_goes_163 : decode cX6_goes 163 = .ok (.iinc 2 1, 3) := by decide +kernel
theorem dX6_goes_166 : decode cX6_goes 166 = .ok (.goto (-49), 3) := by decide +kernel
theorem dX6_goes_169 : decode cX6_goes 169 = .ok (.aload_n 0, 1) := by decide +kernel
theorem dX6_goes_170 : decode cX6_goes 170 = .ok (.iconst (-1), 1) := by decide +kernel
theorem dX6_goes_171 : decode cX6_goes 171 = .ok (.invokevirtual 147, 3) := by decide +kernel
theorem dX6_goes_174 : decode cX6_goes 174 = .ok (.aload_n 0, 1) := by decide +kernel
theorem dX6_goes_175 : decode cX6_goes 175 = .ok (.bipush 10, 2) := by decide +kernel
theorem dX6_goes_177 : decode cX6_goes 177 = .ok (.invokevirtual 147, 3) := by decide +kernel
theorem dX6_goes_180 : decode cX6_goes 180 = .ok (.aload_n 0, 1) := by decide +kernel
theorem dX6_goes_181 : decode cX6_goes 181 = .ok (.getfield 9, 3) := by decide +kernel
theorem dX6_goes_184 : decode cX6_goes 184 = .ok (.iconst 0, 1) := by decide +kernel
theorem dX6_goes_185 : decode cX6_goes 185 = .ok (.dup2, 1) := by decide +kernel
theorem dX6_goes_186 : decode cX6_goes 186 = .ok (.iaload, 1) := by decide +kernel
theorem dX6_goes_187 : decode cX6_goes 187 = .ok (.iconst 1, 1) := by decide +kernel
theorem dX6_goes_188 : decode cX6_goes 188 = .ok (.iadd, 1) := by decide +kernel
theorem dX6_goes_189 : decode cX6_goes 189 = .ok (.iastore, 1) := by decide +kernel
theorem dX6_goes_190 : decode cX6_goes 190 = .ok (.iload_n 1, 1) := by decide +kernel
theorem dX6_goes_191 : decode cX6_goes 191 = .ok (.ireturn, 1) := by decide +kernel
theorem dX6_pass_0 : decode cX6_pass 0 = .ok (.aload_n 0, 1) := by decide +kernel
theorem dX6_pass_1 : decode cX6_pass 1 = .ok (.invokevirtual 82, 3) := by decide +kernel
theorem dX6_pass_4 : decode cX6_pass 4 = .ok (.iload_n 1, 1) := by decide +kernel
theorem dX6_pass_5 : decode cX6_pass 5 = .ok (.iconst 1, 1) := by decide +kernel
theorem dX6_pass_6 : decode cX6_pass 6 = .ok (.bipush 24, 2) := by decide +kernel
theorem dX6_pass_8 : decode cX6_pass 8 = .ok (.invokestatic 62, 3) := by decide +kernel
theorem dX6_pass_11 : decode cX6_pass 11 = .ok (.ifCond .ne 9, 3) := by decide +kernel
theorem dX6_pass_14 : decode cX6_pass 14 = .ok (.aload_n 0, 1) := by decide +kernel
theorem dX6_pass_15 : decode cX6_pass 15 = .ok (.iconst 1, 1) := by decide +kernel
theorem dX6_pass_16 : decode cX6_pass 16 = .ok (.invokevirtual 58, 3) := by decide +kernel
theorem dX6_pass_19 : decode cX6_pass 19 = .ok (.ireturn, 1) := by decide +kernel
theorem dX6_pass_20 : decode cX6_pass 20 = .ok (.iconst 0, 1) := by decide +kernel
theorem dX6_pass_21 : decode cX6_pass 21 = .ok (.istore_n 2, 1) := by decide +kernel
theorem dX6_pass_22 : decode cX6_pass 22 = .ok (.iconst 0, 1) := by decide +kernel
theorem dX6_pass_23 : decode cX6_pass 23 = .ok (.istore_n 3, 1) := by decide +kernel
theorem dX6_pass_24 : decode cX6_pass 24 = .ok (.iload_n 3, 1) := by decide +kernel
theorem dX6_pass_25 : decode cX6_pass 25 = .ok (.iload_n 1, 1) := by decide +kernel
theorem dX6_pass_26 : decode cX6_pass 26 = .ok (.if_icmp .ge 16, 3) := by decide +kernel
theorem dX6_pass_29 : decode cX6_pass 29 = .ok (.iload_n 2, 1) := by decide +kernel
theorem dX6_pass_30 : decode cX6_pass 30 = .ok (.aload_n 0, 1) := by decide +kernel
theorem dX6_pass_31 : decode cX6_pass 31 = .ok (.invokevirtual 150, 3) := by decide +kernel
theorem dX6_pass_34 : decode cX6_pass 34 = .ok (.iadd, 1) := by decide +kernel
theorem dX6_pass_35 : decode cX6_pass 35 = .ok (.istore_n 2, 1) := by decide +kernel
theorem dX6_pass_36 : decode cX6_pass 36 = .ok (.iinc 3 1, 3) := by decide +kernel
theorem dX6_pass_39 : decode cX6_pass 39 = .ok (.goto (-15), 3) := by decide +kernel
theorem dX6_pass_42 : decode cX6_pass 42 = .ok (.aload_n 0, 1) := by decide +kernel
theorem dX6_pass_43 : decode cX6_pass 43 = .ok (.iload_n 2, 1) := by decide +kernel
theorem dX6_pass_44 : decode cX6_pass 44 = .ok (.invokevirtual 96, 3) := by decide +kernel
theorem dX6_pass_47 : decode cX6_pass 47 = .ok (.ireturn, 1) := by decide +kernel
theorem dX6_crossedIn_0 : decode cX6_crossedIn 0 = .ok (.aload_n 0, 1) := by decide +kernel
theorem dX6_crossedIn_1 : decode cX6_crossedIn 1 = .ok (.iconst 0, 1) := by decide +kernel
theorem dX6_crossedIn_2 : decode cX6_crossedIn 2 = .ok (.putfield 46, 3) := by decide +kernel
theorem dX6_crossedIn_5 : decode cX6_crossedIn 5 = .ok (.aload_n 0, 1) := by decide +kernel
theorem dX6_crossedIn_6 : decode cX6_crossedIn 6 = .ok (.iload_n 1, 1) := by decide +kernel
theorem dX6_crossedIn_7 : decode cX6_crossedIn 7 = .ok (.invokevirtual 118, 3) := by decide +kernel
theorem dX6_crossedIn_10 : decode cX6_crossedIn 10 = .ok (.ifCond .ne 9, 3) := by decide +kernel
theorem dX6_crossedIn_13 : decode cX6_crossedIn 13 = .ok (.aload_n 0, 1) := by decide +kernel
theorem dX6_crossedIn_14 : decode cX6_crossedIn 14 = .ok (.iconst 1, 1) := by decide +kernel
theorem dX6_crossedIn_15 : decode cX6_crossedIn 15 = .ok (.invokevirtual 58, 3) := by decide +kernel
theorem dX6_crossedIn_18 : decode cX6_crossedIn 18 = .ok (.ireturn, 1) := by decide +kernel
theorem dX6_crossedIn_19 : decode cX6_crossedIn 19 = .ok (.aload_n 0, 1) := by decide +kernel
theorem dX6_crossedIn_20 : decode cX6_crossedIn 20 = .ok (.iload_n 1, 1) := by decide +kernel
theorem dX6_crossedIn_21 : decode cX6_crossedIn 21 = .ok (.iconst 3, 1) := by decide +kernel
theorem dX6_crossedIn_22 : decode cX6_crossedIn 22 = .ok (.invokevirtual 66, 3) := by decide +kernel
theorem dX6_crossedIn_25 : decode cX6_crossedIn 25 = .ok (.ifCond .ne 9, 3) := by decide +kernel
theorem dX6_crossedIn_28 : decode cX6_crossedIn 28 = .ok (.aload_n 0, 1) := by decide +kernel
theorem dX6_crossedIn_29 : decode cX6_crossedIn 29 = .ok (.iconst 2, 1) := by decide +kernel
theorem dX6_crossedIn_30 : decode cX6_crossedIn 30 = .ok (.invokevirtual 58, 3) := by decide +kernel
theorem dX6_crossedIn_33 : decode cX6_crossedIn 33 = .ok (.ireturn, 1) := by decide +kernel
theorem dX6_crossedIn_34 : decode cX6_crossedIn 34 = .ok (.aload_n 0, 1) := by decide +kernel
theorem dX6_crossedIn_35 : decode cX6_crossedIn 35 = .ok (.iload_n 1, 1) := by decide +kernel
theorem dX6_crossedIn_36 : decode cX6_crossedIn 36 = .ok (.iconst 4, 1) := by decide +kernel
theorem dX6_crossedIn_37 : decode cX6_crossedIn 37 = .ok (.invokevirtual 66, 3) := by decide +kernel
theorem dX6_crossedIn_40 : decode cX6_crossedIn 40 = .ok (.iconst 1, 1) := by decide +kernel
theorem dX6_crossedIn_41 : decode cX6_crossedIn 41 = .ok (.if_icmp .ne 8, 3) := by decide +kernel
theorem dX6_crossedIn_44 : decode cX6_crossedIn 44 = .ok (.bipush 10, 2) := by decide +kernel
theorem dX6_crossedIn_46 : decode cX6_crossedIn 46 = .ok (.goto 4, 3) := by decide +kernel
theorem dX6_crossedIn_49 : decode cX6_crossedIn 49 = .ok (.iconst (-1), 1) := by decide +kernel
theorem dX6_crossedIn_50 : decode cX6_crossedIn 50 = .ok (.istore_n 2, 1) := by decide +kernel
theorem dX6_crossedIn_51 : decode cX6_crossedIn 51 = .ok (.aload_n 0, 1) := by decide +kernel
theorem dX6_crossedIn_52 : decode cX6_crossedIn 52 = .ok (.invokevirtual 153, 3) := by decide +kernel
theorem dX6_crossedIn_55 : decode cX6_crossedIn 55 = .ok (.iconst 0, 1) := by decide +kernel
theorem dX6_crossedIn_56 : decode cX6_crossedIn 56 = .ok (.istore_n 3, 1) := by decide +kernel
theorem dX6_crossedIn_57 : decode cX6_crossedIn 57 = .ok (.iload_n 3, 1) := by decide +kernel
theorem dX6_crossedIn_58 : decode cX6_crossedIn 58 = .ok (.bipush 60, 2) := by decide +kernel
theorem dX6_crossedIn_60 : decode cX6_crossedIn 60 = .ok (.if_icmp .gt 25, 3) := by decide +kernel
theorem dX6_crossedIn_63 : decode cX6_crossedIn 63 = .ok (.aload_n 0, 1) := by decide +kernel
theorem dX6_crossedIn_64 : decode cX6_crossedIn 64 = .ok (.iload_n 1, 1) := by decide +kernel
theorem dX6_crossedIn_65 : decode cX6_crossedIn 65 = .ok (.iconst 2, 1) := by decide +kernel
theorem dX6_crossedIn_66 : decode cX6_crossedIn 66 = .ok (.invokevirtual 66, 3) := by decide +kernel
theorem dX6_crossedIn_69 : decode cX6_crossedIn 69 = .ok (.iload_n 2, 1) := by decide +kernel
theorem dX6_crossedIn_70 : decode cX6_crossedIn 70 = .ok (.if_icmp .eq 15, 3) := by decide +kernel
theorem dX6_crossedIn_73 : decode cX6_crossedIn 73 = .ok (.aload_n 0, 1) := by decide +kernel
theorem dX6_crossedIn_74 : decode cX6_crossedIn 74 = .ok (.invokevirtual 150, 3) := by decide +kernel
theorem dX6_crossedIn_77 : decode cX6_crossedIn 77 = .ok (.istore 4, 2) := by decide +kernel
theorem dX6_crossedIn_79 : decode cX6_crossedIn 79 = .ok (.iinc 3 1, 3) := by decide +kernel
theorem dX6_crossedIn_82 : decode cX6_crossedIn 82 = .ok (.goto (-25), 3) := by decide +kernel
theorem dX6_crossedIn_85 : decode cX6_crossedIn 85 = .ok (.aload_n 0, 1) := by decide +kernel
theorem dX6_crossedIn_86 : decode cX6_crossedIn 86 = .ok (.invokevirtual 156, 3) := by decide +kernel
theorem dX6_crossedIn_89 : decode cX6_crossedIn 89 = .ok (.iload_n 3, 1) := by decide +kernel
theorem dX6_crossedIn_90 : decode cX6_crossedIn 90 = .ok (.bipush 60, 2) := by decide +kernel
theorem dX6_crossedIn_92 : decode cX6_crossedIn 92 = .ok (.if_icmp .le 11, 3) := by decide +kernel
theorem dX6_crossedIn_95 : decode cX6_crossedIn 95 = .ok (.aload_n 0, 1) := by decide +kernel
theorem dX6_crossedIn_96 : decode cX6_crossedIn 96 = .ok (.iconst 2, 1) := by decide +kernel
theorem dX6_crossedIn_97 : decode cX6_crossedIn 97 = .ok (.invokevirtual 58, 3) := by decide +kernel
theorem dX6_crossedIn_100 : decode cX6_crossedIn 100 = .ok (.goto 4, 3) := by decide +kernel
theorem dX6_crossedIn_103 : decode cX6_crossedIn 103 = .ok (.iload_n 3, 1) := by decide +kernel
theorem dX6_crossedIn_104 : decode cX6_crossedIn 104 = .ok (.ireturn, 1) := by decide +kernel
theorem dX6_awashFor_0 : decode cX6_awashFor 0 = .ok (.iconst 0, 1) := by decide +kernel
theorem dX6_awashFor_1 : decode cX6_awashFor 1 = .ok (.istore_n 2, 1) := by decide +kernel
theorem dX6_awashFor_2 : decode cX6_awashFor 2 = .ok (.iconst 0, 1) := by decide +kernel
theorem dX6_awashFor_3 : decode cX6_awashFor 3 = .ok (.istore_n 3, 1) := by decide +kernel
theorem dX6_awashFor_4 : decode cX6_awashFor 4 = .ok (.iload_n 3, 1) := by decide +kernel
theorem dX6_awashFor_5 : decode cX6_awashFor 5 = .ok (.bipush 10, 2) := by decide +kernel
theorem dX6_awashFor_7 : decode cX6_awashFor 7 = .ok (.if_icmp .ge 35, 3) := by decide +kernel
theorem dX6_awashFor_10 : decode cX6_awashFor 10 = .ok (.aload_n 0, 1) := by decide +kernel
theorem dX6_awashFor_11 : decode cX6_awashFor 11 = .ok (.iload_n 1, 1) := by decide +kernel
theorem dX6_awashFor_12 : decode cX6_awashFor 12 = .ok (.iload_n 3, 1) := by decide +kernel
theorem dX6_awashFor_13 : decode cX6_awashFor 13 = .ok (.iconst 1, 1) := by decide +kernel
theorem dX6_awashFor_14 : decode cX6_awashFor 14 = .ok (.isub, 1) := by decide +kernel
theorem dX6_awashFor_15 : decode cX6_awashFor 15 = .ok (.iload_n 3, 1) := by decide +kernel
theorem dX6_awashFor_16 : decode cX6_awashFor 16 = .ok (.invokevirtual 137, 3) := by decide +kernel
theorem dX6_awashFor_19 : decode cX6_awashFor 19 = .ok (.ifCond .ne 5, 3) := by decide +kernel
theorem dX6_awashFor_22 : decode cX6_awashFor 22 = .ok (.iconst (-1), 1) := by decide +kernel
theorem dX6_awashFor_23 : decode cX6_awashFor 23 = .ok (.ireturn, 1) := by decide +kernel
theorem dX6_awashFor_24 : decode cX6_awashFor 24 = .ok (.aload_n 0, 1) := by decide +kernel
theorem dX6_awashFor_25 : decode cX6_awashFor 25 = .ok (.iload_n 3, 1) := by decide +kernel
theorem dX6_awashFor_26 : decode cX6_awashFor 26 = .ok (.invokevirtual 99, 3) := by decide +kernel
theorem dX6_awashFor_29 : decode cX6_awashFor 29 = .ok (.iconst 1, 1) := by decide +kernel
theorem dX6_awashFor_30 : decode cX6_awashFor 30 = .ok (.if_icmp .ne 6, 3) := by decide +kernel
theorem dX6_awashFor_33 : decode cX6_awashFor 33 = .ok (.iinc 2 1, 3) := by decide +kernel
theorem dX6_awashFor_36 : decode cX6_awashFor 36 = .ok (.iinc 3 1, 3) := by decide +kernel
theorem dX6_awashFor_39 : decode cX6_awashFor 39 = .ok (.goto (-35), 3) := by decide +kernel
theorem dX6_awashFor_42 : decode cX6_awashFor 42 = .ok (.iload_n 2, 1) := by decide +kernel
theorem dX6_awashFor_43 : decode cX6_awashFor 43 = .ok (.ireturn, 1) := by decide +kernel
theorem dX6_wetSteps_0 : decode cX6_wetSteps 0 = .ok (.aload_n 0, 1) := by decide +kernel
theorem dX6_wetSteps_1 : decode cX6_wetSteps 1 = .ok (.iconst 0, 1) := by decide +kernel
theorem dX6_wetSteps_2 : decode cX6_wetSteps 2 = .ok (.putfield 46, 3) := by decide +kernel
theorem dX6_wetSteps_5 : decode cX6_wetSteps 5 = .ok (.iload_n 1, 1) := by decide +kernel
theorem dX6_wetSteps_6 : decode cX6_wetSteps 6 = .ok (.iconst 0, 1) := by decide +kernel
theorem dX6_wetSteps_7 : decode cX6_wetSteps 7 = .ok (.iconst 2, 1) := by decide +kernel
theorem dX6_wetSteps_8 : decode cX6_wetSteps 8 = .ok (.invokestatic 62, 3) := by decide +kernel
theorem dX6_wetSteps_11 : decode cX6_wetSteps 11 = .ok (.ifCond .ne 9, 3) := by decide +kernel
theorem dX6_wetSteps_14 : decode cX6_wetSteps 14 = .ok (.aload_n 0, 1) := by decide +kernel
theorem dX6_wetSteps_15 : decode cX6_wetSteps 15 = .ok (.iconst 1, 1) := by decide +kernel
theorem dX6_wetSteps_16 : decode cX6_wetSteps 16 = .ok (.invokevirtual 58, 3) := by decide +kernel
theorem dX6_wetSteps_19 : decode cX6_wetSteps 19 = .ok (.ireturn, 1) := by decide +kernel
theorem dX6_wetSteps_20 : decode cX6_wetSteps 20 = .ok (.aload_n 0, 1) := by decide +kernel
theorem dX6_wetSteps_21 : decode cX6_wetSteps 21 = .ok (.iload_n 1, 1) := by decide +kernel
theorem dX6_wetSteps_22 : decode cX6_wetSteps 22 = .ok (.invokevirtual 159, 3) := by decide +kernel
theorem dX6_wetSteps_25 : decode cX6_wetSteps 25 = .ok (.istore_n 2, 1) := by decide +kernel
theorem dX6_wetSteps_26 : decode cX6_wetSteps 26 = .ok (.iload_n 2, 1) := by decide +kernel
theorem dX6_wetSteps_27 : decode cX6_wetSteps 27 = .ok (.ifCond .ge 11, 3) := by decide +kernel
theorem dX6_wetSteps_30 : decode cX6_wetSteps 30 = .ok (.aload_n 0, 1) := by decide +kernel
theorem dX6_wetSteps_31 : decode cX6_wetSteps 31 = .ok (.iconst 2, 1) := by decide +kernel
theorem dX6_wetSteps_32 : decode cX6_wetSteps 32 = .ok (.invokevirtual 58, 3) := by decide +kernel
theorem dX6_wetSteps_35 : decode cX6_wetSteps 35 = .ok (.goto 4, 3) := by decide +kernel
theorem dX6_wetSteps_38 : decode cX6_wetSteps 38 = .ok (.iload_n 2, 1) := by decide +kernel
theorem dX6_wetSteps_39 : decode cX6_wetSteps 39 = .ok (.ireturn, 1) := by decide +kernel
theorem dX6_kinds_0 : decode cX6_kinds 0 = .ok (.aload_n 0, 1) := by decide +kernel
theorem dX6_kinds_1 : decode cX6_kinds 1 = .ok (.iconst 0, 1) := by decide +kernel
theorem dX6_kinds_2 : decode cX6_kinds 2 = .ok (.putfield 46, 3) := by decide +kernel
theorem dX6_kinds_5 : decode cX6_kinds 5 = .ok (.iconst 0, 1) := by decide +kernel
theorem dX6_kinds_6 : decode cX6_kinds 6 = .ok (.istore_n 1, 1) := by decide +kernel
theorem dX6_kinds_7 : decode cX6_kinds 7 = .ok (.iconst 0, 1) := by decide +kernel
theorem dX6_kinds_8 : decode cX6_kinds 8 = .ok (.istore_n 2, 1) := by decide +kernel
theorem dX6_kinds_9 : decode cX6_kinds 9 = .ok (.iload_n 2, 1) := by decide +kernel
theorem dX6_kinds_10 : decode cX6_kinds 10 = .ok (.iconst 3, 1) := by decide +kernel
theorem dX6_kinds_11 : decode cX6_kinds 11 = .ok (.if_icmp .ge 23, 3) := by decide +kernel
theorem dX6_kinds_14 : decode cX6_kinds 14 = .ok (.aload_n 0, 1) := by decide +kernel
theorem dX6_kinds_15 : decode cX6_kinds 15 = .ok (.iload_n 2, 1) := by decide +kernel
theorem dX6_kinds_16 : decode cX6_kinds 16 = .ok (.invokevirtual 159, 3) := by decide +kernel
theorem dX6_kinds_19 : decode cX6_kinds 19 = .ok (.ifCond .lt 9, 3) := by decide +kernel
theorem dX6_kinds_22 : decode cX6_kinds 22 = .ok (.iload_n 1, 1) := by decide +kernel
theorem dX6_kinds_23 : decode cX6_kinds 23 = .ok (.iconst 1, 1) := by decide +kernel
theorem dX6_kinds_24 : decode cX6_kinds 24 = .ok (.iload_n 2, 1) := by decide +kernel
theorem dX6_kinds_25 : decode cX6_kinds 25 = .ok (.ishl, 1) := by decide +kernel
theorem dX6_kinds_26 : decode cX6_kinds 26 = .ok (.ior, 1) := by decide +kernel
theorem dX6_kinds_27 : decode cX6_kinds 27 = .ok (.istore_n 1, 1) := by decide +kernel
theorem dX6_kinds_28 : decode cX6_kinds 28 = .ok (.iinc 2 1, 3) := by decide +kernel
theorem dX6_kinds_31 : decode cX6_kinds 31 = .ok (.goto (-22), 3) := by decide +kernel
theorem dX6_kinds_34 : decode cX6_kinds 34 = .ok (.iload_n 1, 1) := by decide +kernel
theorem dX6_kinds_35 : decode cX6_kinds 35 = .ok (.ireturn, 1) := by decide +kernel
theorem dX6_type_0 : decode cX6_type 0 = .ok (.aload_n 0, 1) := by decide +kernel
theorem dX6_type_1 : decode cX6_type 1 = .ok (.iconst 0, 1) := by decide +kernel
theorem dX6_type_2 : decode cX6_type 2 = .ok (.putfield 46, 3) := by decide +kernel
theorem dX6_type_5 : decode cX6_type 5 = .ok (.aload_n 0, 1) := by decide +kernel
theorem dX6_type_6 : decode cX6_type 6 = .ok (.getfield 162, 3) := by decide +kernel
theorem dX6_type_9 : decode cX6_type 9 = .ok (.bipush 60, 2) := by decide +kernel
theorem dX6_type_11 : decode cX6_type 11 = .ok (.if_icmp .ne 9, 3) := by decide +kernel
theorem dX6_type_14 : decode cX6_type 14 = .ok (.aload_n 0, 1) := by decide +kernel
theorem dX6_type_15 : decode cX6_type 15 = .ok (.iconst 1, 1) := by decide +kernel
theorem dX6_type_16 : decode cX6_type 16 = .ok (.invokevirtual 58, 3) := by decide +kernel
theorem dX6_type_19 : decode cX6_type 19 = .ok (.ireturn, 1) := by decide +kernel
theorem dX6_type_20 : decode cX6_type 20 = .ok (.aload_n 0, 1) := by decide +kernel
theorem dX6_type_21 : decode cX6_type 21 = .ok (.getfield 29, 3) := by decide +kernel
theorem dX6_type_24 : decode cX6_type 24 = .ok (.aload_n 0, 1) := by decide +kernel
theorem dX6_type_25 : decode cX6_type 25 = .ok (.dup, 1) := by decide +kernel
theorem dX6_type_26 : decode cX6_type 26 = .ok (.getfield 162, 3) := by decide +kernel
theorem dX6_type_29 : decode cX6_type 29 = .ok (.dup_x1, 1) := by decide +kernel
theorem dX6_type_30 : decode cX6_type 30 = .ok (.iconst 1, 1) := by decide +kernel
theorem dX6_type_31 : decode cX6_type 31 = .ok (.iadd, 1) := by decide +kernel
theorem dX6_type_32 : decode cX6_type 32 = .ok (.putfield 162, 3) := by decide +kernel
theorem dX6_type_35 : decode cX6_type 35 = .ok (.iload_n 1, 1) := by decide +kernel
theorem dX6_type_36 : decode cX6_type 36 = .ok (.castore, 1) := by decide +kernel
theorem dX6_type_37 : decode cX6_type 37 = .ok (.aload_n 0, 1) := by decide +kernel
theorem dX6_type_38 : decode cX6_type 38 = .ok (.getfield 162, 3) := by decide +kernel
theorem dX6_type_41 : decode cX6_type 41 = .ok (.ireturn, 1) := by decide +kernel
theorem dX6_isNext_0 : decode cX6_isNext 0 = .ok (.aload_n 0, 1) := by decide +kernel
theorem dX6_isNext_1 : decode cX6_isNext 1 = .ok (.getfield 165, 3) := by decide +kernel
theorem dX6_isNext_4 : decode cX6_isNext 4 = .ok (.aload_n 0, 1) := by decide +kernel
theorem dX6_isNext_5 : decode cX6_isNext 5 = .ok (.getfield 162, 3) := by decide +kernel
theorem dX6_isNext_8 : decode cX6_isNext 8 = .ok (.if_icmp .ge 20, 3) := by decide +kernel
theorem dX6_isNext_11 : decode cX6_isNext 11 = .ok (.aload_n 0, 1) := by decide +kernel
theorem dX6_isNext_12 : decode cX6_isNext 12 = .ok (.getfield 29, 3) := by decide +kernel
theorem dX6_isNext_15 : decode cX6_isNext 15 = .ok (.aload_n 0, 1) := by decide +kernel
theorem dX6_isNext_16 : decode cX6_isNext 16 = .ok (.getfield 165, 3) := by decide +kernel
theorem dX6_isNext_19 : decode cX6_isNext 19 = .ok (.caload, 1) := by decide +kernel
theorem dX6_isNext_20 : decode cX6_isNext 20 = .ok (.iload_n 1, 1) := by decide +kernel
theorem dX6_isNext_21 : decode cX6_isNext 21 = .ok (.if_icmp .ne 7, 3) := by decide +kernel
theorem dX6_isNext_24 : decode cX6_isNext 24 = .ok (.iconst 1, 1) := by decide +kernel
theorem dX6_isNext_25 : decode cX6_isNext 25 = .ok (.goto 4, 3) := by decide +kernel
theorem dX6_isNext_28 : decode cX6_isNext 28 = .ok (.iconst 0, 1) := by decide +kernel
theorem dX6_isNext_29 : decode cX6_isNext 29 = .ok (.ireturn, 1) := by decide +kernel
theorem dX6_takes_0 : decode cX6_takes 0 = .ok (.aload_n 0, 1) := by decide +kernel
theorem dX6_takes_1 : decode cX6_takes 1 = .ok (.iload_n 1, 1) := by decide +kernel
theorem dX6_takes_2 : decode cX6_takes 2 = .ok (.invokevirtual 168, 3) := by decide +kernel
theorem dX6_takes_5 : decode cX6_takes 5 = .ok (.ifCond .ne 5, 3) := by decide +kernel
theorem dX6_takes_8 : decode cX6_takes 8 = .ok (.iconst 0, 1) := by decide +kernel
theorem dX6_takes_9 : decode cX6_takes 9 = .ok (.ireturn, 1) := by decide +kernel
theorem dX6_takes_10 : decode cX6_takes 10 = .ok (.aload_n 0, 1) := by decide +kernel
theorem dX6_takes_11 : decode cX6_takes 11 = .ok (.dup, 1) := by decide +kernel
theorem dX6_takes_12 : decode cX6_takes 12 = .ok (.getfield 165, 3) := by decide +kernel
theorem dX6_takes_15 : decode cX6_takes 15 = .ok (.iconst 1, 1) := by decide +kernel
theorem dX6_takes_16 : decode cX6_takes 16 = .ok (.iadd, 1) := by decide +kernel
theorem dX6_takes_17 : decode cX6_takes 17 = .ok (.putfield 165, 3) := by decide +kernel
theorem dX6_takes_20 : decode cX6_takes 20 = .ok (.iconst 1, 1) := by decide +kernel
theorem dX6_takes_21 : decode cX6_takes 21 = .ok (.ireturn, 1) := by decide +kernel
theorem dX6_word_0 : decode cX6_word 0 = .ok (.iconst 0, 1) := by decide +kernel
theorem dX6_word_1 : decode cX6_word 1 = .ok (.istore_n 2, 1) := by decide +kernel
theorem dX6_word_2 : decode cX6_word 2 = .ok (.iload_n 2, 1) := by decide +kernel
theorem dX6_word_3 : decode cX6_word 3 = .ok (.aload_n 1, 1) := by decide +kernel
theorem dX6_word_4 : decode cX6_word 4 = .ok (.invokevirtual 172, 3) := by decide +kernel
theorem dX6_word_7 : decode cX6_word 7 = .ok (.if_icmp .ge 23, 3) := by decide +kernel
theorem dX6_word_10 : decode cX6_word 10 = .ok (.aload_n 0, 1) := by decide +kernel
theorem dX6_word_11 : decode cX6_word 11 = .ok (.aload_n 1, 1) := by decide +kernel
theorem dX6_word_12 : decode cX6_word 12 = .ok (.iload_n 2, 1) := by decide +kernel
theorem dX6_word_13 : decode cX6_word 13 = .ok (.invokevirtual 176, 3) := by decide +kernel
theorem dX6_word_16 : decode cX6_word 16 = .ok (.invokevirtual 180, 3) := by decide +kernel
theorem dX6_word_19 : decode cX6_word 19 = .ok (.ifCond .ne 5, 3) := by decide +kernel
theorem dX6_word_22 : decode cX6_word 22 = .ok (.iconst 0, 1) := by decide +kernel
theorem dX6_word_23 : decode cX6_word 23 = .ok (.ireturn, 1) := by decide +kernel
theorem dX6_word_24 : decode cX6_word 24 = .ok (.iinc 2 1, 3) := by decide +kernel
theorem dX6_word_27 : decode cX6_word 27 = .ok (.goto (-25), 3) := by decide +kernel
theorem dX6_word_30 : decode cX6_word 30 = .ok (.iconst 1, 1) := by decide +kernel
theorem dX6_word_31 : decode cX6_word 31 = .ok (.ireturn, 1) := by decide +kernel
theorem dX6_codes_0 : decode cX6_codes 0 = .ok (.aload_n 0, 1) := by decide +kernel
theorem dX6_codes_1 : decode cX6_codes 1 = .ok (.getfield 32, 3) := by decide +kernel
theorem dX6_codes_4 : decode cX6_codes 4 = .ok (.aload_n 0, 1) := by decide +kernel
theorem dX6_codes_5 : decode cX6_codes 5 = .ok (.dup, 1) := by decide +kernel
theorem dX6_codes_6 : decode cX6_codes 6 = .ok (.getfield 183, 3) := by decide +kernel
theorem dX6_codes_9 : decode cX6_codes 9 = .ok (.dup_x1, 1) := by decide +kernel
theorem dX6_codes_10 : decode cX6_codes 10 = .ok (.iconst 1, 1) := by decide +kernel
theorem dX6_codes_11 : decode cX6_codes 11 = .ok (.iadd, 1) := by decide +kernel
theorem dX6_codes_12 : decode cX6_codes 12 = .ok (.putfield 183, 3) := by decide +kernel
theorem dX6_codes_15 : decode cX6_codes 15 = .ok (.iload_n 1, 1) := by decide +kernel
theorem dX6_codes_16 : decode cX6_codes 16 = .ok (.iastore, 1) := by decide +kernel
theorem dX6_codes_17 : decode cX6_codes 17 = .ok (.iconst 1, 1) := by decide +kernel
theorem dX6_codes_18 : decode cX6_codes 18 = .ok (.ireturn, 1) := by decide +kernel
theorem dX6_measure_0 : decode cX6_measure 0 = .ok (.aload_n 0, 1) := by decide +kernel
theorem dX6_measure_1 : decode cX6_measure 1 = .ok (.aload_n 1, 1) := by decide +kernel
theorem dX6_measure_2 : decode cX6_measure 2 = .ok (.invokevirtual 186, 3) := by decide +kernel
theorem dX6_measure_5 : decode cX6_measure 5 = .ok (.ifCond .ne 5, 3) := by decide +kernel
theorem dX6_measure_8 : decode cX6_measure 8 = .ok (.iconst 0, 1) := by decide +kernel
theorem dX6_measure_9 : decode cX6_measure 9 = .ok (.ireturn, 1) := by decide +kernel
theorem dX6_measure_10 : decode cX6_measure 10 = .ok (.aload_n 0, 1) := by decide +kernel
theorem dX6_measure_11 : decode cX6_measure 11 = .ok (.bipush 60, 2) := by decide +kernel
theorem dX6_measure_13 : decode cX6_measure 13 = .ok (.invokevirtual 168, 3) := by decide +kernel
theorem dX6_measure_16 : decode cX6_measure 16 = .ok (.ifCond .eq 7, 3) := by decide +kernel
theorem dX6_measure_19 : decode cX6_measure 19 = .ok (.iconst 0, 1) := by decide +kernel
theorem dX6_measure_20 : decode cX6_measure 20 = .ok (.goto 30, 3) := by decide +kernel
theorem dX6_measure_23 : decode cX6_measure 23 = .ok (.aload_n 0, 1) := by decide +kernel
theorem dX6_measure_24 : decode cX6_measure 24 = .ok (.bipush 61, 2) := by decide +kernel
theorem dX6_measure_26 : decode cX6_measure 26 = .ok (.invokevirtual 168, 3) := by decide +kernel
theorem dX6_measure_29 : decode cX6_measure 29 = .ok (.ifCond .eq 7, 3) := by decide +kernel
theorem dX6_measure_32 : decode cX6_measure 32 = .ok (.iconst 1, 1) := by decide +kernel
theorem dX6_measure_33 : decode cX6_measure 33 = .ok (.goto 17, 3) := by decide +kernel
theorem dX6_measure_36 : decode cX6_measure 36 = .ok (.aload_n 0, 1) := by decide +kernel
theorem dX6_measure_37 : decode cX6_measure 37 = .ok (.bipush 62, 2) := by decide +kernel
theorem dX6_measure_39 : decode cX6_measure 39 = .ok (.invokevirtual 168, 3) := by decide +kernel
theorem dX6_measure_42 : decode cX6_measure 42 = .ok (.ifCond .eq 7, 3) := by decide +kernel
theorem dX6_measure_45 : decode cX6_measure 45 = .ok (.iconst 2, 1) := by decide +kernel
theorem dX6_measure_46 : decode cX6_measure 46 = .ok (.goto 4, 3) := by decide +kernel
theorem dX6_measure_49 : decode cX6_measure 49 = .ok (.iconst (-1), 1) := by decide +kernel
theorem dX6_measure_50 : decode cX6_measure 50 = .ok (.istore_n 3, 1) := by decide +kernel
theorem dX6_measure_51 : decode cX6_measure 51 = .ok (.iload_n 3, 1) := by decide +kernel
theorem dX6_measure_52 : decode cX6_measure 52 = .ok (.ifCond .ge 5, 3) := by decide +kernel
theorem dX6_measure_55 : decode cX6_measure 55 = .ok (.iconst 0, 1) := by decide +kernel
theorem dX6_measure_56 : decode cX6_measure 56 = .ok (.ireturn, 1) := by decide +kernel
theorem dX6_measure_57 : decode cX6_measure 57 = .ok (.aload_n 0, 1) := by decide +kernel
theorem dX6_measure_58 : decode cX6_measure 58 = .ok (.dup, 1) := by decide +kernel
theorem dX6_measure_59 : decode cX6_measure 59 = .ok (.getfield 165, 3) := by decide +kernel
theorem dX6_measure_62 : decode cX6_measure 62 = .ok (.iconst 1, 1) := by decide +kernel
theorem dX6_measure_63 : decode cX6_measure 63 = .ok (.iadd, 1) := by decide +kernel
theorem dX6_measure_64 : decode cX6_measure 64 = .ok (.putfield 165, 3) := by decide +kernel
theorem dX6_measure_67 : decode cX6_measure 67 = .ok (.aload_n 0, 1) := by decide +kernel
theorem dX6_measure_68 : decode cX6_measure 68 = .ok (.getfield 165, 3) := by decide +kernel
theorem dX6_measure_71 : decode cX6_measure 71 = .ok (.aload_n 0, 1) := by decide +kernel
theorem dX6_measure_72 : decode cX6_measure 72 = .ok (.getfield 162, 3) := by decide +kernel
theorem dX6_measure_75 : decode cX6_measure 75 = .ok (.if_icmp .eq 22, 3) := by decide +kernel
theorem dX6_measure_78 : decode cX6_measure 78 = .ok (.aload_n 0, 1) := by decide +kernel
theorem dX6_measure_79 : decode cX6_measure 79 = .ok (.getfield 29, 3) := by decide +kernel
theorem dX6_measure_82 : decode cX6_measure 82 = .ok (.aload_n 0, 1) := by decide +kernel
theorem dX6_measure_83 : decode cX6_measure 83 = .ok (.getfield 165, 3) := by decide +kernel
theorem dX6_measure_86 : decode cX6_measure 86 = .ok (.caload, 1) := by decide +kernel
theorem dX6_measure_87 : decode cX6_measure 87 = .ok (.bipush 48, 2) := by decide +kernel
theorem dX6_measure_89 : decode cX6_measure 89 = .ok (.bipush 57, 2) := by decide +kernel
theorem dX6_measure_91 : decode cX6_measure 91 = .ok (.invokestatic 62, 3) := by decide +kernel
theorem dX6_measure_94 : decode cX6_measure 94 = .ok (.ifCond .ne 5, 3) := by decide +kernel
theorem dX6_measure_97 : decode cX6_measure 97 = .ok (.iconst 0, 1) := by decide +kernel
theorem dX6_measure_98 : decode cX6_measure 98 = .ok (.ireturn, 1) := by decide +kernel
theorem dX6_measure_99 : decode cX6_measure 99 = .ok (.aload_n 0, 1) := by decide +kernel
theorem dX6_measure_100 : decode cX6_measure 100 = .ok (.getfield 29, 3) := by decide +kernel
theorem dX6_measure_103 : decode cX6_measure 103 = .ok (.aload_n 0, 1) := by decide +kernel
theorem dX6_measure_104 : decode cX6_measure 104 = .ok (.dup, 1) := by decide +kernel
theorem dX6_measure_105 : decode cX6_measure 105 = .ok (.getfield 165, 3) := by decide +kernel
theorem dX6_measure_108 : decode cX6_measure 108 = .ok (.dup_x1, 1) := by decide +kernel
theorem dX6_measure_109 : decode cX6_measure 109 = .ok (.iconst 1, 1) := by decide +kernel
theorem dX6_measure_110 : decode cX6_measure 110 = .ok (.iadd, 1) := by decide +kernel
theorem dX6_measure_111 : decode cX6_measure 111 = .ok (.putfield 165, 3) := by decide +kernel
theorem dX6_measure_114 : decode cX6_measure 114 = .ok (.caload, 1) := by decide +kernel
theorem dX6_measure_115 : decode cX6_measure 115 = .ok (.bipush 48, 2) := by decide +kernel
theorem dX6_measure_117 : decode cX6_measure 117 = .ok (.isub, 1) := by decide +kernel
theorem dX6_measure_118 : decode cX6_measure 118 = .ok (.istore 4, 2) := by decide +kernel
theorem dX6_measure_120 : decode cX6_measure 120 = .ok (.aload_n 0, 1) := by decide +kernel
theorem dX6_measure_121 : decode cX6_measure 121 = .ok (.getfield 165, 3) := by decide +kernel
theorem dX6_measure_124 : decode cX6_measure 124 = .ok (.aload_n 0, 1) := by decide +kernel
theorem dX6_measure_125 : decode cX6_measure 125 = .ok (.getfield 162, 3) := by decide +kernel
theorem dX6_measure_128 : decode cX6_measure 128 = .ok (.if_icmp .ge 49, 3) := by decide +kernel
theorem dX6_measure_131 : decode cX6_measure 131 = .ok (.aload_n 0, 1) := by decide +kernel
theorem dX6_measure_132 : decode cX6_measure 132 = .ok (.getfield 29, 3) := by decide +kernel
theorem dX6_measure_135 : decode cX6_measure 135 = .ok (.aload_n 0, 1) := by decide +kernel
theorem dX6_measure_136 : decode cX6_measure 136 = .ok (.getfield 165, 3) := by decide +kernel
theorem dX6_measure_139 : decode cX6_measure 139 = .ok (.caload, 1) := by decide +kernel
theorem dX6_measure_140 : decode cX6_measure 140 = .ok (.bipush 48, 2) := by decide +kernel
theorem dX6_measure_142 : decode cX6_measure 142 = .ok (.bipush 57, 2) := by decide +kernel
theorem dX6_measure_144 : decode cX6_measure 144 = .ok (.invokestatic 62, 3) := by decide +kernel
theorem dX6_measure_147 : decode cX6_measure 147 = .ok (.ifCond .eq 30, 3) := by decide +kernel
theorem dX6_measure_150 : decode cX6_measure 150 = .ok (.bipush 10, 2) := by decide +kernel
theorem dX6_measure_152 : decode cX6_measure 152 = .ok (.iload 4, 2) := by decide +kernel
theorem dX6_measure_154 : decode cX6_measure 154 = .ok (.imul, 1) := by decide +kernel
theorem dX6_measure_155 : decode cX6_measure 155 = .ok (.aload_n 0, 1) := by decide +kernel
theorem dX6_measure_156 : decode cX6_measure 156 = .ok (.getfield 29, 3) := by decide +kernel
theorem dX6_measure_159 : decode cX6_measure 159 = .ok (.aload_n 0, 1) := by decide +kernel
theorem dX6_measure_160 : decode cX6_measure 160 = .ok (.dup, 1) := by decide +kernel
theorem dX6_measure_161 : decode cX6_measure 161 = .ok (.getfield 165, 3) := by decide +kernel
theorem dX6_measure_164 : decode cX6_measure 164 = .ok (.dup_x1, 1) := by decide +kernel
theorem dX6_measure_165 : decode cX6_measure 165 = .ok (.iconst 1, 1) := by decide +kernel
theorem dX6_measure_166 : decode cX6_measure 166 = .ok (.iadd, 1) := by decide +kernel
theorem dX6_measure_167 : decode cX6_measure 167 = .ok (.putfield 165, 3) := by decide +kernel
theorem dX6_measure_170 : decode cX6_measure 170 = .ok (.caload, 1) := by decide +kernel
theorem dX6_measure_171 : decode cX6_measure 171 = .ok (.iadd, 1) := by decide +kernel
theorem dX6_measure_172 : decode cX6_measure 172 = .ok (.bipush 48, 2) := by decide +kernel
theorem dX6_measure_174 : decode cX6_measure 174 = .ok (.isub, 1) := by decide +kernel
theorem dX6_measure_175 : decode cX6_measure 175 = .ok (.istore 4, 2) := by decide +kernel
theorem dX6_measure_177 : decode cX6_measure 177 = .ok (.aload_n 0, 1) := by decide +kernel
theorem dX6_measure_178 : decode cX6_measure 178 = .ok (.sipush 10000, 3) := by decide +kernel
theorem dX6_measure_181 : decode cX6_measure 181 = .ok (.sipush 1000, 3) := by decide +kernel
theorem dX6_measure_184 : decode cX6_measure 184 = .ok (.iload_n 2, 1) := by decide +kernel
theorem dX6_measure_185 : decode cX6_measure 185 = .ok (.imul, 1) := by decide +kernel
theorem dX6_measure_186 : decode cX6_measure 186 = .ok (.iadd, 1) := by decide +kernel
theorem dX6_measure_187 : decode cX6_measure 187 = .ok (.bipush 100, 2) := by decide +kernel
theorem dX6_measure_189 : decode cX6_measure 189 = .ok (.iload_n 3, 1) := by decide +kernel
theorem dX6_measure_190 : decode cX6_measure 190 = .ok (.imul, 1) := by decide +kernel
theorem dX6_measure_191 : decode cX6_measure 191 = .ok (.iadd, 1) := by decide +kernel
theorem dX6_measure_192 : decode cX6_measure 192 = .ok (.iload 4, 2) := by decide +kernel
theorem dX6_measure_194 : decode cX6_measure 194 = .ok (.iadd, 1) := by decide +kernel
theorem dX6_measure_195 : decode cX6_measure 195 = .ok (.invokevirtual 190, 3) := by decide +kernel
theorem dX6_measure_198 : decode cX6_measure 198 = .ok (.ireturn, 1) := by decide +kernel
theorem dX6_one_0 : decode cX6_one 0 = .ok (.aload_n 0, 1) := by decide +kernel
theorem dX6_one_1 : decode cX6_one 1 = .ok (.bipush 45, 2) := by decide +kernel
theorem dX6_one_3 : decode cX6_one 3 = .ok (.invokevirtual 168, 3) := by decide +kernel
theorem dX6_one_6 : decode cX6_one 6 = .ok (.ifCond .ne 12, 3) := by decide +kernel
theorem dX6_one_9 : decode cX6_one 9 = .ok (.aload_n 0, 1) := by decide +kernel
theorem dX6_one_10 : decode cX6_one 10 = .ok (.bipush 91, 2) := by decide +kernel
theorem dX6_one_12 : decode cX6_one 12 = .ok (.invokevirtual 168, 3) := by decide +kernel
theorem dX6_one_15 : decode cX6_one 15 = .ok (.ifCond .eq 100, 3) := by decide +kernel
theorem dX6_one_18 : decode cX6_one 18 = .ok (.aload_n 0, 1) := by decide +kernel
theorem dX6_one_19 : decode cX6_one 19 = .ok (.getfield 192, 3) := by decide +kernel
theorem dX6_one_22 : decode cX6_one 22 = .ok (.iconst 4, 1) := by decide +kernel
theorem dX6_one_23 : decode cX6_one 23 = .ok (.if_icmp .ne 5, 3) := by decide +kernel
theorem dX6_one_26 : decode cX6_one 26 = .ok (.iconst 0, 1) := by decide +kernel
theorem dX6_one_27 : decode cX6_one 27 = .ok (.ireturn, 1) := by decide +kernel
theorem dX6_one_28 : decode cX6_one 28 = .ok (.aload_n 0, 1) := by decide +kernel
theorem dX6_one_29 : decode cX6_one 29 = .ok (.dup, 1) := by decide +kernel
theorem dX6_one_30 : decode cX6_one 30 = .ok (.getfield 192, 3) := by decide +kernel
theorem dX6_one_33 : decode cX6_one 33 = .ok (.iconst 1, 1) := by decide +kernel
theorem dX6_one_34 : decode cX6_one 34 = .ok (.iadd, 1) := by decide +kernel
theorem dX6_one_35 : decode cX6_one 35 = .ok (.putfield 192, 3) := by decide +kernel
theorem dX6_one_38 : decode cX6_one 38 = .ok (.aload_n 0, 1) := by decide +kernel
theorem dX6_one_39 : decode cX6_one 39 = .ok (.bipush 45, 2) := by decide +kernel
theorem dX6_one_41 : decode cX6_one 41 = .ok (.invokevirtual 180, 3) := by decide +kernel
theorem dX6_one_44 : decode cX6_one 44 = .ok (.ifCond .eq 28, 3) := by decide +kernel
theorem dX6_one_47 : decode cX6_one 47 = .ok (.aload_n 0, 1) := by decide +kernel
theorem dX6_one_48 : decode cX6_one 48 = .ok (.invokevirtual 195, 3) := by decide +kernel
theorem dX6_one_51 : decode cX6_one 51 = .ok (.ifCond .eq 16, 3) := by decide +kernel
theorem dX6_one_54 : decode cX6_one 54 = .ok (.aload_n 0, 1) := by decide +kernel
theorem dX6_one_55 : decode cX6_one 55 = .ok (.bipush 100, 2) := by decide +kernel
theorem dX6_one_57 : decode cX6_one 57 = .ok (.invokevirtual 190, 3) := by decide +kernel
theorem dX6_one_60 : decode cX6_one 60 = .ok (.ifCond .eq 7, 3) := by decide +kernel
theorem dX6_one_63 : decode cX6_one 63 = .ok (.iconst 1, 1) := by decide +kernel
theorem dX6_one_64 : decode cX6_one 64 = .ok (.goto 4, 3) := by decide +kernel
theorem dX6_one_67 : decode cX6_one 67 = .ok (.iconst 0, 1) := by decide +kernel
theorem dX6_one_68 : decode cX6_one 68 = .ok (.istore_n 1, 1) := by decide +kernel
theorem dX6_one_69 : decode cX6_one 69 = .ok (.goto 34, 3) := by decide +kernel
theorem dX6_one_72 : decode cX6_one 72 = .ok (.aload_n 0, 1) := by decide +kernel
theorem dX6_one_73 : decode cX6_one 73 = .ok (.bipush 91, 2) := by decide +kernel
theorem dX6_one_75 : decode cX6_one 75 = .ok (.invokevirtual 180, 3) := by decide +kernel
theorem dX6_one_78 : decode cX6_one 78 = .ok (.ifCond .eq 23, 3) := by decide +kernel
theorem dX6_one_81 : decode cX6_one 81 = .ok (.aload_n 0, 1) := by decide +kernel
theorem dX6_one_82 : decode cX6_one 82 = .ok (.invokevirtual 199, 3) := by decide +kernel
theorem dX6_one_85 : decode cX6_one 85 = .ok (.ifCond .eq 16, 3) := by decide +kernel
theorem dX6_one_88 : decode cX6_one 88 = .ok (.aload_n 0, 1) := by decide +kernel
theorem dX6_one_89 : decode cX6_one 89 = .ok (.bipush 93, 2) := by decide +kernel
theorem dX6_one_91 : decode cX6_one 91 = .ok (.invokevirtual 180, 3) := by decide +kernel
theorem dX6_one_94 : decode cX6_one 94 = .ok (.ifCond .eq 7, 3) := by decide +kernel
theorem dX6_one_97 : decode cX6_one 97 = .ok (.iconst 1, 1) := by decide +kernel
theorem dX6_one_98 : decode cX6_one 98 = .ok (.goto 4, 3) := by decide +kernel
theorem dX6_one_101 : decode cX6_one 101 = .ok (.iconst 0, 1) := by decide +kernel
theorem dX6_one_102 : decode cX6_one 102 = .ok (.istore_n 1, 1) := by decide +kernel
theorem dX6_one_103 : decode cX6_one 103 = .ok (.aload_n 0, 1) := by decide +kernel
theorem dX6_one_104 : decode cX6_one 104 = .ok (.dup, 1) := by decide +kernel
theorem dX6_one_105 : decode cX6_one 105 = .ok (.getfield 192, 3) := by decide +kernel
theorem dX6_one_108 : decode cX6_one 108 = .ok (.iconst 1, 1) := by decide +kernel
theorem dX6_one_109 : decode cX6_one 109 = .ok (.isub, 1) := by decide +kernel
theorem dX6_one_110 : decode cX6_one 110 = .ok (.putfield 192, 3) := by decide +kernel
theorem dX6_one_113 : decode cX6_one 113 = .ok (.iload_n 1, 1) := by decide +kernel
theorem dX6_one_114 : decode cX6_one 114 = .ok (.ireturn, 1) := by decide +kernel
theorem dX6_one_115 : decode cX6_one 115 = .ok (.aload_n 0, 1) := by decide +kernel
theorem dX6_one_116 : decode cX6_one 116 = .ok (.getfield 165, 3) := by decide +kernel
theorem dX6_one_119 : decode cX6_one 119 = .ok (.aload_n 0, 1) := by decide +kernel
theorem dX6_one_120 : decode cX6_one 120 = .ok (.getfield 162, 3) := by decide +kernel
theorem dX6_one_123 : decode cX6_one 123 = .ok (.if_icmp .ne 5, 3) := by decide +kernel
theorem dX6_one_126 : decode cX6_one 126 = .ok (.iconst 0, 1) := by decide +kernel
theorem dX6_one_127 : decode cX6_one 127 = .ok (.ireturn, 1) := by decide +kernel
theorem dX6_one_128 : decode cX6_one 128 = .ok (.aload_n 0, 1) := by decide +kernel
theorem dX6_one_129 : decode cX6_one 129 = .ok (.getfield 165, 3) := by decide +kernel
theorem dX6_one_132 : decode cX6_one 132 = .ok (.iconst 1, 1) := by decide +kernel
theorem dX6_one_133 : decode cX6_one 133 = .ok (.iadd, 1) := by decide +kernel
theorem dX6_one_134 : decode cX6_one 134 = .ok (.aload_n 0, 1) := by decide +kernel
theorem dX6_one_135 : decode cX6_one 135 = .ok (.getfield 162, 3) := by decide +kernel
theorem dX6_one_138 : decode cX6_one 138 = .ok (.if_icmp .ge 17, 3) := by decide +kernel
theorem dX6_one_141 : decode cX6_one 141 = .ok (.aload_n 0, 1) := by decide +kernel
theorem dX6_one_142 : decode cX6_one 142 = .ok (.getfield 29, 3) := by decide +kernel
theorem dX6_one_145 : decode cX6_one 145 = .ok (.aload_n 0, 1) := by decide +kernel
theorem dX6_one_146 : decode cX6_one 146 = .ok (.getfield 165, 3) := by decide +kernel
theorem dX6_one_149 : decode cX6_one 149 = .ok (.iconst 1, 1) := by decide +kernel
theorem dX6_one_150 : decode cX6_one 150 = .ok (.iadd, 1) := by decide +kernel
theorem dX6_one_151 : decode cX6_one 151 = .ok (.caload, 1) := by decide +kernel
theorem dX6_one_152 : decode cX6_one 152 = .ok (.goto 5, 3) := by decide +kernel
theorem dX6_one_155 : decode cX6_one 155 = .ok (.bipush 32, 2) := by decide +kernel
theorem dX6_one_157 : decode cX6_one 157 = .ok (.istore_n 1, 1) := by decide +kernel
theorem dX6_one_158 : decode cX6_one 158 = .ok (.aload_n 0, 1) := by decide +kernel
theorem dX6_one_159 : decode cX6_one 159 = .ok (.getfield 29, 3) := by decide +kernel
theorem dX6_one_162 : decode cX6_one 162 = .ok (.aload_n 0, 1) := by decide +kernel
theorem dX6_one_163 : decode cX6_one 163 = .ok (.getfield 165, 3) := by decide +kernel
theorem dX6_one_166 : decode cX6_one 166 = .ok (.caload, 1) := by decide +kernel
theorem dX6_one_167 : decode cX6_one 167 = .ok (.tableswitch 300 99 119 #[136, 176, 300, 222, 300, 300, 300, 300, 300, 292, 300, 199, 268, 300, 300, 300, 245, 300, 300, 300, 97], 97) := by decide +kernel
theorem dX6_one_264 : decode cX6_one 264 = .ok (.iload_n 1, 1) := by decide +kernel
theorem dX6_one_265 : decode cX6_one 265 = .ok (.bipush 101, 2) := by decide +kernel
theorem dX6_one_267 : decode cX6_one 267 = .ok (.if_icmp .ne 13, 3) := by decide +kernel
theorem dX6_one_270 : decode cX6_one 270 = .ok (.aload_n 0, 1) := by decide +kernel
theorem dX6_one_271 : decode cX6_one 271 = .ok (.ldc 202, 2) := by decide +kernel
theorem dX6_one_273 : decode cX6_one 273 = .ok (.iconst 1, 1) := by decide +kernel
theorem dX6_one_274 : decode cX6_one 274 = .ok (.invokevirtual 204, 3) := by decide +kernel
theorem dX6_one_277 : decode cX6_one 277 = .ok (.goto 25, 3) := by decide +kernel
theorem dX6_one_280 : decode cX6_one 280 = .ok (.aload_n 0, 1) := by decide +kernel
theorem dX6_one_281 : decode cX6_one 281 = .ok (.ldc 208, 2) := by decide +kernel
theorem dX6_one_283 : decode cX6_one 283 = .ok (.invokevirtual 186, 3) := by decide +kernel
theorem dX6_one_286 : decode cX6_one 286 = .ok (.ifCond .eq 15, 3) := by decide +kernel
theorem dX6_one_289 : decode cX6_one 289 = .ok (.aload_n 0, 1) := by decide +kernel
theorem dX6_one_290 : decode cX6_one 290 = .ok (.iconst 0, 1) := by decide +kernel
theorem dX6_one_291 : decode cX6_one 291 = .ok (.invokevirtual 190, 3) := by decide +kernel
theorem dX6_one_294 : decode cX6_one 294 = .ok (.ifCond .eq 7, 3) := by decide +kernel
theorem dX6_one_297 : decode cX6_one 297 = .ok (.iconst 1, 1) := by decide +kernel
theorem dX6_one_298 : decode cX6_one 298 = .ok (.goto 4, 3) := by decide +kernel
theorem dX6_one_301 : decode cX6_one 301 = .ok (.iconst 0, 1) := by decide +kernel
theorem dX6_one_302 : decode cX6_one 302 = .ok (.ireturn, 1) := by decide +kernel
theorem dX6_one_303 : decode cX6_one 303 = .ok (.iload_n 1, 1) := by decide +kernel
theorem dX6_one_304 : decode cX6_one 304 = .ok (.bipush 114, 2) := by decide +kernel
theorem dX6_one_306 : decode cX6_one 306 = .ok (.if_icmp .ne 14, 3) := by decide +kernel
theorem dX6_one_309 : decode cX6_one 309 = .ok (.aload_n 0, 1) := by decide +kernel
theorem dX6_one_310 : decode cX6_one 310 = .ok (.ldc 210, 2) := by decide +kernel
theorem dX6_one_312 : decode cX6_one 312 = .ok (.bipush 6, 2) := by decide +kernel
theorem dX6_one_314 : decode cX6_one 314 = .ok (.invokevirtual 204, 3) := by decide +kernel
theorem dX6_one_317 : decode cX6_one 317 = .ok (.goto 25, 3) := by decide +kernel
theorem dX6_one_320 : decode cX6_one 320 = .ok (.aload_n 0, 1) := by decide +kernel
theorem dX6_one_321 : decode cX6_one 321 = .ok (.ldc 212, 2) := by decide +kernel
theorem dX6_one_323 : decode cX6_one 323 = .ok (.invokevirtual 186, 3) := by decide +kernel
theorem dX6_one_326 : decode cX6_one 326 = .ok (.ifCond .eq 15, 3) := by decide +kernel
theorem dX6_one_329 : decode cX6_one 329 = .ok (.aload_n 0, 1) := by decide +kernel
theorem dX6_one_330 : decode cX6_one 330 = .ok (.iconst 1, 1) := by decide +kernel
theorem dX6_one_331 : decode cX6_one 331 = .ok (.invokevirtual 190, 3) := by decide +kernel
theorem dX6_one_334 : decode cX6_one 334 = .ok (.ifCond .eq 7, 3) := by decide +kernel
theorem dX6_one_337 : decode cX6_one 337 = .ok (.iconst 1, 1) := by decide +kernel
theorem dX6_one_338 : decode cX6_one 338 = .ok (.goto 4, 3) := by decide +kernel
theorem dX6_one_341 : decode cX6_one 341 = .ok (.iconst 0, 1) := by decide +kernel
theorem dX6_one_342 : decode cX6_one 342 = .ok (.ireturn, 1) := by decide +kernel
theorem dX6_one_343 : decode cX6_one 343 = .ok (.aload_n 0, 1) := by decide +kernel
theorem dX6_one_344 : decode cX6_one 344 = .ok (.ldc 214, 2) := by decide +kernel
theorem dX6_one_346 : decode cX6_one 346 = .ok (.invokevirtual 186, 3) := by decide +kernel
theorem dX6_one_349 : decode cX6_one 349 = .ok (.ifCond .eq 15, 3) := by decide +kernel
theorem dX6_one_352 : decode cX6_one 352 = .ok (.aload_n 0, 1) := by decide +kernel
theorem dX6_one_353 : decode cX6_one 353 = .ok (.iconst 2, 1) := by decide +kernel
theorem dX6_one_354 : decode cX6_one 354 = .ok (.invokevirtual 190, 3) := by decide +kernel
theorem dX6_one_357 : decode cX6_one 357 = .ok (.ifCond .eq 7, 3) := by decide +kernel
theorem dX6_one_360 : decode cX6_one 360 = .ok (.iconst 1, 1) := by decide +kernel
theorem dX6_one_361 : decode cX6_one 361 = .ok (.goto 4, 3) := by decide +kernel
theorem dX6_one_364 : decode cX6_one 364 = .ok (.iconst 0, 1) := by decide +kernel
theorem dX6_one_365 : decode cX6_one 365 = .ok (.ireturn, 1) := by decide +kernel
theorem dX6_one_366 : decode cX6_one 366 = .ok (.aload_n 0, 1) := by decide +kernel
theorem dX6_one_367 : decode cX6_one 367 = .ok (.ldc 216, 2) := by decide +kernel
theorem dX6_one_369 : decode cX6_one 369 = .ok (.invokevirtual 186, 3) := by decide +kernel
theorem dX6_one_372 : decode cX6_one 372 = .ok (.ifCond .eq 15, 3) := by decide +kernel
theorem dX6_one_375 : decode cX6_one 375 = .ok (.aload_n 0, 1) := by decide +kernel
theorem dX6_one_376 : decode cX6_one 376 = .ok (.iconst 3, 1) := by decide +kernel
theorem dX6_one_377 : decode cX6_one 377 = .ok (.invokevirtual 190, 3) := by decide +kernel
theorem dX6_one_380 : decode cX6_one 380 = .ok (.ifCond .eq 7, 3) := by decide +kernel
theorem dX6_one_383 : decode cX6_one 383 = .ok (.iconst 1, 1) := by decide +kernel
theorem dX6_one_384 : decode cX6_one 384 = .ok (.goto 4, 3) := by decide +kernel
theorem dX6_one_387 : decode cX6_one 387 = .ok (.iconst 0, 1) := by decide +kernel
theorem dX6_one_388 : decode cX6_one 388 = .ok (.ireturn, 1) := by decide +kernel
theorem dX6_one_389 : decode cX6_one 389 = .ok (.aload_n 0, 1) := by decide +kernel
theorem dX6_one_390 : decode cX6_one 390 = .ok (.ldc 218, 2) := by decide +kernel
theorem dX6_one_392 : decode cX6_one 392 = .ok (.invokevirtual 186, 3) := by decide +kernel
theorem dX6_one_395 : decode cX6_one 395 = .ok (.ifCond .eq 15, 3) := by decide +kernel
theorem dX6_one_398 : decode cX6_one 398 = .ok (.aload_n 0, 1) := by decide +kernel
theorem dX6_one_399 : decode cX6_one 399 = .ok (.iconst 4, 1) := by decide +kernel
theorem dX6_one_400 : decode cX6_one 400 = .ok (.invokevirtual 190, 3) := by decide +kernel
theorem dX6_one_403 : decode cX6_one 403 = .ok (.ifCond .eq 7, 3) := by decide +kernel
theorem dX6_one_406 : decode cX6_one 406 = .ok (.iconst 1, 1) := by decide +kernel
theorem dX6_one_407 : decode cX6_one 407 = .ok (.goto 4, 3) := by decide +kernel
theorem dX6_one_410 : decode cX6_one 410 = .ok (.iconst 0, 1) := by decide +kernel
theorem dX6_one_411 : decode cX6_one 411 = .ok (.ireturn, 1) := by decide +kernel
theorem dX6_one_412 : decode cX6_one 412 = .ok (.aload_n 0, 1) := by decide +kernel
theorem dX6_one_413 : decode cX6_one 413 = .ok (.ldc 220, 2) := by decide +kernel
theorem dX6_one_415 : decode cX6_one 415 = .ok (.invokevirtual 186, 3) := by decide +kernel
theorem dX6_one_418 : decode cX6_one 418 = .ok (.ifCond .eq 15, 3) := by decide +kernel
theorem dX6_one_421 : decode cX6_one 421 = .ok (.aload_n 0, 1) := by decide +kernel
theorem dX6_one_422 : decode cX6_one 422 = .ok (.iconst 5, 1) := by decide +kernel
theorem dX6_one_423 : decode cX6_one 423 = .ok (.invokevirtual 190, 3) := by decide +kernel
theorem dX6_one_426 : decode cX6_one 426 = .ok (.ifCond .eq 7, 3) := by decide +kernel
theorem dX6_one_429 : decode cX6_one 429 = .ok (.iconst 1, 1) := by decide +kernel
theorem dX6_one_430 : decode cX6_one 430 = .ok (.goto 4, 3) := by decide +kernel
theorem dX6_one_433 : decode cX6_one 433 = .ok (.iconst 0, 1) := by decide +kernel
theorem dX6_one_434 : decode cX6_one 434 = .ok (.ireturn, 1) := by decide +kernel
theorem dX6_one_435 : decode cX6_one 435 = .ok (.aload_n 0, 1) := by decide +kernel
theorem dX6_one_436 : decode cX6_one 436 = .ok (.ldc 222, 2) := by decide +kernel
theorem dX6_one_438 : decode cX6_one 438 = .ok (.invokevirtual 186, 3) := by decide +kernel
theorem dX6_one_441 : decode cX6_one 441 = .ok (.ifCond .eq 16, 3) := by decide +kernel
theorem dX6_one_444 : decode cX6_one 444 = .ok (.aload_n 0, 1) := by decide +kernel
theorem dX6_one_445 : decode cX6_one 445 = .ok (.bipush 6, 2) := by decide +kernel
theorem dX6_one_447 : decode cX6_one 447 = .ok (.invokevirtual 190, 3) := by decide +kernel
theorem dX6_one_450 : decode cX6_one 450 = .ok (.ifCond .eq 7, 3) := by decide +kernel
theorem dX6_one_453 : decode cX6_one 453 = .ok (.iconst 1, 1) := by decide +kernel
theorem dX6_one_454 : decode cX6_one 454 = .ok (.goto 4, 3) := by decide +kernel
theorem dX6_one_457 : decode cX6_one 457 = .ok (.iconst 0, 1) := by decide +kernel
theorem dX6_one_458 : decode cX6_one 458 = .ok (.ireturn, 1) := by decide +kernel
theorem dX6_one_459 : decode cX6_one 459 = .ok (.aload_n 0, 1) := by decide +kernel
theorem dX6_one_460 : decode cX6_one 460 = .ok (.ldc 224, 2) := by decide +kernel
theorem dX6_one_462 : decode cX6_one 462 = .ok (.iconst 0, 1) := by decide +kernel
theorem dX6_one_463 : decode cX6_one 463 = .ok (.invokevirtual 204, 3) := by decide +kernel
theorem dX6_one_466 : decode cX6_one 466 = .ok (.ireturn, 1) := by decide +kernel
theorem dX6_one_467 : decode cX6_one 467 = .ok (.iconst 0, 1) := by decide +kernel
theorem dX6_one_468 : decode cX6_one 468 = .ok (.ireturn, 1) := by decide +kernel
theorem dX6_part_0 : decode cX6_part 0 = .ok (.aload_n 0, 1) := by decide +kernel
theorem dX6_part_1 : decode cX6_part 1 = .ok (.invokevirtual 195, 3) := by decide +kernel
theorem dX6_part_4 : decode cX6_part 4 = .ok (.ifCond .ne 5, 3) := by decide +kernel
theorem dX6_part_7 : decode cX6_part 7 = .ok (.iconst 0, 1) := by decide +kernel
theorem dX6_part_8 : decode cX6_part 8 = .ok (.ireturn, 1) := by decide +kernel
theorem dX6_part_9 : decode cX6_part 9 = .ok (.aload_n 0, 1) := by decide +kernel
theorem dX6_part_10 : decode cX6_part 10 = .ok (.bipush 43, 2) := by decide +kernel
theorem dX6_part_12 : decode cX6_part 12 = .ok (.invokevirtual 180, 3) := by decide +kernel
theorem dX6_part_15 : decode cX6_part 15 = .ok (.ifCond .eq 21, 3) := by decide +kernel
theorem dX6_part_18 : decode cX6_part 18 = .ok (.aload_n 0, 1) := by decide +kernel
theorem dX6_part_19 : decode cX6_part 19 = .ok (.invokevirtual 195, 3) := by decide +kernel
theorem dX6_part_22 : decode cX6_part 22 = .ok (.ifCond .eq 12, 3) := by decide +kernel
theorem dX6_part_25 : decode cX6_part 25 = .ok (.aload_n 0, 1) := by decide +kernel
theorem dX6_part_26 : decode cX6_part 26 = .ok (.bipush 101, 2) := by decide +kernel
theorem dX6_part_28 : decode cX6_part 28 = .ok (.invokevirtual 190, 3) := by decide +kernel
theorem dX6_part_31 : decode cX6_part 31 = .ok (.ifCond .ne (-22), 3) := by decide +kernel
theorem dX6_part_34 : decode cX6_part 34 = .ok (.iconst 0, 1) := by decide +kernel
theorem dX6_part_35 : decode cX6_part 35 = .ok (.ireturn, 1) := by decide +kernel
theorem dX6_part_36 : decode cX6_part 36 = .ok (.iconst 1, 1) := by decide +kernel
theorem dX6_part_37 : decode cX6_part 37 = .ok (.ireturn, 1) := by decide +kernel
theorem dX6_question_0 : decode cX6_question 0 = .ok (.aload_n 0, 1) := by decide +kernel
theorem dX6_question_1 : decode cX6_question 1 = .ok (.invokevirtual 226, 3) := by decide +kernel
theorem dX6_question_4 : decode cX6_question 4 = .ok (.ifCond .ne 5, 3) := by decide +kernel
theorem dX6_question_7 : decode cX6_question 7 = .ok (.iconst 0, 1) := by decide +kernel
theorem dX6_question_8 : decode cX6_question 8 = .ok (.ireturn, 1) := by decide +kernel
theorem dX6_question_9 : decode cX6_question 9 = .ok (.aload_n 0, 1) := by decide +kernel
theorem dX6_question_10 : decode cX6_question 10 = .ok (.bipush 47, 2) := by decide +kernel
theorem dX6_question_12 : decode cX6_question 12 = .ok (.invokevirtual 180, 3) := by decide +kernel
theorem dX6_question_15 : decode cX6_question 15 = .ok (.ifCond .eq 21, 3) := by decide +kernel
theorem dX6_question_18 : decode cX6_question 18 = .ok (.aload_n 0, 1) := by decide +kernel
theorem dX6_question_19 : decode cX6_question 19 = .ok (.invokevirtual 226, 3) := by decide +kernel
theorem dX6_question_22 : decode cX6_question 22 = .ok (.ifCond .eq 12, 3) := by decide +kernel
theorem dX6_question_25 : decode cX6_question 25 = .ok (.aload_n 0, 1) := by decide +kernel
theorem dX6_question_26 : decode cX6_question 26 = .ok (.bipush 102, 2) := by decide +kernel
theorem dX6_question_28 : decode cX6_question 28 = .ok (.invokevirtual 190, 3) := by decide +kernel
theorem dX6_question_31 : decode cX6_question 31 = .ok (.ifCond .ne (-22), 3) := by decide +kernel
theorem dX6_question_34 : decode cX6_question 34 = .ok (.iconst 0, 1) := by decide +kernel
theorem dX6_question_35 : decode cX6_question 35 = .ok (.ireturn, 1) := by decide +kernel
theorem dX6_question_36 : decode cX6_question 36 = .ok (.iconst 1, 1) := by decide +kernel
theorem dX6_question_37 : decode cX6_question 37 = .ok (.ireturn, 1) := by decide +kernel
theorem dX6_holds_0 : decode cX6_holds 0 = .ok (.iload_n 1, 1) := by decide +kernel
theorem dX6_holds_1 : decode cX6_holds 1 = .ok (.sipush 10000, 3) := by decide +kernel
theorem dX6_holds_4 : decode cX6_holds 4 = .ok (.if_icmp .lt 83, 3) := by decide +kernel
theorem dX6_holds_7 : decode cX6_holds 7 = .ok (.aload_n 0, 1) := by decide +kernel
theorem dX6_holds_8 : decode cX6_holds 8 = .ok (.iload_n 2, 1) := by decide +kernel
theorem dX6_holds_9 : decode cX6_holds 9 = .ok (.iload_n 1, 1) := by decide +kernel
theorem dX6_holds_10 : decode cX6_holds 10 = .ok (.sipush 1000, 3) := by decide +kernel
theorem dX6_holds_13 : decode cX6_holds 13 = .ok (.idiv, 1) := by decide +kernel
theorem dX6_holds_14 : decode cX6_holds 14 = .ok (.bipush 10, 2) := by decide +kernel
theorem dX6_holds_16 : decode cX6_holds 16 = .ok (.irem, 1) := by decide +kernel
theorem dX6_holds_17 : decode cX6_holds 17 = .ok (.invokevirtual 66, 3) := by decide +kernel
theorem dX6_holds_20 : decode cX6_holds 20 = .ok (.istore_n 3, 1) := by decide +kernel
theorem dX6_holds_21 : decode cX6_holds 21 = .ok (.iload_n 1, 1) := by decide +kernel
theorem dX6_holds_22 : decode cX6_holds 22 = .ok (.bipush 100, 2) := by decide +kernel
theorem dX6_holds_24 : decode cX6_holds 24 = .ok (.irem, 1) := by decide +kernel
theorem dX6_holds_25 : decode cX6_holds 25 = .ok (.istore 4, 2) := by decide +kernel
theorem dX6_holds_27 : decode cX6_holds 27 = .ok (.iload_n 1, 1) := by decide +kernel
theorem dX6_holds_28 : decode cX6_holds 28 = .ok (.bipush 100, 2) := by decide +kernel
theorem dX6_holds_30 : decode cX6_holds 30 = .ok (.idiv, 1) := by decide +kernel
theorem dX6_holds_31 : decode cX6_holds 31 = .ok (.bipush 10, 2) := by decide +kernel
theorem dX6_holds_33 : decode cX6_holds 33 = .ok (.irem, 1) := by decide +kernel
theorem dX6_holds_34 : decode cX6_holds 34 = .ok (.istore 5, 2) := by decide +kernel
theorem dX6_holds_36 : decode cX6_holds 36 = .ok (.iload 5, 2) := by decide +kernel
theorem dX6_holds_38 : decode cX6_holds 38 = .ok (.ifCond .ne 17, 3) := by decide +kernel
theorem dX6_holds_41 : decode cX6_holds 41 = .ok (.iload_n 3, 1) := by decide +kernel
theorem dX6_holds_42 : decode cX6_holds 42 = .ok (.iload 4, 2) := by decide +kernel
theorem dX6_holds_44 : decode cX6_holds 44 = .ok (.if_icmp .ge 7, 3) := by decide +kernel
theorem dX6_holds_47 : decode cX6_holds 47 = .ok (.iconst 1, 1) := by decide +kernel
theorem dX6_holds_48 : decode cX6_holds 48 = .ok (.goto 38, 3) := by decide +kernel
theorem dX6_holds_51 : decode cX6_holds 51 = .ok (.iconst 0, 1) := by decide +kernel
theorem dX6_holds_52 : decode cX6_holds 52 = .ok (.goto 34, 3) := by decide +kernel
theorem dX6_holds_55 : decode cX6_holds 55 = .ok (.iload 5, 2) := by decide +kernel
theorem dX6_holds_57 : decode cX6_holds 57 = .ok (.iconst 1, 1) := by decide +kernel
theorem dX6_holds_58 : decode cX6_holds 58 = .ok (.if_icmp .ne 17, 3) := by decide +kernel
theorem dX6_holds_61 : decode cX6_holds 61 = .ok (.iload_n 3, 1) := by decide +kernel
theorem dX6_holds_62 : decode cX6_holds 62 = .ok (.iload 4, 2) := by decide +kernel
theorem dX6_holds_64 : decode cX6_holds 64 = .ok (.if_icmp .ne 7, 3) := by decide +kernel
theorem dX6_holds_67 : decode cX6_holds 67 = .ok (.iconst 1, 1) := by decide +kernel
theorem dX6_holds_68 : decode cX6_holds 68 = .ok (.goto 18, 3) := by decide +kernel
theorem dX6_holds_71 : decode cX6_holds 71 = .ok (.iconst 0, 1) := by decide +kernel
theorem dX6_holds_72 : decode cX6_holds 72 = .ok (.goto 14, 3) := by decide +kernel
theorem dX6_holds_75 : decode cX6_holds 75 = .ok (.iload_n 3, 1) := by decide +kernel
theorem dX6_holds_76 : decode cX6_holds 76 = .ok (.iload 4, 2) := by decide +kernel
theorem dX6_holds_78 : decode cX6_holds 78 = .ok (.if_icmp .le 7, 3) := by decide +kernel
theorem dX6_holds_81 : decode cX6_holds 81 = .ok (.iconst 1, 1) := by decide +kernel
theorem dX6_holds_82 : decode cX6_holds 82 = .ok (.goto 4, 3) := by decide +kernel
theorem dX6_holds_85 : decode cX6_holds 85 = .ok (.iconst 0, 1) := by decide +kernel
theorem dX6_holds_86 : decode cX6_holds 86 = .ok (.ireturn, 1) := by decide +kernel
theorem dX6_holds_87 : decode cX6_holds 87 = .ok (.iload_n 1, 1) := by decide +kernel
theorem dX6_holds_88 : decode cX6_holds 88 = .ok (.tableswitch 98 0 5 #[40, 40, 40, 55, 71, 88], 40) := by decide +kernel
theorem dX6_holds_128 : decode cX6_holds 128 = .ok (.aload_n 0, 1) := by decide +kernel
theorem dX6_holds_129 : decode cX6_holds 129 = .ok (.iload_n 2, 1) := by decide +kernel
theorem dX6_holds_130 : decode cX6_holds 130 = .ok (.invokevirtual 121, 3) := by decide +kernel
theorem dX6_holds_133 : decode cX6_holds 133 = .ok (.iload_n 1, 1) := by decide +kernel
theorem dX6_holds_134 : decode cX6_holds 134 = .ok (.if_icmp .ne 7, 3) := by decide +kernel
theorem dX6_holds_137 : decode cX6_holds 137 = .ok (.iconst 1, 1) := by decide +kernel
theorem dX6_holds_138 : decode cX6_holds 138 = .ok (.goto 4, 3) := by decide +kernel
theorem dX6_holds_141 : decode cX6_holds 141 = .ok (.iconst 0, 1) := by decide +kernel
theorem dX6_holds_142 : decode cX6_holds 142 = .ok (.ireturn, 1) := by decide +kernel
theorem dX6_holds_143 : decode cX6_holds 143 = .ok (.aload_n 0, 1) := by decide +kernel
theorem dX6_holds_144 : decode cX6_holds 144 = .ok (.iload_n 2, 1) := by decide +kernel
theorem dX6_holds_145 : decode cX6_holds 145 = .ok (.iconst 2, 1) := by decide +kernel
theorem dX6_holds_146 : decode cX6_holds 146 = .ok (.invokevirtual 66, 3) := by decide +kernel
theorem dX6_holds_149 : decode cX6_holds 149 = .ok (.iconst (-1), 1) := by decide +kernel
theorem dX6_holds_150 : decode cX6_holds 150 = .ok (.if_icmp .ne 7, 3) := by decide +kernel
theorem dX6_holds_153 : decode cX6_holds 153 = .ok (.iconst 1, 1) := by decide +kernel
theorem dX6_holds_154 : decode cX6_holds 154 = .ok (.goto 4, 3) := by decide +kernel
theorem dX6_holds_157 : decode cX6_holds 157 = .ok (.iconst 0, 1) := by decide +kernel
theorem dX6_holds_158 : decode cX6_holds 158 = .ok (.ireturn, 1) := by decide +kernel
theorem dX6_holds_159 : decode cX6_holds 159 = .ok (.aload_n 0, 1) := by decide +kernel
theorem dX6_holds_160 : decode cX6_holds 160 = .ok (.iload_n 2, 1) := by decide +kernel
theorem dX6_holds_161 : decode cX6_holds 161 = .ok (.iconst 2, 1) := by decide +kernel
theorem dX6_holds_162 : decode cX6_holds 162 = .ok (.invokevirtual 66, 3) := by decide +kernel
theorem dX6_holds_165 : decode cX6_holds 165 = .ok (.bipush 10, 2) := by decide +kernel
theorem dX6_holds_167 : decode cX6_holds 167 = .ok (.if_icmp .ne 7, 3) := by decide +kernel
theorem dX6_holds_170 : decode cX6_holds 170 = .ok (.iconst 1, 1) := by decide +kernel
theorem dX6_holds_171 : decode cX6_holds 171 = .ok (.goto 4, 3) := by decide +kernel
theorem dX6_holds_174 : decode cX6_holds 174 = .ok (.iconst 0, 1) := by decide +kernel
theorem dX6_holds_175 : decode cX6_holds 175 = .ok (.ireturn, 1) := by decide +kernel
theorem dX6_holds_176 : decode cX6_holds 176 = .ok (.aload_n 0, 1) := by decide +kernel
theorem dX6_holds_177 : decode cX6_holds 177 = .ok (.iload_n 2, 1) := by decide +kernel
theorem dX6_holds_178 : decode cX6_holds 178 = .ok (.iconst 2, 1) := by decide +kernel
theorem dX6_holds_179 : decode cX6_holds 179 = .ok (.invokevirtual 66, 3) := by decide +kernel
theorem dX6_holds_182 : decode cX6_holds 182 = .ok (.invokestatic 85, 3) := by decide +kernel
theorem dX6_holds_185 : decode cX6_holds 185 = .ok (.ireturn, 1) := by decide +kernel
theorem dX6_holds_186 : decode cX6_holds 186 = .ok (.aload_n 0, 1) := by decide +kernel
theorem dX6_holds_187 : decode cX6_holds 187 = .ok (.iload_n 2, 1) := by decide +kernel
theorem dX6_holds_188 : decode cX6_holds 188 = .ok (.iconst 3, 1) := by decide +kernel
theorem dX6_holds_189 : decode cX6_holds 189 = .ok (.invokevirtual 66, 3) := by decide +kernel
theorem dX6_holds_192 : decode cX6_holds 192 = .ok (.iconst 1, 1) := by decide +kernel
theorem dX6_holds_193 : decode cX6_holds 193 = .ok (.if_icmp .ne 7, 3) := by decide +kernel
theorem dX6_holds_196 : decode cX6_holds 196 = .ok (.iconst 1, 1) := by decide +kernel
theorem dX6_holds_197 : decode cX6_holds 197 = .ok (.goto 4, 3) := by decide +kernel
theorem dX6_holds_200 : decode cX6_holds 200 = .ok (.iconst 0, 1) := by decide +kernel
theorem dX6_holds_201 : decode cX6_holds 201 = .ok (.ireturn, 1) := by decide +kernel
theorem dX6_fulfils_0 : decode cX6_fulfils 0 = .ok (.iconst 0, 1) := by decide +kernel
theorem dX6_fulfils_1 : decode cX6_fulfils 1 = .ok (.istore_n 2, 1) := by decide +kernel
theorem dX6_fulfils_2 : decode cX6_fulfils 2 = .ok (.iconst 0, 1) := by decide +kernel
theorem dX6_fulfils_3 : decode cX6_fulfils 3 = .ok (.istore_n 3, 1) := by decide +kernel
theorem dX6_fulfils_4 : decode cX6_fulfils 4 = .ok (.iload_n 3, 1) := by decide +kernel
theorem dX6_fulfils_5 : decode cX6_fulfils 5 = .ok (.aload_n 0, 1) := by decide +kernel
theorem dX6_fulfils_6 : decode cX6_fulfils 6 = .ok (.getfield 183, 3) := by decide +kernel
theorem dX6_fulfils_9 : decode cX6_fulfils 9 = .ok (.if_icmp .ge 167, 3) := by decide +kernel
theorem dX6_fulfils_12 : decode cX6_fulfils 12 = .ok (.aload_n 0, 1) := by decide +kernel
theorem dX6_fulfils_13 : decode cX6_fulfils 13 = .ok (.getfield 32, 3) := by decide +kernel
theorem dX6_fulfils_16 : decode cX6_fulfils 16 = .ok (.iload_n 3, 1) := by decide +kernel
theorem dX6_fulfils_17 : decode cX6_fulfils 17 = .ok (.iaload, 1) := by decide +kernel
theorem dX6_fulfils_18 : decode cX6_fulfils 18 = .ok (.bipush 100, 2) := by decide +kernel
theorem dX6_fulfils_20 : decode cX6_fulfils 20 = .ok (.if_icmp .ne 30, 3) := by decide +kernel
theorem dX6_fulfils_23 : decode cX6_fulfils 23 = .ok (.aload_n 0, 1) := by decide +kernel
theorem dX6_fulfils_24 : decode cX6_fulfils 24 = .ok (.getfield 35, 3) := by decide +kernel
theorem dX6_fulfils_27 : decode cX6_fulfils 27 = .ok (.iload_n 2, 1) := by decide +kernel
theorem dX6_fulfils_28 : decode cX6_fulfils 28 = .ok (.iconst 1, 1) := by decide +kernel
theorem dX6_fulfils_29 : decode cX6_fulfils 29 = .ok (.isub, 1) := by decide +kernel
theorem dX6_fulfils_30 : decode cX6_fulfils 30 = .ok (.aload_n 0, 1) := by decide +kernel
theorem dX6_fulfils_31 : decode cX6_fulfils 31 = .ok (.getfield 35, 3) := by decide +kernel
theorem dX6_fulfils_34 : decode cX6_fulfils 34 = .ok (.iload_n 2, 1) := by decide +kernel
theorem dX6_fulfils_35 : decode cX6_fulfils 35 = .ok (.iconst 1, 1) := by decide +kernel
theorem dX6_fulfils_36 : decode cX6_fulfils 36 = .ok (.isub, 1) := by decide +kernel
theorem dX6_fulfils_37 : decode cX6_fulfils 37 = .ok (.baload, 1) := by decide +kernel
theorem dX6_fulfils_38 : decode cX6_fulfils 38 = .ok (.ifCond .ne 7, 3) := by decide +kernel
theorem dX6_fulfils_41 : decode cX6_fulfils 41 = .ok (.iconst 1, 1) := by decide +kernel
theorem dX6_fulfils_42 : decode cX6_fulfils 42 = .ok (.goto 4, 3) := by decide +kernel
theorem dX6_fulfils_45 : decode cX6_fulfils 45 = .ok (.iconst 0, 1) := by decide +kernel
theorem dX6_fulfils_46 : decode cX6_fulfils 46 = .ok (.bastore, 1) := by decide +kernel
theorem dX6_fulfils_47 : decode cX6_fulfils 47 = .ok (.goto 123, 3) := by decide +kernel
theorem dX6_fulfils_50 : decode cX6_fulfils 50 = .ok (.aload_n 0, 1) := by decide +kernel
theorem dX6_fulfils_51 : decode cX6_fulfils 51 = .ok (.getfield 32, 3) := by decide +kernel
theorem dX6_fulfils_54 : decode cX6_fulfils 54 = .ok (.iload_n 3, 1) := by decide +kernel
theorem dX6_fulfils_55 : decode cX6_fulfils 55 = .ok (.iaload, 1) := by decide +kernel
theorem dX6_fulfils_56 : decode cX6_fulfils 56 = .ok (.bipush 101, 2) := by decide +kernel
theorem dX6_fulfils_58 : decode cX6_fulfils 58 = .ok (.if_icmp .eq 14, 3) := by decide +kernel
theorem dX6_fulfils_61 : decode cX6_fulfils 61 = .ok (.aload_n 0, 1) := by decide +kernel
theorem dX6_fulfils_62 : decode cX6_fulfils 62 = .ok (.getfield 32, 3) := by decide +kernel
theorem dX6_fulfils_65 : decode cX6_fulfils 65 = .ok (.iload_n 3, 1) := by decide +kernel
theorem dX6_fulfils_66 : decode cX6_fulfils 66 = .ok (.iaload, 1) := by decide +kernel
theorem dX6_fulfils_67 : decode cX6_fulfils 67 = .ok (.bipush 102, 2) := by decide +kernel
theorem dX6_fulfils_69 : decode cX6_fulfils 69 = .ok (.if_icmp .ne 81, 3) := by decide +kernel
theorem dX6_fulfils_72 : decode cX6_fulfils 72 = .ok (.iinc 2 (-1), 3) := by decide +kernel
theorem dX6_fulfils_75 : decode cX6_fulfils 75 = .ok (.aload_n 0, 1) := by decide +kernel
theorem dX6_fulfils_76 : decode cX6_fulfils 76 = .ok (.getfield 35, 3) := by decide +kernel
theorem dX6_fulfils_79 : decode cX6_fulfils 79 = .ok (.iload_n 2, 1) := by decide +kernel
theorem dX6_fulfils_80 : decode cX6_fulfils 80 = .ok (.iconst 1, 1) := by decide +kernel
theorem dX6_fulfils_81 : decode cX6_fulfils 81 = .ok (.isub, 1) := by decide +kernel
theorem dX6_fulfils_82 : decode cX6_fulfils 82 = .ok (.aload_n 0, 1) := by decide +kernel
theorem dX6_fulfils_83 : decode cX6_fulfils 83 = .ok (.getfield 32, 3) := by decide +kernel
theorem dX6_fulfils_86 : decode cX6_fulfils 86 = .ok (.iload_n 3, 1) := by decide +kernel
theorem dX6_fulfils_87 : decode cX6_fulfils 87 = .ok (.iaload, 1) := by decide +kernel
theorem dX6_fulfils_88 : decode cX6_fulfils 88 = .ok (.bipush 101, 2) := by decide +kernel
theorem dX6_fulfils_90 : decode cX6_fulfils 90 = .ok (.if_icmp .ne 31, 3) := by decide +kernel
theorem dX6_fulfils_93 : decode cX6_fulfils 93 = .ok (.aload_n 0, 1) := by decide +kernel
theorem dX6_fulfils_94 : decode cX6_fulfils 94 = .ok (.getfield 35, 3) := by decide +kernel
theorem dX6_fulfils_97 : decode cX6_fulfils 97 = .ok (.iload_n 2, 1) := by decide +kernel
theorem dX6_fulfils_98 : decode cX6_fulfils 98 = .ok (.iconst 1, 1) := by decide +kernel
theorem dX6_fulfils_99 : decode cX6_fulfils 99 = .ok (.isub, 1) := by decide +kernel
theorem dX6_fulfils_100 : decode cX6_fulfils 100 = .ok (.baload, 1) := by decide +kernel
theorem dX6_fulfils_101 : decode cX6_fulfils 101 = .ok (.ifCond .eq 16, 3) := by decide +kernel
theorem dX6_fulfils_104 : decode cX6_fulfils 104 = .ok (.aload_n 0, 1) := by decide +kernel
theorem dX6_fulfils_105 : decode cX6_fulfils 105 = .ok (.getfield 35, 3) := by decide +kernel
theorem dX6_fulfils_108 : decode cX6_fulfils 108 = .ok (.iload_n 2, 1) := by decide +kernel
theorem dX6_fulfils_109 : decode cX6_fulfils 109 = .ok (.baload, 1) := by decide +kernel
theorem dX6_fulfils_110 : decode cX6_fulfils 110 = .ok (.ifCond .eq 7, 3) := by decide +kernel
theorem dX6_fulfils_113 : decode cX6_fulfils 113 = .ok (.iconst 1, 1) := by decide +kernel
theorem dX6_fulfils_114 : decode cX6_fulfils 114 = .ok (.goto 32, 3) := by decide +kernel
theorem dX6_fulfils_117 : decode cX6_fulfils 117 = .ok (.iconst 0, 1) := by decide +kernel
theorem dX6_fulfils_118 : decode cX6_fulfils 118 = .ok (.goto 28, 3) := by decide +kernel
theorem dX6_fulfils_121 : decode cX6_fulfils 121 = .ok (.aload_n 0, 1) := by decide +kernel
theorem dX6_fulfils_122 : decode cX6_fulfils 122 = .ok (.getfield 35, 3) := by decide +kernel
theorem dX6_fulfils_125 : decode cX6_fulfils 125 = .ok (.iload_n 2, 1) := by decide +kernel
theorem dX6_fulfils_126 : decode cX6_fulfils 126 = .ok (.iconst 1, 1) := by decide +kernel
theorem dX6_fulfils_127 : decode cX6_fulfils 127 = .ok (.isub, 1) := by decide +kernel
theorem dX6_fulfils_128 : decode cX6_fulfils 128 = .ok (.baload, 1) := by decide +kernel
theorem dX6_fulfils_129 : decode cX6_fulfils 129 = .ok (.ifCond .ne 12, 3) := by decide +kernel
theorem dX6_fulfils_132 : decode cX6_fulfils 132 = .ok (.aload_n 0, 1) := by decide +kernel
theorem dX6_fulfils_133 : decode cX6_fulfils 133 = .ok (.getfield 35, 3) := by decide +kernel
theorem dX6_fulfils_136 : decode cX6_fulfils 136 = .ok (.iload_n 2, 1) := by decide +kernel
theorem dX6_fulfils_137 : decode cX6_fulfils 137 = .ok (.baload, 1) := by decide +kernel
theorem dX6_fulfils_138 : decode cX6_fulfils 138 = .ok (.ifCond .eq 7, 3) := by decide +kernel
theorem dX6_fulfils_141 : decode cX6_fulfils 141 = .ok (.iconst 1, 1) := by decide +kernel
theorem dX6_fulfils_142 : decode cX6_fulfils 142 = .ok (.goto 4, 3) := by decide +kernel
theorem dX6_fulfils_145 : decode cX6_fulfils 145 = .ok (.iconst 0, 1) := by decide +kernel
theorem dX6_fulfils_146 : decode cX6_fulfils 146 = .ok (.bastore, 1) := by decide +kernel
theorem dX6_fulfils_147 : decode cX6_fulfils 147 = .ok (.goto 23, 3) := by decide +kernel
theorem dX6_fulfils_150 : decode cX6_fulfils 150 = .ok (.aload_n 0, 1) := by decide +kernel
theorem dX6_fulfils_151 : decode cX6_fulfils 151 = .ok (.getfield 35, 3) := by decide +kernel
theorem dX6_fulfils_154 : decode cX6_fulfils 154 = .ok (.iload_n 2, 1) := by decide +kernel
theorem dX6_fulfils_155 : decode cX6_fulfils 155 = .ok (.iinc 2 1, 3) := by decide +kernel
theorem dX6_fulfils_158 : decode cX6_fulfils 158 = .ok (.aload_n 0, 1) := by decide +kernel
theorem dX6_fulfils_159 : decode cX6_fulfils 159 = .ok (.aload_n 0, 1) := by decide +kernel
theorem dX6_fulfils_160 : decode cX6_fulfils 160 = .ok (.getfield 32, 3) := by decide +kernel
theorem dX6_fulfils_163 : decode cX6_fulfils 163 = .ok (.iload_n 3, 1) := by decide +kernel
theorem dX6_fulfils_164 : decode cX6_fulfils 164 = .ok (.iaload, 1) := by decide +kernel
theorem dX6_fulfils_165 : decode cX6_fulfils 165 = .ok (.iload_n 1, 1) := by decide +kernel
theorem dX6_fulfils_166 : decode cX6_fulfils 166 = .ok (.invokevirtual 229, 3) := by decide +kernel
theorem dX6_fulfils_169 : decode cX6_fulfils 169 = .ok (.bastore, 1) := by decide +kernel
theorem dX6_fulfils_170 : decode cX6_fulfils 170 = .ok (.iinc 3 1, 3) := by decide +kernel
theorem dX6_fulfils_173 : decode cX6_fulfils 173 = .ok (.goto (-169), 3) := by decide +kernel
theorem dX6_fulfils_176 : decode cX6_fulfils 176 = .ok (.aload_n 0, 1) := by decide +kernel
theorem dX6_fulfils_177 : decode cX6_fulfils 177 = .ok (.getfield 35, 3) := by decide +kernel
theorem dX6_fulfils_180 : decode cX6_fulfils 180 = .ok (.iconst 0, 1) := by decide +kernel
theorem dX6_fulfils_181 : decode cX6_fulfils 181 = .ok (.baload, 1) := by decide +kernel
theorem dX6_fulfils_182 : decode cX6_fulfils 182 = .ok (.ireturn, 1) := by decide +kernel
theorem dX6_ask_0 : decode cX6_ask 0 = .ok (.aload_n 0, 1) := by decide +kernel
theorem dX6_ask_1 : decode cX6_ask 1 = .ok (.iconst 0, 1) := by decide +kernel
theorem dX6_ask_2 : decode cX6_ask 2 = .ok (.putfield 46, 3) := by decide +kernel
theorem dX6_ask_5 : decode cX6_ask 5 = .ok (.aload_n 0, 1) := by decide +kernel
theorem dX6_ask_6 : decode cX6_ask 6 = .ok (.iconst 0, 1) := by decide +kernel
theorem dX6_ask_7 : decode cX6_ask 7 = .ok (.putfield 165, 3) := by decide +kernel
theorem dX6_ask_10 : decode cX6_ask 10 = .ok (.aload_n 0, 1) := by decide +kernel
theorem dX6_ask_11 : decode cX6_ask 11 = .ok (.iconst 0, 1) := by decide +kernel
theorem dX6_ask_12 : decode cX6_ask 12 = .ok (.putfield 192, 3) := by decide +kernel
theorem dX6_ask_15 : decode cX6_ask 15 = .ok (.aload_n 0, 1) := by decide +kernel
theorem dX6_ask_16 : decode cX6_ask 16 = .ok (.iconst 0, 1) := by decide +kernel
theorem dX6_ask_17 : decode cX6_ask 17 = .ok (.putfield 183, 3) := by decide +kernel
theorem dX6_ask_20 : decode cX6_ask 20 = .ok (.aload_n 0, 1) := by decide +kernel
theorem dX6_ask_21 : decode cX6_ask 21 = .ok (.invokevirtual 199, 3) := by decide +kernel
theorem dX6_ask_24 : decode cX6_ask 24 = .ok (.ifCond .eq 18, 3) := by decide +kernel
theorem dX6_ask_27 : decode cX6_ask 27 = .ok (.aload_n 0, 1) := by decide +kernel
theorem dX6_ask_28 : decode cX6_ask 28 = .ok (.getfield 165, 3) := by decide +kernel
theorem dX6_ask_31 : decode cX6_ask 31 = .ok (.aload_n 0, 1) := by decide +kernel
theorem dX6_ask_32 : decode cX6_ask 32 = .ok (.getfield 162, 3) := by decide +kernel
theorem dX6_ask_35 : decode cX6_ask 35 = .ok (.if_icmp .ne 7, 3) := by decide +kernel
theorem dX6_ask_38 : decode cX6_ask 38 = .ok (.iconst 1, 1) := by decide +kernel
theorem dX6_ask_39 : decode cX6_ask 39 = .ok (.goto 4, 3) := by decide +kernel
theorem dX6_ask_42 : decode cX6_ask 42 = .ok (.iconst 0, 1) := by decide +kernel
theorem dX6_ask_43 : decode cX6_ask 43 = .ok (.istore_n 1, 1) := by decide +kernel
theorem dX6_ask_44 : decode cX6_ask 44 = .ok (.aload_n 0, 1) := by decide +kernel
theorem dX6_ask_45 : decode cX6_ask 45 = .ok (.iconst 0, 1) := by decide +kernel
theorem dX6_ask_46 : decode cX6_ask 46 = .ok (.putfield 162, 3) := by decide +kernel
theorem dX6_ask_49 : decode cX6_ask 49 = .ok (.iload_n 1, 1) := by decide +kernel
theorem dX6_ask_50 : decode cX6_ask 50 = .ok (.ifCond .ne 17, 3) := by decide +kernel
theorem dX6_ask_53 : decode cX6_ask 53 = .ok (.aload_n 0, 1) := by decide +kernel
theorem dX6_ask_54 : decode cX6_ask 54 = .ok (.aload_n 0, 1) := by decide +kernel
theorem dX6_ask_55 : decode cX6_ask 55 = .ok (.getfield 165, 3) := by decide +kernel
theorem dX6_ask_58 : decode cX6_ask 58 = .ok (.putfield 42, 3) := by decide +kernel
theorem dX6_ask_61 : decode cX6_ask 61 = .ok (.aload_n 0, 1) := by decide +kernel
theorem dX6_ask_62 : decode cX6_ask 62 = .ok (.iconst 1, 1) := by decide +kernel
theorem dX6_ask_63 : decode cX6_ask 63 = .ok (.invokevirtual 58, 3) := by decide +kernel
theorem dX6_ask_66 : decode cX6_ask 66 = .ok (.ireturn, 1) := by decide +kernel
theorem dX6_ask_67 : decode cX6_ask 67 = .ok (.aload_n 0, 1) := by decide +kernel
theorem dX6_ask_68 : decode cX6_ask 68 = .ok (.iconst 0, 1) := by decide +kernel
theorem dX6_ask_69 : decode cX6_ask 69 = .ok (.putfield 233, 3) := by decide +kernel
theorem dX6_ask_72 : decode cX6_ask 72 = .ok (.iconst 0, 1) := by decide +kernel
theorem dX6_ask_73 : decode cX6_ask 73 = .ok (.istore_n 2, 1) := by decide +kernel
theorem dX6_ask_74 : decode cX6_ask 74 = .ok (.iload_n 2, 1) := by decide +kernel
theorem dX6_ask_75 : decode cX6_ask 75 = .ok (.aload_n 0, 1) := by decide +kernel
theorem dX6_ask_76 : decode cX6_ask 76 = .ok (.getfield 9, 3) := by decide +kernel
theorem dX6_ask_79 : decode cX6_ask 79 = .ok (.iconst 3, 1) := by decide +kernel
theorem dX6_ask_80 : decode cX6_ask 80 = .ok (.iaload, 1) := by decide +kernel
theorem dX6_ask_81 : decode cX6_ask 81 = .ok (.if_icmp .ge 34, 3) := by decide +kernel
theorem dX6_ask_84 : decode cX6_ask 84 = .ok (.aload_n 0, 1) := by decide +kernel
theorem dX6_ask_85 : decode cX6_ask 85 = .ok (.iload_n 2, 1) := by decide +kernel
theorem dX6_ask_86 : decode cX6_ask 86 = .ok (.invokevirtual 236, 3) := by decide +kernel
theorem dX6_ask_89 : decode cX6_ask 89 = .ok (.ifCond .eq 20, 3) := by decide +kernel
theorem dX6_ask_92 : decode cX6_ask 92 = .ok (.aload_n 0, 1) := by decide +kernel
theorem dX6_ask_93 : decode cX6_ask 93 = .ok (.getfield 39, 3) := by decide +kernel
theorem dX6_ask_96 : decode cX6_ask 96 = .ok (.aload_n 0, 1) := by decide +kernel
theorem dX6_ask_97 : decode cX6_ask 97 = .ok (.dup, 1) := by decide +kernel
theorem dX6_ask_98 : decode cX6_ask 98 = .ok (.getfield 233, 3) := by decide +kernel
theorem dX6_ask_101 : decode cX6_ask 101 = .ok (.dup_x1, 1) := by decide +kernel
theorem dX6_ask_102 : decode cX6_ask 102 = .ok (.iconst 1, 1) := by decide +kernel
theorem dX6_ask_103 : decode cX6_ask 103 = .ok (.iadd, 1) := by decide +kernel
theorem dX6_ask_104 : decode cX6_ask 104 = .ok (.putfield 233, 3) := by decide +kernel
theorem dX6_ask_107 : decode cX6_ask 107 = .ok (.iload_n 2, 1) := by decide +kernel
theorem dX6_ask_108 : decode cX6_ask 108 = .ok (.iastore, 1) := by decide +kernel
theorem dX6_ask_109 : decode cX6_ask 109 = .ok (.iinc 2 1, 3) := by decide +kernel
theorem dX6_ask_112 : decode cX6_ask 112 = .ok (.goto (-38), 3) := by decide +kernel
theorem dX6_ask_115 : decode cX6_ask 115 = .ok (.aload_n 0, 1) := by decide +kernel
theorem dX6_ask_116 : decode cX6_ask 116 = .ok (.getfield 233, 3) := by decide +kernel
theorem dX6_ask_119 : decode cX6_ask 119 = .ok (.ireturn, 1) := by decide +kernel
theorem dX6_answer_0 : decode cX6_answer 0 = .ok (.aload_n 0, 1) := by decide +kernel
theorem dX6_answer_1 : decode cX6_answer 1 = .ok (.iconst 0, 1) := by decide +kernel
theorem dX6_answer_2 : decode cX6_answer 2 = .ok (.putfield 46, 3) := by decide +kernel
theorem dX6_answer_5 : decode cX6_answer 5 = .ok (.iload_n 1, 1) := by decide +kernel
theorem dX6_answer_6 : decode cX6_answer 6 = .ok (.iconst 0, 1) := by decide +kernel
theorem dX6_answer_7 : decode cX6_answer 7 = .ok (.aload_n 0, 1) := by decide +kernel
theorem dX6_answer_8 : decode cX6_answer 8 = .ok (.getfield 233, 3) := by decide +kernel
theorem dX6_answer_11 : decode cX6_answer 11 = .ok (.iconst 1, 1) := by decide +kernel
theorem dX6_answer_12 : decode cX6_answer 12 = .ok (.isub, 1) := by decide +kernel
theorem dX6_answer_13 : decode cX6_answer 13 = .ok (.invokestatic 62, 3) := by decide +kernel
theorem dX6_answer_16 : decode cX6_answer 16 = .ok (.ifCond .eq 12, 3) := by decide +kernel
theorem dX6_answer_19 : decode cX6_answer 19 = .ok (.aload_n 0, 1) := by decide +kernel
theorem dX6_answer_20 : decode cX6_answer 20 = .ok (.getfield 39, 3) := by decide +kernel
theorem dX6_answer_23 : decode cX6_answer 23 = .ok (.iload_n 1, 1) := by decide +kernel
theorem dX6_answer_24 : decode cX6_answer 24 = .ok (.iaload, 1) := by decide +kernel
theorem dX6_answer_25 : decode cX6_answer 25 = .ok (.goto 8, 3) := by decide +kernel
theorem dX6_answer_28 : decode cX6_answer 28 = .ok (.aload_n 0, 1) := by decide +kernel
theorem dX6_answer_29 : decode cX6_answer 29 = .ok (.iconst 1, 1) := by decide +kernel
theorem dX6_answer_30 : decode cX6_answer 30 = .ok (.invokevirtual 58, 3) := by decide +kernel
theorem dX6_answer_33 : decode cX6_answer 33 = .ok (.ireturn, 1) := by decide +kernel
theorem dX6_errorPosition_0 : decode cX6_errorPosition 0 = .ok (.aload_n 0, 1) := by decide +kernel
theorem dX6_errorPosition_1 : decode cX6_errorPosition 1 = .ok (.iconst 0, 1) := by decide +kernel
theorem dX6_errorPosition_2 : decode cX6_errorPosition 2 = .ok (.putfield 46, 3) := by decide +kernel
theorem dX6_errorPosition_5 : decode cX6_errorPosition 5 = .ok (.aload_n 0, 1) := by decide +kernel
theorem dX6_errorPosition_6 : decode cX6_errorPosition 6 = .ok (.getfield 42, 3) := by decide +kernel
theorem dX6_errorPosition_9 : decode cX6_errorPosition 9 = .ok (.ifCond .ge 11, 3) := by decide +kernel
theorem dX6_errorPosition_12 : decode cX6_errorPosition 12 = .ok (.aload_n 0, 1) := by decide +kernel
theorem dX6_errorPosition_13 : decode cX6_errorPosition 13 = .ok (.iconst 1, 1) := by decide +kernel
theorem dX6_errorPosition_14 : decode cX6_errorPosition 14 = .ok (.invokevirtual 58, 3) := by decide +kernel
theorem dX6_errorPosition_17 : decode cX6_errorPosition 17 = .ok (.goto 7, 3) := by decide +kernel
theorem dX6_errorPosition_20 : decode cX6_errorPosition 20 = .ok (.aload_n 0, 1) := by decide +kernel
theorem dX6_errorPosition_21 : decode cX6_errorPosition 21 = .ok (.getfield 42, 3) := by decide +kernel
theorem dX6_errorPosition_24 : decode cX6_errorPosition 24 = .ok (.ireturn, 1) := by decide +kernel
theorem dX6_refusal_0 : decode cX6_refusal 0 = .ok (.aload_n 0, 1) := by decide +kernel
theorem dX6_refusal_1 : decode cX6_refusal 1 = .ok (.iconst 0, 1) := by decide +kernel
theorem dX6_refusal_2 : decode cX6_refusal 2 = .ok (.putfield 46, 3) := by decide +kernel
theorem dX6_refusal_5 : decode cX6_refusal 5 = .ok (.aload_n 0, 1) := by decide +kernel
theorem dX6_refusal_6 : decode cX6_refusal 6 = .ok (.getfield 52, 3) := by decide +kernel
theorem dX6_refusal_9 : decode cX6_refusal 9 = .ok (.ifCond .ne 9, 3) := by decide +kernel
theorem dX6_refusal_12 : decode cX6_refusal 12 = .ok (.aload_n 0, 1) := by decide +kernel
theorem dX6_refusal_13 : decode cX6_refusal 13 = .ok (.iconst 1, 1) := by decide +kernel
theorem dX6_refusal_14 : decode cX6_refusal 14 = .ok (.invokevirtual 58, 3) := by decide +kernel
theorem dX6_refusal_17 : decode cX6_refusal 17 = .ok (.ireturn, 1) := by decide +kernel
theorem dX6_refusal_18 : decode cX6_refusal 18 = .ok (.iload_n 1, 1) := by decide +kernel
theorem dX6_refusal_19 : decode cX6_refusal 19 = .ok (.ifCond .eq 10, 3) := by decide +kernel
theorem dX6_refusal_22 : decode cX6_refusal 22 = .ok (.aload_n 0, 1) := by decide +kernel
theorem dX6_refusal_23 : decode cX6_refusal 23 = .ok (.getfield 55, 3) := by decide +kernel
theorem dX6_refusal_26 : decode cX6_refusal 26 = .ok (.goto 7, 3) := by decide +kernel
theorem dX6_refusal_29 : decode cX6_refusal 29 = .ok (.aload_n 0, 1) := by decide +kernel
theorem dX6_refusal_30 : decode cX6_refusal 30 = .ok (.getfield 52, 3) := by decide +kernel
theorem dX6_refusal_33 : decode cX6_refusal 33 = .ok (.ireturn, 1) := by decide +kernel
theorem dX6_describe_0 : decode cX6_describe 0 = .ok (.aload_n 0, 1) := by decide +kernel
theorem dX6_describe_1 : decode cX6_describe 1 = .ok (.iconst 0, 1) := by decide +kernel
theorem dX6_describe_2 : decode cX6_describe 2 = .ok (.putfield 46, 3) := by decide +kernel
theorem dX6_describe_5 : decode cX6_describe 5 = .ok (.iconst 0, 1) := by decide +kernel
theorem dX6_describe_6 : decode cX6_describe 6 = .ok (.istore_n 1, 1) := by decide +kernel
theorem dX6_describe_7 : decode cX6_describe 7 = .ok (.iload_n 1, 1) := by decide +kernel
theorem dX6_describe_8 : decode cX6_describe 8 = .ok (.bipush 10, 2) := by decide +kernel
theorem dX6_describe_10 : decode cX6_describe 10 = .ok (.if_icmp .ge 43, 3) := by decide +kernel
theorem dX6_describe_13 : decode cX6_describe 13 = .ok (.aload_n 0, 1) := by decide +kernel
theorem dX6_describe_14 : decode cX6_describe 14 = .ok (.iload_n 1, 1) := by decide +kernel
theorem dX6_describe_15 : decode cX6_describe 15 = .ok (.invokevirtual 89, 3) := by decide +kernel
theorem dX6_describe_18 : decode cX6_describe 18 = .ok (.istore_n 2, 1) := by decide +kernel
theorem dX6_describe_19 : decode cX6_describe 19 = .ok (.aload_n 0, 1) := by decide +kernel
theorem dX6_describe_20 : decode cX6_describe 20 = .ok (.getfield 25, 3) := by decide +kernel
theorem dX6_describe_23 : decode cX6_describe 23 = .ok (.iload_n 1, 1) := by decide +kernel
theorem dX6_describe_24 : decode cX6_describe 24 = .ok (.iload_n 2, 1) := by decide +kernel
theorem dX6_describe_25 : decode cX6_describe 25 = .ok (.ifCond .lt 11, 3) := by decide +kernel
theorem dX6_describe_28 : decode cX6_describe 28 = .ok (.bipush 48, 2) := by decide +kernel
theorem dX6_describe_30 : decode cX6_describe 30 = .ok (.iload_n 2, 1) := by decide +kernel
theorem dX6_describe_31 : decode cX6_describe 31 = .ok (.iadd, 1) := by decide +kernel
theorem dX6_describe_32 : decode cX6_describe 32 = .ok (.i2c, 1) := by decide +kernel
theorem dX6_describe_33 : decode cX6_describe 33 = .ok (.goto 13, 3) := by decide +kernel
theorem dX6_describe_36 : decode cX6_describe 36 = .ok (.ldc 239, 2) := by decide +kernel
theorem dX6_describe_38 : decode cX6_describe 38 = .ok (.aload_n 0, 1) := by decide +kernel
theorem dX6_describe_39 : decode cX6_describe 39 = .ok (.iload_n 1, 1) := by decide +kernel
theorem dX6_describe_40 : decode cX6_describe 40 = .ok (.invokevirtual 99, 3) := by decide +kernel
theorem dX6_describe_43 : decode cX6_describe 43 = .ok (.invokevirtual 176, 3) := by decide +kernel
theorem dX6_describe_46 : decode cX6_describe 46 = .ok (.castore, 1) := by decide +kernel
theorem dX6_describe_47 : decode cX6_describe 47 = .ok (.iinc 1 1, 3) := by decide +kernel
theorem dX6_describe_50 : decode cX6_describe 50 = .ok (.goto (-43), 3) := by decide +kernel
theorem dX6_describe_53 : decode cX6_describe 53 = .ok (.aload_n 0, 1) := by decide +kernel
theorem dX6_describe_54 : decode cX6_describe 54 = .ok (.getfield 25, 3) := by decide +kernel
theorem dX6_describe_57 : decode cX6_describe 57 = .ok (.bipush 10, 2) := by decide +kernel
theorem dX6_describe_59 : decode cX6_describe 59 = .ok (.bipush 32, 2) := by decide +kernel
theorem dX6_describe_61 : decode cX6_describe 61 = .ok (.castore, 1) := by decide +kernel
theorem dX6_describe_62 : decode cX6_describe 62 = .ok (.aload_n 0, 1) := by decide +kernel
theorem dX6_describe_63 : decode cX6_describe 63 = .ok (.bipush 11, 2) := by decide +kernel
theorem dX6_describe_65 : decode cX6_describe 65 = .ok (.putfield 241, 3) := by decide +kernel
theorem dX6_describe_68 : decode cX6_describe 68 = .ok (.aload_n 0, 1) := by decide +kernel
theorem dX6_describe_69 : decode cX6_describe 69 = .ok (.getfield 9, 3) := by decide +kernel
theorem dX6_describe_72 : decode cX6_describe 72 = .ok (.iconst 1, 1) := by decide +kernel
theorem dX6_describe_73 : decode cX6_describe 73 = .ok (.iaload, 1) := by decide +kernel
theorem dX6_describe_74 : decode cX6_describe 74 = .ok (.bipush 9, 2) := by decide +kernel
theorem dX6_describe_76 : decode cX6_describe 76 = .ok (.if_icmp .le 32, 3) := by decide +kernel
theorem dX6_describe_79 : decode cX6_describe 79 = .ok (.aload_n 0, 1) := by decide +kernel
theorem dX6_describe_80 : decode cX6_describe 80 = .ok (.getfield 25, 3) := by decide +kernel
theorem dX6_describe_83 : decode cX6_describe 83 = .ok (.aload_n 0, 1) := by decide +kernel
theorem dX6_describe_84 : decode cX6_describe 84 = .ok (.dup, 1) := by decide +kernel
theorem dX6_describe_85 : decode cX6_describe 85 = .ok (.getfield 241, 3) := by decide +kernel
theorem dX6_describe_88 : decode cX6_describe 88 = .ok (.dup_x1, 1) := by decide +kernel
theorem dX6_describe_89 : decode cX6_describe 89 = .ok (.iconst 1, 1) := by decide +kernel
theorem dX6_describe_90 : decode cX6_describe 90 = .ok (.iadd, 1) := by decide +kernel
theorem dX6_describe_91 : decode cX6_describe 91 = .ok (.putfield 241, 3) := by decide +kernel
theorem dX6_describe_94 : decode cX6_describe 94 = .ok (.bipush 48, 2) := by decide +kernel
theorem dX6_describe_96 : decode cX6_describe 96 = .ok (.aload_n 0, 1) := by decide +kernel
theorem dX6_describe_97 : decode cX6_describe 97 = .ok (.getfield 9, 3) := by decide +kernel
theorem dX6_describe_100 : decode cX6_describe 100 = .ok (.iconst 1, 1) := by decide +kernel
theorem dX6_describe_101 : decode cX6_describe 101 = .ok (.iaload, 1) := by decide +kernel
theorem dX6_describe_102 : decode cX6_describe 102 = .ok (.bipush 10, 2) := by decide +kernel
theorem dX6_describe_104 : decode cX6_describe 104 = .ok (.idiv, 1) := by decide +kernel
theorem dX6_describe_105 : decode cX6_describe 105 = .ok (.iadd, 1) := by decide +kernel
theorem dX6_describe_106 : decode cX6_describe 106 = .ok (.i2c, 1) := by decide +kernel
theorem dX6_describe_107 : decode cX6_describe 107 = .ok (.castore, 1) := by decide +kernel
theorem dX6_describe_108 : decode cX6_describe 108 = .ok (.aload_n 0, 1) := by decide +kernel
theorem dX6_describe_109 : decode cX6_describe 109 = .ok (.getfield 25, 3) := by decide +kernel
theorem dX6_describe_112 : decode cX6_describe 112 = .ok (.aload_n 0, 1) := by decide +kernel
theorem dX6_describe_113 : decode cX6_describe 113 = .ok (.dup, 1) := by decide +kernel
theorem dX6_describe_114 : decode cX6_describe 114 = .ok (.getfield 241, 3) := by decide +kernel
theorem dX6_describe_117 : decode cX6_describe 117 = .ok (.dup_x1, 1) := by decide +kernel
theorem dX6_describe_118 : decode cX6_describe 118 = .ok (.iconst 1, 1) := by decide +kernel
theorem dX6_describe_119 : decode cX6_describe 119 = .ok (.iadd, 1) := by decide +kernel
theorem dX6_describe_120 : decode cX6_describe 120 = .ok (.putfield 241, 3) := by decide +kernel
theorem dX6_describe_123 : decode cX6_describe 123 = .ok (.bipush 48, 2) := by decide +kernel
theorem dX6_describe_125 : decode cX6_describe 125 = .ok (.aload_n 0, 1) := by decide +kernel
theorem dX6_describe_126 : decode cX6_describe 126 = .ok (.getfield 9, 3) := by decide +kernel
theorem dX6_describe_129 : decode cX6_describe 129 = .ok (.iconst 1, 1) := by decide +kernel
theorem dX6_describe_130 : decode cX6_describe 130 = .ok (.iaload, 1) := by decide +kernel
theorem dX6_describe_131 : decode cX6_describe 131 = .ok (.bipush 10, 2) := by decide +kernel
theorem dX6_describe_133 : decode cX6_describe 133 = .ok (.irem, 1) := by decide +kernel
theorem dX6_describe_134 : decode cX6_describe 134 = .ok (.iadd, 1) := by decide +kernel
theorem dX6_describe_135 : decode cX6_describe 135 = .ok (.i2c, 1) := by decide +kernel
theorem dX6_describe_136 : decode cX6_describe 136 = .ok (.castore, 1) := by decide +kernel
theorem dX6_describe_137 : decode cX6_describe 137 = .ok (.aload_n 0, 1) := by decide +kernel
theorem dX6_describe_138 : decode cX6_describe 138 = .ok (.getfield 241, 3) := by decide +kernel
theorem dX6_describe_141 : decode cX6_describe 141 = .ok (.ireturn, 1) := by decide +kernel
theorem dX6_written_0 : decode cX6_written 0 = .ok (.aload_n 0, 1) := by decide +kernel
theorem dX6_written_1 : decode cX6_written 1 = .ok (.iconst 0, 1) := by decide +kernel
theorem dX6_written_2 : decode cX6_written 2 = .ok (.putfield 46, 3) := by decide +kernel
theorem dX6_written_5 : decode cX6_written 5 = .ok (.iload_n 1, 1) := by decide +kernel
theorem dX6_written_6 : decode cX6_written 6 = .ok (.iconst 0, 1) := by decide +kernel
theorem dX6_written_7 : decode cX6_written 7 = .ok (.aload_n 0, 1) := by decide +kernel
theorem dX6_written_8 : decode cX6_written 8 = .ok (.getfield 241, 3) := by decide +kernel
theorem dX6_written_11 : decode cX6_written 11 = .ok (.iconst 1, 1) := by decide +kernel
theorem dX6_written_12 : decode cX6_written 12 = .ok (.isub, 1) := by decide +kernel
theorem dX6_written_13 : decode cX6_written 13 = .ok (.invokestatic 62, 3) := by decide +kernel
theorem dX6_written_16 : decode cX6_written 16 = .ok (.ifCond .eq 12, 3) := by decide +kernel
theorem dX6_written_19 : decode cX6_written 19 = .ok (.aload_n 0, 1) := by decide +kernel
theorem dX6_written_20 : decode cX6_written 20 = .ok (.getfield 25, 3) := by decide +kernel
theorem dX6_written_23 : decode cX6_written 23 = .ok (.iload_n 1, 1) := by decide +kernel
theorem dX6_written_24 : decode cX6_written 24 = .ok (.caload, 1) := by decide +kernel
theorem dX6_written_25 : decode cX6_written 25 = .ok (.goto 9, 3) := by decide +kernel
theorem dX6_written_28 : decode cX6_written 28 = .ok (.aload_n 0, 1) := by decide +kernel
theorem dX6_written_29 : decode cX6_written 29 = .ok (.iconst 1, 1) := by decide +kernel
theorem dX6_written_30 : decode cX6_written 30 = .ok (.invokevirtual 58, 3) := by decide +kernel
theorem dX6_written_33 : decode cX6_written 33 = .ok (.i2c, 1) := by decide +kernel
theorem dX6_written_34 : decode cX6_written 34 = .ok (.ireturn, 1) := by decide +kernel
theorem dX6_account_0 : decode cX6_account 0 = .ok (.aload_n 0, 1) := by decide +kernel
theorem dX6_account_1 : decode cX6_account 1 = .ok (.iconst 0, 1) := by decide +kernel
theorem dX6_account_2 : decode cX6_account 2 = .ok (.putfield 46, 3) := by decide +kernel
theorem dX6_account_5 : decode cX6_account 5 = .ok (.iload_n 1, 1) := by decide +kernel
theorem dX6_account_6 : decode cX6_account 6 = .ok (.tableswitch 222 0 18 #[90, 97, 104, 111, 118, 125, 133, 142, 148, 155, 162, 169, 177, 185, 193, 201, 207, 212, 217], 90) := by decide +kernel
theorem dX6_account_96 : decode cX6_account 96 = .ok (.aload_n 0, 1) := by decide +kernel
theorem dX6_account_97 : decode cX6_account 97 = .ok (.getfield 9, 3) := by decide +kernel
theorem dX6_account_100 : decode cX6_account 100 = .ok (.iconst 0, 1) := by decide +kernel
theorem dX6_account_101 : decode cX6_account 101 = .ok (.iaload, 1) := by decide +kernel
theorem dX6_account_102 : decode cX6_account 102 = .ok (.ireturn, 1) := by decide +kernel
theorem dX6_account_103 : decode cX6_account 103 = .ok (.aload_n 0, 1) := by decide +kernel
theorem dX6_account_104 : decode cX6_account 104 = .ok (.getfield 9, 3) := by decide +kernel
theorem dX6_account_107 : decode cX6_account 107 = .ok (.iconst 1, 1) := by decide +kernel
theorem dX6_account_108 : decode cX6_account 108 = .ok (.iaload, 1) := by decide +kernel
theorem dX6_account_109 : decode cX6_account 109 = .ok (.ireturn, 1) := by decide +kernel
theorem dX6_account_110 : decode cX6_account 110 = .ok (.aload_n 0, 1) := by decide +kernel
theorem dX6_account_111 : decode cX6_account 111 = .ok (.getfield 9, 3) := by decide +kernel
theorem dX6_account_114 : decode cX6_account 114 = .ok (.iconst 2, 1) := by decide +kernel
theorem dX6_account_115 : decode cX6_account 115 = .ok (.iaload, 1) := by decide +kernel
theorem dX6_account_116 : decode cX6_account 116 = .ok (.ireturn, 1) := by decide +kernel
theorem dX6_account_117 : decode cX6_account 117 = .ok (.aload_n 0, 1) := by decide +kernel
theorem dX6_account_118 : decode cX6_account 118 = .ok (.getfield 9, 3) := by decide +kernel
theorem dX6_account_121 : decode cX6_account 121 = .ok (.iconst 3, 1) := by decide +kernel
theorem dX6_account_122 : decode cX6_account 122 = .ok (.iaload, 1) := by decide +kernel
theorem dX6_account_123 : decode cX6_account 123 = .ok (.ireturn, 1) := by decide +kernel
theorem dX6_account_124 : decode cX6_account 124 = .ok (.aload_n 0, 1) := by decide +kernel
theorem dX6_account_125 : decode cX6_account 125 = .ok (.iconst (-1), 1) := by decide +kernel
theorem dX6_account_126 : decode cX6_account 126 = .ok (.iconst (-1), 1) := by decide +kernel
theorem dX6_account_127 : decode cX6_account 127 = .ok (.invokevirtual 102, 3) := by decide +kernel
theorem dX6_account_130 : decode cX6_account 130 = .ok (.ireturn, 1) := by decide +kernel
theorem dX6_account_131 : decode cX6_account 131 = .ok (.aload_n 0, 1) := by decide +kernel
theorem dX6_account_132 : decode cX6_account 132 = .ok (.iconst 0, 1) := by decide +kernel
theorem dX6_account_133 : decode cX6_account 133 = .ok (.bipush 9, 2) := by decide +kernel
theorem dX6_account_135 : decode cX6_account 135 = .ok (.invokevirtual 102, 3) := by decide +kernel
theorem dX6_account_138 : decode cX6_account 138 = .ok (.ireturn, 1) := by decide +kernel
theorem dX6_account_139 : decode cX6_account 139 = .ok (.aload_n 0, 1) := by decide +kernel
theorem dX6_account_140 : decode cX6_account 140 = .ok (.bipush 10, 2) := by decide +kernel
theorem dX6_account_142 : decode cX6_account 142 = .ok (.bipush 10, 2) := by decide +kernel
theorem dX6_account_144 : decode cX6_account 144 = .ok (.invokevirtual 102, 3) := by decide +kernel
theorem dX6_account_147 : decode cX6_account 147 = .ok (.ireturn, 1) := by decide +kernel
theorem dX6_account_148 : decode cX6_account 148 = .ok (.aload_n 0, 1) := by decide +kernel
theorem dX6_account_149 : decode cX6_account 149 = .ok (.iconst 3, 1) := by decide +kernel
theorem dX6_account_150 : decode cX6_account 150 = .ok (.invokevirtual 244, 3) := by decide +kernel
theorem dX6_account_153 : decode cX6_account 153 = .ok (.ireturn, 1) := by decide +kernel
theorem dX6_account_154 : decode cX6_account 154 = .ok (.aload_n 0, 1) := by decide +kernel
theorem dX6_account_155 : decode cX6_account 155 = .ok (.getfield 9, 3) := by decide +kernel
theorem dX6_account_158 : decode cX6_account 158 = .ok (.iconst 4, 1) := by decide +kernel
theorem dX6_account_159 : decode cX6_account 159 = .ok (.iaload, 1) := by decide +kernel
theorem dX6_account_160 : decode cX6_account 160 = .ok (.ireturn, 1) := by decide +kernel
theorem dX6_account_161 : decode cX6_account 161 = .ok (.aload_n 0, 1) := by decide +kernel
theorem dX6_account_162 : decode cX6_account 162 = .ok (.bipush 7, 2) := by decide +kernel
theorem dX6_account_164 : decode cX6_account 164 = .ok (.invokevirtual 244, 3) := by decide +kernel
theorem dX6_account_167 : decode cX6_account 167 = .ok (.ireturn, 1) := by decide +kernel
theorem dX6_account_168 : decode cX6_account 168 = .ok (.aload_n 0, 1) := by decide +kernel
theorem dX6_account_169 : decode cX6_account 169 = .ok (.getfield 9, 3) := by decide +kernel
theorem dX6_account_172 : decode cX6_account 172 = .ok (.iconst 5, 1) := by decide +kernel
theorem dX6_account_173 : decode cX6_account 173 = .ok (.iaload, 1) := by decide +kernel
theorem dX6_account_174 : decode cX6_account 174 = .ok (.ireturn, 1) := by decide +kernel
theorem dX6_account_175 : decode cX6_account 175 = .ok (.aload_n 0, 1) := by decide +kernel
theorem dX6_account_176 : decode cX6_account 176 = .ok (.getfield 9, 3) := by decide +kernel
theorem dX6_account_179 : decode cX6_account 179 = .ok (.bipush 6, 2) := by decide +kernel
theorem dX6_account_181 : decode cX6_account 181 = .ok (.iaload, 1) := by decide +kernel
theorem dX6_account_182 : decode cX6_account 182 = .ok (.ireturn, 1) := by decide +kernel
theorem dX6_account_183 : decode cX6_account 183 = .ok (.aload_n 0, 1) := by decide +kernel
theorem dX6_account_184 : decode cX6_account 184 = .ok (.getfield 9, 3) := by decide +kernel
theorem dX6_account_187 : decode cX6_account 187 = .ok (.bipush 7, 2) := by decide +kernel
theorem dX6_account_189 : decode cX6_account 189 = .ok (.iaload, 1) := by decide +kernel
theorem dX6_account_190 : decode cX6_account 190 = .ok (.ireturn, 1) := by decide +kernel
theorem dX6_account_191 : decode cX6_account 191 = .ok (.aload_n 0, 1) := by decide +kernel
theorem dX6_account_192 : decode cX6_account 192 = .ok (.getfield 9, 3) := by decide +kernel
theorem dX6_account_195 : decode cX6_account 195 = .ok (.bipush 8, 2) := by decide +kernel
theorem dX6_account_197 : decode cX6_account 197 = .ok (.iaload, 1) := by decide +kernel
theorem dX6_account_198 : decode cX6_account 198 = .ok (.ireturn, 1) := by decide +kernel
theorem dX6_account_199 : decode cX6_account 199 = .ok (.aload_n 0, 1) := by decide +kernel
theorem dX6_account_200 : decode cX6_account 200 = .ok (.getfield 9, 3) := by decide +kernel
theorem dX6_account_203 : decode cX6_account 203 = .ok (.bipush 9, 2) := by decide +kernel
theorem dX6_account_205 : decode cX6_account 205 = .ok (.iaload, 1) := by decide +kernel
theorem dX6_account_206 : decode cX6_account 206 = .ok (.ireturn, 1) := by decide +kernel
theorem dX6_account_207 : decode cX6_account 207 = .ok (.aload_n 0, 1) := by decide +kernel
theorem dX6_account_208 : decode cX6_account 208 = .ok (.iconst 1, 1) := by decide +kernel
theorem dX6_account_209 : decode cX6_account 209 = .ok (.invokevirtual 244, 3) := by decide +kernel
theorem dX6_account_212 : decode cX6_account 212 = .ok (.ireturn, 1) := by decide +kernel
theorem dX6_account_213 : decode cX6_account 213 = .ok (.aload_n 0, 1) := by decide +kernel
theorem dX6_account_214 : decode cX6_account 214 = .ok (.getfield 233, 3) := by decide +kernel
theorem dX6_account_217 : decode cX6_account 217 = .ok (.ireturn, 1) := by decide +kernel
theorem dX6_account_218 : decode cX6_account 218 = .ok (.aload_n 0, 1) := by decide +kernel
theorem dX6_account_219 : decode cX6_account 219 = .ok (.getfield 162, 3) := by decide +kernel
theorem dX6_account_222 : decode cX6_account 222 = .ok (.ireturn, 1) := by decide +kernel
theorem dX6_account_223 : decode cX6_account 223 = .ok (.aload_n 0, 1) := by decide +kernel
theorem dX6_account_224 : decode cX6_account 224 = .ok (.getfield 49, 3) := by decide +kernel
theorem dX6_account_227 : decode cX6_account 227 = .ok (.ireturn, 1) := by decide +kernel
theorem dX6_account_228 : decode cX6_account 228 = .ok (.aload_n 0, 1) := by decide +kernel
theorem dX6_account_229 : decode cX6_account 229 = .ok (.iconst 1, 1) := by decide +kernel
theorem dX6_account_230 : decode cX6_account 230 = .ok (.invokevirtual 58, 3) := by decide +kernel
theorem dX6_account_233 : decode cX6_account 233 = .ok (.ireturn, 1) := by decide +kernel
theorem dX6_lettersAgain_0 : decode cX6_lettersAgain 0 = .ok (.aload_n 0, 1) := by decide +kernel
theorem dX6_lettersAgain_1 : decode cX6_lettersAgain 1 = .ok (.iconst 0, 1) := by decide +kernel
theorem dX6_lettersAgain_2 : decode cX6_lettersAgain 2 = .ok (.putfield 46, 3) := by decide +kernel
theorem dX6_lettersAgain_5 : decode cX6_lettersAgain 5 = .ok (.aload_n 0, 1) := by decide +kernel
theorem dX6_lettersAgain_6 : decode cX6_lettersAgain 6 = .ok (.getfield 9, 3) := by decide +kernel
theorem dX6_lettersAgain_9 : decode cX6_lettersAgain 9 = .ok (.bipush 6, 2) := by decide +kernel
theorem dX6_lettersAgain_11 : decode cX6_lettersAgain 11 = .ok (.iaload, 1) := by decide +kernel
theorem dX6_lettersAgain_12 : decode cX6_lettersAgain 12 = .ok (.aload_n 0, 1) := by decide +kernel
theorem dX6_lettersAgain_13 : decode cX6_lettersAgain 13 = .ok (.getfield 9, 3) := by decide +kernel
theorem dX6_lettersAgain_16 : decode cX6_lettersAgain 16 = .ok (.iconst 5, 1) := by decide +kernel
theorem dX6_lettersAgain_17 : decode cX6_lettersAgain 17 = .ok (.iaload, 1) := by decide +kernel
theorem dX6_lettersAgain_18 : decode cX6_lettersAgain 18 = .ok (.isub, 1) := by decide +kernel
theorem dX6_lettersAgain_19 : decode cX6_lettersAgain 19 = .ok (.aload_n 0, 1) := by decide +kernel
theorem dX6_lettersAgain_20 : decode cX6_lettersAgain 20 = .ok (.bipush 7, 2) := by decide +kernel
theorem dX6_lettersAgain_22 : decode cX6_lettersAgain 22 = .ok (.invokevirtual 244, 3) := by decide +kernel
theorem dX6_lettersAgain_25 : decode cX6_lettersAgain 25 = .ok (.isub, 1) := by decide +kernel
theorem dX6_lettersAgain_26 : decode cX6_lettersAgain 26 = .ok (.ireturn, 1) := by decide +kernel
theorem dX6_meanWet_0 : decode cX6_meanWet 0 = .ok (.aload_n 0, 1) := by decide +kernel
theorem dX6_meanWet_1 : decode cX6_meanWet 1 = .ok (.iconst 0, 1) := by decide +kernel
theorem dX6_meanWet_2 : decode cX6_meanWet 2 = .ok (.putfield 46, 3) := by decide +kernel
theorem dX6_meanWet_5 : decode cX6_meanWet 5 = .ok (.aload_n 0, 1) := by decide +kernel
theorem dX6_meanWet_6 : decode cX6_meanWet 6 = .ok (.getfield 9, 3) := by decide +kernel
theorem dX6_meanWet_9 : decode cX6_meanWet 9 = .ok (.iconst 3, 1) := by decide +kernel
theorem dX6_meanWet_10 : decode cX6_meanWet 10 = .ok (.iaload, 1) := by decide +kernel
theorem dX6_meanWet_11 : decode cX6_meanWet 11 = .ok (.ifCond .ne 12, 3) := by decide +kernel
theorem dX6_meanWet_14 : decode cX6_meanWet 14 = .ok (.aload_n 0, 1) := by decide +kernel
theorem dX6_meanWet_15 : decode cX6_meanWet 15 = .ok (.iconst 1, 1) := by decide +kernel
theorem dX6_meanWet_16 : decode cX6_meanWet 16 = .ok (.invokevirtual 58, 3) := by decide +kernel
theorem dX6_meanWet_19 : decode cX6_meanWet 19 = .ok (.i2d, 1) := by decide +kernel
theorem dX6_meanWet_20 : decode cX6_meanWet 20 = .ok (.goto 17, 3) := by decide +kernel
theorem dX6_meanWet_23 : decode cX6_meanWet 23 = .ok (.aload_n 0, 1) := by decide +kernel
theorem dX6_meanWet_24 : decode cX6_meanWet 24 = .ok (.iconst 1, 1) := by decide +kernel
theorem dX6_meanWet_25 : decode cX6_meanWet 25 = .ok (.invokevirtual 244, 3) := by decide +kernel
theorem dX6_meanWet_28 : decode cX6_meanWet 28 = .ok (.i2d, 1) := by decide +kernel
theorem dX6_meanWet_29 : decode cX6_meanWet 29 = .ok (.aload_n 0, 1) := by decide +kernel
theorem dX6_meanWet_30 : decode cX6_meanWet 30 = .ok (.getfield 9, 3) := by decide +kernel
theorem dX6_meanWet_33 : decode cX6_meanWet 33 = .ok (.iconst 3, 1) := by decide +kernel
theorem dX6_meanWet_34 : decode cX6_meanWet 34 = .ok (.iaload, 1) := by decide +kernel
theorem dX6_meanWet_35 : decode cX6_meanWet 35 = .ok (.i2d, 1) := by decide +kernel
theorem dX6_meanWet_36 : decode cX6_meanWet 36 = .ok (.ddiv, 1) := by decide +kernel
theorem dX6_meanWet_37 : decode cX6_meanWet 37 = .ok (.dreturn, 1) := by decide +kernel
theorem dX6_crossingShare_0 : decode cX6_crossingShare 0 = .ok (.aload_n 0, 1) := by decide +kernel
theorem dX6_crossingShare_1 : decode cX6_crossingShare 1 = .ok (.iconst 0, 1) := by decide +kernel
theorem dX6_crossingShare_2 : decode cX6_crossingShare 2 = .ok (.putfield 46, 3) := by decide +kernel
theorem dX6_crossingShare_5 : decode cX6_crossingShare 5 = .ok (.aload_n 0, 1) := by decide +kernel
theorem dX6_crossingShare_6 : decode cX6_crossingShare 6 = .ok (.getfield 9, 3) := by decide +kernel
theorem dX6_crossingShare_9 : decode cX6_crossingShare 9 = .ok (.bipush 8, 2) := by decide +kernel
theorem dX6_crossingShare_11 : decode cX6_crossingShare 11 = .ok (.iaload, 1) := by decide +kernel
theorem dX6_crossingShare_12 : decode cX6_crossingShare 12 = .ok (.aload_n 0, 1) := by decide +kernel
theorem dX6_crossingShare_13 : decode cX6_crossingShare 13 = .ok (.getfield 9, 3) := by decide +kernel
theorem dX6_crossingShare_16 : decode cX6_crossingShare 16 = .ok (.bipush 9, 2) := by decide +kernel
theorem dX6_crossingShare_18 : decode cX6_crossingShare 18 = .ok (.iaload, 1) := by decide +kernel
theorem dX6_crossingShare_19 : decode cX6_crossingShare 19 = .ok (.iadd, 1) := by decide +kernel
theorem dX6_crossingShare_20 : decode cX6_crossingShare 20 = .ok (.istore_n 1, 1) := by decide +kernel
theorem dX6_crossingShare_21 : decode cX6_crossingShare 21 = .ok (.iload_n 1, 1) := by decide +kernel
theorem dX6_crossingShare_22 : decode cX6_crossingShare 22 = .ok (.ifCond .ne 12, 3) := by decide +kernel
theorem dX6_crossingShare_25 : decode cX6_crossingShare 25 = .ok (.aload_n 0, 1) := by decide +kernel
theorem dX6_crossingShare_26 : decode cX6_crossingShare 26 = .ok (.iconst 1, 1) := by decide +kernel
theorem dX6_crossingShare_27 : decode cX6_crossingShare 27 = .ok (.invokevirtual 58, 3) := by decide +kernel
theorem dX6_crossingShare_30 : decode cX6_crossingShare 30 = .ok (.i2f, 1) := by decide +kernel
theorem dX6_crossingShare_31 : decode cX6_crossingShare 31 = .ok (.goto 14, 3) := by decide +kernel
theorem dX6_crossingShare_34 : decode cX6_crossingShare 34 = .ok (.aload_n 0, 1) := by decide +kernel
theorem dX6_crossingShare_35 : decode cX6_crossingShare 35 = .ok (.getfield 9, 3) := by decide +kernel
theorem dX6_crossingShare_38 : decode cX6_crossingShare 38 = .ok (.bipush 8, 2) := by decide +kernel
theorem dX6_crossingShare_40 : decode cX6_crossingShare 40 = .ok (.iaload, 1) := by decide +kernel
theorem dX6_crossingShare_41 : decode cX6_crossingShare 41 = .ok (.i2f, 1) := by decide +kernel
theorem dX6_crossingShare_42 : decode cX6_crossingShare 42 = .ok (.iload_n 1, 1) := by decide +kernel
theorem dX6_crossingShare_43 : decode cX6_crossingShare 43 = .ok (.i2f, 1) := by decide +kernel
theorem dX6_crossingShare_44 : decode cX6_crossingShare 44 = .ok (.fdiv, 1) := by decide +kernel
theorem dX6_crossingShare_45 : decode cX6_crossingShare 45 = .ok (.freturn, 1) := by decide +kernel
theorem dX6_undo_0 : decode cX6_undo 0 = .ok (.aload_n 0, 1) := by decide +kernel
theorem dX6_undo_1 : decode cX6_undo 1 = .ok (.iconst 0, 1) := by decide +kernel
theorem dX6_undo_2 : decode cX6_undo 2 = .ok (.putfield 46, 3) := by decide +kernel
theorem dX6_undo_5 : decode cX6_undo 5 = .ok (.aload_n 0, 1) := by decide +kernel
theorem dX6_undo_6 : decode cX6_undo 6 = .ok (.getfield 49, 3) := by decide +kernel
theorem dX6_undo_9 : decode cX6_undo 9 = .ok (.ifCond .ne 9, 3) := by decide +kernel
theorem dX6_undo_12 : decode cX6_undo 12 = .ok (.aload_n 0, 1) := by decide +kernel
theorem dX6_undo_13 : decode cX6_undo 13 = .ok (.iconst 1, 1) := by decide +kernel
theorem dX6_undo_14 : decode cX6_undo 14 = .ok (.invokevirtual 58, 3) := by decide +kernel
theorem dX6_undo_17 : decode cX6_undo 17 = .ok (.ireturn, 1) := by decide +kernel
theorem dX6_undo_18 : decode cX6_undo 18 = .ok (.aload_n 0, 1) := by decide +kernel
theorem dX6_undo_19 : decode cX6_undo 19 = .ok (.dup, 1) := by decide +kernel
theorem dX6_undo_20 : decode cX6_undo 20 = .ok (.getfield 49, 3) := by decide +kernel
theorem dX6_undo_23 : decode cX6_undo 23 = .ok (.iconst 1, 1) := by decide +kernel
theorem dX6_undo_24 : decode cX6_undo 24 = .ok (.isub, 1) := by decide +kernel
theorem dX6_undo_25 : decode cX6_undo 25 = .ok (.putfield 49, 3) := by decide +kernel
theorem dX6_undo_28 : decode cX6_undo 28 = .ok (.iconst 0, 1) := by decide +kernel
theorem dX6_undo_29 : decode cX6_undo 29 = .ok (.istore_n 1, 1) := by decide +kernel
theorem dX6_undo_30 : decode cX6_undo 30 = .ok (.iload_n 1, 1) := by decide +kernel
theorem dX6_undo_31 : decode cX6_undo 31 = .ok (.bipush 84, 2) := by decide +kernel
theorem dX6_undo_33 : decode cX6_undo 33 = .ok (.if_icmp .ge 29, 3) := by decide +kernel
theorem dX6_undo_36 : decode cX6_undo 36 = .ok (.aload_n 0, 1) := by decide +kernel
theorem dX6_undo_37 : decode cX6_undo 37 = .ok (.getfield 9, 3) := by decide +kernel
theorem dX6_undo_40 : decode cX6_undo 40 = .ok (.iload_n 1, 1) := by decide +kernel
theorem dX6_undo_41 : decode cX6_undo 41 = .ok (.aload_n 0, 1) := by decide +kernel
theorem dX6_undo_42 : decode cX6_undo 42 = .ok (.getfield 19, 3) := by decide +kernel
theorem dX6_undo_45 : decode cX6_undo 45 = .ok (.bipush 84, 2) := by decide +kernel
theorem dX6_undo_47 : decode cX6_undo 47 = .ok (.aload_n 0, 1) := by decide +kernel
theorem dX6_undo_48 : decode cX6_undo 48 = .ok (.getfield 49, 3) := by decide +kernel
theorem dX6_undo_51 : decode cX6_undo 51 = .ok (.imul, 1) := by decide +kernel
theorem dX6_undo_52 : decode cX6_undo 52 = .ok (.iload_n 1, 1) := by decide +kernel
theorem dX6_undo_53 : decode cX6_undo 53 = .ok (.iadd, 1) := by decide +kernel
theorem dX6_undo_54 : decode cX6_undo 54 = .ok (.iaload, 1) := by decide +kernel
theorem dX6_undo_55 : decode cX6_undo 55 = .ok (.iastore, 1) := by decide +kernel
theorem dX6_undo_56 : decode cX6_undo 56 = .ok (.iinc 1 1, 3) := by decide +kernel
theorem dX6_undo_59 : decode cX6_undo 59 = .ok (.goto (-29), 3) := by decide +kernel
theorem dX6_undo_62 : decode cX6_undo 62 = .ok (.aload_n 0, 1) := by decide +kernel
theorem dX6_undo_63 : decode cX6_undo 63 = .ok (.getfield 49, 3) := by decide +kernel
theorem dX6_undo_66 : decode cX6_undo 66 = .ok (.ireturn, 1) := by decide +kernel
theorem dX6_save_0 : decode cX6_save 0 = .ok (.aload_n 0, 1) := by decide +kernel
theorem dX6_save_1 : decode cX6_save 1 = .ok (.iconst 0, 1) := by decide +kernel
theorem dX6_save_2 : decode cX6_save 2 = .ok (.putfield 46, 3) := by decide +kernel
theorem dX6_save_5 : decode cX6_save 5 = .ok (.aload_n 0, 1) := by decide +kernel
theorem dX6_save_6 : decode cX6_save 6 = .ok (.iconst 1, 1) := by decide +kernel
theorem dX6_save_7 : decode cX6_save 7 = .ok (.putfield 247, 3) := by decide +kernel
theorem dX6_save_10 : decode cX6_save 10 = .ok (.iconst 0, 1) := by decide +kernel
theorem dX6_save_11 : decode cX6_save 11 = .ok (.istore_n 1, 1) := by decide +kernel
theorem dX6_save_12 : decode cX6_save 12 = .ok (.iload_n 1, 1) := by decide +kernel
theorem dX6_save_13 : decode cX6_save 13 = .ok (.bipush 84, 2) := by decide +kernel
theorem dX6_save_15 : decode cX6_save 15 = .ok (.if_icmp .ge 21, 3) := by decide +kernel
theorem dX6_save_18 : decode cX6_save 18 = .ok (.aload_n 0, 1) := by decide +kernel
theorem dX6_save_19 : decode cX6_save 19 = .ok (.getfield 22, 3) := by decide +kernel
theorem dX6_save_22 : decode cX6_save 22 = .ok (.iload_n 1, 1) := by decide +kernel
theorem dX6_save_23 : decode cX6_save 23 = .ok (.aload_n 0, 1) := by decide +kernel
theorem dX6_save_24 : decode cX6_save 24 = .ok (.getfield 9, 3) := by decide +kernel
theorem dX6_save_27 : decode cX6_save 27 = .ok (.iload_n 1, 1) := by decide +kernel
theorem dX6_save_28 : decode cX6_save 28 = .ok (.iaload, 1) := by decide +kernel
theorem dX6_save_29 : decode cX6_save 29 = .ok (.iastore, 1) := by decide +kernel
theorem dX6_save_30 : decode cX6_save 30 = .ok (.iinc 1 1, 3) := by decide +kernel
theorem dX6_save_33 : decode cX6_save 33 = .ok (.goto (-21), 3) := by decide +kernel
theorem dX6_save_36 : decode cX6_save 36 = .ok (.aload_n 0, 1) := by decide +kernel
theorem dX6_save_37 : decode cX6_save 37 = .ok (.getfield 9, 3) := by decide +kernel
theorem dX6_save_40 : decode cX6_save 40 = .ok (.iconst 0, 1) := by decide +kernel
theorem dX6_save_41 : decode cX6_save 41 = .ok (.iaload, 1) := by decide +kernel
theorem dX6_save_42 : decode cX6_save 42 = .ok (.ireturn, 1) := by decide +kernel
theorem dX6_restore_0 : decode cX6_restore 0 = .ok (.aload_n 0, 1) := by decide +kernel
theorem dX6_restore_1 : decode cX6_restore 1 = .ok (.iconst 0, 1) := by decide +kernel
theorem dX6_restore_2 : decode cX6_restore 2 = .ok (.putfield 46, 3) := by decide +kernel
theorem dX6_restore_5 : decode cX6_restore 5 = .ok (.aload_n 0, 1) := by decide +kernel
theorem dX6_restore_6 : decode cX6_restore 6 = .ok (.getfield 247, 3) := by decide +kernel
theorem dX6_restore_9 : decode cX6_restore 9 = .ok (.ifCond .ne 9, 3) := by decide +kernel
theorem dX6_restore_12 : decode cX6_restore 12 = .ok (.aload_n 0, 1) := by decide +kernel
theorem dX6_restore_13 : decode cX6_restore 13 = .ok (.iconst 1, 1) := by decide +kernel
theorem dX6_restore_14 : decode cX6_restore 14 = .ok (.invokevirtual 58, 3) := by decide +kernel
theorem dX6_restore_17 : decode cX6_restore 17 = .ok (.ireturn, 1) := by decide +kernel
theorem dX6_restore_18 : decode cX6_restore 18 = .ok (.iconst 0, 1) := by decide +kernel
theorem dX6_restore_19 : decode cX6_restore 19 = .ok (.istore_n 1, 1) := by decide +kernel
theorem dX6_restore_20 : decode cX6_restore 20 = .ok (.iload_n 1, 1) := by decide +kernel
theorem dX6_restore_21 : decode cX6_restore 21 = .ok (.bipush 84, 2) := by decide +kernel
theorem dX6_restore_23 : decode cX6_restore 23 = .ok (.if_icmp .ge 21, 3) := by decide +kernel
theorem dX6_restore_26 : decode cX6_restore 26 = .ok (.aload_n 0, 1) := by decide +kernel
theorem dX6_restore_27 : decode cX6_restore 27 = .ok (.getfield 9, 3) := by decide +kernel
theorem dX6_restore_30 : decode cX6_restore 30 = .ok (.iload_n 1, 1) := by decide +kernel
theorem dX6_restore_31 : decode cX6_restore 31 = .ok (.aload_n 0, 1) := by decide +kernel
theorem dX6_restore_32 : decode cX6_restore 32 = .ok (.getfield 22, 3) := by decide +kernel
theorem dX6_restore_35 : decode cX6_restore 35 = .ok (.iload_n 1, 1) := by decide +kernel
theorem dX6_restore_36 : decode cX6_restore 36 = .ok (.iaload, 1) := by decide +kernel
theorem dX6_restore_37 : decode cX6_restore 37 = .ok (.iastore, 1) := by decide +kernel
theorem dX6_restore_38 : decode cX6_restore 38 = .ok (.iinc 1 1, 3) := by decide +kernel
theorem dX6_restore_41 : decode cX6_restore 41 = .ok (.goto (-21), 3) := by decide +kernel
theorem dX6_restore_44 : decode cX6_restore 44 = .ok (.aload_n 0, 1) := by decide +kernel
theorem dX6_restore_45 : decode cX6_restore 45 = .ok (.iconst 0, 1) := by decide +kernel
theorem dX6_restore_46 : decode cX6_restore 46 = .ok (.putfield 49, 3) := by decide +kernel
theorem dX6_restore_49 : decode cX6_restore 49 = .ok (.aload_n 0, 1) := by decide +kernel
theorem dX6_restore_50 : decode cX6_restore 50 = .ok (.getfield 9, 3) := by decide +kernel
theorem dX6_restore_53 : decode cX6_restore 53 = .ok (.iconst 0, 1) := by decide +kernel
theorem dX6_restore_54 : decode cX6_restore 54 = .ok (.iaload, 1) := by decide +kernel
theorem dX6_restore_55 : decode cX6_restore 55 = .ok (.ireturn, 1) := by decide +kernel
theorem dJ9_max_7cf53_0 : decode cJ9_max_7cf53 0 = .ok (.iload_n 0, 1) := by decide +kernel
theorem dJ9_max_7cf53_1 : decode cJ9_max_7cf53 1 = .ok (.iload_n 1, 1) := by decide +kernel
theorem dJ9_max_7cf53_2 : decode cJ9_max_7cf53 2 = .ok (.if_icmp .lt 7, 3) := by decide +kernel
theorem dJ9_max_7cf53_5 : decode cJ9_max_7cf53 5 = .ok (.iload_n 0, 1) := by decide +kernel
theorem dJ9_max_7cf53_6 : decode cJ9_max_7cf53 6 = .ok (.goto 4, 3) := by decide +kernel
theorem dJ9_max_7cf53_9 : decode cJ9_max_7cf53 9 = .ok (.iload_n 1, 1) := by decide +kernel
theorem dJ9_max_7cf53_10 : decode cJ9_max_7cf53 10 = .ok (.ireturn, 1) := by decide +kernel
theorem dJ9_min_7cf53_0 : decode cJ9_min_7cf53 0 = .ok (.iload_n 0, 1) := by decide +kernel
theorem dJ9_min_7cf53_1 : decode cJ9_min_7cf53 1 = .ok (.iload_n 1, 1) := by decide +kernel
theorem dJ9_min_7cf53_2 : decode cJ9_min_7cf53 2 = .ok (.if_icmp .gt 7, 3) := by decide +kernel
theorem dJ9_min_7cf53_5 : decode cJ9_min_7cf53 5 = .ok (.iload_n 0, 1) := by decide +kernel
theorem dJ9_min_7cf53_6 : decode cJ9_min_7cf53 6 = .ok (.goto 4, 3) := by decide +kernel
theorem dJ9_min_7cf53_9 : decode cJ9_min_7cf53 9 = .ok (.iload_n 1, 1) := by decide +kernel
theorem dJ9_min_7cf53_10 : decode cJ9_min_7cf53 10 = .ok (.ireturn, 1) := by decide +kernel
theorem dJ0_length_8abf5_0 : decode cJ0_length_8abf5 0 = .ok (.aload_n 0, 1) := by decide +kernel
theorem dJ0_length_8abf5_1 : decode cJ0_length_8abf5 1 = .ok (.getfield 9, 3) := by decide +kernel
theorem dJ0_length_8abf5_4 : decode cJ0_length_8abf5 4 = .ok (.arraylength, 1) := by decide +kernel
theorem dJ0_length_8abf5_5 : decode cJ0_length_8abf5 5 = .ok (.aload_n 0, 1) := by decide +kernel
theorem dJ0_length_8abf5_6 : decode cJ0_length_8abf5 6 = .ok (.invokevirtual 335, 3) := by decide +kernel
theorem dJ0_length_8abf5_9 : decode cJ0_length_8abf5 9 = .ok (.ishr, 1) := by decide +kernel
theorem dJ0_length_8abf5_10 : decode cJ0_length_8abf5 10 = .ok (.ireturn, 1) := by decide +kernel
theorem dJ0_charAt_5068e_0 : decode cJ0_charAt_5068e 0 = .ok (.aload_n 0, 1) := by decide +kernel
theorem dJ0_charAt_5068e_1 : decode cJ0_charAt_5068e 1 = .ok (.invokevirtual 492, 3) := by decide +kernel
theorem dJ0_charAt_5068e_4 : decode cJ0_charAt_5068e 4 = .ok (.ifCond .eq 12, 3) := by decide +kernel
theorem dJ0_charAt_5068e_7 : decode cJ0_charAt_5068e 7 = .ok (.aload_n 0, 1) := by decide +kernel
theorem dJ0_charAt_5068e_8 : decode cJ0_charAt_5068e 8 = .ok (.getfield 9, 3) := by decide +kernel
theorem dJ0_charAt_5068e_11 : decode cJ0_charAt_5068e 11 = .ok (.iload_n 1, 1) := by decide +kernel
theorem dJ0_charAt_5068e_12 : decode cJ0_charAt_5068e 12 = .ok (.invokestatic 495, 3) := by decide +kernel
theorem dJ0_charAt_5068e_15 : decode cJ0_charAt_5068e 15 = .ok (.ireturn, 1) := by decide +kernel
theorem dJ0_charAt_5068e_16 : decode cJ0_charAt_5068e 16 = .ok (.aload_n 0, 1) := by decide +kernel
theorem dJ0_charAt_5068e_17 : decode cJ0_charAt_5068e 17 = .ok (.getfield 9, 3) := by decide +kernel
theorem dJ0_charAt_5068e_20 : decode cJ0_charAt_5068e 20 = .ok (.iload_n 1, 1) := by decide +kernel
theorem dJ0_charAt_5068e_21 : decode cJ0_charAt_5068e 21 = .ok (.invokestatic 498, 3) := by decide +kernel
theorem dJ0_charAt_5068e_24 : decode cJ0_charAt_5068e 24 = .ok (.ireturn, 1) := by decide +kernel
theorem dJ0_coder_7d493_0 : decode cJ0_coder_7d493 0 = .ok (.getstatic 38, 3) := by decide +kernel
theorem dJ0_coder_7d493_3 : decode cJ0_coder_7d493 3 = .ok (.ifCond .eq 10, 3) := by decide +kernel
theorem dJ0_coder_7d493_6 : decode cJ0_coder_7d493 6 = .ok (.aload_n 0, 1) := by decide +kernel
theorem dJ0_coder_7d493_7 : decode cJ0_coder_7d493 7 = .ok (.getfield 15, 3) := by decide +kernel
theorem dJ0_coder_7d493_10 : decode cJ0_coder_7d493 10 = .ok (.goto 4, 3) := by decide +kernel
theorem dJ0_coder_7d493_13 : decode cJ0_coder_7d493 13 = .ok (.iconst 1, 1) := by decide +kernel
theorem dJ0_coder_7d493_14 : decode cJ0_coder_7d493 14 = .ok (.ireturn, 1) := by decide +kernel
theorem dJ0_isLatin1_aae02_0 : decode cJ0_isLatin1_aae02 0 = .ok (.getstatic 38, 3) := by decide +kernel
theorem dJ0_isLatin1_aae02_3 : decode cJ0_isLatin1_aae02 3 = .ok (.ifCond .eq 14, 3) := by decide +kernel
theorem dJ0_isLatin1_aae02_6 : decode cJ0_isLatin1_aae02 6 = .ok (.aload_n 0, 1) := by decide +kernel
theorem dJ0_isLatin1_aae02_7 : decode cJ0_isLatin1_aae02 7 = .ok (.getfield 15, 3) := by decide +kernel
theorem dJ0_isLatin1_aae02_10 : decode cJ0_isLatin1_aae02 10 = .ok (.ifCond .ne 7, 3) := by decide +kernel
theorem dJ0_isLatin1_aae02_13 : decode cJ0_isLatin1_aae02 13 = .ok (.iconst 1, 1) := by decide +kernel
theorem dJ0_isLatin1_aae02_14 : decode cJ0_isLatin1_aae02 14 = .ok (.goto 4, 3) := by decide +kernel
theorem dJ0_isLatin1_aae02_17 : decode cJ0_isLatin1_aae02 17 = .ok (.iconst 0, 1) := by decide +kernel
theorem dJ0_isLatin1_aae02_18 : decode cJ0_isLatin1_aae02 18 = .ok (.ireturn, 1) := by decide +kernel
theorem dJ0_checkIndex_df160_0 : decode cJ0_checkIndex_df160 0 = .ok (.iload_n 0, 1) := by decide +kernel
theorem dJ0_checkIndex_df160_1 : decode cJ0_checkIndex_df160 1 = .ok (.iload_n 1, 1) := by decide +kernel
theorem dJ0_checkIndex_df160_2 : decode cJ0_checkIndex_df160 2 = .ok (.getstatic 1053, 3) := by decide +kernel
theorem dJ0_checkIndex_df160_5 : decode cJ0_checkIndex_df160 5 = .ok (.invokestatic 1059, 3) := by decide +kernel
theorem dJ0_checkIndex_df160_8 : decode cJ0_checkIndex_df160 8 = .ok (.pop, 1) := by decide +kernel
theorem dJ0_checkIndex_df160_9 : decode cJ0_checkIndex_df160 9 = .ok (.return_, 1) := by decide +kernel
theorem dJ1_charAt_3b067_0 : decode cJ1_charAt_3b067 0 = .ok (.iload_n 1, 1) := by decide +kernel
theorem dJ1_charAt_3b067_1 : decode cJ1_charAt_3b067 1 = .ok (.aload_n 0, 1) := by decide +kernel
theorem dJ1_charAt_3b067_2 : decode cJ1_charAt_3b067 2 = .ok (.arraylength, 1) := by decide +kernel
theorem dJ1_charAt_3b067_3 : decode cJ1_charAt_3b067 3 = .ok (.invokestatic 9, 3) := by decide +kernel
theorem dJ1_charAt_3b067_6 : decode cJ1_charAt_3b067 6 = .ok (.aload_n 0, 1) := by decide +kernel
theorem dJ1_charAt_3b067_7 : decode cJ1_charAt_3b067 7 = .ok (.iload_n 1, 1) := by decide +kernel
theorem dJ1_charAt_3b067_8 : decode cJ1_charAt_3b067 8 = .ok (.baload, 1) := by decide +kernel
theorem dJ1_charAt_3b067_9 : decode cJ1_charAt_3b067 9 = .ok (.sipush 255, 3) := by decide +kernel
theorem dJ1_charAt_3b067_12 : decode cJ1_charAt_3b067 12 = .ok (.iand, 1) := by decide +kernel
theorem dJ1_charAt_3b067_13 : decode cJ1_charAt_3b067 13 = .ok (.i2c, 1) := by decide +kernel
theorem dJ1_charAt_3b067_14 : decode cJ1_charAt_3b067 14 = .ok (.ireturn, 1) := by decide +kernel
theorem dJ2_getChar_3b067_0 : decode cJ2_getChar_3b067 0 = .ok (.getstatic 44, 3) := by decide +kernel
theorem dJ2_getChar_3b067_3 : decode cJ2_getChar_3b067 3 = .ok (.ifCond .ne 25, 3) := by decide +kernel
theorem dJ2_getChar_3b067_6 : decode cJ2_getChar_3b067 6 = .ok (.iload_n 1, 1) := by decide +kernel
theorem dJ2_getChar_3b067_7 : decode cJ2_getChar_3b067 7 = .ok (.ifCond .lt 11, 3) := by decide +kernel
theorem dJ2_getChar_3b067_10 : decode cJ2_getChar_3b067 10 = .ok (.iload_n 1, 1) := by decide +kernel
theorem dJ2_getChar_3b067_11 : decode cJ2_getChar_3b067 11 = .ok (.aload_n 0, 1) := by decide +kernel
theorem dJ2_getChar_3b067_12 : decode cJ2_getChar_3b067 12 = .ok (.invokestatic 48, 3) := by decide +kernel
theorem dJ2_getChar_3b067_15 : decode cJ2_getChar_3b067 15 = .ok (.if_icmp .lt 13, 3) := by decide +kernel
theorem dJ2_getChar_3b067_18 : decode cJ2_getChar_3b067 18 = .ok (.new 52, 3) := by decide +kernel
theorem dJ2_getChar_3b067_21 : decode cJ2_getChar_3b067 21 = .ok (.dup, 1) := by decide +kernel
theorem dJ2_getChar_3b067_22 : decode cJ2_getChar_3b067 22 = .ok (.ldc 54, 2) := by decide +kernel
theorem dJ2_getChar_3b067_24 : decode cJ2_getChar_3b067 24 = .ok (.invokespecial 56, 3) := by decide +kernel
theorem dJ2_getChar_3b067_27 : decode cJ2_getChar_3b067 27 = .ok (.athrow, 1) := by decide +kernel
theorem dJ2_getChar_3b067_28 : decode cJ2_getChar_3b067 28 = .ok (.iload_n 1, 1) := by decide +kernel
theorem dJ2_getChar_3b067_29 : decode cJ2_getChar_3b067 29 = .ok (.iconst 1, 1) := by decide +kernel
theorem dJ2_getChar_3b067_30 : decode cJ2_getChar_3b067 30 = .ok (.ishl, 1) := by decide +kernel
theorem dJ2_getChar_3b067_31 : decode cJ2_getChar_3b067 31 = .ok (.istore_n 1, 1) := by decide +kernel
theorem dJ2_getChar_3b067_32 : decode cJ2_getChar_3b067 32 = .ok (.aload_n 0, 1) := by decide +kernel
theorem dJ2_getChar_3b067_33 : decode cJ2_getChar_3b067 33 = .ok (.iload_n 1, 1) := by decide +kernel
theorem dJ2_getChar_3b067_34 : decode cJ2_getChar_3b067 34 = .ok (.iinc 1 1, 3) := by decide +kernel
theorem dJ2_getChar_3b067_37 : decode cJ2_getChar_3b067 37 = .ok (.baload, 1) := by decide +kernel
theorem dJ2_getChar_3b067_38 : decode cJ2_getChar_3b067 38 = .ok (.sipush 255, 3) := by decide +kernel
theorem dJ2_getChar_3b067_41 : decode cJ2_getChar_3b067 41 = .ok (.iand, 1) := by decide +kernel
theorem dJ2_getChar_3b067_42 : decode cJ2_getChar_3b067 42 = .ok (.getstatic 59, 3) := by decide +kernel
theorem dJ2_getChar_3b067_45 : decode cJ2_getChar_3b067 45 = .ok (.ishl, 1) := by decide +kernel
theorem dJ2_getChar_3b067_46 : decode cJ2_getChar_3b067 46 = .ok (.aload_n 0, 1) := by decide +kernel
theorem dJ2_getChar_3b067_47 : decode cJ2_getChar_3b067 47 = .ok (.iload_n 1, 1) := by decide +kernel
theorem dJ2_getChar_3b067_48 : decode cJ2_getChar_3b067 48 = .ok (.baload, 1) := by decide +kernel
theorem dJ2_getChar_3b067_49 : decode cJ2_getChar_3b067 49 = .ok (.sipush 255, 3) := by decide +kernel
theorem dJ2_getChar_3b067_52 : decode cJ2_getChar_3b067 52 = .ok (.iand, 1) := by decide +kernel
theorem dJ2_getChar_3b067_53 : decode cJ2_getChar_3b067 53 = .ok (.getstatic 63, 3) := by decide +kernel
theorem dJ2_getChar_3b067_56 : decode cJ2_getChar_3b067 56 = .ok (.ishl, 1) := by decide +kernel
theorem dJ2_getChar_3b067_57 : decode cJ2_getChar_3b067 57 = .ok (.ior, 1) := by decide +kernel
theorem dJ2_getChar_3b067_58 : decode cJ2_getChar_3b067 58 = .ok (.i2c, 1) := by decide +kernel
theorem dJ2_getChar_3b067_59 : decode cJ2_getChar_3b067 59 = .ok (.ireturn, 1) := by decide +kernel
theorem dJ2_length_9d52b_0 : decode cJ2_length_9d52b 0 = .ok (.aload_n 0, 1) := by decide +kernel
theorem dJ2_length_9d52b_1 : decode cJ2_length_9d52b 1 = .ok (.arraylength, 1) := by decide +kernel
theorem dJ2_length_9d52b_2 : decode cJ2_length_9d52b 2 = .ok (.iconst 1, 1) := by decide +kernel
theorem dJ2_length_9d52b_3 : decode cJ2_length_9d52b 3 = .ok (.ishr, 1) := by decide +kernel
theorem dJ2_length_9d52b_4 : decode cJ2_length_9d52b 4 = .ok (.ireturn, 1) := by decide +kernel
theorem dJ2_charAt_3b067_0 : decode cJ2_charAt_3b067 0 = .ok (.iload_n 1, 1) := by decide +kernel
theorem dJ2_charAt_3b067_1 : decode cJ2_charAt_3b067 1 = .ok (.aload_n 0, 1) := by decide +kernel
theorem dJ2_charAt_3b067_2 : decode cJ2_charAt_3b067 2 = .ok (.invokestatic 67, 3) := by decide +kernel
theorem dJ2_charAt_3b067_5 : decode cJ2_charAt_3b067 5 = .ok (.aload_n 0, 1) := by decide +kernel
theorem dJ2_charAt_3b067_6 : decode cJ2_charAt_3b067 6 = .ok (.iload_n 1, 1) := by decide +kernel
theorem dJ2_charAt_3b067_7 : decode cJ2_charAt_3b067 7 = .ok (.invokestatic 71, 3) := by decide +kernel
theorem dJ2_charAt_3b067_10 : decode cJ2_charAt_3b067 10 = .ok (.ireturn, 1) := by decide +kernel
theorem dJ2_checkIndex_2214a_0 : decode cJ2_checkIndex_2214a 0 = .ok (.iload_n 0, 1) := by decide +kernel
theorem dJ2_checkIndex_2214a_1 : decode cJ2_checkIndex_2214a 1 = .ok (.aload_n 1, 1) := by decide +kernel
theorem dJ2_checkIndex_2214a_2 : decode cJ2_checkIndex_2214a 2 = .ok (.invokestatic 48, 3) := by decide +kernel
theorem dJ2_checkIndex_2214a_5 : decode cJ2_checkIndex_2214a 5 = .ok (.invokestatic 414, 3) := by decide +kernel
theorem dJ2_checkIndex_2214a_8 : decode cJ2_checkIndex_2214a 8 = .ok (.return_, 1) := by decide +kernel
theorem dJ3_checkIndex_8e157_0 : decode cJ3_checkIndex_8e157 0 = .ok (.iload_n 0, 1) := by decide +kernel
theorem dJ3_checkIndex_8e157_1 : decode cJ3_checkIndex_8e157 1 = .ok (.ifCond .lt 8, 3) := by decide +kernel
theorem dJ3_checkIndex_8e157_4 : decode cJ3_checkIndex_8e157 4 = .ok (.iload_n 0, 1) := by decide +kernel
theorem dJ3_checkIndex_8e157_5 : decode cJ3_checkIndex_8e157 5 = .ok (.iload_n 1, 1) := by decide +kernel
theorem dJ3_checkIndex_8e157_6 : decode cJ3_checkIndex_8e157 6 = .ok (.if_icmp .lt 10, 3) := by decide +kernel
theorem dJ3_checkIndex_8e157_9 : decode cJ3_checkIndex_8e157 9 = .ok (.aload_n 2, 1) := by decide +kernel
theorem dJ3_checkIndex_8e157_10 : decode cJ3_checkIndex_8e157 10 = .ok (.iload_n 0, 1) := by decide +kernel
theorem dJ3_checkIndex_8e157_11 : decode cJ3_checkIndex_8e157 11 = .ok (.iload_n 1, 1) := by decide +kernel
theorem dJ3_checkIndex_8e157_12 : decode cJ3_checkIndex_8e157 12 = .ok (.invokestatic 95, 3) := by decide +kernel
theorem dJ3_checkIndex_8e157_15 : decode cJ3_checkIndex_8e157 15 = .ok (.athrow, 1) := by decide +kernel
theorem dJ3_checkIndex_8e157_16 : decode cJ3_checkIndex_8e157 16 = .ok (.iload_n 0, 1) := by decide +kernel
theorem dJ3_checkIndex_8e157_17 : decode cJ3_checkIndex_8e157 17 = .ok (.ireturn, 1) := by decide +kernel
theorem dL_height_0 : decode cL_height 0 = .ok (.aload_n 3, 1) := by decide +kernel
theorem dL_height_1 : decode cL_height 1 = .ok (.iconst 0, 1) := by decide +kernel
theorem dL_height_2 : decode cL_height 2 = .ok (.aload_n 0, 1) := by decide +kernel
theorem dL_height_3 : decode cL_height 3 = .ok (.iload_n 1, 1) := by decide +kernel
theorem dL_height_4 : decode cL_height 4 = .ok (.iload_n 2, 1) := by decide +kernel
theorem dL_height_5 : decode cL_height 5 = .ok (.invokevirtual 7, 3) := by decide +kernel
theorem dL_height_8 : decode cL_height 8 = .ok (.i2l, 1) := by decide +kernel
theorem dL_height_9 : decode cL_height 9 = .ok (.lastore, 1) := by decide +kernel
theorem dL_height_10 : decode cL_height 10 = .ok (.goto 15, 3) := by decide +kernel
theorem dL_height_13 : decode cL_height 13 = .ok (.astore 4, 2) := by decide +kernel
theorem dL_height_15 : decode cL_height 15 = .ok (.iconst 1, 1) := by decide +kernel
theorem dL_height_16 : decode cL_height 16 = .ok (.ireturn, 1) := by decide +kernel
theorem dL_height_17 : decode cL_height 17 = .ok (.astore 4, 2) := by decide +kernel
theorem dL_height_19 : decode cL_height 19 = .ok (.iconst 2, 1) := by decide +kernel
theorem dL_height_20 : decode cL_height 20 = .ok (.ireturn, 1) := by decide +kernel
theorem dL_height_21 : decode cL_height 21 = .ok (.astore 4, 2) := by decide +kernel
theorem dL_height_23 : decode cL_height 23 = .ok (.iconst 3, 1) := by decide +kernel
theorem dL_height_24 : decode cL_height 24 = .ok (.ireturn, 1) := by decide +kernel
theorem dL_height_25 : decode cL_height 25 = .ok (.iconst 0, 1) := by decide +kernel
theorem dL_height_26 : decode cL_height 26 = .ok (.ireturn, 1) := by decide +kernel
theorem dL_rain_0 : decode cL_rain 0 = .ok (.aload_n 2, 1) := by decide +kernel
theorem dL_rain_1 : decode cL_rain 1 = .ok (.iconst 0, 1) := by decide +kernel
theorem dL_rain_2 : decode cL_rain 2 = .ok (.aload_n 0, 1) := by decide +kernel
theorem dL_rain_3 : decode cL_rain 3 = .ok (.iload_n 1, 1) := by decide +kernel
theorem dL_rain_4 : decode cL_rain 4 = .ok (.invokevirtual 19, 3) := by decide +kernel
theorem dL_rain_7 : decode cL_rain 7 = .ok (.i2l, 1) := by decide +kernel
theorem dL_rain_8 : decode cL_rain 8 = .ok (.lastore, 1) := by decide +kernel
theorem dL_rain_9 : decode cL_rain 9 = .ok (.goto 6, 3) := by decide +kernel
theorem dL_rain_12 : decode cL_rain 12 = .ok (.astore_n 3, 1) := by decide +kernel
theorem dL_rain_13 : decode cL_rain 13 = .ok (.iconst 1, 1) := by decide +kernel
theorem dL_rain_14 : decode cL_rain 14 = .ok (.ireturn, 1) := by decide +kernel
theorem dL_rain_15 : decode cL_rain 15 = .ok (.iconst 0, 1) := by decide +kernel
theorem dL_rain_16 : decode cL_rain 16 = .ok (.ireturn, 1) := by decide +kernel
theorem dL_letters_0 : decode cL_letters 0 = .ok (.aload_n 2, 1) := by decide +kernel
theorem dL_letters_1 : decode cL_letters 1 = .ok (.iconst 0, 1) := by decide +kernel
theorem dL_letters_2 : decode cL_letters 2 = .ok (.aload_n 0, 1) := by decide +kernel
theorem dL_letters_3 : decode cL_letters 3 = .ok (.iload_n 1, 1) := by decide +kernel
theorem dL_letters_4 : decode cL_letters 4 = .ok (.invokevirtual 23, 3) := by decide +kernel
theorem dL_letters_7 : decode cL_letters 7 = .ok (.i2l, 1) := by decide +kernel
theorem dL_letters_8 : decode cL_letters 8 = .ok (.lastore, 1) := by decide +kernel
theorem dL_letters_9 : decode cL_letters 9 = .ok (.goto 9, 3) := by decide +kernel
theorem dL_letters_12 : decode cL_letters 12 = .ok (.astore_n 3, 1) := by decide +kernel
theorem dL_letters_13 : decode cL_letters 13 = .ok (.iconst 1, 1) := by decide +kernel
theorem dL_letters_14 : decode cL_letters 14 = .ok (.ireturn, 1) := by decide +kernel
theorem dL_letters_15 : decode cL_letters 15 = .ok (.astore_n 3, 1) := by decide +kernel
theorem dL_letters_16 : decode cL_letters 16 = .ok (.iconst 2, 1) := by decide +kernel
theorem dL_letters_17 : decode cL_letters 17 = .ok (.ireturn, 1) := by decide +kernel
theorem dL_letters_18 : decode cL_letters 18 = .ok (.iconst 0, 1) := by decide +kernel
theorem dL_letters_19 : decode cL_letters 19 = .ok (.ireturn, 1) := by decide +kernel
theorem dL_stoneOf_0 : decode cL_stoneOf 0 = .ok (.aload_n 3, 1) := by decide +kernel
theorem dL_stoneOf_1 : decode cL_stoneOf 1 = .ok (.iconst 0, 1) := by decide +kernel
theorem dL_stoneOf_2 : decode cL_stoneOf 2 = .ok (.aload_n 0, 1) := by decide +kernel
theorem dL_stoneOf_3 : decode cL_stoneOf 3 = .ok (.iload_n 1, 1) := by decide +kernel
theorem dL_stoneOf_4 : decode cL_stoneOf 4 = .ok (.iload_n 2, 1) := by decide +kernel
theorem dL_stoneOf_5 : decode cL_stoneOf 5 = .ok (.invokevirtual 26, 3) := by decide +kernel
theorem dL_stoneOf_8 : decode cL_stoneOf 8 = .ok (.i2l, 1) := by decide +kernel
theorem dL_stoneOf_9 : decode cL_stoneOf 9 = .ok (.lastore, 1) := by decide +kernel
theorem dL_stoneOf_10 : decode cL_stoneOf 10 = .ok (.goto 11, 3) := by decide +kernel
theorem dL_stoneOf_13 : decode cL_stoneOf 13 = .ok (.astore 4, 2) := by decide +kernel
theorem dL_stoneOf_15 : decode cL_stoneOf 15 = .ok (.iconst 1, 1) := by decide +kernel
theorem dL_stoneOf_16 : decode cL_stoneOf 16 = .ok (.ireturn, 1) := by decide +kernel
theorem dL_stoneOf_17 : decode cL_stoneOf 17 = .ok (.astore 4, 2) := by decide +kernel
theorem dL_stoneOf_19 : decode cL_stoneOf 19 = .ok (.iconst 2, 1) := by decide +kernel
theorem dL_stoneOf_20 : decode cL_stoneOf 20 = .ok (.ireturn, 1) := by decide +kernel
theorem dL_stoneOf_21 : decode cL_stoneOf 21 = .ok (.iconst 0, 1) := by decide +kernel
theorem dL_stoneOf_22 : decode cL_stoneOf 22 = .ok (.ireturn, 1) := by decide +kernel
theorem dL_flood_0 : decode cL_flood 0 = .ok (.aload_n 2, 1) := by decide +kernel
theorem dL_flood_1 : decode cL_flood 1 = .ok (.iconst 0, 1) := by decide +kernel
theorem dL_flood_2 : decode cL_flood 2 = .ok (.aload_n 0, 1) := by decide +kernel
theorem dL_flood_3 : decode cL_flood 3 = .ok (.iload_n 1, 1) := by decide +kernel
theorem dL_flood_4 : decode cL_flood 4 = .ok (.invokevirtual 29, 3) := by decide +kernel
theorem dL_flood_7 : decode cL_flood 7 = .ok (.i2l, 1) := by decide +kernel
theorem dL_flood_8 : decode cL_flood 8 = .ok (.lastore, 1) := by decide +kernel
theorem dL_flood_9 : decode cL_flood 9 = .ok (.goto 6, 3) := by decide +kernel
theorem dL_flood_12 : decode cL_flood 12 = .ok (.astore_n 3, 1) := by decide +kernel
theorem dL_flood_13 : decode cL_flood 13 = .ok (.iconst 1, 1) := by decide +kernel
theorem dL_flood_14 : decode cL_flood 14 = .ok (.ireturn, 1) := by decide +kernel
theorem dL_flood_15 : decode cL_flood 15 = .ok (.iconst 0, 1) := by decide +kernel
theorem dL_flood_16 : decode cL_flood 16 = .ok (.ireturn, 1) := by decide +kernel
theorem dL_floodAgain_0 : decode cL_floodAgain 0 = .ok (.aload_n 2, 1) := by decide +kernel
theorem dL_floodAgain_1 : decode cL_floodAgain 1 = .ok (.iconst 0, 1) := by decide +kernel
theorem dL_floodAgain_2 : decode cL_floodAgain 2 = .ok (.aload_n 0, 1) := by decide +kernel
theorem dL_floodAgain_3 : decode cL_floodAgain 3 = .ok (.iload_n 1, 1) := by decide +kernel
theorem dL_floodAgain_4 : decode cL_floodAgain 4 = .ok (.invokevirtual 32, 3) := by decide +kernel
theorem dL_floodAgain_7 : decode cL_floodAgain 7 = .ok (.i2l, 1) := by decide +kernel
theorem dL_floodAgain_8 : decode cL_floodAgain 8 = .ok (.lastore, 1) := by decide +kernel
theorem dL_floodAgain_9 : decode cL_floodAgain 9 = .ok (.goto 6, 3) := by decide +kernel
theorem dL_floodAgain_12 : decode cL_floodAgain 12 = .ok (.astore_n 3, 1) := by decide +kernel
theorem dL_floodAgain_13 : decode cL_floodAgain 13 = .ok (.iconst 1, 1) := by decide +kernel
theorem dL_floodAgain_14 : decode cL_floodAgain 14 = .ok (.ireturn, 1) := by decide +kernel
theorem dL_floodAgain_15 : decode cL_floodAgain 15 = .ok (.iconst 0, 1) := by decide +kernel
theorem dL_floodAgain_16 : decode cL_floodAgain 16 = .ok (.ireturn, 1) := by decide +kernel
theorem dL_clearIn_0 : decode cL_clearIn 0 = .ok (.aload_n 1, 1) := by decide +kernel
theorem dL_clearIn_1 : decode cL_clearIn 1 = .ok (.iconst 0, 1) := by decide +kernel
theorem dL_clearIn_2 : decode cL_clearIn 2 = .ok (.aload_n 0, 1) := by decide +kernel
theorem dL_clearIn_3 : decode cL_clearIn 3 = .ok (.invokevirtual 35, 3) := by decide +kernel
theorem dL_clearIn_6 : decode cL_clearIn 6 = .ok (.i2l, 1) := by decide +kernel
theorem dL_clearIn_7 : decode cL_clearIn 7 = .ok (.lastore, 1) := by decide +kernel
theorem dL_clearIn_8 : decode cL_clearIn 8 = .ok (.goto 6, 3) := by decide +kernel
theorem dL_clearIn_11 : decode cL_clearIn 11 = .ok (.astore_n 2, 1) := by decide +kernel
theorem dL_clearIn_12 : decode cL_clearIn 12 = .ok (.iconst 1, 1) := by decide +kernel
theorem dL_clearIn_13 : decode cL_clearIn 13 = .ok (.ireturn, 1) := by decide +kernel
theorem dL_clearIn_14 : decode cL_clearIn 14 = .ok (.iconst 0, 1) := by decide +kernel
theorem dL_clearIn_15 : decode cL_clearIn 15 = .ok (.ireturn, 1) := by decide +kernel
theorem dL_traveller_0 : decode cL_traveller 0 = .ok (.aload_n 2, 1) := by decide +kernel
theorem dL_traveller_1 : decode cL_traveller 1 = .ok (.iconst 0, 1) := by decide +kernel
theorem dL_traveller_2 : decode cL_traveller 2 = .ok (.aload_n 0, 1) := by decide +kernel
theorem dL_traveller_3 : decode cL_traveller 3 = .ok (.iload_n 1, 1) := by decide +kernel
theorem dL_traveller_4 : decode cL_traveller 4 = .ok (.invokevirtual 41, 3) := by decide +kernel
theorem dL_traveller_7 : decode cL_traveller 7 = .ok (.i2l, 1) := by decide +kernel
theorem dL_traveller_8 : decode cL_traveller 8 = .ok (.lastore, 1) := by decide +kernel
theorem dL_traveller_9 : decode cL_traveller 9 = .ok (.goto 9, 3) := by decide +kernel
theorem dL_traveller_12 : decode cL_traveller 12 = .ok (.astore_n 3, 1) := by decide +kernel
theorem dL_traveller_13 : decode cL_traveller 13 = .ok (.iconst 1, 1) := by decide +kernel
theorem dL_traveller_14 : decode cL_traveller 14 = .ok (.ireturn, 1) := by decide +kernel
theorem dL_traveller_15 : decode cL_traveller 15 = .ok (.astore_n 3, 1) := by decide +kernel
theorem dL_traveller_16 : decode cL_traveller 16 = .ok (.iconst 2, 1) := by decide +kernel
theorem dL_traveller_17 : decode cL_traveller 17 = .ok (.ireturn, 1) := by decide +kernel
theorem dL_traveller_18 : decode cL_traveller 18 = .ok (.iconst 0, 1) := by decide +kernel
theorem dL_traveller_19 : decode cL_traveller 19 = .ok (.ireturn, 1) := by decide +kernel
theorem dL_travellerOf_0 : decode cL_travellerOf 0 = .ok (.aload_n 3, 1) := by decide +kernel
theorem dL_travellerOf_1 : decode cL_travellerOf 1 = .ok (.iconst 0, 1) := by decide +kernel
theorem dL_travellerOf_2 : decode cL_travellerOf 2 = .ok (.aload_n 0, 1) := by decide +kernel
theorem dL_travellerOf_3 : decode cL_travellerOf 3 = .ok (.iload_n 1, 1) := by decide +kernel
theorem dL_travellerOf_4 : decode cL_travellerOf 4 = .ok (.iload_n 2, 1) := by decide +kernel
theorem dL_travellerOf_5 : decode cL_travellerOf 5 = .ok (.invokevirtual 44, 3) := by decide +kernel
theorem dL_travellerOf_8 : decode cL_travellerOf 8 = .ok (.i2l, 1) := by decide +kernel
theorem dL_travellerOf_9 : decode cL_travellerOf 9 = .ok (.lastore, 1) := by decide +kernel
theorem dL_travellerOf_10 : decode cL_travellerOf 10 = .ok (.goto 11, 3) := by decide +kernel
theorem dL_travellerOf_13 : decode cL_travellerOf 13 = .ok (.astore 4, 2) := by decide +kernel
theorem dL_travellerOf_15 : decode cL_travellerOf 15 = .ok (.iconst 1, 1) := by decide +kernel
theorem dL_travellerOf_16 : decode cL_travellerOf 16 = .ok (.ireturn, 1) := by decide +kernel
theorem dL_travellerOf_17 : decode cL_travellerOf 17 = .ok (.astore 4, 2) := by decide +kernel
theorem dL_travellerOf_19 : decode cL_travellerOf 19 = .ok (.iconst 2, 1) := by decide +kernel
theorem dL_travellerOf_20 : decode cL_travellerOf 20 = .ok (.ireturn, 1) := by decide +kernel
theorem dL_travellerOf_21 : decode cL_travellerOf 21 = .ok (.iconst 0, 1) := by decide +kernel
theorem dL_travellerOf_22 : decode cL_travellerOf 22 = .ok (.ireturn, 1) := by decide +kernel
theorem dL_fee_0 : decode cL_fee 0 = .ok (.aload_n 2, 1) := by decide +kernel
theorem dL_fee_1 : decode cL_fee 1 = .ok (.iconst 0, 1) := by decide +kernel
theorem dL_fee_2 : decode cL_fee 2 = .ok (.aload_n 0, 1) := by decide +kernel
theorem dL_fee_3 : decode cL_fee 3 = .ok (.iload_n 1, 1) := by decide +kernel
theorem dL_fee_4 : decode cL_fee 4 = .ok (.invokevirtual 47, 3) := by decide +kernel
theorem dL_fee_7 : decode cL_fee 7 = .ok (.i2l, 1) := by decide +kernel
theorem dL_fee_8 : decode cL_fee 8 = .ok (.lastore, 1) := by decide +kernel
theorem dL_fee_9 : decode cL_fee 9 = .ok (.goto 6, 3) := by decide +kernel
theorem dL_fee_12 : decode cL_fee 12 = .ok (.astore_n 3, 1) := by decide +kernel
theorem dL_fee_13 : decode cL_fee 13 = .ok (.iconst 1, 1) := by decide +kernel
theorem dL_fee_14 : decode cL_fee 14 = .ok (.ireturn, 1) := by decide +kernel
theorem dL_fee_15 : decode cL_fee 15 = .ok (.iconst 0, 1) := by decide +kernel
theorem dL_fee_16 : decode cL_fee 16 = .ok (.ireturn, 1) := by decide +kernel
theorem dL_setOut_0 : decode cL_setOut 0 = .ok (.aload_n 2, 1) := by decide +kernel
theorem dL_setOut_1 : decode cL_setOut 1 = .ok (.iconst 0, 1) := by decide +kernel
theorem dL_setOut_2 : decode cL_setOut 2 = .ok (.aload_n 0, 1) := by decide +kernel
theorem dL_setOut_3 : decode cL_setOut 3 = .ok (.iload_n 1, 1) := by decide +kernel
theorem dL_setOut_4 : decode cL_setOut 4 = .ok (.invokevirtual 50, 3) := by decide +kernel
theorem dL_setOut_7 : decode cL_setOut 7 = .ok (.i2l, 1) := by decide +kernel
theorem dL_setOut_8 : decode cL_setOut 8 = .ok (.lastore, 1) := by decide +kernel
theorem dL_setOut_9 : decode cL_setOut 9 = .ok (.goto 9, 3) := by decide +kernel
theorem dL_setOut_12 : decode cL_setOut 12 = .ok (.astore_n 3, 1) := by decide +kernel
theorem dL_setOut_13 : decode cL_setOut 13 = .ok (.iconst 1, 1) := by decide +kernel
theorem dL_setOut_14 : decode cL_setOut 14 = .ok (.ireturn, 1) := by decide +kernel
theorem dL_setOut_15 : decode cL_setOut 15 = .ok (.astore_n 3, 1) := by decide +kernel
theorem dL_setOut_16 : decode cL_setOut 16 = .ok (.iconst 2, 1) := by decide +kernel
theorem dL_setOut_17 : decode cL_setOut 17 = .ok (.ireturn, 1) := by decide +kernel
theorem dL_setOut_18 : decode cL_setOut 18 = .ok (.iconst 0, 1) := by decide +kernel
theorem dL_setOut_19 : decode cL_setOut 19 = .ok (.ireturn, 1) := by decide +kernel
theorem dL_stop_0 : decode cL_stop 0 = .ok (.aload_n 2, 1) := by decide +kernel
theorem dL_stop_1 : decode cL_stop 1 = .ok (.iconst 0, 1) := by decide +kernel
theorem dL_stop_2 : decode cL_stop 2 = .ok (.aload_n 0, 1) := by decide +kernel
theorem dL_stop_3 : decode cL_stop 3 = .ok (.iload_n 1, 1) := by decide +kernel
theorem dL_stop_4 : decode cL_stop 4 = .ok (.invokevirtual 53, 3) := by decide +kernel
theorem dL_stop_7 : decode cL_stop 7 = .ok (.i2l, 1) := by decide +kernel
theorem dL_stop_8 : decode cL_stop 8 = .ok (.lastore, 1) := by decide +kernel
theorem dL_stop_9 : decode cL_stop 9 = .ok (.goto 9, 3) := by decide +kernel
theorem dL_stop_12 : decode cL_stop 12 = .ok (.astore_n 3, 1) := by decide +kernel
theorem dL_stop_13 : decode cL_stop 13 = .ok (.iconst 1, 1) := by decide +kernel
theorem dL_stop_14 : decode cL_stop 14 = .ok (.ireturn, 1) := by decide +kernel
theorem dL_stop_15 : decode cL_stop 15 = .ok (.astore_n 3, 1) := by decide +kernel
theorem dL_stop_16 : decode cL_stop 16 = .ok (.iconst 2, 1) := by decide +kernel
theorem dL_stop_17 : decode cL_stop 17 = .ok (.ireturn, 1) := by decide +kernel
theorem dL_stop_18 : decode cL_stop 18 = .ok (.iconst 0, 1) := by decide +kernel
theorem dL_stop_19 : decode cL_stop 19 = .ok (.ireturn, 1) := by decide +kernel
theorem dL_go_0 : decode cL_go 0 = .ok (.aload_n 2, 1) := by decide +kernel
theorem dL_go_1 : decode cL_go 1 = .ok (.iconst 0, 1) := by decide +kernel
theorem dL_go_2 : decode cL_go 2 = .ok (.aload_n 0, 1) := by decide +kernel
theorem dL_go_3 : decode cL_go 3 = .ok (.iload_n 1, 1) := by decide +kernel
theorem dL_go_4 : decode cL_go 4 = .ok (.invokevirtual 56, 3) := by decide +kernel
theorem dL_go_7 : decode cL_go 7 = .ok (.i2l, 1) := by decide +kernel
theorem dL_go_8 : decode cL_go 8 = .ok (.lastore, 1) := by decide +kernel
theorem dL_go_9 : decode cL_go 9 = .ok (.goto 9, 3) := by decide +kernel
theorem dL_go_12 : decode cL_go 12 = .ok (.astore_n 3, 1) := by decide +kernel
theorem dL_go_13 : decode cL_go 13 = .ok (.iconst 1, 1) := by decide +kernel
theorem dL_go_14 : decode cL_go 14 = .ok (.ireturn, 1) := by decide +kernel
theorem dL_go_15 : decode cL_go 15 = .ok (.astore_n 3, 1) := by decide +kernel
theorem dL_go_16 : decode cL_go 16 = .ok (.iconst 2, 1) := by decide +kernel
theorem dL_go_17 : decode cL_go 17 = .ok (.ireturn, 1) := by decide +kernel
theorem dL_go_18 : decode cL_go 18 = .ok (.iconst 0, 1) := by decide +kernel
theorem dL_go_19 : decode cL_go 19 = .ok (.ireturn, 1) := by decide +kernel
theorem dL_leave_0 : decode cL_leave 0 = .ok (.aload_n 2, 1) := by decide +kernel
theorem dL_leave_1 : decode cL_leave 1 = .ok (.iconst 0, 1) := by decide +kernel
theorem dL_leave_2 : decode cL_leave 2 = .ok (.aload_n 0, 1) := by decide +kernel
theorem dL_leave_3 : decode cL_leave 3 = .ok (.iload_n 1, 1) := by decide +kernel
theorem dL_leave_4 : decode cL_leave 4 = .ok (.invokevirtual 59, 3) := by decide +kernel
theorem dL_leave_7 : decode cL_leave 7 = .ok (.i2l, 1) := by decide +kernel
theorem dL_leave_8 : decode cL_leave 8 = .ok (.lastore, 1) := by decide +kernel
theorem dL_leave_9 : decode cL_leave 9 = .ok (.goto 9, 3) := by decide +kernel
theorem dL_leave_12 : decode cL_leave 12 = .ok (.astore_n 3, 1) := by decide +kernel
theorem dL_leave_13 : decode cL_leave 13 = .ok (.iconst 1, 1) := by decide +kernel
theorem dL_leave_14 : decode cL_leave 14 = .ok (.ireturn, 1) := by decide +kernel
theorem dL_leave_15 : decode cL_leave 15 = .ok (.astore_n 3, 1) := by decide +kernel
theorem dL_leave_16 : decode cL_leave 16 = .ok (.iconst 2, 1) := by decide +kernel
theorem dL_leave_17 : decode cL_leave 17 = .ok (.ireturn, 1) := by decide +kernel
theorem dL_leave_18 : decode cL_leave 18 = .ok (.iconst 0, 1) := by decide +kernel
theorem dL_leave_19 : decode cL_leave 19 = .ok (.ireturn, 1) := by decide +kernel
theorem dL_pass_0 : decode cL_pass 0 = .ok (.aload_n 2, 1) := by decide +kernel
theorem dL_pass_1 : decode cL_pass 1 = .ok (.iconst 0, 1) := by decide +kernel
theorem dL_pass_2 : decode cL_pass 2 = .ok (.aload_n 0, 1) := by decide +kernel
theorem dL_pass_3 : decode cL_pass 3 = .ok (.iload_n 1, 1) := by decide +kernel
theorem dL_pass_4 : decode cL_pass 4 = .ok (.invokevirtual 62, 3) := by decide +kernel
theorem dL_pass_7 : decode cL_pass 7 = .ok (.i2l, 1) := by decide +kernel
theorem dL_pass_8 : decode cL_pass 8 = .ok (.lastore, 1) := by decide +kernel
theorem dL_pass_9 : decode cL_pass 9 = .ok (.goto 6, 3) := by decide +kernel
theorem dL_pass_12 : decode cL_pass 12 = .ok (.astore_n 3, 1) := by decide +kernel
theorem dL_pass_13 : decode cL_pass 13 = .ok (.iconst 1, 1) := by decide +kernel
theorem dL_pass_14 : decode cL_pass 14 = .ok (.ireturn, 1) := by decide +kernel
theorem dL_pass_15 : decode cL_pass 15 = .ok (.iconst 0, 1) := by decide +kernel
theorem dL_pass_16 : decode cL_pass 16 = .ok (.ireturn, 1) := by decide +kernel
theorem dL_crossedIn_0 : decode cL_crossedIn 0 = .ok (.aload_n 2, 1) := by decide +kernel
theorem dL_crossedIn_1 : decode cL_crossedIn 1 = .ok (.iconst 0, 1) := by decide +kernel
theorem dL_crossedIn_2 : decode cL_crossedIn 2 = .ok (.aload_n 0, 1) := by decide +kernel
theorem dL_crossedIn_3 : decode cL_crossedIn 3 = .ok (.iload_n 1, 1) := by decide +kernel
theorem dL_crossedIn_4 : decode cL_crossedIn 4 = .ok (.invokevirtual 65, 3) := by decide +kernel
theorem dL_crossedIn_7 : decode cL_crossedIn 7 = .ok (.i2l, 1) := by decide +kernel
theorem dL_crossedIn_8 : decode cL_crossedIn 8 = .ok (.lastore, 1) := by decide +kernel
theorem dL_crossedIn_9 : decode cL_crossedIn 9 = .ok (.goto 9, 3) := by decide +kernel
theorem dL_crossedIn_12 : decode cL_crossedIn 12 = .ok (.astore_n 3, 1) := by decide +kernel
theorem dL_crossedIn_13 : decode cL_crossedIn 13 = .ok (.iconst 1, 1) := by decide +kernel
theorem dL_crossedIn_14 : decode cL_crossedIn 14 = .ok (.ireturn, 1) := by decide +kernel
theorem dL_crossedIn_15 : decode cL_crossedIn 15 = .ok (.astore_n 3, 1) := by decide +kernel
theorem dL_crossedIn_16 : decode cL_crossedIn 16 = .ok (.iconst 2, 1) := by decide +kernel
theorem dL_crossedIn_17 : decode cL_crossedIn 17 = .ok (.ireturn, 1) := by decide +kernel
theorem dL_crossedIn_18 : decode cL_crossedIn 18 = .ok (.iconst 0, 1) := by decide +kernel
theorem dL_crossedIn_19 : decode cL_crossedIn 19 = .ok (.ireturn, 1) := by decide +kernel
theorem dL_wetSteps_0 : decode cL_wetSteps 0 = .ok (.aload_n 2, 1) := by decide +kernel
theorem dL_wetSteps_1 : decode cL_wetSteps 1 = .ok (.iconst 0, 1) := by decide +kernel
theorem dL_wetSteps_2 : decode cL_wetSteps 2 = .ok (.aload_n 0, 1) := by decide +kernel
theorem dL_wetSteps_3 : decode cL_wetSteps 3 = .ok (.iload_n 1, 1) := by decide +kernel
theorem dL_wetSteps_4 : decode cL_wetSteps 4 = .ok (.invokevirtual 68, 3) := by decide +kernel
theorem dL_wetSteps_7 : decode cL_wetSteps 7 = .ok (.i2l, 1) := by decide +kernel
theorem dL_wetSteps_8 : decode cL_wetSteps 8 = .ok (.lastore, 1) := by decide +kernel
theorem dL_wetSteps_9 : decode cL_wetSteps 9 = .ok (.goto 9, 3) := by decide +kernel
theorem dL_wetSteps_12 : decode cL_wetSteps 12 = .ok (.astore_n 3, 1) := by decide +kernel
theorem dL_wetSteps_13 : decode cL_wetSteps 13 = .ok (.iconst 1, 1) := by decide +kernel
theorem dL_wetSteps_14 : decode cL_wetSteps 14 = .ok (.ireturn, 1) := by decide +kernel
theorem dL_wetSteps_15 : decode cL_wetSteps 15 = .ok (.astore_n 3, 1) := by decide +kernel
theorem dL_wetSteps_16 : decode cL_wetSteps 16 = .ok (.iconst 2, 1) := by decide +kernel
theorem dL_wetSteps_17 : decode cL_wetSteps 17 = .ok (.ireturn, 1) := by decide +kernel
theorem dL_wetSteps_18 : decode cL_wetSteps 18 = .ok (.iconst 0, 1) := by decide +kernel
theorem dL_wetSteps_19 : decode cL_wetSteps 19 = .ok (.ireturn, 1) := by decide +kernel
theorem dL_type_0 : decode cL_type 0 = .ok (.aload_n 2, 1) := by decide +kernel
theorem dL_type_1 : decode cL_type 1 = .ok (.iconst 0, 1) := by decide +kernel
theorem dL_type_2 : decode cL_type 2 = .ok (.aload_n 0, 1) := by decide +kernel
theorem dL_type_3 : decode cL_type 3 = .ok (.iload_n 1, 1) := by decide +kernel
theorem dL_type_4 : decode cL_type 4 = .ok (.invokevirtual 71, 3) := by decide +kernel
theorem dL_type_7 : decode cL_type 7 = .ok (.i2l, 1) := by decide +kernel
theorem dL_type_8 : decode cL_type 8 = .ok (.lastore, 1) := by decide +kernel
theorem dL_type_9 : decode cL_type 9 = .ok (.goto 6, 3) := by decide +kernel
theorem dL_type_12 : decode cL_type 12 = .ok (.astore_n 3, 1) := by decide +kernel
theorem dL_type_13 : decode cL_type 13 = .ok (.iconst 1, 1) := by decide +kernel
theorem dL_type_14 : decode cL_type 14 = .ok (.ireturn, 1) := by decide +kernel
theorem dL_type_15 : decode cL_type 15 = .ok (.iconst 0, 1) := by decide +kernel
theorem dL_type_16 : decode cL_type 16 = .ok (.ireturn, 1) := by decide +kernel
theorem dL_ask_0 : decode cL_ask 0 = .ok (.aload_n 1, 1) := by decide +kernel
theorem dL_ask_1 : decode cL_ask 1 = .ok (.iconst 0, 1) := by decide +kernel
theorem dL_ask_2 : decode cL_ask 2 = .ok (.aload_n 0, 1) := by decide +kernel
theorem dL_ask_3 : decode cL_ask 3 = .ok (.invokevirtual 77, 3) := by decide +kernel
theorem dL_ask_6 : decode cL_ask 6 = .ok (.i2l, 1) := by decide +kernel
theorem dL_ask_7 : decode cL_ask 7 = .ok (.lastore, 1) := by decide +kernel
theorem dL_ask_8 : decode cL_ask 8 = .ok (.goto 6, 3) := by decide +kernel
theorem dL_ask_11 : decode cL_ask 11 = .ok (.astore_n 2, 1) := by decide +kernel
theorem dL_ask_12 : decode cL_ask 12 = .ok (.iconst 1, 1) := by decide +kernel
theorem dL_ask_13 : decode cL_ask 13 = .ok (.ireturn, 1) := by decide +kernel
theorem dL_ask_14 : decode cL_ask 14 = .ok (.iconst 0, 1) := by decide +kernel
theorem dL_ask_15 : decode cL_ask 15 = .ok (.ireturn, 1) := by decide +kernel
theorem dL_answer_0 : decode cL_answer 0 = .ok (.aload_n 2, 1) := by decide +kernel
theorem dL_answer_1 : decode cL_answer 1 = .ok (.iconst 0, 1) := by decide +kernel
theorem dL_answer_2 : decode cL_answer 2 = .ok (.aload_n 0, 1) := by decide +kernel
theorem dL_answer_3 : decode cL_answer 3 = .ok (.iload_n 1, 1) := by decide +kernel
theorem dL_answer_4 : decode cL_answer 4 = .ok (.invokevirtual 80, 3) := by decide +kernel
theorem dL_answer_7 : decode cL_answer 7 = .ok (.i2l, 1) := by decide +kernel
theorem dL_answer_8 : decode cL_answer 8 = .ok (.lastore, 1) := by decide +kernel
theorem dL_answer_9 : decode cL_answer 9 = .ok (.goto 6, 3) := by decide +kernel
theorem dL_answer_12 : decode cL_answer 12 = .ok (.astore_n 3, 1) := by decide +kernel
theorem dL_answer_13 : decode cL_answer 13 = .ok (.iconst 1, 1) := by decide +kernel
theorem dL_answer_14 : decode cL_answer 14 = .ok (.ireturn, 1) := by decide +kernel
theorem dL_answer_15 : decode cL_answer 15 = .ok (.iconst 0, 1) := by decide +kernel
theorem dL_answer_16 : decode cL_answer 16 = .ok (.ireturn, 1) := by decide +kernel
theorem dL_errorPosition_0 : decode cL_errorPosition 0 = .ok (.aload_n 1, 1) := by decide +kernel
theorem dL_errorPosition_1 : decode cL_errorPosition 1 = .ok (.iconst 0, 1) := by decide +kernel
theorem dL_errorPosition_2 : decode cL_errorPosition 2 = .ok (.aload_n 0, 1) := by decide +kernel
theorem dL_errorPosition_3 : decode cL_errorPosition 3 = .ok (.invokevirtual 83, 3) := by decide +kernel
theorem dL_errorPosition_6 : decode cL_errorPosition 6 = .ok (.i2l, 1) := by decide +kernel
theorem dL_errorPosition_7 : decode cL_errorPosition 7 = .ok (.lastore, 1) := by decide +kernel
theorem dL_errorPosition_8 : decode cL_errorPosition 8 = .ok (.goto 6, 3) := by decide +kernel
theorem dL_errorPosition_11 : decode cL_errorPosition 11 = .ok (.astore_n 2, 1) := by decide +kernel
theorem dL_errorPosition_12 : decode cL_errorPosition 12 = .ok (.iconst 1, 1) := by decide +kernel
theorem dL_errorPosition_13 : decode cL_errorPosition 13 = .ok (.ireturn, 1) := by decide +kernel
theorem dL_errorPosition_14 : decode cL_errorPosition 14 = .ok (.iconst 0, 1) := by decide +kernel
theorem dL_errorPosition_15 : decode cL_errorPosition 15 = .ok (.ireturn, 1) := by decide +kernel
theorem dL_refusal_0 : decode cL_refusal 0 = .ok (.aload_n 2, 1) := by decide +kernel
theorem dL_refusal_1 : decode cL_refusal 1 = .ok (.iconst 0, 1) := by decide +kernel
theorem dL_refusal_2 : decode cL_refusal 2 = .ok (.aload_n 0, 1) := by decide +kernel
theorem dL_refusal_3 : decode cL_refusal 3 = .ok (.iload_n 1, 1) := by decide +kernel
theorem dL_refusal_4 : decode cL_refusal 4 = .ok (.invokevirtual 86, 3) := by decide +kernel
theorem dL_refusal_7 : decode cL_refusal 7 = .ok (.i2l, 1) := by decide +kernel
theorem dL_refusal_8 : decode cL_refusal 8 = .ok (.lastore, 1) := by decide +kernel
theorem dL_refusal_9 : decode cL_refusal 9 = .ok (.goto 6, 3) := by decide +kernel
theorem dL_refusal_12 : decode cL_refusal 12 = .ok (.astore_n 3, 1) := by decide +kernel
theorem dL_refusal_13 : decode cL_refusal 13 = .ok (.iconst 1, 1) := by decide +kernel
theorem dL_refusal_14 : decode cL_refusal 14 = .ok (.ireturn, 1) := by decide +kernel
theorem dL_refusal_15 : decode cL_refusal 15 = .ok (.iconst 0, 1) := by decide +kernel
theorem dL_refusal_16 : decode cL_refusal 16 = .ok (.ireturn, 1) := by decide +kernel
theorem dL_written_0 : decode cL_written 0 = .ok (.aload_n 2, 1) := by decide +kernel
theorem dL_written_1 : decode cL_written 1 = .ok (.iconst 0, 1) := by decide +kernel
theorem dL_written_2 : decode cL_written 2 = .ok (.aload_n 0, 1) := by decide +kernel
theorem dL_written_3 : decode cL_written 3 = .ok (.iload_n 1, 1) := by decide +kernel
theorem dL_written_4 : decode cL_written 4 = .ok (.invokevirtual 90, 3) := by decide +kernel
theorem dL_written_7 : decode cL_written 7 = .ok (.i2l, 1) := by decide +kernel
theorem dL_written_8 : decode cL_written 8 = .ok (.lastore, 1) := by decide +kernel
theorem dL_written_9 : decode cL_written 9 = .ok (.goto 6, 3) := by decide +kernel
theorem dL_written_12 : decode cL_written 12 = .ok (.astore_n 3, 1) := by decide +kernel
theorem dL_written_13 : decode cL_written 13 = .ok (.iconst 1, 1) := by decide +kernel
theorem dL_written_14 : decode cL_written 14 = .ok (.ireturn, 1) := by decide +kernel
theorem dL_written_15 : decode cL_written 15 = .ok (.iconst 0, 1) := by decide +kernel
theorem dL_written_16 : decode cL_written 16 = .ok (.ireturn, 1) := by decide +kernel
theorem dL_account_0 : decode cL_account 0 = .ok (.aload_n 2, 1) := by decide +kernel
theorem dL_account_1 : decode cL_account 1 = .ok (.iconst 0, 1) := by decide +kernel
theorem dL_account_2 : decode cL_account 2 = .ok (.aload_n 0, 1) := by decide +kernel
theorem dL_account_3 : decode cL_account 3 = .ok (.iload_n 1, 1) := by decide +kernel
theorem dL_account_4 : decode cL_account 4 = .ok (.invokevirtual 94, 3) := by decide +kernel
theorem dL_account_7 : decode cL_account 7 = .ok (.i2l, 1) := by decide +kernel
theorem dL_account_8 : decode cL_account 8 = .ok (.lastore, 1) := by decide +kernel
theorem dL_account_9 : decode cL_account 9 = .ok (.goto 6, 3) := by decide +kernel
theorem dL_account_12 : decode cL_account 12 = .ok (.astore_n 3, 1) := by decide +kernel
theorem dL_account_13 : decode cL_account 13 = .ok (.iconst 1, 1) := by decide +kernel
theorem dL_account_14 : decode cL_account 14 = .ok (.ireturn, 1) := by decide +kernel
theorem dL_account_15 : decode cL_account 15 = .ok (.iconst 0, 1) := by decide +kernel
theorem dL_account_16 : decode cL_account 16 = .ok (.ireturn, 1) := by decide +kernel
theorem dL_meanWet_0 : decode cL_meanWet 0 = .ok (.aload_n 1, 1) := by decide +kernel
theorem dL_meanWet_1 : decode cL_meanWet 1 = .ok (.iconst 0, 1) := by decide +kernel
theorem dL_meanWet_2 : decode cL_meanWet 2 = .ok (.aload_n 0, 1) := by decide +kernel
theorem dL_meanWet_3 : decode cL_meanWet 3 = .ok (.invokevirtual 97, 3) := by decide +kernel
theorem dL_meanWet_6 : decode cL_meanWet 6 = .ok (.dastore, 1) := by decide +kernel
theorem dL_meanWet_7 : decode cL_meanWet 7 = .ok (.goto 6, 3) := by decide +kernel
theorem dL_meanWet_10 : decode cL_meanWet 10 = .ok (.astore_n 2, 1) := by decide +kernel
theorem dL_meanWet_11 : decode cL_meanWet 11 = .ok (.iconst 1, 1) := by decide +kernel
theorem dL_meanWet_12 : decode cL_meanWet 12 = .ok (.ireturn, 1) := by decide +kernel
theorem dL_meanWet_13 : decode cL_meanWet 13 = .ok (.iconst 0, 1) := by decide +kernel
theorem dL_meanWet_14 : decode cL_meanWet 14 = .ok (.ireturn, 1) := by decide +kernel
theorem dL_crossingShare_0 : decode cL_crossingShare 0 = .ok (.aload_n 1, 1) := by decide +kernel
theorem dL_crossingShare_1 : decode cL_crossingShare 1 = .ok (.iconst 0, 1) := by decide +kernel
theorem dL_crossingShare_2 : decode cL_crossingShare 2 = .ok (.aload_n 0, 1) := by decide +kernel
theorem dL_crossingShare_3 : decode cL_crossingShare 3 = .ok (.invokevirtual 103, 3) := by decide +kernel
theorem dL_crossingShare_6 : decode cL_crossingShare 6 = .ok (.f2d, 1) := by decide +kernel
theorem dL_crossingShare_7 : decode cL_crossingShare 7 = .ok (.dastore, 1) := by decide +kernel
theorem dL_crossingShare_8 : decode cL_crossingShare 8 = .ok (.goto 6, 3) := by decide +kernel
theorem dL_crossingShare_11 : decode cL_crossingShare 11 = .ok (.astore_n 2, 1) := by decide +kernel
theorem dL_crossingShare_12 : decode cL_crossingShare 12 = .ok (.iconst 1, 1) := by decide +kernel
theorem dL_crossingShare_13 : decode cL_crossingShare 13 = .ok (.ireturn, 1) := by decide +kernel
theorem dL_crossingShare_14 : decode cL_crossingShare 14 = .ok (.iconst 0, 1) := by decide +kernel
theorem dL_crossingShare_15 : decode cL_crossingShare 15 = .ok (.ireturn, 1) := by decide +kernel
theorem dL_undo_0 : decode cL_undo 0 = .ok (.aload_n 1, 1) := by decide +kernel
theorem dL_undo_1 : decode cL_undo 1 = .ok (.iconst 0, 1) := by decide +kernel
theorem dL_undo_2 : decode cL_undo 2 = .ok (.aload_n 0, 1) := by decide +kernel
theorem dL_undo_3 : decode cL_undo 3 = .ok (.invokevirtual 107, 3) := by decide +kernel
theorem dL_undo_6 : decode cL_undo 6 = .ok (.i2l, 1) := by decide +kernel
theorem dL_undo_7 : decode cL_undo 7 = .ok (.lastore, 1) := by decide +kernel
theorem dL_undo_8 : decode cL_undo 8 = .ok (.goto 6, 3) := by decide +kernel
theorem dL_undo_11 : decode cL_undo 11 = .ok (.astore_n 2, 1) := by decide +kernel
theorem dL_undo_12 : decode cL_undo 12 = .ok (.iconst 1, 1) := by decide +kernel
theorem dL_undo_13 : decode cL_undo 13 = .ok (.ireturn, 1) := by decide +kernel
theorem dL_undo_14 : decode cL_undo 14 = .ok (.iconst 0, 1) := by decide +kernel
theorem dL_undo_15 : decode cL_undo 15 = .ok (.ireturn, 1) := by decide +kernel
theorem dL_restore_0 : decode cL_restore 0 = .ok (.aload_n 1, 1) := by decide +kernel
theorem dL_restore_1 : decode cL_restore 1 = .ok (.iconst 0, 1) := by decide +kernel
theorem dL_restore_2 : decode cL_restore 2 = .ok (.aload_n 0, 1) := by decide +kernel
theorem dL_restore_3 : decode cL_restore 3 = .ok (.invokevirtual 110, 3) := by decide +kernel
theorem dL_restore_6 : decode cL_restore 6 = .ok (.i2l, 1) := by decide +kernel
theorem dL_restore_7 : decode cL_restore 7 = .ok (.lastore, 1) := by decide +kernel
theorem dL_restore_8 : decode cL_restore 8 = .ok (.goto 6, 3) := by decide +kernel
theorem dL_restore_11 : decode cL_restore 11 = .ok (.astore_n 2, 1) := by decide +kernel
theorem dL_restore_12 : decode cL_restore 12 = .ok (.iconst 1, 1) := by decide +kernel
theorem dL_restore_13 : decode cL_restore 13 = .ok (.ireturn, 1) := by decide +kernel
theorem dL_restore_14 : decode cL_restore 14 = .ok (.iconst 0, 1) := by decide +kernel
theorem dL_restore_15 : decode cL_restore 15 = .ok (.ireturn, 1) := by decide +kernel
theorem dL_law_0 : decode cL_law 0 = .ok (.new 8, 3) := by decide +kernel
theorem dL_law_3 : decode cL_law 3 = .ok (.dup, 1) := by decide +kernel
theorem dL_law_4 : decode cL_law 4 = .ok (.invokespecial 113, 3) := by decide +kernel
theorem dL_law_7 : decode cL_law 7 = .ok (.astore_n 1, 1) := by decide +kernel
theorem dL_law_8 : decode cL_law 8 = .ok (.new 114, 3) := by decide +kernel
theorem dL_law_11 : decode cL_law 11 = .ok (.dup, 1) := by decide +kernel
theorem dL_law_12 : decode cL_law 12 = .ok (.invokespecial 116, 3) := by decide +kernel
theorem dL_law_15 : decode cL_law 15 = .ok (.astore_n 2, 1) := by decide +kernel
theorem dL_law_16 : decode cL_law 16 = .ok (.iconst 1, 1) := by decide +kernel
theorem dL_law_17 : decode cL_law 17 = .ok (.newarray .long, 2) := by decide +kernel
theorem dL_law_19 : decode cL_law 19 = .ok (.astore_n 3, 1) := by decide +kernel
theorem dL_law_20 : decode cL_law 20 = .ok (.iconst 1, 1) := by decide +kernel
theorem dL_law_21 : decode cL_law 21 = .ok (.newarray .double, 2) := by decide +kernel
theorem dL_law_23 : decode cL_law 23 = .ok (.astore 4, 2) := by decide +kernel
theorem dL_law_25 : decode cL_law 25 = .ok (.iconst 0, 1) := by decide +kernel
theorem dL_law_26 : decode cL_law 26 = .ok (.istore 5, 2) := by decide +kernel
theorem dL_law_28 : decode cL_law 28 = .ok (.iload 5, 2) := by decide +kernel
theorem dL_law_30 : decode cL_law 30 = .ok (.aload_n 0, 1) := by decide +kernel
theorem dL_law_31 : decode cL_law 31 = .ok (.arraylength, 1) := by decide +kernel
theorem dL_law_32 : decode cL_law 32 = .ok (.iconst 3, 1) := by decide +kernel
theorem dL_law_33 : decode cL_law 33 = .ok (.isub, 1) := by decide +kernel
theorem dL_law_34 : decode cL_law 34 = .ok (.if_icmp .gt 1810, 3) := by decide +kernel
theorem dL_law_37 : decode cL_law 37 = .ok (.aload_n 0, 1) := by decide +kernel
theorem dL_law_38 : decode cL_law 38 = .ok (.iload 5, 2) := by decide +kernel
theorem dL_law_40 : decode cL_law 40 = .ok (.iaload, 1) := by decide +kernel
theorem dL_law_41 : decode cL_law 41 = .ok (.bipush 63, 2) := by decide +kernel
theorem dL_law_43 : decode cL_law 43 = .ok (.iand, 1) := by decide +kernel
theorem dL_law_44 : decode cL_law 44 = .ok (.tableswitch 1794 0 32 #[148, 216, 272, 328, 396, 409, 465, 521, 565, 621, 689, 745, 801, 857, 913, 969, 1025, 1081, 1137, 1150, 1208, 1252, 1308, 1352, 1424, 1437, 1493, 1549, 1562, 1627, 1693, 1737, 1750], 148) := by decide +kernel
theorem dL_law_192 : decode cL_law 192 = .ok (.aload_n 1, 1) := by decide +kernel
theorem dL_law_193 : decode cL_law 193 = .ok (.aload_n 0, 1) := by decide +kernel
theorem dL_law_194 : decode cL_law 194 = .ok (.iload 5, 2) := by decide +kernel
theorem dL_law_196 : decode cL_law 196 = .ok (.iconst 1, 1) := by decide +kernel
theorem dL_law_197 : decode cL_law 197 = .ok (.iadd, 1) := by decide +kernel
theorem dL_law_198 : decode cL_law 198 = .ok (.iaload, 1) := by decide +kernel
theorem dL_law_199 : decode cL_law 199 = .ok (.aload_n 0, 1) := by decide +kernel
theorem dL_law_200 : decode cL_law 200 = .ok (.iload 5, 2) := by decide +kernel
theorem dL_law_202 : decode cL_law 202 = .ok (.iconst 2, 1) := by decide +kernel
theorem dL_law_203 : decode cL_law 203 = .ok (.iadd, 1) := by decide +kernel
theorem dL_law_204 : decode cL_law 204 = .ok (.iaload, 1) := by decide +kernel
theorem dL_law_205 : decode cL_law 205 = .ok (.aload_n 3, 1) := by decide +kernel
theorem dL_law_206 : decode cL_law 206 = .ok (.invokestatic 117, 3) := by decide +kernel
theorem dL_law_209 : decode cL_law 209 = .ok (.istore 6, 2) := by decide +kernel
theorem dL_law_211 : decode cL_law 211 = .ok (.aload_n 2, 1) := by decide +kernel
theorem dL_law_212 : decode cL_law 212 = .ok (.aload_n 0, 1) := by decide +kernel
theorem dL_law_213 : decode cL_law 213 = .ok (.iload 5, 2) := by decide +kernel
theorem dL_law_215 : decode cL_law 215 = .ok (.iconst 1, 1) := by decide +kernel
theorem dL_law_216 : decode cL_law 216 = .ok (.iadd, 1) := by decide +kernel
theorem dL_law_217 : decode cL_law 217 = .ok (.iaload, 1) := by decide +kernel
theorem dL_law_218 : decode cL_law 218 = .ok (.aload_n 0, 1) := by decide +kernel
theorem dL_law_219 : decode cL_law 219 = .ok (.iload 5, 2) := by decide +kernel
theorem dL_law_221 : decode cL_law 221 = .ok (.iconst 2, 1) := by decide +kernel
theorem dL_law_222 : decode cL_law 222 = .ok (.iadd, 1) := by decide +kernel
theorem dL_law_223 : decode cL_law 223 = .ok (.iaload, 1) := by decide +kernel
theorem dL_law_224 : decode cL_law 224 = .ok (.invokevirtual 122, 3) := by decide +kernel
theorem dL_law_227 : decode cL_law 227 = .ok (.istore 7, 2) := by decide +kernel
theorem dL_law_229 : decode cL_law 229 = .ok (.aload_n 2, 1) := by decide +kernel
theorem dL_law_230 : decode cL_law 230 = .ok (.invokevirtual 123, 3) := by decide +kernel
theorem dL_law_233 : decode cL_law 233 = .ok (.iload 6, 2) := by decide +kernel
theorem dL_law_235 : decode cL_law 235 = .ok (.if_icmp .eq 5, 3) := by decide +kernel
theorem dL_law_238 : decode cL_law 238 = .ok (.iconst 0, 1) := by decide +kernel
theorem dL_law_239 : decode cL_law 239 = .ok (.ireturn, 1) := by decide +kernel
theorem dL_law_240 : decode cL_law 240 = .ok (.iload 6, 2) := by decide +kernel
theorem dL_law_242 : decode cL_law 242 = .ok (.ifCond .ne 15, 3) := by decide +kernel
theorem dL_law_245 : decode cL_law 245 = .ok (.aload_n 3, 1) := by decide +kernel
theorem dL_law_246 : decode cL_law 246 = .ok (.iconst 0, 1) := by decide +kernel
theorem dL_law_247 : decode cL_law 247 = .ok (.laload, 1) := by decide +kernel
theorem dL_law_248 : decode cL_law 248 = .ok (.iload 7, 2) := by decide +kernel
theorem dL_law_250 : decode cL_law 250 = .ok (.i2l, 1) := by decide +kernel
theorem dL_law_251 : decode cL_law 251 = .ok (.lcmp, 1) := by decide +kernel
theorem dL_law_252 : decode cL_law 252 = .ok (.ifCond .eq 5, 3) := by decide +kernel
theorem dL_law_255 : decode cL_law 255 = .ok (.iconst 0, 1) := by decide +kernel
theorem dL_law_256 : decode cL_law 256 = .ok (.ireturn, 1) := by decide +kernel
theorem dL_law_257 : decode cL_law 257 = .ok (.goto 1581, 3) := by decide +kernel
theorem dL_law_260 : decode cL_law 260 = .ok (.aload_n 1, 1) := by decide +kernel
theorem dL_law_261 : decode cL_law 261 = .ok (.aload_n 0, 1) := by decide +kernel
theorem dL_law_262 : decode cL_law 262 = .ok (.iload 5, 2) := by decide +kernel
theorem dL_law_264 : decode cL_law 264 = .ok (.iconst 1, 1) := by decide +kernel
theorem dL_law_265 : decode cL_law 265 = .ok (.iadd, 1) := by decide +kernel
theorem dL_law_266 : decode cL_law 266 = .ok (.iaload, 1) := by decide +kernel
theorem dL_law_267 : decode cL_law 267 = .ok (.aload_n 3, 1) := by decide +kernel
theorem dL_law_268 : decode cL_law 268 = .ok (.invokestatic 126, 3) := by decide +kernel
theorem dL_law_271 : decode cL_law 271 = .ok (.istore 6, 2) := by decide +kernel
theorem dL_law_273 : decode cL_law 273 = .ok (.aload_n 2, 1) := by decide +kernel
theorem dL_law_274 : decode cL_law 274 = .ok (.aload_n 0, 1) := by decide +kernel
theorem dL_law_275 : decode cL_law 275 = .ok (.iload 5, 2) := by decide +kernel
theorem dL_law_277 : decode cL_law 277 = .ok (.iconst 1, 1) := by decide +kernel
theorem dL_law_278 : decode cL_law 278 = .ok (.iadd, 1) := by decide +kernel
theorem dL_law_279 : decode cL_law 279 = .ok (.iaload, 1) := by decide +kernel
theorem dL_law_280 : decode cL_law 280 = .ok (.invokevirtual 129, 3) := by decide +kernel
theorem dL_law_283 : decode cL_law 283 = .ok (.istore 7, 2) := by decide +kernel
theorem dL_law_285 : decode cL_law 285 = .ok (.aload_n 2, 1) := by decide +kernel
theorem dL_law_286 : decode cL_law 286 = .ok (.invokevirtual 123, 3) := by decide +kernel
theorem dL_law_289 : decode cL_law 289 = .ok (.iload 6, 2) := by decide +kernel
theorem dL_law_291 : decode cL_law 291 = .ok (.if_icmp .eq 5, 3) := by decide +kernel
theorem dL_law_294 : decode cL_law 294 = .ok (.iconst 0, 1) := by decide +kernel
theorem dL_law_295 : decode cL_law 295 = .ok (.ireturn, 1) := by decide +kernel
theorem dL_law_296 : decode cL_law 296 = .ok (.iload 6, 2) := by decide +kernel
theorem dL_law_298 : decode cL_law 298 = .ok (.ifCond .ne 15, 3) := by decide +kernel
theorem dL_law_301 : decode cL_law 301 = .ok (.aload_n 3, 1) := by decide +kernel
theorem dL_law_302 : decode cL_law 302 = .ok (.iconst 0, 1) := by decide +kernel
theorem dL_law_303 : decode cL_law 303 = .ok (.laload, 1) := by decide +kernel
theorem dL_law_304 : decode cL_law 304 = .ok (.iload 7, 2) := by decide +kernel
theorem dL_law_306 : decode cL_law 306 = .ok (.i2l, 1) := by decide +kernel
theorem dL_law_307 : decode cL_law 307 = .ok (.lcmp, 1) := by decide +kernel
theorem dL_law_308 : decode cL_law 308 = .ok (.ifCond .eq 5, 3) := by decide +kernel
theorem dL_law_311 : decode cL_law 311 = .ok (.iconst 0, 1) := by decide +kernel
theorem dL_law_312 : decode cL_law 312 = .ok (.ireturn, 1) := by decide +kernel
theorem dL_law_313 : decode cL_law 313 = .ok (.goto 1525, 3) := by decide +kernel
theorem dL_law_316 : decode cL_law 316 = .ok (.aload_n 1, 1) := by decide +kernel
theorem dL_law_317 : decode cL_law 317 = .ok (.aload_n 0, 1) := by decide +kernel
theorem dL_law_318 : decode cL_law 318 = .ok (.iload 5, 2) := by decide +kernel
theorem dL_law_320 : decode cL_law 320 = .ok (.iconst 1, 1) := by decide +kernel
theorem dL_law_321 : decode cL_law 321 = .ok (.iadd, 1) := by decide +kernel
theorem dL_law_322 : decode cL_law 322 = .ok (.iaload, 1) := by decide +kernel
theorem dL_law_323 : decode cL_law 323 = .ok (.aload_n 3, 1) := by decide +kernel
theorem dL_law_324 : decode cL_law 324 = .ok (.invokestatic 130, 3) := by decide +kernel
theorem dL_law_327 : decode cL_law 327 = .ok (.istore 6, 2) := by decide +kernel
theorem dL_law_329 : decode cL_law 329 = .ok (.aload_n 2, 1) := by decide +kernel
theorem dL_law_330 : decode cL_law 330 = .ok (.aload_n 0, 1) := by decide +kernel
theorem dL_law_331 : decode cL_law 331 = .ok (.iload 5, 2) := by decide +kernel
theorem dL_law_333 : decode cL_law 333 = .ok (.iconst 1, 1) := by decide +kernel
theorem dL_law_334 : decode cL_law 334 = .ok (.iadd, 1) := by decide +kernel
theorem dL_law_335 : decode cL_law 335 = .ok (.iaload, 1) := by decide +kernel
theorem dL_law_336 : decode cL_law 336 = .ok (.invokevirtual 132, 3) := by decide +kernel
theorem dL_law_339 : decode cL_law 339 = .ok (.istore 7, 2) := by decide +kernel
theorem dL_law_341 : decode cL_law 341 = .ok (.aload_n 2, 1) := by decide +kernel
theorem dL_law_342 : decode cL_law 342 = .ok (.invokevirtual 123, 3) := by decide +kernel
theorem dL_law_345 : decode cL_law 345 = .ok (.iload 6, 2) := by decide +kernel
theorem dL_law_347 : decode cL_law 347 = .ok (.if_icmp .eq 5, 3) := by decide +kernel
theorem dL_law_350 : decode cL_law 350 = .ok (.iconst 0, 1) := by decide +kernel
theorem dL_law_351 : decode cL_law 351 = .ok (.ireturn, 1) := by decide +kernel
theorem dL_law_352 : decode cL_law 352 = .ok (.iload 6, 2) := by decide +kernel
theorem dL_law_354 : decode cL_law 354 = .ok (.ifCond .ne 15, 3) := by decide +kernel
theorem dL_law_357 : decode cL_law 357 = .ok (.aload_n 3, 1) := by decide +kernel
theorem dL_law_358 : decode cL_law 358 = .ok (.iconst 0, 1) := by decide +kernel
theorem dL_law_359 : decode cL_law 359 = .ok (.laload, 1) := by decide +kernel
theorem dL_law_360 : decode cL_law 360 = .ok (.iload 7, 2) := by decide +kernel
theorem dL_law_362 : decode cL_law 362 = .ok (.i2l, 1) := by decide +kernel
theorem dL_law_363 : decode cL_law 363 = .ok (.lcmp, 1) := by decide +kernel
theorem dL_law_364 : decode cL_law 364 = .ok (.ifCond .eq 5, 3) := by decide +kernel
theorem dL_law_367 : decode cL_law 367 = .ok (.iconst 0, 1) := by decide +kernel
theorem dL_law_368 : decode cL_law 368 = .ok (.ireturn, 1) := by decide +kernel
theorem dL_law_369 : decode cL_law 369 = .ok (.goto 1469, 3) := by decide +kernel
theorem dL_law_372 : decode cL_law 372 = .ok (.aload_n 1, 1) := by decide +kernel
theorem dL_law_373 : decode cL_law 373 = .ok (.aload_n 0, 1) := by decide +kernel
theorem dL_law_374 : decode cL_law 374 = .ok (.iload 5, 2) := by decide +kernel
theorem dL_law_376 : decode cL_law 376 = .ok (.iconst 1, 1) := by decide +kernel
theorem dL_law_377 : decode cL_law 377 = .ok (.iadd, 1) := by decide +kernel
theorem dL_law_378 : decode cL_law 378 = .ok (.iaload, 1) := by decide +kernel
theorem dL_law_379 : decode cL_law 379 = .ok (.aload_n 0, 1) := by decide +kernel
theorem dL_law_380 : decode cL_law 380 = .ok (.iload 5, 2) := by decide +kernel
theorem dL_law_382 : decode cL_law 382 = .ok (.iconst 2, 1) := by decide +kernel
theorem dL_law_383 : decode cL_law 383 = .ok (.iadd, 1) := by decide +kernel
theorem dL_law_384 : decode cL_law 384 = .ok (.iaload, 1) := by decide +kernel
theorem dL_law_385 : decode cL_law 385 = .ok (.aload_n 3, 1) := by decide +kernel
theorem dL_law_386 : decode cL_law 386 = .ok (.invokestatic 133, 3) := by decide +kernel
theorem dL_law_389 : decode cL_law 389 = .ok (.istore 6, 2) := by decide +kernel
theorem dL_law_391 : decode cL_law 391 = .ok (.aload_n 2, 1) := by decide +kernel
theorem dL_law_392 : decode cL_law 392 = .ok (.aload_n 0, 1) := by decide +kernel
theorem dL_law_393 : decode cL_law 393 = .ok (.iload 5, 2) := by decide +kernel
theorem dL_law_395 : decode cL_law 395 = .ok (.iconst 1, 1) := by decide +kernel
theorem dL_law_396 : decode cL_law 396 = .ok (.iadd, 1) := by decide +kernel
theorem dL_law_397 : decode cL_law 397 = .ok (.iaload, 1) := by decide +kernel
theorem dL_law_398 : decode cL_law 398 = .ok (.aload_n 0, 1) := by decide +kernel
theorem dL_law_399 : decode cL_law 399 = .ok (.iload 5, 2) := by decide +kernel
theorem dL_law_401 : decode cL_law 401 = .ok (.iconst 2, 1) := by decide +kernel
theorem dL_law_402 : decode cL_law 402 = .ok (.iadd, 1) := by decide +kernel
theorem dL_law_403 : decode cL_law 403 = .ok (.iaload, 1) := by decide +kernel
theorem dL_law_404 : decode cL_law 404 = .ok (.invokevirtual 135, 3) := by decide +kernel
theorem dL_law_407 : decode cL_law 407 = .ok (.istore 7, 2) := by decide +kernel
theorem dL_law_409 : decode cL_law 409 = .ok (.aload_n 2, 1) := by decide +kernel
theorem dL_law_410 : decode cL_law 410 = .ok (.invokevirtual 123, 3) := by decide +kernel
theorem dL_law_413 : decode cL_law 413 = .ok (.iload 6, 2) := by decide +kernel
theorem dL_law_415 : decode cL_law 415 = .ok (.if_icmp .eq 5, 3) := by decide +kernel
theorem dL_law_418 : decode cL_law 418 = .ok (.iconst 0, 1) := by decide +kernel
theorem dL_law_419 : decode cL_law 419 = .ok (.ireturn, 1) := by decide +kernel
theorem dL_law_420 : decode cL_law 420 = .ok (.iload 6, 2) := by decide +kernel
theorem dL_law_422 : decode cL_law 422 = .ok (.ifCond .ne 15, 3) := by decide +kernel
theorem dL_law_425 : decode cL_law 425 = .ok (.aload_n 3, 1) := by decide +kernel
theorem dL_law_426 : decode cL_law 426 = .ok (.iconst 0, 1) := by decide +kernel
theorem dL_law_427 : decode cL_law 427 = .ok (.laload, 1) := by decide +kernel
theorem dL_law_428 : decode cL_law 428 = .ok (.iload 7, 2) := by decide +kernel
theorem dL_law_430 : decode cL_law 430 = .ok (.i2l, 1) := by decide +kernel
theorem dL_law_431 : decode cL_law 431 = .ok (.lcmp, 1) := by decide +kernel
theorem dL_law_432 : decode cL_law 432 = .ok (.ifCond .eq 5, 3) := by decide +kernel
theorem dL_law_435 : decode cL_law 435 = .ok (.iconst 0, 1) := by decide +kernel
theorem dL_law_436 : decode cL_law 436 = .ok (.ireturn, 1) := by decide +kernel
theorem dL_law_437 : decode cL_law 437 = .ok (.goto 1401, 3) := by decide +kernel
theorem dL_law_440 : decode cL_law 440 = .ok (.aload_n 1, 1) := by decide +kernel
theorem dL_law_441 : decode cL_law 441 = .ok (.invokevirtual 136, 3) := by decide +kernel
theorem dL_law_444 : decode cL_law 444 = .ok (.aload_n 2, 1) := by decide +kernel
theorem dL_law_445 : decode cL_law 445 = .ok (.invokevirtual 139, 3) := by decide +kernel
theorem dL_law_448 : decode cL_law 448 = .ok (.if_icmp .eq 1390, 3) := by decide +kernel
theorem dL_law_451 : decode cL_law 451 = .ok (.iconst 0, 1) := by decide +kernel
theorem dL_law_452 : decode cL_law 452 = .ok (.ireturn, 1) := by decide +kernel
theorem dL_law_453 : decode cL_law 453 = .ok (.aload_n 1, 1) := by decide +kernel
theorem dL_law_454 : decode cL_law 454 = .ok (.aload_n 0, 1) := by decide +kernel
theorem dL_law_455 : decode cL_law 455 = .ok (.iload 5, 2) := by decide +kernel
theorem dL_law_457 : decode cL_law 457 = .ok (.iconst 1, 1) := by decide +kernel
theorem dL_law_458 : decode cL_law 458 = .ok (.iadd, 1) := by decide +kernel
theorem dL_law_459 : decode cL_law 459 = .ok (.iaload, 1) := by decide +kernel
theorem dL_law_460 : decode cL_law 460 = .ok (.aload_n 3, 1) := by decide +kernel
theorem dL_law_461 : decode cL_law 461 = .ok (.invokestatic 140, 3) := by decide +kernel
theorem dL_law_464 : decode cL_law 464 = .ok (.istore 6, 2) := by decide +kernel
theorem dL_law_466 : decode cL_law 466 = .ok (.aload_n 2, 1) := by decide +kernel
theorem dL_law_467 : decode cL_law 467 = .ok (.aload_n 0, 1) := by decide +kernel
theorem dL_law_468 : decode cL_law 468 = .ok (.iload 5, 2) := by decide +kernel
theorem dL_law_470 : decode cL_law 470 = .ok (.iconst 1, 1) := by decide +kernel
theorem dL_law_471 : decode cL_law 471 = .ok (.iadd, 1) := by decide +kernel
theorem dL_law_472 : decode cL_law 472 = .ok (.iaload, 1) := by decide +kernel
theorem dL_law_473 : decode cL_law 473 = .ok (.invokevirtual 142, 3) := by decide +kernel
theorem dL_law_476 : decode cL_law 476 = .ok (.istore 7, 2) := by decide +kernel
theorem dL_law_478 : decode cL_law 478 = .ok (.aload_n 2, 1) := by decide +kernel
theorem dL_law_479 : decode cL_law 479 = .ok (.invokevirtual 123, 3) := by decide +kernel
theorem dL_law_482 : decode cL_law 482 = .ok (.iload 6, 2) := by decide +kernel
theorem dL_law_484 : decode cL_law 484 = .ok (.if_icmp .eq 5, 3) := by decide +kernel
theorem dL_law_487 : decode cL_law 487 = .ok (.iconst 0, 1) := by decide +kernel
theorem dL_law_488 : decode cL_law 488 = .ok (.ireturn, 1) := by decide +kernel
theorem dL_law_489 : decode cL_law 489 = .ok (.iload 6, 2) := by decide +kernel
theorem dL_law_491 : decode cL_law 491 = .ok (.ifCond .ne 15, 3) := by decide +kernel
theorem dL_law_494 : decode cL_law 494 = .ok (.aload_n 3, 1) := by decide +kernel
theorem dL_law_495 : decode cL_law 495 = .ok (.iconst 0, 1) := by decide +kernel
theorem dL_law_496 : decode cL_law 496 = .ok (.laload, 1) := by decide +kernel
theorem dL_law_497 : decode cL_law 497 = .ok (.iload 7, 2) := by decide +kernel
theorem dL_law_499 : decode cL_law 499 = .ok (.i2l, 1) := by decide +kernel
theorem dL_law_500 : decode cL_law 500 = .ok (.lcmp, 1) := by decide +kernel
theorem dL_law_501 : decode cL_law 501 = .ok (.ifCond .eq 5, 3) := by decide +kernel
theorem dL_law_504 : decode cL_law 504 = .ok (.iconst 0, 1) := by decide +kernel
theorem dL_law_505 : decode cL_law 505 = .ok (.ireturn, 1) := by decide +kernel
theorem dL_law_506 : decode cL_law 506 = .ok (.goto 1332, 3) := by decide +kernel
theorem dL_law_509 : decode cL_law 509 = .ok (.aload_n 1, 1) := by decide +kernel
theorem dL_law_510 : decode cL_law 510 = .ok (.aload_n 0, 1) := by decide +kernel
theorem dL_law_511 : decode cL_law 511 = .ok (.iload 5, 2) := by decide +kernel
theorem dL_law_513 : decode cL_law 513 = .ok (.iconst 1, 1) := by decide +kernel
theorem dL_law_514 : decode cL_law 514 = .ok (.iadd, 1) := by decide +kernel
theorem dL_law_515 : decode cL_law 515 = .ok (.iaload, 1) := by decide +kernel
theorem dL_law_516 : decode cL_law 516 = .ok (.aload_n 3, 1) := by decide +kernel
theorem dL_law_517 : decode cL_law 517 = .ok (.invokestatic 143, 3) := by decide +kernel
theorem dL_law_520 : decode cL_law 520 = .ok (.istore 6, 2) := by decide +kernel
theorem dL_law_522 : decode cL_law 522 = .ok (.aload_n 2, 1) := by decide +kernel
theorem dL_law_523 : decode cL_law 523 = .ok (.aload_n 0, 1) := by decide +kernel
theorem dL_law_524 : decode cL_law 524 = .ok (.iload 5, 2) := by decide +kernel
theorem dL_law_526 : decode cL_law 526 = .ok (.iconst 1, 1) := by decide +kernel
theorem dL_law_527 : decode cL_law 527 = .ok (.iadd, 1) := by decide +kernel
theorem dL_law_528 : decode cL_law 528 = .ok (.iaload, 1) := by decide +kernel
theorem dL_law_529 : decode cL_law 529 = .ok (.invokevirtual 145, 3) := by decide +kernel
theorem dL_law_532 : decode cL_law 532 = .ok (.istore 7, 2) := by decide +kernel
theorem dL_law_534 : decode cL_law 534 = .ok (.aload_n 2, 1) := by decide +kernel
theorem dL_law_535 : decode cL_law 535 = .ok (.invokevirtual 123, 3) := by decide +kernel
theorem dL_law_538 : decode cL_law 538 = .ok (.iload 6, 2) := by decide +kernel
theorem dL_law_540 : decode cL_law 540 = .ok (.if_icmp .eq 5, 3) := by decide +kernel
theorem dL_law_543 : decode cL_law 543 = .ok (.iconst 0, 1) := by decide +kernel
theorem dL_law_544 : decode cL_law 544 = .ok (.ireturn, 1) := by decide +kernel
theorem dL_law_545 : decode cL_law 545 = .ok (.iload 6, 2) := by decide +kernel
theorem dL_law_547 : decode cL_law 547 = .ok (.ifCond .ne 15, 3) := by decide +kernel
theorem dL_law_550 : decode cL_law 550 = .ok (.aload_n 3, 1) := by decide +kernel
theorem dL_law_551 : decode cL_law 551 = .ok (.iconst 0, 1) := by decide +kernel
theorem dL_law_552 : decode cL_law 552 = .ok (.laload, 1) := by decide +kernel
theorem dL_law_553 : decode cL_law 553 = .ok (.iload 7, 2) := by decide +kernel
theorem dL_law_555 : decode cL_law 555 = .ok (.i2l, 1) := by decide +kernel
theorem dL_law_556 : decode cL_law 556 = .ok (.lcmp, 1) := by decide +kernel
theorem dL_law_557 : decode cL_law 557 = .ok (.ifCond .eq 5, 3) := by decide +kernel
theorem dL_law_560 : decode cL_law 560 = .ok (.iconst 0, 1) := by decide +kernel
theorem dL_law_561 : decode cL_law 561 = .ok (.ireturn, 1) := by decide +kernel
theorem dL_law_562 : decode cL_law 562 = .ok (.goto 1276, 3) := by decide +kernel
theorem dL_law_565 : decode cL_law 565 = .ok (.aload_n 1, 1) := by decide +kernel
theorem dL_law_566 : decode cL_law 566 = .ok (.aload_n 3, 1) := by decide +kernel
theorem dL_law_567 : decode cL_law 567 = .ok (.invokestatic 146, 3) := by decide +kernel
theorem dL_law_570 : decode cL_law 570 = .ok (.istore 6, 2) := by decide +kernel
theorem dL_law_572 : decode cL_law 572 = .ok (.aload_n 2, 1) := by decide +kernel
theorem dL_law_573 : decode cL_law 573 = .ok (.invokevirtual 149, 3) := by decide +kernel
theorem dL_law_576 : decode cL_law 576 = .ok (.istore 7, 2) := by decide +kernel
theorem dL_law_578 : decode cL_law 578 = .ok (.aload_n 2, 1) := by decide +kernel
theorem dL_law_579 : decode cL_law 579 = .ok (.invokevirtual 123, 3) := by decide +kernel
theorem dL_law_582 : decode cL_law 582 = .ok (.iload 6, 2) := by decide +kernel
theorem dL_law_584 : decode cL_law 584 = .ok (.if_icmp .eq 5, 3) := by decide +kernel
theorem dL_law_587 : decode cL_law 587 = .ok (.iconst 0, 1) := by decide +kernel
theorem dL_law_588 : decode cL_law 588 = .ok (.ireturn, 1) := by decide +kernel
theorem dL_law_589 : decode cL_law 589 = .ok (.iload 6, 2) := by decide +kernel
theorem dL_law_591 : decode cL_law 591 = .ok (.ifCond .ne 15, 3) := by decide +kernel
theorem dL_law_594 : decode cL_law 594 = .ok (.aload_n 3, 1) := by decide +kernel
theorem dL_law_595 : decode cL_law 595 = .ok (.iconst 0, 1) := by decide +kernel
theorem dL_law_596 : decode cL_law 596 = .ok (.laload, 1) := by decide +kernel
theorem dL_law_597 : decode cL_law 597 = .ok (.iload 7, 2) := by decide +kernel
theorem dL_law_599 : decode cL_law 599 = .ok (.i2l, 1) := by decide +kernel
theorem dL_law_600 : decode cL_law 600 = .ok (.lcmp, 1) := by decide +kernel
theorem dL_law_601 : decode cL_law 601 = .ok (.ifCond .eq 5, 3) := by decide +kernel
theorem dL_law_604 : decode cL_law 604 = .ok (.iconst 0, 1) := by decide +kernel
theorem dL_law_605 : decode cL_law 605 = .ok (.ireturn, 1) := by decide +kernel
theorem dL_law_606 : decode cL_law 606 = .ok (.goto 1232, 3) := by decide +kernel
theorem dL_law_609 : decode cL_law 609 = .ok (.aload_n 1, 1) := by decide +kernel
theorem dL_law_610 : decode cL_law 610 = .ok (.aload_n 0, 1) := by decide +kernel
theorem dL_law_611 : decode cL_law 611 = .ok (.iload 5, 2) := by decide +kernel
theorem dL_law_613 : decode cL_law 613 = .ok (.iconst 1, 1) := by decide +kernel
theorem dL_law_614 : decode cL_law 614 = .ok (.iadd, 1) := by decide +kernel
theorem dL_law_615 : decode cL_law 615 = .ok (.iaload, 1) := by decide +kernel
theorem dL_law_616 : decode cL_law 616 = .ok (.aload_n 3, 1) := by decide +kernel
theorem dL_law_617 : decode cL_law 617 = .ok (.invokestatic 150, 3) := by decide +kernel
theorem dL_law_620 : decode cL_law 620 = .ok (.istore 6, 2) := by decide +kernel
theorem dL_law_622 : decode cL_law 622 = .ok (.aload_n 2, 1) := by decide +kernel
theorem dL_law_623 : decode cL_law 623 = .ok (.aload_n 0, 1) := by decide +kernel
theorem dL_law_624 : decode cL_law 624 = .ok (.iload 5, 2) := by decide +kernel
theorem dL_law_626 : decode cL_law 626 = .ok (.iconst 1, 1) := by decide +kernel
theorem dL_law_627 : decode cL_law 627 = .ok (.iadd, 1) := by decide +kernel
theorem dL_law_628 : decode cL_law 628 = .ok (.iaload, 1) := by decide +kernel
theorem dL_law_629 : decode cL_law 629 = .ok (.invokevirtual 152, 3) := by decide +kernel
theorem dL_law_632 : decode cL_law 632 = .ok (.istore 7, 2) := by decide +kernel
theorem dL_law_634 : decode cL_law 634 = .ok (.aload_n 2, 1) := by decide +kernel
theorem dL_law_635 : decode cL_law 635 = .ok (.invokevirtual 123, 3) := by decide +kernel
theorem dL_law_638 : decode cL_law 638 = .ok (.iload 6, 2) := by decide +kernel
theorem dL_law_640 : decode cL_law 640 = .ok (.if_icmp .eq 5, 3) := by decide +kernel
theorem dL_law_643 : decode cL_law 643 = .ok (.iconst 0, 1) := by decide +kernel
theorem dL_law_644 : decode cL_law 644 = .ok (.ireturn, 1) := by decide +kernel
theorem dL_law_645 : decode cL_law 645 = .ok (.iload 6, 2) := by decide +kernel
theorem dL_law_647 : decode cL_law 647 = .ok (.ifCond .ne 15, 3) := by decide +kernel
theorem dL_law_650 : decode cL_law 650 = .ok (.aload_n 3, 1) := by decide +kernel
theorem dL_law_651 : decode cL_law 651 = .ok (.iconst 0, 1) := by decide +kernel
theorem dL_law_652 : decode cL_law 652 = .ok (.laload, 1) := by decide +kernel
theorem dL_law_653 : decode cL_law 653 = .ok (.iload 7, 2) := by decide +kernel
theorem dL_law_655 : decode cL_law 655 = .ok (.i2l, 1) := by decide +kernel
theorem dL_law_656 : decode cL_law 656 = .ok (.lcmp, 1) := by decide +kernel
theorem dL_law_657 : decode cL_law 657 = .ok (.ifCond .eq 5, 3) := by decide +kernel
theorem dL_law_660 : decode cL_law 660 = .ok (.iconst 0, 1) := by decide +kernel
theorem dL_law_661 : decode cL_law 661 = .ok (.ireturn, 1) := by decide +kernel
theorem dL_law_662 : decode cL_law 662 = .ok (.goto 1176, 3) := by decide +kernel
theorem dL_law_665 : decode cL_law 665 = .ok (.aload_n 1, 1) := by decide +kernel
theorem dL_law_666 : decode cL_law 666 = .ok (.aload_n 0, 1) := by decide +kernel
theorem dL_law_667 : decode cL_law 667 = .ok (.iload 5, 2) := by decide +kernel
theorem dL_law_669 : decode cL_law 669 = .ok (.iconst 1, 1) := by decide +kernel
theorem dL_law_670 : decode cL_law 670 = .ok (.iadd, 1) := by decide +kernel
theorem dL_law_671 : decode cL_law 671 = .ok (.iaload, 1) := by decide +kernel
theorem dL_law_672 : decode cL_law 672 = .ok (.aload_n 0, 1) := by decide +kernel
theorem dL_law_673 : decode cL_law 673 = .ok (.iload 5, 2) := by decide +kernel
theorem dL_law_675 : decode cL_law 675 = .ok (.iconst 2, 1) := by decide +kernel
theorem dL_law_676 : decode cL_law 676 = .ok (.iadd, 1) := by decide +kernel
theorem dL_law_677 : decode cL_law 677 = .ok (.iaload, 1) := by decide +kernel
theorem dL_law_678 : decode cL_law 678 = .ok (.aload_n 3, 1) := by decide +kernel
theorem dL_law_679 : decode cL_law 679 = .ok (.invokestatic 153, 3) := by decide +kernel
theorem dL_law_682 : decode cL_law 682 = .ok (.istore 6, 2) := by decide +kernel
theorem dL_law_684 : decode cL_law 684 = .ok (.aload_n 2, 1) := by decide +kernel
theorem dL_law_685 : decode cL_law 685 = .ok (.aload_n 0, 1) := by decide +kernel
theorem dL_law_686 : decode cL_law 686 = .ok (.iload 5, 2) := by decide +kernel
theorem dL_law_688 : decode cL_law 688 = .ok (.iconst 1, 1) := by decide +kernel
theorem dL_law_689 : decode cL_law 689 = .ok (.iadd, 1) := by decide +kernel
theorem dL_law_690 : decode cL_law 690 = .ok (.iaload, 1) := by decide +kernel
theorem dL_law_691 : decode cL_law 691 = .ok (.aload_n 0, 1) := by decide +kernel
theorem dL_law_692 : decode cL_law 692 = .ok (.iload 5, 2) := by decide +kernel
theorem dL_law_694 : decode cL_law 694 = .ok (.iconst 2, 1) := by decide +kernel
theorem dL_law_695 : decode cL_law 695 = .ok (.iadd, 1) := by decide +kernel
theorem dL_law_696 : decode cL_law 696 = .ok (.iaload, 1) := by decide +kernel
theorem dL_law_697 : decode cL_law 697 = .ok (.invokevirtual 155, 3) := by decide +kernel
theorem dL_law_700 : decode cL_law 700 = .ok (.istore 7, 2) := by decide +kernel
theorem dL_law_702 : decode cL_law 702 = .ok (.aload_n 2, 1) := by decide +kernel
theorem dL_law_703 : decode cL_law 703 = .ok (.invokevirtual 123, 3) := by decide +kernel
theorem dL_law_706 : decode cL_law 706 = .ok (.iload 6, 2) := by decide +kernel
theorem dL_law_708 : decode cL_law 708 = .ok (.if_icmp .eq 5, 3) := by decide +kernel
theorem dL_law_711 : decode cL_law 711 = .ok (.iconst 0, 1) := by decide +kernel
theorem dL_law_712 : decode cL_law 712 = .ok (.ireturn, 1) := by decide +kernel
theorem dL_law_713 : decode cL_law 713 = .ok (.iload 6, 2) := by decide +kernel
theorem dL_law_715 : decode cL_law 715 = .ok (.ifCond .ne 15, 3) := by decide +kernel
theorem dL_law_718 : decode cL_law 718 = .ok (.aload_n 3, 1) := by decide +kernel
theorem dL_law_719 : decode cL_law 719 = .ok (.iconst 0, 1) := by decide +kernel
theorem dL_law_720 : decode cL_law 720 = .ok (.laload, 1) := by decide +kernel
theorem dL_law_721 : decode cL_law 721 = .ok (.iload 7, 2) := by decide +kernel
theorem dL_law_723 : decode cL_law 723 = .ok (.i2l, 1) := by decide +kernel
theorem dL_law_724 : decode cL_law 724 = .ok (.lcmp, 1) := by decide +kernel
theorem dL_law_725 : decode cL_law 725 = .ok (.ifCond .eq 5, 3) := by decide +kernel
theorem dL_law_728 : decode cL_law 728 = .ok (.iconst 0, 1) := by decide +kernel
theorem dL_law_729 : decode cL_law 729 = .ok (.ireturn, 1) := by decide +kernel
theorem dL_law_730 : decode cL_law 730 = .ok (.goto 1108, 3) := by decide +kernel
theorem dL_law_733 : decode cL_law 733 = .ok (.aload_n 1, 1) := by decide +kernel
theorem dL_law_734 : decode cL_law 734 = .ok (.aload_n 0, 1) := by decide +kernel
theorem dL_law_735 : decode cL_law 735 = .ok (.iload 5, 2) := by decide +kernel
theorem dL_law_737 : decode cL_law 737 = .ok (.iconst 1, 1) := by decide +kernel
theorem dL_law_738 : decode cL_law 738 = .ok (.iadd, 1) := by decide +kernel
theorem dL_law_739 : decode cL_law 739 = .ok (.iaload, 1) := by decide +kernel
theorem dL_law_740 : decode cL_law 740 = .ok (.aload_n 3, 1) := by decide +kernel
theorem dL_law_741 : decode cL_law 741 = .ok (.invokestatic 156, 3) := by decide +kernel
theorem dL_law_744 : decode cL_law 744 = .ok (.istore 6, 2) := by decide +kernel
theorem dL_law_746 : decode cL_law 746 = .ok (.aload_n 2, 1) := by decide +kernel
theorem dL_law_747 : decode cL_law 747 = .ok (.aload_n 0, 1) := by decide +kernel
theorem dL_law_748 : decode cL_law 748 = .ok (.iload 5, 2) := by decide +kernel
theorem dL_law_750 : decode cL_law 750 = .ok (.iconst 1, 1) := by decide +kernel
theorem dL_law_751 : decode cL_law 751 = .ok (.iadd, 1) := by decide +kernel
theorem dL_law_752 : decode cL_law 752 = .ok (.iaload, 1) := by decide +kernel
theorem dL_law_753 : decode cL_law 753 = .ok (.invokevirtual 158, 3) := by decide +kernel
theorem dL_law_756 : decode cL_law 756 = .ok (.istore 7, 2) := by decide +kernel
theorem dL_law_758 : decode cL_law 758 = .ok (.aload_n 2, 1) := by decide +kernel
theorem dL_law_759 : decode cL_law 759 = .ok (.invokevirtual 123, 3) := by decide +kernel
theorem dL_law_762 : decode cL_law 762 = .ok (.iload 6, 2) := by decide +kernel
theorem dL_law_764 : decode cL_law 764 = .ok (.if_icmp .eq 5, 3) := by decide +kernel
theorem dL_law_767 : decode cL_law 767 = .ok (.iconst 0, 1) := by decide +kernel
theorem dL_law_768 : decode cL_law 768 = .ok (.ireturn, 1) := by decide +kernel
theorem dL_law_769 : decode cL_law 769 = .ok (.iload 6, 2) := by decide +kernel
theorem dL_law_771 : decode cL_law 771 = .ok (.ifCond .ne 15, 3) := by decide +kernel
theorem dL_law_774 : decode cL_law 774 = .ok (.aload_n 3, 1) := by decide +kernel
theorem dL_law_775 : decode cL_law 775 = .ok (.iconst 0, 1) := by decide +kernel
theorem dL_law_776 : decode cL_law 776 = .ok (.laload, 1) := by decide +kernel
theorem dL_law_777 : decode cL_law 777 = .ok (.iload 7, 2) := by decide +kernel
theorem dL_law_779 : decode cL_law 779 = .ok (.i2l, 1) := by decide +kernel
theorem dL_law_780 : decode cL_law 780 = .ok (.lcmp, 1) := by decide +kernel
theorem dL_law_781 : decode cL_law 781 = .ok (.ifCond .eq 5, 3) := by decide +kernel
theorem dL_law_784 : decode cL_law 784 = .ok (.iconst 0, 1) := by decide +kernel
theorem dL_law_785 : decode cL_law 785 = .ok (.ireturn, 1) := by decide +kernel
theorem dL_law_786 : decode cL_law 786 = .ok (.goto 1052, 3) := by decide +kernel
theorem dL_law_789 : decode cL_law 789 = .ok (.aload_n 1, 1) := by decide +kernel
theorem dL_law_790 : decode cL_law 790 = .ok (.aload_n 0, 1) := by decide +kernel
theorem dL_law_791 : decode cL_law 791 = .ok (.iload 5, 2) := by decide +kernel
theorem dL_law_793 : decode cL_law 793 = .ok (.iconst 1, 1) := by decide +kernel
theorem dL_law_794 : decode cL_law 794 = .ok (.iadd, 1) := by decide +kernel
theorem dL_law_795 : decode cL_law 795 = .ok (.iaload, 1) := by decide +kernel
theorem dL_law_796 : decode cL_law 796 = .ok (.aload_n 3, 1) := by decide +kernel
theorem dL_law_797 : decode cL_law 797 = .ok (.invokestatic 159, 3) := by decide +kernel
theorem dL_law_800 : decode cL_law 800 = .ok (.istore 6, 2) := by decide +kernel
theorem dL_law_802 : decode cL_law 802 = .ok (.aload_n 2, 1) := by decide +kernel
theorem dL_law_803 : decode cL_law 803 = .ok (.aload_n 0, 1) := by decide +kernel
theorem dL_law_804 : decode cL_law 804 = .ok (.iload 5, 2) := by decide +kernel
theorem dL_law_806 : decode cL_law 806 = .ok (.iconst 1, 1) := by decide +kernel
theorem dL_law_807 : decode cL_law 807 = .ok (.iadd, 1) := by decide +kernel
theorem dL_law_808 : decode cL_law 808 = .ok (.iaload, 1) := by decide +kernel
theorem dL_law_809 : decode cL_law 809 = .ok (.invokevirtual 161, 3) := by decide +kernel
theorem dL_law_812 : decode cL_law 812 = .ok (.istore 7, 2) := by decide +kernel
theorem dL_law_814 : decode cL_law 814 = .ok (.aload_n 2, 1) := by decide +kernel
theorem dL_law_815 : decode cL_law 815 = .ok (.invokevirtual 123, 3) := by decide +kernel
theorem dL_law_818 : decode cL_law 818 = .ok (.iload 6, 2) := by decide +kernel
theorem dL_law_820 : decode cL_law 820 = .ok (.if_icmp .eq 5, 3) := by decide +kernel
theorem dL_law_823 : decode cL_law 823 = .ok (.iconst 0, 1) := by decide +kernel
theorem dL_law_824 : decode cL_law 824 = .ok (.ireturn, 1) := by decide +kernel
theorem dL_law_825 : decode cL_law 825 = .ok (.iload 6, 2) := by decide +kernel
theorem dL_law_827 : decode cL_law 827 = .ok (.ifCond .ne 15, 3) := by decide +kernel
theorem dL_law_830 : decode cL_law 830 = .ok (.aload_n 3, 1) := by decide +kernel
theorem dL_law_831 : decode cL_law 831 = .ok (.iconst 0, 1) := by decide +kernel
theorem dL_law_832 : decode cL_law 832 = .ok (.laload, 1) := by decide +kernel
theorem dL_law_833 : decode cL_law 833 = .ok (.iload 7, 2) := by decide +kernel
theorem dL_law_835 : decode cL_law 835 = .ok (.i2l, 1) := by decide +kernel
theorem dL_law_836 : decode cL_law 836 = .ok (.lcmp, 1) := by decide +kernel
theorem dL_law_837 : decode cL_law 837 = .ok (.ifCond .eq 5, 3) := by decide +kernel
theorem dL_law_840 : decode cL_law 840 = .ok (.iconst 0, 1) := by decide +kernel
theorem dL_law_841 : decode cL_law 841 = .ok (.ireturn, 1) := by decide +kernel
theorem dL_law_842 : decode cL_law 842 = .ok (.goto 996, 3) := by decide +kernel
theorem dL_law_845 : decode cL_law 845 = .ok (.aload_n 1, 1) := by decide +kernel
theorem dL_law_846 : decode cL_law 846 = .ok (.aload_n 0, 1) := by decide +kernel
theorem dL_law_847 : decode cL_law 847 = .ok (.iload 5, 2) := by decide +kernel
theorem dL_law_849 : decode cL_law 849 = .ok (.iconst 1, 1) := by decide +kernel
theorem dL_law_850 : decode cL_law 850 = .ok (.iadd, 1) := by decide +kernel
theorem dL_law_851 : decode cL_law 851 = .ok (.iaload, 1) := by decide +kernel
theorem dL_law_852 : decode cL_law 852 = .ok (.aload_n 3, 1) := by decide +kernel
theorem dL_law_853 : decode cL_law 853 = .ok (.invokestatic 162, 3) := by decide +kernel
theorem dL_law_856 : decode cL_law 856 = .ok (.istore 6, 2) := by decide +kernel
theorem dL_law_858 : decode cL_law 858 = .ok (.aload_n 2, 1) := by decide +kernel
theorem dL_law_859 : decode cL_law 859 = .ok (.aload_n 0, 1) := by decide +kernel
theorem dL_law_860 : decode cL_law 860 = .ok (.iload 5, 2) := by decide +kernel
theorem dL_law_862 : decode cL_law 862 = .ok (.iconst 1, 1) := by decide +kernel
theorem dL_law_863 : decode cL_law 863 = .ok (.iadd, 1) := by decide +kernel
theorem dL_law_864 : decode cL_law 864 = .ok (.iaload, 1) := by decide +kernel
theorem dL_law_865 : decode cL_law 865 = .ok (.invokevirtual 164, 3) := by decide +kernel
theorem dL_law_868 : decode cL_law 868 = .ok (.istore 7, 2) := by decide +kernel
theorem dL_law_870 : decode cL_law 870 = .ok (.aload_n 2, 1) := by decide +kernel
theorem dL_law_871 : decode cL_law 871 = .ok (.invokevirtual 123, 3) := by decide +kernel
theorem dL_law_874 : decode cL_law 874 = .ok (.iload 6, 2) := by decide +kernel
theorem dL_law_876 : decode cL_law 876 = .ok (.if_icmp .eq 5, 3) := by decide +kernel
theorem dL_law_879 : decode cL_law 879 = .ok (.iconst 0, 1) := by decide +kernel
theorem dL_law_880 : decode cL_law 880 = .ok (.ireturn, 1) := by decide +kernel
theorem dL_law_881 : decode cL_law 881 = .ok (.iload 6, 2) := by decide +kernel
theorem dL_law_883 : decode cL_law 883 = .ok (.ifCond .ne 15, 3) := by decide +kernel
theorem dL_law_886 : decode cL_law 886 = .ok (.aload_n 3, 1) := by decide +kernel
theorem dL_law_887 : decode cL_law 887 = .ok (.iconst 0, 1) := by decide +kernel
theorem dL_law_888 : decode cL_law 888 = .ok (.laload, 1) := by decide +kernel
theorem dL_law_889 : decode cL_law 889 = .ok (.iload 7, 2) := by decide +kernel
theorem dL_law_891 : decode cL_law 891 = .ok (.i2l, 1) := by decide +kernel
theorem dL_law_892 : decode cL_law 892 = .ok (.lcmp, 1) := by decide +kernel
theorem dL_law_893 : decode cL_law 893 = .ok (.ifCond .eq 5, 3) := by decide +kernel
theorem dL_law_896 : decode cL_law 896 = .ok (.iconst 0, 1) := by decide +kernel
theorem dL_law_897 : decode cL_law 897 = .ok (.ireturn, 1) := by decide +kernel
theorem dL_law_898 : decode cL_law 898 = .ok (.goto 940, 3) := by decide +kernel
theorem dL_law_901 : decode cL_law 901 = .ok (.aload_n 1, 1) := by decide +kernel
theorem dL_law_902 : decode cL_law 902 = .ok (.aload_n 0, 1) := by decide +kernel
theorem dL_law_903 : decode cL_law 903 = .ok (.iload 5, 2) := by decide +kernel
theorem dL_law_905 : decode cL_law 905 = .ok (.iconst 1, 1) := by decide +kernel
theorem dL_law_906 : decode cL_law 906 = .ok (.iadd, 1) := by decide +kernel
theorem dL_law_907 : decode cL_law 907 = .ok (.iaload, 1) := by decide +kernel
theorem dL_law_908 : decode cL_law 908 = .ok (.aload_n 3, 1) := by decide +kernel
theorem dL_law_909 : decode cL_law 909 = .ok (.invokestatic 165, 3) := by decide +kernel
theorem dL_law_912 : decode cL_law 912 = .ok (.istore 6, 2) := by decide +kernel
theorem dL_law_914 : decode cL_law 914 = .ok (.aload_n 2, 1) := by decide +kernel
theorem dL_law_915 : decode cL_law 915 = .ok (.aload_n 0, 1) := by decide +kernel
theorem dL_law_916 : decode cL_law 916 = .ok (.iload 5, 2) := by decide +kernel
theorem dL_law_918 : decode cL_law 918 = .ok (.iconst 1, 1) := by decide +kernel
theorem dL_law_919 : decode cL_law 919 = .ok (.iadd, 1) := by decide +kernel
theorem dL_law_920 : decode cL_law 920 = .ok (.iaload, 1) := by decide +kernel
theorem dL_law_921 : decode cL_law 921 = .ok (.invokevirtual 167, 3) := by decide +kernel
theorem dL_law_924 : decode cL_law 924 = .ok (.istore 7, 2) := by decide +kernel
theorem dL_law_926 : decode cL_law 926 = .ok (.aload_n 2, 1) := by decide +kernel
theorem dL_law_927 : decode cL_law 927 = .ok (.invokevirtual 123, 3) := by decide +kernel
theorem dL_law_930 : decode cL_law 930 = .ok (.iload 6, 2) := by decide +kernel
theorem dL_law_932 : decode cL_law 932 = .ok (.if_icmp .eq 5, 3) := by decide +kernel
theorem dL_law_935 : decode cL_law 935 = .ok (.iconst 0, 1) := by decide +kernel
theorem dL_law_936 : decode cL_law 936 = .ok (.ireturn, 1) := by decide +kernel
theorem dL_law_937 : decode cL_law 937 = .ok (.iload 6, 2) := by decide +kernel
theorem dL_law_939 : decode cL_law 939 = .ok (.ifCond .ne 15, 3) := by decide +kernel
theorem dL_law_942 : decode cL_law 942 = .ok (.aload_n 3, 1) := by decide +kernel
theorem dL_law_943 : decode cL_law 943 = .ok (.iconst 0, 1) := by decide +kernel
theorem dL_law_944 : decode cL_law 944 = .ok (.laload, 1) := by decide +kernel
theorem dL_law_945 : decode cL_law 945 = .ok (.iload 7, 2) := by decide +kernel
theorem dL_law_947 : decode cL_law 947 = .ok (.i2l, 1) := by decide +kernel
theorem dL_law_948 : decode cL_law 948 = .ok (.lcmp, 1) := by decide +kernel
theorem dL_law_949 : decode cL_law 949 = .ok (.ifCond .eq 5, 3) := by decide +kernel
theorem dL_law_952 : decode cL_law 952 = .ok (.iconst 0, 1) := by decide +kernel
theorem dL_law_953 : decode cL_law 953 = .ok (.ireturn, 1) := by decide +kernel
theorem dL_law_954 : decode cL_law 954 = .ok (.goto 884, 3) := by decide +kernel
theorem dL_law_957 : decode cL_law 957 = .ok (.aload_n 1, 1) := by decide +kernel
theorem dL_law_958 : decode cL_law 958 = .ok (.aload_n 0, 1) := by decide +kernel
theorem dL_law_959 : decode cL_law 959 = .ok (.iload 5, 2) := by decide +kernel
theorem dL_law_961 : decode cL_law 961 = .ok (.iconst 1, 1) := by decide +kernel
theorem dL_law_962 : decode cL_law 962 = .ok (.iadd, 1) := by decide +kernel
theorem dL_law_963 : decode cL_law 963 = .ok (.iaload, 1) := by decide +kernel
theorem dL_law_964 : decode cL_law 964 = .ok (.aload_n 3, 1) := by decide +kernel
theorem dL_law_965 : decode cL_law 965 = .ok (.invokestatic 168, 3) := by decide +kernel
theorem dL_law_968 : decode cL_law 968 = .ok (.istore 6, 2) := by decide +kernel
theorem dL_law_970 : decode cL_law 970 = .ok (.aload_n 2, 1) := by decide +kernel
theorem dL_law_971 : decode cL_law 971 = .ok (.aload_n 0, 1) := by decide +kernel
theorem dL_law_972 : decode cL_law 972 = .ok (.iload 5, 2) := by decide +kernel
theorem dL_law_974 : decode cL_law 974 = .ok (.iconst 1, 1) := by decide +kernel
theorem dL_law_975 : decode cL_law 975 = .ok (.iadd, 1) := by decide +kernel
theorem dL_law_976 : decode cL_law 976 = .ok (.iaload, 1) := by decide +kernel
theorem dL_law_977 : decode cL_law 977 = .ok (.invokevirtual 170, 3) := by decide +kernel
theorem dL_law_980 : decode cL_law 980 = .ok (.istore 7, 2) := by decide +kernel
theorem dL_law_982 : decode cL_law 982 = .ok (.aload_n 2, 1) := by decide +kernel
theorem dL_law_983 : decode cL_law 983 = .ok (.invokevirtual 123, 3) := by decide +kernel
theorem dL_law_986 : decode cL_law 986 = .ok (.iload 6, 2) := by decide +kernel
theorem dL_law_988 : decode cL_law 988 = .ok (.if_icmp .eq 5, 3) := by decide +kernel
theorem dL_law_991 : decode cL_law 991 = .ok (.iconst 0, 1) := by decide +kernel
theorem dL_law_992 : decode cL_law 992 = .ok (.ireturn, 1) := by decide +kernel
theorem dL_law_993 : decode cL_law 993 = .ok (.iload 6, 2) := by decide +kernel
theorem dL_law_995 : decode cL_law 995 = .ok (.ifCond .ne 15, 3) := by decide +kernel
theorem dL_law_998 : decode cL_law 998 = .ok (.aload_n 3, 1) := by decide +kernel
theorem dL_law_999 : decode cL_law 999 = .ok (.iconst 0, 1) := by decide +kernel
theorem dL_law_1000 : decode cL_law 1000 = .ok (.laload, 1) := by decide +kernel
theorem dL_law_1001 : decode cL_law 1001 = .ok (.iload 7, 2) := by decide +kernel
theorem dL_law_1003 : decode cL_law 1003 = .ok (.i2l, 1) := by decide +kernel
theorem dL_law_1004 : decode cL_law 1004 = .ok (.lcmp, 1) := by decide +kernel
theorem dL_law_1005 : decode cL_law 1005 = .ok (.ifCond .eq 5, 3) := by decide +kernel
theorem dL_law_1008 : decode cL_law 1008 = .ok (.iconst 0, 1) := by decide +kernel
theorem dL_law_1009 : decode cL_law 1009 = .ok (.ireturn, 1) := by decide +kernel
theorem dL_law_1010 : decode cL_law 1010 = .ok (.goto 828, 3) := by decide +kernel
theorem dL_law_1013 : decode cL_law 1013 = .ok (.aload_n 1, 1) := by decide +kernel
theorem dL_law_1014 : decode cL_law 1014 = .ok (.aload_n 0, 1) := by decide +kernel
theorem dL_law_1015 : decode cL_law 1015 = .ok (.iload 5, 2) := by decide +kernel
theorem dL_law_1017 : decode cL_law 1017 = .ok (.iconst 1, 1) := by decide +kernel
theorem dL_law_1018 : decode cL_law 1018 = .ok (.iadd, 1) := by decide +kernel
theorem dL_law_1019 : decode cL_law 1019 = .ok (.iaload, 1) := by decide +kernel
theorem dL_law_1020 : decode cL_law 1020 = .ok (.aload_n 3, 1) := by decide +kernel
theorem dL_law_1021 : decode cL_law 1021 = .ok (.invokestatic 171, 3) := by decide +kernel
theorem dL_law_1024 : decode cL_law 1024 = .ok (.istore 6, 2) := by decide +kernel
theorem dL_law_1026 : decode cL_law 1026 = .ok (.aload_n 2, 1) := by decide +kernel
theorem dL_law_1027 : decode cL_law 1027 = .ok (.aload_n 0, 1) := by decide +kernel
theorem dL_law_1028 : decode cL_law 1028 = .ok (.iload 5, 2) := by decide +kernel
theorem dL_law_1030 : decode cL_law 1030 = .ok (.iconst 1, 1) := by decide +kernel
theorem dL_law_1031 : decode cL_law 1031 = .ok (.iadd, 1) := by decide +kernel
theorem dL_law_1032 : decode cL_law 1032 = .ok (.iaload, 1) := by decide +kernel
theorem dL_law_1033 : decode cL_law 1033 = .ok (.invokevirtual 173, 3) := by decide +kernel
theorem dL_law_1036 : decode cL_law 1036 = .ok (.istore 7, 2) := by decide +kernel
theorem dL_law_1038 : decode cL_law 1038 = .ok (.aload_n 2, 1) := by decide +kernel
theorem dL_law_1039 : decode cL_law 1039 = .ok (.invokevirtual 123, 3) := by decide +kernel
theorem dL_law_1042 : decode cL_law 1042 = .ok (.iload 6, 2) := by decide +kernel
theorem dL_law_1044 : decode cL_law 1044 = .ok (.if_icmp .eq 5, 3) := by decide +kernel
theorem dL_law_1047 : decode cL_law 1047 = .ok (.iconst 0, 1) := by decide +kernel
theorem dL_law_1048 : decode cL_law 1048 = .ok (.ireturn, 1) := by decide +kernel
theorem dL_law_1049 : decode cL_law 1049 = .ok (.iload 6, 2) := by decide +kernel
theorem dL_law_1051 : decode cL_law 1051 = .ok (.ifCond .ne 15, 3) := by decide +kernel
theorem dL_law_1054 : decode cL_law 1054 = .ok (.aload_n 3, 1) := by decide +kernel
theorem dL_law_1055 : decode cL_law 1055 = .ok (.iconst 0, 1) := by decide +kernel
theorem dL_law_1056 : decode cL_law 1056 = .ok (.laload, 1) := by decide +kernel
theorem dL_law_1057 : decode cL_law 1057 = .ok (.iload 7, 2) := by decide +kernel
theorem dL_law_1059 : decode cL_law 1059 = .ok (.i2l, 1) := by decide +kernel
theorem dL_law_1060 : decode cL_law 1060 = .ok (.lcmp, 1) := by decide +kernel
theorem dL_law_1061 : decode cL_law 1061 = .ok (.ifCond .eq 5, 3) := by decide +kernel
theorem dL_law_1064 : decode cL_law 1064 = .ok (.iconst 0, 1) := by decide +kernel
theorem dL_law_1065 : decode cL_law 1065 = .ok (.ireturn, 1) := by decide +kernel
theorem dL_law_1066 : decode cL_law 1066 = .ok (.goto 772, 3) := by decide +kernel
theorem dL_law_1069 : decode cL_law 1069 = .ok (.aload_n 1, 1) := by decide +kernel
theorem dL_law_1070 : decode cL_law 1070 = .ok (.aload_n 0, 1) := by decide +kernel
theorem dL_law_1071 : decode cL_law 1071 = .ok (.iload 5, 2) := by decide +kernel
theorem dL_law_1073 : decode cL_law 1073 = .ok (.iconst 1, 1) := by decide +kernel
theorem dL_law_1074 : decode cL_law 1074 = .ok (.iadd, 1) := by decide +kernel
theorem dL_law_1075 : decode cL_law 1075 = .ok (.iaload, 1) := by decide +kernel
theorem dL_law_1076 : decode cL_law 1076 = .ok (.aload_n 3, 1) := by decide +kernel
theorem dL_law_1077 : decode cL_law 1077 = .ok (.invokestatic 174, 3) := by decide +kernel
theorem dL_law_1080 : decode cL_law 1080 = .ok (.istore 6, 2) := by decide +kernel
theorem dL_law_1082 : decode cL_law 1082 = .ok (.aload_n 2, 1) := by decide +kernel
theorem dL_law_1083 : decode cL_law 1083 = .ok (.aload_n 0, 1) := by decide +kernel
theorem dL_law_1084 : decode cL_law 1084 = .ok (.iload 5, 2) := by decide +kernel
theorem dL_law_1086 : decode cL_law 1086 = .ok (.iconst 1, 1) := by decide +kernel
theorem dL_law_1087 : decode cL_law 1087 = .ok (.iadd, 1) := by decide +kernel
theorem dL_law_1088 : decode cL_law 1088 = .ok (.iaload, 1) := by decide +kernel
theorem dL_law_1089 : decode cL_law 1089 = .ok (.invokevirtual 176, 3) := by decide +kernel
theorem dL_law_1092 : decode cL_law 1092 = .ok (.istore 7, 2) := by decide +kernel
theorem dL_law_1094 : decode cL_law 1094 = .ok (.aload_n 2, 1) := by decide +kernel
theorem dL_law_1095 : decode cL_law 1095 = .ok (.invokevirtual 123, 3) := by decide +kernel
theorem dL_law_1098 : decode cL_law 1098 = .ok (.iload 6, 2) := by decide +kernel
theorem dL_law_1100 : decode cL_law 1100 = .ok (.if_icmp .eq 5, 3) := by decide +kernel
theorem dL_law_1103 : decode cL_law 1103 = .ok (.iconst 0, 1) := by decide +kernel
theorem dL_law_1104 : decode cL_law 1104 = .ok (.ireturn, 1) := by decide +kernel
theorem dL_law_1105 : decode cL_law 1105 = .ok (.iload 6, 2) := by decide +kernel
theorem dL_law_1107 : decode cL_law 1107 = .ok (.ifCond .ne 15, 3) := by decide +kernel
theorem dL_law_1110 : decode cL_law 1110 = .ok (.aload_n 3, 1) := by decide +kernel
theorem dL_law_1111 : decode cL_law 1111 = .ok (.iconst 0, 1) := by decide +kernel
theorem dL_law_1112 : decode cL_law 1112 = .ok (.laload, 1) := by decide +kernel
theorem dL_law_1113 : decode cL_law 1113 = .ok (.iload 7, 2) := by decide +kernel
theorem dL_law_1115 : decode cL_law 1115 = .ok (.i2l, 1) := by decide +kernel
theorem dL_law_1116 : decode cL_law 1116 = .ok (.lcmp, 1) := by decide +kernel
theorem dL_law_1117 : decode cL_law 1117 = .ok (.ifCond .eq 5, 3) := by decide +kernel
theorem dL_law_1120 : decode cL_law 1120 = .ok (.iconst 0, 1) := by decide +kernel
theorem dL_law_1121 : decode cL_law 1121 = .ok (.ireturn, 1) := by decide +kernel
theorem dL_law_1122 : decode cL_law 1122 = .ok (.goto 716, 3) := by decide +kernel
theorem dL_law_1125 : decode cL_law 1125 = .ok (.aload_n 1, 1) := by decide +kernel
theorem dL_law_1126 : decode cL_law 1126 = .ok (.aload_n 0, 1) := by decide +kernel
theorem dL_law_1127 : decode cL_law 1127 = .ok (.iload 5, 2) := by decide +kernel
theorem dL_law_1129 : decode cL_law 1129 = .ok (.iconst 1, 1) := by decide +kernel
theorem dL_law_1130 : decode cL_law 1130 = .ok (.iadd, 1) := by decide +kernel
theorem dL_law_1131 : decode cL_law 1131 = .ok (.iaload, 1) := by decide +kernel
theorem dL_law_1132 : decode cL_law 1132 = .ok (.aload_n 3, 1) := by decide +kernel
theorem dL_law_1133 : decode cL_law 1133 = .ok (.invokestatic 177, 3) := by decide +kernel
theorem dL_law_1136 : decode cL_law 1136 = .ok (.istore 6, 2) := by decide +kernel
theorem dL_law_1138 : decode cL_law 1138 = .ok (.aload_n 2, 1) := by decide +kernel
theorem dL_law_1139 : decode cL_law 1139 = .ok (.aload_n 0, 1) := by decide +kernel
theorem dL_law_1140 : decode cL_law 1140 = .ok (.iload 5, 2) := by decide +kernel
theorem dL_law_1142 : decode cL_law 1142 = .ok (.iconst 1, 1) := by decide +kernel
theorem dL_law_1143 : decode cL_law 1143 = .ok (.iadd, 1) := by decide +kernel
theorem dL_law_1144 : decode cL_law 1144 = .ok (.iaload, 1) := by decide +kernel
theorem dL_law_1145 : decode cL_law 1145 = .ok (.invokevirtual 179, 3) := by decide +kernel
theorem dL_law_1148 : decode cL_law 1148 = .ok (.istore 7, 2) := by decide +kernel
theorem dL_law_1150 : decode cL_law 1150 = .ok (.aload_n 2, 1) := by decide +kernel
theorem dL_law_1151 : decode cL_law 1151 = .ok (.invokevirtual 123, 3) := by decide +kernel
theorem dL_law_1154 : decode cL_law 1154 = .ok (.iload 6, 2) := by decide +kernel
theorem dL_law_1156 : decode cL_law 1156 = .ok (.if_icmp .eq 5, 3) := by decide +kernel
theorem dL_law_1159 : decode cL_law 1159 = .ok (.iconst 0, 1) := by decide +kernel
theorem dL_law_1160 : decode cL_law 1160 = .ok (.ireturn, 1) := by decide +kernel
theorem dL_law_1161 : decode cL_law 1161 = .ok (.iload 6, 2) := by decide +kernel
theorem dL_law_1163 : decode cL_law 1163 = .ok (.ifCond .ne 15, 3) := by decide +kernel
theorem dL_law_1166 : decode cL_law 1166 = .ok (.aload_n 3, 1) := by decide +kernel
theorem dL_law_1167 : decode cL_law 1167 = .ok (.iconst 0, 1) := by decide +kernel
theorem dL_law_1168 : decode cL_law 1168 = .ok (.laload, 1) := by decide +kernel
theorem dL_law_1169 : decode cL_law 1169 = .ok (.iload 7, 2) := by decide +kernel
theorem dL_law_1171 : decode cL_law 1171 = .ok (.i2l, 1) := by decide +kernel
theorem dL_law_1172 : decode cL_law 1172 = .ok (.lcmp, 1) := by decide +kernel
theorem dL_law_1173 : decode cL_law 1173 = .ok (.ifCond .eq 5, 3) := by decide +kernel
theorem dL_law_1176 : decode cL_law 1176 = .ok (.iconst 0, 1) := by decide +kernel
theorem dL_law_1177 : decode cL_law 1177 = .ok (.ireturn, 1) := by decide +kernel
theorem dL_law_1178 : decode cL_law 1178 = .ok (.goto 660, 3) := by decide +kernel
theorem dL_law_1181 : decode cL_law 1181 = .ok (.aload_n 1, 1) := by decide +kernel
theorem dL_law_1182 : decode cL_law 1182 = .ok (.invokevirtual 180, 3) := by decide +kernel
theorem dL_law_1185 : decode cL_law 1185 = .ok (.aload_n 2, 1) := by decide +kernel
theorem dL_law_1186 : decode cL_law 1186 = .ok (.invokevirtual 183, 3) := by decide +kernel
theorem dL_law_1189 : decode cL_law 1189 = .ok (.if_icmp .eq 649, 3) := by decide +kernel
theorem dL_law_1192 : decode cL_law 1192 = .ok (.iconst 0, 1) := by decide +kernel
theorem dL_law_1193 : decode cL_law 1193 = .ok (.ireturn, 1) := by decide +kernel
theorem dL_law_1194 : decode cL_law 1194 = .ok (.aload_n 1, 1) := by decide +kernel
theorem dL_law_1195 : decode cL_law 1195 = .ok (.aload_n 0, 1) := by decide +kernel
theorem dL_law_1196 : decode cL_law 1196 = .ok (.iload 5, 2) := by decide +kernel
theorem dL_law_1198 : decode cL_law 1198 = .ok (.iconst 1, 1) := by decide +kernel
theorem dL_law_1199 : decode cL_law 1199 = .ok (.iadd, 1) := by decide +kernel
theorem dL_law_1200 : decode cL_law 1200 = .ok (.iaload, 1) := by decide +kernel
theorem dL_law_1201 : decode cL_law 1201 = .ok (.i2c, 1) := by decide +kernel
theorem dL_law_1202 : decode cL_law 1202 = .ok (.aload_n 3, 1) := by decide +kernel
theorem dL_law_1203 : decode cL_law 1203 = .ok (.invokestatic 184, 3) := by decide +kernel
theorem dL_law_1206 : decode cL_law 1206 = .ok (.istore 6, 2) := by decide +kernel
theorem dL_law_1208 : decode cL_law 1208 = .ok (.aload_n 2, 1) := by decide +kernel
theorem dL_law_1209 : decode cL_law 1209 = .ok (.aload_n 0, 1) := by decide +kernel
theorem dL_law_1210 : decode cL_law 1210 = .ok (.iload 5, 2) := by decide +kernel
theorem dL_law_1212 : decode cL_law 1212 = .ok (.iconst 1, 1) := by decide +kernel
theorem dL_law_1213 : decode cL_law 1213 = .ok (.iadd, 1) := by decide +kernel
theorem dL_law_1214 : decode cL_law 1214 = .ok (.iaload, 1) := by decide +kernel
theorem dL_law_1215 : decode cL_law 1215 = .ok (.i2c, 1) := by decide +kernel
theorem dL_law_1216 : decode cL_law 1216 = .ok (.invokevirtual 187, 3) := by decide +kernel
theorem dL_law_1219 : decode cL_law 1219 = .ok (.istore 7, 2) := by decide +kernel
theorem dL_law_1221 : decode cL_law 1221 = .ok (.aload_n 2, 1) := by decide +kernel
theorem dL_law_1222 : decode cL_law 1222 = .ok (.invokevirtual 123, 3) := by decide +kernel
theorem dL_law_1225 : decode cL_law 1225 = .ok (.iload 6, 2) := by decide +kernel
theorem dL_law_1227 : decode cL_law 1227 = .ok (.if_icmp .eq 5, 3) := by decide +kernel
theorem dL_law_1230 : decode cL_law 1230 = .ok (.iconst 0, 1) := by decide +kernel
theorem dL_law_1231 : decode cL_law 1231 = .ok (.ireturn, 1) := by decide +kernel
theorem dL_law_1232 : decode cL_law 1232 = .ok (.iload 6, 2) := by decide +kernel
theorem dL_law_1234 : decode cL_law 1234 = .ok (.ifCond .ne 15, 3) := by decide +kernel
theorem dL_law_1237 : decode cL_law 1237 = .ok (.aload_n 3, 1) := by decide +kernel
theorem dL_law_1238 : decode cL_law 1238 = .ok (.iconst 0, 1) := by decide +kernel
theorem dL_law_1239 : decode cL_law 1239 = .ok (.laload, 1) := by decide +kernel
theorem dL_law_1240 : decode cL_law 1240 = .ok (.iload 7, 2) := by decide +kernel
theorem dL_law_1242 : decode cL_law 1242 = .ok (.i2l, 1) := by decide +kernel
theorem dL_law_1243 : decode cL_law 1243 = .ok (.lcmp, 1) := by decide +kernel
theorem dL_law_1244 : decode cL_law 1244 = .ok (.ifCond .eq 5, 3) := by decide +kernel
theorem dL_law_1247 : decode cL_law 1247 = .ok (.iconst 0, 1) := by decide +kernel
theorem dL_law_1248 : decode cL_law 1248 = .ok (.ireturn, 1) := by decide +kernel
theorem dL_law_1249 : decode cL_law 1249 = .ok (.goto 589, 3) := by decide +kernel
theorem dL_law_1252 : decode cL_law 1252 = .ok (.aload_n 1, 1) := by decide +kernel
theorem dL_law_1253 : decode cL_law 1253 = .ok (.aload_n 3, 1) := by decide +kernel
theorem dL_law_1254 : decode cL_law 1254 = .ok (.invokestatic 188, 3) := by decide +kernel
theorem dL_law_1257 : decode cL_law 1257 = .ok (.istore 6, 2) := by decide +kernel
theorem dL_law_1259 : decode cL_law 1259 = .ok (.aload_n 2, 1) := by decide +kernel
theorem dL_law_1260 : decode cL_law 1260 = .ok (.invokevirtual 190, 3) := by decide +kernel
theorem dL_law_1263 : decode cL_law 1263 = .ok (.istore 7, 2) := by decide +kernel
theorem dL_law_1265 : decode cL_law 1265 = .ok (.aload_n 2, 1) := by decide +kernel
theorem dL_law_1266 : decode cL_law 1266 = .ok (.invokevirtual 123, 3) := by decide +kernel
theorem dL_law_1269 : decode cL_law 1269 = .ok (.iload 6, 2) := by decide +kernel
theorem dL_law_1271 : decode cL_law 1271 = .ok (.if_icmp .eq 5, 3) := by decide +kernel
theorem dL_law_1274 : decode cL_law 1274 = .ok (.iconst 0, 1) := by decide +kernel
theorem dL_law_1275 : decode cL_law 1275 = .ok (.ireturn, 1) := by decide +kernel
theorem dL_law_1276 : decode cL_law 1276 = .ok (.iload 6, 2) := by decide +kernel
theorem dL_law_1278 : decode cL_law 1278 = .ok (.ifCond .ne 15, 3) := by decide +kernel
theorem dL_law_1281 : decode cL_law 1281 = .ok (.aload_n 3, 1) := by decide +kernel
theorem dL_law_1282 : decode cL_law 1282 = .ok (.iconst 0, 1) := by decide +kernel
theorem dL_law_1283 : decode cL_law 1283 = .ok (.laload, 1) := by decide +kernel
theorem dL_law_1284 : decode cL_law 1284 = .ok (.iload 7, 2) := by decide +kernel
theorem dL_law_1286 : decode cL_law 1286 = .ok (.i2l, 1) := by decide +kernel
theorem dL_law_1287 : decode cL_law 1287 = .ok (.lcmp, 1) := by decide +kernel
theorem dL_law_1288 : decode cL_law 1288 = .ok (.ifCond .eq 5, 3) := by decide +kernel
theorem dL_law_1291 : decode cL_law 1291 = .ok (.iconst 0, 1) := by decide +kernel
theorem dL_law_1292 : decode cL_law 1292 = .ok (.ireturn, 1) := by decide +kernel
theorem dL_law_1293 : decode cL_law 1293 = .ok (.goto 545, 3) := by decide +kernel
theorem dL_law_1296 : decode cL_law 1296 = .ok (.aload_n 1, 1) := by decide +kernel
theorem dL_law_1297 : decode cL_law 1297 = .ok (.aload_n 0, 1) := by decide +kernel
theorem dL_law_1298 : decode cL_law 1298 = .ok (.iload 5, 2) := by decide +kernel
theorem dL_law_1300 : decode cL_law 1300 = .ok (.iconst 1, 1) := by decide +kernel
theorem dL_law_1301 : decode cL_law 1301 = .ok (.iadd, 1) := by decide +kernel
theorem dL_law_1302 : decode cL_law 1302 = .ok (.iaload, 1) := by decide +kernel
theorem dL_law_1303 : decode cL_law 1303 = .ok (.aload_n 3, 1) := by decide +kernel
theorem dL_law_1304 : decode cL_law 1304 = .ok (.invokestatic 191, 3) := by decide +kernel
theorem dL_law_1307 : decode cL_law 1307 = .ok (.istore 6, 2) := by decide +kernel
theorem dL_law_1309 : decode cL_law 1309 = .ok (.aload_n 2, 1) := by decide +kernel
theorem dL_law_1310 : decode cL_law 1310 = .ok (.aload_n 0, 1) := by decide +kernel
theorem dL_law_1311 : decode cL_law 1311 = .ok (.iload 5, 2) := by decide +kernel
theorem dL_law_1313 : decode cL_law 1313 = .ok (.iconst 1, 1) := by decide +kernel
theorem dL_law_1314 : decode cL_law 1314 = .ok (.iadd, 1) := by decide +kernel
theorem dL_law_1315 : decode cL_law 1315 = .ok (.iaload, 1) := by decide +kernel
theorem dL_law_1316 : decode cL_law 1316 = .ok (.invokevirtual 193, 3) := by decide +kernel
theorem dL_law_1319 : decode cL_law 1319 = .ok (.istore 7, 2) := by decide +kernel
theorem dL_law_1321 : decode cL_law 1321 = .ok (.aload_n 2, 1) := by decide +kernel
theorem dL_law_1322 : decode cL_law 1322 = .ok (.invokevirtual 123, 3) := by decide +kernel
theorem dL_law_1325 : decode cL_law 1325 = .ok (.iload 6, 2) := by decide +kernel
theorem dL_law_1327 : decode cL_law 1327 = .ok (.if_icmp .eq 5, 3) := by decide +kernel
theorem dL_law_1330 : decode cL_law 1330 = .ok (.iconst 0, 1) := by decide +kernel
theorem dL_law_1331 : decode cL_law 1331 = .ok (.ireturn, 1) := by decide +kernel
theorem dL_law_1332 : decode cL_law 1332 = .ok (.iload 6, 2) := by decide +kernel
theorem dL_law_1334 : decode cL_law 1334 = .ok (.ifCond .ne 15, 3) := by decide +kernel
theorem dL_law_1337 : decode cL_law 1337 = .ok (.aload_n 3, 1) := by decide +kernel
theorem dL_law_1338 : decode cL_law 1338 = .ok (.iconst 0, 1) := by decide +kernel
theorem dL_law_1339 : decode cL_law 1339 = .ok (.laload, 1) := by decide +kernel
theorem dL_law_1340 : decode cL_law 1340 = .ok (.iload 7, 2) := by decide +kernel
theorem dL_law_1342 : decode cL_law 1342 = .ok (.i2l, 1) := by decide +kernel
theorem dL_law_1343 : decode cL_law 1343 = .ok (.lcmp, 1) := by decide +kernel
theorem dL_law_1344 : decode cL_law 1344 = .ok (.ifCond .eq 5, 3) := by decide +kernel
theorem dL_law_1347 : decode cL_law 1347 = .ok (.iconst 0, 1) := by decide +kernel
theorem dL_law_1348 : decode cL_law 1348 = .ok (.ireturn, 1) := by decide +kernel
theorem dL_law_1349 : decode cL_law 1349 = .ok (.goto 489, 3) := by decide +kernel
theorem dL_law_1352 : decode cL_law 1352 = .ok (.aload_n 1, 1) := by decide +kernel
theorem dL_law_1353 : decode cL_law 1353 = .ok (.aload_n 3, 1) := by decide +kernel
theorem dL_law_1354 : decode cL_law 1354 = .ok (.invokestatic 194, 3) := by decide +kernel
theorem dL_law_1357 : decode cL_law 1357 = .ok (.istore 6, 2) := by decide +kernel
theorem dL_law_1359 : decode cL_law 1359 = .ok (.aload_n 2, 1) := by decide +kernel
theorem dL_law_1360 : decode cL_law 1360 = .ok (.invokevirtual 196, 3) := by decide +kernel
theorem dL_law_1363 : decode cL_law 1363 = .ok (.istore 7, 2) := by decide +kernel
theorem dL_law_1365 : decode cL_law 1365 = .ok (.aload_n 2, 1) := by decide +kernel
theorem dL_law_1366 : decode cL_law 1366 = .ok (.invokevirtual 123, 3) := by decide +kernel
theorem dL_law_1369 : decode cL_law 1369 = .ok (.iload 6, 2) := by decide +kernel
theorem dL_law_1371 : decode cL_law 1371 = .ok (.if_icmp .eq 5, 3) := by decide +kernel
theorem dL_law_1374 : decode cL_law 1374 = .ok (.iconst 0, 1) := by decide +kernel
theorem dL_law_1375 : decode cL_law 1375 = .ok (.ireturn, 1) := by decide +kernel
theorem dL_law_1376 : decode cL_law 1376 = .ok (.iload 6, 2) := by decide +kernel
theorem dL_law_1378 : decode cL_law 1378 = .ok (.ifCond .ne 15, 3) := by decide +kernel
theorem dL_law_1381 : decode cL_law 1381 = .ok (.aload_n 3, 1) := by decide +kernel
theorem dL_law_1382 : decode cL_law 1382 = .ok (.iconst 0, 1) := by decide +kernel
theorem dL_law_1383 : decode cL_law 1383 = .ok (.laload, 1) := by decide +kernel
theorem dL_law_1384 : decode cL_law 1384 = .ok (.iload 7, 2) := by decide +kernel
theorem dL_law_1386 : decode cL_law 1386 = .ok (.i2l, 1) := by decide +kernel
theorem dL_law_1387 : decode cL_law 1387 = .ok (.lcmp, 1) := by decide +kernel
theorem dL_law_1388 : decode cL_law 1388 = .ok (.ifCond .eq 5, 3) := by decide +kernel
theorem dL_law_1391 : decode cL_law 1391 = .ok (.iconst 0, 1) := by decide +kernel
theorem dL_law_1392 : decode cL_law 1392 = .ok (.ireturn, 1) := by decide +kernel
theorem dL_law_1393 : decode cL_law 1393 = .ok (.goto 445, 3) := by decide +kernel
theorem dL_law_1396 : decode cL_law 1396 = .ok (.aload_n 1, 1) := by decide +kernel
theorem dL_law_1397 : decode cL_law 1397 = .ok (.aload_n 0, 1) := by decide +kernel
theorem dL_law_1398 : decode cL_law 1398 = .ok (.iload 5, 2) := by decide +kernel
theorem dL_law_1400 : decode cL_law 1400 = .ok (.iconst 1, 1) := by decide +kernel
theorem dL_law_1401 : decode cL_law 1401 = .ok (.iadd, 1) := by decide +kernel
theorem dL_law_1402 : decode cL_law 1402 = .ok (.iaload, 1) := by decide +kernel
theorem dL_law_1403 : decode cL_law 1403 = .ok (.ifCond .eq 7, 3) := by decide +kernel
theorem dL_law_1406 : decode cL_law 1406 = .ok (.iconst 1, 1) := by decide +kernel
theorem dL_law_1407 : decode cL_law 1407 = .ok (.goto 4, 3) := by decide +kernel
theorem dL_law_1410 : decode cL_law 1410 = .ok (.iconst 0, 1) := by decide +kernel
theorem dL_law_1411 : decode cL_law 1411 = .ok (.aload_n 3, 1) := by decide +kernel
theorem dL_law_1412 : decode cL_law 1412 = .ok (.invokestatic 197, 3) := by decide +kernel
theorem dL_law_1415 : decode cL_law 1415 = .ok (.istore 6, 2) := by decide +kernel
theorem dL_law_1417 : decode cL_law 1417 = .ok (.aload_n 2, 1) := by decide +kernel
theorem dL_law_1418 : decode cL_law 1418 = .ok (.aload_n 0, 1) := by decide +kernel
theorem dL_law_1419 : decode cL_law 1419 = .ok (.iload 5, 2) := by decide +kernel
theorem dL_law_1421 : decode cL_law 1421 = .ok (.iconst 1, 1) := by decide +kernel
theorem dL_law_1422 : decode cL_law 1422 = .ok (.iadd, 1) := by decide +kernel
theorem dL_law_1423 : decode cL_law 1423 = .ok (.iaload, 1) := by decide +kernel
theorem dL_law_1424 : decode cL_law 1424 = .ok (.ifCond .eq 7, 3) := by decide +kernel
theorem dL_law_1427 : decode cL_law 1427 = .ok (.iconst 1, 1) := by decide +kernel
theorem dL_law_1428 : decode cL_law 1428 = .ok (.goto 4, 3) := by decide +kernel
theorem dL_law_1431 : decode cL_law 1431 = .ok (.iconst 0, 1) := by decide +kernel
theorem dL_law_1432 : decode cL_law 1432 = .ok (.invokevirtual 200, 3) := by decide +kernel
theorem dL_law_1435 : decode cL_law 1435 = .ok (.istore 7, 2) := by decide +kernel
theorem dL_law_1437 : decode cL_law 1437 = .ok (.aload_n 2, 1) := by decide +kernel
theorem dL_law_1438 : decode cL_law 1438 = .ok (.invokevirtual 123, 3) := by decide +kernel
theorem dL_law_1441 : decode cL_law 1441 = .ok (.iload 6, 2) := by decide +kernel
theorem dL_law_1443 : decode cL_law 1443 = .ok (.if_icmp .eq 5, 3) := by decide +kernel
theorem dL_law_1446 : decode cL_law 1446 = .ok (.iconst 0, 1) := by decide +kernel
theorem dL_law_1447 : decode cL_law 1447 = .ok (.ireturn, 1) := by decide +kernel
theorem dL_law_1448 : decode cL_law 1448 = .ok (.iload 6, 2) := by decide +kernel
theorem dL_law_1450 : decode cL_law 1450 = .ok (.ifCond .ne 15, 3) := by decide +kernel
theorem dL_law_1453 : decode cL_law 1453 = .ok (.aload_n 3, 1) := by decide +kernel
theorem dL_law_1454 : decode cL_law 1454 = .ok (.iconst 0, 1) := by decide +kernel
theorem dL_law_1455 : decode cL_law 1455 = .ok (.laload, 1) := by decide +kernel
theorem dL_law_1456 : decode cL_law 1456 = .ok (.iload 7, 2) := by decide +kernel
theorem dL_law_1458 : decode cL_law 1458 = .ok (.i2l, 1) := by decide +kernel
theorem dL_law_1459 : decode cL_law 1459 = .ok (.lcmp, 1) := by decide +kernel
theorem dL_law_1460 : decode cL_law 1460 = .ok (.ifCond .eq 5, 3) := by decide +kernel
theorem dL_law_1463 : decode cL_law 1463 = .ok (.iconst 0, 1) := by decide +kernel
theorem dL_law_1464 : decode cL_law 1464 = .ok (.ireturn, 1) := by decide +kernel
theorem dL_law_1465 : decode cL_law 1465 = .ok (.goto 373, 3) := by decide +kernel
theorem dL_law_1468 : decode cL_law 1468 = .ok (.aload_n 1, 1) := by decide +kernel
theorem dL_law_1469 : decode cL_law 1469 = .ok (.invokevirtual 201, 3) := by decide +kernel
theorem dL_law_1472 : decode cL_law 1472 = .ok (.aload_n 2, 1) := by decide +kernel
theorem dL_law_1473 : decode cL_law 1473 = .ok (.invokevirtual 204, 3) := by decide +kernel
theorem dL_law_1476 : decode cL_law 1476 = .ok (.if_icmp .eq 362, 3) := by decide +kernel
theorem dL_law_1479 : decode cL_law 1479 = .ok (.iconst 0, 1) := by decide +kernel
theorem dL_law_1480 : decode cL_law 1480 = .ok (.ireturn, 1) := by decide +kernel
theorem dL_law_1481 : decode cL_law 1481 = .ok (.aload_n 1, 1) := by decide +kernel
theorem dL_law_1482 : decode cL_law 1482 = .ok (.aload_n 0, 1) := by decide +kernel
theorem dL_law_1483 : decode cL_law 1483 = .ok (.iload 5, 2) := by decide +kernel
theorem dL_law_1485 : decode cL_law 1485 = .ok (.iconst 1, 1) := by decide +kernel
theorem dL_law_1486 : decode cL_law 1486 = .ok (.iadd, 1) := by decide +kernel
theorem dL_law_1487 : decode cL_law 1487 = .ok (.iaload, 1) := by decide +kernel
theorem dL_law_1488 : decode cL_law 1488 = .ok (.aload_n 3, 1) := by decide +kernel
theorem dL_law_1489 : decode cL_law 1489 = .ok (.invokestatic 205, 3) := by decide +kernel
theorem dL_law_1492 : decode cL_law 1492 = .ok (.istore 6, 2) := by decide +kernel
theorem dL_law_1494 : decode cL_law 1494 = .ok (.aload_n 2, 1) := by decide +kernel
theorem dL_law_1495 : decode cL_law 1495 = .ok (.aload_n 0, 1) := by decide +kernel
theorem dL_law_1496 : decode cL_law 1496 = .ok (.iload 5, 2) := by decide +kernel
theorem dL_law_1498 : decode cL_law 1498 = .ok (.iconst 1, 1) := by decide +kernel
theorem dL_law_1499 : decode cL_law 1499 = .ok (.iadd, 1) := by decide +kernel
theorem dL_law_1500 : decode cL_law 1500 = .ok (.iaload, 1) := by decide +kernel
theorem dL_law_1501 : decode cL_law 1501 = .ok (.invokevirtual 207, 3) := by decide +kernel
theorem dL_law_1504 : decode cL_law 1504 = .ok (.istore 7, 2) := by decide +kernel
theorem dL_law_1506 : decode cL_law 1506 = .ok (.aload_n 2, 1) := by decide +kernel
theorem dL_law_1507 : decode cL_law 1507 = .ok (.invokevirtual 123, 3) := by decide +kernel
theorem dL_law_1510 : decode cL_law 1510 = .ok (.iload 6, 2) := by decide +kernel
theorem dL_law_1512 : decode cL_law 1512 = .ok (.if_icmp .eq 5, 3) := by decide +kernel
theorem dL_law_1515 : decode cL_law 1515 = .ok (.iconst 0, 1) := by decide +kernel
theorem dL_law_1516 : decode cL_law 1516 = .ok (.ireturn, 1) := by decide +kernel
theorem dL_law_1517 : decode cL_law 1517 = .ok (.iload 6, 2) := by decide +kernel
theorem dL_law_1519 : decode cL_law 1519 = .ok (.ifCond .ne 15, 3) := by decide +kernel
theorem dL_law_1522 : decode cL_law 1522 = .ok (.aload_n 3, 1) := by decide +kernel
theorem dL_law_1523 : decode cL_law 1523 = .ok (.iconst 0, 1) := by decide +kernel
theorem dL_law_1524 : decode cL_law 1524 = .ok (.laload, 1) := by decide +kernel
theorem dL_law_1525 : decode cL_law 1525 = .ok (.iload 7, 2) := by decide +kernel
theorem dL_law_1527 : decode cL_law 1527 = .ok (.i2l, 1) := by decide +kernel
theorem dL_law_1528 : decode cL_law 1528 = .ok (.lcmp, 1) := by decide +kernel
theorem dL_law_1529 : decode cL_law 1529 = .ok (.ifCond .eq 5, 3) := by decide +kernel
theorem dL_law_1532 : decode cL_law 1532 = .ok (.iconst 0, 1) := by decide +kernel
theorem dL_law_1533 : decode cL_law 1533 = .ok (.ireturn, 1) := by decide +kernel
theorem dL_law_1534 : decode cL_law 1534 = .ok (.goto 304, 3) := by decide +kernel
theorem dL_law_1537 : decode cL_law 1537 = .ok (.aload_n 1, 1) := by decide +kernel
theorem dL_law_1538 : decode cL_law 1538 = .ok (.aload_n 0, 1) := by decide +kernel
theorem dL_law_1539 : decode cL_law 1539 = .ok (.iload 5, 2) := by decide +kernel
theorem dL_law_1541 : decode cL_law 1541 = .ok (.iconst 1, 1) := by decide +kernel
theorem dL_law_1542 : decode cL_law 1542 = .ok (.iadd, 1) := by decide +kernel
theorem dL_law_1543 : decode cL_law 1543 = .ok (.iaload, 1) := by decide +kernel
theorem dL_law_1544 : decode cL_law 1544 = .ok (.aload_n 3, 1) := by decide +kernel
theorem dL_law_1545 : decode cL_law 1545 = .ok (.invokestatic 208, 3) := by decide +kernel
theorem dL_law_1548 : decode cL_law 1548 = .ok (.istore 6, 2) := by decide +kernel
theorem dL_law_1550 : decode cL_law 1550 = .ok (.aload_n 2, 1) := by decide +kernel
theorem dL_law_1551 : decode cL_law 1551 = .ok (.aload_n 0, 1) := by decide +kernel
theorem dL_law_1552 : decode cL_law 1552 = .ok (.iload 5, 2) := by decide +kernel
theorem dL_law_1554 : decode cL_law 1554 = .ok (.iconst 1, 1) := by decide +kernel
theorem dL_law_1555 : decode cL_law 1555 = .ok (.iadd, 1) := by decide +kernel
theorem dL_law_1556 : decode cL_law 1556 = .ok (.iaload, 1) := by decide +kernel
theorem dL_law_1557 : decode cL_law 1557 = .ok (.invokevirtual 210, 3) := by decide +kernel
theorem dL_law_1560 : decode cL_law 1560 = .ok (.istore 7, 2) := by decide +kernel
theorem dL_law_1562 : decode cL_law 1562 = .ok (.aload_n 2, 1) := by decide +kernel
theorem dL_law_1563 : decode cL_law 1563 = .ok (.invokevirtual 123, 3) := by decide +kernel
theorem dL_law_1566 : decode cL_law 1566 = .ok (.iload 6, 2) := by decide +kernel
theorem dL_law_1568 : decode cL_law 1568 = .ok (.if_icmp .eq 5, 3) := by decide +kernel
theorem dL_law_1571 : decode cL_law 1571 = .ok (.iconst 0, 1) := by decide +kernel
theorem dL_law_1572 : decode cL_law 1572 = .ok (.ireturn, 1) := by decide +kernel
theorem dL_law_1573 : decode cL_law 1573 = .ok (.iload 6, 2) := by decide +kernel
theorem dL_law_1575 : decode cL_law 1575 = .ok (.ifCond .ne 15, 3) := by decide +kernel
theorem dL_law_1578 : decode cL_law 1578 = .ok (.aload_n 3, 1) := by decide +kernel
theorem dL_law_1579 : decode cL_law 1579 = .ok (.iconst 0, 1) := by decide +kernel
theorem dL_law_1580 : decode cL_law 1580 = .ok (.laload, 1) := by decide +kernel
theorem dL_law_1581 : decode cL_law 1581 = .ok (.iload 7, 2) := by decide +kernel
theorem dL_law_1583 : decode cL_law 1583 = .ok (.i2l, 1) := by decide +kernel
theorem dL_law_1584 : decode cL_law 1584 = .ok (.lcmp, 1) := by decide +kernel
theorem dL_law_1585 : decode cL_law 1585 = .ok (.ifCond .eq 5, 3) := by decide +kernel
theorem dL_law_1588 : decode cL_law 1588 = .ok (.iconst 0, 1) := by decide +kernel
theorem dL_law_1589 : decode cL_law 1589 = .ok (.ireturn, 1) := by decide +kernel
theorem dL_law_1590 : decode cL_law 1590 = .ok (.goto 248, 3) := by decide +kernel
theorem dL_law_1593 : decode cL_law 1593 = .ok (.aload_n 1, 1) := by decide +kernel
theorem dL_law_1594 : decode cL_law 1594 = .ok (.invokevirtual 211, 3) := by decide +kernel
theorem dL_law_1597 : decode cL_law 1597 = .ok (.aload_n 2, 1) := by decide +kernel
theorem dL_law_1598 : decode cL_law 1598 = .ok (.invokevirtual 214, 3) := by decide +kernel
theorem dL_law_1601 : decode cL_law 1601 = .ok (.if_icmp .eq 237, 3) := by decide +kernel
theorem dL_law_1604 : decode cL_law 1604 = .ok (.iconst 0, 1) := by decide +kernel
theorem dL_law_1605 : decode cL_law 1605 = .ok (.ireturn, 1) := by decide +kernel
theorem dL_law_1606 : decode cL_law 1606 = .ok (.aload_n 1, 1) := by decide +kernel
theorem dL_law_1607 : decode cL_law 1607 = .ok (.aload 4, 2) := by decide +kernel
theorem dL_law_1609 : decode cL_law 1609 = .ok (.invokestatic 215, 3) := by decide +kernel
theorem dL_law_1612 : decode cL_law 1612 = .ok (.istore 6, 2) := by decide +kernel
theorem dL_law_1614 : decode cL_law 1614 = .ok (.aload_n 2, 1) := by decide +kernel
theorem dL_law_1615 : decode cL_law 1615 = .ok (.invokevirtual 218, 3) := by decide +kernel
theorem dL_law_1618 : decode cL_law 1618 = .ok (.dstore 7, 2) := by decide +kernel
theorem dL_law_1620 : decode cL_law 1620 = .ok (.aload_n 2, 1) := by decide +kernel
theorem dL_law_1621 : decode cL_law 1621 = .ok (.invokevirtual 123, 3) := by decide +kernel
theorem dL_law_1624 : decode cL_law 1624 = .ok (.iload 6, 2) := by decide +kernel
theorem dL_law_1626 : decode cL_law 1626 = .ok (.if_icmp .eq 5, 3) := by decide +kernel
theorem dL_law_1629 : decode cL_law 1629 = .ok (.iconst 0, 1) := by decide +kernel
theorem dL_law_1630 : decode cL_law 1630 = .ok (.ireturn, 1) := by decide +kernel
theorem dL_law_1631 : decode cL_law 1631 = .ok (.iload 6, 2) := by decide +kernel
theorem dL_law_1633 : decode cL_law 1633 = .ok (.ifCond .ne 35, 3) := by decide +kernel
theorem dL_law_1636 : decode cL_law 1636 = .ok (.aload 4, 2) := by decide +kernel
theorem dL_law_1638 : decode cL_law 1638 = .ok (.iconst 0, 1) := by decide +kernel
theorem dL_law_1639 : decode cL_law 1639 = .ok (.daload, 1) := by decide +kernel
theorem dL_law_1640 : decode cL_law 1640 = .ok (.dload 7, 2) := by decide +kernel
theorem dL_law_1642 : decode cL_law 1642 = .ok (.dcmp .l, 1) := by decide +kernel
theorem dL_law_1643 : decode cL_law 1643 = .ok (.ifCond .eq 25, 3) := by decide +kernel
theorem dL_law_1646 : decode cL_law 1646 = .ok (.aload 4, 2) := by decide +kernel
theorem dL_law_1648 : decode cL_law 1648 = .ok (.iconst 0, 1) := by decide +kernel
theorem dL_law_1649 : decode cL_law 1649 = .ok (.daload, 1) := by decide +kernel
theorem dL_law_1650 : decode cL_law 1650 = .ok (.aload 4, 2) := by decide +kernel
theorem dL_law_1652 : decode cL_law 1652 = .ok (.iconst 0, 1) := by decide +kernel
theorem dL_law_1653 : decode cL_law 1653 = .ok (.daload, 1) := by decide +kernel
theorem dL_law_1654 : decode cL_law 1654 = .ok (.dcmp .l, 1) := by decide +kernel
theorem dL_law_1655 : decode cL_law 1655 = .ok (.ifCond .eq 11, 3) := by decide +kernel
theorem dL_law_1658 : decode cL_law 1658 = .ok (.dload 7, 2) := by decide +kernel
theorem dL_law_1660 : decode cL_law 1660 = .ok (.dload 7, 2) := by decide +kernel
theorem dL_law_1662 : decode cL_law 1662 = .ok (.dcmp .l, 1) := by decide +kernel
theorem dL_law_1663 : decode cL_law 1663 = .ok (.ifCond .ne 5, 3) := by decide +kernel
theorem dL_law_1666 : decode cL_law 1666 = .ok (.iconst 0, 1) := by decide +kernel
theorem dL_law_1667 : decode cL_law 1667 = .ok (.ireturn, 1) := by decide +kernel
theorem dL_law_1668 : decode cL_law 1668 = .ok (.goto 170, 3) := by decide +kernel
theorem dL_law_1671 : decode cL_law 1671 = .ok (.aload_n 1, 1) := by decide +kernel
theorem dL_law_1672 : decode cL_law 1672 = .ok (.aload 4, 2) := by decide +kernel
theorem dL_law_1674 : decode cL_law 1674 = .ok (.invokestatic 219, 3) := by decide +kernel
theorem dL_law_1677 : decode cL_law 1677 = .ok (.istore 6, 2) := by decide +kernel
theorem dL_law_1679 : decode cL_law 1679 = .ok (.aload_n 2, 1) := by decide +kernel
theorem dL_law_1680 : decode cL_law 1680 = .ok (.invokevirtual 221, 3) := by decide +kernel
theorem dL_law_1683 : decode cL_law 1683 = .ok (.fstore 7, 2) := by decide +kernel
theorem dL_law_1685 : decode cL_law 1685 = .ok (.aload_n 2, 1) := by decide +kernel
theorem dL_law_1686 : decode cL_law 1686 = .ok (.invokevirtual 123, 3) := by decide +kernel
theorem dL_law_1689 : decode cL_law 1689 = .ok (.iload 6, 2) := by decide +kernel
theorem dL_law_1691 : decode cL_law 1691 = .ok (.if_icmp .eq 5, 3) := by decide +kernel
theorem dL_law_1694 : decode cL_law 1694 = .ok (.iconst 0, 1) := by decide +kernel
theorem dL_law_1695 : decode cL_law 1695 = .ok (.ireturn, 1) := by decide +kernel
theorem dL_law_1696 : decode cL_law 1696 = .ok (.iload 6, 2) := by decide +kernel
theorem dL_law_1698 : decode cL_law 1698 = .ok (.ifCond .ne 36, 3) := by decide +kernel
theorem dL_law_1701 : decode cL_law 1701 = .ok (.aload 4, 2) := by decide +kernel
theorem dL_law_1703 : decode cL_law 1703 = .ok (.iconst 0, 1) := by decide +kernel
theorem dL_law_1704 : decode cL_law 1704 = .ok (.daload, 1) := by decide +kernel
theorem dL_law_1705 : decode cL_law 1705 = .ok (.fload 7, 2) := by decide +kernel
theorem dL_law_1707 : decode cL_law 1707 = .ok (.f2d, 1) := by decide +kernel
theorem dL_law_1708 : decode cL_law 1708 = .ok (.dcmp .l, 1) := by decide +kernel
theorem dL_law_1709 : decode cL_law 1709 = .ok (.ifCond .eq 25, 3) := by decide +kernel
theorem dL_law_1712 : decode cL_law 1712 = .ok (.aload 4, 2) := by decide +kernel
theorem dL_law_1714 : decode cL_law 1714 = .ok (.iconst 0, 1) := by decide +kernel
theorem dL_law_1715 : decode cL_law 1715 = .ok (.daload, 1) := by decide +kernel
theorem dL_law_1716 : decode cL_law 1716 = .ok (.aload 4, 2) := by decide +kernel
theorem dL_law_1718 : decode cL_law 1718 = .ok (.iconst 0, 1) := by decide +kernel
theorem dL_law_1719 : decode cL_law 1719 = .ok (.daload, 1) := by decide +kernel
theorem dL_law_1720 : decode cL_law 1720 = .ok (.dcmp .l, 1) := by decide +kernel
theorem dL_law_1721 : decode cL_law 1721 = .ok (.ifCond .eq 11, 3) := by decide +kernel
theorem dL_law_1724 : decode cL_law 1724 = .ok (.fload 7, 2) := by decide +kernel
theorem dL_law_1726 : decode cL_law 1726 = .ok (.fload 7, 2) := by decide +kernel
theorem dL_law_1728 : decode cL_law 1728 = .ok (.fcmp .l, 1) := by decide +kernel
theorem dL_law_1729 : decode cL_law 1729 = .ok (.ifCond .ne 5, 3) := by decide +kernel
theorem dL_law_1732 : decode cL_law 1732 = .ok (.iconst 0, 1) := by decide +kernel
theorem dL_law_1733 : decode cL_law 1733 = .ok (.ireturn, 1) := by decide +kernel
theorem dL_law_1734 : decode cL_law 1734 = .ok (.goto 104, 3) := by decide +kernel
theorem dL_law_1737 : decode cL_law 1737 = .ok (.aload_n 1, 1) := by decide +kernel
theorem dL_law_1738 : decode cL_law 1738 = .ok (.aload_n 3, 1) := by decide +kernel
theorem dL_law_1739 : decode cL_law 1739 = .ok (.invokestatic 222, 3) := by decide +kernel
theorem dL_law_1742 : decode cL_law 1742 = .ok (.istore 6, 2) := by decide +kernel
theorem dL_law_1744 : decode cL_law 1744 = .ok (.aload_n 2, 1) := by decide +kernel
theorem dL_law_1745 : decode cL_law 1745 = .ok (.invokevirtual 224, 3) := by decide +kernel
theorem dL_law_1748 : decode cL_law 1748 = .ok (.istore 7, 2) := by decide +kernel
theorem dL_law_1750 : decode cL_law 1750 = .ok (.aload_n 2, 1) := by decide +kernel
theorem dL_law_1751 : decode cL_law 1751 = .ok (.invokevirtual 123, 3) := by decide +kernel
theorem dL_law_1754 : decode cL_law 1754 = .ok (.iload 6, 2) := by decide +kernel
theorem dL_law_1756 : decode cL_law 1756 = .ok (.if_icmp .eq 5, 3) := by decide +kernel
theorem dL_law_1759 : decode cL_law 1759 = .ok (.iconst 0, 1) := by decide +kernel
theorem dL_law_1760 : decode cL_law 1760 = .ok (.ireturn, 1) := by decide +kernel
theorem dL_law_1761 : decode cL_law 1761 = .ok (.iload 6, 2) := by decide +kernel
theorem dL_law_1763 : decode cL_law 1763 = .ok (.ifCond .ne 15, 3) := by decide +kernel
theorem dL_law_1766 : decode cL_law 1766 = .ok (.aload_n 3, 1) := by decide +kernel
theorem dL_law_1767 : decode cL_law 1767 = .ok (.iconst 0, 1) := by decide +kernel
theorem dL_law_1768 : decode cL_law 1768 = .ok (.laload, 1) := by decide +kernel
theorem dL_law_1769 : decode cL_law 1769 = .ok (.iload 7, 2) := by decide +kernel
theorem dL_law_1771 : decode cL_law 1771 = .ok (.i2l, 1) := by decide +kernel
theorem dL_law_1772 : decode cL_law 1772 = .ok (.lcmp, 1) := by decide +kernel
theorem dL_law_1773 : decode cL_law 1773 = .ok (.ifCond .eq 5, 3) := by decide +kernel
theorem dL_law_1776 : decode cL_law 1776 = .ok (.iconst 0, 1) := by decide +kernel
theorem dL_law_1777 : decode cL_law 1777 = .ok (.ireturn, 1) := by decide +kernel
theorem dL_law_1778 : decode cL_law 1778 = .ok (.goto 60, 3) := by decide +kernel
theorem dL_law_1781 : decode cL_law 1781 = .ok (.aload_n 1, 1) := by decide +kernel
theorem dL_law_1782 : decode cL_law 1782 = .ok (.invokevirtual 225, 3) := by decide +kernel
theorem dL_law_1785 : decode cL_law 1785 = .ok (.aload_n 2, 1) := by decide +kernel
theorem dL_law_1786 : decode cL_law 1786 = .ok (.invokevirtual 228, 3) := by decide +kernel
theorem dL_law_1789 : decode cL_law 1789 = .ok (.if_icmp .eq 49, 3) := by decide +kernel
theorem dL_law_1792 : decode cL_law 1792 = .ok (.iconst 0, 1) := by decide +kernel
theorem dL_law_1793 : decode cL_law 1793 = .ok (.ireturn, 1) := by decide +kernel
theorem dL_law_1794 : decode cL_law 1794 = .ok (.aload_n 1, 1) := by decide +kernel
theorem dL_law_1795 : decode cL_law 1795 = .ok (.aload_n 3, 1) := by decide +kernel
theorem dL_law_1796 : decode cL_law 1796 = .ok (.invokestatic 229, 3) := by decide +kernel
theorem dL_law_1799 : decode cL_law 1799 = .ok (.istore 6, 2) := by decide +kernel
theorem dL_law_1801 : decode cL_law 1801 = .ok (.aload_n 2, 1) := by decide +kernel
theorem dL_law_1802 : decode cL_law 1802 = .ok (.invokevirtual 231, 3) := by decide +kernel
theorem dL_law_1805 : decode cL_law 1805 = .ok (.istore 7, 2) := by decide +kernel
theorem dL_law_1807 : decode cL_law 1807 = .ok (.aload_n 2, 1) := by decide +kernel
theorem dL_law_1808 : decode cL_law 1808 = .ok (.invokevirtual 123, 3) := by decide +kernel
theorem dL_law_1811 : decode cL_law 1811 = .ok (.iload 6, 2) := by decide +kernel
theorem dL_law_1813 : decode cL_law 1813 = .ok (.if_icmp .eq 5, 3) := by decide +kernel
theorem dL_law_1816 : decode cL_law 1816 = .ok (.iconst 0, 1) := by decide +kernel
theorem dL_law_1817 : decode cL_law 1817 = .ok (.ireturn, 1) := by decide +kernel
theorem dL_law_1818 : decode cL_law 1818 = .ok (.iload 6, 2) := by decide +kernel
theorem dL_law_1820 : decode cL_law 1820 = .ok (.ifCond .ne 15, 3) := by decide +kernel
theorem dL_law_1823 : decode cL_law 1823 = .ok (.aload_n 3, 1) := by decide +kernel
theorem dL_law_1824 : decode cL_law 1824 = .ok (.iconst 0, 1) := by decide +kernel
theorem dL_law_1825 : decode cL_law 1825 = .ok (.laload, 1) := by decide +kernel
theorem dL_law_1826 : decode cL_law 1826 = .ok (.iload 7, 2) := by decide +kernel
theorem dL_law_1828 : decode cL_law 1828 = .ok (.i2l, 1) := by decide +kernel
theorem dL_law_1829 : decode cL_law 1829 = .ok (.lcmp, 1) := by decide +kernel
theorem dL_law_1830 : decode cL_law 1830 = .ok (.ifCond .eq 5, 3) := by decide +kernel
theorem dL_law_1833 : decode cL_law 1833 = .ok (.iconst 0, 1) := by decide +kernel
theorem dL_law_1834 : decode cL_law 1834 = .ok (.ireturn, 1) := by decide +kernel
theorem dL_law_1835 : decode cL_law 1835 = .ok (.goto 3, 3) := by decide +kernel
theorem dL_law_1838 : decode cL_law 1838 = .ok (.iinc 5 3, 3) := by decide +kernel
theorem dL_law_1841 : decode cL_law 1841 = .ok (.goto (-1813), 3) := by decide +kernel
theorem dL_law_1844 : decode cL_law 1844 = .ok (.iconst 1, 1) := by decide +kernel
theorem dL_law_1845 : decode cL_law 1845 = .ok (.ireturn, 1) := by decide +kernel
