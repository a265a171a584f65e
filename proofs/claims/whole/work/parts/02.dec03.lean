theorem dX12_load_57 : decode cX12_load 57 = .ok (.iload 5, 2) := by decide +kernel
theorem dX12_load_59 : decode cX12_load 59 = .ok (.iadd, 1) := by decide +kernel
theorem dX12_load_60 : decode cX12_load 60 = .ok (.invokestatic 38, 3) := by decide +kernel
theorem dX12_load_63 : decode cX12_load 63 = .ok (.iaload, 1) := by decide +kernel
theorem dX12_load_64 : decode cX12_load 64 = .ok (.iadd, 1) := by decide +kernel
theorem dX12_load_65 : decode cX12_load 65 = .ok (.if_icmp .ne 7, 3) := by decide +kernel
theorem dX12_load_68 : decode cX12_load 68 = .ok (.iconst 1, 1) := by decide +kernel
theorem dX12_load_69 : decode cX12_load 69 = .ok (.goto 4, 3) := by decide +kernel
theorem dX12_load_72 : decode cX12_load 72 = .ok (.iconst 0, 1) := by decide +kernel
theorem dX12_load_73 : decode cX12_load 73 = .ok (.istore 6, 2) := by decide +kernel
theorem dX12_load_75 : decode cX12_load 75 = .ok (.iload_n 3, 1) := by decide +kernel
theorem dX12_load_76 : decode cX12_load 76 = .ok (.iload 6, 2) := by decide +kernel
theorem dX12_load_78 : decode cX12_load 78 = .ok (.ifCond .eq 13, 3) := by decide +kernel
theorem dX12_load_81 : decode cX12_load 81 = .ok (.aload_n 0, 1) := by decide +kernel
theorem dX12_load_82 : decode cX12_load 82 = .ok (.iload_n 1, 1) := by decide +kernel
theorem dX12_load_83 : decode cX12_load 83 = .ok (.iload 4, 2) := by decide +kernel
theorem dX12_load_85 : decode cX12_load 85 = .ok (.invokevirtual 61, 3) := by decide +kernel
theorem dX12_load_88 : decode cX12_load 88 = .ok (.goto 4, 3) := by decide +kernel
theorem dX12_load_91 : decode cX12_load 91 = .ok (.iconst 0, 1) := by decide +kernel
theorem dX12_load_92 : decode cX12_load 92 = .ok (.iadd, 1) := by decide +kernel
theorem dX12_load_93 : decode cX12_load 93 = .ok (.istore_n 3, 1) := by decide +kernel
theorem dX12_load_94 : decode cX12_load 94 = .ok (.iinc 4 1, 3) := by decide +kernel
theorem dX12_load_97 : decode cX12_load 97 = .ok (.goto (-92), 3) := by decide +kernel
theorem dX12_load_100 : decode cX12_load 100 = .ok (.iload_n 3, 1) := by decide +kernel
theorem dX12_load_101 : decode cX12_load 101 = .ok (.ireturn, 1) := by decide +kernel
theorem dX12_loadBy_0 : decode cX12_loadBy 0 = .ok (.iconst 0, 1) := by decide +kernel
theorem dX12_loadBy_1 : decode cX12_loadBy 1 = .ok (.istore 4, 2) := by decide +kernel
theorem dX12_loadBy_3 : decode cX12_loadBy 3 = .ok (.iconst 0, 1) := by decide +kernel
theorem dX12_loadBy_4 : decode cX12_loadBy 4 = .ok (.istore 5, 2) := by decide +kernel
theorem dX12_loadBy_6 : decode cX12_loadBy 6 = .ok (.iload 5, 2) := by decide +kernel
theorem dX12_loadBy_8 : decode cX12_loadBy 8 = .ok (.aload_n 0, 1) := by decide +kernel
theorem dX12_loadBy_9 : decode cX12_loadBy 9 = .ok (.getfield 7, 3) := by decide +kernel
theorem dX12_loadBy_12 : decode cX12_loadBy 12 = .ok (.iload_n 1, 1) := by decide +kernel
theorem dX12_loadBy_13 : decode cX12_loadBy 13 = .ok (.iconst 2, 1) := by decide +kernel
theorem dX12_loadBy_14 : decode cX12_loadBy 14 = .ok (.invokestatic 38, 3) := by decide +kernel
theorem dX12_loadBy_17 : decode cX12_loadBy 17 = .ok (.iaload, 1) := by decide +kernel
theorem dX12_loadBy_18 : decode cX12_loadBy 18 = .ok (.if_icmp .ge 119, 3) := by decide +kernel
theorem dX12_loadBy_21 : decode cX12_loadBy 21 = .ok (.aload_n 0, 1) := by decide +kernel
theorem dX12_loadBy_22 : decode cX12_loadBy 22 = .ok (.getfield 7, 3) := by decide +kernel
theorem dX12_loadBy_25 : decode cX12_loadBy 25 = .ok (.iload_n 1, 1) := by decide +kernel
theorem dX12_loadBy_26 : decode cX12_loadBy 26 = .ok (.iload_n 3, 1) := by decide +kernel
theorem dX12_loadBy_27 : decode cX12_loadBy 27 = .ok (.invokestatic 64, 3) := by decide +kernel
theorem dX12_loadBy_30 : decode cX12_loadBy 30 = .ok (.iaload, 1) := by decide +kernel
theorem dX12_loadBy_31 : decode cX12_loadBy 31 = .ok (.ifCond .le 106, 3) := by decide +kernel
theorem dX12_loadBy_34 : decode cX12_loadBy 34 = .ok (.aload_n 0, 1) := by decide +kernel
theorem dX12_loadBy_35 : decode cX12_loadBy 35 = .ok (.getfield 7, 3) := by decide +kernel
theorem dX12_loadBy_38 : decode cX12_loadBy 38 = .ok (.iload_n 1, 1) := by decide +kernel
theorem dX12_loadBy_39 : decode cX12_loadBy 39 = .ok (.iload 5, 2) := by decide +kernel
theorem dX12_loadBy_41 : decode cX12_loadBy 41 = .ok (.iconst 1, 1) := by decide +kernel
theorem dX12_loadBy_42 : decode cX12_loadBy 42 = .ok (.invokestatic 54, 3) := by decide +kernel
theorem dX12_loadBy_45 : decode cX12_loadBy 45 = .ok (.iaload, 1) := by decide +kernel
theorem dX12_loadBy_46 : decode cX12_loadBy 46 = .ok (.istore 6, 2) := by decide +kernel
theorem dX12_loadBy_48 : decode cX12_loadBy 48 = .ok (.iload 6, 2) := by decide +kernel
theorem dX12_loadBy_50 : decode cX12_loadBy 50 = .ok (.bipush (-6), 2) := by decide +kernel
theorem dX12_loadBy_52 : decode cX12_loadBy 52 = .ok (.if_icmp .eq 40, 3) := by decide +kernel
theorem dX12_loadBy_55 : decode cX12_loadBy 55 = .ok (.iload_n 2, 1) := by decide +kernel
theorem dX12_loadBy_56 : decode cX12_loadBy 56 = .ok (.iload 6, 2) := by decide +kernel
theorem dX12_loadBy_58 : decode cX12_loadBy 58 = .ok (.if_icmp .eq 30, 3) := by decide +kernel
theorem dX12_loadBy_61 : decode cX12_loadBy 61 = .ok (.iload_n 2, 1) := by decide +kernel
theorem dX12_loadBy_62 : decode cX12_loadBy 62 = .ok (.bipush 15, 2) := by decide +kernel
theorem dX12_loadBy_64 : decode cX12_loadBy 64 = .ok (.if_icmp .eq 24, 3) := by decide +kernel
theorem dX12_loadBy_67 : decode cX12_loadBy 67 = .ok (.iload_n 2, 1) := by decide +kernel
theorem dX12_loadBy_68 : decode cX12_loadBy 68 = .ok (.bipush 12, 2) := by decide +kernel
theorem dX12_loadBy_70 : decode cX12_loadBy 70 = .ok (.aload_n 0, 1) := by decide +kernel
theorem dX12_loadBy_71 : decode cX12_loadBy 71 = .ok (.getfield 7, 3) := by decide +kernel
theorem dX12_loadBy_74 : decode cX12_loadBy 74 = .ok (.iload_n 1, 1) := by decide +kernel
theorem dX12_loadBy_75 : decode cX12_loadBy 75 = .ok (.bipush 75, 2) := by decide +kernel
theorem dX12_loadBy_77 : decode cX12_loadBy 77 = .ok (.iload 6, 2) := by decide +kernel
theorem dX12_loadBy_79 : decode cX12_loadBy 79 = .ok (.iadd, 1) := by decide +kernel
theorem dX12_loadBy_80 : decode cX12_loadBy 80 = .ok (.invokestatic 38, 3) := by decide +kernel
theorem dX12_loadBy_83 : decode cX12_loadBy 83 = .ok (.iaload, 1) := by decide +kernel
theorem dX12_loadBy_84 : decode cX12_loadBy 84 = .ok (.iadd, 1) := by decide +kernel
theorem dX12_loadBy_85 : decode cX12_loadBy 85 = .ok (.if_icmp .ne 7, 3) := by decide +kernel
theorem dX12_loadBy_88 : decode cX12_loadBy 88 = .ok (.iconst 1, 1) := by decide +kernel
theorem dX12_loadBy_89 : decode cX12_loadBy 89 = .ok (.goto 4, 3) := by decide +kernel
theorem dX12_loadBy_92 : decode cX12_loadBy 92 = .ok (.iconst 0, 1) := by decide +kernel
theorem dX12_loadBy_93 : decode cX12_loadBy 93 = .ok (.istore 7, 2) := by decide +kernel
theorem dX12_loadBy_95 : decode cX12_loadBy 95 = .ok (.iload 4, 2) := by decide +kernel
theorem dX12_loadBy_97 : decode cX12_loadBy 97 = .ok (.iload 7, 2) := by decide +kernel
theorem dX12_loadBy_99 : decode cX12_loadBy 99 = .ok (.ifCond .eq 28, 3) := by decide +kernel
theorem dX12_loadBy_102 : decode cX12_loadBy 102 = .ok (.aload_n 0, 1) := by decide +kernel
theorem dX12_loadBy_103 : decode cX12_loadBy 103 = .ok (.iload_n 1, 1) := by decide +kernel
theorem dX12_loadBy_104 : decode cX12_loadBy 104 = .ok (.iload 5, 2) := by decide +kernel
theorem dX12_loadBy_106 : decode cX12_loadBy 106 = .ok (.aload_n 0, 1) := by decide +kernel
theorem dX12_loadBy_107 : decode cX12_loadBy 107 = .ok (.getfield 7, 3) := by decide +kernel
theorem dX12_loadBy_110 : decode cX12_loadBy 110 = .ok (.iload_n 1, 1) := by decide +kernel
theorem dX12_loadBy_111 : decode cX12_loadBy 111 = .ok (.iload_n 3, 1) := by decide +kernel
theorem dX12_loadBy_112 : decode cX12_loadBy 112 = .ok (.invokestatic 64, 3) := by decide +kernel
theorem dX12_loadBy_115 : decode cX12_loadBy 115 = .ok (.iconst 1, 1) := by decide +kernel
theorem dX12_loadBy_116 : decode cX12_loadBy 116 = .ok (.iadd, 1) := by decide +kernel
theorem dX12_loadBy_117 : decode cX12_loadBy 117 = .ok (.iload 5, 2) := by decide +kernel
theorem dX12_loadBy_119 : decode cX12_loadBy 119 = .ok (.iadd, 1) := by decide +kernel
theorem dX12_loadBy_120 : decode cX12_loadBy 120 = .ok (.iaload, 1) := by decide +kernel
theorem dX12_loadBy_121 : decode cX12_loadBy 121 = .ok (.invokevirtual 58, 3) := by decide +kernel
theorem dX12_loadBy_124 : decode cX12_loadBy 124 = .ok (.goto 4, 3) := by decide +kernel
theorem dX12_loadBy_127 : decode cX12_loadBy 127 = .ok (.iconst 0, 1) := by decide +kernel
theorem dX12_loadBy_128 : decode cX12_loadBy 128 = .ok (.iadd, 1) := by decide +kernel
theorem dX12_loadBy_129 : decode cX12_loadBy 129 = .ok (.istore 4, 2) := by decide +kernel
theorem dX12_loadBy_131 : decode cX12_loadBy 131 = .ok (.iinc 5 1, 3) := by decide +kernel
theorem dX12_loadBy_134 : decode cX12_loadBy 134 = .ok (.goto (-128), 3) := by decide +kernel
theorem dX12_loadBy_137 : decode cX12_loadBy 137 = .ok (.iload 4, 2) := by decide +kernel
theorem dX12_loadBy_139 : decode cX12_loadBy 139 = .ok (.ireturn, 1) := by decide +kernel
theorem dX12_worst_0 : decode cX12_worst 0 = .ok (.iconst 0, 1) := by decide +kernel
theorem dX12_worst_1 : decode cX12_worst 1 = .ok (.istore_n 3, 1) := by decide +kernel
theorem dX12_worst_2 : decode cX12_worst 2 = .ok (.iconst 0, 1) := by decide +kernel
theorem dX12_worst_3 : decode cX12_worst 3 = .ok (.istore 4, 2) := by decide +kernel
theorem dX12_worst_5 : decode cX12_worst 5 = .ok (.iload 4, 2) := by decide +kernel
theorem dX12_worst_7 : decode cX12_worst 7 = .ok (.bipush 8, 2) := by decide +kernel
theorem dX12_worst_9 : decode cX12_worst 9 = .ok (.if_icmp .ge 32, 3) := by decide +kernel
theorem dX12_worst_12 : decode cX12_worst 12 = .ok (.aload_n 0, 1) := by decide +kernel
theorem dX12_worst_13 : decode cX12_worst 13 = .ok (.iload_n 1, 1) := by decide +kernel
theorem dX12_worst_14 : decode cX12_worst 14 = .ok (.iload_n 2, 1) := by decide +kernel
theorem dX12_worst_15 : decode cX12_worst 15 = .ok (.iload 4, 2) := by decide +kernel
theorem dX12_worst_17 : decode cX12_worst 17 = .ok (.invokevirtual 67, 3) := by decide +kernel
theorem dX12_worst_20 : decode cX12_worst 20 = .ok (.istore 5, 2) := by decide +kernel
theorem dX12_worst_22 : decode cX12_worst 22 = .ok (.iload 5, 2) := by decide +kernel
theorem dX12_worst_24 : decode cX12_worst 24 = .ok (.iload_n 3, 1) := by decide +kernel
theorem dX12_worst_25 : decode cX12_worst 25 = .ok (.if_icmp .le 8, 3) := by decide +kernel
theorem dX12_worst_28 : decode cX12_worst 28 = .ok (.iload 5, 2) := by decide +kernel
theorem dX12_worst_30 : decode cX12_worst 30 = .ok (.goto 4, 3) := by decide +kernel
theorem dX12_worst_33 : decode cX12_worst 33 = .ok (.iload_n 3, 1) := by decide +kernel
theorem dX12_worst_34 : decode cX12_worst 34 = .ok (.istore_n 3, 1) := by decide +kernel
theorem dX12_worst_35 : decode cX12_worst 35 = .ok (.iinc 4 1, 3) := by decide +kernel
theorem dX12_worst_38 : decode cX12_worst 38 = .ok (.goto (-33), 3) := by decide +kernel
theorem dX12_worst_41 : decode cX12_worst 41 = .ok (.iload_n 3, 1) := by decide +kernel
theorem dX12_worst_42 : decode cX12_worst 42 = .ok (.ireturn, 1) := by decide +kernel
theorem dX12_trip_0 : decode cX12_trip 0 = .ok (.iconst 0, 1) := by decide +kernel
theorem dX12_trip_1 : decode cX12_trip 1 = .ok (.istore 5, 2) := by decide +kernel
theorem dX12_trip_3 : decode cX12_trip 3 = .ok (.iload_n 2, 1) := by decide +kernel
theorem dX12_trip_4 : decode cX12_trip 4 = .ok (.istore 6, 2) := by decide +kernel
theorem dX12_trip_6 : decode cX12_trip 6 = .ok (.iload 6, 2) := by decide +kernel
theorem dX12_trip_8 : decode cX12_trip 8 = .ok (.iload_n 3, 1) := by decide +kernel
theorem dX12_trip_9 : decode cX12_trip 9 = .ok (.if_icmp .ge 52, 3) := by decide +kernel
theorem dX12_trip_12 : decode cX12_trip 12 = .ok (.iload_n 1, 1) := by decide +kernel
theorem dX12_trip_13 : decode cX12_trip 13 = .ok (.bipush 102, 2) := by decide +kernel
theorem dX12_trip_15 : decode cX12_trip 15 = .ok (.iload 6, 2) := by decide +kernel
theorem dX12_trip_17 : decode cX12_trip 17 = .ok (.iadd, 1) := by decide +kernel
theorem dX12_trip_18 : decode cX12_trip 18 = .ok (.invokestatic 38, 3) := by decide +kernel
theorem dX12_trip_21 : decode cX12_trip 21 = .ok (.istore 7, 2) := by decide +kernel
theorem dX12_trip_23 : decode cX12_trip 23 = .ok (.aload_n 0, 1) := by decide +kernel
theorem dX12_trip_24 : decode cX12_trip 24 = .ok (.getfield 7, 3) := by decide +kernel
theorem dX12_trip_27 : decode cX12_trip 27 = .ok (.iload 7, 2) := by decide +kernel
theorem dX12_trip_29 : decode cX12_trip 29 = .ok (.aload_n 0, 1) := by decide +kernel
theorem dX12_trip_30 : decode cX12_trip 30 = .ok (.iload_n 1, 1) := by decide +kernel
theorem dX12_trip_31 : decode cX12_trip 31 = .ok (.iload 6, 2) := by decide +kernel
theorem dX12_trip_33 : decode cX12_trip 33 = .ok (.invokevirtual 70, 3) := by decide +kernel
theorem dX12_trip_36 : decode cX12_trip 36 = .ok (.iload 4, 2) := by decide +kernel
theorem dX12_trip_38 : decode cX12_trip 38 = .ok (.if_icmp .le 15, 3) := by decide +kernel
theorem dX12_trip_41 : decode cX12_trip 41 = .ok (.aload_n 0, 1) := by decide +kernel
theorem dX12_trip_42 : decode cX12_trip 42 = .ok (.getfield 7, 3) := by decide +kernel
theorem dX12_trip_45 : decode cX12_trip 45 = .ok (.iload 7, 2) := by decide +kernel
theorem dX12_trip_47 : decode cX12_trip 47 = .ok (.iaload, 1) := by decide +kernel
theorem dX12_trip_48 : decode cX12_trip 48 = .ok (.iconst 1, 1) := by decide +kernel
theorem dX12_trip_49 : decode cX12_trip 49 = .ok (.iadd, 1) := by decide +kernel
theorem dX12_trip_50 : decode cX12_trip 50 = .ok (.goto 4, 3) := by decide +kernel
theorem dX12_trip_53 : decode cX12_trip 53 = .ok (.iconst 0, 1) := by decide +kernel
theorem dX12_trip_54 : decode cX12_trip 54 = .ok (.iastore, 1) := by decide +kernel
theorem dX12_trip_55 : decode cX12_trip 55 = .ok (.iinc 6 1, 3) := by decide +kernel
theorem dX12_trip_58 : decode cX12_trip 58 = .ok (.goto (-52), 3) := by decide +kernel
theorem dX12_trip_61 : decode cX12_trip 61 = .ok (.iload_n 2, 1) := by decide +kernel
theorem dX12_trip_62 : decode cX12_trip 62 = .ok (.istore 6, 2) := by decide +kernel
theorem dX12_trip_64 : decode cX12_trip 64 = .ok (.iload 6, 2) := by decide +kernel
theorem dX12_trip_66 : decode cX12_trip 66 = .ok (.iload_n 3, 1) := by decide +kernel
theorem dX12_trip_67 : decode cX12_trip 67 = .ok (.if_icmp .ge 62, 3) := by decide +kernel
theorem dX12_trip_70 : decode cX12_trip 70 = .ok (.iload_n 1, 1) := by decide +kernel
theorem dX12_trip_71 : decode cX12_trip 71 = .ok (.bipush 102, 2) := by decide +kernel
theorem dX12_trip_73 : decode cX12_trip 73 = .ok (.iload 6, 2) := by decide +kernel
theorem dX12_trip_75 : decode cX12_trip 75 = .ok (.iadd, 1) := by decide +kernel
theorem dX12_trip_76 : decode cX12_trip 76 = .ok (.invokestatic 38, 3) := by decide +kernel
theorem dX12_trip_79 : decode cX12_trip 79 = .ok (.istore 7, 2) := by decide +kernel
theorem dX12_trip_81 : decode cX12_trip 81 = .ok (.aload_n 0, 1) := by decide +kernel
theorem dX12_trip_82 : decode cX12_trip 82 = .ok (.getfield 7, 3) := by decide +kernel
theorem dX12_trip_85 : decode cX12_trip 85 = .ok (.iload 7, 2) := by decide +kernel
theorem dX12_trip_87 : decode cX12_trip 87 = .ok (.iaload, 1) := by decide +kernel
theorem dX12_trip_88 : decode cX12_trip 88 = .ok (.aload_n 0, 1) := by decide +kernel
theorem dX12_trip_89 : decode cX12_trip 89 = .ok (.getfield 7, 3) := by decide +kernel
theorem dX12_trip_92 : decode cX12_trip 92 = .ok (.iconst 2, 1) := by decide +kernel
theorem dX12_trip_93 : decode cX12_trip 93 = .ok (.iaload, 1) := by decide +kernel
theorem dX12_trip_94 : decode cX12_trip 94 = .ok (.if_icmp .lt 29, 3) := by decide +kernel
theorem dX12_trip_97 : decode cX12_trip 97 = .ok (.aload_n 0, 1) := by decide +kernel
theorem dX12_trip_98 : decode cX12_trip 98 = .ok (.getfield 7, 3) := by decide +kernel
theorem dX12_trip_101 : decode cX12_trip 101 = .ok (.iload_n 1, 1) := by decide +kernel
theorem dX12_trip_102 : decode cX12_trip 102 = .ok (.bipush 87, 2) := by decide +kernel
theorem dX12_trip_104 : decode cX12_trip 104 = .ok (.iload 6, 2) := by decide +kernel
theorem dX12_trip_106 : decode cX12_trip 106 = .ok (.iadd, 1) := by decide +kernel
theorem dX12_trip_107 : decode cX12_trip 107 = .ok (.invokestatic 38, 3) := by decide +kernel
theorem dX12_trip_110 : decode cX12_trip 110 = .ok (.iconst 1, 1) := by decide +kernel
theorem dX12_trip_111 : decode cX12_trip 111 = .ok (.iastore, 1) := by decide +kernel
theorem dX12_trip_112 : decode cX12_trip 112 = .ok (.aload_n 0, 1) := by decide +kernel
theorem dX12_trip_113 : decode cX12_trip 113 = .ok (.getfield 7, 3) := by decide +kernel
theorem dX12_trip_116 : decode cX12_trip 116 = .ok (.iload 7, 2) := by decide +kernel
theorem dX12_trip_118 : decode cX12_trip 118 = .ok (.iconst 0, 1) := by decide +kernel
theorem dX12_trip_119 : decode cX12_trip 119 = .ok (.iastore, 1) := by decide +kernel
theorem dX12_trip_120 : decode cX12_trip 120 = .ok (.iinc 5 1, 3) := by decide +kernel
theorem dX12_trip_123 : decode cX12_trip 123 = .ok (.iinc 6 1, 3) := by decide +kernel
theorem dX12_trip_126 : decode cX12_trip 126 = .ok (.goto (-62), 3) := by decide +kernel
theorem dX12_trip_129 : decode cX12_trip 129 = .ok (.iload 5, 2) := by decide +kernel
theorem dX12_trip_131 : decode cX12_trip 131 = .ok (.ireturn, 1) := by decide +kernel
theorem dX12_turn_0 : decode cX12_turn 0 = .ok (.aload_n 0, 1) := by decide +kernel
theorem dX12_turn_1 : decode cX12_turn 1 = .ok (.getfield 7, 3) := by decide +kernel
theorem dX12_turn_4 : decode cX12_turn 4 = .ok (.iload_n 1, 1) := by decide +kernel
theorem dX12_turn_5 : decode cX12_turn 5 = .ok (.sipush 221, 3) := by decide +kernel
theorem dX12_turn_8 : decode cX12_turn 8 = .ok (.invokestatic 38, 3) := by decide +kernel
theorem dX12_turn_11 : decode cX12_turn 11 = .ok (.iaload, 1) := by decide +kernel
theorem dX12_turn_12 : decode cX12_turn 12 = .ok (.istore_n 2, 1) := by decide +kernel
theorem dX12_turn_13 : decode cX12_turn 13 = .ok (.iload_n 2, 1) := by decide +kernel
theorem dX12_turn_14 : decode cX12_turn 14 = .ok (.ifCond .le 126, 3) := by decide +kernel
theorem dX12_turn_17 : decode cX12_turn 17 = .ok (.aload_n 0, 1) := by decide +kernel
theorem dX12_turn_18 : decode cX12_turn 18 = .ok (.getfield 7, 3) := by decide +kernel
theorem dX12_turn_21 : decode cX12_turn 21 = .ok (.iload_n 1, 1) := by decide +kernel
theorem dX12_turn_22 : decode cX12_turn 22 = .ok (.sipush 222, 3) := by decide +kernel
theorem dX12_turn_25 : decode cX12_turn 25 = .ok (.invokestatic 38, 3) := by decide +kernel
theorem dX12_turn_28 : decode cX12_turn 28 = .ok (.dup2, 1) := by decide +kernel
theorem dX12_turn_29 : decode cX12_turn 29 = .ok (.iaload, 1) := by decide +kernel
theorem dX12_turn_30 : decode cX12_turn 30 = .ok (.iconst 1, 1) := by decide +kernel
theorem dX12_turn_31 : decode cX12_turn 31 = .ok (.iadd, 1) := by decide +kernel
theorem dX12_turn_32 : decode cX12_turn 32 = .ok (.iastore, 1) := by decide +kernel
theorem dX12_turn_33 : decode cX12_turn 33 = .ok (.aload_n 0, 1) := by decide +kernel
theorem dX12_turn_34 : decode cX12_turn 34 = .ok (.getfield 7, 3) := by decide +kernel
theorem dX12_turn_37 : decode cX12_turn 37 = .ok (.iload_n 1, 1) := by decide +kernel
theorem dX12_turn_38 : decode cX12_turn 38 = .ok (.sipush 222, 3) := by decide +kernel
theorem dX12_turn_41 : decode cX12_turn 41 = .ok (.invokestatic 38, 3) := by decide +kernel
theorem dX12_turn_44 : decode cX12_turn 44 = .ok (.iaload, 1) := by decide +kernel
theorem dX12_turn_45 : decode cX12_turn 45 = .ok (.istore_n 3, 1) := by decide +kernel
theorem dX12_turn_46 : decode cX12_turn 46 = .ok (.iconst 0, 1) := by decide +kernel
theorem dX12_turn_47 : decode cX12_turn 47 = .ok (.istore 4, 2) := by decide +kernel
theorem dX12_turn_49 : decode cX12_turn 49 = .ok (.iload 4, 2) := by decide +kernel
theorem dX12_turn_51 : decode cX12_turn 51 = .ok (.aload_n 0, 1) := by decide +kernel
theorem dX12_turn_52 : decode cX12_turn 52 = .ok (.getfield 7, 3) := by decide +kernel
theorem dX12_turn_55 : decode cX12_turn 55 = .ok (.iload_n 1, 1) := by decide +kernel
theorem dX12_turn_56 : decode cX12_turn 56 = .ok (.iconst 2, 1) := by decide +kernel
theorem dX12_turn_57 : decode cX12_turn 57 = .ok (.invokestatic 38, 3) := by decide +kernel
theorem dX12_turn_60 : decode cX12_turn 60 = .ok (.iaload, 1) := by decide +kernel
theorem dX12_turn_61 : decode cX12_turn 61 = .ok (.if_icmp .ge 57, 3) := by decide +kernel
theorem dX12_turn_64 : decode cX12_turn 64 = .ok (.aload_n 0, 1) := by decide +kernel
theorem dX12_turn_65 : decode cX12_turn 65 = .ok (.getfield 7, 3) := by decide +kernel
theorem dX12_turn_68 : decode cX12_turn 68 = .ok (.iload_n 1, 1) := by decide +kernel
theorem dX12_turn_69 : decode cX12_turn 69 = .ok (.iload 4, 2) := by decide +kernel
theorem dX12_turn_71 : decode cX12_turn 71 = .ok (.iconst 4, 1) := by decide +kernel
theorem dX12_turn_72 : decode cX12_turn 72 = .ok (.invokestatic 54, 3) := by decide +kernel
theorem dX12_turn_75 : decode cX12_turn 75 = .ok (.iaload, 1) := by decide +kernel
theorem dX12_turn_76 : decode cX12_turn 76 = .ok (.istore 5, 2) := by decide +kernel
theorem dX12_turn_78 : decode cX12_turn 78 = .ok (.aload_n 0, 1) := by decide +kernel
theorem dX12_turn_79 : decode cX12_turn 79 = .ok (.getfield 7, 3) := by decide +kernel
theorem dX12_turn_82 : decode cX12_turn 82 = .ok (.iload_n 1, 1) := by decide +kernel
theorem dX12_turn_83 : decode cX12_turn 83 = .ok (.iload 4, 2) := by decide +kernel
theorem dX12_turn_85 : decode cX12_turn 85 = .ok (.iconst 3, 1) := by decide +kernel
theorem dX12_turn_86 : decode cX12_turn 86 = .ok (.invokestatic 54, 3) := by decide +kernel
theorem dX12_turn_89 : decode cX12_turn 89 = .ok (.iload 5, 2) := by decide +kernel
theorem dX12_turn_91 : decode cX12_turn 91 = .ok (.aload_n 0, 1) := by decide +kernel
theorem dX12_turn_92 : decode cX12_turn 92 = .ok (.getfield 7, 3) := by decide +kernel
theorem dX12_turn_95 : decode cX12_turn 95 = .ok (.iload_n 1, 1) := by decide +kernel
theorem dX12_turn_96 : decode cX12_turn 96 = .ok (.iload 4, 2) := by decide +kernel
theorem dX12_turn_98 : decode cX12_turn 98 = .ok (.iconst 5, 1) := by decide +kernel
theorem dX12_turn_99 : decode cX12_turn 99 = .ok (.invokestatic 54, 3) := by decide +kernel
theorem dX12_turn_102 : decode cX12_turn 102 = .ok (.iaload, 1) := by decide +kernel
theorem dX12_turn_103 : decode cX12_turn 103 = .ok (.iload 5, 2) := by decide +kernel
theorem dX12_turn_105 : decode cX12_turn 105 = .ok (.isub, 1) := by decide +kernel
theorem dX12_turn_106 : decode cX12_turn 106 = .ok (.iload_n 3, 1) := by decide +kernel
theorem dX12_turn_107 : decode cX12_turn 107 = .ok (.imul, 1) := by decide +kernel
theorem dX12_turn_108 : decode cX12_turn 108 = .ok (.iload_n 2, 1) := by decide +kernel
theorem dX12_turn_109 : decode cX12_turn 109 = .ok (.idiv, 1) := by decide +kernel
theorem dX12_turn_110 : decode cX12_turn 110 = .ok (.iadd, 1) := by decide +kernel
theorem dX12_turn_111 : decode cX12_turn 111 = .ok (.iastore, 1) := by decide +kernel
theorem dX12_turn_112 : decode cX12_turn 112 = .ok (.iinc 4 1, 3) := by decide +kernel
theorem dX12_turn_115 : decode cX12_turn 115 = .ok (.goto (-66), 3) := by decide +kernel
theorem dX12_turn_118 : decode cX12_turn 118 = .ok (.aload_n 0, 1) := by decide +kernel
theorem dX12_turn_119 : decode cX12_turn 119 = .ok (.getfield 7, 3) := by decide +kernel
theorem dX12_turn_122 : decode cX12_turn 122 = .ok (.iload_n 1, 1) := by decide +kernel
theorem dX12_turn_123 : decode cX12_turn 123 = .ok (.sipush 221, 3) := by decide +kernel
theorem dX12_turn_126 : decode cX12_turn 126 = .ok (.invokestatic 38, 3) := by decide +kernel
theorem dX12_turn_129 : decode cX12_turn 129 = .ok (.iload_n 3, 1) := by decide +kernel
theorem dX12_turn_130 : decode cX12_turn 130 = .ok (.iload_n 2, 1) := by decide +kernel
theorem dX12_turn_131 : decode cX12_turn 131 = .ok (.if_icmp .ne 7, 3) := by decide +kernel
theorem dX12_turn_134 : decode cX12_turn 134 = .ok (.iconst 0, 1) := by decide +kernel
theorem dX12_turn_135 : decode cX12_turn 135 = .ok (.goto 4, 3) := by decide +kernel
theorem dX12_turn_138 : decode cX12_turn 138 = .ok (.iload_n 2, 1) := by decide +kernel
theorem dX12_turn_139 : decode cX12_turn 139 = .ok (.iastore, 1) := by decide +kernel
theorem dX12_turn_140 : decode cX12_turn 140 = .ok (.aload_n 0, 1) := by decide +kernel
theorem dX12_turn_141 : decode cX12_turn 141 = .ok (.iload_n 1, 1) := by decide +kernel
theorem dX12_turn_142 : decode cX12_turn 142 = .ok (.iconst 0, 1) := by decide +kernel
theorem dX12_turn_143 : decode cX12_turn 143 = .ok (.bipush 12, 2) := by decide +kernel
theorem dX12_turn_145 : decode cX12_turn 145 = .ok (.aload_n 0, 1) := by decide +kernel
theorem dX12_turn_146 : decode cX12_turn 146 = .ok (.getfield 7, 3) := by decide +kernel
theorem dX12_turn_149 : decode cX12_turn 149 = .ok (.iconst 0, 1) := by decide +kernel
theorem dX12_turn_150 : decode cX12_turn 150 = .ok (.iaload, 1) := by decide +kernel
theorem dX12_turn_151 : decode cX12_turn 151 = .ok (.invokevirtual 73, 3) := by decide +kernel
theorem dX12_turn_154 : decode cX12_turn 154 = .ok (.istore_n 3, 1) := by decide +kernel
theorem dX12_turn_155 : decode cX12_turn 155 = .ok (.iload_n 3, 1) := by decide +kernel
theorem dX12_turn_156 : decode cX12_turn 156 = .ok (.aload_n 0, 1) := by decide +kernel
theorem dX12_turn_157 : decode cX12_turn 157 = .ok (.iload_n 1, 1) := by decide +kernel
theorem dX12_turn_158 : decode cX12_turn 158 = .ok (.bipush 12, 2) := by decide +kernel
theorem dX12_turn_160 : decode cX12_turn 160 = .ok (.bipush 15, 2) := by decide +kernel
theorem dX12_turn_162 : decode cX12_turn 162 = .ok (.aload_n 0, 1) := by decide +kernel
theorem dX12_turn_163 : decode cX12_turn 163 = .ok (.getfield 7, 3) := by decide +kernel
theorem dX12_turn_166 : decode cX12_turn 166 = .ok (.iconst 1, 1) := by decide +kernel
theorem dX12_turn_167 : decode cX12_turn 167 = .ok (.iaload, 1) := by decide +kernel
theorem dX12_turn_168 : decode cX12_turn 168 = .ok (.invokevirtual 73, 3) := by decide +kernel
theorem dX12_turn_171 : decode cX12_turn 171 = .ok (.iadd, 1) := by decide +kernel
theorem dX12_turn_172 : decode cX12_turn 172 = .ok (.ireturn, 1) := by decide +kernel
theorem dX12_start_0 : decode cX12_start 0 = .ok (.iconst 0, 1) := by decide +kernel
theorem dX12_start_1 : decode cX12_start 1 = .ok (.istore 4, 2) := by decide +kernel
theorem dX12_start_3 : decode cX12_start 3 = .ok (.iload 4, 2) := by decide +kernel
theorem dX12_start_5 : decode cX12_start 5 = .ok (.aload_n 0, 1) := by decide +kernel
theorem dX12_start_6 : decode cX12_start 6 = .ok (.getfield 7, 3) := by decide +kernel
theorem dX12_start_9 : decode cX12_start 9 = .ok (.iload_n 1, 1) := by decide +kernel
theorem dX12_start_10 : decode cX12_start 10 = .ok (.iconst 2, 1) := by decide +kernel
theorem dX12_start_11 : decode cX12_start 11 = .ok (.invokestatic 38, 3) := by decide +kernel
theorem dX12_start_14 : decode cX12_start 14 = .ok (.iaload, 1) := by decide +kernel
theorem dX12_start_15 : decode cX12_start 15 = .ok (.if_icmp .ge 60, 3) := by decide +kernel
theorem dX12_start_18 : decode cX12_start 18 = .ok (.aload_n 0, 1) := by decide +kernel
theorem dX12_start_19 : decode cX12_start 19 = .ok (.getfield 7, 3) := by decide +kernel
theorem dX12_start_22 : decode cX12_start 22 = .ok (.iload_n 1, 1) := by decide +kernel
theorem dX12_start_23 : decode cX12_start 23 = .ok (.iload 4, 2) := by decide +kernel
theorem dX12_start_25 : decode cX12_start 25 = .ok (.iconst 4, 1) := by decide +kernel
theorem dX12_start_26 : decode cX12_start 26 = .ok (.invokestatic 54, 3) := by decide +kernel
theorem dX12_start_29 : decode cX12_start 29 = .ok (.aload_n 0, 1) := by decide +kernel
theorem dX12_start_30 : decode cX12_start 30 = .ok (.getfield 7, 3) := by decide +kernel
theorem dX12_start_33 : decode cX12_start 33 = .ok (.iload_n 1, 1) := by decide +kernel
theorem dX12_start_34 : decode cX12_start 34 = .ok (.iload 4, 2) := by decide +kernel
theorem dX12_start_36 : decode cX12_start 36 = .ok (.iconst 3, 1) := by decide +kernel
theorem dX12_start_37 : decode cX12_start 37 = .ok (.invokestatic 54, 3) := by decide +kernel
theorem dX12_start_40 : decode cX12_start 40 = .ok (.iaload, 1) := by decide +kernel
theorem dX12_start_41 : decode cX12_start 41 = .ok (.iastore, 1) := by decide +kernel
theorem dX12_start_42 : decode cX12_start 42 = .ok (.aload_n 0, 1) := by decide +kernel
theorem dX12_start_43 : decode cX12_start 43 = .ok (.getfield 7, 3) := by decide +kernel
theorem dX12_start_46 : decode cX12_start 46 = .ok (.iload_n 1, 1) := by decide +kernel
theorem dX12_start_47 : decode cX12_start 47 = .ok (.iload 4, 2) := by decide +kernel
theorem dX12_start_49 : decode cX12_start 49 = .ok (.iconst 5, 1) := by decide +kernel
theorem dX12_start_50 : decode cX12_start 50 = .ok (.invokestatic 54, 3) := by decide +kernel
theorem dX12_start_53 : decode cX12_start 53 = .ok (.aload_n 0, 1) := by decide +kernel
theorem dX12_start_54 : decode cX12_start 54 = .ok (.getfield 7, 3) := by decide +kernel
theorem dX12_start_57 : decode cX12_start 57 = .ok (.iload_n 1, 1) := by decide +kernel
theorem dX12_start_58 : decode cX12_start 58 = .ok (.iload_n 2, 1) := by decide +kernel
theorem dX12_start_59 : decode cX12_start 59 = .ok (.invokestatic 64, 3) := by decide +kernel
theorem dX12_start_62 : decode cX12_start 62 = .ok (.iconst 1, 1) := by decide +kernel
theorem dX12_start_63 : decode cX12_start 63 = .ok (.iadd, 1) := by decide +kernel
theorem dX12_start_64 : decode cX12_start 64 = .ok (.iload 4, 2) := by decide +kernel
theorem dX12_start_66 : decode cX12_start 66 = .ok (.iadd, 1) := by decide +kernel
theorem dX12_start_67 : decode cX12_start 67 = .ok (.iaload, 1) := by decide +kernel
theorem dX12_start_68 : decode cX12_start 68 = .ok (.iastore, 1) := by decide +kernel
theorem dX12_start_69 : decode cX12_start 69 = .ok (.iinc 4 1, 3) := by decide +kernel
theorem dX12_start_72 : decode cX12_start 72 = .ok (.goto (-69), 3) := by decide +kernel
theorem dX12_start_75 : decode cX12_start 75 = .ok (.aload_n 0, 1) := by decide +kernel
theorem dX12_start_76 : decode cX12_start 76 = .ok (.getfield 7, 3) := by decide +kernel
theorem dX12_start_79 : decode cX12_start 79 = .ok (.iload_n 1, 1) := by decide +kernel
theorem dX12_start_80 : decode cX12_start 80 = .ok (.sipush 221, 3) := by decide +kernel
theorem dX12_start_83 : decode cX12_start 83 = .ok (.invokestatic 38, 3) := by decide +kernel
theorem dX12_start_86 : decode cX12_start 86 = .ok (.iload_n 3, 1) := by decide +kernel
theorem dX12_start_87 : decode cX12_start 87 = .ok (.iastore, 1) := by decide +kernel
theorem dX12_start_88 : decode cX12_start 88 = .ok (.aload_n 0, 1) := by decide +kernel
theorem dX12_start_89 : decode cX12_start 89 = .ok (.getfield 7, 3) := by decide +kernel
theorem dX12_start_92 : decode cX12_start 92 = .ok (.iload_n 1, 1) := by decide +kernel
theorem dX12_start_93 : decode cX12_start 93 = .ok (.sipush 222, 3) := by decide +kernel
theorem dX12_start_96 : decode cX12_start 96 = .ok (.invokestatic 38, 3) := by decide +kernel
theorem dX12_start_99 : decode cX12_start 99 = .ok (.iconst 0, 1) := by decide +kernel
theorem dX12_start_100 : decode cX12_start 100 = .ok (.iastore, 1) := by decide +kernel
theorem dX12_start_101 : decode cX12_start 101 = .ok (.return_, 1) := by decide +kernel
theorem dX12_set_0 : decode cX12_set 0 = .ok (.iload_n 1, 1) := by decide +kernel
theorem dX12_set_1 : decode cX12_set 1 = .ok (.ifCond .ne 9, 3) := by decide +kernel
theorem dX12_set_4 : decode cX12_set 4 = .ok (.sipush 500, 3) := by decide +kernel
theorem dX12_set_7 : decode cX12_set 7 = .ok (.goto 15, 3) := by decide +kernel
theorem dX12_set_10 : decode cX12_set 10 = .ok (.iload_n 1, 1) := by decide +kernel
theorem dX12_set_11 : decode cX12_set 11 = .ok (.iconst 1, 1) := by decide +kernel
theorem dX12_set_12 : decode cX12_set 12 = .ok (.if_icmp .ne 9, 3) := by decide +kernel
theorem dX12_set_15 : decode cX12_set 15 = .ok (.sipush 1000, 3) := by decide +kernel
theorem dX12_set_18 : decode cX12_set 18 = .ok (.goto 4, 3) := by decide +kernel
theorem dX12_set_21 : decode cX12_set 21 = .ok (.iconst 1, 1) := by decide +kernel
theorem dX12_set_22 : decode cX12_set 22 = .ok (.istore_n 3, 1) := by decide +kernel
theorem dX12_set_23 : decode cX12_set 23 = .ok (.iload_n 1, 1) := by decide +kernel
theorem dX12_set_24 : decode cX12_set 24 = .ok (.ifCond .ne 9, 3) := by decide +kernel
theorem dX12_set_27 : decode cX12_set 27 = .ok (.sipush 6000, 3) := by decide +kernel
theorem dX12_set_30 : decode cX12_set 30 = .ok (.goto 16, 3) := by decide +kernel
theorem dX12_set_33 : decode cX12_set 33 = .ok (.iload_n 1, 1) := by decide +kernel
theorem dX12_set_34 : decode cX12_set 34 = .ok (.iconst 1, 1) := by decide +kernel
theorem dX12_set_35 : decode cX12_set 35 = .ok (.if_icmp .ne 9, 3) := by decide +kernel
theorem dX12_set_38 : decode cX12_set 38 = .ok (.sipush 20000, 3) := by decide +kernel
theorem dX12_set_41 : decode cX12_set 41 = .ok (.goto 5, 3) := by decide +kernel
theorem dX12_set_44 : decode cX12_set 44 = .ok (.bipush 20, 2) := by decide +kernel
theorem dX12_set_46 : decode cX12_set 46 = .ok (.istore 4, 2) := by decide +kernel
theorem dX12_set_48 : decode cX12_set 48 = .ok (.iload_n 1, 1) := by decide +kernel
theorem dX12_set_49 : decode cX12_set 49 = .ok (.iconst 0, 1) := by decide +kernel
theorem dX12_set_50 : decode cX12_set 50 = .ok (.iconst 2, 1) := by decide +kernel
theorem dX12_set_51 : decode cX12_set 51 = .ok (.invokestatic 42, 3) := by decide +kernel
theorem dX12_set_54 : decode cX12_set 54 = .ok (.ifCond .eq 13, 3) := by decide +kernel
theorem dX12_set_57 : decode cX12_set 57 = .ok (.iload_n 2, 1) := by decide +kernel
theorem dX12_set_58 : decode cX12_set 58 = .ok (.iload_n 3, 1) := by decide +kernel
theorem dX12_set_59 : decode cX12_set 59 = .ok (.iload 4, 2) := by decide +kernel
theorem dX12_set_61 : decode cX12_set 61 = .ok (.invokestatic 42, 3) := by decide +kernel
theorem dX12_set_64 : decode cX12_set 64 = .ok (.ifCond .ne 6, 3) := by decide +kernel
theorem dX12_set_67 : decode cX12_set 67 = .ok (.bipush (-2), 2) := by decide +kernel
theorem dX12_set_69 : decode cX12_set 69 = .ok (.ireturn, 1) := by decide +kernel
theorem dX12_set_70 : decode cX12_set 70 = .ok (.aload_n 0, 1) := by decide +kernel
theorem dX12_set_71 : decode cX12_set 71 = .ok (.invokevirtual 77, 3) := by decide +kernel
theorem dX12_set_74 : decode cX12_set 74 = .ok (.aload_n 0, 1) := by decide +kernel
theorem dX12_set_75 : decode cX12_set 75 = .ok (.getfield 7, 3) := by decide +kernel
theorem dX12_set_78 : decode cX12_set 78 = .ok (.iconst 0, 1) := by decide +kernel
theorem dX12_set_79 : decode cX12_set 79 = .ok (.iload_n 1, 1) := by decide +kernel
theorem dX12_set_80 : decode cX12_set 80 = .ok (.iadd, 1) := by decide +kernel
theorem dX12_set_81 : decode cX12_set 81 = .ok (.iaload, 1) := by decide +kernel
theorem dX12_set_82 : decode cX12_set 82 = .ok (.istore 5, 2) := by decide +kernel
theorem dX12_set_84 : decode cX12_set 84 = .ok (.aload_n 0, 1) := by decide +kernel
theorem dX12_set_85 : decode cX12_set 85 = .ok (.getfield 7, 3) := by decide +kernel
theorem dX12_set_88 : decode cX12_set 88 = .ok (.iconst 0, 1) := by decide +kernel
theorem dX12_set_89 : decode cX12_set 89 = .ok (.iload_n 1, 1) := by decide +kernel
theorem dX12_set_90 : decode cX12_set 90 = .ok (.iadd, 1) := by decide +kernel
theorem dX12_set_91 : decode cX12_set 91 = .ok (.iload_n 2, 1) := by decide +kernel
theorem dX12_set_92 : decode cX12_set 92 = .ok (.iastore, 1) := by decide +kernel
theorem dX12_set_93 : decode cX12_set 93 = .ok (.iload 5, 2) := by decide +kernel
theorem dX12_set_95 : decode cX12_set 95 = .ok (.ireturn, 1) := by decide +kernel
theorem dX12_type_0 : decode cX12_type 0 = .ok (.iload_n 1, 1) := by decide +kernel
theorem dX12_type_1 : decode cX12_type 1 = .ok (.bipush 100, 2) := by decide +kernel
theorem dX12_type_3 : decode cX12_type 3 = .ok (.sipush 2000, 3) := by decide +kernel
theorem dX12_type_6 : decode cX12_type 6 = .ok (.invokestatic 42, 3) := by decide +kernel
theorem dX12_type_9 : decode cX12_type 9 = .ok (.ifCond .eq 23, 3) := by decide +kernel
theorem dX12_type_12 : decode cX12_type 12 = .ok (.iload_n 2, 1) := by decide +kernel
theorem dX12_type_13 : decode cX12_type 13 = .ok (.iconst 0, 1) := by decide +kernel
theorem dX12_type_14 : decode cX12_type 14 = .ok (.bipush 20, 2) := by decide +kernel
theorem dX12_type_16 : decode cX12_type 16 = .ok (.invokestatic 42, 3) := by decide +kernel
theorem dX12_type_19 : decode cX12_type 19 = .ok (.ifCond .eq 13, 3) := by decide +kernel
theorem dX12_type_22 : decode cX12_type 22 = .ok (.iload_n 3, 1) := by decide +kernel
theorem dX12_type_23 : decode cX12_type 23 = .ok (.iconst 0, 1) := by decide +kernel
theorem dX12_type_24 : decode cX12_type 24 = .ok (.bipush 50, 2) := by decide +kernel
theorem dX12_type_26 : decode cX12_type 26 = .ok (.invokestatic 42, 3) := by decide +kernel
theorem dX12_type_29 : decode cX12_type 29 = .ok (.ifCond .ne 6, 3) := by decide +kernel
theorem dX12_type_32 : decode cX12_type 32 = .ok (.bipush (-2), 2) := by decide +kernel
theorem dX12_type_34 : decode cX12_type 34 = .ok (.ireturn, 1) := by decide +kernel
theorem dX12_type_35 : decode cX12_type 35 = .ok (.aload_n 0, 1) := by decide +kernel
theorem dX12_type_36 : decode cX12_type 36 = .ok (.getfield 7, 3) := by decide +kernel
theorem dX12_type_39 : decode cX12_type 39 = .ok (.iconst 3, 1) := by decide +kernel
theorem dX12_type_40 : decode cX12_type 40 = .ok (.iaload, 1) := by decide +kernel
theorem dX12_type_41 : decode cX12_type 41 = .ok (.bipush 6, 2) := by decide +kernel
theorem dX12_type_43 : decode cX12_type 43 = .ok (.if_icmp .ne 6, 3) := by decide +kernel
theorem dX12_type_46 : decode cX12_type 46 = .ok (.bipush (-4), 2) := by decide +kernel
theorem dX12_type_48 : decode cX12_type 48 = .ok (.ireturn, 1) := by decide +kernel
theorem dX12_type_49 : decode cX12_type 49 = .ok (.aload_n 0, 1) := by decide +kernel
theorem dX12_type_50 : decode cX12_type 50 = .ok (.invokevirtual 77, 3) := by decide +kernel
theorem dX12_type_53 : decode cX12_type 53 = .ok (.aload_n 0, 1) := by decide +kernel
theorem dX12_type_54 : decode cX12_type 54 = .ok (.getfield 7, 3) := by decide +kernel
theorem dX12_type_57 : decode cX12_type 57 = .ok (.iconst 3, 1) := by decide +kernel
theorem dX12_type_58 : decode cX12_type 58 = .ok (.iaload, 1) := by decide +kernel
theorem dX12_type_59 : decode cX12_type 59 = .ok (.istore 4, 2) := by decide +kernel
theorem dX12_type_61 : decode cX12_type 61 = .ok (.aload_n 0, 1) := by decide +kernel
theorem dX12_type_62 : decode cX12_type 62 = .ok (.getfield 7, 3) := by decide +kernel
theorem dX12_type_65 : decode cX12_type 65 = .ok (.iconst 4, 1) := by decide +kernel
theorem dX12_type_66 : decode cX12_type 66 = .ok (.iconst 3, 1) := by decide +kernel
theorem dX12_type_67 : decode cX12_type 67 = .ok (.iload 4, 2) := by decide +kernel
theorem dX12_type_69 : decode cX12_type 69 = .ok (.imul, 1) := by decide +kernel
theorem dX12_type_70 : decode cX12_type 70 = .ok (.iadd, 1) := by decide +kernel
theorem dX12_type_71 : decode cX12_type 71 = .ok (.iload_n 1, 1) := by decide +kernel
theorem dX12_type_72 : decode cX12_type 72 = .ok (.iastore, 1) := by decide +kernel
theorem dX12_type_73 : decode cX12_type 73 = .ok (.aload_n 0, 1) := by decide +kernel
theorem dX12_type_74 : decode cX12_type 74 = .ok (.getfield 7, 3) := by decide +kernel
theorem dX12_type_77 : decode cX12_type 77 = .ok (.iconst 4, 1) := by decide +kernel
theorem dX12_type_78 : decode cX12_type 78 = .ok (.iconst 3, 1) := by decide +kernel
theorem dX12_type_79 : decode cX12_type 79 = .ok (.iload 4, 2) := by decide +kernel
theorem dX12_type_81 : decode cX12_type 81 = .ok (.imul, 1) := by decide +kernel
theorem dX12_type_82 : decode cX12_type 82 = .ok (.iadd, 1) := by decide +kernel
theorem dX12_type_83 : decode cX12_type 83 = .ok (.iconst 1, 1) := by decide +kernel
theorem dX12_type_84 : decode cX12_type 84 = .ok (.iadd, 1) := by decide +kernel
theorem dX12_type_85 : decode cX12_type 85 = .ok (.iload_n 2, 1) := by decide +kernel
theorem dX12_type_86 : decode cX12_type 86 = .ok (.iastore, 1) := by decide +kernel
theorem dX12_type_87 : decode cX12_type 87 = .ok (.aload_n 0, 1) := by decide +kernel
theorem dX12_type_88 : decode cX12_type 88 = .ok (.getfield 7, 3) := by decide +kernel
theorem dX12_type_91 : decode cX12_type 91 = .ok (.iconst 4, 1) := by decide +kernel
theorem dX12_type_92 : decode cX12_type 92 = .ok (.iconst 3, 1) := by decide +kernel
theorem dX12_type_93 : decode cX12_type 93 = .ok (.iload 4, 2) := by decide +kernel
theorem dX12_type_95 : decode cX12_type 95 = .ok (.imul, 1) := by decide +kernel
theorem dX12_type_96 : decode cX12_type 96 = .ok (.iadd, 1) := by decide +kernel
theorem dX12_type_97 : decode cX12_type 97 = .ok (.iconst 2, 1) := by decide +kernel
theorem dX12_type_98 : decode cX12_type 98 = .ok (.iadd, 1) := by decide +kernel
theorem dX12_type_99 : decode cX12_type 99 = .ok (.iload_n 3, 1) := by decide +kernel
theorem dX12_type_100 : decode cX12_type 100 = .ok (.iastore, 1) := by decide +kernel
theorem dX12_type_101 : decode cX12_type 101 = .ok (.aload_n 0, 1) := by decide +kernel
theorem dX12_type_102 : decode cX12_type 102 = .ok (.getfield 7, 3) := by decide +kernel
theorem dX12_type_105 : decode cX12_type 105 = .ok (.iconst 3, 1) := by decide +kernel
theorem dX12_type_106 : decode cX12_type 106 = .ok (.dup2, 1) := by decide +kernel
theorem dX12_type_107 : decode cX12_type 107 = .ok (.iaload, 1) := by decide +kernel
theorem dX12_type_108 : decode cX12_type 108 = .ok (.iconst 1, 1) := by decide +kernel
theorem dX12_type_109 : decode cX12_type 109 = .ok (.iadd, 1) := by decide +kernel
theorem dX12_type_110 : decode cX12_type 110 = .ok (.iastore, 1) := by decide +kernel
theorem dX12_type_111 : decode cX12_type 111 = .ok (.iload 4, 2) := by decide +kernel
theorem dX12_type_113 : decode cX12_type 113 = .ok (.ireturn, 1) := by decide +kernel
theorem dX12_days_0 : decode cX12_days 0 = .ok (.iload_n 1, 1) := by decide +kernel
theorem dX12_days_1 : decode cX12_days 1 = .ok (.invokestatic 46, 3) := by decide +kernel
theorem dX12_days_4 : decode cX12_days 4 = .ok (.ifCond .ne 5, 3) := by decide +kernel
theorem dX12_days_7 : decode cX12_days 7 = .ok (.iconst (-1), 1) := by decide +kernel
theorem dX12_days_8 : decode cX12_days 8 = .ok (.ireturn, 1) := by decide +kernel
theorem dX12_days_9 : decode cX12_days 9 = .ok (.iload_n 2, 1) := by decide +kernel
theorem dX12_days_10 : decode cX12_days 10 = .ok (.iconst 0, 1) := by decide +kernel
theorem dX12_days_11 : decode cX12_days 11 = .ok (.bipush 6, 2) := by decide +kernel
theorem dX12_days_13 : decode cX12_days 13 = .ok (.invokestatic 42, 3) := by decide +kernel
theorem dX12_days_16 : decode cX12_days 16 = .ok (.ifCond .eq 13, 3) := by decide +kernel
theorem dX12_days_19 : decode cX12_days 19 = .ok (.iload_n 3, 1) := by decide +kernel
theorem dX12_days_20 : decode cX12_days 20 = .ok (.iload_n 2, 1) := by decide +kernel
theorem dX12_days_21 : decode cX12_days 21 = .ok (.bipush 6, 2) := by decide +kernel
theorem dX12_days_23 : decode cX12_days 23 = .ok (.invokestatic 42, 3) := by decide +kernel
theorem dX12_days_26 : decode cX12_days 26 = .ok (.ifCond .ne 6, 3) := by decide +kernel
theorem dX12_days_29 : decode cX12_days 29 = .ok (.bipush (-2), 2) := by decide +kernel
theorem dX12_days_31 : decode cX12_days 31 = .ok (.ireturn, 1) := by decide +kernel
theorem dX12_days_32 : decode cX12_days 32 = .ok (.aload_n 0, 1) := by decide +kernel
theorem dX12_days_33 : decode cX12_days 33 = .ok (.invokevirtual 77, 3) := by decide +kernel
theorem dX12_days_36 : decode cX12_days 36 = .ok (.aload_n 0, 1) := by decide +kernel
theorem dX12_days_37 : decode cX12_days 37 = .ok (.getfield 7, 3) := by decide +kernel
theorem dX12_days_40 : decode cX12_days 40 = .ok (.iload_n 1, 1) := by decide +kernel
theorem dX12_days_41 : decode cX12_days 41 = .ok (.iconst 1, 1) := by decide +kernel
theorem dX12_days_42 : decode cX12_days 42 = .ok (.invokestatic 38, 3) := by decide +kernel
theorem dX12_days_45 : decode cX12_days 45 = .ok (.iaload, 1) := by decide +kernel
theorem dX12_days_46 : decode cX12_days 46 = .ok (.aload_n 0, 1) := by decide +kernel
theorem dX12_days_47 : decode cX12_days 47 = .ok (.getfield 7, 3) := by decide +kernel
theorem dX12_days_50 : decode cX12_days 50 = .ok (.iload_n 1, 1) := by decide +kernel
theorem dX12_days_51 : decode cX12_days 51 = .ok (.iconst 0, 1) := by decide +kernel
theorem dX12_days_52 : decode cX12_days 52 = .ok (.invokestatic 38, 3) := by decide +kernel
theorem dX12_days_55 : decode cX12_days 55 = .ok (.iaload, 1) := by decide +kernel
theorem dX12_days_56 : decode cX12_days 56 = .ok (.isub, 1) := by decide +kernel
theorem dX12_days_57 : decode cX12_days 57 = .ok (.iconst 1, 1) := by decide +kernel
theorem dX12_days_58 : decode cX12_days 58 = .ok (.iadd, 1) := by decide +kernel
theorem dX12_days_59 : decode cX12_days 59 = .ok (.istore 4, 2) := by decide +kernel
theorem dX12_days_61 : decode cX12_days 61 = .ok (.aload_n 0, 1) := by decide +kernel
theorem dX12_days_62 : decode cX12_days 62 = .ok (.getfield 7, 3) := by decide +kernel
theorem dX12_days_65 : decode cX12_days 65 = .ok (.iload_n 1, 1) := by decide +kernel
theorem dX12_days_66 : decode cX12_days 66 = .ok (.iconst 0, 1) := by decide +kernel
theorem dX12_days_67 : decode cX12_days 67 = .ok (.invokestatic 38, 3) := by decide +kernel
theorem dX12_days_70 : decode cX12_days 70 = .ok (.iload_n 2, 1) := by decide +kernel
theorem dX12_days_71 : decode cX12_days 71 = .ok (.iastore, 1) := by decide +kernel
theorem dX12_days_72 : decode cX12_days 72 = .ok (.aload_n 0, 1) := by decide +kernel
theorem dX12_days_73 : decode cX12_days 73 = .ok (.getfield 7, 3) := by decide +kernel
theorem dX12_days_76 : decode cX12_days 76 = .ok (.iload_n 1, 1) := by decide +kernel
theorem dX12_days_77 : decode cX12_days 77 = .ok (.iconst 1, 1) := by decide +kernel
theorem dX12_days_78 : decode cX12_days 78 = .ok (.invokestatic 38, 3) := by decide +kernel
theorem dX12_days_81 : decode cX12_days 81 = .ok (.iload_n 3, 1) := by decide +kernel
theorem dX12_days_82 : decode cX12_days 82 = .ok (.iastore, 1) := by decide +kernel
theorem dX12_days_83 : decode cX12_days 83 = .ok (.iload 4, 2) := by decide +kernel
theorem dX12_days_85 : decode cX12_days 85 = .ok (.ireturn, 1) := by decide +kernel
theorem dX12_hang_0 : decode cX12_hang 0 = .ok (.iload_n 1, 1) := by decide +kernel
theorem dX12_hang_1 : decode cX12_hang 1 = .ok (.invokestatic 46, 3) := by decide +kernel
theorem dX12_hang_4 : decode cX12_hang 4 = .ok (.ifCond .eq 32, 3) := by decide +kernel
theorem dX12_hang_7 : decode cX12_hang 7 = .ok (.iload_n 2, 1) := by decide +kernel
theorem dX12_hang_8 : decode cX12_hang 8 = .ok (.iconst 0, 1) := by decide +kernel
theorem dX12_hang_9 : decode cX12_hang 9 = .ok (.aload_n 0, 1) := by decide +kernel
theorem dX12_hang_10 : decode cX12_hang 10 = .ok (.getfield 7, 3) := by decide +kernel
theorem dX12_hang_13 : decode cX12_hang 13 = .ok (.iconst 3, 1) := by decide +kernel
theorem dX12_hang_14 : decode cX12_hang 14 = .ok (.iaload, 1) := by decide +kernel
theorem dX12_hang_15 : decode cX12_hang 15 = .ok (.iconst 1, 1) := by decide +kernel
theorem dX12_hang_16 : decode cX12_hang 16 = .ok (.isub, 1) := by decide +kernel
theorem dX12_hang_17 : decode cX12_hang 17 = .ok (.invokestatic 42, 3) := by decide +kernel
theorem dX12_hang_20 : decode cX12_hang 20 = .ok (.ifCond .eq 16, 3) := by decide +kernel
theorem dX12_hang_23 : decode cX12_hang 23 = .ok (.iload_n 3, 1) := by decide +kernel
theorem dX12_hang_24 : decode cX12_hang 24 = .ok (.bipush (-6), 2) := by decide +kernel
theorem dX12_hang_26 : decode cX12_hang 26 = .ok (.if_icmp .eq 12, 3) := by decide +kernel
theorem dX12_hang_29 : decode cX12_hang 29 = .ok (.iload_n 3, 1) := by decide +kernel
theorem dX12_hang_30 : decode cX12_hang 30 = .ok (.invokestatic 80, 3) := by decide +kernel
theorem dX12_hang_33 : decode cX12_hang 33 = .ok (.ifCond .ne 5, 3) := by decide +kernel
theorem dX12_hang_36 : decode cX12_hang 36 = .ok (.iconst (-1), 1) := by decide +kernel
theorem dX12_hang_37 : decode cX12_hang 37 = .ok (.ireturn, 1) := by decide +kernel
theorem dX12_hang_38 : decode cX12_hang 38 = .ok (.aload_n 0, 1) := by decide +kernel
theorem dX12_hang_39 : decode cX12_hang 39 = .ok (.getfield 7, 3) := by decide +kernel
theorem dX12_hang_42 : decode cX12_hang 42 = .ok (.iload_n 1, 1) := by decide +kernel
theorem dX12_hang_43 : decode cX12_hang 43 = .ok (.iconst 2, 1) := by decide +kernel
theorem dX12_hang_44 : decode cX12_hang 44 = .ok (.invokestatic 38, 3) := by decide +kernel
theorem dX12_hang_47 : decode cX12_hang 47 = .ok (.iaload, 1) := by decide +kernel
theorem dX12_hang_48 : decode cX12_hang 48 = .ok (.istore 4, 2) := by decide +kernel
theorem dX12_hang_50 : decode cX12_hang 50 = .ok (.iload 4, 2) := by decide +kernel
theorem dX12_hang_52 : decode cX12_hang 52 = .ok (.bipush 12, 2) := by decide +kernel
theorem dX12_hang_54 : decode cX12_hang 54 = .ok (.if_icmp .ne 6, 3) := by decide +kernel
theorem dX12_hang_57 : decode cX12_hang 57 = .ok (.bipush (-4), 2) := by decide +kernel
theorem dX12_hang_59 : decode cX12_hang 59 = .ok (.ireturn, 1) := by decide +kernel
theorem dX12_hang_60 : decode cX12_hang 60 = .ok (.aload_n 0, 1) := by decide +kernel
theorem dX12_hang_61 : decode cX12_hang 61 = .ok (.invokevirtual 77, 3) := by decide +kernel
theorem dX12_hang_64 : decode cX12_hang 64 = .ok (.iconst 0, 1) := by decide +kernel
theorem dX12_hang_65 : decode cX12_hang 65 = .ok (.istore 5, 2) := by decide +kernel
theorem dX12_hang_67 : decode cX12_hang 67 = .ok (.iload 5, 2) := by decide +kernel
theorem dX12_hang_69 : decode cX12_hang 69 = .ok (.bipush 6, 2) := by decide +kernel
theorem dX12_hang_71 : decode cX12_hang 71 = .ok (.if_icmp .ge 23, 3) := by decide +kernel
theorem dX12_hang_74 : decode cX12_hang 74 = .ok (.aload_n 0, 1) := by decide +kernel
theorem dX12_hang_75 : decode cX12_hang 75 = .ok (.getfield 7, 3) := by decide +kernel
theorem dX12_hang_78 : decode cX12_hang 78 = .ok (.iload_n 1, 1) := by decide +kernel
theorem dX12_hang_79 : decode cX12_hang 79 = .ok (.iload 4, 2) := by decide +kernel
theorem dX12_hang_81 : decode cX12_hang 81 = .ok (.iload 5, 2) := by decide +kernel
theorem dX12_hang_83 : decode cX12_hang 83 = .ok (.invokestatic 54, 3) := by decide +kernel
theorem dX12_hang_86 : decode cX12_hang 86 = .ok (.iconst 0, 1) := by decide +kernel
theorem dX12_hang_87 : decode cX12_hang 87 = .ok (.iastore, 1) := by decide +kernel
theorem dX12_hang_88 : decode cX12_hang 88 = .ok (.iinc 5 1, 3) := by decide +kernel
theorem dX12_hang_91 : decode cX12_hang 91 = .ok (.goto (-24), 3) := by decide +kernel
theorem dX12_hang_94 : decode cX12_hang 94 = .ok (.aload_n 0, 1) := by decide +kernel
theorem dX12_hang_95 : decode cX12_hang 95 = .ok (.getfield 7, 3) := by decide +kernel
theorem dX12_hang_98 : decode cX12_hang 98 = .ok (.iload_n 1, 1) := by decide +kernel
theorem dX12_hang_99 : decode cX12_hang 99 = .ok (.iload 4, 2) := by decide +kernel
theorem dX12_hang_101 : decode cX12_hang 101 = .ok (.iconst 0, 1) := by decide +kernel
theorem dX12_hang_102 : decode cX12_hang 102 = .ok (.invokestatic 54, 3) := by decide +kernel
theorem dX12_hang_105 : decode cX12_hang 105 = .ok (.iload_n 2, 1) := by decide +kernel
theorem dX12_hang_106 : decode cX12_hang 106 = .ok (.iastore, 1) := by decide +kernel
theorem dX12_hang_107 : decode cX12_hang 107 = .ok (.aload_n 0, 1) := by decide +kernel
theorem dX12_hang_108 : decode cX12_hang 108 = .ok (.getfield 7, 3) := by decide +kernel
theorem dX12_hang_111 : decode cX12_hang 111 = .ok (.iload_n 1, 1) := by decide +kernel
theorem dX12_hang_112 : decode cX12_hang 112 = .ok (.iload 4, 2) := by decide +kernel
theorem dX12_hang_114 : decode cX12_hang 114 = .ok (.iconst 1, 1) := by decide +kernel
theorem dX12_hang_115 : decode cX12_hang 115 = .ok (.invokestatic 54, 3) := by decide +kernel
theorem dX12_hang_118 : decode cX12_hang 118 = .ok (.iload_n 3, 1) := by decide +kernel
theorem dX12_hang_119 : decode cX12_hang 119 = .ok (.iastore, 1) := by decide +kernel
theorem dX12_hang_120 : decode cX12_hang 120 = .ok (.iconst 0, 1) := by decide +kernel
theorem dX12_hang_121 : decode cX12_hang 121 = .ok (.istore 5, 2) := by decide +kernel
theorem dX12_hang_123 : decode cX12_hang 123 = .ok (.iload 5, 2) := by decide +kernel
theorem dX12_hang_125 : decode cX12_hang 125 = .ok (.bipush 8, 2) := by decide +kernel
theorem dX12_hang_127 : decode cX12_hang 127 = .ok (.if_icmp .ge 26, 3) := by decide +kernel
theorem dX12_hang_130 : decode cX12_hang 130 = .ok (.aload_n 0, 1) := by decide +kernel
theorem dX12_hang_131 : decode cX12_hang 131 = .ok (.getfield 7, 3) := by decide +kernel
theorem dX12_hang_134 : decode cX12_hang 134 = .ok (.iload_n 1, 1) := by decide +kernel
theorem dX12_hang_135 : decode cX12_hang 135 = .ok (.iload 5, 2) := by decide +kernel
theorem dX12_hang_137 : decode cX12_hang 137 = .ok (.invokestatic 64, 3) := by decide +kernel
theorem dX12_hang_140 : decode cX12_hang 140 = .ok (.iconst 1, 1) := by decide +kernel
theorem dX12_hang_141 : decode cX12_hang 141 = .ok (.iadd, 1) := by decide +kernel
theorem dX12_hang_142 : decode cX12_hang 142 = .ok (.iload 4, 2) := by decide +kernel
theorem dX12_hang_144 : decode cX12_hang 144 = .ok (.iadd, 1) := by decide +kernel
theorem dX12_hang_145 : decode cX12_hang 145 = .ok (.iconst 0, 1) := by decide +kernel
theorem dX12_hang_146 : decode cX12_hang 146 = .ok (.iastore, 1) := by decide +kernel
theorem dX12_hang_147 : decode cX12_hang 147 = .ok (.iinc 5 1, 3) := by decide +kernel
theorem dX12_hang_150 : decode cX12_hang 150 = .ok (.goto (-27), 3) := by decide +kernel
theorem dX12_hang_153 : decode cX12_hang 153 = .ok (.aload_n 0, 1) := by decide +kernel
theorem dX12_hang_154 : decode cX12_hang 154 = .ok (.getfield 7, 3) := by decide +kernel
theorem dX12_hang_157 : decode cX12_hang 157 = .ok (.iload_n 1, 1) := by decide +kernel
theorem dX12_hang_158 : decode cX12_hang 158 = .ok (.iconst 2, 1) := by decide +kernel
theorem dX12_hang_159 : decode cX12_hang 159 = .ok (.invokestatic 38, 3) := by decide +kernel
theorem dX12_hang_162 : decode cX12_hang 162 = .ok (.dup2, 1) := by decide +kernel
theorem dX12_hang_163 : decode cX12_hang 163 = .ok (.iaload, 1) := by decide +kernel
theorem dX12_hang_164 : decode cX12_hang 164 = .ok (.iconst 1, 1) := by decide +kernel
theorem dX12_hang_165 : decode cX12_hang 165 = .ok (.iadd, 1) := by decide +kernel
theorem dX12_hang_166 : decode cX12_hang 166 = .ok (.iastore, 1) := by decide +kernel
theorem dX12_hang_167 : decode cX12_hang 167 = .ok (.iload 4, 2) := by decide +kernel
theorem dX12_hang_169 : decode cX12_hang 169 = .ok (.ireturn, 1) := by decide +kernel
theorem dX12_takeDown_0 : decode cX12_takeDown 0 = .ok (.aload_n 0, 1) := by decide +kernel
theorem dX12_takeDown_1 : decode cX12_takeDown 1 = .ok (.iload_n 1, 1) := by decide +kernel
theorem dX12_takeDown_2 : decode cX12_takeDown 2 = .ok (.iload_n 2, 1) := by decide +kernel
theorem dX12_takeDown_3 : decode cX12_takeDown 3 = .ok (.invokevirtual 83, 3) := by decide +kernel
theorem dX12_takeDown_6 : decode cX12_takeDown 6 = .ok (.ifCond .ne 5, 3) := by decide +kernel
theorem dX12_takeDown_9 : decode cX12_takeDown 9 = .ok (.iconst (-1), 1) := by decide +kernel
theorem dX12_takeDown_10 : decode cX12_takeDown 10 = .ok (.ireturn, 1) := by decide +kernel
theorem dX12_takeDown_11 : decode cX12_takeDown 11 = .ok (.aload_n 0, 1) := by decide +kernel
theorem dX12_takeDown_12 : decode cX12_takeDown 12 = .ok (.invokevirtual 77, 3) := by decide +kernel
theorem dX12_takeDown_15 : decode cX12_takeDown 15 = .ok (.aload_n 0, 1) := by decide +kernel
theorem dX12_takeDown_16 : decode cX12_takeDown 16 = .ok (.getfield 7, 3) := by decide +kernel
theorem dX12_takeDown_19 : decode cX12_takeDown 19 = .ok (.iload_n 1, 1) := by decide +kernel
theorem dX12_takeDown_20 : decode cX12_takeDown 20 = .ok (.iconst 2, 1) := by decide +kernel
theorem dX12_takeDown_21 : decode cX12_takeDown 21 = .ok (.invokestatic 38, 3) := by decide +kernel
theorem dX12_takeDown_24 : decode cX12_takeDown 24 = .ok (.dup2, 1) := by decide +kernel
theorem dX12_takeDown_25 : decode cX12_takeDown 25 = .ok (.iaload, 1) := by decide +kernel
theorem dX12_takeDown_26 : decode cX12_takeDown 26 = .ok (.iconst 1, 1) := by decide +kernel
theorem dX12_takeDown_27 : decode cX12_takeDown 27 = .ok (.isub, 1) := by decide +kernel
theorem dX12_takeDown_28 : decode cX12_takeDown 28 = .ok (.iastore, 1) := by decide +kernel
theorem dX12_takeDown_29 : decode cX12_takeDown 29 = .ok (.aload_n 0, 1) := by decide +kernel
theorem dX12_takeDown_30 : decode cX12_takeDown 30 = .ok (.getfield 7, 3) := by decide +kernel
theorem dX12_takeDown_33 : decode cX12_takeDown 33 = .ok (.iload_n 1, 1) := by decide +kernel
theorem dX12_takeDown_34 : decode cX12_takeDown 34 = .ok (.iconst 2, 1) := by decide +kernel
theorem dX12_takeDown_35 : decode cX12_takeDown 35 = .ok (.invokestatic 38, 3) := by decide +kernel
theorem dX12_takeDown_38 : decode cX12_takeDown 38 = .ok (.iaload, 1) := by decide +kernel
theorem dX12_takeDown_39 : decode cX12_takeDown 39 = .ok (.istore_n 3, 1) := by decide +kernel
theorem dX12_takeDown_40 : decode cX12_takeDown 40 = .ok (.iload_n 1, 1) := by decide +kernel
theorem dX12_takeDown_41 : decode cX12_takeDown 41 = .ok (.iload_n 2, 1) := by decide +kernel
theorem dX12_takeDown_42 : decode cX12_takeDown 42 = .ok (.iconst 0, 1) := by decide +kernel
theorem dX12_takeDown_43 : decode cX12_takeDown 43 = .ok (.invokestatic 54, 3) := by decide +kernel
theorem dX12_takeDown_46 : decode cX12_takeDown 46 = .ok (.istore 4, 2) := by decide +kernel
theorem dX12_takeDown_48 : decode cX12_takeDown 48 = .ok (.iload 4, 2) := by decide +kernel
theorem dX12_takeDown_50 : decode cX12_takeDown 50 = .ok (.iload_n 1, 1) := by decide +kernel
theorem dX12_takeDown_51 : decode cX12_takeDown 51 = .ok (.iload_n 3, 1) := by decide +kernel
theorem dX12_takeDown_52 : decode cX12_takeDown 52 = .ok (.iconst 0, 1) := by decide +kernel
theorem dX12_takeDown_53 : decode cX12_takeDown 53 = .ok (.invokestatic 54, 3) := by decide +kernel
theorem dX12_takeDown_56 : decode cX12_takeDown 56 = .ok (.if_icmp .ge 26, 3) := by decide +kernel
theorem dX12_takeDown_59 : decode cX12_takeDown 59 = .ok (.aload_n 0, 1) := by decide +kernel
theorem dX12_takeDown_60 : decode cX12_takeDown 60 = .ok (.getfield 7, 3) := by decide +kernel
theorem dX12_takeDown_63 : decode cX12_takeDown 63 = .ok (.iload 4, 2) := by decide +kernel
theorem dX12_takeDown_65 : decode cX12_takeDown 65 = .ok (.aload_n 0, 1) := by decide +kernel
theorem dX12_takeDown_66 : decode cX12_takeDown 66 = .ok (.getfield 7, 3) := by decide +kernel
theorem dX12_takeDown_69 : decode cX12_takeDown 69 = .ok (.iload 4, 2) := by decide +kernel
theorem dX12_takeDown_71 : decode cX12_takeDown 71 = .ok (.bipush 6, 2) := by decide +kernel
theorem dX12_takeDown_73 : decode cX12_takeDown 73 = .ok (.iadd, 1) := by decide +kernel
theorem dX12_takeDown_74 : decode cX12_takeDown 74 = .ok (.iaload, 1) := by decide +kernel
theorem dX12_takeDown_75 : decode cX12_takeDown 75 = .ok (.iastore, 1) := by decide +kernel
theorem dX12_takeDown_76 : decode cX12_takeDown 76 = .ok (.iinc 4 1, 3) := by decide +kernel
theorem dX12_takeDown_79 : decode cX12_takeDown 79 = .ok (.goto (-31), 3) := by decide +kernel
theorem dX12_takeDown_82 : decode cX12_takeDown 82 = .ok (.iconst 0, 1) := by decide +kernel
theorem dX12_takeDown_83 : decode cX12_takeDown 83 = .ok (.istore 4, 2) := by decide +kernel
theorem dX12_takeDown_85 : decode cX12_takeDown 85 = .ok (.iload 4, 2) := by decide +kernel
theorem dX12_takeDown_87 : decode cX12_takeDown 87 = .ok (.bipush 8, 2) := by decide +kernel
theorem dX12_takeDown_89 : decode cX12_takeDown 89 = .ok (.if_icmp .ge 56, 3) := by decide +kernel
theorem dX12_takeDown_92 : decode cX12_takeDown 92 = .ok (.iload_n 2, 1) := by decide +kernel
theorem dX12_takeDown_93 : decode cX12_takeDown 93 = .ok (.istore 5, 2) := by decide +kernel
theorem dX12_takeDown_95 : decode cX12_takeDown 95 = .ok (.iload 5, 2) := by decide +kernel
theorem dX12_takeDown_97 : decode cX12_takeDown 97 = .ok (.iload_n 3, 1) := by decide +kernel
theorem dX12_takeDown_98 : decode cX12_takeDown 98 = .ok (.if_icmp .ge 41, 3) := by decide +kernel
theorem dX12_takeDown_101 : decode cX12_takeDown 101 = .ok (.aload_n 0, 1) := by decide +kernel
theorem dX12_takeDown_102 : decode cX12_takeDown 102 = .ok (.getfield 7, 3) := by decide +kernel
theorem dX12_takeDown_105 : decode cX12_takeDown 105 = .ok (.iload_n 1, 1) := by decide +kernel
theorem dX12_takeDown_106 : decode cX12_takeDown 106 = .ok (.iload 4, 2) := by decide +kernel
theorem dX12_takeDown_108 : decode cX12_takeDown 108 = .ok (.invokestatic 64, 3) := by decide +kernel
theorem dX12_takeDown_111 : decode cX12_takeDown 111 = .ok (.iconst 1, 1) := by decide +kernel
theorem dX12_takeDown_112 : decode cX12_takeDown 112 = .ok (.iadd, 1) := by decide +kernel
theorem dX12_takeDown_113 : decode cX12_takeDown 113 = .ok (.iload 5, 2) := by decide +kernel
theorem dX12_takeDown_115 : decode cX12_takeDown 115 = .ok (.iadd, 1) := by decide +kernel
theorem dX12_takeDown_116 : decode cX12_takeDown 116 = .ok (.aload_n 0, 1) := by decide +kernel
theorem dX12_takeDown_117 : decode cX12_takeDown 117 = .ok (.getfield 7, 3) := by decide +kernel
theorem dX12_takeDown_120 : decode cX12_takeDown 120 = .ok (.iload_n 1, 1) := by decide +kernel
theorem dX12_takeDown_121 : decode cX12_takeDown 121 = .ok (.iload 4, 2) := by decide +kernel
theorem dX12_takeDown_123 : decode cX12_takeDown 123 = .ok (.invokestatic 64, 3) := by decide +kernel
theorem dX12_takeDown_126 : decode cX12_takeDown 126 = .ok (.iconst 2, 1) := by decide +kernel
theorem dX12_takeDown_127 : decode cX12_takeDown 127 = .ok (.iadd, 1) := by decide +kernel
theorem dX12_takeDown_128 : decode cX12_takeDown 128 = .ok (.iload 5, 2) := by decide +kernel
theorem dX12_takeDown_130 : decode cX12_takeDown 130 = .ok (.iadd, 1) := by decide +kernel
theorem dX12_takeDown_131 : decode cX12_takeDown 131 = .ok (.iaload, 1) := by decide +kernel
theorem dX12_takeDown_132 : decode cX12_takeDown 132 = .ok (.iastore, 1) := by decide +kernel
theorem dX12_takeDown_133 : decode cX12_takeDown 133 = .ok (.iinc 5 1, 3) := by decide +kernel
theorem dX12_takeDown_136 : decode cX12_takeDown 136 = .ok (.goto (-41), 3) := by decide +kernel
theorem dX12_takeDown_139 : decode cX12_takeDown 139 = .ok (.iinc 4 1, 3) := by decide +kernel
theorem dX12_takeDown_142 : decode cX12_takeDown 142 = .ok (.goto (-57), 3) := by decide +kernel
theorem dX12_takeDown_145 : decode cX12_takeDown 145 = .ok (.iload_n 3, 1) := by decide +kernel
theorem dX12_takeDown_146 : decode cX12_takeDown 146 = .ok (.ireturn, 1) := by decide +kernel
theorem dX12_patch_0 : decode cX12_patch 0 = .ok (.aload_n 0, 1) := by decide +kernel
theorem dX12_patch_1 : decode cX12_patch 1 = .ok (.iload_n 1, 1) := by decide +kernel
theorem dX12_patch_2 : decode cX12_patch 2 = .ok (.iload_n 2, 1) := by decide +kernel
theorem dX12_patch_3 : decode cX12_patch 3 = .ok (.invokevirtual 83, 3) := by decide +kernel
theorem dX12_patch_6 : decode cX12_patch 6 = .ok (.ifCond .eq 16, 3) := by decide +kernel
theorem dX12_patch_9 : decode cX12_patch 9 = .ok (.iload_n 3, 1) := by decide +kernel
theorem dX12_patch_10 : decode cX12_patch 10 = .ok (.bipush (-6), 2) := by decide +kernel
theorem dX12_patch_12 : decode cX12_patch 12 = .ok (.if_icmp .eq 12, 3) := by decide +kernel
theorem dX12_patch_15 : decode cX12_patch 15 = .ok (.iload_n 3, 1) := by decide +kernel
theorem dX12_patch_16 : decode cX12_patch 16 = .ok (.invokestatic 80, 3) := by decide +kernel
theorem dX12_patch_19 : decode cX12_patch 19 = .ok (.ifCond .ne 5, 3) := by decide +kernel
theorem dX12_patch_22 : decode cX12_patch 22 = .ok (.iconst (-1), 1) := by decide +kernel
theorem dX12_patch_23 : decode cX12_patch 23 = .ok (.ireturn, 1) := by decide +kernel
theorem dX12_patch_24 : decode cX12_patch 24 = .ok (.aload_n 0, 1) := by decide +kernel
theorem dX12_patch_25 : decode cX12_patch 25 = .ok (.invokevirtual 77, 3) := by decide +kernel
theorem dX12_patch_28 : decode cX12_patch 28 = .ok (.aload_n 0, 1) := by decide +kernel
theorem dX12_patch_29 : decode cX12_patch 29 = .ok (.getfield 7, 3) := by decide +kernel
theorem dX12_patch_32 : decode cX12_patch 32 = .ok (.iload_n 1, 1) := by decide +kernel
theorem dX12_patch_33 : decode cX12_patch 33 = .ok (.iload_n 2, 1) := by decide +kernel
theorem dX12_patch_34 : decode cX12_patch 34 = .ok (.iconst 1, 1) := by decide +kernel
theorem dX12_patch_35 : decode cX12_patch 35 = .ok (.invokestatic 54, 3) := by decide +kernel
theorem dX12_patch_38 : decode cX12_patch 38 = .ok (.iaload, 1) := by decide +kernel
theorem dX12_patch_39 : decode cX12_patch 39 = .ok (.istore 4, 2) := by decide +kernel
theorem dX12_patch_41 : decode cX12_patch 41 = .ok (.aload_n 0, 1) := by decide +kernel
theorem dX12_patch_42 : decode cX12_patch 42 = .ok (.getfield 7, 3) := by decide +kernel
theorem dX12_patch_45 : decode cX12_patch 45 = .ok (.iload_n 1, 1) := by decide +kernel
theorem dX12_patch_46 : decode cX12_patch 46 = .ok (.iload_n 2, 1) := by decide +kernel
theorem dX12_patch_47 : decode cX12_patch 47 = .ok (.iconst 1, 1) := by decide +kernel
theorem dX12_patch_48 : decode cX12_patch 48 = .ok (.invokestatic 54, 3) := by decide +kernel
theorem dX12_patch_51 : decode cX12_patch 51 = .ok (.iload_n 3, 1) := by decide +kernel
theorem dX12_patch_52 : decode cX12_patch 52 = .ok (.iastore, 1) := by decide +kernel
theorem dX12_patch_53 : decode cX12_patch 53 = .ok (.iload 4, 2) := by decide +kernel
theorem dX12_patch_55 : decode cX12_patch 55 = .ok (.ireturn, 1) := by decide +kernel
theorem dX12_feed_0 : decode cX12_feed 0 = .ok (.iload_n 1, 1) := by decide +kernel
theorem dX12_feed_1 : decode cX12_feed 1 = .ok (.invokestatic 46, 3) := by decide +kernel
theorem dX12_feed_4 : decode cX12_feed 4 = .ok (.ifCond .eq 19, 3) := by decide +kernel
theorem dX12_feed_7 : decode cX12_feed 7 = .ok (.iload_n 2, 1) := by decide +kernel
theorem dX12_feed_8 : decode cX12_feed 8 = .ok (.invokestatic 80, 3) := by decide +kernel
theorem dX12_feed_11 : decode cX12_feed 11 = .ok (.ifCond .eq 12, 3) := by decide +kernel
theorem dX12_feed_14 : decode cX12_feed 14 = .ok (.iload_n 3, 1) := by decide +kernel
theorem dX12_feed_15 : decode cX12_feed 15 = .ok (.iconst 0, 1) := by decide +kernel
theorem dX12_feed_16 : decode cX12_feed 16 = .ok (.iconst 2, 1) := by decide +kernel
theorem dX12_feed_17 : decode cX12_feed 17 = .ok (.invokestatic 42, 3) := by decide +kernel
theorem dX12_feed_20 : decode cX12_feed 20 = .ok (.ifCond .ne 5, 3) := by decide +kernel
theorem dX12_feed_23 : decode cX12_feed 23 = .ok (.iconst (-1), 1) := by decide +kernel
theorem dX12_feed_24 : decode cX12_feed 24 = .ok (.ireturn, 1) := by decide +kernel
theorem dX12_feed_25 : decode cX12_feed 25 = .ok (.aload_n 0, 1) := by decide +kernel
theorem dX12_feed_26 : decode cX12_feed 26 = .ok (.invokevirtual 77, 3) := by decide +kernel
theorem dX12_feed_29 : decode cX12_feed 29 = .ok (.aload_n 0, 1) := by decide +kernel
theorem dX12_feed_30 : decode cX12_feed 30 = .ok (.getfield 7, 3) := by decide +kernel
theorem dX12_feed_33 : decode cX12_feed 33 = .ok (.iload_n 1, 1) := by decide +kernel
theorem dX12_feed_34 : decode cX12_feed 34 = .ok (.bipush 75, 2) := by decide +kernel
theorem dX12_feed_36 : decode cX12_feed 36 = .ok (.iload_n 2, 1) := by decide +kernel
theorem dX12_feed_37 : decode cX12_feed 37 = .ok (.iadd, 1) := by decide +kernel
theorem dX12_feed_38 : decode cX12_feed 38 = .ok (.invokestatic 38, 3) := by decide +kernel
theorem dX12_feed_41 : decode cX12_feed 41 = .ok (.iaload, 1) := by decide +kernel
theorem dX12_feed_42 : decode cX12_feed 42 = .ok (.istore 4, 2) := by decide +kernel
theorem dX12_feed_44 : decode cX12_feed 44 = .ok (.aload_n 0, 1) := by decide +kernel
theorem dX12_feed_45 : decode cX12_feed 45 = .ok (.getfield 7, 3) := by decide +kernel
theorem dX12_feed_48 : decode cX12_feed 48 = .ok (.iload_n 1, 1) := by decide +kernel
theorem dX12_feed_49 : decode cX12_feed 49 = .ok (.bipush 75, 2) := by decide +kernel
theorem dX12_feed_51 : decode cX12_feed 51 = .ok (.iload_n 2, 1) := by decide +kernel
theorem dX12_feed_52 : decode cX12_feed 52 = .ok (.iadd, 1) := by decide +kernel
theorem dX12_feed_53 : decode cX12_feed 53 = .ok (.invokestatic 38, 3) := by decide +kernel
theorem dX12_feed_56 : decode cX12_feed 56 = .ok (.iload_n 3, 1) := by decide +kernel
theorem dX12_feed_57 : decode cX12_feed 57 = .ok (.iastore, 1) := by decide +kernel
theorem dX12_feed_58 : decode cX12_feed 58 = .ok (.iload 4, 2) := by decide +kernel
theorem dX12_feed_60 : decode cX12_feed 60 = .ok (.ireturn, 1) := by decide +kernel
theorem dX12_spread_0 : decode cX12_spread 0 = .ok (.iload_n 1, 1) := by decide +kernel
theorem dX12_spread_1 : decode cX12_spread 1 = .ok (.invokestatic 46, 3) := by decide +kernel
theorem dX12_spread_4 : decode cX12_spread 4 = .ok (.ifCond .ne 5, 3) := by decide +kernel
theorem dX12_spread_7 : decode cX12_spread 7 = .ok (.iconst (-1), 1) := by decide +kernel
theorem dX12_spread_8 : decode cX12_spread 8 = .ok (.ireturn, 1) := by decide +kernel
theorem dX12_spread_9 : decode cX12_spread 9 = .ok (.aload_n 0, 1) := by decide +kernel
theorem dX12_spread_10 : decode cX12_spread 10 = .ok (.invokevirtual 77, 3) := by decide +kernel
theorem dX12_spread_13 : decode cX12_spread 13 = .ok (.iconst 0, 1) := by decide +kernel
theorem dX12_spread_14 : decode cX12_spread 14 = .ok (.istore_n 2, 1) := by decide +kernel
theorem dX12_spread_15 : decode cX12_spread 15 = .ok (.iload_n 2, 1) := by decide +kernel
theorem dX12_spread_16 : decode cX12_spread 16 = .ok (.bipush 12, 2) := by decide +kernel
theorem dX12_spread_18 : decode cX12_spread 18 = .ok (.if_icmp .ge 21, 3) := by decide +kernel
theorem dX12_spread_21 : decode cX12_spread 21 = .ok (.aload_n 0, 1) := by decide +kernel
theorem dX12_spread_22 : decode cX12_spread 22 = .ok (.getfield 29, 3) := by decide +kernel
theorem dX12_spread_25 : decode cX12_spread 25 = .ok (.iload_n 2, 1) := by decide +kernel
theorem dX12_spread_26 : decode cX12_spread 26 = .ok (.aload_n 0, 1) := by decide +kernel
theorem dX12_spread_27 : decode cX12_spread 27 = .ok (.iload_n 1, 1) := by decide +kernel
theorem dX12_spread_28 : decode cX12_spread 28 = .ok (.iload_n 2, 1) := by decide +kernel
theorem dX12_spread_29 : decode cX12_spread 29 = .ok (.invokevirtual 87, 3) := by decide +kernel
theorem dX12_spread_32 : decode cX12_spread 32 = .ok (.iastore, 1) := by decide +kernel
theorem dX12_spread_33 : decode cX12_spread 33 = .ok (.iinc 2 1, 3) := by decide +kernel
theorem dX12_spread_36 : decode cX12_spread 36 = .ok (.goto (-21), 3) := by decide +kernel
theorem dX12_spread_39 : decode cX12_spread 39 = .ok (.aload_n 0, 1) := by decide +kernel
theorem dX12_spread_40 : decode cX12_spread 40 = .ok (.getfield 32, 3) := by decide +kernel
theorem dX12_spread_43 : decode cX12_spread 43 = .ok (.iconst 0, 1) := by decide +kernel
theorem dX12_spread_44 : decode cX12_spread 44 = .ok (.iconst 0, 1) := by decide +kernel
theorem dX12_spread_45 : decode cX12_spread 45 = .ok (.iastore, 1) := by decide +kernel
theorem dX12_spread_46 : decode cX12_spread 46 = .ok (.aload_n 0, 1) := by decide +kernel
theorem dX12_spread_47 : decode cX12_spread 47 = .ok (.getfield 32, 3) := by decide +kernel
theorem dX12_spread_50 : decode cX12_spread 50 = .ok (.iconst 1, 1) := by decide +kernel
theorem dX12_spread_51 : decode cX12_spread 51 = .ok (.iconst 0, 1) := by decide +kernel
theorem dX12_spread_52 : decode cX12_spread 52 = .ok (.iastore, 1) := by decide +kernel
theorem dX12_spread_53 : decode cX12_spread 53 = .ok (.aload_n 0, 1) := by decide +kernel
theorem dX12_spread_54 : decode cX12_spread 54 = .ok (.getfield 32, 3) := by decide +kernel
theorem dX12_spread_57 : decode cX12_spread 57 = .ok (.iconst 2, 1) := by decide +kernel
theorem dX12_spread_58 : decode cX12_spread 58 = .ok (.iconst 0, 1) := by decide +kernel
theorem dX12_spread_59 : decode cX12_spread 59 = .ok (.iastore, 1) := by decide +kernel
theorem dX12_spread_60 : decode cX12_spread 60 = .ok (.iconst 0, 1) := by decide +kernel
theorem dX12_spread_61 : decode cX12_spread 61 = .ok (.istore_n 2, 1) := by decide +kernel
theorem dX12_spread_62 : decode cX12_spread 62 = .ok (.iconst 0, 1) := by decide +kernel
theorem dX12_spread_63 : decode cX12_spread 63 = .ok (.istore_n 3, 1) := by decide +kernel
theorem dX12_spread_64 : decode cX12_spread 64 = .ok (.iload_n 3, 1) := by decide +kernel
theorem dX12_spread_65 : decode cX12_spread 65 = .ok (.bipush 12, 2) := by decide +kernel
theorem dX12_spread_67 : decode cX12_spread 67 = .ok (.if_icmp .ge 168, 3) := by decide +kernel
theorem dX12_spread_70 : decode cX12_spread 70 = .ok (.iconst 0, 1) := by decide +kernel
theorem dX12_spread_71 : decode cX12_spread 71 = .ok (.istore 4, 2) := by decide +kernel
theorem dX12_spread_73 : decode cX12_spread 73 = .ok (.iconst 1, 1) := by decide +kernel
theorem dX12_spread_74 : decode cX12_spread 74 = .ok (.istore 5, 2) := by decide +kernel
theorem dX12_spread_76 : decode cX12_spread 76 = .ok (.iload 5, 2) := by decide +kernel
theorem dX12_spread_78 : decode cX12_spread 78 = .ok (.bipush 12, 2) := by decide +kernel
theorem dX12_spread_80 : decode cX12_spread 80 = .ok (.if_icmp .ge 35, 3) := by decide +kernel
theorem dX12_spread_83 : decode cX12_spread 83 = .ok (.aload_n 0, 1) := by decide +kernel
theorem dX12_spread_84 : decode cX12_spread 84 = .ok (.getfield 29, 3) := by decide +kernel
theorem dX12_spread_87 : decode cX12_spread 87 = .ok (.iload 5, 2) := by decide +kernel
theorem dX12_spread_89 : decode cX12_spread 89 = .ok (.iaload, 1) := by decide +kernel
theorem dX12_spread_90 : decode cX12_spread 90 = .ok (.aload_n 0, 1) := by decide +kernel
theorem dX12_spread_91 : decode cX12_spread 91 = .ok (.getfield 29, 3) := by decide +kernel
theorem dX12_spread_94 : decode cX12_spread 94 = .ok (.iload 4, 2) := by decide +kernel
theorem dX12_spread_96 : decode cX12_spread 96 = .ok (.iaload, 1) := by decide +kernel
theorem dX12_spread_97 : decode cX12_spread 97 = .ok (.if_icmp .le 8, 3) := by decide +kernel
theorem dX12_spread_100 : decode cX12_spread 100 = .ok (.iload 5, 2) := by decide +kernel
theorem dX12_spread_102 : decode cX12_spread 102 = .ok (.goto 5, 3) := by decide +kernel
theorem dX12_spread_105 : decode cX12_spread 105 = .ok (.iload 4, 2) := by decide +kernel
theorem dX12_spread_107 : decode cX12_spread 107 = .ok (.istore 4, 2) := by decide +kernel
theorem dX12_spread_109 : decode cX12_spread 109 = .ok (.iinc 5 1, 3) := by decide +kernel
theorem dX12_spread_112 : decode cX12_spread 112 = .ok (.goto (-36), 3) := by decide +kernel
theorem dX12_spread_115 : decode cX12_spread 115 = .ok (.aload_n 0, 1) := by decide +kernel
theorem dX12_spread_116 : decode cX12_spread 116 = .ok (.getfield 32, 3) := by decide +kernel
theorem dX12_spread_119 : decode cX12_spread 119 = .ok (.iconst 1, 1) := by decide +kernel
theorem dX12_spread_120 : decode cX12_spread 120 = .ok (.iaload, 1) := by decide +kernel
theorem dX12_spread_121 : decode cX12_spread 121 = .ok (.aload_n 0, 1) := by decide +kernel
theorem dX12_spread_122 : decode cX12_spread 122 = .ok (.getfield 32, 3) := by decide +kernel
theorem dX12_spread_125 : decode cX12_spread 125 = .ok (.iconst 0, 1) := by decide +kernel
theorem dX12_spread_126 : decode cX12_spread 126 = .ok (.iaload, 1) := by decide +kernel
theorem dX12_spread_127 : decode cX12_spread 127 = .ok (.if_icmp .ge 7, 3) := by decide +kernel
theorem dX12_spread_130 : decode cX12_spread 130 = .ok (.iconst 1, 1) := by decide +kernel
theorem dX12_spread_131 : decode cX12_spread 131 = .ok (.goto 4, 3) := by decide +kernel
theorem dX12_spread_134 : decode cX12_spread 134 = .ok (.iconst 0, 1) := by decide +kernel
theorem dX12_spread_135 : decode cX12_spread 135 = .ok (.istore 5, 2) := by decide +kernel
theorem dX12_spread_137 : decode cX12_spread 137 = .ok (.aload_n 0, 1) := by decide +kernel
theorem dX12_spread_138 : decode cX12_spread 138 = .ok (.getfield 32, 3) := by decide +kernel
theorem dX12_spread_141 : decode cX12_spread 141 = .ok (.iconst 2, 1) := by decide +kernel
theorem dX12_spread_142 : decode cX12_spread 142 = .ok (.iaload, 1) := by decide +kernel
theorem dX12_spread_143 : decode cX12_spread 143 = .ok (.aload_n 0, 1) := by decide +kernel
theorem dX12_spread_144 : decode cX12_spread 144 = .ok (.getfield 32, 3) := by decide +kernel
theorem dX12_spread_147 : decode cX12_spread 147 = .ok (.iload 5, 2) := by decide +kernel
theorem dX12_spread_149 : decode cX12_spread 149 = .ok (.iaload, 1) := by decide +kernel
theorem dX12_spread_150 : decode cX12_spread 150 = .ok (.if_icmp .ge 7, 3) := by decide +kernel
theorem dX12_spread_153 : decode cX12_spread 153 = .ok (.iconst 2, 1) := by decide +kernel
theorem dX12_spread_154 : decode cX12_spread 154 = .ok (.goto 5, 3) := by decide +kernel
theorem dX12_spread_157 : decode cX12_spread 157 = .ok (.iload 5, 2) := by decide +kernel
theorem dX12_spread_159 : decode cX12_spread 159 = .ok (.istore 5, 2) := by decide +kernel
theorem dX12_spread_161 : decode cX12_spread 161 = .ok (.aload_n 0, 1) := by decide +kernel
theorem dX12_spread_162 : decode cX12_spread 162 = .ok (.getfield 32, 3) := by decide +kernel
theorem dX12_spread_165 : decode cX12_spread 165 = .ok (.iload 5, 2) := by decide +kernel
theorem dX12_spread_167 : decode cX12_spread 167 = .ok (.dup2, 1) := by decide +kernel
theorem dX12_spread_168 : decode cX12_spread 168 = .ok (.iaload, 1) := by decide +kernel
theorem dX12_spread_169 : decode cX12_spread 169 = .ok (.aload_n 0, 1) := by decide +kernel
theorem dX12_spread_170 : decode cX12_spread 170 = .ok (.getfield 29, 3) := by decide +kernel
theorem dX12_spread_173 : decode cX12_spread 173 = .ok (.iload 4, 2) := by decide +kernel
theorem dX12_spread_175 : decode cX12_spread 175 = .ok (.iaload, 1) := by decide +kernel
theorem dX12_spread_176 : decode cX12_spread 176 = .ok (.iadd, 1) := by decide +kernel
theorem dX12_spread_177 : decode cX12_spread 177 = .ok (.iastore, 1) := by decide +kernel
theorem dX12_spread_178 : decode cX12_spread 178 = .ok (.iload_n 2, 1) := by decide +kernel
theorem dX12_spread_179 : decode cX12_spread 179 = .ok (.aload_n 0, 1) := by decide +kernel
theorem dX12_spread_180 : decode cX12_spread 180 = .ok (.getfield 7, 3) := by decide +kernel
theorem dX12_spread_183 : decode cX12_spread 183 = .ok (.iload_n 1, 1) := by decide +kernel
theorem dX12_spread_184 : decode cX12_spread 184 = .ok (.bipush 75, 2) := by decide +kernel
theorem dX12_spread_186 : decode cX12_spread 186 = .ok (.iload 4, 2) := by decide +kernel
theorem dX12_spread_188 : decode cX12_spread 188 = .ok (.iadd, 1) := by decide +kernel
theorem dX12_spread_189 : decode cX12_spread 189 = .ok (.invokestatic 38, 3) := by decide +kernel
theorem dX12_spread_192 : decode cX12_spread 192 = .ok (.iaload, 1) := by decide +kernel
theorem dX12_spread_193 : decode cX12_spread 193 = .ok (.iload 5, 2) := by decide +kernel
theorem dX12_spread_195 : decode cX12_spread 195 = .ok (.if_icmp .ne 7, 3) := by decide +kernel
theorem dX12_spread_198 : decode cX12_spread 198 = .ok (.iconst 0, 1) := by decide +kernel
theorem dX12_spread_199 : decode cX12_spread 199 = .ok (.goto 4, 3) := by decide +kernel
theorem dX12_spread_202 : decode cX12_spread 202 = .ok (.iconst 1, 1) := by decide +kernel
theorem dX12_spread_203 : decode cX12_spread 203 = .ok (.iadd, 1) := by decide +kernel
theorem dX12_spread_204 : decode cX12_spread 204 = .ok (.istore_n 2, 1) := by decide +kernel
theorem dX12_spread_205 : decode cX12_spread 205 = .ok (.aload_n 0, 1) := by decide +kernel
theorem dX12_spread_206 : decode cX12_spread 206 = .ok (.getfield 7, 3) := by decide +kernel
theorem dX12_spread_209 : decode cX12_spread 209 = .ok (.iload_n 1, 1) := by decide +kernel
theorem dX12_spread_210 : decode cX12_spread 210 = .ok (.bipush 75, 2) := by decide +kernel
theorem dX12_spread_212 : decode cX12_spread 212 = .ok (.iload 4, 2) := by decide +kernel
theorem dX12_spread_214 : decode cX12_spread 214 = .ok (.iadd, 1) := by decide +kernel
theorem dX12_spread_215 : decode cX12_spread 215 = .ok (.invokestatic 38, 3) := by decide +kernel
theorem dX12_spread_218 : decode cX12_spread 218 = .ok (.iload 5, 2) := by decide +kernel
theorem dX12_spread_220 : decode cX12_spread 220 = .ok (.iastore, 1) := by decide +kernel
theorem dX12_spread_221 : decode cX12_spread 221 = .ok (.aload_n 0, 1) := by decide +kernel
theorem dX12_spread_222 : decode cX12_spread 222 = .ok (.getfield 29, 3) := by decide +kernel
theorem dX12_spread_225 : decode cX12_spread 225 = .ok (.iload 4, 2) := by decide +kernel
theorem dX12_spread_227 : decode cX12_spread 227 = .ok (.iconst (-1), 1) := by decide +kernel
theorem dX12_spread_228 : decode cX12_spread 228 = .ok (.iastore, 1) := by decide +kernel
theorem dX12_spread_229 : decode cX12_spread 229 = .ok (.iinc 3 1, 3) := by decide +kernel
theorem dX12_spread_232 : decode cX12_spread 232 = .ok (.goto (-168), 3) := by decide +kernel
theorem dX12_spread_235 : decode cX12_spread 235 = .ok (.iload_n 2, 1) := by decide +kernel
theorem dX12_spread_236 : decode cX12_spread 236 = .ok (.ireturn, 1) := by decide +kernel
theorem dX12_atFault_0 : decode cX12_atFault 0 = .ok (.aload_n 0, 1) := by decide +kernel
theorem dX12_atFault_1 : decode cX12_atFault 1 = .ok (.iload_n 1, 1) := by decide +kernel
theorem dX12_atFault_2 : decode cX12_atFault 2 = .ok (.iload_n 2, 1) := by decide +kernel
theorem dX12_atFault_3 : decode cX12_atFault 3 = .ok (.invokevirtual 83, 3) := by decide +kernel
theorem dX12_atFault_6 : decode cX12_atFault 6 = .ok (.ifCond .ne 7, 3) := by decide +kernel
theorem dX12_atFault_9 : decode cX12_atFault 9 = .ok (.iconst (-1), 1) := by decide +kernel
theorem dX12_atFault_10 : decode cX12_atFault 10 = .ok (.goto 19, 3) := by decide +kernel
theorem dX12_atFault_13 : decode cX12_atFault 13 = .ok (.iload_n 3, 1) := by decide +kernel
theorem dX12_atFault_14 : decode cX12_atFault 14 = .ok (.iconst 0, 1) := by decide +kernel
theorem dX12_atFault_15 : decode cX12_atFault 15 = .ok (.bipush 100, 2) := by decide +kernel
theorem dX12_atFault_17 : decode cX12_atFault 17 = .ok (.invokestatic 42, 3) := by decide +kernel
theorem dX12_atFault_20 : decode cX12_atFault 20 = .ok (.ifCond .eq 7, 3) := by decide +kernel
theorem dX12_atFault_23 : decode cX12_atFault 23 = .ok (.iconst 0, 1) := by decide +kernel
theorem dX12_atFault_24 : decode cX12_atFault 24 = .ok (.goto 5, 3) := by decide +kernel
theorem dX12_atFault_27 : decode cX12_atFault 27 = .ok (.bipush (-2), 2) := by decide +kernel
theorem dX12_atFault_29 : decode cX12_atFault 29 = .ok (.ireturn, 1) := by decide +kernel
theorem dX12_at_0 : decode cX12_at 0 = .ok (.aload_n 0, 1) := by decide +kernel
theorem dX12_at_1 : decode cX12_at 1 = .ok (.iload_n 1, 1) := by decide +kernel
theorem dX12_at_2 : decode cX12_at 2 = .ok (.iload_n 2, 1) := by decide +kernel
theorem dX12_at_3 : decode cX12_at 3 = .ok (.iload_n 3, 1) := by decide +kernel
theorem dX12_at_4 : decode cX12_at 4 = .ok (.invokevirtual 90, 3) := by decide +kernel
theorem dX12_at_7 : decode cX12_at 7 = .ok (.istore 4, 2) := by decide +kernel
theorem dX12_at_9 : decode cX12_at 9 = .ok (.iload 4, 2) := by decide +kernel
theorem dX12_at_11 : decode cX12_at 11 = .ok (.ifCond .ge 6, 3) := by decide +kernel
theorem dX12_at_14 : decode cX12_at 14 = .ok (.iload 4, 2) := by decide +kernel
theorem dX12_at_16 : decode cX12_at 16 = .ok (.ireturn, 1) := by decide +kernel
theorem dX12_at_17 : decode cX12_at 17 = .ok (.aload_n 0, 1) := by decide +kernel
theorem dX12_at_18 : decode cX12_at 18 = .ok (.invokevirtual 77, 3) := by decide +kernel
theorem dX12_at_21 : decode cX12_at 21 = .ok (.aload_n 0, 1) := by decide +kernel
theorem dX12_at_22 : decode cX12_at 22 = .ok (.getfield 7, 3) := by decide +kernel
theorem dX12_at_25 : decode cX12_at 25 = .ok (.iload_n 1, 1) := by decide +kernel
theorem dX12_at_26 : decode cX12_at 26 = .ok (.iload_n 2, 1) := by decide +kernel
theorem dX12_at_27 : decode cX12_at 27 = .ok (.iconst 2, 1) := by decide +kernel
theorem dX12_at_28 : decode cX12_at 28 = .ok (.invokestatic 54, 3) := by decide +kernel
theorem dX12_at_31 : decode cX12_at 31 = .ok (.iaload, 1) := by decide +kernel
theorem dX12_at_32 : decode cX12_at 32 = .ok (.istore 5, 2) := by decide +kernel
theorem dX12_at_34 : decode cX12_at 34 = .ok (.aload_n 0, 1) := by decide +kernel
theorem dX12_at_35 : decode cX12_at 35 = .ok (.getfield 7, 3) := by decide +kernel
theorem dX12_at_38 : decode cX12_at 38 = .ok (.iload_n 1, 1) := by decide +kernel
theorem dX12_at_39 : decode cX12_at 39 = .ok (.iload_n 2, 1) := by decide +kernel
theorem dX12_at_40 : decode cX12_at 40 = .ok (.iconst 2, 1) := by decide +kernel
theorem dX12_at_41 : decode cX12_at 41 = .ok (.invokestatic 54, 3) := by decide +kernel
theorem dX12_at_44 : decode cX12_at 44 = .ok (.iload_n 3, 1) := by decide +kernel
theorem dX12_at_45 : decode cX12_at 45 = .ok (.iastore, 1) := by decide +kernel
theorem dX12_at_46 : decode cX12_at 46 = .ok (.iload 5, 2) := by decide +kernel
theorem dX12_at_48 : decode cX12_at 48 = .ok (.ireturn, 1) := by decide +kernel
theorem dX12_isCue_0 : decode cX12_isCue 0 = .ok (.iload_n 0, 1) := by decide +kernel
theorem dX12_isCue_1 : decode cX12_isCue 1 = .ok (.invokestatic 46, 3) := by decide +kernel
theorem dX12_isCue_4 : decode cX12_isCue 4 = .ok (.ifCond .eq 17, 3) := by decide +kernel
theorem dX12_isCue_7 : decode cX12_isCue 7 = .ok (.iload_n 1, 1) := by decide +kernel
theorem dX12_isCue_8 : decode cX12_isCue 8 = .ok (.iconst 0, 1) := by decide +kernel
theorem dX12_isCue_9 : decode cX12_isCue 9 = .ok (.bipush 7, 2) := by decide +kernel
theorem dX12_isCue_11 : decode cX12_isCue 11 = .ok (.invokestatic 42, 3) := by decide +kernel
theorem dX12_isCue_14 : decode cX12_isCue 14 = .ok (.ifCond .eq 7, 3) := by decide +kernel
theorem dX12_isCue_17 : decode cX12_isCue 17 = .ok (.iconst 1, 1) := by decide +kernel
theorem dX12_isCue_18 : decode cX12_isCue 18 = .ok (.goto 4, 3) := by decide +kernel
theorem dX12_isCue_21 : decode cX12_isCue 21 = .ok (.iconst 0, 1) := by decide +kernel
theorem dX12_isCue_22 : decode cX12_isCue 22 = .ok (.ireturn, 1) := by decide +kernel
theorem dX12_recordFault_0 : decode cX12_recordFault 0 = .ok (.iload_n 1, 1) := by decide +kernel
theorem dX12_recordFault_1 : decode cX12_recordFault 1 = .ok (.iload_n 2, 1) := by decide +kernel
theorem dX12_recordFault_2 : decode cX12_recordFault 2 = .ok (.invokestatic 93, 3) := by decide +kernel
theorem dX12_recordFault_5 : decode cX12_recordFault 5 = .ok (.ifCond .ne 7, 3) := by decide +kernel
theorem dX12_recordFault_8 : decode cX12_recordFault 8 = .ok (.iconst (-1), 1) := by decide +kernel
theorem dX12_recordFault_9 : decode cX12_recordFault 9 = .ok (.goto 19, 3) := by decide +kernel
theorem dX12_recordFault_12 : decode cX12_recordFault 12 = .ok (.iload_n 3, 1) := by decide +kernel
theorem dX12_recordFault_13 : decode cX12_recordFault 13 = .ok (.iconst 1, 1) := by decide +kernel
theorem dX12_recordFault_14 : decode cX12_recordFault 14 = .ok (.bipush 50, 2) := by decide +kernel
theorem dX12_recordFault_16 : decode cX12_recordFault 16 = .ok (.invokestatic 42, 3) := by decide +kernel
theorem dX12_recordFault_19 : decode cX12_recordFault 19 = .ok (.ifCond .eq 7, 3) := by decide +kernel
theorem dX12_recordFault_22 : decode cX12_recordFault 22 = .ok (.iconst 0, 1) := by decide +kernel
theorem dX12_recordFault_23 : decode cX12_recordFault 23 = .ok (.goto 5, 3) := by decide +kernel
theorem dX12_recordFault_26 : decode cX12_recordFault 26 = .ok (.bipush (-2), 2) := by decide +kernel
theorem dX12_recordFault_28 : decode cX12_recordFault 28 = .ok (.ireturn, 1) := by decide +kernel
theorem dX12_records_0 : decode cX12_records 0 = .ok (.aload_n 0, 1) := by decide +kernel
theorem dX12_records_1 : decode cX12_records 1 = .ok (.getfield 7, 3) := by decide +kernel
theorem dX12_records_4 : decode cX12_records 4 = .ok (.iload_n 1, 1) := by decide +kernel
theorem dX12_records_5 : decode cX12_records 5 = .ok (.iload_n 2, 1) := by decide +kernel
theorem dX12_records_6 : decode cX12_records 6 = .ok (.invokestatic 64, 3) := by decide +kernel
theorem dX12_records_9 : decode cX12_records 9 = .ok (.iload_n 3, 1) := by decide +kernel
theorem dX12_records_10 : decode cX12_records 10 = .ok (.iastore, 1) := by decide +kernel
theorem dX12_records_11 : decode cX12_records 11 = .ok (.iconst 0, 1) := by decide +kernel
theorem dX12_records_12 : decode cX12_records 12 = .ok (.istore 4, 2) := by decide +kernel
theorem dX12_records_14 : decode cX12_records 14 = .ok (.iload 4, 2) := by decide +kernel
theorem dX12_records_16 : decode cX12_records 16 = .ok (.aload_n 0, 1) := by decide +kernel
theorem dX12_records_17 : decode cX12_records 17 = .ok (.getfield 7, 3) := by decide +kernel
theorem dX12_records_20 : decode cX12_records 20 = .ok (.iload_n 1, 1) := by decide +kernel
theorem dX12_records_21 : decode cX12_records 21 = .ok (.iconst 2, 1) := by decide +kernel
theorem dX12_records_22 : decode cX12_records 22 = .ok (.invokestatic 38, 3) := by decide +kernel
theorem dX12_records_25 : decode cX12_records 25 = .ok (.iaload, 1) := by decide +kernel
theorem dX12_records_26 : decode cX12_records 26 = .ok (.if_icmp .ge 36, 3) := by decide +kernel
theorem dX12_records_29 : decode cX12_records 29 = .ok (.aload_n 0, 1) := by decide +kernel
theorem dX12_records_30 : decode cX12_records 30 = .ok (.getfield 7, 3) := by decide +kernel
theorem dX12_records_33 : decode cX12_records 33 = .ok (.iload_n 1, 1) := by decide +kernel
theorem dX12_records_34 : decode cX12_records 34 = .ok (.iload_n 2, 1) := by decide +kernel
theorem dX12_records_35 : decode cX12_records 35 = .ok (.invokestatic 64, 3) := by decide +kernel
theorem dX12_records_38 : decode cX12_records 38 = .ok (.iconst 1, 1) := by decide +kernel
theorem dX12_records_39 : decode cX12_records 39 = .ok (.iadd, 1) := by decide +kernel
theorem dX12_records_40 : decode cX12_records 40 = .ok (.iload 4, 2) := by decide +kernel
theorem dX12_records_42 : decode cX12_records 42 = .ok (.iadd, 1) := by decide +kernel
theorem dX12_records_43 : decode cX12_records 43 = .ok (.aload_n 0, 1) := by decide +kernel
theorem dX12_records_44 : decode cX12_records 44 = .ok (.getfield 7, 3) := by decide +kernel
theorem dX12_records_47 : decode cX12_records 47 = .ok (.iload_n 1, 1) := by decide +kernel
theorem dX12_records_48 : decode cX12_records 48 = .ok (.iload 4, 2) := by decide +kernel
theorem dX12_records_50 : decode cX12_records 50 = .ok (.iconst 2, 1) := by decide +kernel
theorem dX12_records_51 : decode cX12_records 51 = .ok (.invokestatic 54, 3) := by decide +kernel
theorem dX12_records_54 : decode cX12_records 54 = .ok (.iaload, 1) := by decide +kernel
theorem dX12_records_55 : decode cX12_records 55 = .ok (.iastore, 1) := by decide +kernel
theorem dX12_records_56 : decode cX12_records 56 = .ok (.iinc 4 1, 3) := by decide +kernel
theorem dX12_records_59 : decode cX12_records 59 = .ok (.goto (-45), 3) := by decide +kernel
theorem dX12_records_62 : decode cX12_records 62 = .ok (.iconst 0, 1) := by decide +kernel
theorem dX12_records_63 : decode cX12_records 63 = .ok (.istore 4, 2) := by decide +kernel
theorem dX12_records_65 : decode cX12_records 65 = .ok (.iconst 0, 1) := by decide +kernel
theorem dX12_records_66 : decode cX12_records 66 = .ok (.istore 5, 2) := by decide +kernel
theorem dX12_records_68 : decode cX12_records 68 = .ok (.iload 5, 2) := by decide +kernel
theorem dX12_records_70 : decode cX12_records 70 = .ok (.bipush 8, 2) := by decide +kernel
theorem dX12_records_72 : decode cX12_records 72 = .ok (.if_icmp .ge 33, 3) := by decide +kernel
theorem dX12_records_75 : decode cX12_records 75 = .ok (.iload 4, 2) := by decide +kernel
theorem dX12_records_77 : decode cX12_records 77 = .ok (.aload_n 0, 1) := by decide +kernel
theorem dX12_records_78 : decode cX12_records 78 = .ok (.getfield 7, 3) := by decide +kernel
theorem dX12_records_81 : decode cX12_records 81 = .ok (.iload_n 1, 1) := by decide +kernel
theorem dX12_records_82 : decode cX12_records 82 = .ok (.iload 5, 2) := by decide +kernel
theorem dX12_records_84 : decode cX12_records 84 = .ok (.invokestatic 64, 3) := by decide +kernel
theorem dX12_records_87 : decode cX12_records 87 = .ok (.iaload, 1) := by decide +kernel
theorem dX12_records_88 : decode cX12_records 88 = .ok (.ifCond .le 7, 3) := by decide +kernel
theorem dX12_records_91 : decode cX12_records 91 = .ok (.iconst 1, 1) := by decide +kernel
theorem dX12_records_92 : decode cX12_records 92 = .ok (.goto 4, 3) := by decide +kernel
theorem dX12_records_95 : decode cX12_records 95 = .ok (.iconst 0, 1) := by decide +kernel
theorem dX12_records_96 : decode cX12_records 96 = .ok (.iadd, 1) := by decide +kernel
theorem dX12_records_97 : decode cX12_records 97 = .ok (.istore 4, 2) := by decide +kernel
theorem dX12_records_99 : decode cX12_records 99 = .ok (.iinc 5 1, 3) := by decide +kernel
theorem dX12_records_102 : decode cX12_records 102 = .ok (.goto (-34), 3) := by decide +kernel
theorem dX12_records_105 : decode cX12_records 105 = .ok (.iload 4, 2) := by decide +kernel
theorem dX12_records_107 : decode cX12_records 107 = .ok (.ireturn, 1) := by decide +kernel
theorem dX12_record_0 : decode cX12_record 0 = .ok (.aload_n 0, 1) := by decide +kernel
theorem dX12_record_1 : decode cX12_record 1 = .ok (.iload_n 1, 1) := by decide +kernel
theorem dX12_record_2 : decode cX12_record 2 = .ok (.iload_n 2, 1) := by decide +kernel
theorem dX12_record_3 : decode cX12_record 3 = .ok (.iload_n 3, 1) := by decide +kernel
theorem dX12_record_4 : decode cX12_record 4 = .ok (.invokevirtual 96, 3) := by decide +kernel
theorem dX12_record_7 : decode cX12_record 7 = .ok (.istore 4, 2) := by decide +kernel
theorem dX12_record_9 : decode cX12_record 9 = .ok (.iload 4, 2) := by decide +kernel
theorem dX12_record_11 : decode cX12_record 11 = .ok (.ifCond .ge 6, 3) := by decide +kernel
theorem dX12_record_14 : decode cX12_record 14 = .ok (.iload 4, 2) := by decide +kernel
theorem dX12_record_16 : decode cX12_record 16 = .ok (.ireturn, 1) := by decide +kernel
theorem dX12_record_17 : decode cX12_record 17 = .ok (.aload_n 0, 1) := by decide +kernel
theorem dX12_record_18 : decode cX12_record 18 = .ok (.invokevirtual 77, 3) := by decide +kernel
theorem dX12_record_21 : decode cX12_record 21 = .ok (.aload_n 0, 1) := by decide +kernel
theorem dX12_record_22 : decode cX12_record 22 = .ok (.iload_n 1, 1) := by decide +kernel
theorem dX12_record_23 : decode cX12_record 23 = .ok (.iload_n 2, 1) := by decide +kernel
theorem dX12_record_24 : decode cX12_record 24 = .ok (.iload_n 3, 1) := by decide +kernel
theorem dX12_record_25 : decode cX12_record 25 = .ok (.invokevirtual 99, 3) := by decide +kernel
theorem dX12_record_28 : decode cX12_record 28 = .ok (.ireturn, 1) := by decide +kernel
theorem dX12_goFault_0 : decode cX12_goFault 0 = .ok (.iload_n 1, 1) := by decide +kernel
theorem dX12_goFault_1 : decode cX12_goFault 1 = .ok (.iload_n 2, 1) := by decide +kernel
theorem dX12_goFault_2 : decode cX12_goFault 2 = .ok (.invokestatic 93, 3) := by decide +kernel
theorem dX12_goFault_5 : decode cX12_goFault 5 = .ok (.ifCond .ne 7, 3) := by decide +kernel
theorem dX12_goFault_8 : decode cX12_goFault 8 = .ok (.iconst (-1), 1) := by decide +kernel
theorem dX12_goFault_9 : decode cX12_goFault 9 = .ok (.goto 22, 3) := by decide +kernel
theorem dX12_goFault_12 : decode cX12_goFault 12 = .ok (.aload_n 0, 1) := by decide +kernel
theorem dX12_goFault_13 : decode cX12_goFault 13 = .ok (.getfield 7, 3) := by decide +kernel
theorem dX12_goFault_16 : decode cX12_goFault 16 = .ok (.iload_n 1, 1) := by decide +kernel
theorem dX12_goFault_17 : decode cX12_goFault 17 = .ok (.iload_n 2, 1) := by decide +kernel
theorem dX12_goFault_18 : decode cX12_goFault 18 = .ok (.invokestatic 64, 3) := by decide +kernel
theorem dX12_goFault_21 : decode cX12_goFault 21 = .ok (.iaload, 1) := by decide +kernel
theorem dX12_goFault_22 : decode cX12_goFault 22 = .ok (.ifCond .ne 8, 3) := by decide +kernel
theorem dX12_goFault_25 : decode cX12_goFault 25 = .ok (.bipush (-5), 2) := by decide +kernel
theorem dX12_goFault_27 : decode cX12_goFault 27 = .ok (.goto 4, 3) := by decide +kernel
theorem dX12_goFault_30 : decode cX12_goFault 30 = .ok (.iconst 0, 1) := by decide +kernel
theorem dX12_goFault_31 : decode cX12_goFault 31 = .ok (.ireturn, 1) := by decide +kernel
theorem dX12_go_0 : decode cX12_go 0 = .ok (.aload_n 0, 1) := by decide +kernel
theorem dX12_go_1 : decode cX12_go 1 = .ok (.iload_n 1, 1) := by decide +kernel
theorem dX12_go_2 : decode cX12_go 2 = .ok (.iload_n 2, 1) := by decide +kernel
theorem dX12_go_3 : decode cX12_go 3 = .ok (.invokevirtual 102, 3) := by decide +kernel
theorem dX12_go_6 : decode cX12_go 6 = .ok (.istore_n 3, 1) := by decide +kernel
theorem dX12_go_7 : decode cX12_go 7 = .ok (.iload_n 3, 1) := by decide +kernel
theorem dX12_go_8 : decode cX12_go 8 = .ok (.ifCond .ge 5, 3) := by decide +kernel
theorem dX12_go_11 : decode cX12_go 11 = .ok (.iload_n 3, 1) := by decide +kernel
theorem dX12_go_12 : decode cX12_go 12 = .ok (.ireturn, 1) := by decide +kernel
theorem dX12_go_13 : decode cX12_go 13 = .ok (.aload_n 0, 1) := by decide +kernel
theorem dX12_go_14 : decode cX12_go 14 = .ok (.invokevirtual 77, 3) := by decide +kernel
theorem dX12_go_17 : decode cX12_go 17 = .ok (.aload_n 0, 1) := by decide +kernel
theorem dX12_go_18 : decode cX12_go 18 = .ok (.iload_n 1, 1) := by decide +kernel
theorem dX12_go_19 : decode cX12_go 19 = .ok (.iload_n 2, 1) := by decide +kernel
theorem dX12_go_20 : decode cX12_go 20 = .ok (.aload_n 0, 1) := by decide +kernel
theorem dX12_go_21 : decode cX12_go 21 = .ok (.getfield 7, 3) := by decide +kernel
theorem dX12_go_24 : decode cX12_go 24 = .ok (.iload_n 1, 1) := by decide +kernel
theorem dX12_go_25 : decode cX12_go 25 = .ok (.iload_n 2, 1) := by decide +kernel
theorem dX12_go_26 : decode cX12_go 26 = .ok (.invokestatic 64, 3) := by decide +kernel
theorem dX12_go_29 : decode cX12_go 29 = .ok (.iaload, 1) := by decide +kernel
theorem dX12_go_30 : decode cX12_go 30 = .ok (.invokevirtual 105, 3) := by decide +kernel
theorem dX12_go_33 : decode cX12_go 33 = .ok (.aload_n 0, 1) := by decide +kernel
theorem dX12_go_34 : decode cX12_go 34 = .ok (.getfield 7, 3) := by decide +kernel
theorem dX12_go_37 : decode cX12_go 37 = .ok (.iload_n 1, 1) := by decide +kernel
theorem dX12_go_38 : decode cX12_go 38 = .ok (.iload_n 2, 1) := by decide +kernel
theorem dX12_go_39 : decode cX12_go 39 = .ok (.invokestatic 64, 3) := by decide +kernel
theorem dX12_go_42 : decode cX12_go 42 = .ok (.iaload, 1) := by decide +kernel
theorem dX12_go_43 : decode cX12_go 43 = .ok (.ireturn, 1) := by decide +kernel
theorem dX12_resets_0 : decode cX12_resets 0 = .ok (.iconst 0, 1) := by decide +kernel
theorem dX12_resets_1 : decode cX12_resets 1 = .ok (.istore_n 2, 1) := by decide +kernel
theorem dX12_resets_2 : decode cX12_resets 2 = .ok (.iconst 0, 1) := by decide +kernel
theorem dX12_resets_3 : decode cX12_resets 3 = .ok (.istore_n 3, 1) := by decide +kernel
theorem dX12_resets_4 : decode cX12_resets 4 = .ok (.iload_n 3, 1) := by decide +kernel
theorem dX12_resets_5 : decode cX12_resets 5 = .ok (.bipush 15, 2) := by decide +kernel
theorem dX12_resets_7 : decode cX12_resets 7 = .ok (.if_icmp .ge 53, 3) := by decide +kernel
theorem dX12_resets_10 : decode cX12_resets 10 = .ok (.iload_n 2, 1) := by decide +kernel
theorem dX12_resets_11 : decode cX12_resets 11 = .ok (.aload_n 0, 1) := by decide +kernel
theorem dX12_resets_12 : decode cX12_resets 12 = .ok (.getfield 7, 3) := by decide +kernel
theorem dX12_resets_15 : decode cX12_resets 15 = .ok (.iload_n 1, 1) := by decide +kernel
theorem dX12_resets_16 : decode cX12_resets 16 = .ok (.bipush 87, 2) := by decide +kernel
theorem dX12_resets_18 : decode cX12_resets 18 = .ok (.iload_n 3, 1) := by decide +kernel
theorem dX12_resets_19 : decode cX12_resets 19 = .ok (.iadd, 1) := by decide +kernel
theorem dX12_resets_20 : decode cX12_resets 20 = .ok (.invokestatic 38, 3) := by decide +kernel
theorem dX12_resets_23 : decode cX12_resets 23 = .ok (.iaload, 1) := by decide +kernel
theorem dX12_resets_24 : decode cX12_resets 24 = .ok (.iadd, 1) := by decide +kernel
theorem dX12_resets_25 : decode cX12_resets 25 = .ok (.istore_n 2, 1) := by decide +kernel
theorem dX12_resets_26 : decode cX12_resets 26 = .ok (.aload_n 0, 1) := by decide +kernel
theorem dX12_resets_27 : decode cX12_resets 27 = .ok (.getfield 7, 3) := by decide +kernel
theorem dX12_resets_30 : decode cX12_resets 30 = .ok (.iload_n 1, 1) := by decide +kernel
theorem dX12_resets_31 : decode cX12_resets 31 = .ok (.bipush 87, 2) := by decide +kernel
theorem dX12_resets_33 : decode cX12_resets 33 = .ok (.iload_n 3, 1) := by decide +kernel
theorem dX12_resets_34 : decode cX12_resets 34 = .ok (.iadd, 1) := by decide +kernel
theorem dX12_resets_35 : decode cX12_resets 35 = .ok (.invokestatic 38, 3) := by decide +kernel
theorem dX12_resets_38 : decode cX12_resets 38 = .ok (.iconst 0, 1) := by decide +kernel
theorem dX12_resets_39 : decode cX12_resets 39 = .ok (.iastore, 1) := by decide +kernel
theorem dX12_resets_40 : decode cX12_resets 40 = .ok (.aload_n 0, 1) := by decide +kernel
theorem dX12_resets_41 : decode cX12_resets 41 = .ok (.getfield 7, 3) := by decide +kernel
theorem dX12_resets_44 : decode cX12_resets 44 = .ok (.iload_n 1, 1) := by decide +kernel
theorem dX12_resets_45 : decode cX12_resets 45 = .ok (.bipush 102, 2) := by decide +kernel
theorem dX12_resets_47 : decode cX12_resets 47 = .ok (.iload_n 3, 1) := by decide +kernel
theorem dX12_resets_48 : decode cX12_resets 48 = .ok (.iadd, 1) := by decide +kernel
theorem dX12_resets_49 : decode cX12_resets 49 = .ok (.invokestatic 38, 3) := by decide +kernel
theorem dX12_resets_52 : decode cX12_resets 52 = .ok (.iconst 0, 1) := by decide +kernel
theorem dX12_resets_53 : decode cX12_resets 53 = .ok (.iastore, 1) := by decide +kernel
theorem dX12_resets_54 : decode cX12_resets 54 = .ok (.iinc 3 1, 3) := by decide +kernel
theorem dX12_resets_57 : decode cX12_resets 57 = .ok (.goto (-53), 3) := by decide +kernel
theorem dX12_resets_60 : decode cX12_resets 60 = .ok (.iload_n 2, 1) := by decide +kernel
theorem dX12_resets_61 : decode cX12_resets 61 = .ok (.ireturn, 1) := by decide +kernel
theorem dX12_reset_0 : decode cX12_reset 0 = .ok (.iload_n 1, 1) := by decide +kernel
theorem dX12_reset_1 : decode cX12_reset 1 = .ok (.invokestatic 46, 3) := by decide +kernel
theorem dX12_reset_4 : decode cX12_reset 4 = .ok (.ifCond .ne 5, 3) := by decide +kernel
theorem dX12_reset_7 : decode cX12_reset 7 = .ok (.iconst (-1), 1) := by decide +kernel
theorem dX12_reset_8 : decode cX12_reset 8 = .ok (.ireturn, 1) := by decide +kernel
theorem dX12_reset_9 : decode cX12_reset 9 = .ok (.aload_n 0, 1) := by decide +kernel
theorem dX12_reset_10 : decode cX12_reset 10 = .ok (.invokevirtual 77, 3) := by decide +kernel
theorem dX12_reset_13 : decode cX12_reset 13 = .ok (.aload_n 0, 1) := by decide +kernel
theorem dX12_reset_14 : decode cX12_reset 14 = .ok (.iload_n 1, 1) := by decide +kernel
theorem dX12_reset_15 : decode cX12_reset 15 = .ok (.invokevirtual 109, 3) := by decide +kernel
theorem dX12_reset_18 : decode cX12_reset 18 = .ok (.ireturn, 1) := by decide +kernel
theorem dX12_tick_0 : decode cX12_tick 0 = .ok (.iload_n 1, 1) := by decide +kernel
theorem dX12_tick_1 : decode cX12_tick 1 = .ok (.iconst 1, 1) := by decide +kernel
theorem dX12_tick_2 : decode cX12_tick 2 = .ok (.bipush 100, 2) := by decide +kernel
theorem dX12_tick_4 : decode cX12_tick 4 = .ok (.invokestatic 42, 3) := by decide +kernel
theorem dX12_tick_7 : decode cX12_tick 7 = .ok (.ifCond .ne 6, 3) := by decide +kernel
theorem dX12_tick_10 : decode cX12_tick 10 = .ok (.bipush (-2), 2) := by decide +kernel
theorem dX12_tick_12 : decode cX12_tick 12 = .ok (.ireturn, 1) := by decide +kernel
theorem dX12_tick_13 : decode cX12_tick 13 = .ok (.aload_n 0, 1) := by decide +kernel
theorem dX12_tick_14 : decode cX12_tick 14 = .ok (.invokevirtual 77, 3) := by decide +kernel
theorem dX12_tick_17 : decode cX12_tick 17 = .ok (.iconst 0, 1) := by decide +kernel
theorem dX12_tick_18 : decode cX12_tick 18 = .ok (.istore_n 2, 1) := by decide +kernel
theorem dX12_tick_19 : decode cX12_tick 19 = .ok (.iconst 0, 1) := by decide +kernel
theorem dX12_tick_20 : decode cX12_tick 20 = .ok (.istore_n 3, 1) := by decide +kernel
theorem dX12_tick_21 : decode cX12_tick 21 = .ok (.iload_n 3, 1) := by decide +kernel
theorem dX12_tick_22 : decode cX12_tick 22 = .ok (.iload_n 1, 1) := by decide +kernel
theorem dX12_tick_23 : decode cX12_tick 23 = .ok (.if_icmp .ge 33, 3) := by decide +kernel
theorem dX12_tick_26 : decode cX12_tick 26 = .ok (.iconst 0, 1) := by decide +kernel
theorem dX12_tick_27 : decode cX12_tick 27 = .ok (.istore 4, 2) := by decide +kernel
theorem dX12_tick_29 : decode cX12_tick 29 = .ok (.iload 4, 2) := by decide +kernel
theorem dX12_tick_31 : decode cX12_tick 31 = .ok (.iconst 3, 1) := by decide +kernel
theorem dX12_tick_32 : decode cX12_tick 32 = .ok (.if_icmp .ge 18, 3) := by decide +kernel
theorem dX12_tick_35 : decode cX12_tick 35 = .ok (.iload_n 2, 1) := by decide +kernel
theorem dX12_tick_36 : decode cX12_tick 36 = .ok (.aload_n 0, 1) := by decide +kernel
theorem dX12_tick_37 : decode cX12_tick 37 = .ok (.iload 4, 2) := by decide +kernel
theorem dX12_tick_39 : decode cX12_tick 39 = .ok (.invokevirtual 113, 3) := by decide +kernel
theorem dX12_tick_42 : decode cX12_tick 42 = .ok (.iadd, 1) := by decide +kernel
theorem dX12_tick_43 : decode cX12_tick 43 = .ok (.istore_n 2, 1) := by decide +kernel
theorem dX12_tick_44 : decode cX12_tick 44 = .ok (.iinc 4 1, 3) := by decide +kernel
theorem dX12_tick_47 : decode cX12_tick 47 = .ok (.goto (-18), 3) := by decide +kernel
theorem dX12_tick_50 : decode cX12_tick 50 = .ok (.iinc 3 1, 3) := by decide +kernel
theorem dX12_tick_53 : decode cX12_tick 53 = .ok (.goto (-32), 3) := by decide +kernel
theorem dX12_tick_56 : decode cX12_tick 56 = .ok (.iload_n 2, 1) := by decide +kernel
theorem dX12_tick_57 : decode cX12_tick 57 = .ok (.ireturn, 1) := by decide +kernel
theorem dX12_put_0 : decode cX12_put 0 = .ok (.iconst 0, 1) := by decide +kernel
theorem dX12_put_1 : decode cX12_put 1 = .ok (.istore_n 3, 1) := by decide +kernel
theorem dX12_put_2 : decode cX12_put 2 = .ok (.iconst 0, 1) := by decide +kernel
theorem dX12_put_3 : decode cX12_put 3 = .ok (.istore 4, 2) := by decide +kernel
theorem dX12_put_5 : decode cX12_put 5 = .ok (.iconst 0, 1) := by decide +kernel
theorem dX12_put_6 : decode cX12_put 6 = .ok (.istore 5, 2) := by decide +kernel
theorem dX12_put_8 : decode cX12_put 8 = .ok (.iload 5, 2) := by decide +kernel
theorem dX12_put_10 : decode cX12_put 10 = .ok (.bipush 8, 2) := by decide +kernel
theorem dX12_put_12 : decode cX12_put 12 = .ok (.if_icmp .ge 89, 3) := by decide +kernel
theorem dX12_put_15 : decode cX12_put 15 = .ok (.lload_n 1, 1) := by decide +kernel
theorem dX12_put_16 : decode cX12_put 16 = .ok (.bipush 8, 2) := by decide +kernel
theorem dX12_put_18 : decode cX12_put 18 = .ok (.iload 5, 2) := by decide +kernel
theorem dX12_put_20 : decode cX12_put 20 = .ok (.imul, 1) := by decide +kernel
theorem dX12_put_21 : decode cX12_put 21 = .ok (.lushr, 1) := by decide +kernel
theorem dX12_put_22 : decode cX12_put 22 = .ok (.ldc2_w 116, 3) := by decide +kernel
theorem dX12_put_25 : decode cX12_put 25 = .ok (.land, 1) := by decide +kernel
theorem dX12_put_26 : decode cX12_put 26 = .ok (.l2i, 1) := by decide +kernel
theorem dX12_put_27 : decode cX12_put 27 = .ok (.istore 6, 2) := by decide +kernel
theorem dX12_put_29 : decode cX12_put 29 = .ok (.iload 5, 2) := by decide +kernel
theorem dX12_put_31 : decode cX12_put 31 = .ok (.ifCond .le 19, 3) := by decide +kernel
theorem dX12_put_34 : decode cX12_put 34 = .ok (.lload_n 1, 1) := by decide +kernel
theorem dX12_put_35 : decode cX12_put 35 = .ok (.bipush 8, 2) := by decide +kernel
theorem dX12_put_37 : decode cX12_put 37 = .ok (.iload 5, 2) := by decide +kernel
theorem dX12_put_39 : decode cX12_put 39 = .ok (.imul, 1) := by decide +kernel
theorem dX12_put_40 : decode cX12_put 40 = .ok (.lushr, 1) := by decide +kernel
theorem dX12_put_41 : decode cX12_put 41 = .ok (.lconst 0, 1) := by decide +kernel
theorem dX12_put_42 : decode cX12_put 42 = .ok (.lcmp, 1) := by decide +kernel
theorem dX12_put_43 : decode cX12_put 43 = .ok (.ifCond .ne 7, 3) := by decide +kernel
theorem dX12_put_46 : decode cX12_put 46 = .ok (.iconst 1, 1) := by decide +kernel
theorem dX12_put_47 : decode cX12_put 47 = .ok (.goto 4, 3) := by decide +kernel
theorem dX12_put_50 : decode cX12_put 50 = .ok (.iconst 0, 1) := by decide +kernel
theorem dX12_put_51 : decode cX12_put 51 = .ok (.istore 7, 2) := by decide +kernel
theorem dX12_put_53 : decode cX12_put 53 = .ok (.iload 4, 2) := by decide +kernel
theorem dX12_put_55 : decode cX12_put 55 = .ok (.ifCond .ne 20, 3) := by decide +kernel
theorem dX12_put_58 : decode cX12_put 58 = .ok (.iload 7, 2) := by decide +kernel
theorem dX12_put_60 : decode cX12_put 60 = .ok (.ifCond .ne 19, 3) := by decide +kernel
theorem dX12_put_63 : decode cX12_put 63 = .ok (.iload 6, 2) := by decide +kernel
theorem dX12_put_65 : decode cX12_put 65 = .ok (.bipush 33, 2) := by decide +kernel
theorem dX12_put_67 : decode cX12_put 67 = .ok (.bipush 126, 2) := by decide +kernel
theorem dX12_put_69 : decode cX12_put 69 = .ok (.invokestatic 42, 3) := by decide +kernel
theorem dX12_put_72 : decode cX12_put 72 = .ok (.ifCond .ne 7, 3) := by decide +kernel
theorem dX12_put_75 : decode cX12_put 75 = .ok (.iconst 1, 1) := by decide +kernel
theorem dX12_put_76 : decode cX12_put 76 = .ok (.goto 4, 3) := by decide +kernel
theorem dX12_put_79 : decode cX12_put 79 = .ok (.iconst 0, 1) := by decide +kernel
theorem dX12_put_80 : decode cX12_put 80 = .ok (.istore 4, 2) := by decide +kernel
theorem dX12_put_82 : decode cX12_put 82 = .ok (.iload_n 3, 1) := by decide +kernel
theorem dX12_put_83 : decode cX12_put 83 = .ok (.iload 7, 2) := by decide +kernel
theorem dX12_put_85 : decode cX12_put 85 = .ok (.ifCond .eq 7, 3) := by decide +kernel
theorem dX12_put_88 : decode cX12_put 88 = .ok (.iconst 0, 1) := by decide +kernel
theorem dX12_put_89 : decode cX12_put 89 = .ok (.goto 4, 3) := by decide +kernel
theorem dX12_put_92 : decode cX12_put 92 = .ok (.iconst 1, 1) := by decide +kernel
theorem dX12_put_93 : decode cX12_put 93 = .ok (.iadd, 1) := by decide +kernel
theorem dX12_put_94 : decode cX12_put 94 = .ok (.istore_n 3, 1) := by decide +kernel
theorem dX12_put_95 : decode cX12_put 95 = .ok (.iinc 5 1, 3) := by decide +kernel
theorem dX12_put_98 : decode cX12_put 98 = .ok (.goto (-90), 3) := by decide +kernel
theorem dX12_put_101 : decode cX12_put 101 = .ok (.iload 4, 2) := by decide +kernel
theorem dX12_put_103 : decode cX12_put 103 = .ok (.ifCond .eq 6, 3) := by decide +kernel
theorem dX12_put_106 : decode cX12_put 106 = .ok (.bipush (-2), 2) := by decide +kernel
theorem dX12_put_108 : decode cX12_put 108 = .ok (.ireturn, 1) := by decide +kernel
theorem dX12_put_109 : decode cX12_put 109 = .ok (.aload_n 0, 1) := by decide +kernel
theorem dX12_put_110 : decode cX12_put 110 = .ok (.getfield 118, 3) := by decide +kernel
theorem dX12_put_113 : decode cX12_put 113 = .ok (.iload_n 3, 1) := by decide +kernel
theorem dX12_put_114 : decode cX12_put 114 = .ok (.iadd, 1) := by decide +kernel
theorem dX12_put_115 : decode cX12_put 115 = .ok (.bipush 60, 2) := by decide +kernel
theorem dX12_put_117 : decode cX12_put 117 = .ok (.if_icmp .le 6, 3) := by decide +kernel
theorem dX12_put_120 : decode cX12_put 120 = .ok (.bipush (-4), 2) := by decide +kernel
theorem dX12_put_122 : decode cX12_put 122 = .ok (.ireturn, 1) := by decide +kernel
theorem dX12_put_123 : decode cX12_put 123 = .ok (.iconst 0, 1) := by decide +kernel
theorem dX12_put_124 : decode cX12_put 124 = .ok (.istore 5, 2) := by decide +kernel
theorem dX12_put_126 : decode cX12_put 126 = .ok (.iload 5, 2) := by decide +kernel
theorem dX12_put_128 : decode cX12_put 128 = .ok (.iload_n 3, 1) := by decide +kernel
theorem dX12_put_129 : decode cX12_put 129 = .ok (.if_icmp .ge 37, 3) := by decide +kernel
theorem dX12_put_132 : decode cX12_put 132 = .ok (.aload_n 0, 1) := by decide +kernel
theorem dX12_put_133 : decode cX12_put 133 = .ok (.getfield 26, 3) := by decide +kernel
theorem dX12_put_136 : decode cX12_put 136 = .ok (.aload_n 0, 1) := by decide +kernel
theorem dX12_put_137 : decode cX12_put 137 = .ok (.getfield 118, 3) := by decide +kernel
theorem dX12_put_140 : decode cX12_put 140 = .ok (.iload_n 3, 1) := by decide +kernel
theorem dX12_put_141 : decode cX12_put 141 = .ok (.iadd, 1) := by decide +kernel
theorem dX12_put_142 : decode cX12_put 142 = .ok (.iconst 1, 1) := by decide +kernel
theorem dX12_put_143 : decode cX12_put 143 = .ok (.isub, 1) := by decide +kernel
theorem dX12_put_144 : decode cX12_put 144 = .ok (.iload 5, 2) := by decide +kernel
theorem dX12_put_146 : decode cX12_put 146 = .ok (.isub, 1) := by decide +kernel
theorem dX12_put_147 : decode cX12_put 147 = .ok (.lload_n 1, 1) := by decide +kernel
theorem dX12_put_148 : decode cX12_put 148 = .ok (.bipush 8, 2) := by decide +kernel
theorem dX12_put_150 : decode cX12_put 150 = .ok (.iload 5, 2) := by decide +kernel
theorem dX12_put_152 : decode cX12_put 152 = .ok (.imul, 1) := by decide +kernel
theorem dX12_put_153 : decode cX12_put 153 = .ok (.lushr, 1) := by decide +kernel
theorem dX12_put_154 : decode cX12_put 154 = .ok (.ldc2_w 116, 3) := by decide +kernel
theorem dX12_put_157 : decode cX12_put 157 = .ok (.land, 1) := by decide +kernel
theorem dX12_put_158 : decode cX12_put 158 = .ok (.l2i, 1) := by decide +kernel
theorem dX12_put_159 : decode cX12_put 159 = .ok (.iastore, 1) := by decide +kernel
theorem dX12_put_160 : decode cX12_put 160 = .ok (.iinc 5 1, 3) := by decide +kernel
theorem dX12_put_163 : decode cX12_put 163 = .ok (.goto (-37), 3) := by decide +kernel
theorem dX12_put_166 : decode cX12_put 166 = .ok (.aload_n 0, 1) := by decide +kernel
theorem dX12_put_167 : decode cX12_put 167 = .ok (.dup, 1) := by decide +kernel
theorem dX12_put_168 : decode cX12_put 168 = .ok (.getfield 118, 3) := by decide +kernel
theorem dX12_put_171 : decode cX12_put 171 = .ok (.iload_n 3, 1) := by decide +kernel
theorem dX12_put_172 : decode cX12_put 172 = .ok (.iadd, 1) := by decide +kernel
theorem dX12_put_173 : decode cX12_put 173 = .ok (.putfield 118, 3) := by decide +kernel
theorem dX12_put_176 : decode cX12_put 176 = .ok (.aload_n 0, 1) := by decide +kernel
theorem dX12_put_177 : decode cX12_put 177 = .ok (.getfield 118, 3) := by decide +kernel
theorem dX12_put_180 : decode cX12_put 180 = .ok (.ireturn, 1) := by decide +kernel
theorem dX12_wipe_0 : decode cX12_wipe 0 = .ok (.aload_n 0, 1) := by decide +kernel
theorem dX12_wipe_1 : decode cX12_wipe 1 = .ok (.getfield 118, 3) := by decide +kernel
theorem dX12_wipe_4 : decode cX12_wipe 4 = .ok (.istore_n 1, 1) := by decide +kernel
theorem dX12_wipe_5 : decode cX12_wipe 5 = .ok (.aload_n 0, 1) := by decide +kernel
theorem dX12_wipe_6 : decode cX12_wipe 6 = .ok (.iconst 0, 1) := by decide +kernel
theorem dX12_wipe_7 : decode cX12_wipe 7 = .ok (.putfield 118, 3) := by decide +kernel
theorem dX12_wipe_10 : decode cX12_wipe 10 = .ok (.iload_n 1, 1) := by decide +kernel
theorem dX12_wipe_11 : decode cX12_wipe 11 = .ok (.ireturn, 1) := by decide +kernel
theorem dX12_sign_0 : decode cX12_sign 0 = .ok (.aload_n 0, 1) := by decide +kernel
theorem dX12_sign_1 : decode cX12_sign 1 = .ok (.getfield 121, 3) := by decide +kernel
theorem dX12_sign_4 : decode cX12_sign 4 = .ok (.aload_n 0, 1) := by decide +kernel
theorem dX12_sign_5 : decode cX12_sign 5 = .ok (.getfield 118, 3) := by decide +kernel
theorem dX12_sign_8 : decode cX12_sign 8 = .ok (.if_icmp .ge 15, 3) := by decide +kernel
theorem dX12_sign_11 : decode cX12_sign 11 = .ok (.aload_n 0, 1) := by decide +kernel
theorem dX12_sign_12 : decode cX12_sign 12 = .ok (.getfield 26, 3) := by decide +kernel
theorem dX12_sign_15 : decode cX12_sign 15 = .ok (.aload_n 0, 1) := by decide +kernel
theorem dX12_sign_16 : decode cX12_sign 16 = .ok (.getfield 121, 3) := by decide +kernel
theorem dX12_sign_19 : decode cX12_sign 19 = .ok (.iaload, 1) := by decide +kernel
theorem dX12_sign_20 : decode cX12_sign 20 = .ok (.goto 4, 3) := by decide +kernel
theorem dX12_sign_23 : decode cX12_sign 23 = .ok (.iconst 0, 1) := by decide +kernel
theorem dX12_sign_24 : decode cX12_sign 24 = .ok (.istore_n 3, 1) := by decide +kernel
theorem dX12_sign_25 : decode cX12_sign 25 = .ok (.aload_n 0, 1) := by decide +kernel
theorem dX12_sign_26 : decode cX12_sign 26 = .ok (.aload_n 0, 1) := by decide +kernel
theorem dX12_sign_27 : decode cX12_sign 27 = .ok (.getfield 124, 3) := by decide +kernel
theorem dX12_sign_30 : decode cX12_sign 30 = .ok (.ifCond .ne 12, 3) := by decide +kernel
theorem dX12_sign_33 : decode cX12_sign 33 = .ok (.iload_n 3, 1) := by decide +kernel
theorem dX12_sign_34 : decode cX12_sign 34 = .ok (.iload_n 1, 1) := by decide +kernel
theorem dX12_sign_35 : decode cX12_sign 35 = .ok (.iload_n 2, 1) := by decide +kernel
theorem dX12_sign_36 : decode cX12_sign 36 = .ok (.invokestatic 42, 3) := by decide +kernel
theorem dX12_sign_39 : decode cX12_sign 39 = .ok (.ifCond .ne 7, 3) := by decide +kernel
theorem dX12_sign_42 : decode cX12_sign 42 = .ok (.iconst 1, 1) := by decide +kernel
theorem dX12_sign_43 : decode cX12_sign 43 = .ok (.goto 4, 3) := by decide +kernel
theorem dX12_sign_46 : decode cX12_sign 46 = .ok (.iconst 0, 1) := by decide +kernel
theorem dX12_sign_47 : decode cX12_sign 47 = .ok (.putfield 124, 3) := by decide +kernel
theorem dX12_sign_50 : decode cX12_sign 50 = .ok (.aload_n 0, 1) := by decide +kernel
theorem dX12_sign_51 : decode cX12_sign 51 = .ok (.dup, 1) := by decide +kernel
theorem dX12_sign_52 : decode cX12_sign 52 = .ok (.getfield 121, 3) := by decide +kernel
theorem dX12_sign_55 : decode cX12_sign 55 = .ok (.aload_n 0, 1) := by decide +kernel
theorem dX12_sign_56 : decode cX12_sign 56 = .ok (.getfield 124, 3) := by decide +kernel
theorem dX12_sign_59 : decode cX12_sign 59 = .ok (.ifCond .eq 7, 3) := by decide +kernel
theorem dX12_sign_62 : decode cX12_sign 62 = .ok (.iconst 0, 1) := by decide +kernel
theorem dX12_sign_63 : decode cX12_sign 63 = .ok (.goto 4, 3) := by decide +kernel
theorem dX12_sign_66 : decode cX12_sign 66 = .ok (.iconst 1, 1) := by decide +kernel
theorem dX12_sign_67 : decode cX12_sign 67 = .ok (.iadd, 1) := by decide +kernel
theorem dX12_sign_68 : decode cX12_sign 68 = .ok (.putfield 121, 3) := by decide +kernel
theorem dX12_sign_71 : decode cX12_sign 71 = .ok (.iload_n 3, 1) := by decide +kernel
theorem dX12_sign_72 : decode cX12_sign 72 = .ok (.ireturn, 1) := by decide +kernel
theorem dX12_isNext_0 : decode cX12_isNext 0 = .ok (.aload_n 0, 1) := by decide +kernel
theorem dX12_isNext_1 : decode cX12_isNext 1 = .ok (.getfield 124, 3) := by decide +kernel
theorem dX12_isNext_4 : decode cX12_isNext 4 = .ok (.ifCond .ne 35, 3) := by decide +kernel
theorem dX12_isNext_7 : decode cX12_isNext 7 = .ok (.aload_n 0, 1) := by decide +kernel
theorem dX12_isNext_8 : decode cX12_isNext 8 = .ok (.getfield 121, 3) := by decide +kernel
theorem dX12_isNext_11 : decode cX12_isNext 11 = .ok (.aload_n 0, 1) := by decide +kernel
theorem dX12_isNext_12 : decode cX12_isNext 12 = .ok (.getfield 118, 3) := by decide +kernel
theorem dX12_isNext_15 : decode cX12_isNext 15 = .ok (.if_icmp .ge 24, 3) := by decide +kernel
theorem dX12_isNext_18 : decode cX12_isNext 18 = .ok (.aload_n 0, 1) := by decide +kernel
theorem dX12_isNext_19 : decode cX12_isNext 19 = .ok (.getfield 26, 3) := by decide +kernel
theorem dX12_isNext_22 : decode cX12_isNext 22 = .ok (.aload_n 0, 1) := by decide +kernel
theorem dX12_isNext_23 : decode cX12_isNext 23 = .ok (.getfield 121, 3) := by decide +kernel
theorem dX12_isNext_26 : decode cX12_isNext 26 = .ok (.iaload, 1) := by decide +kernel
theorem dX12_isNext_27 : decode cX12_isNext 27 = .ok (.iload_n 1, 1) := by decide +kernel
theorem dX12_isNext_28 : decode cX12_isNext 28 = .ok (.iload_n 2, 1) := by decide +kernel
theorem dX12_isNext_29 : decode cX12_isNext 29 = .ok (.invokestatic 42, 3) := by decide +kernel
theorem dX12_isNext_32 : decode cX12_isNext 32 = .ok (.ifCond .eq 7, 3) := by decide +kernel
theorem dX12_isNext_35 : decode cX12_isNext 35 = .ok (.iconst 1, 1) := by decide +kernel
theorem dX12_isNext_36 : decode cX12_isNext 36 = .ok (.goto 4, 3) := by decide +kernel
theorem dX12_isNext_39 : decode cX12_isNext 39 = .ok (.iconst 0, 1) := by decide +kernel
theorem dX12_isNext_40 : decode cX12_isNext 40 = .ok (.ireturn, 1) := by decide +kernel
theorem dX12_number_0 : decode cX12_number 0 = .ok (.aload_n 0, 1) := by decide +kernel
theorem dX12_number_1 : decode cX12_number 1 = .ok (.bipush 48, 2) := by decide +kernel
theorem dX12_number_3 : decode cX12_number 3 = .ok (.iload_n 1, 1) := by decide +kernel
theorem dX12_number_4 : decode cX12_number 4 = .ok (.iadd, 1) := by decide +kernel
theorem dX12_number_5 : decode cX12_number 5 = .ok (.bipush 57, 2) := by decide +kernel
theorem dX12_number_7 : decode cX12_number 7 = .ok (.invokevirtual 128, 3) := by decide +kernel
theorem dX12_number_10 : decode cX12_number 10 = .ok (.bipush 48, 2) := by decide +kernel
theorem dX12_number_12 : decode cX12_number 12 = .ok (.isub, 1) := by decide +kernel
theorem dX12_number_13 : decode cX12_number 13 = .ok (.istore_n 3, 1) := by decide +kernel
theorem dX12_number_14 : decode cX12_number 14 = .ok (.iload_n 3, 1) := by decide +kernel
theorem dX12_number_15 : decode cX12_number 15 = .ok (.ifCond .le 55, 3) := by decide +kernel
theorem dX12_number_18 : decode cX12_number 18 = .ok (.aload_n 0, 1) := by decide +kernel
theorem dX12_number_19 : decode cX12_number 19 = .ok (.bipush 48, 2) := by decide +kernel
theorem dX12_number_21 : decode cX12_number 21 = .ok (.bipush 57, 2) := by decide +kernel
theorem dX12_number_23 : decode cX12_number 23 = .ok (.invokevirtual 131, 3) := by decide +kernel
theorem dX12_number_26 : decode cX12_number 26 = .ok (.ifCond .eq 44, 3) := by decide +kernel
theorem dX12_number_29 : decode cX12_number 29 = .ok (.bipush 10, 2) := by decide +kernel
theorem dX12_number_31 : decode cX12_number 31 = .ok (.iload_n 3, 1) := by decide +kernel
theorem dX12_number_32 : decode cX12_number 32 = .ok (.imul, 1) := by decide +kernel
theorem dX12_number_33 : decode cX12_number 33 = .ok (.aload_n 0, 1) := by decide +kernel
theorem dX12_number_34 : decode cX12_number 34 = .ok (.getfield 26, 3) := by decide +kernel
theorem dX12_number_37 : decode cX12_number 37 = .ok (.aload_n 0, 1) := by decide +kernel
theorem dX12_number_38 : decode cX12_number 38 = .ok (.getfield 121, 3) := by decide +kernel
theorem dX12_number_41 : decode cX12_number 41 = .ok (.iaload, 1) := by decide +kernel
theorem dX12_number_42 : decode cX12_number 42 = .ok (.iadd, 1) := by decide +kernel
theorem dX12_number_43 : decode cX12_number 43 = .ok (.bipush 48, 2) := by decide +kernel
theorem dX12_number_45 : decode cX12_number 45 = .ok (.isub, 1) := by decide +kernel
theorem dX12_number_46 : decode cX12_number 46 = .ok (.iload_n 2, 1) := by decide +kernel
theorem dX12_number_47 : decode cX12_number 47 = .ok (.if_icmp .gt 23, 3) := by decide +kernel
theorem dX12_number_50 : decode cX12_number 50 = .ok (.bipush 10, 2) := by decide +kernel
theorem dX12_number_52 : decode cX12_number 52 = .ok (.iload_n 3, 1) := by decide +kernel
theorem dX12_number_53 : decode cX12_number 53 = .ok (.imul, 1) := by decide +kernel
theorem dX12_number_54 : decode cX12_number 54 = .ok (.aload_n 0, 1) := by decide +kernel
theorem dX12_number_55 : decode cX12_number 55 = .ok (.bipush 48, 2) := by decide +kernel
theorem dX12_number_57 : decode cX12_number 57 = .ok (.bipush 57, 2) := by decide +kernel
theorem dX12_number_59 : decode cX12_number 59 = .ok (.invokevirtual 128, 3) := by decide +kernel
theorem dX12_number_62 : decode cX12_number 62 = .ok (.iadd, 1) := by decide +kernel
theorem dX12_number_63 : decode cX12_number 63 = .ok (.bipush 48, 2) := by decide +kernel
theorem dX12_number_65 : decode cX12_number 65 = .ok (.isub, 1) := by decide +kernel
theorem dX12_number_66 : decode cX12_number 66 = .ok (.istore_n 3, 1) := by decide +kernel
theorem dX12_number_67 : decode cX12_number 67 = .ok (.goto (-53), 3) := by decide +kernel
theorem dX12_number_70 : decode cX12_number 70 = .ok (.iload_n 3, 1) := by decide +kernel
theorem dX12_number_71 : decode cX12_number 71 = .ok (.ireturn, 1) := by decide +kernel
theorem dX12_readLamps_0 : decode cX12_readLamps 0 = .ok (.aload_n 0, 1) := by decide +kernel
theorem dX12_readLamps_1 : decode cX12_readLamps 1 = .ok (.iconst 0, 1) := by decide +kernel
theorem dX12_readLamps_2 : decode cX12_readLamps 2 = .ok (.putfield 134, 3) := by decide +kernel
theorem dX12_readLamps_5 : decode cX12_readLamps 5 = .ok (.iconst 1, 1) := by decide +kernel
theorem dX12_readLamps_6 : decode cX12_readLamps 6 = .ok (.istore_n 1, 1) := by decide +kernel
theorem dX12_readLamps_7 : decode cX12_readLamps 7 = .ok (.iload_n 1, 1) := by decide +kernel
theorem dX12_readLamps_8 : decode cX12_readLamps 8 = .ok (.ifCond .eq 122, 3) := by decide +kernel
theorem dX12_readLamps_11 : decode cX12_readLamps 11 = .ok (.aload_n 0, 1) := by decide +kernel
theorem dX12_readLamps_12 : decode cX12_readLamps 12 = .ok (.iconst 0, 1) := by decide +kernel
theorem dX12_readLamps_13 : decode cX12_readLamps 13 = .ok (.bipush 11, 2) := by decide +kernel
theorem dX12_readLamps_15 : decode cX12_readLamps 15 = .ok (.invokevirtual 137, 3) := by decide +kernel
theorem dX12_readLamps_18 : decode cX12_readLamps 18 = .ok (.istore_n 2, 1) := by decide +kernel
theorem dX12_readLamps_19 : decode cX12_readLamps 19 = .ok (.aload_n 0, 1) := by decide +kernel
theorem dX12_readLamps_20 : decode cX12_readLamps 20 = .ok (.bipush 62, 2) := by decide +kernel
theorem dX12_readLamps_22 : decode cX12_readLamps 22 = .ok (.bipush 62, 2) := by decide +kernel
theorem dX12_readLamps_24 : decode cX12_readLamps 24 = .ok (.invokevirtual 131, 3) := by decide +kernel
theorem dX12_readLamps_27 : decode cX12_readLamps 27 = .ok (.istore_n 3, 1) := by decide +kernel
theorem dX12_readLamps_28 : decode cX12_readLamps 28 = .ok (.iload_n 3, 1) := by decide +kernel
theorem dX12_readLamps_29 : decode cX12_readLamps 29 = .ok (.ifCond .eq 14, 3) := by decide +kernel
theorem dX12_readLamps_32 : decode cX12_readLamps 32 = .ok (.aload_n 0, 1) := by decide +kernel
theorem dX12_readLamps_33 : decode cX12_readLamps 33 = .ok (.bipush 62, 2) := by decide +kernel
theorem dX12_readLamps_35 : decode cX12_readLamps 35 = .ok (.bipush 62, 2) := by decide +kernel
theorem dX12_readLamps_37 : decode cX12_readLamps 37 = .ok (.invokevirtual 128, 3) := by decide +kernel
theorem dX12_readLamps_40 : decode cX12_readLamps 40 = .ok (.goto 4, 3) := by decide +kernel
theorem dX12_readLamps_43 : decode cX12_readLamps 43 = .ok (.iconst 0, 1) := by decide +kernel
theorem dX12_readLamps_44 : decode cX12_readLamps 44 = .ok (.istore 4, 2) := by decide +kernel
theorem dX12_readLamps_46 : decode cX12_readLamps 46 = .ok (.iload_n 3, 1) := by decide +kernel
theorem dX12_readLamps_47 : decode cX12_readLamps 47 = .ok (.ifCond .eq 13, 3) := by decide +kernel
theorem dX12_readLamps_50 : decode cX12_readLamps 50 = .ok (.aload_n 0, 1) := by decide +kernel
theorem dX12_readLamps_51 : decode cX12_readLamps 51 = .ok (.iconst 0, 1) := by decide +kernel
theorem dX12_readLamps_52 : decode cX12_readLamps 52 = .ok (.bipush 11, 2) := by decide +kernel
theorem dX12_readLamps_54 : decode cX12_readLamps 54 = .ok (.invokevirtual 137, 3) := by decide +kernel
theorem dX12_readLamps_57 : decode cX12_readLamps 57 = .ok (.goto 4, 3) := by decide +kernel
theorem dX12_readLamps_60 : decode cX12_readLamps 60 = .ok (.iload_n 2, 1) := by decide +kernel
theorem dX12_readLamps_61 : decode cX12_readLamps 61 = .ok (.istore 4, 2) := by decide +kernel
theorem dX12_readLamps_63 : decode cX12_readLamps 63 = .ok (.aload_n 0, 1) := by decide +kernel
theorem dX12_readLamps_64 : decode cX12_readLamps 64 = .ok (.getfield 35, 3) := by decide +kernel
theorem dX12_readLamps_67 : decode cX12_readLamps 67 = .ok (.iconst 2, 1) := by decide +kernel
theorem dX12_readLamps_68 : decode cX12_readLamps 68 = .ok (.aload_n 0, 1) := by decide +kernel
theorem dX12_readLamps_69 : decode cX12_readLamps 69 = .ok (.getfield 134, 3) := by decide +kernel
theorem dX12_readLamps_72 : decode cX12_readLamps 72 = .ok (.imul, 1) := by decide +kernel
theorem dX12_readLamps_73 : decode cX12_readLamps 73 = .ok (.iload_n 2, 1) := by decide +kernel
theorem dX12_readLamps_74 : decode cX12_readLamps 74 = .ok (.iastore, 1) := by decide +kernel
theorem dX12_readLamps_75 : decode cX12_readLamps 75 = .ok (.aload_n 0, 1) := by decide +kernel
theorem dX12_readLamps_76 : decode cX12_readLamps 76 = .ok (.getfield 35, 3) := by decide +kernel
theorem dX12_readLamps_79 : decode cX12_readLamps 79 = .ok (.iconst 2, 1) := by decide +kernel
theorem dX12_readLamps_80 : decode cX12_readLamps 80 = .ok (.aload_n 0, 1) := by decide +kernel
theorem dX12_readLamps_81 : decode cX12_readLamps 81 = .ok (.getfield 134, 3) := by decide +kernel
theorem dX12_readLamps_84 : decode cX12_readLamps 84 = .ok (.imul, 1) := by decide +kernel
theorem dX12_readLamps_85 : decode cX12_readLamps 85 = .ok (.iconst 1, 1) := by decide +kernel
theorem dX12_readLamps_86 : decode cX12_readLamps 86 = .ok (.iadd, 1) := by decide +kernel
theorem dX12_readLamps_87 : decode cX12_readLamps 87 = .ok (.iload 4, 2) := by decide +kernel
theorem dX12_readLamps_89 : decode cX12_readLamps 89 = .ok (.iastore, 1) := by decide +kernel
theorem dX12_readLamps_90 : decode cX12_readLamps 90 = .ok (.aload_n 0, 1) := by decide +kernel
theorem dX12_readLamps_91 : decode cX12_readLamps 91 = .ok (.dup, 1) := by decide +kernel
theorem dX12_readLamps_92 : decode cX12_readLamps 92 = .ok (.getfield 134, 3) := by decide +kernel
theorem dX12_readLamps_95 : decode cX12_readLamps 95 = .ok (.iconst 1, 1) := by decide +kernel
theorem dX12_readLamps_96 : decode cX12_readLamps 96 = .ok (.iadd, 1) := by decide +kernel
theorem dX12_readLamps_97 : decode cX12_readLamps 97 = .ok (.putfield 134, 3) := by decide +kernel
theorem dX12_readLamps_100 : decode cX12_readLamps 100 = .ok (.aload_n 0, 1) := by decide +kernel
theorem dX12_readLamps_101 : decode cX12_readLamps 101 = .ok (.bipush 43, 2) := by decide +kernel
theorem dX12_readLamps_103 : decode cX12_readLamps 103 = .ok (.bipush 43, 2) := by decide +kernel
theorem dX12_readLamps_105 : decode cX12_readLamps 105 = .ok (.invokevirtual 131, 3) := by decide +kernel
theorem dX12_readLamps_108 : decode cX12_readLamps 108 = .ok (.istore_n 1, 1) := by decide +kernel
theorem dX12_readLamps_109 : decode cX12_readLamps 109 = .ok (.iload_n 1, 1) := by decide +kernel
theorem dX12_readLamps_110 : decode cX12_readLamps 110 = .ok (.ifCond .eq 14, 3) := by decide +kernel
theorem dX12_readLamps_113 : decode cX12_readLamps 113 = .ok (.aload_n 0, 1) := by decide +kernel
theorem dX12_readLamps_114 : decode cX12_readLamps 114 = .ok (.bipush 43, 2) := by decide +kernel
theorem dX12_readLamps_116 : decode cX12_readLamps 116 = .ok (.bipush 43, 2) := by decide +kernel
theorem dX12_readLamps_118 : decode cX12_readLamps 118 = .ok (.invokevirtual 128, 3) := by decide +kernel
theorem dX12_readLamps_121 : decode cX12_readLamps 121 = .ok (.goto 4, 3) := by decide +kernel
theorem dX12_readLamps_124 : decode cX12_readLamps 124 = .ok (.iconst 0, 1) := by decide +kernel
theorem dX12_readLamps_125 : decode cX12_readLamps 125 = .ok (.istore 5, 2) := by decide +kernel
theorem dX12_readLamps_127 : decode cX12_readLamps 127 = .ok (.goto (-120), 3) := by decide +kernel
theorem dX12_readLamps_130 : decode cX12_readLamps 130 = .ok (.aload_n 0, 1) := by decide +kernel
theorem dX12_readLamps_131 : decode cX12_readLamps 131 = .ok (.bipush 64, 2) := by decide +kernel
theorem dX12_readLamps_133 : decode cX12_readLamps 133 = .ok (.bipush 64, 2) := by decide +kernel
theorem dX12_readLamps_135 : decode cX12_readLamps 135 = .ok (.invokevirtual 128, 3) := by decide +kernel
theorem dX12_readLamps_138 : decode cX12_readLamps 138 = .ok (.istore_n 2, 1) := by decide +kernel
theorem dX12_readLamps_139 : decode cX12_readLamps 139 = .ok (.aload_n 0, 1) := by decide +kernel
theorem dX12_readLamps_140 : decode cX12_readLamps 140 = .ok (.aload_n 0, 1) := by decide +kernel
theorem dX12_readLamps_141 : decode cX12_readLamps 141 = .ok (.iconst 0, 1) := by decide +kernel
theorem dX12_readLamps_142 : decode cX12_readLamps 142 = .ok (.bipush 100, 2) := by decide +kernel
theorem dX12_readLamps_144 : decode cX12_readLamps 144 = .ok (.invokevirtual 137, 3) := by decide +kernel
theorem dX12_readLamps_147 : decode cX12_readLamps 147 = .ok (.putfield 140, 3) := by decide +kernel
theorem dX12_readLamps_150 : decode cX12_readLamps 150 = .ok (.return_, 1) := by decide +kernel
theorem dX12_order_0 : decode cX12_order 0 = .ok (.aload_n 0, 1) := by decide +kernel
theorem dX12_order_1 : decode cX12_order 1 = .ok (.getfield 121, 3) := by decide +kernel
theorem dX12_order_4 : decode cX12_order 4 = .ok (.aload_n 0, 1) := by decide +kernel
theorem dX12_order_5 : decode cX12_order 5 = .ok (.getfield 118, 3) := by decide +kernel
theorem dX12_order_8 : decode cX12_order 8 = .ok (.if_icmp .ge 15, 3) := by decide +kernel
theorem dX12_order_11 : decode cX12_order 11 = .ok (.aload_n 0, 1) := by decide +kernel
theorem dX12_order_12 : decode cX12_order 12 = .ok (.getfield 26, 3) := by decide +kernel
theorem dX12_order_15 : decode cX12_order 15 = .ok (.aload_n 0, 1) := by decide +kernel
theorem dX12_order_16 : decode cX12_order 16 = .ok (.getfield 121, 3) := by decide +kernel
theorem dX12_order_19 : decode cX12_order 19 = .ok (.iaload, 1) := by decide +kernel
theorem dX12_order_20 : decode cX12_order 20 = .ok (.goto 4, 3) := by decide +kernel
theorem dX12_order_23 : decode cX12_order 23 = .ok (.iconst 0, 1) := by decide +kernel
theorem dX12_order_24 : decode cX12_order 24 = .ok (.istore_n 1, 1) := by decide +kernel
theorem dX12_order_25 : decode cX12_order 25 = .ok (.iload_n 1, 1) := by decide +kernel
theorem dX12_order_26 : decode cX12_order 26 = .ok (.bipush 48, 2) := by decide +kernel
theorem dX12_order_28 : decode cX12_order 28 = .ok (.bipush 57, 2) := by decide +kernel
theorem dX12_order_30 : decode cX12_order 30 = .ok (.invokestatic 42, 3) := by decide +kernel
theorem dX12_order_33 : decode cX12_order 33 = .ok (.ifCond .eq 14, 3) := by decide +kernel
theorem dX12_order_36 : decode cX12_order 36 = .ok (.aload_n 0, 1) := by decide +kernel
theorem dX12_order_37 : decode cX12_order 37 = .ok (.bipush 64, 2) := by decide +kernel
theorem dX12_order_39 : decode cX12_order 39 = .ok (.putfield 143, 3) := by decide +kernel
theorem dX12_order_42 : decode cX12_order 42 = .ok (.aload_n 0, 1) := by decide +kernel
theorem dX12_order_43 : decode cX12_order 43 = .ok (.invokevirtual 146, 3) := by decide +kernel
theorem dX12_order_46 : decode cX12_order 46 = .ok (.return_, 1) := by decide +kernel
theorem dX12_order_47 : decode cX12_order 47 = .ok (.aload_n 0, 1) := by decide +kernel
theorem dX12_order_48 : decode cX12_order 48 = .ok (.iload_n 1, 1) := by decide +kernel
theorem dX12_order_49 : decode cX12_order 49 = .ok (.putfield 143, 3) := by decide +kernel
theorem dX12_order_52 : decode cX12_order 52 = .ok (.aload_n 0, 1) := by decide +kernel
theorem dX12_order_53 : decode cX12_order 53 = .ok (.aload_n 0, 1) := by decide +kernel
theorem dX12_order_54 : decode cX12_order 54 = .ok (.getfield 124, 3) := by decide +kernel
theorem dX12_order_57 : decode cX12_order 57 = .ok (.ifCond .ne 21, 3) := by decide +kernel
theorem dX12_order_60 : decode cX12_order 60 = .ok (.iload_n 1, 1) := by decide +kernel
theorem dX12_order_61 : decode cX12_order 61 = .ok (.bipush 114, 2) := by decide +kernel
theorem dX12_order_63 : decode cX12_order 63 = .ok (.if_icmp .eq 19, 3) := by decide +kernel
theorem dX12_order_66 : decode cX12_order 66 = .ok (.iload_n 1, 1) := by decide +kernel
theorem dX12_order_67 : decode cX12_order 67 = .ok (.bipush 103, 2) := by decide +kernel
theorem dX12_order_69 : decode cX12_order 69 = .ok (.if_icmp .eq 13, 3) := by decide +kernel
theorem dX12_order_72 : decode cX12_order 72 = .ok (.iload_n 1, 1) := by decide +kernel
theorem dX12_order_73 : decode cX12_order 73 = .ok (.bipush 120, 2) := by decide +kernel
theorem dX12_order_75 : decode cX12_order 75 = .ok (.if_icmp .eq 7, 3) := by decide +kernel
theorem dX12_order_78 : decode cX12_order 78 = .ok (.iconst 1, 1) := by decide +kernel
theorem dX12_order_79 : decode cX12_order 79 = .ok (.goto 4, 3) := by decide +kernel
theorem dX12_order_82 : decode cX12_order 82 = .ok (.iconst 0, 1) := by decide +kernel
theorem dX12_order_83 : decode cX12_order 83 = .ok (.putfield 124, 3) := by decide +kernel
theorem dX12_order_86 : decode cX12_order 86 = .ok (.aload_n 0, 1) := by decide +kernel
theorem dX12_order_87 : decode cX12_order 87 = .ok (.dup, 1) := by decide +kernel
theorem dX12_order_88 : decode cX12_order 88 = .ok (.getfield 121, 3) := by decide +kernel
theorem dX12_order_91 : decode cX12_order 91 = .ok (.aload_n 0, 1) := by decide +kernel
theorem dX12_order_92 : decode cX12_order 92 = .ok (.getfield 124, 3) := by decide +kernel
theorem dX12_order_95 : decode cX12_order 95 = .ok (.ifCond .eq 7, 3) := by decide +kernel
theorem dX12_order_98 : decode cX12_order 98 = .ok (.iconst 0, 1) := by decide +kernel
theorem dX12_order_99 : decode cX12_order 99 = .ok (.goto 4, 3) := by decide +kernel
theorem dX12_order_102 : decode cX12_order 102 = .ok (.iconst 1, 1) := by decide +kernel
theorem dX12_order_103 : decode cX12_order 103 = .ok (.iadd, 1) := by decide +kernel
theorem dX12_order_104 : decode cX12_order 104 = .ok (.putfield 121, 3) := by decide +kernel
theorem dX12_order_107 : decode cX12_order 107 = .ok (.aload_n 0, 1) := by decide +kernel
theorem dX12_order_108 : decode cX12_order 108 = .ok (.iload_n 1, 1) := by decide +kernel
theorem dX12_order_109 : decode cX12_order 109 = .ok (.bipush 114, 2) := by decide +kernel
theorem dX12_order_111 : decode cX12_order 111 = .ok (.if_icmp .eq 9, 3) := by decide +kernel
theorem dX12_order_114 : decode cX12_order 114 = .ok (.iload_n 1, 1) := by decide +kernel
theorem dX12_order_115 : decode cX12_order 115 = .ok (.bipush 103, 2) := by decide +kernel
theorem dX12_order_117 : decode cX12_order 117 = .ok (.if_icmp .ne 17, 3) := by decide +kernel
theorem dX12_order_120 : decode cX12_order 120 = .ok (.aload_n 0, 1) := by decide +kernel
theorem dX12_order_121 : decode cX12_order 121 = .ok (.bipush 48, 2) := by decide +kernel
theorem dX12_order_123 : decode cX12_order 123 = .ok (.bipush 55, 2) := by decide +kernel
theorem dX12_order_125 : decode cX12_order 125 = .ok (.invokevirtual 128, 3) := by decide +kernel
theorem dX12_order_128 : decode cX12_order 128 = .ok (.bipush 48, 2) := by decide +kernel
theorem dX12_order_130 : decode cX12_order 130 = .ok (.isub, 1) := by decide +kernel
theorem dX12_order_131 : decode cX12_order 131 = .ok (.goto 4, 3) := by decide +kernel
theorem dX12_order_134 : decode cX12_order 134 = .ok (.iconst 0, 1) := by decide +kernel
theorem dX12_order_135 : decode cX12_order 135 = .ok (.putfield 140, 3) := by decide +kernel
theorem dX12_order_138 : decode cX12_order 138 = .ok (.iload_n 1, 1) := by decide +kernel
theorem dX12_order_139 : decode cX12_order 139 = .ok (.bipush 114, 2) := by decide +kernel
theorem dX12_order_141 : decode cX12_order 141 = .ok (.if_icmp .ne 14, 3) := by decide +kernel
theorem dX12_order_144 : decode cX12_order 144 = .ok (.aload_n 0, 1) := by decide +kernel
theorem dX12_order_145 : decode cX12_order 145 = .ok (.bipush 47, 2) := by decide +kernel
theorem dX12_order_147 : decode cX12_order 147 = .ok (.bipush 47, 2) := by decide +kernel
theorem dX12_order_149 : decode cX12_order 149 = .ok (.invokevirtual 128, 3) := by decide +kernel
theorem dX12_order_152 : decode cX12_order 152 = .ok (.goto 4, 3) := by decide +kernel
theorem dX12_order_155 : decode cX12_order 155 = .ok (.iconst 0, 1) := by decide +kernel
theorem dX12_order_156 : decode cX12_order 156 = .ok (.istore_n 2, 1) := by decide +kernel
theorem dX12_order_157 : decode cX12_order 157 = .ok (.aload_n 0, 1) := by decide +kernel
theorem dX12_order_158 : decode cX12_order 158 = .ok (.iload_n 1, 1) := by decide +kernel
theorem dX12_order_159 : decode cX12_order 159 = .ok (.bipush 114, 2) := by decide +kernel
theorem dX12_order_161 : decode cX12_order 161 = .ok (.if_icmp .ne 13, 3) := by decide +kernel
theorem dX12_order_164 : decode cX12_order 164 = .ok (.aload_n 0, 1) := by decide +kernel
theorem dX12_order_165 : decode cX12_order 165 = .ok (.iconst 1, 1) := by decide +kernel
theorem dX12_order_166 : decode cX12_order 166 = .ok (.bipush 50, 2) := by decide +kernel
theorem dX12_order_168 : decode cX12_order 168 = .ok (.invokevirtual 137, 3) := by decide +kernel
theorem dX12_order_171 : decode cX12_order 171 = .ok (.goto 4, 3) := by decide +kernel
theorem dX12_order_174 : decode cX12_order 174 = .ok (.iconst 0, 1) := by decide +kernel
theorem dX12_order_175 : decode cX12_order 175 = .ok (.putfield 149, 3) := by decide +kernel
theorem dX12_order_178 : decode cX12_order 178 = .ok (.return_, 1) := by decide +kernel
theorem dX12_wants_0 : decode cX12_wants 0 = .ok (.iconst 0, 1) := by decide +kernel
theorem dX12_wants_1 : decode cX12_wants 1 = .ok (.istore_n 2, 1) := by decide +kernel
theorem dX12_wants_2 : decode cX12_wants 2 = .ok (.iload_n 2, 1) := by decide +kernel
theorem dX12_wants_3 : decode cX12_wants 3 = .ok (.aload_n 0, 1) := by decide +kernel
theorem dX12_wants_4 : decode cX12_wants 4 = .ok (.getfield 134, 3) := by decide +kernel
theorem dX12_wants_7 : decode cX12_wants 7 = .ok (.if_icmp .ge 96, 3) := by decide +kernel
theorem dX12_wants_10 : decode cX12_wants 10 = .ok (.aload_n 0, 1) := by decide +kernel
theorem dX12_wants_11 : decode cX12_wants 11 = .ok (.getfield 35, 3) := by decide +kernel
theorem dX12_wants_14 : decode cX12_wants 14 = .ok (.iconst 2, 1) := by decide +kernel
theorem dX12_wants_15 : decode cX12_wants 15 = .ok (.iload_n 2, 1) := by decide +kernel
theorem dX12_wants_16 : decode cX12_wants 16 = .ok (.imul, 1) := by decide +kernel
theorem dX12_wants_17 : decode cX12_wants 17 = .ok (.iconst 1, 1) := by decide +kernel
theorem dX12_wants_18 : decode cX12_wants 18 = .ok (.iadd, 1) := by decide +kernel
theorem dX12_wants_19 : decode cX12_wants 19 = .ok (.iaload, 1) := by decide +kernel
theorem dX12_wants_20 : decode cX12_wants 20 = .ok (.istore_n 3, 1) := by decide +kernel
theorem dX12_wants_21 : decode cX12_wants 21 = .ok (.iload_n 3, 1) := by decide +kernel
theorem dX12_wants_22 : decode cX12_wants 22 = .ok (.aload_n 0, 1) := by decide +kernel
theorem dX12_wants_23 : decode cX12_wants 23 = .ok (.getfield 35, 3) := by decide +kernel
theorem dX12_wants_26 : decode cX12_wants 26 = .ok (.iconst 2, 1) := by decide +kernel
theorem dX12_wants_27 : decode cX12_wants 27 = .ok (.iload_n 2, 1) := by decide +kernel
theorem dX12_wants_28 : decode cX12_wants 28 = .ok (.imul, 1) := by decide +kernel
theorem dX12_wants_29 : decode cX12_wants 29 = .ok (.iaload, 1) := by decide +kernel
theorem dX12_wants_30 : decode cX12_wants 30 = .ok (.if_icmp .ge 7, 3) := by decide +kernel
theorem dX12_wants_33 : decode cX12_wants 33 = .ok (.iconst (-1), 1) := by decide +kernel
theorem dX12_wants_34 : decode cX12_wants 34 = .ok (.goto 4, 3) := by decide +kernel
theorem dX12_wants_37 : decode cX12_wants 37 = .ok (.iconst 1, 1) := by decide +kernel
theorem dX12_wants_38 : decode cX12_wants 38 = .ok (.istore 4, 2) := by decide +kernel
theorem dX12_wants_40 : decode cX12_wants 40 = .ok (.aload_n 0, 1) := by decide +kernel
theorem dX12_wants_41 : decode cX12_wants 41 = .ok (.getfield 35, 3) := by decide +kernel
theorem dX12_wants_44 : decode cX12_wants 44 = .ok (.iconst 2, 1) := by decide +kernel
theorem dX12_wants_45 : decode cX12_wants 45 = .ok (.iload_n 2, 1) := by decide +kernel
theorem dX12_wants_46 : decode cX12_wants 46 = .ok (.imul, 1) := by decide +kernel
theorem dX12_wants_47 : decode cX12_wants 47 = .ok (.iaload, 1) := by decide +kernel
theorem dX12_wants_48 : decode cX12_wants 48 = .ok (.istore 5, 2) := by decide +kernel
theorem dX12_wants_50 : decode cX12_wants 50 = .ok (.iload 5, 2) := by decide +kernel
theorem dX12_wants_52 : decode cX12_wants 52 = .ok (.iload_n 3, 1) := by decide +kernel
theorem dX12_wants_53 : decode cX12_wants 53 = .ok (.iload 4, 2) := by decide +kernel
theorem dX12_wants_55 : decode cX12_wants 55 = .ok (.iadd, 1) := by decide +kernel
theorem dX12_wants_56 : decode cX12_wants 56 = .ok (.if_icmp .eq 41, 3) := by decide +kernel
theorem dX12_wants_59 : decode cX12_wants 59 = .ok (.aload_n 0, 1) := by decide +kernel
theorem dX12_wants_60 : decode cX12_wants 60 = .ok (.iload_n 1, 1) := by decide +kernel
theorem dX12_wants_61 : decode cX12_wants 61 = .ok (.iload 5, 2) := by decide +kernel
theorem dX12_wants_63 : decode cX12_wants 63 = .ok (.invokevirtual 83, 3) := by decide +kernel
theorem dX12_wants_66 : decode cX12_wants 66 = .ok (.ifCond .ne 5, 3) := by decide +kernel
theorem dX12_wants_69 : decode cX12_wants 69 = .ok (.iconst 0, 1) := by decide +kernel
theorem dX12_wants_70 : decode cX12_wants 70 = .ok (.ireturn, 1) := by decide +kernel
theorem dX12_wants_71 : decode cX12_wants 71 = .ok (.aload_n 0, 1) := by decide +kernel
theorem dX12_wants_72 : decode cX12_wants 72 = .ok (.getfield 7, 3) := by decide +kernel
theorem dX12_wants_75 : decode cX12_wants 75 = .ok (.iload_n 1, 1) := by decide +kernel
theorem dX12_wants_76 : decode cX12_wants 76 = .ok (.iload 5, 2) := by decide +kernel
theorem dX12_wants_78 : decode cX12_wants 78 = .ok (.iconst 2, 1) := by decide +kernel
theorem dX12_wants_79 : decode cX12_wants 79 = .ok (.invokestatic 54, 3) := by decide +kernel
theorem dX12_wants_82 : decode cX12_wants 82 = .ok (.aload_n 0, 1) := by decide +kernel
theorem dX12_wants_83 : decode cX12_wants 83 = .ok (.getfield 140, 3) := by decide +kernel
theorem dX12_wants_86 : decode cX12_wants 86 = .ok (.iastore, 1) := by decide +kernel
theorem dX12_wants_87 : decode cX12_wants 87 = .ok (.iload 5, 2) := by decide +kernel
theorem dX12_wants_89 : decode cX12_wants 89 = .ok (.iload 4, 2) := by decide +kernel
theorem dX12_wants_91 : decode cX12_wants 91 = .ok (.iadd, 1) := by decide +kernel
theorem dX12_wants_92 : decode cX12_wants 92 = .ok (.istore 5, 2) := by decide +kernel
theorem dX12_wants_94 : decode cX12_wants 94 = .ok (.goto (-44), 3) := by decide +kernel
theorem dX12_wants_97 : decode cX12_wants 97 = .ok (.iinc 2 1, 3) := by decide +kernel
theorem dX12_wants_100 : decode cX12_wants 100 = .ok (.goto (-98), 3) := by decide +kernel
theorem dX12_wants_103 : decode cX12_wants 103 = .ok (.iconst 1, 1) := by decide +kernel
theorem dX12_wants_104 : decode cX12_wants 104 = .ok (.ireturn, 1) := by decide +kernel
theorem dX12_does_0 : decode cX12_does 0 = .ok (.aload_n 0, 1) := by decide +kernel
theorem dX12_does_1 : decode cX12_does 1 = .ok (.getfield 143, 3) := by decide +kernel
theorem dX12_does_4 : decode cX12_does 4 = .ok (.lookupswitch 100 #[(64, 36), (103, 58), (114, 42)], 36) := by decide +kernel
theorem dX12_does_40 : decode cX12_does 40 = .ok (.aload_n 0, 1) := by decide +kernel
theorem dX12_does_41 : decode cX12_does 41 = .ok (.iload_n 1, 1) := by decide +kernel
theorem dX12_does_42 : decode cX12_does 42 = .ok (.invokevirtual 152, 3) := by decide +kernel
theorem dX12_does_45 : decode cX12_does 45 = .ok (.ireturn, 1) := by decide +kernel
theorem dX12_does_46 : decode cX12_does 46 = .ok (.aload_n 0, 1) := by decide +kernel
theorem dX12_does_47 : decode cX12_does 47 = .ok (.iload_n 1, 1) := by decide +kernel
theorem dX12_does_48 : decode cX12_does 48 = .ok (.aload_n 0, 1) := by decide +kernel
theorem dX12_does_49 : decode cX12_does 49 = .ok (.getfield 140, 3) := by decide +kernel
theorem dX12_does_52 : decode cX12_does 52 = .ok (.aload_n 0, 1) := by decide +kernel
theorem dX12_does_53 : decode cX12_does 53 = .ok (.getfield 149, 3) := by decide +kernel
theorem dX12_does_56 : decode cX12_does 56 = .ok (.invokevirtual 99, 3) := by decide +kernel
theorem dX12_does_59 : decode cX12_does 59 = .ok (.istore_n 2, 1) := by decide +kernel
theorem dX12_does_60 : decode cX12_does 60 = .ok (.iconst 1, 1) := by decide +kernel
theorem dX12_does_61 : decode cX12_does 61 = .ok (.ireturn, 1) := by decide +kernel
theorem dX12_does_62 : decode cX12_does 62 = .ok (.aload_n 0, 1) := by decide +kernel
theorem dX12_does_63 : decode cX12_does 63 = .ok (.getfield 7, 3) := by decide +kernel
theorem dX12_does_66 : decode cX12_does 66 = .ok (.iload_n 1, 1) := by decide +kernel
theorem dX12_does_67 : decode cX12_does 67 = .ok (.aload_n 0, 1) := by decide +kernel
theorem dX12_does_68 : decode cX12_does 68 = .ok (.getfield 140, 3) := by decide +kernel
theorem dX12_does_71 : decode cX12_does 71 = .ok (.invokestatic 64, 3) := by decide +kernel
theorem dX12_does_74 : decode cX12_does 74 = .ok (.iaload, 1) := by decide +kernel
theorem dX12_does_75 : decode cX12_does 75 = .ok (.ifCond .le 27, 3) := by decide +kernel
theorem dX12_does_78 : decode cX12_does 78 = .ok (.aload_n 0, 1) := by decide +kernel
theorem dX12_does_79 : decode cX12_does 79 = .ok (.iload_n 1, 1) := by decide +kernel
theorem dX12_does_80 : decode cX12_does 80 = .ok (.aload_n 0, 1) := by decide +kernel
theorem dX12_does_81 : decode cX12_does 81 = .ok (.getfield 140, 3) := by decide +kernel
theorem dX12_does_84 : decode cX12_does 84 = .ok (.aload_n 0, 1) := by decide +kernel
theorem dX12_does_85 : decode cX12_does 85 = .ok (.getfield 7, 3) := by decide +kernel
theorem dX12_does_88 : decode cX12_does 88 = .ok (.iload_n 1, 1) := by decide +kernel
theorem dX12_does_89 : decode cX12_does 89 = .ok (.aload_n 0, 1) := by decide +kernel
theorem dX12_does_90 : decode cX12_does 90 = .ok (.getfield 140, 3) := by decide +kernel
theorem dX12_does_93 : decode cX12_does 93 = .ok (.invokestatic 64, 3) := by decide +kernel
theorem dX12_does_96 : decode cX12_does 96 = .ok (.iaload, 1) := by decide +kernel
theorem dX12_does_97 : decode cX12_does 97 = .ok (.invokevirtual 105, 3) := by decide +kernel
theorem dX12_does_100 : decode cX12_does 100 = .ok (.iconst 1, 1) := by decide +kernel
theorem dX12_does_101 : decode cX12_does 101 = .ok (.ireturn, 1) := by decide +kernel
theorem dX12_does_102 : decode cX12_does 102 = .ok (.iconst 0, 1) := by decide +kernel
theorem dX12_does_103 : decode cX12_does 103 = .ok (.ireturn, 1) := by decide +kernel
theorem dX12_does_104 : decode cX12_does 104 = .ok (.aload_n 0, 1) := by decide +kernel
theorem dX12_does_105 : decode cX12_does 105 = .ok (.iload_n 1, 1) := by decide +kernel
theorem dX12_does_106 : decode cX12_does 106 = .ok (.invokevirtual 109, 3) := by decide +kernel
theorem dX12_does_109 : decode cX12_does 109 = .ok (.istore_n 3, 1) := by decide +kernel
theorem dX12_does_110 : decode cX12_does 110 = .ok (.iconst 1, 1) := by decide +kernel
theorem dX12_does_111 : decode cX12_does 111 = .ok (.ireturn, 1) := by decide +kernel
theorem dX12_goThrough_0 : decode cX12_goThrough 0 = .ok (.aload_n 0, 1) := by decide +kernel
theorem dX12_goThrough_1 : decode cX12_goThrough 1 = .ok (.iconst 0, 1) := by decide +kernel
theorem dX12_goThrough_2 : decode cX12_goThrough 2 = .ok (.putfield 121, 3) := by decide +kernel
theorem dX12_goThrough_5 : decode cX12_goThrough 5 = .ok (.aload_n 0, 1) := by decide +kernel
theorem dX12_goThrough_6 : decode cX12_goThrough 6 = .ok (.iconst 0, 1) := by decide +kernel
theorem dX12_goThrough_7 : decode cX12_goThrough 7 = .ok (.putfield 124, 3) := by decide +kernel
theorem dX12_goThrough_10 : decode cX12_goThrough 10 = .ok (.iconst 0, 1) := by decide +kernel
theorem dX12_goThrough_11 : decode cX12_goThrough 11 = .ok (.istore_n 3, 1) := by decide +kernel
theorem dX12_goThrough_12 : decode cX12_goThrough 12 = .ok (.iconst 1, 1) := by decide +kernel
theorem dX12_goThrough_13 : decode cX12_goThrough 13 = .ok (.istore 4, 2) := by decide +kernel
theorem dX12_goThrough_15 : decode cX12_goThrough 15 = .ok (.iload 4, 2) := by decide +kernel
theorem dX12_goThrough_17 : decode cX12_goThrough 17 = .ok (.ifCond .eq 105, 3) := by decide +kernel
theorem dX12_goThrough_20 : decode cX12_goThrough 20 = .ok (.aload_n 0, 1) := by decide +kernel
theorem dX12_goThrough_21 : decode cX12_goThrough 21 = .ok (.invokevirtual 155, 3) := by decide +kernel
theorem dX12_goThrough_24 : decode cX12_goThrough 24 = .ok (.iload_n 1, 1) := by decide +kernel
theorem dX12_goThrough_25 : decode cX12_goThrough 25 = .ok (.ifCond .eq 15, 3) := by decide +kernel
theorem dX12_goThrough_28 : decode cX12_goThrough 28 = .ok (.aload_n 0, 1) := by decide +kernel
theorem dX12_goThrough_29 : decode cX12_goThrough 29 = .ok (.iload_n 2, 1) := by decide +kernel
theorem dX12_goThrough_30 : decode cX12_goThrough 30 = .ok (.invokevirtual 158, 3) := by decide +kernel
theorem dX12_goThrough_33 : decode cX12_goThrough 33 = .ok (.ifCond .eq 7, 3) := by decide +kernel
theorem dX12_goThrough_36 : decode cX12_goThrough 36 = .ok (.iconst 1, 1) := by decide +kernel
theorem dX12_goThrough_37 : decode cX12_goThrough 37 = .ok (.goto 4, 3) := by decide +kernel
theorem dX12_goThrough_40 : decode cX12_goThrough 40 = .ok (.iconst 0, 1) := by decide +kernel
theorem dX12_goThrough_41 : decode cX12_goThrough 41 = .ok (.istore 5, 2) := by decide +kernel
theorem dX12_goThrough_43 : decode cX12_goThrough 43 = .ok (.iload_n 3, 1) := by decide +kernel
theorem dX12_goThrough_44 : decode cX12_goThrough 44 = .ok (.iload 5, 2) := by decide +kernel
theorem dX12_goThrough_46 : decode cX12_goThrough 46 = .ok (.ifCond .eq 7, 3) := by decide +kernel
theorem dX12_goThrough_49 : decode cX12_goThrough 49 = .ok (.iconst 1, 1) := by decide +kernel
theorem dX12_goThrough_50 : decode cX12_goThrough 50 = .ok (.goto 4, 3) := by decide +kernel
theorem dX12_goThrough_53 : decode cX12_goThrough 53 = .ok (.iconst 0, 1) := by decide +kernel
theorem dX12_goThrough_54 : decode cX12_goThrough 54 = .ok (.iadd, 1) := by decide +kernel
theorem dX12_goThrough_55 : decode cX12_goThrough 55 = .ok (.istore_n 3, 1) := by decide +kernel
theorem dX12_goThrough_56 : decode cX12_goThrough 56 = .ok (.aload_n 0, 1) := by decide +kernel
theorem dX12_goThrough_57 : decode cX12_goThrough 57 = .ok (.getfield 124, 3) := by decide +kernel
theorem dX12_goThrough_60 : decode cX12_goThrough 60 = .ok (.ifCond .ne 27, 3) := by decide +kernel
theorem dX12_goThrough_63 : decode cX12_goThrough 63 = .ok (.iload 5, 2) := by decide +kernel
theorem dX12_goThrough_65 : decode cX12_goThrough 65 = .ok (.ifCond .ne 7, 3) := by decide +kernel
theorem dX12_goThrough_68 : decode cX12_goThrough 68 = .ok (.iload_n 1, 1) := by decide +kernel
theorem dX12_goThrough_69 : decode cX12_goThrough 69 = .ok (.ifCond .ne 18, 3) := by decide +kernel
theorem dX12_goThrough_72 : decode cX12_goThrough 72 = .ok (.aload_n 0, 1) := by decide +kernel
theorem dX12_goThrough_73 : decode cX12_goThrough 73 = .ok (.getfield 121, 3) := by decide +kernel
theorem dX12_goThrough_76 : decode cX12_goThrough 76 = .ok (.aload_n 0, 1) := by decide +kernel
theorem dX12_goThrough_77 : decode cX12_goThrough 77 = .ok (.getfield 118, 3) := by decide +kernel
theorem dX12_goThrough_80 : decode cX12_goThrough 80 = .ok (.if_icmp .ge 7, 3) := by decide +kernel
theorem dX12_goThrough_83 : decode cX12_goThrough 83 = .ok (.iconst 1, 1) := by decide +kernel
theorem dX12_goThrough_84 : decode cX12_goThrough 84 = .ok (.goto 4, 3) := by decide +kernel
theorem dX12_goThrough_87 : decode cX12_goThrough 87 = .ok (.iconst 0, 1) := by decide +kernel
theorem dX12_goThrough_88 : decode cX12_goThrough 88 = .ok (.istore 4, 2) := by decide +kernel
theorem dX12_goThrough_90 : decode cX12_goThrough 90 = .ok (.iload 4, 2) := by decide +kernel
theorem dX12_goThrough_92 : decode cX12_goThrough 92 = .ok (.ifCond .eq 27, 3) := by decide +kernel
theorem dX12_goThrough_95 : decode cX12_goThrough 95 = .ok (.aload_n 0, 1) := by decide +kernel
theorem dX12_goThrough_96 : decode cX12_goThrough 96 = .ok (.bipush 59, 2) := by decide +kernel
theorem dX12_goThrough_98 : decode cX12_goThrough 98 = .ok (.bipush 59, 2) := by decide +kernel
theorem dX12_goThrough_100 : decode cX12_goThrough 100 = .ok (.invokevirtual 128, 3) := by decide +kernel
theorem dX12_goThrough_103 : decode cX12_goThrough 103 = .ok (.istore 6, 2) := by decide +kernel
theorem dX12_goThrough_105 : decode cX12_goThrough 105 = .ok (.aload_n 0, 1) := by decide +kernel
theorem dX12_goThrough_106 : decode cX12_goThrough 106 = .ok (.getfield 124, 3) := by decide +kernel
theorem dX12_goThrough_109 : decode cX12_goThrough 109 = .ok (.ifCond .ne 7, 3) := by decide +kernel
theorem dX12_goThrough_112 : decode cX12_goThrough 112 = .ok (.iconst 1, 1) := by decide +kernel
theorem dX12_goThrough_113 : decode cX12_goThrough 113 = .ok (.goto 4, 3) := by decide +kernel
theorem dX12_goThrough_116 : decode cX12_goThrough 116 = .ok (.iconst 0, 1) := by decide +kernel
theorem dX12_goThrough_117 : decode cX12_goThrough 117 = .ok (.istore 4, 2) := by decide +kernel
theorem dX12_goThrough_119 : decode cX12_goThrough 119 = .ok (.goto (-104), 3) := by decide +kernel
theorem dX12_goThrough_122 : decode cX12_goThrough 122 = .ok (.iload_n 3, 1) := by decide +kernel
theorem dX12_goThrough_123 : decode cX12_goThrough 123 = .ok (.ireturn, 1) := by decide +kernel
theorem dX12_fault_0 : decode cX12_fault 0 = .ok (.aload_n 0, 1) := by decide +kernel
theorem dX12_fault_1 : decode cX12_fault 1 = .ok (.iconst 0, 1) := by decide +kernel
theorem dX12_fault_2 : decode cX12_fault 2 = .ok (.iconst 0, 1) := by decide +kernel
theorem dX12_fault_3 : decode cX12_fault 3 = .ok (.invokevirtual 161, 3) := by decide +kernel
theorem dX12_fault_6 : decode cX12_fault 6 = .ok (.istore_n 1, 1) := by decide +kernel
theorem dX12_fault_7 : decode cX12_fault 7 = .ok (.aload_n 0, 1) := by decide +kernel
theorem dX12_fault_8 : decode cX12_fault 8 = .ok (.getfield 124, 3) := by decide +kernel
theorem dX12_fault_11 : decode cX12_fault 11 = .ok (.ifCond .eq 10, 3) := by decide +kernel
theorem dX12_fault_14 : decode cX12_fault 14 = .ok (.aload_n 0, 1) := by decide +kernel
theorem dX12_fault_15 : decode cX12_fault 15 = .ok (.getfield 121, 3) := by decide +kernel
theorem dX12_fault_18 : decode cX12_fault 18 = .ok (.goto 5, 3) := by decide +kernel
theorem dX12_fault_21 : decode cX12_fault 21 = .ok (.bipush (-6), 2) := by decide +kernel
theorem dX12_fault_23 : decode cX12_fault 23 = .ok (.ireturn, 1) := by decide +kernel
theorem dX12_carryOut_0 : decode cX12_carryOut 0 = .ok (.iload_n 1, 1) := by decide +kernel
theorem dX12_carryOut_1 : decode cX12_carryOut 1 = .ok (.invokestatic 46, 3) := by decide +kernel
theorem dX12_carryOut_4 : decode cX12_carryOut 4 = .ok (.ifCond .ne 5, 3) := by decide +kernel
theorem dX12_carryOut_7 : decode cX12_carryOut 7 = .ok (.iconst (-1), 1) := by decide +kernel
theorem dX12_carryOut_8 : decode cX12_carryOut 8 = .ok (.ireturn, 1) := by decide +kernel
theorem dX12_carryOut_9 : decode cX12_carryOut 9 = .ok (.aload_n 0, 1) := by decide +kernel
theorem dX12_carryOut_10 : decode cX12_carryOut 10 = .ok (.iconst 0, 1) := by decide +kernel
theorem dX12_carryOut_11 : decode cX12_carryOut 11 = .ok (.iconst 0, 1) := by decide +kernel
theorem dX12_carryOut_12 : decode cX12_carryOut 12 = .ok (.invokevirtual 161, 3) := by decide +kernel
theorem dX12_carryOut_15 : decode cX12_carryOut 15 = .ok (.istore_n 2, 1) := by decide +kernel
theorem dX12_carryOut_16 : decode cX12_carryOut 16 = .ok (.aload_n 0, 1) := by decide +kernel
theorem dX12_carryOut_17 : decode cX12_carryOut 17 = .ok (.getfield 124, 3) := by decide +kernel
theorem dX12_carryOut_20 : decode cX12_carryOut 20 = .ok (.ifCond .eq 6, 3) := by decide +kernel
theorem dX12_carryOut_23 : decode cX12_carryOut 23 = .ok (.bipush (-3), 2) := by decide +kernel
theorem dX12_carryOut_25 : decode cX12_carryOut 25 = .ok (.ireturn, 1) := by decide +kernel
theorem dX12_carryOut_26 : decode cX12_carryOut 26 = .ok (.aload_n 0, 1) := by decide +kernel
theorem dX12_carryOut_27 : decode cX12_carryOut 27 = .ok (.invokevirtual 77, 3) := by decide +kernel
theorem dX12_carryOut_30 : decode cX12_carryOut 30 = .ok (.aload_n 0, 1) := by decide +kernel
theorem dX12_carryOut_31 : decode cX12_carryOut 31 = .ok (.iconst 1, 1) := by decide +kernel
theorem dX12_carryOut_32 : decode cX12_carryOut 32 = .ok (.iload_n 1, 1) := by decide +kernel
theorem dX12_carryOut_33 : decode cX12_carryOut 33 = .ok (.invokevirtual 161, 3) := by decide +kernel
theorem dX12_carryOut_36 : decode cX12_carryOut 36 = .ok (.istore_n 3, 1) := by decide +kernel
theorem dX12_carryOut_37 : decode cX12_carryOut 37 = .ok (.aload_n 0, 1) := by decide +kernel
theorem dX12_carryOut_38 : decode cX12_carryOut 38 = .ok (.iconst 0, 1) := by decide +kernel
theorem dX12_carryOut_39 : decode cX12_carryOut 39 = .ok (.putfield 118, 3) := by decide +kernel
theorem dX12_carryOut_42 : decode cX12_carryOut 42 = .ok (.iload_n 3, 1) := by decide +kernel
theorem dX12_carryOut_43 : decode cX12_carryOut 43 = .ok (.ireturn, 1) := by decide +kernel
theorem dX12_lamp_0 : decode cX12_lamp 0 = .ok (.aload_n 0, 1) := by decide +kernel
theorem dX12_lamp_1 : decode cX12_lamp 1 = .ok (.iload_n 1, 1) := by decide +kernel
theorem dX12_lamp_2 : decode cX12_lamp 2 = .ok (.iload_n 2, 1) := by decide +kernel
theorem dX12_lamp_3 : decode cX12_lamp 3 = .ok (.invokevirtual 83, 3) := by decide +kernel
theorem dX12_lamp_6 : decode cX12_lamp 6 = .ok (.ifCond .ne 5, 3) := by decide +kernel
theorem dX12_lamp_9 : decode cX12_lamp 9 = .ok (.iconst (-1), 1) := by decide +kernel
theorem dX12_lamp_10 : decode cX12_lamp 10 = .ok (.ireturn, 1) := by decide +kernel
theorem dX12_lamp_11 : decode cX12_lamp 11 = .ok (.iload_n 3, 1) := by decide +kernel
theorem dX12_lamp_12 : decode cX12_lamp 12 = .ok (.iconst 4, 1) := by decide +kernel
theorem dX12_lamp_13 : decode cX12_lamp 13 = .ok (.if_icmp .ne 12, 3) := by decide +kernel
theorem dX12_lamp_16 : decode cX12_lamp 16 = .ok (.aload_n 0, 1) := by decide +kernel
theorem dX12_lamp_17 : decode cX12_lamp 17 = .ok (.iload_n 1, 1) := by decide +kernel
theorem dX12_lamp_18 : decode cX12_lamp 18 = .ok (.iload_n 2, 1) := by decide +kernel
theorem dX12_lamp_19 : decode cX12_lamp 19 = .ok (.invokevirtual 61, 3) := by decide +kernel
theorem dX12_lamp_22 : decode cX12_lamp 22 = .ok (.goto 28, 3) := by decide +kernel
theorem dX12_lamp_25 : decode cX12_lamp 25 = .ok (.iload_n 3, 1) := by decide +kernel
theorem dX12_lamp_26 : decode cX12_lamp 26 = .ok (.iconst 0, 1) := by decide +kernel
theorem dX12_lamp_27 : decode cX12_lamp 27 = .ok (.iconst 3, 1) := by decide +kernel
theorem dX12_lamp_28 : decode cX12_lamp 28 = .ok (.invokestatic 42, 3) := by decide +kernel
theorem dX12_lamp_31 : decode cX12_lamp 31 = .ok (.ifCond .eq 17, 3) := by decide +kernel
theorem dX12_lamp_34 : decode cX12_lamp 34 = .ok (.aload_n 0, 1) := by decide +kernel
theorem dX12_lamp_35 : decode cX12_lamp 35 = .ok (.getfield 7, 3) := by decide +kernel
theorem dX12_lamp_38 : decode cX12_lamp 38 = .ok (.iload_n 1, 1) := by decide +kernel
theorem dX12_lamp_39 : decode cX12_lamp 39 = .ok (.iload_n 2, 1) := by decide +kernel
theorem dX12_lamp_40 : decode cX12_lamp 40 = .ok (.iload_n 3, 1) := by decide +kernel
theorem dX12_lamp_41 : decode cX12_lamp 41 = .ok (.invokestatic 54, 3) := by decide +kernel
theorem dX12_lamp_44 : decode cX12_lamp 44 = .ok (.iaload, 1) := by decide +kernel
theorem dX12_lamp_45 : decode cX12_lamp 45 = .ok (.goto 5, 3) := by decide +kernel
theorem dX12_lamp_48 : decode cX12_lamp 48 = .ok (.bipush (-2), 2) := by decide +kernel
theorem dX12_lamp_50 : decode cX12_lamp 50 = .ok (.ireturn, 1) := by decide +kernel
theorem dX12_lampsOn_0 : decode cX12_lampsOn 0 = .ok (.iconst 0, 1) := by decide +kernel
theorem dX12_lampsOn_1 : decode cX12_lampsOn 1 = .ok (.istore_n 3, 1) := by decide +kernel
theorem dX12_lampsOn_2 : decode cX12_lampsOn 2 = .ok (.iconst 0, 1) := by decide +kernel
theorem dX12_lampsOn_3 : decode cX12_lampsOn 3 = .ok (.istore 4, 2) := by decide +kernel
theorem dX12_lampsOn_5 : decode cX12_lampsOn 5 = .ok (.iload 4, 2) := by decide +kernel
theorem dX12_lampsOn_7 : decode cX12_lampsOn 7 = .ok (.aload_n 0, 1) := by decide +kernel
theorem dX12_lampsOn_8 : decode cX12_lampsOn 8 = .ok (.getfield 7, 3) := by decide +kernel
theorem dX12_lampsOn_11 : decode cX12_lampsOn 11 = .ok (.iload_n 1, 1) := by decide +kernel
theorem dX12_lampsOn_12 : decode cX12_lampsOn 12 = .ok (.iconst 2, 1) := by decide +kernel
theorem dX12_lampsOn_13 : decode cX12_lampsOn 13 = .ok (.invokestatic 38, 3) := by decide +kernel
theorem dX12_lampsOn_16 : decode cX12_lampsOn 16 = .ok (.iaload, 1) := by decide +kernel
theorem dX12_lampsOn_17 : decode cX12_lampsOn 17 = .ok (.if_icmp .ge 33, 3) := by decide +kernel
theorem dX12_lampsOn_20 : decode cX12_lampsOn 20 = .ok (.iload_n 3, 1) := by decide +kernel
theorem dX12_lampsOn_21 : decode cX12_lampsOn 21 = .ok (.aload_n 0, 1) := by decide +kernel
theorem dX12_lampsOn_22 : decode cX12_lampsOn 22 = .ok (.getfield 7, 3) := by decide +kernel
theorem dX12_lampsOn_25 : decode cX12_lampsOn 25 = .ok (.iload_n 1, 1) := by decide +kernel
theorem dX12_lampsOn_26 : decode cX12_lampsOn 26 = .ok (.iload 4, 2) := by decide +kernel
theorem dX12_lampsOn_28 : decode cX12_lampsOn 28 = .ok (.iconst 1, 1) := by decide +kernel
theorem dX12_lampsOn_29 : decode cX12_lampsOn 29 = .ok (.invokestatic 54, 3) := by decide +kernel
theorem dX12_lampsOn_32 : decode cX12_lampsOn 32 = .ok (.iaload, 1) := by decide +kernel
theorem dX12_lampsOn_33 : decode cX12_lampsOn 33 = .ok (.iload_n 2, 1) := by decide +kernel
theorem dX12_lampsOn_34 : decode cX12_lampsOn 34 = .ok (.if_icmp .ne 7, 3) := by decide +kernel
theorem dX12_lampsOn_37 : decode cX12_lampsOn 37 = .ok (.iconst 1, 1) := by decide +kernel
theorem dX12_lampsOn_38 : decode cX12_lampsOn 38 = .ok (.goto 4, 3) := by decide +kernel
theorem dX12_lampsOn_41 : decode cX12_lampsOn 41 = .ok (.iconst 0, 1) := by decide +kernel
theorem dX12_lampsOn_42 : decode cX12_lampsOn 42 = .ok (.iadd, 1) := by decide +kernel
theorem dX12_lampsOn_43 : decode cX12_lampsOn 43 = .ok (.istore_n 3, 1) := by decide +kernel
theorem dX12_lampsOn_44 : decode cX12_lampsOn 44 = .ok (.iinc 4 1, 3) := by decide +kernel
theorem dX12_lampsOn_47 : decode cX12_lampsOn 47 = .ok (.goto (-42), 3) := by decide +kernel
theorem dX12_lampsOn_50 : decode cX12_lampsOn 50 = .ok (.iload_n 3, 1) := by decide +kernel
theorem dX12_lampsOn_51 : decode cX12_lampsOn 51 = .ok (.ireturn, 1) := by decide +kernel
theorem dX12_dimmer_0 : decode cX12_dimmer 0 = .ok (.iload_n 1, 1) := by decide +kernel
theorem dX12_dimmer_1 : decode cX12_dimmer 1 = .ok (.invokestatic 46, 3) := by decide +kernel
theorem dX12_dimmer_4 : decode cX12_dimmer 4 = .ok (.ifCond .eq 10, 3) := by decide +kernel
theorem dX12_dimmer_7 : decode cX12_dimmer 7 = .ok (.iload_n 2, 1) := by decide +kernel
theorem dX12_dimmer_8 : decode cX12_dimmer 8 = .ok (.invokestatic 80, 3) := by decide +kernel
theorem dX12_dimmer_11 : decode cX12_dimmer 11 = .ok (.ifCond .ne 5, 3) := by decide +kernel
theorem dX12_dimmer_14 : decode cX12_dimmer 14 = .ok (.iconst (-1), 1) := by decide +kernel
theorem dX12_dimmer_15 : decode cX12_dimmer 15 = .ok (.ireturn, 1) := by decide +kernel
theorem dX12_dimmer_16 : decode cX12_dimmer 16 = .ok (.iload_n 3, 1) := by decide +kernel
theorem dX12_dimmer_17 : decode cX12_dimmer 17 = .ok (.tableswitch 102 0 5 #[39, 53, 60, 74, 88, 95], 39) := by decide +kernel
theorem dX12_dimmer_56 : decode cX12_dimmer 56 = .ok (.aload_n 0, 1) := by decide +kernel
theorem dX12_dimmer_57 : decode cX12_dimmer 57 = .ok (.getfield 7, 3) := by decide +kernel
theorem dX12_dimmer_60 : decode cX12_dimmer 60 = .ok (.iload_n 1, 1) := by decide +kernel
theorem dX12_dimmer_61 : decode cX12_dimmer 61 = .ok (.bipush 75, 2) := by decide +kernel
theorem dX12_dimmer_63 : decode cX12_dimmer 63 = .ok (.iload_n 2, 1) := by decide +kernel
theorem dX12_dimmer_64 : decode cX12_dimmer 64 = .ok (.iadd, 1) := by decide +kernel
theorem dX12_dimmer_65 : decode cX12_dimmer 65 = .ok (.invokestatic 38, 3) := by decide +kernel
theorem dX12_dimmer_68 : decode cX12_dimmer 68 = .ok (.iaload, 1) := by decide +kernel
theorem dX12_dimmer_69 : decode cX12_dimmer 69 = .ok (.ireturn, 1) := by decide +kernel
theorem dX12_dimmer_70 : decode cX12_dimmer 70 = .ok (.aload_n 0, 1) := by decide +kernel
theorem dX12_dimmer_71 : decode cX12_dimmer 71 = .ok (.iload_n 1, 1) := by decide +kernel
theorem dX12_dimmer_72 : decode cX12_dimmer 72 = .ok (.iload_n 2, 1) := by decide +kernel
theorem dX12_dimmer_73 : decode cX12_dimmer 73 = .ok (.invokevirtual 70, 3) := by decide +kernel
theorem dX12_dimmer_76 : decode cX12_dimmer 76 = .ok (.ireturn, 1) := by decide +kernel
theorem dX12_dimmer_77 : decode cX12_dimmer 77 = .ok (.aload_n 0, 1) := by decide +kernel
theorem dX12_dimmer_78 : decode cX12_dimmer 78 = .ok (.getfield 7, 3) := by decide +kernel
theorem dX12_dimmer_81 : decode cX12_dimmer 81 = .ok (.iload_n 1, 1) := by decide +kernel
theorem dX12_dimmer_82 : decode cX12_dimmer 82 = .ok (.bipush 87, 2) := by decide +kernel
theorem dX12_dimmer_84 : decode cX12_dimmer 84 = .ok (.iload_n 2, 1) := by decide +kernel
theorem dX12_dimmer_85 : decode cX12_dimmer 85 = .ok (.iadd, 1) := by decide +kernel
theorem dX12_dimmer_86 : decode cX12_dimmer 86 = .ok (.invokestatic 38, 3) := by decide +kernel
theorem dX12_dimmer_89 : decode cX12_dimmer 89 = .ok (.iaload, 1) := by decide +kernel
theorem dX12_dimmer_90 : decode cX12_dimmer 90 = .ok (.ireturn, 1) := by decide +kernel
theorem dX12_dimmer_91 : decode cX12_dimmer 91 = .ok (.aload_n 0, 1) := by decide +kernel
theorem dX12_dimmer_92 : decode cX12_dimmer 92 = .ok (.getfield 7, 3) := by decide +kernel
theorem dX12_dimmer_95 : decode cX12_dimmer 95 = .ok (.iload_n 1, 1) := by decide +kernel
theorem dX12_dimmer_96 : decode cX12_dimmer 96 = .ok (.bipush 102, 2) := by decide +kernel
theorem dX12_dimmer_98 : decode cX12_dimmer 98 = .ok (.iload_n 2, 1) := by decide +kernel
theorem dX12_dimmer_99 : decode cX12_dimmer 99 = .ok (.iadd, 1) := by decide +kernel
theorem dX12_dimmer_100 : decode cX12_dimmer 100 = .ok (.invokestatic 38, 3) := by decide +kernel
theorem dX12_dimmer_103 : decode cX12_dimmer 103 = .ok (.iaload, 1) := by decide +kernel
theorem dX12_dimmer_104 : decode cX12_dimmer 104 = .ok (.ireturn, 1) := by decide +kernel
theorem dX12_dimmer_105 : decode cX12_dimmer 105 = .ok (.aload_n 0, 1) := by decide +kernel
theorem dX12_dimmer_106 : decode cX12_dimmer 106 = .ok (.iload_n 1, 1) := by decide +kernel
theorem dX12_dimmer_107 : decode cX12_dimmer 107 = .ok (.iload_n 2, 1) := by decide +kernel
theorem dX12_dimmer_108 : decode cX12_dimmer 108 = .ok (.invokevirtual 165, 3) := by decide +kernel
theorem dX12_dimmer_111 : decode cX12_dimmer 111 = .ok (.ireturn, 1) := by decide +kernel
theorem dX12_dimmer_112 : decode cX12_dimmer 112 = .ok (.aload_n 0, 1) := by decide +kernel
theorem dX12_dimmer_113 : decode cX12_dimmer 113 = .ok (.iload_n 1, 1) := by decide +kernel
theorem dX12_dimmer_114 : decode cX12_dimmer 114 = .ok (.iload_n 2, 1) := by decide +kernel
theorem dX12_dimmer_115 : decode cX12_dimmer 115 = .ok (.invokevirtual 87, 3) := by decide +kernel
theorem dX12_dimmer_118 : decode cX12_dimmer 118 = .ok (.ireturn, 1) := by decide +kernel
theorem dX12_dimmer_119 : decode cX12_dimmer 119 = .ok (.bipush (-2), 2) := by decide +kernel
theorem dX12_dimmer_121 : decode cX12_dimmer 121 = .ok (.ireturn, 1) := by decide +kernel
theorem dX12_dimmersOf_0 : decode cX12_dimmersOf 0 = .ok (.iconst 0, 1) := by decide +kernel
theorem dX12_dimmersOf_1 : decode cX12_dimmersOf 1 = .ok (.istore_n 3, 1) := by decide +kernel
theorem dX12_dimmersOf_2 : decode cX12_dimmersOf 2 = .ok (.iconst 0, 1) := by decide +kernel
theorem dX12_dimmersOf_3 : decode cX12_dimmersOf 3 = .ok (.istore 4, 2) := by decide +kernel
theorem dX12_dimmersOf_5 : decode cX12_dimmersOf 5 = .ok (.iload 4, 2) := by decide +kernel
theorem dX12_dimmersOf_7 : decode cX12_dimmersOf 7 = .ok (.bipush 12, 2) := by decide +kernel
theorem dX12_dimmersOf_9 : decode cX12_dimmersOf 9 = .ok (.if_icmp .ge 38, 3) := by decide +kernel
theorem dX12_dimmersOf_12 : decode cX12_dimmersOf 12 = .ok (.iload_n 3, 1) := by decide +kernel
theorem dX12_dimmersOf_13 : decode cX12_dimmersOf 13 = .ok (.aload_n 0, 1) := by decide +kernel
theorem dX12_dimmersOf_14 : decode cX12_dimmersOf 14 = .ok (.getfield 7, 3) := by decide +kernel
theorem dX12_dimmersOf_17 : decode cX12_dimmersOf 17 = .ok (.iload_n 1, 1) := by decide +kernel
theorem dX12_dimmersOf_18 : decode cX12_dimmersOf 18 = .ok (.bipush 75, 2) := by decide +kernel
theorem dX12_dimmersOf_20 : decode cX12_dimmersOf 20 = .ok (.iload 4, 2) := by decide +kernel
theorem dX12_dimmersOf_22 : decode cX12_dimmersOf 22 = .ok (.iadd, 1) := by decide +kernel
theorem dX12_dimmersOf_23 : decode cX12_dimmersOf 23 = .ok (.invokestatic 38, 3) := by decide +kernel
theorem dX12_dimmersOf_26 : decode cX12_dimmersOf 26 = .ok (.iaload, 1) := by decide +kernel
theorem dX12_dimmersOf_27 : decode cX12_dimmersOf 27 = .ok (.iload_n 2, 1) := by decide +kernel
theorem dX12_dimmersOf_28 : decode cX12_dimmersOf 28 = .ok (.if_icmp .ne 10, 3) := by decide +kernel
theorem dX12_dimmersOf_31 : decode cX12_dimmersOf 31 = .ok (.iconst 1, 1) := by decide +kernel
theorem dX12_dimmersOf_32 : decode cX12_dimmersOf 32 = .ok (.iload 4, 2) := by decide +kernel
theorem dX12_dimmersOf_34 : decode cX12_dimmersOf 34 = .ok (.ishl, 1) := by decide +kernel
theorem dX12_dimmersOf_35 : decode cX12_dimmersOf 35 = .ok (.goto 4, 3) := by decide +kernel
theorem dX12_dimmersOf_38 : decode cX12_dimmersOf 38 = .ok (.iconst 0, 1) := by decide +kernel
theorem dX12_dimmersOf_39 : decode cX12_dimmersOf 39 = .ok (.ior, 1) := by decide +kernel
theorem dX12_dimmersOf_40 : decode cX12_dimmersOf 40 = .ok (.istore_n 3, 1) := by decide +kernel
theorem dX12_dimmersOf_41 : decode cX12_dimmersOf 41 = .ok (.iinc 4 1, 3) := by decide +kernel
theorem dX12_dimmersOf_44 : decode cX12_dimmersOf 44 = .ok (.goto (-39), 3) := by decide +kernel
theorem dX12_dimmersOf_47 : decode cX12_dimmersOf 47 = .ok (.iload_n 3, 1) := by decide +kernel
theorem dX12_dimmersOf_48 : decode cX12_dimmersOf 48 = .ok (.ireturn, 1) := by decide +kernel
theorem dX12_phase_0 : decode cX12_phase 0 = .ok (.iload_n 1, 1) := by decide +kernel
theorem dX12_phase_1 : decode cX12_phase 1 = .ok (.invokestatic 46, 3) := by decide +kernel
theorem dX12_phase_4 : decode cX12_phase 4 = .ok (.ifCond .eq 12, 3) := by decide +kernel
theorem dX12_phase_7 : decode cX12_phase 7 = .ok (.iload_n 2, 1) := by decide +kernel
theorem dX12_phase_8 : decode cX12_phase 8 = .ok (.iconst 0, 1) := by decide +kernel
theorem dX12_phase_9 : decode cX12_phase 9 = .ok (.iconst 2, 1) := by decide +kernel
theorem dX12_phase_10 : decode cX12_phase 10 = .ok (.invokestatic 42, 3) := by decide +kernel
theorem dX12_phase_13 : decode cX12_phase 13 = .ok (.ifCond .ne 5, 3) := by decide +kernel
theorem dX12_phase_16 : decode cX12_phase 16 = .ok (.iconst (-1), 1) := by decide +kernel
theorem dX12_phase_17 : decode cX12_phase 17 = .ok (.ireturn, 1) := by decide +kernel
theorem dX12_phase_18 : decode cX12_phase 18 = .ok (.iload_n 3, 1) := by decide +kernel
theorem dX12_phase_19 : decode cX12_phase 19 = .ok (.tableswitch 88 0 4 #[33, 43, 57, 71, 78], 33) := by decide +kernel
theorem dX12_phase_52 : decode cX12_phase 52 = .ok (.aload_n 0, 1) := by decide +kernel
theorem dX12_phase_53 : decode cX12_phase 53 = .ok (.iload_n 1, 1) := by decide +kernel
theorem dX12_phase_54 : decode cX12_phase 54 = .ok (.bipush 12, 2) := by decide +kernel
theorem dX12_phase_56 : decode cX12_phase 56 = .ok (.iload_n 2, 1) := by decide +kernel
theorem dX12_phase_57 : decode cX12_phase 57 = .ok (.iadd, 1) := by decide +kernel
theorem dX12_phase_58 : decode cX12_phase 58 = .ok (.invokevirtual 70, 3) := by decide +kernel
theorem dX12_phase_61 : decode cX12_phase 61 = .ok (.ireturn, 1) := by decide +kernel
theorem dX12_phase_62 : decode cX12_phase 62 = .ok (.aload_n 0, 1) := by decide +kernel
theorem dX12_phase_63 : decode cX12_phase 63 = .ok (.getfield 7, 3) := by decide +kernel
theorem dX12_phase_66 : decode cX12_phase 66 = .ok (.iload_n 1, 1) := by decide +kernel
theorem dX12_phase_67 : decode cX12_phase 67 = .ok (.bipush 99, 2) := by decide +kernel
theorem dX12_phase_69 : decode cX12_phase 69 = .ok (.iload_n 2, 1) := by decide +kernel
theorem dX12_phase_70 : decode cX12_phase 70 = .ok (.iadd, 1) := by decide +kernel
theorem dX12_phase_71 : decode cX12_phase 71 = .ok (.invokestatic 38, 3) := by decide +kernel
theorem dX12_phase_74 : decode cX12_phase 74 = .ok (.iaload, 1) := by decide +kernel
theorem dX12_phase_75 : decode cX12_phase 75 = .ok (.ireturn, 1) := by decide +kernel
theorem dX12_phase_76 : decode cX12_phase 76 = .ok (.aload_n 0, 1) := by decide +kernel
theorem dX12_phase_77 : decode cX12_phase 77 = .ok (.getfield 7, 3) := by decide +kernel
theorem dX12_phase_80 : decode cX12_phase 80 = .ok (.iload_n 1, 1) := by decide +kernel
theorem dX12_phase_81 : decode cX12_phase 81 = .ok (.bipush 114, 2) := by decide +kernel
theorem dX12_phase_83 : decode cX12_phase 83 = .ok (.iload_n 2, 1) := by decide +kernel
theorem dX12_phase_84 : decode cX12_phase 84 = .ok (.iadd, 1) := by decide +kernel
theorem dX12_phase_85 : decode cX12_phase 85 = .ok (.invokestatic 38, 3) := by decide +kernel
theorem dX12_phase_88 : decode cX12_phase 88 = .ok (.iaload, 1) := by decide +kernel
theorem dX12_phase_89 : decode cX12_phase 89 = .ok (.ireturn, 1) := by decide +kernel
theorem dX12_phase_90 : decode cX12_phase 90 = .ok (.aload_n 0, 1) := by decide +kernel
theorem dX12_phase_91 : decode cX12_phase 91 = .ok (.iload_n 1, 1) := by decide +kernel
theorem dX12_phase_92 : decode cX12_phase 92 = .ok (.iload_n 2, 1) := by decide +kernel
theorem dX12_phase_93 : decode cX12_phase 93 = .ok (.invokevirtual 168, 3) := by decide +kernel
theorem dX12_phase_96 : decode cX12_phase 96 = .ok (.ireturn, 1) := by decide +kernel
theorem dX12_phase_97 : decode cX12_phase 97 = .ok (.aload_n 0, 1) := by decide +kernel
theorem dX12_phase_98 : decode cX12_phase 98 = .ok (.iload_n 1, 1) := by decide +kernel
theorem dX12_phase_99 : decode cX12_phase 99 = .ok (.bipush 12, 2) := by decide +kernel
theorem dX12_phase_101 : decode cX12_phase 101 = .ok (.iload_n 2, 1) := by decide +kernel
theorem dX12_phase_102 : decode cX12_phase 102 = .ok (.iadd, 1) := by decide +kernel
theorem dX12_phase_103 : decode cX12_phase 103 = .ok (.invokevirtual 87, 3) := by decide +kernel
