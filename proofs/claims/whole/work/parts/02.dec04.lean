theorem dX12_phase_106 : decode cX12_phase 106 = .ok (.ireturn, 1) := by decide +kernel
theorem dX12_phase_107 : decode cX12_phase 107 = .ok (.bipush (-2), 2) := by decide +kernel
theorem dX12_phase_109 : decode cX12_phase 109 = .ok (.ireturn, 1) := by decide +kernel
theorem dX12_cue_0 : decode cX12_cue 0 = .ok (.iload_n 1, 1) := by decide +kernel
theorem dX12_cue_1 : decode cX12_cue 1 = .ok (.iload_n 2, 1) := by decide +kernel
theorem dX12_cue_2 : decode cX12_cue 2 = .ok (.invokestatic 93, 3) := by decide +kernel
theorem dX12_cue_5 : decode cX12_cue 5 = .ok (.ifCond .ne 5, 3) := by decide +kernel
theorem dX12_cue_8 : decode cX12_cue 8 = .ok (.iconst (-1), 1) := by decide +kernel
theorem dX12_cue_9 : decode cX12_cue 9 = .ok (.ireturn, 1) := by decide +kernel
theorem dX12_cue_10 : decode cX12_cue 10 = .ok (.aload_n 0, 1) := by decide +kernel
theorem dX12_cue_11 : decode cX12_cue 11 = .ok (.getfield 7, 3) := by decide +kernel
theorem dX12_cue_14 : decode cX12_cue 14 = .ok (.iload_n 1, 1) := by decide +kernel
theorem dX12_cue_15 : decode cX12_cue 15 = .ok (.iload_n 2, 1) := by decide +kernel
theorem dX12_cue_16 : decode cX12_cue 16 = .ok (.invokestatic 64, 3) := by decide +kernel
theorem dX12_cue_19 : decode cX12_cue 19 = .ok (.iaload, 1) := by decide +kernel
theorem dX12_cue_20 : decode cX12_cue 20 = .ok (.istore 4, 2) := by decide +kernel
theorem dX12_cue_22 : decode cX12_cue 22 = .ok (.iload_n 3, 1) := by decide +kernel
theorem dX12_cue_23 : decode cX12_cue 23 = .ok (.ifCond .ne 16, 3) := by decide +kernel
theorem dX12_cue_26 : decode cX12_cue 26 = .ok (.iload 4, 2) := by decide +kernel
theorem dX12_cue_28 : decode cX12_cue 28 = .ok (.ifCond .le 7, 3) := by decide +kernel
theorem dX12_cue_31 : decode cX12_cue 31 = .ok (.iconst 1, 1) := by decide +kernel
theorem dX12_cue_32 : decode cX12_cue 32 = .ok (.goto 35, 3) := by decide +kernel
theorem dX12_cue_35 : decode cX12_cue 35 = .ok (.iconst 0, 1) := by decide +kernel
theorem dX12_cue_36 : decode cX12_cue 36 = .ok (.goto 31, 3) := by decide +kernel
theorem dX12_cue_39 : decode cX12_cue 39 = .ok (.iload_n 3, 1) := by decide +kernel
theorem dX12_cue_40 : decode cX12_cue 40 = .ok (.iconst 1, 1) := by decide +kernel
theorem dX12_cue_41 : decode cX12_cue 41 = .ok (.if_icmp .ne 8, 3) := by decide +kernel
theorem dX12_cue_44 : decode cX12_cue 44 = .ok (.iload 4, 2) := by decide +kernel
theorem dX12_cue_46 : decode cX12_cue 46 = .ok (.goto 21, 3) := by decide +kernel
theorem dX12_cue_49 : decode cX12_cue 49 = .ok (.iload_n 3, 1) := by decide +kernel
theorem dX12_cue_50 : decode cX12_cue 50 = .ok (.iconst 2, 1) := by decide +kernel
theorem dX12_cue_51 : decode cX12_cue 51 = .ok (.if_icmp .ne 14, 3) := by decide +kernel
theorem dX12_cue_54 : decode cX12_cue 54 = .ok (.aload_n 0, 1) := by decide +kernel
theorem dX12_cue_55 : decode cX12_cue 55 = .ok (.iload_n 1, 1) := by decide +kernel
theorem dX12_cue_56 : decode cX12_cue 56 = .ok (.bipush 15, 2) := by decide +kernel
theorem dX12_cue_58 : decode cX12_cue 58 = .ok (.iload_n 2, 1) := by decide +kernel
theorem dX12_cue_59 : decode cX12_cue 59 = .ok (.invokevirtual 67, 3) := by decide +kernel
theorem dX12_cue_62 : decode cX12_cue 62 = .ok (.goto 5, 3) := by decide +kernel
theorem dX12_cue_65 : decode cX12_cue 65 = .ok (.bipush (-2), 2) := by decide +kernel
theorem dX12_cue_67 : decode cX12_cue 67 = .ok (.ireturn, 1) := by decide +kernel
theorem dX12_inCue_0 : decode cX12_inCue 0 = .ok (.iload_n 1, 1) := by decide +kernel
theorem dX12_inCue_1 : decode cX12_inCue 1 = .ok (.iload_n 2, 1) := by decide +kernel
theorem dX12_inCue_2 : decode cX12_inCue 2 = .ok (.invokestatic 93, 3) := by decide +kernel
theorem dX12_inCue_5 : decode cX12_inCue 5 = .ok (.ifCond .eq 12, 3) := by decide +kernel
theorem dX12_inCue_8 : decode cX12_inCue 8 = .ok (.aload_n 0, 1) := by decide +kernel
theorem dX12_inCue_9 : decode cX12_inCue 9 = .ok (.iload_n 1, 1) := by decide +kernel
theorem dX12_inCue_10 : decode cX12_inCue 10 = .ok (.iload_n 3, 1) := by decide +kernel
theorem dX12_inCue_11 : decode cX12_inCue 11 = .ok (.invokevirtual 83, 3) := by decide +kernel
theorem dX12_inCue_14 : decode cX12_inCue 14 = .ok (.ifCond .ne 5, 3) := by decide +kernel
theorem dX12_inCue_17 : decode cX12_inCue 17 = .ok (.iconst (-1), 1) := by decide +kernel
theorem dX12_inCue_18 : decode cX12_inCue 18 = .ok (.ireturn, 1) := by decide +kernel
theorem dX12_inCue_19 : decode cX12_inCue 19 = .ok (.aload_n 0, 1) := by decide +kernel
theorem dX12_inCue_20 : decode cX12_inCue 20 = .ok (.getfield 7, 3) := by decide +kernel
theorem dX12_inCue_23 : decode cX12_inCue 23 = .ok (.iload_n 1, 1) := by decide +kernel
theorem dX12_inCue_24 : decode cX12_inCue 24 = .ok (.iload_n 2, 1) := by decide +kernel
theorem dX12_inCue_25 : decode cX12_inCue 25 = .ok (.invokestatic 64, 3) := by decide +kernel
theorem dX12_inCue_28 : decode cX12_inCue 28 = .ok (.iaload, 1) := by decide +kernel
theorem dX12_inCue_29 : decode cX12_inCue 29 = .ok (.ifCond .ne 8, 3) := by decide +kernel
theorem dX12_inCue_32 : decode cX12_inCue 32 = .ok (.bipush (-6), 2) := by decide +kernel
theorem dX12_inCue_34 : decode cX12_inCue 34 = .ok (.goto 17, 3) := by decide +kernel
theorem dX12_inCue_37 : decode cX12_inCue 37 = .ok (.aload_n 0, 1) := by decide +kernel
theorem dX12_inCue_38 : decode cX12_inCue 38 = .ok (.getfield 7, 3) := by decide +kernel
theorem dX12_inCue_41 : decode cX12_inCue 41 = .ok (.iload_n 1, 1) := by decide +kernel
theorem dX12_inCue_42 : decode cX12_inCue 42 = .ok (.iload_n 2, 1) := by decide +kernel
theorem dX12_inCue_43 : decode cX12_inCue 43 = .ok (.invokestatic 64, 3) := by decide +kernel
theorem dX12_inCue_46 : decode cX12_inCue 46 = .ok (.iconst 1, 1) := by decide +kernel
theorem dX12_inCue_47 : decode cX12_inCue 47 = .ok (.iadd, 1) := by decide +kernel
theorem dX12_inCue_48 : decode cX12_inCue 48 = .ok (.iload_n 3, 1) := by decide +kernel
theorem dX12_inCue_49 : decode cX12_inCue 49 = .ok (.iadd, 1) := by decide +kernel
theorem dX12_inCue_50 : decode cX12_inCue 50 = .ok (.iaload, 1) := by decide +kernel
theorem dX12_inCue_51 : decode cX12_inCue 51 = .ok (.ireturn, 1) := by decide +kernel
theorem dX12_loadOf_0 : decode cX12_loadOf 0 = .ok (.aload_n 0, 1) := by decide +kernel
theorem dX12_loadOf_1 : decode cX12_loadOf 1 = .ok (.iload_n 1, 1) := by decide +kernel
theorem dX12_loadOf_2 : decode cX12_loadOf 2 = .ok (.bipush 12, 2) := by decide +kernel
theorem dX12_loadOf_4 : decode cX12_loadOf 4 = .ok (.invokevirtual 70, 3) := by decide +kernel
theorem dX12_loadOf_7 : decode cX12_loadOf 7 = .ok (.aload_n 0, 1) := by decide +kernel
theorem dX12_loadOf_8 : decode cX12_loadOf 8 = .ok (.iload_n 1, 1) := by decide +kernel
theorem dX12_loadOf_9 : decode cX12_loadOf 9 = .ok (.bipush 13, 2) := by decide +kernel
theorem dX12_loadOf_11 : decode cX12_loadOf 11 = .ok (.invokevirtual 70, 3) := by decide +kernel
theorem dX12_loadOf_14 : decode cX12_loadOf 14 = .ok (.iadd, 1) := by decide +kernel
theorem dX12_loadOf_15 : decode cX12_loadOf 15 = .ok (.aload_n 0, 1) := by decide +kernel
theorem dX12_loadOf_16 : decode cX12_loadOf 16 = .ok (.iload_n 1, 1) := by decide +kernel
theorem dX12_loadOf_17 : decode cX12_loadOf 17 = .ok (.bipush 14, 2) := by decide +kernel
theorem dX12_loadOf_19 : decode cX12_loadOf 19 = .ok (.invokevirtual 70, 3) := by decide +kernel
theorem dX12_loadOf_22 : decode cX12_loadOf 22 = .ok (.iadd, 1) := by decide +kernel
theorem dX12_loadOf_23 : decode cX12_loadOf 23 = .ok (.ireturn, 1) := by decide +kernel
theorem dX12_apart_0 : decode cX12_apart 0 = .ok (.aload_n 0, 1) := by decide +kernel
theorem dX12_apart_1 : decode cX12_apart 1 = .ok (.iload_n 1, 1) := by decide +kernel
theorem dX12_apart_2 : decode cX12_apart 2 = .ok (.bipush 12, 2) := by decide +kernel
theorem dX12_apart_4 : decode cX12_apart 4 = .ok (.invokevirtual 70, 3) := by decide +kernel
theorem dX12_apart_7 : decode cX12_apart 7 = .ok (.istore_n 2, 1) := by decide +kernel
theorem dX12_apart_8 : decode cX12_apart 8 = .ok (.iload_n 2, 1) := by decide +kernel
theorem dX12_apart_9 : decode cX12_apart 9 = .ok (.istore_n 3, 1) := by decide +kernel
theorem dX12_apart_10 : decode cX12_apart 10 = .ok (.iconst 1, 1) := by decide +kernel
theorem dX12_apart_11 : decode cX12_apart 11 = .ok (.istore 4, 2) := by decide +kernel
theorem dX12_apart_13 : decode cX12_apart 13 = .ok (.iload 4, 2) := by decide +kernel
theorem dX12_apart_15 : decode cX12_apart 15 = .ok (.iconst 3, 1) := by decide +kernel
theorem dX12_apart_16 : decode cX12_apart 16 = .ok (.if_icmp .ge 47, 3) := by decide +kernel
theorem dX12_apart_19 : decode cX12_apart 19 = .ok (.aload_n 0, 1) := by decide +kernel
theorem dX12_apart_20 : decode cX12_apart 20 = .ok (.iload_n 1, 1) := by decide +kernel
theorem dX12_apart_21 : decode cX12_apart 21 = .ok (.bipush 12, 2) := by decide +kernel
theorem dX12_apart_23 : decode cX12_apart 23 = .ok (.iload 4, 2) := by decide +kernel
theorem dX12_apart_25 : decode cX12_apart 25 = .ok (.iadd, 1) := by decide +kernel
theorem dX12_apart_26 : decode cX12_apart 26 = .ok (.invokevirtual 70, 3) := by decide +kernel
theorem dX12_apart_29 : decode cX12_apart 29 = .ok (.istore 5, 2) := by decide +kernel
theorem dX12_apart_31 : decode cX12_apart 31 = .ok (.iload 5, 2) := by decide +kernel
theorem dX12_apart_33 : decode cX12_apart 33 = .ok (.iload_n 2, 1) := by decide +kernel
theorem dX12_apart_34 : decode cX12_apart 34 = .ok (.if_icmp .ge 8, 3) := by decide +kernel
theorem dX12_apart_37 : decode cX12_apart 37 = .ok (.iload 5, 2) := by decide +kernel
theorem dX12_apart_39 : decode cX12_apart 39 = .ok (.goto 4, 3) := by decide +kernel
theorem dX12_apart_42 : decode cX12_apart 42 = .ok (.iload_n 2, 1) := by decide +kernel
theorem dX12_apart_43 : decode cX12_apart 43 = .ok (.istore_n 2, 1) := by decide +kernel
theorem dX12_apart_44 : decode cX12_apart 44 = .ok (.iload 5, 2) := by decide +kernel
theorem dX12_apart_46 : decode cX12_apart 46 = .ok (.iload_n 3, 1) := by decide +kernel
theorem dX12_apart_47 : decode cX12_apart 47 = .ok (.if_icmp .le 8, 3) := by decide +kernel
theorem dX12_apart_50 : decode cX12_apart 50 = .ok (.iload 5, 2) := by decide +kernel
theorem dX12_apart_52 : decode cX12_apart 52 = .ok (.goto 4, 3) := by decide +kernel
theorem dX12_apart_55 : decode cX12_apart 55 = .ok (.iload_n 3, 1) := by decide +kernel
theorem dX12_apart_56 : decode cX12_apart 56 = .ok (.istore_n 3, 1) := by decide +kernel
theorem dX12_apart_57 : decode cX12_apart 57 = .ok (.iinc 4 1, 3) := by decide +kernel
theorem dX12_apart_60 : decode cX12_apart 60 = .ok (.goto (-47), 3) := by decide +kernel
theorem dX12_apart_63 : decode cX12_apart 63 = .ok (.iload_n 3, 1) := by decide +kernel
theorem dX12_apart_64 : decode cX12_apart 64 = .ok (.iload_n 2, 1) := by decide +kernel
theorem dX12_apart_65 : decode cX12_apart 65 = .ok (.isub, 1) := by decide +kernel
theorem dX12_apart_66 : decode cX12_apart 66 = .ok (.ireturn, 1) := by decide +kernel
theorem dX12_tripped_0 : decode cX12_tripped 0 = .ok (.iconst 0, 1) := by decide +kernel
theorem dX12_tripped_1 : decode cX12_tripped 1 = .ok (.istore 4, 2) := by decide +kernel
theorem dX12_tripped_3 : decode cX12_tripped 3 = .ok (.iconst 0, 1) := by decide +kernel
theorem dX12_tripped_4 : decode cX12_tripped 4 = .ok (.istore 5, 2) := by decide +kernel
theorem dX12_tripped_6 : decode cX12_tripped 6 = .ok (.iload 5, 2) := by decide +kernel
theorem dX12_tripped_8 : decode cX12_tripped 8 = .ok (.iload_n 3, 1) := by decide +kernel
theorem dX12_tripped_9 : decode cX12_tripped 9 = .ok (.if_icmp .ge 33, 3) := by decide +kernel
theorem dX12_tripped_12 : decode cX12_tripped 12 = .ok (.iload 4, 2) := by decide +kernel
theorem dX12_tripped_14 : decode cX12_tripped 14 = .ok (.aload_n 0, 1) := by decide +kernel
theorem dX12_tripped_15 : decode cX12_tripped 15 = .ok (.getfield 7, 3) := by decide +kernel
theorem dX12_tripped_18 : decode cX12_tripped 18 = .ok (.iload_n 1, 1) := by decide +kernel
theorem dX12_tripped_19 : decode cX12_tripped 19 = .ok (.bipush 87, 2) := by decide +kernel
theorem dX12_tripped_21 : decode cX12_tripped 21 = .ok (.iload_n 2, 1) := by decide +kernel
theorem dX12_tripped_22 : decode cX12_tripped 22 = .ok (.iadd, 1) := by decide +kernel
theorem dX12_tripped_23 : decode cX12_tripped 23 = .ok (.iload 5, 2) := by decide +kernel
theorem dX12_tripped_25 : decode cX12_tripped 25 = .ok (.iadd, 1) := by decide +kernel
theorem dX12_tripped_26 : decode cX12_tripped 26 = .ok (.invokestatic 38, 3) := by decide +kernel
theorem dX12_tripped_29 : decode cX12_tripped 29 = .ok (.iaload, 1) := by decide +kernel
theorem dX12_tripped_30 : decode cX12_tripped 30 = .ok (.iload 5, 2) := by decide +kernel
theorem dX12_tripped_32 : decode cX12_tripped 32 = .ok (.ishl, 1) := by decide +kernel
theorem dX12_tripped_33 : decode cX12_tripped 33 = .ok (.ior, 1) := by decide +kernel
theorem dX12_tripped_34 : decode cX12_tripped 34 = .ok (.istore 4, 2) := by decide +kernel
theorem dX12_tripped_36 : decode cX12_tripped 36 = .ok (.iinc 5 1, 3) := by decide +kernel
theorem dX12_tripped_39 : decode cX12_tripped 39 = .ok (.goto (-33), 3) := by decide +kernel
theorem dX12_tripped_42 : decode cX12_tripped 42 = .ok (.iload 4, 2) := by decide +kernel
theorem dX12_tripped_44 : decode cX12_tripped 44 = .ok (.ireturn, 1) := by decide +kernel
theorem dX12_recorded_0 : decode cX12_recorded 0 = .ok (.iconst 0, 1) := by decide +kernel
theorem dX12_recorded_1 : decode cX12_recorded 1 = .ok (.istore_n 2, 1) := by decide +kernel
theorem dX12_recorded_2 : decode cX12_recorded 2 = .ok (.iconst 0, 1) := by decide +kernel
theorem dX12_recorded_3 : decode cX12_recorded 3 = .ok (.istore_n 3, 1) := by decide +kernel
theorem dX12_recorded_4 : decode cX12_recorded 4 = .ok (.iload_n 3, 1) := by decide +kernel
theorem dX12_recorded_5 : decode cX12_recorded 5 = .ok (.bipush 8, 2) := by decide +kernel
theorem dX12_recorded_7 : decode cX12_recorded 7 = .ok (.if_icmp .ge 32, 3) := by decide +kernel
theorem dX12_recorded_10 : decode cX12_recorded 10 = .ok (.iload_n 2, 1) := by decide +kernel
theorem dX12_recorded_11 : decode cX12_recorded 11 = .ok (.aload_n 0, 1) := by decide +kernel
theorem dX12_recorded_12 : decode cX12_recorded 12 = .ok (.getfield 7, 3) := by decide +kernel
theorem dX12_recorded_15 : decode cX12_recorded 15 = .ok (.iload_n 1, 1) := by decide +kernel
theorem dX12_recorded_16 : decode cX12_recorded 16 = .ok (.iload_n 3, 1) := by decide +kernel
theorem dX12_recorded_17 : decode cX12_recorded 17 = .ok (.invokestatic 64, 3) := by decide +kernel
theorem dX12_recorded_20 : decode cX12_recorded 20 = .ok (.iaload, 1) := by decide +kernel
theorem dX12_recorded_21 : decode cX12_recorded 21 = .ok (.ifCond .le 9, 3) := by decide +kernel
theorem dX12_recorded_24 : decode cX12_recorded 24 = .ok (.iconst 1, 1) := by decide +kernel
theorem dX12_recorded_25 : decode cX12_recorded 25 = .ok (.iload_n 3, 1) := by decide +kernel
theorem dX12_recorded_26 : decode cX12_recorded 26 = .ok (.ishl, 1) := by decide +kernel
theorem dX12_recorded_27 : decode cX12_recorded 27 = .ok (.goto 4, 3) := by decide +kernel
theorem dX12_recorded_30 : decode cX12_recorded 30 = .ok (.iconst 0, 1) := by decide +kernel
theorem dX12_recorded_31 : decode cX12_recorded 31 = .ok (.ior, 1) := by decide +kernel
theorem dX12_recorded_32 : decode cX12_recorded 32 = .ok (.istore_n 2, 1) := by decide +kernel
theorem dX12_recorded_33 : decode cX12_recorded 33 = .ok (.iinc 3 1, 3) := by decide +kernel
theorem dX12_recorded_36 : decode cX12_recorded 36 = .ok (.goto (-32), 3) := by decide +kernel
theorem dX12_recorded_39 : decode cX12_recorded 39 = .ok (.iload_n 2, 1) := by decide +kernel
theorem dX12_recorded_40 : decode cX12_recorded 40 = .ok (.ireturn, 1) := by decide +kernel
theorem dX12_of_0 : decode cX12_of 0 = .ok (.iload_n 1, 1) := by decide +kernel
theorem dX12_of_1 : decode cX12_of 1 = .ok (.invokestatic 46, 3) := by decide +kernel
theorem dX12_of_4 : decode cX12_of 4 = .ok (.ifCond .ne 5, 3) := by decide +kernel
theorem dX12_of_7 : decode cX12_of 7 = .ok (.iconst (-1), 1) := by decide +kernel
theorem dX12_of_8 : decode cX12_of 8 = .ok (.ireturn, 1) := by decide +kernel
theorem dX12_of_9 : decode cX12_of 9 = .ok (.iload_n 2, 1) := by decide +kernel
theorem dX12_of_10 : decode cX12_of 10 = .ok (.tableswitch 142 0 8 #[50, 50, 50, 61, 67, 112, 118, 127, 136], 50) := by decide +kernel
theorem dX12_of_60 : decode cX12_of 60 = .ok (.aload_n 0, 1) := by decide +kernel
theorem dX12_of_61 : decode cX12_of 61 = .ok (.getfield 7, 3) := by decide +kernel
theorem dX12_of_64 : decode cX12_of 64 = .ok (.iload_n 1, 1) := by decide +kernel
theorem dX12_of_65 : decode cX12_of 65 = .ok (.iload_n 2, 1) := by decide +kernel
theorem dX12_of_66 : decode cX12_of 66 = .ok (.invokestatic 38, 3) := by decide +kernel
theorem dX12_of_69 : decode cX12_of 69 = .ok (.iaload, 1) := by decide +kernel
theorem dX12_of_70 : decode cX12_of 70 = .ok (.ireturn, 1) := by decide +kernel
theorem dX12_of_71 : decode cX12_of 71 = .ok (.aload_n 0, 1) := by decide +kernel
theorem dX12_of_72 : decode cX12_of 72 = .ok (.iload_n 1, 1) := by decide +kernel
theorem dX12_of_73 : decode cX12_of 73 = .ok (.invokevirtual 171, 3) := by decide +kernel
theorem dX12_of_76 : decode cX12_of 76 = .ok (.ireturn, 1) := by decide +kernel
theorem dX12_of_77 : decode cX12_of 77 = .ok (.aload_n 0, 1) := by decide +kernel
theorem dX12_of_78 : decode cX12_of 78 = .ok (.getfield 7, 3) := by decide +kernel
theorem dX12_of_81 : decode cX12_of 81 = .ok (.iload_n 1, 1) := by decide +kernel
theorem dX12_of_82 : decode cX12_of 82 = .ok (.sipush 221, 3) := by decide +kernel
theorem dX12_of_85 : decode cX12_of 85 = .ok (.invokestatic 38, 3) := by decide +kernel
theorem dX12_of_88 : decode cX12_of 88 = .ok (.iaload, 1) := by decide +kernel
theorem dX12_of_89 : decode cX12_of 89 = .ok (.ifCond .ne 7, 3) := by decide +kernel
theorem dX12_of_92 : decode cX12_of 92 = .ok (.iconst 0, 1) := by decide +kernel
theorem dX12_of_93 : decode cX12_of 93 = .ok (.goto 28, 3) := by decide +kernel
theorem dX12_of_96 : decode cX12_of 96 = .ok (.aload_n 0, 1) := by decide +kernel
theorem dX12_of_97 : decode cX12_of 97 = .ok (.getfield 7, 3) := by decide +kernel
theorem dX12_of_100 : decode cX12_of 100 = .ok (.iload_n 1, 1) := by decide +kernel
theorem dX12_of_101 : decode cX12_of 101 = .ok (.sipush 221, 3) := by decide +kernel
theorem dX12_of_104 : decode cX12_of 104 = .ok (.invokestatic 38, 3) := by decide +kernel
theorem dX12_of_107 : decode cX12_of 107 = .ok (.iaload, 1) := by decide +kernel
theorem dX12_of_108 : decode cX12_of 108 = .ok (.aload_n 0, 1) := by decide +kernel
theorem dX12_of_109 : decode cX12_of 109 = .ok (.getfield 7, 3) := by decide +kernel
theorem dX12_of_112 : decode cX12_of 112 = .ok (.iload_n 1, 1) := by decide +kernel
theorem dX12_of_113 : decode cX12_of 113 = .ok (.sipush 222, 3) := by decide +kernel
theorem dX12_of_116 : decode cX12_of 116 = .ok (.invokestatic 38, 3) := by decide +kernel
theorem dX12_of_119 : decode cX12_of 119 = .ok (.iaload, 1) := by decide +kernel
theorem dX12_of_120 : decode cX12_of 120 = .ok (.isub, 1) := by decide +kernel
theorem dX12_of_121 : decode cX12_of 121 = .ok (.ireturn, 1) := by decide +kernel
theorem dX12_of_122 : decode cX12_of 122 = .ok (.aload_n 0, 1) := by decide +kernel
theorem dX12_of_123 : decode cX12_of 123 = .ok (.iload_n 1, 1) := by decide +kernel
theorem dX12_of_124 : decode cX12_of 124 = .ok (.invokevirtual 174, 3) := by decide +kernel
theorem dX12_of_127 : decode cX12_of 127 = .ok (.ireturn, 1) := by decide +kernel
theorem dX12_of_128 : decode cX12_of 128 = .ok (.aload_n 0, 1) := by decide +kernel
theorem dX12_of_129 : decode cX12_of 129 = .ok (.iload_n 1, 1) := by decide +kernel
theorem dX12_of_130 : decode cX12_of 130 = .ok (.iconst 0, 1) := by decide +kernel
theorem dX12_of_131 : decode cX12_of 131 = .ok (.bipush 12, 2) := by decide +kernel
theorem dX12_of_133 : decode cX12_of 133 = .ok (.invokevirtual 177, 3) := by decide +kernel
theorem dX12_of_136 : decode cX12_of 136 = .ok (.ireturn, 1) := by decide +kernel
theorem dX12_of_137 : decode cX12_of 137 = .ok (.aload_n 0, 1) := by decide +kernel
theorem dX12_of_138 : decode cX12_of 138 = .ok (.iload_n 1, 1) := by decide +kernel
theorem dX12_of_139 : decode cX12_of 139 = .ok (.bipush 12, 2) := by decide +kernel
theorem dX12_of_141 : decode cX12_of 141 = .ok (.iconst 3, 1) := by decide +kernel
theorem dX12_of_142 : decode cX12_of 142 = .ok (.invokevirtual 177, 3) := by decide +kernel
theorem dX12_of_145 : decode cX12_of 145 = .ok (.ireturn, 1) := by decide +kernel
theorem dX12_of_146 : decode cX12_of 146 = .ok (.aload_n 0, 1) := by decide +kernel
theorem dX12_of_147 : decode cX12_of 147 = .ok (.iload_n 1, 1) := by decide +kernel
theorem dX12_of_148 : decode cX12_of 148 = .ok (.invokevirtual 180, 3) := by decide +kernel
theorem dX12_of_151 : decode cX12_of 151 = .ok (.ireturn, 1) := by decide +kernel
theorem dX12_of_152 : decode cX12_of 152 = .ok (.bipush (-2), 2) := by decide +kernel
theorem dX12_of_154 : decode cX12_of 154 = .ok (.ireturn, 1) := by decide +kernel
theorem dX12_needed_0 : decode cX12_needed 0 = .ok (.iconst 0, 1) := by decide +kernel
theorem dX12_needed_1 : decode cX12_needed 1 = .ok (.istore_n 3, 1) := by decide +kernel
theorem dX12_needed_2 : decode cX12_needed 2 = .ok (.iconst 0, 1) := by decide +kernel
theorem dX12_needed_3 : decode cX12_needed 3 = .ok (.istore 4, 2) := by decide +kernel
theorem dX12_needed_5 : decode cX12_needed 5 = .ok (.iload 4, 2) := by decide +kernel
theorem dX12_needed_7 : decode cX12_needed 7 = .ok (.iconst 3, 1) := by decide +kernel
theorem dX12_needed_8 : decode cX12_needed 8 = .ok (.if_icmp .ge 88, 3) := by decide +kernel
theorem dX12_needed_11 : decode cX12_needed 11 = .ok (.iconst 0, 1) := by decide +kernel
theorem dX12_needed_12 : decode cX12_needed 12 = .ok (.istore 5, 2) := by decide +kernel
theorem dX12_needed_14 : decode cX12_needed 14 = .ok (.iload 5, 2) := by decide +kernel
theorem dX12_needed_16 : decode cX12_needed 16 = .ok (.aload_n 0, 1) := by decide +kernel
theorem dX12_needed_17 : decode cX12_needed 17 = .ok (.getfield 7, 3) := by decide +kernel
theorem dX12_needed_20 : decode cX12_needed 20 = .ok (.iload 4, 2) := by decide +kernel
theorem dX12_needed_22 : decode cX12_needed 22 = .ok (.iconst 2, 1) := by decide +kernel
theorem dX12_needed_23 : decode cX12_needed 23 = .ok (.invokestatic 38, 3) := by decide +kernel
theorem dX12_needed_26 : decode cX12_needed 26 = .ok (.iaload, 1) := by decide +kernel
theorem dX12_needed_27 : decode cX12_needed 27 = .ok (.if_icmp .ge 63, 3) := by decide +kernel
theorem dX12_needed_30 : decode cX12_needed 30 = .ok (.iload_n 2, 1) := by decide +kernel
theorem dX12_needed_31 : decode cX12_needed 31 = .ok (.aload_n 0, 1) := by decide +kernel
theorem dX12_needed_32 : decode cX12_needed 32 = .ok (.getfield 7, 3) := by decide +kernel
theorem dX12_needed_35 : decode cX12_needed 35 = .ok (.iload 4, 2) := by decide +kernel
theorem dX12_needed_37 : decode cX12_needed 37 = .ok (.iconst 0, 1) := by decide +kernel
theorem dX12_needed_38 : decode cX12_needed 38 = .ok (.invokestatic 38, 3) := by decide +kernel
theorem dX12_needed_41 : decode cX12_needed 41 = .ok (.iaload, 1) := by decide +kernel
theorem dX12_needed_42 : decode cX12_needed 42 = .ok (.aload_n 0, 1) := by decide +kernel
theorem dX12_needed_43 : decode cX12_needed 43 = .ok (.getfield 7, 3) := by decide +kernel
theorem dX12_needed_46 : decode cX12_needed 46 = .ok (.iload 4, 2) := by decide +kernel
theorem dX12_needed_48 : decode cX12_needed 48 = .ok (.iconst 1, 1) := by decide +kernel
theorem dX12_needed_49 : decode cX12_needed 49 = .ok (.invokestatic 38, 3) := by decide +kernel
theorem dX12_needed_52 : decode cX12_needed 52 = .ok (.iaload, 1) := by decide +kernel
theorem dX12_needed_53 : decode cX12_needed 53 = .ok (.invokestatic 42, 3) := by decide +kernel
theorem dX12_needed_56 : decode cX12_needed 56 = .ok (.ifCond .eq 34, 3) := by decide +kernel
theorem dX12_needed_59 : decode cX12_needed 59 = .ok (.iload_n 3, 1) := by decide +kernel
theorem dX12_needed_60 : decode cX12_needed 60 = .ok (.aload_n 0, 1) := by decide +kernel
theorem dX12_needed_61 : decode cX12_needed 61 = .ok (.getfield 7, 3) := by decide +kernel
theorem dX12_needed_64 : decode cX12_needed 64 = .ok (.iload 4, 2) := by decide +kernel
theorem dX12_needed_66 : decode cX12_needed 66 = .ok (.iload 5, 2) := by decide +kernel
theorem dX12_needed_68 : decode cX12_needed 68 = .ok (.iconst 0, 1) := by decide +kernel
theorem dX12_needed_69 : decode cX12_needed 69 = .ok (.invokestatic 54, 3) := by decide +kernel
theorem dX12_needed_72 : decode cX12_needed 72 = .ok (.iaload, 1) := by decide +kernel
theorem dX12_needed_73 : decode cX12_needed 73 = .ok (.iload_n 1, 1) := by decide +kernel
theorem dX12_needed_74 : decode cX12_needed 74 = .ok (.if_icmp .ne 7, 3) := by decide +kernel
theorem dX12_needed_77 : decode cX12_needed 77 = .ok (.iconst 1, 1) := by decide +kernel
theorem dX12_needed_78 : decode cX12_needed 78 = .ok (.goto 4, 3) := by decide +kernel
theorem dX12_needed_81 : decode cX12_needed 81 = .ok (.iconst 0, 1) := by decide +kernel
theorem dX12_needed_82 : decode cX12_needed 82 = .ok (.iadd, 1) := by decide +kernel
theorem dX12_needed_83 : decode cX12_needed 83 = .ok (.istore_n 3, 1) := by decide +kernel
theorem dX12_needed_84 : decode cX12_needed 84 = .ok (.iinc 5 1, 3) := by decide +kernel
theorem dX12_needed_87 : decode cX12_needed 87 = .ok (.goto (-73), 3) := by decide +kernel
theorem dX12_needed_90 : decode cX12_needed 90 = .ok (.iinc 4 1, 3) := by decide +kernel
theorem dX12_needed_93 : decode cX12_needed 93 = .ok (.goto (-88), 3) := by decide +kernel
theorem dX12_needed_96 : decode cX12_needed 96 = .ok (.iload_n 3, 1) := by decide +kernel
theorem dX12_needed_97 : decode cX12_needed 97 = .ok (.ireturn, 1) := by decide +kernel
theorem dX12_hired_0 : decode cX12_hired 0 = .ok (.aload_n 0, 1) := by decide +kernel
theorem dX12_hired_1 : decode cX12_hired 1 = .ok (.iload_n 1, 1) := by decide +kernel
theorem dX12_hired_2 : decode cX12_hired 2 = .ok (.iload_n 2, 1) := by decide +kernel
theorem dX12_hired_3 : decode cX12_hired 3 = .ok (.invokevirtual 183, 3) := by decide +kernel
theorem dX12_hired_6 : decode cX12_hired 6 = .ok (.istore 4, 2) := by decide +kernel
theorem dX12_hired_8 : decode cX12_hired 8 = .ok (.aload_n 0, 1) := by decide +kernel
theorem dX12_hired_9 : decode cX12_hired 9 = .ok (.getfield 7, 3) := by decide +kernel
theorem dX12_hired_12 : decode cX12_hired 12 = .ok (.iconst 4, 1) := by decide +kernel
theorem dX12_hired_13 : decode cX12_hired 13 = .ok (.iconst 3, 1) := by decide +kernel
theorem dX12_hired_14 : decode cX12_hired 14 = .ok (.iload_n 1, 1) := by decide +kernel
theorem dX12_hired_15 : decode cX12_hired 15 = .ok (.imul, 1) := by decide +kernel
theorem dX12_hired_16 : decode cX12_hired 16 = .ok (.iadd, 1) := by decide +kernel
theorem dX12_hired_17 : decode cX12_hired 17 = .ok (.iconst 1, 1) := by decide +kernel
theorem dX12_hired_18 : decode cX12_hired 18 = .ok (.iadd, 1) := by decide +kernel
theorem dX12_hired_19 : decode cX12_hired 19 = .ok (.iaload, 1) := by decide +kernel
theorem dX12_hired_20 : decode cX12_hired 20 = .ok (.istore 5, 2) := by decide +kernel
theorem dX12_hired_22 : decode cX12_hired 22 = .ok (.iload 4, 2) := by decide +kernel
theorem dX12_hired_24 : decode cX12_hired 24 = .ok (.iload 5, 2) := by decide +kernel
theorem dX12_hired_26 : decode cX12_hired 26 = .ok (.if_icmp .le 11, 3) := by decide +kernel
theorem dX12_hired_29 : decode cX12_hired 29 = .ok (.iload 4, 2) := by decide +kernel
theorem dX12_hired_31 : decode cX12_hired 31 = .ok (.iload 5, 2) := by decide +kernel
theorem dX12_hired_33 : decode cX12_hired 33 = .ok (.isub, 1) := by decide +kernel
theorem dX12_hired_34 : decode cX12_hired 34 = .ok (.goto 4, 3) := by decide +kernel
theorem dX12_hired_37 : decode cX12_hired 37 = .ok (.iconst 0, 1) := by decide +kernel
theorem dX12_hired_38 : decode cX12_hired 38 = .ok (.istore 6, 2) := by decide +kernel
theorem dX12_hired_40 : decode cX12_hired 40 = .ok (.iload_n 3, 1) := by decide +kernel
theorem dX12_hired_41 : decode cX12_hired 41 = .ok (.ifCond .ne 8, 3) := by decide +kernel
theorem dX12_hired_44 : decode cX12_hired 44 = .ok (.iload 4, 2) := by decide +kernel
theorem dX12_hired_46 : decode cX12_hired 46 = .ok (.goto 31, 3) := by decide +kernel
theorem dX12_hired_49 : decode cX12_hired 49 = .ok (.iload_n 3, 1) := by decide +kernel
theorem dX12_hired_50 : decode cX12_hired 50 = .ok (.iconst 1, 1) := by decide +kernel
theorem dX12_hired_51 : decode cX12_hired 51 = .ok (.if_icmp .ne 8, 3) := by decide +kernel
theorem dX12_hired_54 : decode cX12_hired 54 = .ok (.iload 6, 2) := by decide +kernel
theorem dX12_hired_56 : decode cX12_hired 56 = .ok (.goto 21, 3) := by decide +kernel
theorem dX12_hired_59 : decode cX12_hired 59 = .ok (.aload_n 0, 1) := by decide +kernel
theorem dX12_hired_60 : decode cX12_hired 60 = .ok (.getfield 7, 3) := by decide +kernel
theorem dX12_hired_63 : decode cX12_hired 63 = .ok (.iconst 4, 1) := by decide +kernel
theorem dX12_hired_64 : decode cX12_hired 64 = .ok (.iconst 3, 1) := by decide +kernel
theorem dX12_hired_65 : decode cX12_hired 65 = .ok (.iload_n 1, 1) := by decide +kernel
theorem dX12_hired_66 : decode cX12_hired 66 = .ok (.imul, 1) := by decide +kernel
theorem dX12_hired_67 : decode cX12_hired 67 = .ok (.iadd, 1) := by decide +kernel
theorem dX12_hired_68 : decode cX12_hired 68 = .ok (.iconst 2, 1) := by decide +kernel
theorem dX12_hired_69 : decode cX12_hired 69 = .ok (.iadd, 1) := by decide +kernel
theorem dX12_hired_70 : decode cX12_hired 70 = .ok (.iaload, 1) := by decide +kernel
theorem dX12_hired_71 : decode cX12_hired 71 = .ok (.iload 4, 2) := by decide +kernel
theorem dX12_hired_73 : decode cX12_hired 73 = .ok (.iload 6, 2) := by decide +kernel
theorem dX12_hired_75 : decode cX12_hired 75 = .ok (.isub, 1) := by decide +kernel
theorem dX12_hired_76 : decode cX12_hired 76 = .ok (.imul, 1) := by decide +kernel
theorem dX12_hired_77 : decode cX12_hired 77 = .ok (.ireturn, 1) := by decide +kernel
theorem dX12_hire_0 : decode cX12_hire 0 = .ok (.iload_n 1, 1) := by decide +kernel
theorem dX12_hire_1 : decode cX12_hire 1 = .ok (.iconst 0, 1) := by decide +kernel
theorem dX12_hire_2 : decode cX12_hire 2 = .ok (.aload_n 0, 1) := by decide +kernel
theorem dX12_hire_3 : decode cX12_hire 3 = .ok (.getfield 7, 3) := by decide +kernel
theorem dX12_hire_6 : decode cX12_hire 6 = .ok (.iconst 3, 1) := by decide +kernel
theorem dX12_hire_7 : decode cX12_hire 7 = .ok (.iaload, 1) := by decide +kernel
theorem dX12_hire_8 : decode cX12_hire 8 = .ok (.iconst 1, 1) := by decide +kernel
theorem dX12_hire_9 : decode cX12_hire 9 = .ok (.isub, 1) := by decide +kernel
theorem dX12_hire_10 : decode cX12_hire 10 = .ok (.invokestatic 42, 3) := by decide +kernel
theorem dX12_hire_13 : decode cX12_hire 13 = .ok (.ifCond .ne 5, 3) := by decide +kernel
theorem dX12_hire_16 : decode cX12_hire 16 = .ok (.iconst (-1), 1) := by decide +kernel
theorem dX12_hire_17 : decode cX12_hire 17 = .ok (.ireturn, 1) := by decide +kernel
theorem dX12_hire_18 : decode cX12_hire 18 = .ok (.iload_n 2, 1) := by decide +kernel
theorem dX12_hire_19 : decode cX12_hire 19 = .ok (.iconst 0, 1) := by decide +kernel
theorem dX12_hire_20 : decode cX12_hire 20 = .ok (.bipush 6, 2) := by decide +kernel
theorem dX12_hire_22 : decode cX12_hire 22 = .ok (.invokestatic 42, 3) := by decide +kernel
theorem dX12_hire_25 : decode cX12_hire 25 = .ok (.ifCond .eq 22, 3) := by decide +kernel
theorem dX12_hire_28 : decode cX12_hire 28 = .ok (.iload_n 3, 1) := by decide +kernel
theorem dX12_hire_29 : decode cX12_hire 29 = .ok (.iconst 0, 1) := by decide +kernel
theorem dX12_hire_30 : decode cX12_hire 30 = .ok (.iconst 2, 1) := by decide +kernel
theorem dX12_hire_31 : decode cX12_hire 31 = .ok (.invokestatic 42, 3) := by decide +kernel
theorem dX12_hire_34 : decode cX12_hire 34 = .ok (.ifCond .eq 13, 3) := by decide +kernel
theorem dX12_hire_37 : decode cX12_hire 37 = .ok (.aload_n 0, 1) := by decide +kernel
theorem dX12_hire_38 : decode cX12_hire 38 = .ok (.iload_n 1, 1) := by decide +kernel
theorem dX12_hire_39 : decode cX12_hire 39 = .ok (.iload_n 2, 1) := by decide +kernel
theorem dX12_hire_40 : decode cX12_hire 40 = .ok (.iload_n 3, 1) := by decide +kernel
theorem dX12_hire_41 : decode cX12_hire 41 = .ok (.invokevirtual 186, 3) := by decide +kernel
theorem dX12_hire_44 : decode cX12_hire 44 = .ok (.goto 5, 3) := by decide +kernel
theorem dX12_hire_47 : decode cX12_hire 47 = .ok (.bipush (-2), 2) := by decide +kernel
theorem dX12_hire_49 : decode cX12_hire 49 = .ok (.ireturn, 1) := by decide +kernel
theorem dX12_sum_0 : decode cX12_sum 0 = .ok (.iconst 0, 1) := by decide +kernel
theorem dX12_sum_1 : decode cX12_sum 1 = .ok (.istore_n 2, 1) := by decide +kernel
theorem dX12_sum_2 : decode cX12_sum 2 = .ok (.iconst 0, 1) := by decide +kernel
theorem dX12_sum_3 : decode cX12_sum 3 = .ok (.istore_n 3, 1) := by decide +kernel
theorem dX12_sum_4 : decode cX12_sum 4 = .ok (.iload_n 3, 1) := by decide +kernel
theorem dX12_sum_5 : decode cX12_sum 5 = .ok (.bipush 7, 2) := by decide +kernel
theorem dX12_sum_7 : decode cX12_sum 7 = .ok (.aload_n 0, 1) := by decide +kernel
theorem dX12_sum_8 : decode cX12_sum 8 = .ok (.getfield 7, 3) := by decide +kernel
theorem dX12_sum_11 : decode cX12_sum 11 = .ok (.iconst 3, 1) := by decide +kernel
theorem dX12_sum_12 : decode cX12_sum 12 = .ok (.iaload, 1) := by decide +kernel
theorem dX12_sum_13 : decode cX12_sum 13 = .ok (.imul, 1) := by decide +kernel
theorem dX12_sum_14 : decode cX12_sum 14 = .ok (.if_icmp .ge 25, 3) := by decide +kernel
theorem dX12_sum_17 : decode cX12_sum 17 = .ok (.iload_n 2, 1) := by decide +kernel
theorem dX12_sum_18 : decode cX12_sum 18 = .ok (.aload_n 0, 1) := by decide +kernel
theorem dX12_sum_19 : decode cX12_sum 19 = .ok (.iload_n 3, 1) := by decide +kernel
theorem dX12_sum_20 : decode cX12_sum 20 = .ok (.bipush 7, 2) := by decide +kernel
theorem dX12_sum_22 : decode cX12_sum 22 = .ok (.idiv, 1) := by decide +kernel
theorem dX12_sum_23 : decode cX12_sum 23 = .ok (.iload_n 3, 1) := by decide +kernel
theorem dX12_sum_24 : decode cX12_sum 24 = .ok (.bipush 7, 2) := by decide +kernel
theorem dX12_sum_26 : decode cX12_sum 26 = .ok (.irem, 1) := by decide +kernel
theorem dX12_sum_27 : decode cX12_sum 27 = .ok (.iload_n 1, 1) := by decide +kernel
theorem dX12_sum_28 : decode cX12_sum 28 = .ok (.invokevirtual 186, 3) := by decide +kernel
theorem dX12_sum_31 : decode cX12_sum 31 = .ok (.iadd, 1) := by decide +kernel
theorem dX12_sum_32 : decode cX12_sum 32 = .ok (.istore_n 2, 1) := by decide +kernel
theorem dX12_sum_33 : decode cX12_sum 33 = .ok (.iinc 3 1, 3) := by decide +kernel
theorem dX12_sum_36 : decode cX12_sum 36 = .ok (.goto (-32), 3) := by decide +kernel
theorem dX12_sum_39 : decode cX12_sum 39 = .ok (.iload_n 2, 1) := by decide +kernel
theorem dX12_sum_40 : decode cX12_sum 40 = .ok (.ireturn, 1) := by decide +kernel
theorem dX12_fullest_0 : decode cX12_fullest 0 = .ok (.iconst 0, 1) := by decide +kernel
theorem dX12_fullest_1 : decode cX12_fullest 1 = .ok (.istore_n 1, 1) := by decide +kernel
theorem dX12_fullest_2 : decode cX12_fullest 2 = .ok (.iconst (-1), 1) := by decide +kernel
theorem dX12_fullest_3 : decode cX12_fullest 3 = .ok (.istore_n 2, 1) := by decide +kernel
theorem dX12_fullest_4 : decode cX12_fullest 4 = .ok (.iconst 0, 1) := by decide +kernel
theorem dX12_fullest_5 : decode cX12_fullest 5 = .ok (.istore_n 3, 1) := by decide +kernel
theorem dX12_fullest_6 : decode cX12_fullest 6 = .ok (.iload_n 3, 1) := by decide +kernel
theorem dX12_fullest_7 : decode cX12_fullest 7 = .ok (.bipush 7, 2) := by decide +kernel
theorem dX12_fullest_9 : decode cX12_fullest 9 = .ok (.if_icmp .ge 69, 3) := by decide +kernel
theorem dX12_fullest_12 : decode cX12_fullest 12 = .ok (.iconst 0, 1) := by decide +kernel
theorem dX12_fullest_13 : decode cX12_fullest 13 = .ok (.istore 4, 2) := by decide +kernel
theorem dX12_fullest_15 : decode cX12_fullest 15 = .ok (.iconst 0, 1) := by decide +kernel
theorem dX12_fullest_16 : decode cX12_fullest 16 = .ok (.istore 5, 2) := by decide +kernel
theorem dX12_fullest_18 : decode cX12_fullest 18 = .ok (.iload 5, 2) := by decide +kernel
theorem dX12_fullest_20 : decode cX12_fullest 20 = .ok (.aload_n 0, 1) := by decide +kernel
theorem dX12_fullest_21 : decode cX12_fullest 21 = .ok (.getfield 7, 3) := by decide +kernel
theorem dX12_fullest_24 : decode cX12_fullest 24 = .ok (.iconst 3, 1) := by decide +kernel
theorem dX12_fullest_25 : decode cX12_fullest 25 = .ok (.iaload, 1) := by decide +kernel
theorem dX12_fullest_26 : decode cX12_fullest 26 = .ok (.if_icmp .ge 21, 3) := by decide +kernel
theorem dX12_fullest_29 : decode cX12_fullest 29 = .ok (.iload 4, 2) := by decide +kernel
theorem dX12_fullest_31 : decode cX12_fullest 31 = .ok (.aload_n 0, 1) := by decide +kernel
theorem dX12_fullest_32 : decode cX12_fullest 32 = .ok (.iload 5, 2) := by decide +kernel
theorem dX12_fullest_34 : decode cX12_fullest 34 = .ok (.iload_n 3, 1) := by decide +kernel
theorem dX12_fullest_35 : decode cX12_fullest 35 = .ok (.invokevirtual 183, 3) := by decide +kernel
theorem dX12_fullest_38 : decode cX12_fullest 38 = .ok (.iadd, 1) := by decide +kernel
theorem dX12_fullest_39 : decode cX12_fullest 39 = .ok (.istore 4, 2) := by decide +kernel
theorem dX12_fullest_41 : decode cX12_fullest 41 = .ok (.iinc 5 1, 3) := by decide +kernel
theorem dX12_fullest_44 : decode cX12_fullest 44 = .ok (.goto (-26), 3) := by decide +kernel
theorem dX12_fullest_47 : decode cX12_fullest 47 = .ok (.iload 4, 2) := by decide +kernel
theorem dX12_fullest_49 : decode cX12_fullest 49 = .ok (.iload_n 2, 1) := by decide +kernel
theorem dX12_fullest_50 : decode cX12_fullest 50 = .ok (.if_icmp .le 7, 3) := by decide +kernel
theorem dX12_fullest_53 : decode cX12_fullest 53 = .ok (.iload_n 3, 1) := by decide +kernel
theorem dX12_fullest_54 : decode cX12_fullest 54 = .ok (.goto 4, 3) := by decide +kernel
theorem dX12_fullest_57 : decode cX12_fullest 57 = .ok (.iload_n 1, 1) := by decide +kernel
theorem dX12_fullest_58 : decode cX12_fullest 58 = .ok (.istore_n 1, 1) := by decide +kernel
theorem dX12_fullest_59 : decode cX12_fullest 59 = .ok (.iload 4, 2) := by decide +kernel
theorem dX12_fullest_61 : decode cX12_fullest 61 = .ok (.iload_n 2, 1) := by decide +kernel
theorem dX12_fullest_62 : decode cX12_fullest 62 = .ok (.if_icmp .le 8, 3) := by decide +kernel
theorem dX12_fullest_65 : decode cX12_fullest 65 = .ok (.iload 4, 2) := by decide +kernel
theorem dX12_fullest_67 : decode cX12_fullest 67 = .ok (.goto 4, 3) := by decide +kernel
theorem dX12_fullest_70 : decode cX12_fullest 70 = .ok (.iload_n 2, 1) := by decide +kernel
theorem dX12_fullest_71 : decode cX12_fullest 71 = .ok (.istore_n 2, 1) := by decide +kernel
theorem dX12_fullest_72 : decode cX12_fullest 72 = .ok (.iinc 3 1, 3) := by decide +kernel
theorem dX12_fullest_75 : decode cX12_fullest 75 = .ok (.goto (-69), 3) := by decide +kernel
theorem dX12_fullest_78 : decode cX12_fullest 78 = .ok (.iload_n 1, 1) := by decide +kernel
theorem dX12_fullest_79 : decode cX12_fullest 79 = .ok (.ireturn, 1) := by decide +kernel
theorem dX12_count_0 : decode cX12_count 0 = .ok (.iload_n 1, 1) := by decide +kernel
theorem dX12_count_1 : decode cX12_count 1 = .ok (.tableswitch 96 0 8 #[51, 58, 64, 70, 75, 75, 75, 86, 91], 51) := by decide +kernel
theorem dX12_count_52 : decode cX12_count 52 = .ok (.aload_n 0, 1) := by decide +kernel
theorem dX12_count_53 : decode cX12_count 53 = .ok (.getfield 7, 3) := by decide +kernel
theorem dX12_count_56 : decode cX12_count 56 = .ok (.iconst 3, 1) := by decide +kernel
theorem dX12_count_57 : decode cX12_count 57 = .ok (.iaload, 1) := by decide +kernel
theorem dX12_count_58 : decode cX12_count 58 = .ok (.ireturn, 1) := by decide +kernel
theorem dX12_count_59 : decode cX12_count 59 = .ok (.aload_n 0, 1) := by decide +kernel
theorem dX12_count_60 : decode cX12_count 60 = .ok (.iconst 2, 1) := by decide +kernel
theorem dX12_count_61 : decode cX12_count 61 = .ok (.invokevirtual 189, 3) := by decide +kernel
theorem dX12_count_64 : decode cX12_count 64 = .ok (.ireturn, 1) := by decide +kernel
theorem dX12_count_65 : decode cX12_count 65 = .ok (.aload_n 0, 1) := by decide +kernel
theorem dX12_count_66 : decode cX12_count 66 = .ok (.iconst 1, 1) := by decide +kernel
theorem dX12_count_67 : decode cX12_count 67 = .ok (.invokevirtual 189, 3) := by decide +kernel
theorem dX12_count_70 : decode cX12_count 70 = .ok (.ireturn, 1) := by decide +kernel
theorem dX12_count_71 : decode cX12_count 71 = .ok (.aload_n 0, 1) := by decide +kernel
theorem dX12_count_72 : decode cX12_count 72 = .ok (.invokevirtual 192, 3) := by decide +kernel
theorem dX12_count_75 : decode cX12_count 75 = .ok (.ireturn, 1) := by decide +kernel
theorem dX12_count_76 : decode cX12_count 76 = .ok (.aload_n 0, 1) := by decide +kernel
theorem dX12_count_77 : decode cX12_count 77 = .ok (.getfield 7, 3) := by decide +kernel
theorem dX12_count_80 : decode cX12_count 80 = .ok (.iconst 0, 1) := by decide +kernel
theorem dX12_count_81 : decode cX12_count 81 = .ok (.iload_n 1, 1) := by decide +kernel
theorem dX12_count_82 : decode cX12_count 82 = .ok (.iadd, 1) := by decide +kernel
theorem dX12_count_83 : decode cX12_count 83 = .ok (.iconst 4, 1) := by decide +kernel
theorem dX12_count_84 : decode cX12_count 84 = .ok (.isub, 1) := by decide +kernel
theorem dX12_count_85 : decode cX12_count 85 = .ok (.iaload, 1) := by decide +kernel
theorem dX12_count_86 : decode cX12_count 86 = .ok (.ireturn, 1) := by decide +kernel
theorem dX12_count_87 : decode cX12_count 87 = .ok (.aload_n 0, 1) := by decide +kernel
theorem dX12_count_88 : decode cX12_count 88 = .ok (.getfield 118, 3) := by decide +kernel
theorem dX12_count_91 : decode cX12_count 91 = .ok (.ireturn, 1) := by decide +kernel
theorem dX12_count_92 : decode cX12_count 92 = .ok (.aload_n 0, 1) := by decide +kernel
theorem dX12_count_93 : decode cX12_count 93 = .ok (.getfield 50, 3) := by decide +kernel
theorem dX12_count_96 : decode cX12_count 96 = .ok (.ireturn, 1) := by decide +kernel
theorem dX12_count_97 : decode cX12_count 97 = .ok (.bipush (-2), 2) := by decide +kernel
theorem dX12_count_99 : decode cX12_count 99 = .ok (.ireturn, 1) := by decide +kernel
theorem dX12_tryOut_0 : decode cX12_tryOut 0 = .ok (.aload_n 0, 1) := by decide +kernel
theorem dX12_tryOut_1 : decode cX12_tryOut 1 = .ok (.invokevirtual 196, 3) := by decide +kernel
theorem dX12_tryOut_4 : decode cX12_tryOut 4 = .ok (.aload_n 0, 1) := by decide +kernel
theorem dX12_tryOut_5 : decode cX12_tryOut 5 = .ok (.iconst 0, 1) := by decide +kernel
theorem dX12_tryOut_6 : decode cX12_tryOut 6 = .ok (.putfield 199, 3) := by decide +kernel
theorem dX12_tryOut_9 : decode cX12_tryOut 9 = .ok (.aload_n 0, 1) := by decide +kernel
theorem dX12_tryOut_10 : decode cX12_tryOut 10 = .ok (.bipush (-6), 2) := by decide +kernel
theorem dX12_tryOut_12 : decode cX12_tryOut 12 = .ok (.putfield 202, 3) := by decide +kernel
theorem dX12_tryOut_15 : decode cX12_tryOut 15 = .ok (.aload_n 0, 1) := by decide +kernel
theorem dX12_tryOut_16 : decode cX12_tryOut 16 = .ok (.iconst 0, 1) := by decide +kernel
theorem dX12_tryOut_17 : decode cX12_tryOut 17 = .ok (.putfield 205, 3) := by decide +kernel
theorem dX12_tryOut_20 : decode cX12_tryOut 20 = .ok (.aload_n 0, 1) := by decide +kernel
theorem dX12_tryOut_21 : decode cX12_tryOut 21 = .ok (.iconst 0, 1) := by decide +kernel
theorem dX12_tryOut_22 : decode cX12_tryOut 22 = .ok (.putfield 208, 3) := by decide +kernel
theorem dX12_tryOut_25 : decode cX12_tryOut 25 = .ok (.aload_n 0, 1) := by decide +kernel
theorem dX12_tryOut_26 : decode cX12_tryOut 26 = .ok (.iload_n 1, 1) := by decide +kernel
theorem dX12_tryOut_27 : decode cX12_tryOut 27 = .ok (.iload_n 2, 1) := by decide +kernel
theorem dX12_tryOut_28 : decode cX12_tryOut 28 = .ok (.iload_n 3, 1) := by decide +kernel
theorem dX12_tryOut_29 : decode cX12_tryOut 29 = .ok (.invokevirtual 105, 3) := by decide +kernel
theorem dX12_tryOut_32 : decode cX12_tryOut 32 = .ok (.iconst 1, 1) := by decide +kernel
theorem dX12_tryOut_33 : decode cX12_tryOut 33 = .ok (.istore 4, 2) := by decide +kernel
theorem dX12_tryOut_35 : decode cX12_tryOut 35 = .ok (.iload 4, 2) := by decide +kernel
theorem dX12_tryOut_37 : decode cX12_tryOut 37 = .ok (.iload_n 3, 1) := by decide +kernel
theorem dX12_tryOut_38 : decode cX12_tryOut 38 = .ok (.aload_n 0, 1) := by decide +kernel
theorem dX12_tryOut_39 : decode cX12_tryOut 39 = .ok (.getfield 7, 3) := by decide +kernel
theorem dX12_tryOut_42 : decode cX12_tryOut 42 = .ok (.iconst 2, 1) := by decide +kernel
theorem dX12_tryOut_43 : decode cX12_tryOut 43 = .ok (.iaload, 1) := by decide +kernel
theorem dX12_tryOut_44 : decode cX12_tryOut 44 = .ok (.iadd, 1) := by decide +kernel
theorem dX12_tryOut_45 : decode cX12_tryOut 45 = .ok (.if_icmp .gt 135, 3) := by decide +kernel
theorem dX12_tryOut_48 : decode cX12_tryOut 48 = .ok (.aload_n 0, 1) := by decide +kernel
theorem dX12_tryOut_49 : decode cX12_tryOut 49 = .ok (.iload_n 1, 1) := by decide +kernel
theorem dX12_tryOut_50 : decode cX12_tryOut 50 = .ok (.invokevirtual 113, 3) := by decide +kernel
theorem dX12_tryOut_53 : decode cX12_tryOut 53 = .ok (.istore 5, 2) := by decide +kernel
theorem dX12_tryOut_55 : decode cX12_tryOut 55 = .ok (.aload_n 0, 1) := by decide +kernel
theorem dX12_tryOut_56 : decode cX12_tryOut 56 = .ok (.iload 5, 2) := by decide +kernel
theorem dX12_tryOut_58 : decode cX12_tryOut 58 = .ok (.ifCond .le 15, 3) := by decide +kernel
theorem dX12_tryOut_61 : decode cX12_tryOut 61 = .ok (.aload_n 0, 1) := by decide +kernel
theorem dX12_tryOut_62 : decode cX12_tryOut 62 = .ok (.getfield 199, 3) := by decide +kernel
theorem dX12_tryOut_65 : decode cX12_tryOut 65 = .ok (.ifCond .ne 8, 3) := by decide +kernel
theorem dX12_tryOut_68 : decode cX12_tryOut 68 = .ok (.iload 4, 2) := by decide +kernel
theorem dX12_tryOut_70 : decode cX12_tryOut 70 = .ok (.goto 7, 3) := by decide +kernel
theorem dX12_tryOut_73 : decode cX12_tryOut 73 = .ok (.aload_n 0, 1) := by decide +kernel
theorem dX12_tryOut_74 : decode cX12_tryOut 74 = .ok (.getfield 202, 3) := by decide +kernel
theorem dX12_tryOut_77 : decode cX12_tryOut 77 = .ok (.putfield 202, 3) := by decide +kernel
theorem dX12_tryOut_80 : decode cX12_tryOut 80 = .ok (.aload_n 0, 1) := by decide +kernel
theorem dX12_tryOut_81 : decode cX12_tryOut 81 = .ok (.dup, 1) := by decide +kernel
theorem dX12_tryOut_82 : decode cX12_tryOut 82 = .ok (.getfield 199, 3) := by decide +kernel
theorem dX12_tryOut_85 : decode cX12_tryOut 85 = .ok (.iload 5, 2) := by decide +kernel
theorem dX12_tryOut_87 : decode cX12_tryOut 87 = .ok (.iadd, 1) := by decide +kernel
theorem dX12_tryOut_88 : decode cX12_tryOut 88 = .ok (.putfield 199, 3) := by decide +kernel
theorem dX12_tryOut_91 : decode cX12_tryOut 91 = .ok (.iconst 0, 1) := by decide +kernel
theorem dX12_tryOut_92 : decode cX12_tryOut 92 = .ok (.istore 6, 2) := by decide +kernel
theorem dX12_tryOut_94 : decode cX12_tryOut 94 = .ok (.iload 6, 2) := by decide +kernel
theorem dX12_tryOut_96 : decode cX12_tryOut 96 = .ok (.bipush 15, 2) := by decide +kernel
theorem dX12_tryOut_98 : decode cX12_tryOut 98 = .ok (.if_icmp .ge 76, 3) := by decide +kernel
theorem dX12_tryOut_101 : decode cX12_tryOut 101 = .ok (.aload_n 0, 1) := by decide +kernel
theorem dX12_tryOut_102 : decode cX12_tryOut 102 = .ok (.iload_n 1, 1) := by decide +kernel
theorem dX12_tryOut_103 : decode cX12_tryOut 103 = .ok (.iload 6, 2) := by decide +kernel
theorem dX12_tryOut_105 : decode cX12_tryOut 105 = .ok (.invokevirtual 70, 3) := by decide +kernel
theorem dX12_tryOut_108 : decode cX12_tryOut 108 = .ok (.istore 7, 2) := by decide +kernel
theorem dX12_tryOut_110 : decode cX12_tryOut 110 = .ok (.aload_n 0, 1) := by decide +kernel
theorem dX12_tryOut_111 : decode cX12_tryOut 111 = .ok (.iload 6, 2) := by decide +kernel
theorem dX12_tryOut_113 : decode cX12_tryOut 113 = .ok (.bipush 12, 2) := by decide +kernel
theorem dX12_tryOut_115 : decode cX12_tryOut 115 = .ok (.if_icmp .ge 17, 3) := by decide +kernel
theorem dX12_tryOut_118 : decode cX12_tryOut 118 = .ok (.iload 7, 2) := by decide +kernel
theorem dX12_tryOut_120 : decode cX12_tryOut 120 = .ok (.aload_n 0, 1) := by decide +kernel
theorem dX12_tryOut_121 : decode cX12_tryOut 121 = .ok (.getfield 205, 3) := by decide +kernel
theorem dX12_tryOut_124 : decode cX12_tryOut 124 = .ok (.if_icmp .le 8, 3) := by decide +kernel
theorem dX12_tryOut_127 : decode cX12_tryOut 127 = .ok (.iload 7, 2) := by decide +kernel
theorem dX12_tryOut_129 : decode cX12_tryOut 129 = .ok (.goto 7, 3) := by decide +kernel
theorem dX12_tryOut_132 : decode cX12_tryOut 132 = .ok (.aload_n 0, 1) := by decide +kernel
theorem dX12_tryOut_133 : decode cX12_tryOut 133 = .ok (.getfield 205, 3) := by decide +kernel
theorem dX12_tryOut_136 : decode cX12_tryOut 136 = .ok (.putfield 205, 3) := by decide +kernel
theorem dX12_tryOut_139 : decode cX12_tryOut 139 = .ok (.aload_n 0, 1) := by decide +kernel
theorem dX12_tryOut_140 : decode cX12_tryOut 140 = .ok (.iload 6, 2) := by decide +kernel
theorem dX12_tryOut_142 : decode cX12_tryOut 142 = .ok (.bipush 12, 2) := by decide +kernel
theorem dX12_tryOut_144 : decode cX12_tryOut 144 = .ok (.if_icmp .lt 17, 3) := by decide +kernel
theorem dX12_tryOut_147 : decode cX12_tryOut 147 = .ok (.iload 7, 2) := by decide +kernel
theorem dX12_tryOut_149 : decode cX12_tryOut 149 = .ok (.aload_n 0, 1) := by decide +kernel
theorem dX12_tryOut_150 : decode cX12_tryOut 150 = .ok (.getfield 208, 3) := by decide +kernel
theorem dX12_tryOut_153 : decode cX12_tryOut 153 = .ok (.if_icmp .le 8, 3) := by decide +kernel
theorem dX12_tryOut_156 : decode cX12_tryOut 156 = .ok (.iload 7, 2) := by decide +kernel
theorem dX12_tryOut_158 : decode cX12_tryOut 158 = .ok (.goto 7, 3) := by decide +kernel
theorem dX12_tryOut_161 : decode cX12_tryOut 161 = .ok (.aload_n 0, 1) := by decide +kernel
theorem dX12_tryOut_162 : decode cX12_tryOut 162 = .ok (.getfield 208, 3) := by decide +kernel
theorem dX12_tryOut_165 : decode cX12_tryOut 165 = .ok (.putfield 208, 3) := by decide +kernel
theorem dX12_tryOut_168 : decode cX12_tryOut 168 = .ok (.iinc 6 1, 3) := by decide +kernel
theorem dX12_tryOut_171 : decode cX12_tryOut 171 = .ok (.goto (-77), 3) := by decide +kernel
theorem dX12_tryOut_174 : decode cX12_tryOut 174 = .ok (.iinc 4 1, 3) := by decide +kernel
theorem dX12_tryOut_177 : decode cX12_tryOut 177 = .ok (.goto (-142), 3) := by decide +kernel
theorem dX12_tryOut_180 : decode cX12_tryOut 180 = .ok (.aload_n 0, 1) := by decide +kernel
theorem dX12_tryOut_181 : decode cX12_tryOut 181 = .ok (.invokevirtual 211, 3) := by decide +kernel
theorem dX12_tryOut_184 : decode cX12_tryOut 184 = .ok (.return_, 1) := by decide +kernel
theorem dX12_ifGo_0 : decode cX12_ifGo 0 = .ok (.iload_n 1, 1) := by decide +kernel
theorem dX12_ifGo_1 : decode cX12_ifGo 1 = .ok (.iload_n 2, 1) := by decide +kernel
theorem dX12_ifGo_2 : decode cX12_ifGo 2 = .ok (.invokestatic 93, 3) := by decide +kernel
theorem dX12_ifGo_5 : decode cX12_ifGo 5 = .ok (.ifCond .ne 5, 3) := by decide +kernel
theorem dX12_ifGo_8 : decode cX12_ifGo 8 = .ok (.iconst (-1), 1) := by decide +kernel
theorem dX12_ifGo_9 : decode cX12_ifGo 9 = .ok (.ireturn, 1) := by decide +kernel
theorem dX12_ifGo_10 : decode cX12_ifGo 10 = .ok (.iload_n 3, 1) := by decide +kernel
theorem dX12_ifGo_11 : decode cX12_ifGo 11 = .ok (.iconst 0, 1) := by decide +kernel
theorem dX12_ifGo_12 : decode cX12_ifGo 12 = .ok (.iconst 3, 1) := by decide +kernel
theorem dX12_ifGo_13 : decode cX12_ifGo 13 = .ok (.invokestatic 42, 3) := by decide +kernel
theorem dX12_ifGo_16 : decode cX12_ifGo 16 = .ok (.ifCond .ne 6, 3) := by decide +kernel
theorem dX12_ifGo_19 : decode cX12_ifGo 19 = .ok (.bipush (-2), 2) := by decide +kernel
theorem dX12_ifGo_21 : decode cX12_ifGo 21 = .ok (.ireturn, 1) := by decide +kernel
theorem dX12_ifGo_22 : decode cX12_ifGo 22 = .ok (.aload_n 0, 1) := by decide +kernel
theorem dX12_ifGo_23 : decode cX12_ifGo 23 = .ok (.getfield 7, 3) := by decide +kernel
theorem dX12_ifGo_26 : decode cX12_ifGo 26 = .ok (.iload_n 1, 1) := by decide +kernel
theorem dX12_ifGo_27 : decode cX12_ifGo 27 = .ok (.iload_n 2, 1) := by decide +kernel
theorem dX12_ifGo_28 : decode cX12_ifGo 28 = .ok (.invokestatic 64, 3) := by decide +kernel
theorem dX12_ifGo_31 : decode cX12_ifGo 31 = .ok (.iaload, 1) := by decide +kernel
theorem dX12_ifGo_32 : decode cX12_ifGo 32 = .ok (.ifCond .ne 6, 3) := by decide +kernel
theorem dX12_ifGo_35 : decode cX12_ifGo 35 = .ok (.bipush (-5), 2) := by decide +kernel
theorem dX12_ifGo_37 : decode cX12_ifGo 37 = .ok (.ireturn, 1) := by decide +kernel
theorem dX12_ifGo_38 : decode cX12_ifGo 38 = .ok (.aload_n 0, 1) := by decide +kernel
theorem dX12_ifGo_39 : decode cX12_ifGo 39 = .ok (.iload_n 1, 1) := by decide +kernel
theorem dX12_ifGo_40 : decode cX12_ifGo 40 = .ok (.iload_n 2, 1) := by decide +kernel
theorem dX12_ifGo_41 : decode cX12_ifGo 41 = .ok (.aload_n 0, 1) := by decide +kernel
theorem dX12_ifGo_42 : decode cX12_ifGo 42 = .ok (.getfield 7, 3) := by decide +kernel
theorem dX12_ifGo_45 : decode cX12_ifGo 45 = .ok (.iload_n 1, 1) := by decide +kernel
theorem dX12_ifGo_46 : decode cX12_ifGo 46 = .ok (.iload_n 2, 1) := by decide +kernel
theorem dX12_ifGo_47 : decode cX12_ifGo 47 = .ok (.invokestatic 64, 3) := by decide +kernel
theorem dX12_ifGo_50 : decode cX12_ifGo 50 = .ok (.iaload, 1) := by decide +kernel
theorem dX12_ifGo_51 : decode cX12_ifGo 51 = .ok (.invokevirtual 214, 3) := by decide +kernel
theorem dX12_ifGo_54 : decode cX12_ifGo 54 = .ok (.iload_n 3, 1) := by decide +kernel
theorem dX12_ifGo_55 : decode cX12_ifGo 55 = .ok (.ifCond .ne 10, 3) := by decide +kernel
theorem dX12_ifGo_58 : decode cX12_ifGo 58 = .ok (.aload_n 0, 1) := by decide +kernel
theorem dX12_ifGo_59 : decode cX12_ifGo 59 = .ok (.getfield 199, 3) := by decide +kernel
theorem dX12_ifGo_62 : decode cX12_ifGo 62 = .ok (.goto 31, 3) := by decide +kernel
theorem dX12_ifGo_65 : decode cX12_ifGo 65 = .ok (.iload_n 3, 1) := by decide +kernel
theorem dX12_ifGo_66 : decode cX12_ifGo 66 = .ok (.iconst 1, 1) := by decide +kernel
theorem dX12_ifGo_67 : decode cX12_ifGo 67 = .ok (.if_icmp .ne 10, 3) := by decide +kernel
theorem dX12_ifGo_70 : decode cX12_ifGo 70 = .ok (.aload_n 0, 1) := by decide +kernel
theorem dX12_ifGo_71 : decode cX12_ifGo 71 = .ok (.getfield 202, 3) := by decide +kernel
theorem dX12_ifGo_74 : decode cX12_ifGo 74 = .ok (.goto 19, 3) := by decide +kernel
theorem dX12_ifGo_77 : decode cX12_ifGo 77 = .ok (.iload_n 3, 1) := by decide +kernel
theorem dX12_ifGo_78 : decode cX12_ifGo 78 = .ok (.iconst 2, 1) := by decide +kernel
theorem dX12_ifGo_79 : decode cX12_ifGo 79 = .ok (.if_icmp .ne 10, 3) := by decide +kernel
theorem dX12_ifGo_82 : decode cX12_ifGo 82 = .ok (.aload_n 0, 1) := by decide +kernel
theorem dX12_ifGo_83 : decode cX12_ifGo 83 = .ok (.getfield 205, 3) := by decide +kernel
theorem dX12_ifGo_86 : decode cX12_ifGo 86 = .ok (.goto 7, 3) := by decide +kernel
theorem dX12_ifGo_89 : decode cX12_ifGo 89 = .ok (.aload_n 0, 1) := by decide +kernel
theorem dX12_ifGo_90 : decode cX12_ifGo 90 = .ok (.getfield 208, 3) := by decide +kernel
theorem dX12_ifGo_93 : decode cX12_ifGo 93 = .ok (.ireturn, 1) := by decide +kernel
theorem dX12_safeTicks_0 : decode cX12_safeTicks 0 = .ok (.aload_n 0, 1) := by decide +kernel
theorem dX12_safeTicks_1 : decode cX12_safeTicks 1 = .ok (.iload_n 1, 1) := by decide +kernel
theorem dX12_safeTicks_2 : decode cX12_safeTicks 2 = .ok (.iload_n 2, 1) := by decide +kernel
theorem dX12_safeTicks_3 : decode cX12_safeTicks 3 = .ok (.invokevirtual 102, 3) := by decide +kernel
theorem dX12_safeTicks_6 : decode cX12_safeTicks 6 = .ok (.istore_n 3, 1) := by decide +kernel
theorem dX12_safeTicks_7 : decode cX12_safeTicks 7 = .ok (.iload_n 3, 1) := by decide +kernel
theorem dX12_safeTicks_8 : decode cX12_safeTicks 8 = .ok (.ifCond .ge 5, 3) := by decide +kernel
theorem dX12_safeTicks_11 : decode cX12_safeTicks 11 = .ok (.iload_n 3, 1) := by decide +kernel
theorem dX12_safeTicks_12 : decode cX12_safeTicks 12 = .ok (.ireturn, 1) := by decide +kernel
theorem dX12_safeTicks_13 : decode cX12_safeTicks 13 = .ok (.iconst 1, 1) := by decide +kernel
theorem dX12_safeTicks_14 : decode cX12_safeTicks 14 = .ok (.istore 4, 2) := by decide +kernel
theorem dX12_safeTicks_16 : decode cX12_safeTicks 16 = .ok (.iload 4, 2) := by decide +kernel
theorem dX12_safeTicks_18 : decode cX12_safeTicks 18 = .ok (.bipush 50, 2) := by decide +kernel
theorem dX12_safeTicks_20 : decode cX12_safeTicks 20 = .ok (.if_icmp .gt 27, 3) := by decide +kernel
theorem dX12_safeTicks_23 : decode cX12_safeTicks 23 = .ok (.aload_n 0, 1) := by decide +kernel
theorem dX12_safeTicks_24 : decode cX12_safeTicks 24 = .ok (.iload_n 1, 1) := by decide +kernel
theorem dX12_safeTicks_25 : decode cX12_safeTicks 25 = .ok (.iload_n 2, 1) := by decide +kernel
theorem dX12_safeTicks_26 : decode cX12_safeTicks 26 = .ok (.iload 4, 2) := by decide +kernel
theorem dX12_safeTicks_28 : decode cX12_safeTicks 28 = .ok (.invokevirtual 214, 3) := by decide +kernel
theorem dX12_safeTicks_31 : decode cX12_safeTicks 31 = .ok (.aload_n 0, 1) := by decide +kernel
theorem dX12_safeTicks_32 : decode cX12_safeTicks 32 = .ok (.getfield 199, 3) := by decide +kernel
theorem dX12_safeTicks_35 : decode cX12_safeTicks 35 = .ok (.ifCond .ne 6, 3) := by decide +kernel
theorem dX12_safeTicks_38 : decode cX12_safeTicks 38 = .ok (.iload 4, 2) := by decide +kernel
theorem dX12_safeTicks_40 : decode cX12_safeTicks 40 = .ok (.ireturn, 1) := by decide +kernel
theorem dX12_safeTicks_41 : decode cX12_safeTicks 41 = .ok (.iinc 4 1, 3) := by decide +kernel
theorem dX12_safeTicks_44 : decode cX12_safeTicks 44 = .ok (.goto (-28), 3) := by decide +kernel
theorem dX12_safeTicks_47 : decode cX12_safeTicks 47 = .ok (.bipush (-6), 2) := by decide +kernel
theorem dX12_safeTicks_49 : decode cX12_safeTicks 49 = .ok (.ireturn, 1) := by decide +kernel
theorem dX12_bestFeed_0 : decode cX12_bestFeed 0 = .ok (.iload_n 1, 1) := by decide +kernel
theorem dX12_bestFeed_1 : decode cX12_bestFeed 1 = .ok (.invokestatic 46, 3) := by decide +kernel
theorem dX12_bestFeed_4 : decode cX12_bestFeed 4 = .ok (.ifCond .eq 10, 3) := by decide +kernel
theorem dX12_bestFeed_7 : decode cX12_bestFeed 7 = .ok (.iload_n 2, 1) := by decide +kernel
theorem dX12_bestFeed_8 : decode cX12_bestFeed 8 = .ok (.invokestatic 80, 3) := by decide +kernel
theorem dX12_bestFeed_11 : decode cX12_bestFeed 11 = .ok (.ifCond .ne 5, 3) := by decide +kernel
theorem dX12_bestFeed_14 : decode cX12_bestFeed 14 = .ok (.iconst (-1), 1) := by decide +kernel
theorem dX12_bestFeed_15 : decode cX12_bestFeed 15 = .ok (.ireturn, 1) := by decide +kernel
theorem dX12_bestFeed_16 : decode cX12_bestFeed 16 = .ok (.aload_n 0, 1) := by decide +kernel
theorem dX12_bestFeed_17 : decode cX12_bestFeed 17 = .ok (.getfield 7, 3) := by decide +kernel
theorem dX12_bestFeed_20 : decode cX12_bestFeed 20 = .ok (.iload_n 1, 1) := by decide +kernel
theorem dX12_bestFeed_21 : decode cX12_bestFeed 21 = .ok (.bipush 75, 2) := by decide +kernel
theorem dX12_bestFeed_23 : decode cX12_bestFeed 23 = .ok (.iload_n 2, 1) := by decide +kernel
theorem dX12_bestFeed_24 : decode cX12_bestFeed 24 = .ok (.iadd, 1) := by decide +kernel
theorem dX12_bestFeed_25 : decode cX12_bestFeed 25 = .ok (.invokestatic 38, 3) := by decide +kernel
theorem dX12_bestFeed_28 : decode cX12_bestFeed 28 = .ok (.iaload, 1) := by decide +kernel
theorem dX12_bestFeed_29 : decode cX12_bestFeed 29 = .ok (.istore_n 3, 1) := by decide +kernel
theorem dX12_bestFeed_30 : decode cX12_bestFeed 30 = .ok (.bipush (-6), 2) := by decide +kernel
theorem dX12_bestFeed_32 : decode cX12_bestFeed 32 = .ok (.istore 4, 2) := by decide +kernel
theorem dX12_bestFeed_34 : decode cX12_bestFeed 34 = .ok (.iconst 0, 1) := by decide +kernel
theorem dX12_bestFeed_35 : decode cX12_bestFeed 35 = .ok (.istore 5, 2) := by decide +kernel
theorem dX12_bestFeed_37 : decode cX12_bestFeed 37 = .ok (.iconst 0, 1) := by decide +kernel
theorem dX12_bestFeed_38 : decode cX12_bestFeed 38 = .ok (.istore 6, 2) := by decide +kernel
theorem dX12_bestFeed_40 : decode cX12_bestFeed 40 = .ok (.iload 6, 2) := by decide +kernel
theorem dX12_bestFeed_42 : decode cX12_bestFeed 42 = .ok (.iconst 3, 1) := by decide +kernel
theorem dX12_bestFeed_43 : decode cX12_bestFeed 43 = .ok (.if_icmp .ge 119, 3) := by decide +kernel
theorem dX12_bestFeed_46 : decode cX12_bestFeed 46 = .ok (.aload_n 0, 1) := by decide +kernel
theorem dX12_bestFeed_47 : decode cX12_bestFeed 47 = .ok (.getfield 7, 3) := by decide +kernel
theorem dX12_bestFeed_50 : decode cX12_bestFeed 50 = .ok (.iload_n 1, 1) := by decide +kernel
theorem dX12_bestFeed_51 : decode cX12_bestFeed 51 = .ok (.bipush 75, 2) := by decide +kernel
theorem dX12_bestFeed_53 : decode cX12_bestFeed 53 = .ok (.iload_n 2, 1) := by decide +kernel
theorem dX12_bestFeed_54 : decode cX12_bestFeed 54 = .ok (.iadd, 1) := by decide +kernel
theorem dX12_bestFeed_55 : decode cX12_bestFeed 55 = .ok (.invokestatic 38, 3) := by decide +kernel
theorem dX12_bestFeed_58 : decode cX12_bestFeed 58 = .ok (.iload 6, 2) := by decide +kernel
theorem dX12_bestFeed_60 : decode cX12_bestFeed 60 = .ok (.iastore, 1) := by decide +kernel
theorem dX12_bestFeed_61 : decode cX12_bestFeed 61 = .ok (.iconst 0, 1) := by decide +kernel
theorem dX12_bestFeed_62 : decode cX12_bestFeed 62 = .ok (.istore 7, 2) := by decide +kernel
theorem dX12_bestFeed_64 : decode cX12_bestFeed 64 = .ok (.iconst 0, 1) := by decide +kernel
theorem dX12_bestFeed_65 : decode cX12_bestFeed 65 = .ok (.istore 8, 2) := by decide +kernel
theorem dX12_bestFeed_67 : decode cX12_bestFeed 67 = .ok (.iload 8, 2) := by decide +kernel
theorem dX12_bestFeed_69 : decode cX12_bestFeed 69 = .ok (.iconst 3, 1) := by decide +kernel
theorem dX12_bestFeed_70 : decode cX12_bestFeed 70 = .ok (.if_icmp .ge 37, 3) := by decide +kernel
theorem dX12_bestFeed_73 : decode cX12_bestFeed 73 = .ok (.aload_n 0, 1) := by decide +kernel
theorem dX12_bestFeed_74 : decode cX12_bestFeed 74 = .ok (.iload_n 1, 1) := by decide +kernel
theorem dX12_bestFeed_75 : decode cX12_bestFeed 75 = .ok (.bipush 12, 2) := by decide +kernel
theorem dX12_bestFeed_77 : decode cX12_bestFeed 77 = .ok (.iload 8, 2) := by decide +kernel
theorem dX12_bestFeed_79 : decode cX12_bestFeed 79 = .ok (.iadd, 1) := by decide +kernel
theorem dX12_bestFeed_80 : decode cX12_bestFeed 80 = .ok (.invokevirtual 87, 3) := by decide +kernel
theorem dX12_bestFeed_83 : decode cX12_bestFeed 83 = .ok (.istore 9, 2) := by decide +kernel
theorem dX12_bestFeed_85 : decode cX12_bestFeed 85 = .ok (.iload 9, 2) := by decide +kernel
theorem dX12_bestFeed_87 : decode cX12_bestFeed 87 = .ok (.iload 7, 2) := by decide +kernel
theorem dX12_bestFeed_89 : decode cX12_bestFeed 89 = .ok (.if_icmp .le 8, 3) := by decide +kernel
theorem dX12_bestFeed_92 : decode cX12_bestFeed 92 = .ok (.iload 9, 2) := by decide +kernel
theorem dX12_bestFeed_94 : decode cX12_bestFeed 94 = .ok (.goto 5, 3) := by decide +kernel
theorem dX12_bestFeed_97 : decode cX12_bestFeed 97 = .ok (.iload 7, 2) := by decide +kernel
theorem dX12_bestFeed_99 : decode cX12_bestFeed 99 = .ok (.istore 7, 2) := by decide +kernel
theorem dX12_bestFeed_101 : decode cX12_bestFeed 101 = .ok (.iinc 8 1, 3) := by decide +kernel
theorem dX12_bestFeed_104 : decode cX12_bestFeed 104 = .ok (.goto (-37), 3) := by decide +kernel
theorem dX12_bestFeed_107 : decode cX12_bestFeed 107 = .ok (.iload 4, 2) := by decide +kernel
theorem dX12_bestFeed_109 : decode cX12_bestFeed 109 = .ok (.bipush (-6), 2) := by decide +kernel
theorem dX12_bestFeed_111 : decode cX12_bestFeed 111 = .ok (.if_icmp .eq 10, 3) := by decide +kernel
theorem dX12_bestFeed_114 : decode cX12_bestFeed 114 = .ok (.iload 7, 2) := by decide +kernel
theorem dX12_bestFeed_116 : decode cX12_bestFeed 116 = .ok (.iload 5, 2) := by decide +kernel
theorem dX12_bestFeed_118 : decode cX12_bestFeed 118 = .ok (.if_icmp .ge 7, 3) := by decide +kernel
theorem dX12_bestFeed_121 : decode cX12_bestFeed 121 = .ok (.iconst 1, 1) := by decide +kernel
theorem dX12_bestFeed_122 : decode cX12_bestFeed 122 = .ok (.goto 4, 3) := by decide +kernel
theorem dX12_bestFeed_125 : decode cX12_bestFeed 125 = .ok (.iconst 0, 1) := by decide +kernel
theorem dX12_bestFeed_126 : decode cX12_bestFeed 126 = .ok (.istore 8, 2) := by decide +kernel
theorem dX12_bestFeed_128 : decode cX12_bestFeed 128 = .ok (.iload 8, 2) := by decide +kernel
theorem dX12_bestFeed_130 : decode cX12_bestFeed 130 = .ok (.ifCond .eq 8, 3) := by decide +kernel
theorem dX12_bestFeed_133 : decode cX12_bestFeed 133 = .ok (.iload 6, 2) := by decide +kernel
theorem dX12_bestFeed_135 : decode cX12_bestFeed 135 = .ok (.goto 5, 3) := by decide +kernel
theorem dX12_bestFeed_138 : decode cX12_bestFeed 138 = .ok (.iload 4, 2) := by decide +kernel
theorem dX12_bestFeed_140 : decode cX12_bestFeed 140 = .ok (.istore 4, 2) := by decide +kernel
theorem dX12_bestFeed_142 : decode cX12_bestFeed 142 = .ok (.iload 8, 2) := by decide +kernel
theorem dX12_bestFeed_144 : decode cX12_bestFeed 144 = .ok (.ifCond .eq 8, 3) := by decide +kernel
theorem dX12_bestFeed_147 : decode cX12_bestFeed 147 = .ok (.iload 7, 2) := by decide +kernel
theorem dX12_bestFeed_149 : decode cX12_bestFeed 149 = .ok (.goto 5, 3) := by decide +kernel
theorem dX12_bestFeed_152 : decode cX12_bestFeed 152 = .ok (.iload 5, 2) := by decide +kernel
theorem dX12_bestFeed_154 : decode cX12_bestFeed 154 = .ok (.istore 5, 2) := by decide +kernel
theorem dX12_bestFeed_156 : decode cX12_bestFeed 156 = .ok (.iinc 6 1, 3) := by decide +kernel
theorem dX12_bestFeed_159 : decode cX12_bestFeed 159 = .ok (.goto (-119), 3) := by decide +kernel
theorem dX12_bestFeed_162 : decode cX12_bestFeed 162 = .ok (.aload_n 0, 1) := by decide +kernel
theorem dX12_bestFeed_163 : decode cX12_bestFeed 163 = .ok (.getfield 7, 3) := by decide +kernel
theorem dX12_bestFeed_166 : decode cX12_bestFeed 166 = .ok (.iload_n 1, 1) := by decide +kernel
theorem dX12_bestFeed_167 : decode cX12_bestFeed 167 = .ok (.bipush 75, 2) := by decide +kernel
theorem dX12_bestFeed_169 : decode cX12_bestFeed 169 = .ok (.iload_n 2, 1) := by decide +kernel
theorem dX12_bestFeed_170 : decode cX12_bestFeed 170 = .ok (.iadd, 1) := by decide +kernel
theorem dX12_bestFeed_171 : decode cX12_bestFeed 171 = .ok (.invokestatic 38, 3) := by decide +kernel
theorem dX12_bestFeed_174 : decode cX12_bestFeed 174 = .ok (.iload_n 3, 1) := by decide +kernel
theorem dX12_bestFeed_175 : decode cX12_bestFeed 175 = .ok (.iastore, 1) := by decide +kernel
theorem dX12_bestFeed_176 : decode cX12_bestFeed 176 = .ok (.iload 4, 2) := by decide +kernel
theorem dX12_bestFeed_178 : decode cX12_bestFeed 178 = .ok (.ireturn, 1) := by decide +kernel
theorem dX12_ifDays_0 : decode cX12_ifDays 0 = .ok (.iload_n 1, 1) := by decide +kernel
theorem dX12_ifDays_1 : decode cX12_ifDays 1 = .ok (.invokestatic 46, 3) := by decide +kernel
theorem dX12_ifDays_4 : decode cX12_ifDays 4 = .ok (.ifCond .ne 5, 3) := by decide +kernel
theorem dX12_ifDays_7 : decode cX12_ifDays 7 = .ok (.iconst (-1), 1) := by decide +kernel
theorem dX12_ifDays_8 : decode cX12_ifDays 8 = .ok (.ireturn, 1) := by decide +kernel
theorem dX12_ifDays_9 : decode cX12_ifDays 9 = .ok (.iload_n 2, 1) := by decide +kernel
theorem dX12_ifDays_10 : decode cX12_ifDays 10 = .ok (.iconst 0, 1) := by decide +kernel
theorem dX12_ifDays_11 : decode cX12_ifDays 11 = .ok (.bipush 6, 2) := by decide +kernel
theorem dX12_ifDays_13 : decode cX12_ifDays 13 = .ok (.invokestatic 42, 3) := by decide +kernel
theorem dX12_ifDays_16 : decode cX12_ifDays 16 = .ok (.ifCond .eq 13, 3) := by decide +kernel
theorem dX12_ifDays_19 : decode cX12_ifDays 19 = .ok (.iload_n 3, 1) := by decide +kernel
theorem dX12_ifDays_20 : decode cX12_ifDays 20 = .ok (.iload_n 2, 1) := by decide +kernel
theorem dX12_ifDays_21 : decode cX12_ifDays 21 = .ok (.bipush 6, 2) := by decide +kernel
theorem dX12_ifDays_23 : decode cX12_ifDays 23 = .ok (.invokestatic 42, 3) := by decide +kernel
theorem dX12_ifDays_26 : decode cX12_ifDays 26 = .ok (.ifCond .ne 6, 3) := by decide +kernel
theorem dX12_ifDays_29 : decode cX12_ifDays 29 = .ok (.bipush (-2), 2) := by decide +kernel
theorem dX12_ifDays_31 : decode cX12_ifDays 31 = .ok (.ireturn, 1) := by decide +kernel
theorem dX12_ifDays_32 : decode cX12_ifDays 32 = .ok (.aload_n 0, 1) := by decide +kernel
theorem dX12_ifDays_33 : decode cX12_ifDays 33 = .ok (.getfield 7, 3) := by decide +kernel
theorem dX12_ifDays_36 : decode cX12_ifDays 36 = .ok (.iload_n 1, 1) := by decide +kernel
theorem dX12_ifDays_37 : decode cX12_ifDays 37 = .ok (.iconst 0, 1) := by decide +kernel
theorem dX12_ifDays_38 : decode cX12_ifDays 38 = .ok (.invokestatic 38, 3) := by decide +kernel
theorem dX12_ifDays_41 : decode cX12_ifDays 41 = .ok (.iaload, 1) := by decide +kernel
theorem dX12_ifDays_42 : decode cX12_ifDays 42 = .ok (.istore 4, 2) := by decide +kernel
theorem dX12_ifDays_44 : decode cX12_ifDays 44 = .ok (.aload_n 0, 1) := by decide +kernel
theorem dX12_ifDays_45 : decode cX12_ifDays 45 = .ok (.getfield 7, 3) := by decide +kernel
theorem dX12_ifDays_48 : decode cX12_ifDays 48 = .ok (.iload_n 1, 1) := by decide +kernel
theorem dX12_ifDays_49 : decode cX12_ifDays 49 = .ok (.iconst 1, 1) := by decide +kernel
theorem dX12_ifDays_50 : decode cX12_ifDays 50 = .ok (.invokestatic 38, 3) := by decide +kernel
theorem dX12_ifDays_53 : decode cX12_ifDays 53 = .ok (.iaload, 1) := by decide +kernel
theorem dX12_ifDays_54 : decode cX12_ifDays 54 = .ok (.istore 5, 2) := by decide +kernel
theorem dX12_ifDays_56 : decode cX12_ifDays 56 = .ok (.aload_n 0, 1) := by decide +kernel
theorem dX12_ifDays_57 : decode cX12_ifDays 57 = .ok (.getfield 7, 3) := by decide +kernel
theorem dX12_ifDays_60 : decode cX12_ifDays 60 = .ok (.iload_n 1, 1) := by decide +kernel
theorem dX12_ifDays_61 : decode cX12_ifDays 61 = .ok (.iconst 0, 1) := by decide +kernel
theorem dX12_ifDays_62 : decode cX12_ifDays 62 = .ok (.invokestatic 38, 3) := by decide +kernel
theorem dX12_ifDays_65 : decode cX12_ifDays 65 = .ok (.iload_n 2, 1) := by decide +kernel
theorem dX12_ifDays_66 : decode cX12_ifDays 66 = .ok (.iastore, 1) := by decide +kernel
theorem dX12_ifDays_67 : decode cX12_ifDays 67 = .ok (.aload_n 0, 1) := by decide +kernel
theorem dX12_ifDays_68 : decode cX12_ifDays 68 = .ok (.getfield 7, 3) := by decide +kernel
theorem dX12_ifDays_71 : decode cX12_ifDays 71 = .ok (.iload_n 1, 1) := by decide +kernel
theorem dX12_ifDays_72 : decode cX12_ifDays 72 = .ok (.iconst 1, 1) := by decide +kernel
theorem dX12_ifDays_73 : decode cX12_ifDays 73 = .ok (.invokestatic 38, 3) := by decide +kernel
theorem dX12_ifDays_76 : decode cX12_ifDays 76 = .ok (.iload_n 3, 1) := by decide +kernel
theorem dX12_ifDays_77 : decode cX12_ifDays 77 = .ok (.iastore, 1) := by decide +kernel
theorem dX12_ifDays_78 : decode cX12_ifDays 78 = .ok (.aload_n 0, 1) := by decide +kernel
theorem dX12_ifDays_79 : decode cX12_ifDays 79 = .ok (.iconst 1, 1) := by decide +kernel
theorem dX12_ifDays_80 : decode cX12_ifDays 80 = .ok (.invokevirtual 189, 3) := by decide +kernel
theorem dX12_ifDays_83 : decode cX12_ifDays 83 = .ok (.istore 6, 2) := by decide +kernel
theorem dX12_ifDays_85 : decode cX12_ifDays 85 = .ok (.aload_n 0, 1) := by decide +kernel
theorem dX12_ifDays_86 : decode cX12_ifDays 86 = .ok (.getfield 7, 3) := by decide +kernel
theorem dX12_ifDays_89 : decode cX12_ifDays 89 = .ok (.iload_n 1, 1) := by decide +kernel
theorem dX12_ifDays_90 : decode cX12_ifDays 90 = .ok (.iconst 0, 1) := by decide +kernel
theorem dX12_ifDays_91 : decode cX12_ifDays 91 = .ok (.invokestatic 38, 3) := by decide +kernel
theorem dX12_ifDays_94 : decode cX12_ifDays 94 = .ok (.iload 4, 2) := by decide +kernel
theorem dX12_ifDays_96 : decode cX12_ifDays 96 = .ok (.iastore, 1) := by decide +kernel
theorem dX12_ifDays_97 : decode cX12_ifDays 97 = .ok (.aload_n 0, 1) := by decide +kernel
theorem dX12_ifDays_98 : decode cX12_ifDays 98 = .ok (.getfield 7, 3) := by decide +kernel
theorem dX12_ifDays_101 : decode cX12_ifDays 101 = .ok (.iload_n 1, 1) := by decide +kernel
theorem dX12_ifDays_102 : decode cX12_ifDays 102 = .ok (.iconst 1, 1) := by decide +kernel
theorem dX12_ifDays_103 : decode cX12_ifDays 103 = .ok (.invokestatic 38, 3) := by decide +kernel
theorem dX12_ifDays_106 : decode cX12_ifDays 106 = .ok (.iload 5, 2) := by decide +kernel
theorem dX12_ifDays_108 : decode cX12_ifDays 108 = .ok (.iastore, 1) := by decide +kernel
theorem dX12_ifDays_109 : decode cX12_ifDays 109 = .ok (.iload 6, 2) := by decide +kernel
theorem dX12_ifDays_111 : decode cX12_ifDays 111 = .ok (.ireturn, 1) := by decide +kernel
theorem dX12_lamps_0 : decode cX12_lamps 0 = .ok (.aload_n 0, 1) := by decide +kernel
theorem dX12_lamps_1 : decode cX12_lamps 1 = .ok (.getfield 7, 3) := by decide +kernel
theorem dX12_lamps_4 : decode cX12_lamps 4 = .ok (.iconst 0, 1) := by decide +kernel
theorem dX12_lamps_5 : decode cX12_lamps 5 = .ok (.iconst 2, 1) := by decide +kernel
theorem dX12_lamps_6 : decode cX12_lamps 6 = .ok (.invokestatic 38, 3) := by decide +kernel
theorem dX12_lamps_9 : decode cX12_lamps 9 = .ok (.iaload, 1) := by decide +kernel
theorem dX12_lamps_10 : decode cX12_lamps 10 = .ok (.aload_n 0, 1) := by decide +kernel
theorem dX12_lamps_11 : decode cX12_lamps 11 = .ok (.getfield 7, 3) := by decide +kernel
theorem dX12_lamps_14 : decode cX12_lamps 14 = .ok (.iconst 1, 1) := by decide +kernel
theorem dX12_lamps_15 : decode cX12_lamps 15 = .ok (.iconst 2, 1) := by decide +kernel
theorem dX12_lamps_16 : decode cX12_lamps 16 = .ok (.invokestatic 38, 3) := by decide +kernel
theorem dX12_lamps_19 : decode cX12_lamps 19 = .ok (.iaload, 1) := by decide +kernel
theorem dX12_lamps_20 : decode cX12_lamps 20 = .ok (.iadd, 1) := by decide +kernel
theorem dX12_lamps_21 : decode cX12_lamps 21 = .ok (.aload_n 0, 1) := by decide +kernel
theorem dX12_lamps_22 : decode cX12_lamps 22 = .ok (.getfield 7, 3) := by decide +kernel
theorem dX12_lamps_25 : decode cX12_lamps 25 = .ok (.iconst 2, 1) := by decide +kernel
theorem dX12_lamps_26 : decode cX12_lamps 26 = .ok (.iconst 2, 1) := by decide +kernel
theorem dX12_lamps_27 : decode cX12_lamps 27 = .ok (.invokestatic 38, 3) := by decide +kernel
theorem dX12_lamps_30 : decode cX12_lamps 30 = .ok (.iaload, 1) := by decide +kernel
theorem dX12_lamps_31 : decode cX12_lamps 31 = .ok (.iadd, 1) := by decide +kernel
theorem dX12_lamps_32 : decode cX12_lamps 32 = .ok (.ireturn, 1) := by decide +kernel
theorem dX12_undo_0 : decode cX12_undo 0 = .ok (.aload_n 0, 1) := by decide +kernel
theorem dX12_undo_1 : decode cX12_undo 1 = .ok (.getfield 50, 3) := by decide +kernel
theorem dX12_undo_4 : decode cX12_undo 4 = .ok (.ifCond .ne 6, 3) := by decide +kernel
theorem dX12_undo_7 : decode cX12_undo 7 = .ok (.bipush (-5), 2) := by decide +kernel
theorem dX12_undo_9 : decode cX12_undo 9 = .ok (.ireturn, 1) := by decide +kernel
theorem dX12_undo_10 : decode cX12_undo 10 = .ok (.aload_n 0, 1) := by decide +kernel
theorem dX12_undo_11 : decode cX12_undo 11 = .ok (.dup, 1) := by decide +kernel
theorem dX12_undo_12 : decode cX12_undo 12 = .ok (.getfield 50, 3) := by decide +kernel
theorem dX12_undo_15 : decode cX12_undo 15 = .ok (.iconst 1, 1) := by decide +kernel
theorem dX12_undo_16 : decode cX12_undo 16 = .ok (.isub, 1) := by decide +kernel
theorem dX12_undo_17 : decode cX12_undo 17 = .ok (.putfield 50, 3) := by decide +kernel
theorem dX12_undo_20 : decode cX12_undo 20 = .ok (.iconst 0, 1) := by decide +kernel
theorem dX12_undo_21 : decode cX12_undo 21 = .ok (.istore_n 1, 1) := by decide +kernel
theorem dX12_undo_22 : decode cX12_undo 22 = .ok (.iload_n 1, 1) := by decide +kernel
theorem dX12_undo_23 : decode cX12_undo 23 = .ok (.sipush 691, 3) := by decide +kernel
theorem dX12_undo_26 : decode cX12_undo 26 = .ok (.if_icmp .ge 30, 3) := by decide +kernel
theorem dX12_undo_29 : decode cX12_undo 29 = .ok (.aload_n 0, 1) := by decide +kernel
theorem dX12_undo_30 : decode cX12_undo 30 = .ok (.getfield 7, 3) := by decide +kernel
theorem dX12_undo_33 : decode cX12_undo 33 = .ok (.iload_n 1, 1) := by decide +kernel
theorem dX12_undo_34 : decode cX12_undo 34 = .ok (.aload_n 0, 1) := by decide +kernel
theorem dX12_undo_35 : decode cX12_undo 35 = .ok (.getfield 16, 3) := by decide +kernel
theorem dX12_undo_38 : decode cX12_undo 38 = .ok (.sipush 691, 3) := by decide +kernel
theorem dX12_undo_41 : decode cX12_undo 41 = .ok (.aload_n 0, 1) := by decide +kernel
theorem dX12_undo_42 : decode cX12_undo 42 = .ok (.getfield 50, 3) := by decide +kernel
theorem dX12_undo_45 : decode cX12_undo 45 = .ok (.imul, 1) := by decide +kernel
theorem dX12_undo_46 : decode cX12_undo 46 = .ok (.iload_n 1, 1) := by decide +kernel
theorem dX12_undo_47 : decode cX12_undo 47 = .ok (.iadd, 1) := by decide +kernel
theorem dX12_undo_48 : decode cX12_undo 48 = .ok (.iaload, 1) := by decide +kernel
theorem dX12_undo_49 : decode cX12_undo 49 = .ok (.iastore, 1) := by decide +kernel
theorem dX12_undo_50 : decode cX12_undo 50 = .ok (.iinc 1 1, 3) := by decide +kernel
theorem dX12_undo_53 : decode cX12_undo 53 = .ok (.goto (-31), 3) := by decide +kernel
theorem dX12_undo_56 : decode cX12_undo 56 = .ok (.aload_n 0, 1) := by decide +kernel
theorem dX12_undo_57 : decode cX12_undo 57 = .ok (.getfield 50, 3) := by decide +kernel
theorem dX12_undo_60 : decode cX12_undo 60 = .ok (.ireturn, 1) := by decide +kernel
theorem dX12_save_0 : decode cX12_save 0 = .ok (.iload_n 1, 1) := by decide +kernel
theorem dX12_save_1 : decode cX12_save 1 = .ok (.iconst 0, 1) := by decide +kernel
theorem dX12_save_2 : decode cX12_save 2 = .ok (.iconst 1, 1) := by decide +kernel
theorem dX12_save_3 : decode cX12_save 3 = .ok (.invokestatic 42, 3) := by decide +kernel
theorem dX12_save_6 : decode cX12_save 6 = .ok (.ifCond .ne 6, 3) := by decide +kernel
theorem dX12_save_9 : decode cX12_save 9 = .ok (.bipush (-2), 2) := by decide +kernel
theorem dX12_save_11 : decode cX12_save 11 = .ok (.ireturn, 1) := by decide +kernel
theorem dX12_save_12 : decode cX12_save 12 = .ok (.iconst 0, 1) := by decide +kernel
theorem dX12_save_13 : decode cX12_save 13 = .ok (.istore_n 2, 1) := by decide +kernel
theorem dX12_save_14 : decode cX12_save 14 = .ok (.iload_n 2, 1) := by decide +kernel
theorem dX12_save_15 : decode cX12_save 15 = .ok (.sipush 691, 3) := by decide +kernel
theorem dX12_save_18 : decode cX12_save 18 = .ok (.if_icmp .ge 27, 3) := by decide +kernel
theorem dX12_save_21 : decode cX12_save 21 = .ok (.aload_n 0, 1) := by decide +kernel
theorem dX12_save_22 : decode cX12_save 22 = .ok (.getfield 19, 3) := by decide +kernel
theorem dX12_save_25 : decode cX12_save 25 = .ok (.sipush 691, 3) := by decide +kernel
theorem dX12_save_28 : decode cX12_save 28 = .ok (.iload_n 1, 1) := by decide +kernel
theorem dX12_save_29 : decode cX12_save 29 = .ok (.imul, 1) := by decide +kernel
theorem dX12_save_30 : decode cX12_save 30 = .ok (.iload_n 2, 1) := by decide +kernel
theorem dX12_save_31 : decode cX12_save 31 = .ok (.iadd, 1) := by decide +kernel
theorem dX12_save_32 : decode cX12_save 32 = .ok (.aload_n 0, 1) := by decide +kernel
theorem dX12_save_33 : decode cX12_save 33 = .ok (.getfield 7, 3) := by decide +kernel
theorem dX12_save_36 : decode cX12_save 36 = .ok (.iload_n 2, 1) := by decide +kernel
theorem dX12_save_37 : decode cX12_save 37 = .ok (.iaload, 1) := by decide +kernel
theorem dX12_save_38 : decode cX12_save 38 = .ok (.iastore, 1) := by decide +kernel
theorem dX12_save_39 : decode cX12_save 39 = .ok (.iinc 2 1, 3) := by decide +kernel
theorem dX12_save_42 : decode cX12_save 42 = .ok (.goto (-28), 3) := by decide +kernel
theorem dX12_save_45 : decode cX12_save 45 = .ok (.aload_n 0, 1) := by decide +kernel
theorem dX12_save_46 : decode cX12_save 46 = .ok (.getfield 22, 3) := by decide +kernel
theorem dX12_save_49 : decode cX12_save 49 = .ok (.iload_n 1, 1) := by decide +kernel
theorem dX12_save_50 : decode cX12_save 50 = .ok (.iconst 1, 1) := by decide +kernel
theorem dX12_save_51 : decode cX12_save 51 = .ok (.bastore, 1) := by decide +kernel
theorem dX12_save_52 : decode cX12_save 52 = .ok (.aload_n 0, 1) := by decide +kernel
theorem dX12_save_53 : decode cX12_save 53 = .ok (.invokevirtual 217, 3) := by decide +kernel
theorem dX12_save_56 : decode cX12_save 56 = .ok (.ireturn, 1) := by decide +kernel
theorem dX12_restore_0 : decode cX12_restore 0 = .ok (.iload_n 1, 1) := by decide +kernel
theorem dX12_restore_1 : decode cX12_restore 1 = .ok (.iconst 0, 1) := by decide +kernel
theorem dX12_restore_2 : decode cX12_restore 2 = .ok (.iconst 1, 1) := by decide +kernel
theorem dX12_restore_3 : decode cX12_restore 3 = .ok (.invokestatic 42, 3) := by decide +kernel
theorem dX12_restore_6 : decode cX12_restore 6 = .ok (.ifCond .ne 6, 3) := by decide +kernel
theorem dX12_restore_9 : decode cX12_restore 9 = .ok (.bipush (-2), 2) := by decide +kernel
theorem dX12_restore_11 : decode cX12_restore 11 = .ok (.ireturn, 1) := by decide +kernel
theorem dX12_restore_12 : decode cX12_restore 12 = .ok (.aload_n 0, 1) := by decide +kernel
theorem dX12_restore_13 : decode cX12_restore 13 = .ok (.getfield 22, 3) := by decide +kernel
theorem dX12_restore_16 : decode cX12_restore 16 = .ok (.iload_n 1, 1) := by decide +kernel
theorem dX12_restore_17 : decode cX12_restore 17 = .ok (.baload, 1) := by decide +kernel
theorem dX12_restore_18 : decode cX12_restore 18 = .ok (.ifCond .ne 6, 3) := by decide +kernel
theorem dX12_restore_21 : decode cX12_restore 21 = .ok (.bipush (-5), 2) := by decide +kernel
theorem dX12_restore_23 : decode cX12_restore 23 = .ok (.ireturn, 1) := by decide +kernel
theorem dX12_restore_24 : decode cX12_restore 24 = .ok (.aload_n 0, 1) := by decide +kernel
theorem dX12_restore_25 : decode cX12_restore 25 = .ok (.invokevirtual 77, 3) := by decide +kernel
theorem dX12_restore_28 : decode cX12_restore 28 = .ok (.iconst 0, 1) := by decide +kernel
theorem dX12_restore_29 : decode cX12_restore 29 = .ok (.istore_n 2, 1) := by decide +kernel
theorem dX12_restore_30 : decode cX12_restore 30 = .ok (.iload_n 2, 1) := by decide +kernel
theorem dX12_restore_31 : decode cX12_restore 31 = .ok (.sipush 691, 3) := by decide +kernel
theorem dX12_restore_34 : decode cX12_restore 34 = .ok (.if_icmp .ge 27, 3) := by decide +kernel
theorem dX12_restore_37 : decode cX12_restore 37 = .ok (.aload_n 0, 1) := by decide +kernel
theorem dX12_restore_38 : decode cX12_restore 38 = .ok (.getfield 7, 3) := by decide +kernel
theorem dX12_restore_41 : decode cX12_restore 41 = .ok (.iload_n 2, 1) := by decide +kernel
theorem dX12_restore_42 : decode cX12_restore 42 = .ok (.aload_n 0, 1) := by decide +kernel
theorem dX12_restore_43 : decode cX12_restore 43 = .ok (.getfield 19, 3) := by decide +kernel
theorem dX12_restore_46 : decode cX12_restore 46 = .ok (.sipush 691, 3) := by decide +kernel
theorem dX12_restore_49 : decode cX12_restore 49 = .ok (.iload_n 1, 1) := by decide +kernel
theorem dX12_restore_50 : decode cX12_restore 50 = .ok (.imul, 1) := by decide +kernel
theorem dX12_restore_51 : decode cX12_restore 51 = .ok (.iload_n 2, 1) := by decide +kernel
theorem dX12_restore_52 : decode cX12_restore 52 = .ok (.iadd, 1) := by decide +kernel
theorem dX12_restore_53 : decode cX12_restore 53 = .ok (.iaload, 1) := by decide +kernel
theorem dX12_restore_54 : decode cX12_restore 54 = .ok (.iastore, 1) := by decide +kernel
theorem dX12_restore_55 : decode cX12_restore 55 = .ok (.iinc 2 1, 3) := by decide +kernel
theorem dX12_restore_58 : decode cX12_restore 58 = .ok (.goto (-28), 3) := by decide +kernel
theorem dX12_restore_61 : decode cX12_restore 61 = .ok (.aload_n 0, 1) := by decide +kernel
theorem dX12_restore_62 : decode cX12_restore 62 = .ok (.invokevirtual 217, 3) := by decide +kernel
theorem dX12_restore_65 : decode cX12_restore 65 = .ok (.ireturn, 1) := by decide +kernel
theorem dJ6_bitCount_0f7a4_0 : decode cJ6_bitCount_0f7a4 0 = .ok (.iload_n 0, 1) := by decide +kernel
theorem dJ6_bitCount_0f7a4_1 : decode cJ6_bitCount_0f7a4 1 = .ok (.iload_n 0, 1) := by decide +kernel
theorem dJ6_bitCount_0f7a4_2 : decode cJ6_bitCount_0f7a4 2 = .ok (.iconst 1, 1) := by decide +kernel
theorem dJ6_bitCount_0f7a4_3 : decode cJ6_bitCount_0f7a4 3 = .ok (.iushr, 1) := by decide +kernel
theorem dJ6_bitCount_0f7a4_4 : decode cJ6_bitCount_0f7a4 4 = .ok (.ldc_w 265, 3) := by decide +kernel
theorem dJ6_bitCount_0f7a4_7 : decode cJ6_bitCount_0f7a4 7 = .ok (.iand, 1) := by decide +kernel
theorem dJ6_bitCount_0f7a4_8 : decode cJ6_bitCount_0f7a4 8 = .ok (.isub, 1) := by decide +kernel
theorem dJ6_bitCount_0f7a4_9 : decode cJ6_bitCount_0f7a4 9 = .ok (.istore_n 0, 1) := by decide +kernel
theorem dJ6_bitCount_0f7a4_10 : decode cJ6_bitCount_0f7a4 10 = .ok (.iload_n 0, 1) := by decide +kernel
theorem dJ6_bitCount_0f7a4_11 : decode cJ6_bitCount_0f7a4 11 = .ok (.ldc_w 266, 3) := by decide +kernel
theorem dJ6_bitCount_0f7a4_14 : decode cJ6_bitCount_0f7a4 14 = .ok (.iand, 1) := by decide +kernel
theorem dJ6_bitCount_0f7a4_15 : decode cJ6_bitCount_0f7a4 15 = .ok (.iload_n 0, 1) := by decide +kernel
theorem dJ6_bitCount_0f7a4_16 : decode cJ6_bitCount_0f7a4 16 = .ok (.iconst 2, 1) := by decide +kernel
theorem dJ6_bitCount_0f7a4_17 : decode cJ6_bitCount_0f7a4 17 = .ok (.iushr, 1) := by decide +kernel
theorem dJ6_bitCount_0f7a4_18 : decode cJ6_bitCount_0f7a4 18 = .ok (.ldc_w 266, 3) := by decide +kernel
theorem dJ6_bitCount_0f7a4_21 : decode cJ6_bitCount_0f7a4 21 = .ok (.iand, 1) := by decide +kernel
theorem dJ6_bitCount_0f7a4_22 : decode cJ6_bitCount_0f7a4 22 = .ok (.iadd, 1) := by decide +kernel
theorem dJ6_bitCount_0f7a4_23 : decode cJ6_bitCount_0f7a4 23 = .ok (.istore_n 0, 1) := by decide +kernel
theorem dJ6_bitCount_0f7a4_24 : decode cJ6_bitCount_0f7a4 24 = .ok (.iload_n 0, 1) := by decide +kernel
theorem dJ6_bitCount_0f7a4_25 : decode cJ6_bitCount_0f7a4 25 = .ok (.iload_n 0, 1) := by decide +kernel
theorem dJ6_bitCount_0f7a4_26 : decode cJ6_bitCount_0f7a4 26 = .ok (.iconst 4, 1) := by decide +kernel
theorem dJ6_bitCount_0f7a4_27 : decode cJ6_bitCount_0f7a4 27 = .ok (.iushr, 1) := by decide +kernel
theorem dJ6_bitCount_0f7a4_28 : decode cJ6_bitCount_0f7a4 28 = .ok (.iadd, 1) := by decide +kernel
theorem dJ6_bitCount_0f7a4_29 : decode cJ6_bitCount_0f7a4 29 = .ok (.ldc_w 267, 3) := by decide +kernel
theorem dJ6_bitCount_0f7a4_32 : decode cJ6_bitCount_0f7a4 32 = .ok (.iand, 1) := by decide +kernel
theorem dJ6_bitCount_0f7a4_33 : decode cJ6_bitCount_0f7a4 33 = .ok (.istore_n 0, 1) := by decide +kernel
theorem dJ6_bitCount_0f7a4_34 : decode cJ6_bitCount_0f7a4 34 = .ok (.iload_n 0, 1) := by decide +kernel
theorem dJ6_bitCount_0f7a4_35 : decode cJ6_bitCount_0f7a4 35 = .ok (.iload_n 0, 1) := by decide +kernel
theorem dJ6_bitCount_0f7a4_36 : decode cJ6_bitCount_0f7a4 36 = .ok (.bipush 8, 2) := by decide +kernel
theorem dJ6_bitCount_0f7a4_38 : decode cJ6_bitCount_0f7a4 38 = .ok (.iushr, 1) := by decide +kernel
theorem dJ6_bitCount_0f7a4_39 : decode cJ6_bitCount_0f7a4 39 = .ok (.iadd, 1) := by decide +kernel
theorem dJ6_bitCount_0f7a4_40 : decode cJ6_bitCount_0f7a4 40 = .ok (.istore_n 0, 1) := by decide +kernel
theorem dJ6_bitCount_0f7a4_41 : decode cJ6_bitCount_0f7a4 41 = .ok (.iload_n 0, 1) := by decide +kernel
theorem dJ6_bitCount_0f7a4_42 : decode cJ6_bitCount_0f7a4 42 = .ok (.iload_n 0, 1) := by decide +kernel
theorem dJ6_bitCount_0f7a4_43 : decode cJ6_bitCount_0f7a4 43 = .ok (.bipush 16, 2) := by decide +kernel
theorem dJ6_bitCount_0f7a4_45 : decode cJ6_bitCount_0f7a4 45 = .ok (.iushr, 1) := by decide +kernel
theorem dJ6_bitCount_0f7a4_46 : decode cJ6_bitCount_0f7a4 46 = .ok (.iadd, 1) := by decide +kernel
theorem dJ6_bitCount_0f7a4_47 : decode cJ6_bitCount_0f7a4 47 = .ok (.istore_n 0, 1) := by decide +kernel
theorem dJ6_bitCount_0f7a4_48 : decode cJ6_bitCount_0f7a4 48 = .ok (.iload_n 0, 1) := by decide +kernel
theorem dJ6_bitCount_0f7a4_49 : decode cJ6_bitCount_0f7a4 49 = .ok (.bipush 63, 2) := by decide +kernel
theorem dJ6_bitCount_0f7a4_51 : decode cJ6_bitCount_0f7a4 51 = .ok (.iand, 1) := by decide +kernel
theorem dJ6_bitCount_0f7a4_52 : decode cJ6_bitCount_0f7a4 52 = .ok (.ireturn, 1) := by decide +kernel
theorem dJ9_abs_0f7a4_0 : decode cJ9_abs_0f7a4 0 = .ok (.iload_n 0, 1) := by decide +kernel
theorem dJ9_abs_0f7a4_1 : decode cJ9_abs_0f7a4 1 = .ok (.ifCond .ge 8, 3) := by decide +kernel
theorem dJ9_abs_0f7a4_4 : decode cJ9_abs_0f7a4 4 = .ok (.iload_n 0, 1) := by decide +kernel
theorem dJ9_abs_0f7a4_5 : decode cJ9_abs_0f7a4 5 = .ok (.ineg, 1) := by decide +kernel
theorem dJ9_abs_0f7a4_6 : decode cJ9_abs_0f7a4 6 = .ok (.goto 4, 3) := by decide +kernel
theorem dJ9_abs_0f7a4_9 : decode cJ9_abs_0f7a4 9 = .ok (.iload_n 0, 1) := by decide +kernel
theorem dJ9_abs_0f7a4_10 : decode cJ9_abs_0f7a4 10 = .ok (.ireturn, 1) := by decide +kernel
theorem dJ9_max_7cf53_0 : decode cJ9_max_7cf53 0 = .ok (.iload_n 0, 1) := by decide +kernel
theorem dJ9_max_7cf53_1 : decode cJ9_max_7cf53 1 = .ok (.iload_n 1, 1) := by decide +kernel
theorem dJ9_max_7cf53_2 : decode cJ9_max_7cf53 2 = .ok (.if_icmp .lt 7, 3) := by decide +kernel
theorem dJ9_max_7cf53_5 : decode cJ9_max_7cf53 5 = .ok (.iload_n 0, 1) := by decide +kernel
theorem dJ9_max_7cf53_6 : decode cJ9_max_7cf53 6 = .ok (.goto 4, 3) := by decide +kernel
theorem dJ9_max_7cf53_9 : decode cJ9_max_7cf53 9 = .ok (.iload_n 1, 1) := by decide +kernel
theorem dJ9_max_7cf53_10 : decode cJ9_max_7cf53 10 = .ok (.ireturn, 1) := by decide +kernel
theorem dJ9_min_7cf53_0 : decode cJ9_min_7cf53 0 = .ok (.iload_n 0, 1) := by decide +kernel
theorem dJ9_min_7cf53_1 : decode cJ9_min_7cf53 1 = .ok (.iload_n 1, 1) := by decide +kernel
theorem dJ9_min_7cf53_2 : decode cJ9_min_7cf53 2 = .ok (.if_icmp .gt 7, 3) := by decide +kernel
theorem dJ9_min_7cf53_5 : decode cJ9_min_7cf53 5 = .ok (.iload_n 0, 1) := by decide +kernel
theorem dJ9_min_7cf53_6 : decode cJ9_min_7cf53 6 = .ok (.goto 4, 3) := by decide +kernel
theorem dJ9_min_7cf53_9 : decode cJ9_min_7cf53 9 = .ok (.iload_n 1, 1) := by decide +kernel
theorem dJ9_min_7cf53_10 : decode cJ9_min_7cf53 10 = .ok (.ireturn, 1) := by decide +kernel
theorem dL_law_0 : decode cL_law 0 = .ok (.new 7, 3) := by decide +kernel
theorem dL_law_3 : decode cL_law 3 = .ok (.dup, 1) := by decide +kernel
theorem dL_law_4 : decode cL_law 4 = .ok (.invokespecial 9, 3) := by decide +kernel
theorem dL_law_7 : decode cL_law 7 = .ok (.astore_n 1, 1) := by decide +kernel
theorem dL_law_8 : decode cL_law 8 = .ok (.new 10, 3) := by decide +kernel
theorem dL_law_11 : decode cL_law 11 = .ok (.dup, 1) := by decide +kernel
theorem dL_law_12 : decode cL_law 12 = .ok (.invokespecial 12, 3) := by decide +kernel
theorem dL_law_15 : decode cL_law 15 = .ok (.astore_n 2, 1) := by decide +kernel
theorem dL_law_16 : decode cL_law 16 = .ok (.iconst 0, 1) := by decide +kernel
theorem dL_law_17 : decode cL_law 17 = .ok (.istore_n 3, 1) := by decide +kernel
theorem dL_law_18 : decode cL_law 18 = .ok (.iload_n 3, 1) := by decide +kernel
theorem dL_law_19 : decode cL_law 19 = .ok (.aload_n 0, 1) := by decide +kernel
theorem dL_law_20 : decode cL_law 20 = .ok (.arraylength, 1) := by decide +kernel
theorem dL_law_21 : decode cL_law 21 = .ok (.iconst 4, 1) := by decide +kernel
theorem dL_law_22 : decode cL_law 22 = .ok (.isub, 1) := by decide +kernel
theorem dL_law_23 : decode cL_law 23 = .ok (.if_icmp .gt 1255, 3) := by decide +kernel
theorem dL_law_26 : decode cL_law 26 = .ok (.aload_n 0, 1) := by decide +kernel
theorem dL_law_27 : decode cL_law 27 = .ok (.iload_n 3, 1) := by decide +kernel
theorem dL_law_28 : decode cL_law 28 = .ok (.iaload, 1) := by decide +kernel
theorem dL_law_29 : decode cL_law 29 = .ok (.bipush 31, 2) := by decide +kernel
theorem dL_law_31 : decode cL_law 31 = .ok (.iand, 1) := by decide +kernel
theorem dL_law_32 : decode cL_law 32 = .ok (.tableswitch 1240 0 31 #[144, 177, 220, 263, 306, 339, 382, 425, 448, 491, 534, 567, 590, 613, 636, 679, 722, 765, 808, 851, 884, 927, 950, 993, 1026, 1059, 1102, 1155, 1168, 1181, 1194, 1217], 144) := by decide +kernel
theorem dL_law_176 : decode cL_law 176 = .ok (.aload_n 1, 1) := by decide +kernel
theorem dL_law_177 : decode cL_law 177 = .ok (.aload_n 0, 1) := by decide +kernel
theorem dL_law_178 : decode cL_law 178 = .ok (.iload_n 3, 1) := by decide +kernel
theorem dL_law_179 : decode cL_law 179 = .ok (.iconst 1, 1) := by decide +kernel
theorem dL_law_180 : decode cL_law 180 = .ok (.iadd, 1) := by decide +kernel
theorem dL_law_181 : decode cL_law 181 = .ok (.iaload, 1) := by decide +kernel
theorem dL_law_182 : decode cL_law 182 = .ok (.aload_n 0, 1) := by decide +kernel
theorem dL_law_183 : decode cL_law 183 = .ok (.iload_n 3, 1) := by decide +kernel
theorem dL_law_184 : decode cL_law 184 = .ok (.iconst 2, 1) := by decide +kernel
theorem dL_law_185 : decode cL_law 185 = .ok (.iadd, 1) := by decide +kernel
theorem dL_law_186 : decode cL_law 186 = .ok (.iaload, 1) := by decide +kernel
theorem dL_law_187 : decode cL_law 187 = .ok (.invokevirtual 13, 3) := by decide +kernel
theorem dL_law_190 : decode cL_law 190 = .ok (.aload_n 2, 1) := by decide +kernel
theorem dL_law_191 : decode cL_law 191 = .ok (.aload_n 0, 1) := by decide +kernel
theorem dL_law_192 : decode cL_law 192 = .ok (.iload_n 3, 1) := by decide +kernel
theorem dL_law_193 : decode cL_law 193 = .ok (.iconst 1, 1) := by decide +kernel
theorem dL_law_194 : decode cL_law 194 = .ok (.iadd, 1) := by decide +kernel
theorem dL_law_195 : decode cL_law 195 = .ok (.iaload, 1) := by decide +kernel
theorem dL_law_196 : decode cL_law 196 = .ok (.aload_n 0, 1) := by decide +kernel
theorem dL_law_197 : decode cL_law 197 = .ok (.iload_n 3, 1) := by decide +kernel
theorem dL_law_198 : decode cL_law 198 = .ok (.iconst 2, 1) := by decide +kernel
theorem dL_law_199 : decode cL_law 199 = .ok (.iadd, 1) := by decide +kernel
theorem dL_law_200 : decode cL_law 200 = .ok (.iaload, 1) := by decide +kernel
theorem dL_law_201 : decode cL_law 201 = .ok (.invokevirtual 17, 3) := by decide +kernel
theorem dL_law_204 : decode cL_law 204 = .ok (.if_icmp .eq 1068, 3) := by decide +kernel
theorem dL_law_207 : decode cL_law 207 = .ok (.iconst 0, 1) := by decide +kernel
theorem dL_law_208 : decode cL_law 208 = .ok (.ireturn, 1) := by decide +kernel
theorem dL_law_209 : decode cL_law 209 = .ok (.aload_n 1, 1) := by decide +kernel
theorem dL_law_210 : decode cL_law 210 = .ok (.aload_n 0, 1) := by decide +kernel
theorem dL_law_211 : decode cL_law 211 = .ok (.iload_n 3, 1) := by decide +kernel
theorem dL_law_212 : decode cL_law 212 = .ok (.iconst 1, 1) := by decide +kernel
theorem dL_law_213 : decode cL_law 213 = .ok (.iadd, 1) := by decide +kernel
theorem dL_law_214 : decode cL_law 214 = .ok (.iaload, 1) := by decide +kernel
theorem dL_law_215 : decode cL_law 215 = .ok (.aload_n 0, 1) := by decide +kernel
theorem dL_law_216 : decode cL_law 216 = .ok (.iload_n 3, 1) := by decide +kernel
theorem dL_law_217 : decode cL_law 217 = .ok (.iconst 2, 1) := by decide +kernel
theorem dL_law_218 : decode cL_law 218 = .ok (.iadd, 1) := by decide +kernel
theorem dL_law_219 : decode cL_law 219 = .ok (.iaload, 1) := by decide +kernel
theorem dL_law_220 : decode cL_law 220 = .ok (.aload_n 0, 1) := by decide +kernel
theorem dL_law_221 : decode cL_law 221 = .ok (.iload_n 3, 1) := by decide +kernel
theorem dL_law_222 : decode cL_law 222 = .ok (.iconst 3, 1) := by decide +kernel
theorem dL_law_223 : decode cL_law 223 = .ok (.iadd, 1) := by decide +kernel
theorem dL_law_224 : decode cL_law 224 = .ok (.iaload, 1) := by decide +kernel
theorem dL_law_225 : decode cL_law 225 = .ok (.invokevirtual 18, 3) := by decide +kernel
theorem dL_law_228 : decode cL_law 228 = .ok (.aload_n 2, 1) := by decide +kernel
theorem dL_law_229 : decode cL_law 229 = .ok (.aload_n 0, 1) := by decide +kernel
theorem dL_law_230 : decode cL_law 230 = .ok (.iload_n 3, 1) := by decide +kernel
theorem dL_law_231 : decode cL_law 231 = .ok (.iconst 1, 1) := by decide +kernel
theorem dL_law_232 : decode cL_law 232 = .ok (.iadd, 1) := by decide +kernel
theorem dL_law_233 : decode cL_law 233 = .ok (.iaload, 1) := by decide +kernel
theorem dL_law_234 : decode cL_law 234 = .ok (.aload_n 0, 1) := by decide +kernel
theorem dL_law_235 : decode cL_law 235 = .ok (.iload_n 3, 1) := by decide +kernel
theorem dL_law_236 : decode cL_law 236 = .ok (.iconst 2, 1) := by decide +kernel
theorem dL_law_237 : decode cL_law 237 = .ok (.iadd, 1) := by decide +kernel
theorem dL_law_238 : decode cL_law 238 = .ok (.iaload, 1) := by decide +kernel
theorem dL_law_239 : decode cL_law 239 = .ok (.aload_n 0, 1) := by decide +kernel
theorem dL_law_240 : decode cL_law 240 = .ok (.iload_n 3, 1) := by decide +kernel
theorem dL_law_241 : decode cL_law 241 = .ok (.iconst 3, 1) := by decide +kernel
theorem dL_law_242 : decode cL_law 242 = .ok (.iadd, 1) := by decide +kernel
theorem dL_law_243 : decode cL_law 243 = .ok (.iaload, 1) := by decide +kernel
theorem dL_law_244 : decode cL_law 244 = .ok (.invokevirtual 22, 3) := by decide +kernel
theorem dL_law_247 : decode cL_law 247 = .ok (.if_icmp .eq 1025, 3) := by decide +kernel
theorem dL_law_250 : decode cL_law 250 = .ok (.iconst 0, 1) := by decide +kernel
theorem dL_law_251 : decode cL_law 251 = .ok (.ireturn, 1) := by decide +kernel
theorem dL_law_252 : decode cL_law 252 = .ok (.aload_n 1, 1) := by decide +kernel
theorem dL_law_253 : decode cL_law 253 = .ok (.aload_n 0, 1) := by decide +kernel
theorem dL_law_254 : decode cL_law 254 = .ok (.iload_n 3, 1) := by decide +kernel
theorem dL_law_255 : decode cL_law 255 = .ok (.iconst 1, 1) := by decide +kernel
theorem dL_law_256 : decode cL_law 256 = .ok (.iadd, 1) := by decide +kernel
theorem dL_law_257 : decode cL_law 257 = .ok (.iaload, 1) := by decide +kernel
theorem dL_law_258 : decode cL_law 258 = .ok (.aload_n 0, 1) := by decide +kernel
theorem dL_law_259 : decode cL_law 259 = .ok (.iload_n 3, 1) := by decide +kernel
theorem dL_law_260 : decode cL_law 260 = .ok (.iconst 2, 1) := by decide +kernel
theorem dL_law_261 : decode cL_law 261 = .ok (.iadd, 1) := by decide +kernel
theorem dL_law_262 : decode cL_law 262 = .ok (.iaload, 1) := by decide +kernel
theorem dL_law_263 : decode cL_law 263 = .ok (.aload_n 0, 1) := by decide +kernel
theorem dL_law_264 : decode cL_law 264 = .ok (.iload_n 3, 1) := by decide +kernel
theorem dL_law_265 : decode cL_law 265 = .ok (.iconst 3, 1) := by decide +kernel
theorem dL_law_266 : decode cL_law 266 = .ok (.iadd, 1) := by decide +kernel
theorem dL_law_267 : decode cL_law 267 = .ok (.iaload, 1) := by decide +kernel
theorem dL_law_268 : decode cL_law 268 = .ok (.invokevirtual 23, 3) := by decide +kernel
theorem dL_law_271 : decode cL_law 271 = .ok (.aload_n 2, 1) := by decide +kernel
theorem dL_law_272 : decode cL_law 272 = .ok (.aload_n 0, 1) := by decide +kernel
theorem dL_law_273 : decode cL_law 273 = .ok (.iload_n 3, 1) := by decide +kernel
theorem dL_law_274 : decode cL_law 274 = .ok (.iconst 1, 1) := by decide +kernel
theorem dL_law_275 : decode cL_law 275 = .ok (.iadd, 1) := by decide +kernel
theorem dL_law_276 : decode cL_law 276 = .ok (.iaload, 1) := by decide +kernel
theorem dL_law_277 : decode cL_law 277 = .ok (.aload_n 0, 1) := by decide +kernel
theorem dL_law_278 : decode cL_law 278 = .ok (.iload_n 3, 1) := by decide +kernel
theorem dL_law_279 : decode cL_law 279 = .ok (.iconst 2, 1) := by decide +kernel
theorem dL_law_280 : decode cL_law 280 = .ok (.iadd, 1) := by decide +kernel
theorem dL_law_281 : decode cL_law 281 = .ok (.iaload, 1) := by decide +kernel
theorem dL_law_282 : decode cL_law 282 = .ok (.aload_n 0, 1) := by decide +kernel
theorem dL_law_283 : decode cL_law 283 = .ok (.iload_n 3, 1) := by decide +kernel
theorem dL_law_284 : decode cL_law 284 = .ok (.iconst 3, 1) := by decide +kernel
theorem dL_law_285 : decode cL_law 285 = .ok (.iadd, 1) := by decide +kernel
theorem dL_law_286 : decode cL_law 286 = .ok (.iaload, 1) := by decide +kernel
theorem dL_law_287 : decode cL_law 287 = .ok (.invokevirtual 26, 3) := by decide +kernel
theorem dL_law_290 : decode cL_law 290 = .ok (.if_icmp .eq 982, 3) := by decide +kernel
theorem dL_law_293 : decode cL_law 293 = .ok (.iconst 0, 1) := by decide +kernel
theorem dL_law_294 : decode cL_law 294 = .ok (.ireturn, 1) := by decide +kernel
theorem dL_law_295 : decode cL_law 295 = .ok (.aload_n 1, 1) := by decide +kernel
theorem dL_law_296 : decode cL_law 296 = .ok (.aload_n 0, 1) := by decide +kernel
theorem dL_law_297 : decode cL_law 297 = .ok (.iload_n 3, 1) := by decide +kernel
theorem dL_law_298 : decode cL_law 298 = .ok (.iconst 1, 1) := by decide +kernel
theorem dL_law_299 : decode cL_law 299 = .ok (.iadd, 1) := by decide +kernel
theorem dL_law_300 : decode cL_law 300 = .ok (.iaload, 1) := by decide +kernel
theorem dL_law_301 : decode cL_law 301 = .ok (.aload_n 0, 1) := by decide +kernel
theorem dL_law_302 : decode cL_law 302 = .ok (.iload_n 3, 1) := by decide +kernel
theorem dL_law_303 : decode cL_law 303 = .ok (.iconst 2, 1) := by decide +kernel
theorem dL_law_304 : decode cL_law 304 = .ok (.iadd, 1) := by decide +kernel
theorem dL_law_305 : decode cL_law 305 = .ok (.iaload, 1) := by decide +kernel
theorem dL_law_306 : decode cL_law 306 = .ok (.aload_n 0, 1) := by decide +kernel
theorem dL_law_307 : decode cL_law 307 = .ok (.iload_n 3, 1) := by decide +kernel
theorem dL_law_308 : decode cL_law 308 = .ok (.iconst 3, 1) := by decide +kernel
theorem dL_law_309 : decode cL_law 309 = .ok (.iadd, 1) := by decide +kernel
theorem dL_law_310 : decode cL_law 310 = .ok (.iaload, 1) := by decide +kernel
theorem dL_law_311 : decode cL_law 311 = .ok (.invokevirtual 27, 3) := by decide +kernel
theorem dL_law_314 : decode cL_law 314 = .ok (.aload_n 2, 1) := by decide +kernel
theorem dL_law_315 : decode cL_law 315 = .ok (.aload_n 0, 1) := by decide +kernel
theorem dL_law_316 : decode cL_law 316 = .ok (.iload_n 3, 1) := by decide +kernel
theorem dL_law_317 : decode cL_law 317 = .ok (.iconst 1, 1) := by decide +kernel
theorem dL_law_318 : decode cL_law 318 = .ok (.iadd, 1) := by decide +kernel
theorem dL_law_319 : decode cL_law 319 = .ok (.iaload, 1) := by decide +kernel
theorem dL_law_320 : decode cL_law 320 = .ok (.aload_n 0, 1) := by decide +kernel
theorem dL_law_321 : decode cL_law 321 = .ok (.iload_n 3, 1) := by decide +kernel
theorem dL_law_322 : decode cL_law 322 = .ok (.iconst 2, 1) := by decide +kernel
theorem dL_law_323 : decode cL_law 323 = .ok (.iadd, 1) := by decide +kernel
theorem dL_law_324 : decode cL_law 324 = .ok (.iaload, 1) := by decide +kernel
theorem dL_law_325 : decode cL_law 325 = .ok (.aload_n 0, 1) := by decide +kernel
theorem dL_law_326 : decode cL_law 326 = .ok (.iload_n 3, 1) := by decide +kernel
theorem dL_law_327 : decode cL_law 327 = .ok (.iconst 3, 1) := by decide +kernel
theorem dL_law_328 : decode cL_law 328 = .ok (.iadd, 1) := by decide +kernel
theorem dL_law_329 : decode cL_law 329 = .ok (.iaload, 1) := by decide +kernel
theorem dL_law_330 : decode cL_law 330 = .ok (.invokevirtual 30, 3) := by decide +kernel
theorem dL_law_333 : decode cL_law 333 = .ok (.if_icmp .eq 939, 3) := by decide +kernel
theorem dL_law_336 : decode cL_law 336 = .ok (.iconst 0, 1) := by decide +kernel
theorem dL_law_337 : decode cL_law 337 = .ok (.ireturn, 1) := by decide +kernel
theorem dL_law_338 : decode cL_law 338 = .ok (.aload_n 1, 1) := by decide +kernel
theorem dL_law_339 : decode cL_law 339 = .ok (.aload_n 0, 1) := by decide +kernel
theorem dL_law_340 : decode cL_law 340 = .ok (.iload_n 3, 1) := by decide +kernel
theorem dL_law_341 : decode cL_law 341 = .ok (.iconst 1, 1) := by decide +kernel
theorem dL_law_342 : decode cL_law 342 = .ok (.iadd, 1) := by decide +kernel
theorem dL_law_343 : decode cL_law 343 = .ok (.iaload, 1) := by decide +kernel
theorem dL_law_344 : decode cL_law 344 = .ok (.aload_n 0, 1) := by decide +kernel
theorem dL_law_345 : decode cL_law 345 = .ok (.iload_n 3, 1) := by decide +kernel
theorem dL_law_346 : decode cL_law 346 = .ok (.iconst 2, 1) := by decide +kernel
theorem dL_law_347 : decode cL_law 347 = .ok (.iadd, 1) := by decide +kernel
theorem dL_law_348 : decode cL_law 348 = .ok (.iaload, 1) := by decide +kernel
theorem dL_law_349 : decode cL_law 349 = .ok (.invokevirtual 31, 3) := by decide +kernel
theorem dL_law_352 : decode cL_law 352 = .ok (.aload_n 2, 1) := by decide +kernel
theorem dL_law_353 : decode cL_law 353 = .ok (.aload_n 0, 1) := by decide +kernel
theorem dL_law_354 : decode cL_law 354 = .ok (.iload_n 3, 1) := by decide +kernel
theorem dL_law_355 : decode cL_law 355 = .ok (.iconst 1, 1) := by decide +kernel
theorem dL_law_356 : decode cL_law 356 = .ok (.iadd, 1) := by decide +kernel
theorem dL_law_357 : decode cL_law 357 = .ok (.iaload, 1) := by decide +kernel
theorem dL_law_358 : decode cL_law 358 = .ok (.aload_n 0, 1) := by decide +kernel
theorem dL_law_359 : decode cL_law 359 = .ok (.iload_n 3, 1) := by decide +kernel
theorem dL_law_360 : decode cL_law 360 = .ok (.iconst 2, 1) := by decide +kernel
theorem dL_law_361 : decode cL_law 361 = .ok (.iadd, 1) := by decide +kernel
theorem dL_law_362 : decode cL_law 362 = .ok (.iaload, 1) := by decide +kernel
theorem dL_law_363 : decode cL_law 363 = .ok (.invokevirtual 34, 3) := by decide +kernel
theorem dL_law_366 : decode cL_law 366 = .ok (.if_icmp .eq 906, 3) := by decide +kernel
theorem dL_law_369 : decode cL_law 369 = .ok (.iconst 0, 1) := by decide +kernel
theorem dL_law_370 : decode cL_law 370 = .ok (.ireturn, 1) := by decide +kernel
theorem dL_law_371 : decode cL_law 371 = .ok (.aload_n 1, 1) := by decide +kernel
theorem dL_law_372 : decode cL_law 372 = .ok (.aload_n 0, 1) := by decide +kernel
theorem dL_law_373 : decode cL_law 373 = .ok (.iload_n 3, 1) := by decide +kernel
theorem dL_law_374 : decode cL_law 374 = .ok (.iconst 1, 1) := by decide +kernel
theorem dL_law_375 : decode cL_law 375 = .ok (.iadd, 1) := by decide +kernel
theorem dL_law_376 : decode cL_law 376 = .ok (.iaload, 1) := by decide +kernel
theorem dL_law_377 : decode cL_law 377 = .ok (.aload_n 0, 1) := by decide +kernel
theorem dL_law_378 : decode cL_law 378 = .ok (.iload_n 3, 1) := by decide +kernel
theorem dL_law_379 : decode cL_law 379 = .ok (.iconst 2, 1) := by decide +kernel
theorem dL_law_380 : decode cL_law 380 = .ok (.iadd, 1) := by decide +kernel
theorem dL_law_381 : decode cL_law 381 = .ok (.iaload, 1) := by decide +kernel
theorem dL_law_382 : decode cL_law 382 = .ok (.aload_n 0, 1) := by decide +kernel
theorem dL_law_383 : decode cL_law 383 = .ok (.iload_n 3, 1) := by decide +kernel
theorem dL_law_384 : decode cL_law 384 = .ok (.iconst 3, 1) := by decide +kernel
theorem dL_law_385 : decode cL_law 385 = .ok (.iadd, 1) := by decide +kernel
theorem dL_law_386 : decode cL_law 386 = .ok (.iaload, 1) := by decide +kernel
theorem dL_law_387 : decode cL_law 387 = .ok (.invokevirtual 35, 3) := by decide +kernel
theorem dL_law_390 : decode cL_law 390 = .ok (.aload_n 2, 1) := by decide +kernel
theorem dL_law_391 : decode cL_law 391 = .ok (.aload_n 0, 1) := by decide +kernel
theorem dL_law_392 : decode cL_law 392 = .ok (.iload_n 3, 1) := by decide +kernel
theorem dL_law_393 : decode cL_law 393 = .ok (.iconst 1, 1) := by decide +kernel
theorem dL_law_394 : decode cL_law 394 = .ok (.iadd, 1) := by decide +kernel
theorem dL_law_395 : decode cL_law 395 = .ok (.iaload, 1) := by decide +kernel
theorem dL_law_396 : decode cL_law 396 = .ok (.aload_n 0, 1) := by decide +kernel
theorem dL_law_397 : decode cL_law 397 = .ok (.iload_n 3, 1) := by decide +kernel
theorem dL_law_398 : decode cL_law 398 = .ok (.iconst 2, 1) := by decide +kernel
theorem dL_law_399 : decode cL_law 399 = .ok (.iadd, 1) := by decide +kernel
theorem dL_law_400 : decode cL_law 400 = .ok (.iaload, 1) := by decide +kernel
theorem dL_law_401 : decode cL_law 401 = .ok (.aload_n 0, 1) := by decide +kernel
theorem dL_law_402 : decode cL_law 402 = .ok (.iload_n 3, 1) := by decide +kernel
theorem dL_law_403 : decode cL_law 403 = .ok (.iconst 3, 1) := by decide +kernel
theorem dL_law_404 : decode cL_law 404 = .ok (.iadd, 1) := by decide +kernel
theorem dL_law_405 : decode cL_law 405 = .ok (.iaload, 1) := by decide +kernel
theorem dL_law_406 : decode cL_law 406 = .ok (.invokevirtual 38, 3) := by decide +kernel
theorem dL_law_409 : decode cL_law 409 = .ok (.if_icmp .eq 863, 3) := by decide +kernel
theorem dL_law_412 : decode cL_law 412 = .ok (.iconst 0, 1) := by decide +kernel
theorem dL_law_413 : decode cL_law 413 = .ok (.ireturn, 1) := by decide +kernel
theorem dL_law_414 : decode cL_law 414 = .ok (.aload_n 1, 1) := by decide +kernel
theorem dL_law_415 : decode cL_law 415 = .ok (.aload_n 0, 1) := by decide +kernel
theorem dL_law_416 : decode cL_law 416 = .ok (.iload_n 3, 1) := by decide +kernel
theorem dL_law_417 : decode cL_law 417 = .ok (.iconst 1, 1) := by decide +kernel
theorem dL_law_418 : decode cL_law 418 = .ok (.iadd, 1) := by decide +kernel
theorem dL_law_419 : decode cL_law 419 = .ok (.iaload, 1) := by decide +kernel
theorem dL_law_420 : decode cL_law 420 = .ok (.aload_n 0, 1) := by decide +kernel
theorem dL_law_421 : decode cL_law 421 = .ok (.iload_n 3, 1) := by decide +kernel
theorem dL_law_422 : decode cL_law 422 = .ok (.iconst 2, 1) := by decide +kernel
theorem dL_law_423 : decode cL_law 423 = .ok (.iadd, 1) := by decide +kernel
theorem dL_law_424 : decode cL_law 424 = .ok (.iaload, 1) := by decide +kernel
theorem dL_law_425 : decode cL_law 425 = .ok (.aload_n 0, 1) := by decide +kernel
theorem dL_law_426 : decode cL_law 426 = .ok (.iload_n 3, 1) := by decide +kernel
theorem dL_law_427 : decode cL_law 427 = .ok (.iconst 3, 1) := by decide +kernel
theorem dL_law_428 : decode cL_law 428 = .ok (.iadd, 1) := by decide +kernel
theorem dL_law_429 : decode cL_law 429 = .ok (.iaload, 1) := by decide +kernel
theorem dL_law_430 : decode cL_law 430 = .ok (.invokevirtual 39, 3) := by decide +kernel
theorem dL_law_433 : decode cL_law 433 = .ok (.aload_n 2, 1) := by decide +kernel
theorem dL_law_434 : decode cL_law 434 = .ok (.aload_n 0, 1) := by decide +kernel
theorem dL_law_435 : decode cL_law 435 = .ok (.iload_n 3, 1) := by decide +kernel
theorem dL_law_436 : decode cL_law 436 = .ok (.iconst 1, 1) := by decide +kernel
theorem dL_law_437 : decode cL_law 437 = .ok (.iadd, 1) := by decide +kernel
theorem dL_law_438 : decode cL_law 438 = .ok (.iaload, 1) := by decide +kernel
theorem dL_law_439 : decode cL_law 439 = .ok (.aload_n 0, 1) := by decide +kernel
theorem dL_law_440 : decode cL_law 440 = .ok (.iload_n 3, 1) := by decide +kernel
theorem dL_law_441 : decode cL_law 441 = .ok (.iconst 2, 1) := by decide +kernel
theorem dL_law_442 : decode cL_law 442 = .ok (.iadd, 1) := by decide +kernel
theorem dL_law_443 : decode cL_law 443 = .ok (.iaload, 1) := by decide +kernel
theorem dL_law_444 : decode cL_law 444 = .ok (.aload_n 0, 1) := by decide +kernel
theorem dL_law_445 : decode cL_law 445 = .ok (.iload_n 3, 1) := by decide +kernel
theorem dL_law_446 : decode cL_law 446 = .ok (.iconst 3, 1) := by decide +kernel
theorem dL_law_447 : decode cL_law 447 = .ok (.iadd, 1) := by decide +kernel
theorem dL_law_448 : decode cL_law 448 = .ok (.iaload, 1) := by decide +kernel
theorem dL_law_449 : decode cL_law 449 = .ok (.invokevirtual 42, 3) := by decide +kernel
theorem dL_law_452 : decode cL_law 452 = .ok (.if_icmp .eq 820, 3) := by decide +kernel
theorem dL_law_455 : decode cL_law 455 = .ok (.iconst 0, 1) := by decide +kernel
theorem dL_law_456 : decode cL_law 456 = .ok (.ireturn, 1) := by decide +kernel
theorem dL_law_457 : decode cL_law 457 = .ok (.aload_n 1, 1) := by decide +kernel
theorem dL_law_458 : decode cL_law 458 = .ok (.aload_n 0, 1) := by decide +kernel
theorem dL_law_459 : decode cL_law 459 = .ok (.iload_n 3, 1) := by decide +kernel
theorem dL_law_460 : decode cL_law 460 = .ok (.iconst 1, 1) := by decide +kernel
theorem dL_law_461 : decode cL_law 461 = .ok (.iadd, 1) := by decide +kernel
theorem dL_law_462 : decode cL_law 462 = .ok (.iaload, 1) := by decide +kernel
theorem dL_law_463 : decode cL_law 463 = .ok (.invokevirtual 43, 3) := by decide +kernel
theorem dL_law_466 : decode cL_law 466 = .ok (.aload_n 2, 1) := by decide +kernel
theorem dL_law_467 : decode cL_law 467 = .ok (.aload_n 0, 1) := by decide +kernel
theorem dL_law_468 : decode cL_law 468 = .ok (.iload_n 3, 1) := by decide +kernel
theorem dL_law_469 : decode cL_law 469 = .ok (.iconst 1, 1) := by decide +kernel
theorem dL_law_470 : decode cL_law 470 = .ok (.iadd, 1) := by decide +kernel
theorem dL_law_471 : decode cL_law 471 = .ok (.iaload, 1) := by decide +kernel
theorem dL_law_472 : decode cL_law 472 = .ok (.invokevirtual 47, 3) := by decide +kernel
theorem dL_law_475 : decode cL_law 475 = .ok (.if_icmp .eq 797, 3) := by decide +kernel
theorem dL_law_478 : decode cL_law 478 = .ok (.iconst 0, 1) := by decide +kernel
theorem dL_law_479 : decode cL_law 479 = .ok (.ireturn, 1) := by decide +kernel
theorem dL_law_480 : decode cL_law 480 = .ok (.aload_n 1, 1) := by decide +kernel
theorem dL_law_481 : decode cL_law 481 = .ok (.aload_n 0, 1) := by decide +kernel
theorem dL_law_482 : decode cL_law 482 = .ok (.iload_n 3, 1) := by decide +kernel
theorem dL_law_483 : decode cL_law 483 = .ok (.iconst 1, 1) := by decide +kernel
theorem dL_law_484 : decode cL_law 484 = .ok (.iadd, 1) := by decide +kernel
theorem dL_law_485 : decode cL_law 485 = .ok (.iaload, 1) := by decide +kernel
theorem dL_law_486 : decode cL_law 486 = .ok (.aload_n 0, 1) := by decide +kernel
theorem dL_law_487 : decode cL_law 487 = .ok (.iload_n 3, 1) := by decide +kernel
theorem dL_law_488 : decode cL_law 488 = .ok (.iconst 2, 1) := by decide +kernel
theorem dL_law_489 : decode cL_law 489 = .ok (.iadd, 1) := by decide +kernel
theorem dL_law_490 : decode cL_law 490 = .ok (.iaload, 1) := by decide +kernel
theorem dL_law_491 : decode cL_law 491 = .ok (.aload_n 0, 1) := by decide +kernel
theorem dL_law_492 : decode cL_law 492 = .ok (.iload_n 3, 1) := by decide +kernel
theorem dL_law_493 : decode cL_law 493 = .ok (.iconst 3, 1) := by decide +kernel
theorem dL_law_494 : decode cL_law 494 = .ok (.iadd, 1) := by decide +kernel
theorem dL_law_495 : decode cL_law 495 = .ok (.iaload, 1) := by decide +kernel
theorem dL_law_496 : decode cL_law 496 = .ok (.invokevirtual 48, 3) := by decide +kernel
theorem dL_law_499 : decode cL_law 499 = .ok (.aload_n 2, 1) := by decide +kernel
theorem dL_law_500 : decode cL_law 500 = .ok (.aload_n 0, 1) := by decide +kernel
theorem dL_law_501 : decode cL_law 501 = .ok (.iload_n 3, 1) := by decide +kernel
theorem dL_law_502 : decode cL_law 502 = .ok (.iconst 1, 1) := by decide +kernel
theorem dL_law_503 : decode cL_law 503 = .ok (.iadd, 1) := by decide +kernel
theorem dL_law_504 : decode cL_law 504 = .ok (.iaload, 1) := by decide +kernel
theorem dL_law_505 : decode cL_law 505 = .ok (.aload_n 0, 1) := by decide +kernel
theorem dL_law_506 : decode cL_law 506 = .ok (.iload_n 3, 1) := by decide +kernel
theorem dL_law_507 : decode cL_law 507 = .ok (.iconst 2, 1) := by decide +kernel
theorem dL_law_508 : decode cL_law 508 = .ok (.iadd, 1) := by decide +kernel
theorem dL_law_509 : decode cL_law 509 = .ok (.iaload, 1) := by decide +kernel
theorem dL_law_510 : decode cL_law 510 = .ok (.aload_n 0, 1) := by decide +kernel
theorem dL_law_511 : decode cL_law 511 = .ok (.iload_n 3, 1) := by decide +kernel
theorem dL_law_512 : decode cL_law 512 = .ok (.iconst 3, 1) := by decide +kernel
theorem dL_law_513 : decode cL_law 513 = .ok (.iadd, 1) := by decide +kernel
theorem dL_law_514 : decode cL_law 514 = .ok (.iaload, 1) := by decide +kernel
theorem dL_law_515 : decode cL_law 515 = .ok (.invokevirtual 51, 3) := by decide +kernel
theorem dL_law_518 : decode cL_law 518 = .ok (.if_icmp .eq 754, 3) := by decide +kernel
theorem dL_law_521 : decode cL_law 521 = .ok (.iconst 0, 1) := by decide +kernel
theorem dL_law_522 : decode cL_law 522 = .ok (.ireturn, 1) := by decide +kernel
theorem dL_law_523 : decode cL_law 523 = .ok (.aload_n 1, 1) := by decide +kernel
theorem dL_law_524 : decode cL_law 524 = .ok (.aload_n 0, 1) := by decide +kernel
theorem dL_law_525 : decode cL_law 525 = .ok (.iload_n 3, 1) := by decide +kernel
theorem dL_law_526 : decode cL_law 526 = .ok (.iconst 1, 1) := by decide +kernel
theorem dL_law_527 : decode cL_law 527 = .ok (.iadd, 1) := by decide +kernel
theorem dL_law_528 : decode cL_law 528 = .ok (.iaload, 1) := by decide +kernel
theorem dL_law_529 : decode cL_law 529 = .ok (.aload_n 0, 1) := by decide +kernel
theorem dL_law_530 : decode cL_law 530 = .ok (.iload_n 3, 1) := by decide +kernel
theorem dL_law_531 : decode cL_law 531 = .ok (.iconst 2, 1) := by decide +kernel
theorem dL_law_532 : decode cL_law 532 = .ok (.iadd, 1) := by decide +kernel
theorem dL_law_533 : decode cL_law 533 = .ok (.iaload, 1) := by decide +kernel
theorem dL_law_534 : decode cL_law 534 = .ok (.aload_n 0, 1) := by decide +kernel
theorem dL_law_535 : decode cL_law 535 = .ok (.iload_n 3, 1) := by decide +kernel
theorem dL_law_536 : decode cL_law 536 = .ok (.iconst 3, 1) := by decide +kernel
theorem dL_law_537 : decode cL_law 537 = .ok (.iadd, 1) := by decide +kernel
theorem dL_law_538 : decode cL_law 538 = .ok (.iaload, 1) := by decide +kernel
theorem dL_law_539 : decode cL_law 539 = .ok (.invokevirtual 52, 3) := by decide +kernel
theorem dL_law_542 : decode cL_law 542 = .ok (.aload_n 2, 1) := by decide +kernel
theorem dL_law_543 : decode cL_law 543 = .ok (.aload_n 0, 1) := by decide +kernel
theorem dL_law_544 : decode cL_law 544 = .ok (.iload_n 3, 1) := by decide +kernel
theorem dL_law_545 : decode cL_law 545 = .ok (.iconst 1, 1) := by decide +kernel
theorem dL_law_546 : decode cL_law 546 = .ok (.iadd, 1) := by decide +kernel
theorem dL_law_547 : decode cL_law 547 = .ok (.iaload, 1) := by decide +kernel
theorem dL_law_548 : decode cL_law 548 = .ok (.aload_n 0, 1) := by decide +kernel
theorem dL_law_549 : decode cL_law 549 = .ok (.iload_n 3, 1) := by decide +kernel
theorem dL_law_550 : decode cL_law 550 = .ok (.iconst 2, 1) := by decide +kernel
theorem dL_law_551 : decode cL_law 551 = .ok (.iadd, 1) := by decide +kernel
theorem dL_law_552 : decode cL_law 552 = .ok (.iaload, 1) := by decide +kernel
theorem dL_law_553 : decode cL_law 553 = .ok (.aload_n 0, 1) := by decide +kernel
theorem dL_law_554 : decode cL_law 554 = .ok (.iload_n 3, 1) := by decide +kernel
theorem dL_law_555 : decode cL_law 555 = .ok (.iconst 3, 1) := by decide +kernel
theorem dL_law_556 : decode cL_law 556 = .ok (.iadd, 1) := by decide +kernel
theorem dL_law_557 : decode cL_law 557 = .ok (.iaload, 1) := by decide +kernel
theorem dL_law_558 : decode cL_law 558 = .ok (.invokevirtual 55, 3) := by decide +kernel
theorem dL_law_561 : decode cL_law 561 = .ok (.if_icmp .eq 711, 3) := by decide +kernel
theorem dL_law_564 : decode cL_law 564 = .ok (.iconst 0, 1) := by decide +kernel
theorem dL_law_565 : decode cL_law 565 = .ok (.ireturn, 1) := by decide +kernel
theorem dL_law_566 : decode cL_law 566 = .ok (.aload_n 1, 1) := by decide +kernel
theorem dL_law_567 : decode cL_law 567 = .ok (.aload_n 0, 1) := by decide +kernel
theorem dL_law_568 : decode cL_law 568 = .ok (.iload_n 3, 1) := by decide +kernel
theorem dL_law_569 : decode cL_law 569 = .ok (.iconst 1, 1) := by decide +kernel
theorem dL_law_570 : decode cL_law 570 = .ok (.iadd, 1) := by decide +kernel
theorem dL_law_571 : decode cL_law 571 = .ok (.iaload, 1) := by decide +kernel
theorem dL_law_572 : decode cL_law 572 = .ok (.aload_n 0, 1) := by decide +kernel
theorem dL_law_573 : decode cL_law 573 = .ok (.iload_n 3, 1) := by decide +kernel
theorem dL_law_574 : decode cL_law 574 = .ok (.iconst 2, 1) := by decide +kernel
theorem dL_law_575 : decode cL_law 575 = .ok (.iadd, 1) := by decide +kernel
theorem dL_law_576 : decode cL_law 576 = .ok (.iaload, 1) := by decide +kernel
theorem dL_law_577 : decode cL_law 577 = .ok (.invokevirtual 56, 3) := by decide +kernel
theorem dL_law_580 : decode cL_law 580 = .ok (.aload_n 2, 1) := by decide +kernel
theorem dL_law_581 : decode cL_law 581 = .ok (.aload_n 0, 1) := by decide +kernel
theorem dL_law_582 : decode cL_law 582 = .ok (.iload_n 3, 1) := by decide +kernel
theorem dL_law_583 : decode cL_law 583 = .ok (.iconst 1, 1) := by decide +kernel
theorem dL_law_584 : decode cL_law 584 = .ok (.iadd, 1) := by decide +kernel
theorem dL_law_585 : decode cL_law 585 = .ok (.iaload, 1) := by decide +kernel
theorem dL_law_586 : decode cL_law 586 = .ok (.aload_n 0, 1) := by decide +kernel
theorem dL_law_587 : decode cL_law 587 = .ok (.iload_n 3, 1) := by decide +kernel
theorem dL_law_588 : decode cL_law 588 = .ok (.iconst 2, 1) := by decide +kernel
theorem dL_law_589 : decode cL_law 589 = .ok (.iadd, 1) := by decide +kernel
theorem dL_law_590 : decode cL_law 590 = .ok (.iaload, 1) := by decide +kernel
theorem dL_law_591 : decode cL_law 591 = .ok (.invokevirtual 59, 3) := by decide +kernel
theorem dL_law_594 : decode cL_law 594 = .ok (.if_icmp .eq 678, 3) := by decide +kernel
theorem dL_law_597 : decode cL_law 597 = .ok (.iconst 0, 1) := by decide +kernel
theorem dL_law_598 : decode cL_law 598 = .ok (.ireturn, 1) := by decide +kernel
theorem dL_law_599 : decode cL_law 599 = .ok (.aload_n 1, 1) := by decide +kernel
theorem dL_law_600 : decode cL_law 600 = .ok (.aload_n 0, 1) := by decide +kernel
theorem dL_law_601 : decode cL_law 601 = .ok (.iload_n 3, 1) := by decide +kernel
theorem dL_law_602 : decode cL_law 602 = .ok (.iconst 1, 1) := by decide +kernel
theorem dL_law_603 : decode cL_law 603 = .ok (.iadd, 1) := by decide +kernel
theorem dL_law_604 : decode cL_law 604 = .ok (.iaload, 1) := by decide +kernel
theorem dL_law_605 : decode cL_law 605 = .ok (.invokevirtual 60, 3) := by decide +kernel
theorem dL_law_608 : decode cL_law 608 = .ok (.aload_n 2, 1) := by decide +kernel
theorem dL_law_609 : decode cL_law 609 = .ok (.aload_n 0, 1) := by decide +kernel
theorem dL_law_610 : decode cL_law 610 = .ok (.iload_n 3, 1) := by decide +kernel
theorem dL_law_611 : decode cL_law 611 = .ok (.iconst 1, 1) := by decide +kernel
theorem dL_law_612 : decode cL_law 612 = .ok (.iadd, 1) := by decide +kernel
theorem dL_law_613 : decode cL_law 613 = .ok (.iaload, 1) := by decide +kernel
theorem dL_law_614 : decode cL_law 614 = .ok (.invokevirtual 63, 3) := by decide +kernel
theorem dL_law_617 : decode cL_law 617 = .ok (.if_icmp .eq 655, 3) := by decide +kernel
theorem dL_law_620 : decode cL_law 620 = .ok (.iconst 0, 1) := by decide +kernel
theorem dL_law_621 : decode cL_law 621 = .ok (.ireturn, 1) := by decide +kernel
theorem dL_law_622 : decode cL_law 622 = .ok (.aload_n 1, 1) := by decide +kernel
theorem dL_law_623 : decode cL_law 623 = .ok (.aload_n 0, 1) := by decide +kernel
theorem dL_law_624 : decode cL_law 624 = .ok (.iload_n 3, 1) := by decide +kernel
theorem dL_law_625 : decode cL_law 625 = .ok (.iconst 1, 1) := by decide +kernel
theorem dL_law_626 : decode cL_law 626 = .ok (.iadd, 1) := by decide +kernel
theorem dL_law_627 : decode cL_law 627 = .ok (.iaload, 1) := by decide +kernel
theorem dL_law_628 : decode cL_law 628 = .ok (.invokevirtual 64, 3) := by decide +kernel
theorem dL_law_631 : decode cL_law 631 = .ok (.aload_n 2, 1) := by decide +kernel
theorem dL_law_632 : decode cL_law 632 = .ok (.aload_n 0, 1) := by decide +kernel
theorem dL_law_633 : decode cL_law 633 = .ok (.iload_n 3, 1) := by decide +kernel
theorem dL_law_634 : decode cL_law 634 = .ok (.iconst 1, 1) := by decide +kernel
theorem dL_law_635 : decode cL_law 635 = .ok (.iadd, 1) := by decide +kernel
theorem dL_law_636 : decode cL_law 636 = .ok (.iaload, 1) := by decide +kernel
theorem dL_law_637 : decode cL_law 637 = .ok (.invokevirtual 67, 3) := by decide +kernel
theorem dL_law_640 : decode cL_law 640 = .ok (.if_icmp .eq 632, 3) := by decide +kernel
theorem dL_law_643 : decode cL_law 643 = .ok (.iconst 0, 1) := by decide +kernel
theorem dL_law_644 : decode cL_law 644 = .ok (.ireturn, 1) := by decide +kernel
theorem dL_law_645 : decode cL_law 645 = .ok (.aload_n 1, 1) := by decide +kernel
theorem dL_law_646 : decode cL_law 646 = .ok (.aload_n 0, 1) := by decide +kernel
theorem dL_law_647 : decode cL_law 647 = .ok (.iload_n 3, 1) := by decide +kernel
theorem dL_law_648 : decode cL_law 648 = .ok (.iconst 1, 1) := by decide +kernel
theorem dL_law_649 : decode cL_law 649 = .ok (.iadd, 1) := by decide +kernel
theorem dL_law_650 : decode cL_law 650 = .ok (.iaload, 1) := by decide +kernel
theorem dL_law_651 : decode cL_law 651 = .ok (.invokevirtual 68, 3) := by decide +kernel
theorem dL_law_654 : decode cL_law 654 = .ok (.aload_n 2, 1) := by decide +kernel
theorem dL_law_655 : decode cL_law 655 = .ok (.aload_n 0, 1) := by decide +kernel
theorem dL_law_656 : decode cL_law 656 = .ok (.iload_n 3, 1) := by decide +kernel
theorem dL_law_657 : decode cL_law 657 = .ok (.iconst 1, 1) := by decide +kernel
theorem dL_law_658 : decode cL_law 658 = .ok (.iadd, 1) := by decide +kernel
theorem dL_law_659 : decode cL_law 659 = .ok (.iaload, 1) := by decide +kernel
theorem dL_law_660 : decode cL_law 660 = .ok (.invokevirtual 71, 3) := by decide +kernel
theorem dL_law_663 : decode cL_law 663 = .ok (.if_icmp .eq 609, 3) := by decide +kernel
theorem dL_law_666 : decode cL_law 666 = .ok (.iconst 0, 1) := by decide +kernel
theorem dL_law_667 : decode cL_law 667 = .ok (.ireturn, 1) := by decide +kernel
theorem dL_law_668 : decode cL_law 668 = .ok (.aload_n 1, 1) := by decide +kernel
theorem dL_law_669 : decode cL_law 669 = .ok (.aload_n 0, 1) := by decide +kernel
theorem dL_law_670 : decode cL_law 670 = .ok (.iload_n 3, 1) := by decide +kernel
theorem dL_law_671 : decode cL_law 671 = .ok (.iconst 1, 1) := by decide +kernel
theorem dL_law_672 : decode cL_law 672 = .ok (.iadd, 1) := by decide +kernel
theorem dL_law_673 : decode cL_law 673 = .ok (.iaload, 1) := by decide +kernel
theorem dL_law_674 : decode cL_law 674 = .ok (.aload_n 0, 1) := by decide +kernel
theorem dL_law_675 : decode cL_law 675 = .ok (.iload_n 3, 1) := by decide +kernel
theorem dL_law_676 : decode cL_law 676 = .ok (.iconst 2, 1) := by decide +kernel
theorem dL_law_677 : decode cL_law 677 = .ok (.iadd, 1) := by decide +kernel
theorem dL_law_678 : decode cL_law 678 = .ok (.iaload, 1) := by decide +kernel
theorem dL_law_679 : decode cL_law 679 = .ok (.aload_n 0, 1) := by decide +kernel
theorem dL_law_680 : decode cL_law 680 = .ok (.iload_n 3, 1) := by decide +kernel
theorem dL_law_681 : decode cL_law 681 = .ok (.iconst 3, 1) := by decide +kernel
theorem dL_law_682 : decode cL_law 682 = .ok (.iadd, 1) := by decide +kernel
theorem dL_law_683 : decode cL_law 683 = .ok (.iaload, 1) := by decide +kernel
theorem dL_law_684 : decode cL_law 684 = .ok (.invokevirtual 72, 3) := by decide +kernel
theorem dL_law_687 : decode cL_law 687 = .ok (.aload_n 2, 1) := by decide +kernel
theorem dL_law_688 : decode cL_law 688 = .ok (.aload_n 0, 1) := by decide +kernel
theorem dL_law_689 : decode cL_law 689 = .ok (.iload_n 3, 1) := by decide +kernel
theorem dL_law_690 : decode cL_law 690 = .ok (.iconst 1, 1) := by decide +kernel
theorem dL_law_691 : decode cL_law 691 = .ok (.iadd, 1) := by decide +kernel
theorem dL_law_692 : decode cL_law 692 = .ok (.iaload, 1) := by decide +kernel
theorem dL_law_693 : decode cL_law 693 = .ok (.aload_n 0, 1) := by decide +kernel
theorem dL_law_694 : decode cL_law 694 = .ok (.iload_n 3, 1) := by decide +kernel
theorem dL_law_695 : decode cL_law 695 = .ok (.iconst 2, 1) := by decide +kernel
theorem dL_law_696 : decode cL_law 696 = .ok (.iadd, 1) := by decide +kernel
theorem dL_law_697 : decode cL_law 697 = .ok (.iaload, 1) := by decide +kernel
theorem dL_law_698 : decode cL_law 698 = .ok (.aload_n 0, 1) := by decide +kernel
theorem dL_law_699 : decode cL_law 699 = .ok (.iload_n 3, 1) := by decide +kernel
theorem dL_law_700 : decode cL_law 700 = .ok (.iconst 3, 1) := by decide +kernel
theorem dL_law_701 : decode cL_law 701 = .ok (.iadd, 1) := by decide +kernel
theorem dL_law_702 : decode cL_law 702 = .ok (.iaload, 1) := by decide +kernel
theorem dL_law_703 : decode cL_law 703 = .ok (.invokevirtual 75, 3) := by decide +kernel
theorem dL_law_706 : decode cL_law 706 = .ok (.if_icmp .eq 566, 3) := by decide +kernel
theorem dL_law_709 : decode cL_law 709 = .ok (.iconst 0, 1) := by decide +kernel
theorem dL_law_710 : decode cL_law 710 = .ok (.ireturn, 1) := by decide +kernel
theorem dL_law_711 : decode cL_law 711 = .ok (.aload_n 1, 1) := by decide +kernel
theorem dL_law_712 : decode cL_law 712 = .ok (.aload_n 0, 1) := by decide +kernel
theorem dL_law_713 : decode cL_law 713 = .ok (.iload_n 3, 1) := by decide +kernel
theorem dL_law_714 : decode cL_law 714 = .ok (.iconst 1, 1) := by decide +kernel
theorem dL_law_715 : decode cL_law 715 = .ok (.iadd, 1) := by decide +kernel
theorem dL_law_716 : decode cL_law 716 = .ok (.iaload, 1) := by decide +kernel
theorem dL_law_717 : decode cL_law 717 = .ok (.aload_n 0, 1) := by decide +kernel
theorem dL_law_718 : decode cL_law 718 = .ok (.iload_n 3, 1) := by decide +kernel
theorem dL_law_719 : decode cL_law 719 = .ok (.iconst 2, 1) := by decide +kernel
theorem dL_law_720 : decode cL_law 720 = .ok (.iadd, 1) := by decide +kernel
theorem dL_law_721 : decode cL_law 721 = .ok (.iaload, 1) := by decide +kernel
theorem dL_law_722 : decode cL_law 722 = .ok (.aload_n 0, 1) := by decide +kernel
theorem dL_law_723 : decode cL_law 723 = .ok (.iload_n 3, 1) := by decide +kernel
theorem dL_law_724 : decode cL_law 724 = .ok (.iconst 3, 1) := by decide +kernel
theorem dL_law_725 : decode cL_law 725 = .ok (.iadd, 1) := by decide +kernel
theorem dL_law_726 : decode cL_law 726 = .ok (.iaload, 1) := by decide +kernel
theorem dL_law_727 : decode cL_law 727 = .ok (.invokevirtual 76, 3) := by decide +kernel
theorem dL_law_730 : decode cL_law 730 = .ok (.aload_n 2, 1) := by decide +kernel
theorem dL_law_731 : decode cL_law 731 = .ok (.aload_n 0, 1) := by decide +kernel
theorem dL_law_732 : decode cL_law 732 = .ok (.iload_n 3, 1) := by decide +kernel
theorem dL_law_733 : decode cL_law 733 = .ok (.iconst 1, 1) := by decide +kernel
theorem dL_law_734 : decode cL_law 734 = .ok (.iadd, 1) := by decide +kernel
theorem dL_law_735 : decode cL_law 735 = .ok (.iaload, 1) := by decide +kernel
theorem dL_law_736 : decode cL_law 736 = .ok (.aload_n 0, 1) := by decide +kernel
theorem dL_law_737 : decode cL_law 737 = .ok (.iload_n 3, 1) := by decide +kernel
theorem dL_law_738 : decode cL_law 738 = .ok (.iconst 2, 1) := by decide +kernel
theorem dL_law_739 : decode cL_law 739 = .ok (.iadd, 1) := by decide +kernel
theorem dL_law_740 : decode cL_law 740 = .ok (.iaload, 1) := by decide +kernel
theorem dL_law_741 : decode cL_law 741 = .ok (.aload_n 0, 1) := by decide +kernel
theorem dL_law_742 : decode cL_law 742 = .ok (.iload_n 3, 1) := by decide +kernel
theorem dL_law_743 : decode cL_law 743 = .ok (.iconst 3, 1) := by decide +kernel
theorem dL_law_744 : decode cL_law 744 = .ok (.iadd, 1) := by decide +kernel
theorem dL_law_745 : decode cL_law 745 = .ok (.iaload, 1) := by decide +kernel
theorem dL_law_746 : decode cL_law 746 = .ok (.invokevirtual 79, 3) := by decide +kernel
theorem dL_law_749 : decode cL_law 749 = .ok (.if_icmp .eq 523, 3) := by decide +kernel
theorem dL_law_752 : decode cL_law 752 = .ok (.iconst 0, 1) := by decide +kernel
theorem dL_law_753 : decode cL_law 753 = .ok (.ireturn, 1) := by decide +kernel
theorem dL_law_754 : decode cL_law 754 = .ok (.aload_n 1, 1) := by decide +kernel
theorem dL_law_755 : decode cL_law 755 = .ok (.aload_n 0, 1) := by decide +kernel
theorem dL_law_756 : decode cL_law 756 = .ok (.iload_n 3, 1) := by decide +kernel
theorem dL_law_757 : decode cL_law 757 = .ok (.iconst 1, 1) := by decide +kernel
theorem dL_law_758 : decode cL_law 758 = .ok (.iadd, 1) := by decide +kernel
theorem dL_law_759 : decode cL_law 759 = .ok (.iaload, 1) := by decide +kernel
theorem dL_law_760 : decode cL_law 760 = .ok (.aload_n 0, 1) := by decide +kernel
theorem dL_law_761 : decode cL_law 761 = .ok (.iload_n 3, 1) := by decide +kernel
theorem dL_law_762 : decode cL_law 762 = .ok (.iconst 2, 1) := by decide +kernel
theorem dL_law_763 : decode cL_law 763 = .ok (.iadd, 1) := by decide +kernel
theorem dL_law_764 : decode cL_law 764 = .ok (.iaload, 1) := by decide +kernel
theorem dL_law_765 : decode cL_law 765 = .ok (.aload_n 0, 1) := by decide +kernel
theorem dL_law_766 : decode cL_law 766 = .ok (.iload_n 3, 1) := by decide +kernel
theorem dL_law_767 : decode cL_law 767 = .ok (.iconst 3, 1) := by decide +kernel
theorem dL_law_768 : decode cL_law 768 = .ok (.iadd, 1) := by decide +kernel
theorem dL_law_769 : decode cL_law 769 = .ok (.iaload, 1) := by decide +kernel
theorem dL_law_770 : decode cL_law 770 = .ok (.invokevirtual 80, 3) := by decide +kernel
theorem dL_law_773 : decode cL_law 773 = .ok (.aload_n 2, 1) := by decide +kernel
theorem dL_law_774 : decode cL_law 774 = .ok (.aload_n 0, 1) := by decide +kernel
theorem dL_law_775 : decode cL_law 775 = .ok (.iload_n 3, 1) := by decide +kernel
theorem dL_law_776 : decode cL_law 776 = .ok (.iconst 1, 1) := by decide +kernel
theorem dL_law_777 : decode cL_law 777 = .ok (.iadd, 1) := by decide +kernel
theorem dL_law_778 : decode cL_law 778 = .ok (.iaload, 1) := by decide +kernel
theorem dL_law_779 : decode cL_law 779 = .ok (.aload_n 0, 1) := by decide +kernel
theorem dL_law_780 : decode cL_law 780 = .ok (.iload_n 3, 1) := by decide +kernel
theorem dL_law_781 : decode cL_law 781 = .ok (.iconst 2, 1) := by decide +kernel
theorem dL_law_782 : decode cL_law 782 = .ok (.iadd, 1) := by decide +kernel
theorem dL_law_783 : decode cL_law 783 = .ok (.iaload, 1) := by decide +kernel
theorem dL_law_784 : decode cL_law 784 = .ok (.aload_n 0, 1) := by decide +kernel
theorem dL_law_785 : decode cL_law 785 = .ok (.iload_n 3, 1) := by decide +kernel
theorem dL_law_786 : decode cL_law 786 = .ok (.iconst 3, 1) := by decide +kernel
theorem dL_law_787 : decode cL_law 787 = .ok (.iadd, 1) := by decide +kernel
theorem dL_law_788 : decode cL_law 788 = .ok (.iaload, 1) := by decide +kernel
theorem dL_law_789 : decode cL_law 789 = .ok (.invokevirtual 83, 3) := by decide +kernel
theorem dL_law_792 : decode cL_law 792 = .ok (.if_icmp .eq 480, 3) := by decide +kernel
theorem dL_law_795 : decode cL_law 795 = .ok (.iconst 0, 1) := by decide +kernel
theorem dL_law_796 : decode cL_law 796 = .ok (.ireturn, 1) := by decide +kernel
theorem dL_law_797 : decode cL_law 797 = .ok (.aload_n 1, 1) := by decide +kernel
theorem dL_law_798 : decode cL_law 798 = .ok (.aload_n 0, 1) := by decide +kernel
theorem dL_law_799 : decode cL_law 799 = .ok (.iload_n 3, 1) := by decide +kernel
theorem dL_law_800 : decode cL_law 800 = .ok (.iconst 1, 1) := by decide +kernel
theorem dL_law_801 : decode cL_law 801 = .ok (.iadd, 1) := by decide +kernel
theorem dL_law_802 : decode cL_law 802 = .ok (.iaload, 1) := by decide +kernel
theorem dL_law_803 : decode cL_law 803 = .ok (.aload_n 0, 1) := by decide +kernel
theorem dL_law_804 : decode cL_law 804 = .ok (.iload_n 3, 1) := by decide +kernel
theorem dL_law_805 : decode cL_law 805 = .ok (.iconst 2, 1) := by decide +kernel
theorem dL_law_806 : decode cL_law 806 = .ok (.iadd, 1) := by decide +kernel
theorem dL_law_807 : decode cL_law 807 = .ok (.iaload, 1) := by decide +kernel
theorem dL_law_808 : decode cL_law 808 = .ok (.aload_n 0, 1) := by decide +kernel
theorem dL_law_809 : decode cL_law 809 = .ok (.iload_n 3, 1) := by decide +kernel
theorem dL_law_810 : decode cL_law 810 = .ok (.iconst 3, 1) := by decide +kernel
theorem dL_law_811 : decode cL_law 811 = .ok (.iadd, 1) := by decide +kernel
theorem dL_law_812 : decode cL_law 812 = .ok (.iaload, 1) := by decide +kernel
theorem dL_law_813 : decode cL_law 813 = .ok (.invokevirtual 84, 3) := by decide +kernel
theorem dL_law_816 : decode cL_law 816 = .ok (.aload_n 2, 1) := by decide +kernel
theorem dL_law_817 : decode cL_law 817 = .ok (.aload_n 0, 1) := by decide +kernel
theorem dL_law_818 : decode cL_law 818 = .ok (.iload_n 3, 1) := by decide +kernel
theorem dL_law_819 : decode cL_law 819 = .ok (.iconst 1, 1) := by decide +kernel
theorem dL_law_820 : decode cL_law 820 = .ok (.iadd, 1) := by decide +kernel
theorem dL_law_821 : decode cL_law 821 = .ok (.iaload, 1) := by decide +kernel
theorem dL_law_822 : decode cL_law 822 = .ok (.aload_n 0, 1) := by decide +kernel
theorem dL_law_823 : decode cL_law 823 = .ok (.iload_n 3, 1) := by decide +kernel
theorem dL_law_824 : decode cL_law 824 = .ok (.iconst 2, 1) := by decide +kernel
theorem dL_law_825 : decode cL_law 825 = .ok (.iadd, 1) := by decide +kernel
theorem dL_law_826 : decode cL_law 826 = .ok (.iaload, 1) := by decide +kernel
theorem dL_law_827 : decode cL_law 827 = .ok (.aload_n 0, 1) := by decide +kernel
theorem dL_law_828 : decode cL_law 828 = .ok (.iload_n 3, 1) := by decide +kernel
theorem dL_law_829 : decode cL_law 829 = .ok (.iconst 3, 1) := by decide +kernel
theorem dL_law_830 : decode cL_law 830 = .ok (.iadd, 1) := by decide +kernel
theorem dL_law_831 : decode cL_law 831 = .ok (.iaload, 1) := by decide +kernel
theorem dL_law_832 : decode cL_law 832 = .ok (.invokevirtual 87, 3) := by decide +kernel
theorem dL_law_835 : decode cL_law 835 = .ok (.if_icmp .eq 437, 3) := by decide +kernel
theorem dL_law_838 : decode cL_law 838 = .ok (.iconst 0, 1) := by decide +kernel
theorem dL_law_839 : decode cL_law 839 = .ok (.ireturn, 1) := by decide +kernel
theorem dL_law_840 : decode cL_law 840 = .ok (.aload_n 1, 1) := by decide +kernel
theorem dL_law_841 : decode cL_law 841 = .ok (.aload_n 0, 1) := by decide +kernel
theorem dL_law_842 : decode cL_law 842 = .ok (.iload_n 3, 1) := by decide +kernel
theorem dL_law_843 : decode cL_law 843 = .ok (.iconst 1, 1) := by decide +kernel
theorem dL_law_844 : decode cL_law 844 = .ok (.iadd, 1) := by decide +kernel
theorem dL_law_845 : decode cL_law 845 = .ok (.iaload, 1) := by decide +kernel
theorem dL_law_846 : decode cL_law 846 = .ok (.aload_n 0, 1) := by decide +kernel
theorem dL_law_847 : decode cL_law 847 = .ok (.iload_n 3, 1) := by decide +kernel
theorem dL_law_848 : decode cL_law 848 = .ok (.iconst 2, 1) := by decide +kernel
theorem dL_law_849 : decode cL_law 849 = .ok (.iadd, 1) := by decide +kernel
theorem dL_law_850 : decode cL_law 850 = .ok (.iaload, 1) := by decide +kernel
theorem dL_law_851 : decode cL_law 851 = .ok (.aload_n 0, 1) := by decide +kernel
theorem dL_law_852 : decode cL_law 852 = .ok (.iload_n 3, 1) := by decide +kernel
theorem dL_law_853 : decode cL_law 853 = .ok (.iconst 3, 1) := by decide +kernel
theorem dL_law_854 : decode cL_law 854 = .ok (.iadd, 1) := by decide +kernel
theorem dL_law_855 : decode cL_law 855 = .ok (.iaload, 1) := by decide +kernel
theorem dL_law_856 : decode cL_law 856 = .ok (.invokevirtual 88, 3) := by decide +kernel
theorem dL_law_859 : decode cL_law 859 = .ok (.aload_n 2, 1) := by decide +kernel
theorem dL_law_860 : decode cL_law 860 = .ok (.aload_n 0, 1) := by decide +kernel
theorem dL_law_861 : decode cL_law 861 = .ok (.iload_n 3, 1) := by decide +kernel
theorem dL_law_862 : decode cL_law 862 = .ok (.iconst 1, 1) := by decide +kernel
theorem dL_law_863 : decode cL_law 863 = .ok (.iadd, 1) := by decide +kernel
theorem dL_law_864 : decode cL_law 864 = .ok (.iaload, 1) := by decide +kernel
theorem dL_law_865 : decode cL_law 865 = .ok (.aload_n 0, 1) := by decide +kernel
theorem dL_law_866 : decode cL_law 866 = .ok (.iload_n 3, 1) := by decide +kernel
theorem dL_law_867 : decode cL_law 867 = .ok (.iconst 2, 1) := by decide +kernel
theorem dL_law_868 : decode cL_law 868 = .ok (.iadd, 1) := by decide +kernel
theorem dL_law_869 : decode cL_law 869 = .ok (.iaload, 1) := by decide +kernel
theorem dL_law_870 : decode cL_law 870 = .ok (.aload_n 0, 1) := by decide +kernel
theorem dL_law_871 : decode cL_law 871 = .ok (.iload_n 3, 1) := by decide +kernel
theorem dL_law_872 : decode cL_law 872 = .ok (.iconst 3, 1) := by decide +kernel
theorem dL_law_873 : decode cL_law 873 = .ok (.iadd, 1) := by decide +kernel
theorem dL_law_874 : decode cL_law 874 = .ok (.iaload, 1) := by decide +kernel
theorem dL_law_875 : decode cL_law 875 = .ok (.invokevirtual 91, 3) := by decide +kernel
theorem dL_law_878 : decode cL_law 878 = .ok (.if_icmp .eq 394, 3) := by decide +kernel
theorem dL_law_881 : decode cL_law 881 = .ok (.iconst 0, 1) := by decide +kernel
theorem dL_law_882 : decode cL_law 882 = .ok (.ireturn, 1) := by decide +kernel
theorem dL_law_883 : decode cL_law 883 = .ok (.aload_n 1, 1) := by decide +kernel
theorem dL_law_884 : decode cL_law 884 = .ok (.aload_n 0, 1) := by decide +kernel
theorem dL_law_885 : decode cL_law 885 = .ok (.iload_n 3, 1) := by decide +kernel
theorem dL_law_886 : decode cL_law 886 = .ok (.iconst 1, 1) := by decide +kernel
theorem dL_law_887 : decode cL_law 887 = .ok (.iadd, 1) := by decide +kernel
theorem dL_law_888 : decode cL_law 888 = .ok (.iaload, 1) := by decide +kernel
theorem dL_law_889 : decode cL_law 889 = .ok (.aload_n 0, 1) := by decide +kernel
theorem dL_law_890 : decode cL_law 890 = .ok (.iload_n 3, 1) := by decide +kernel
theorem dL_law_891 : decode cL_law 891 = .ok (.iconst 2, 1) := by decide +kernel
theorem dL_law_892 : decode cL_law 892 = .ok (.iadd, 1) := by decide +kernel
theorem dL_law_893 : decode cL_law 893 = .ok (.iaload, 1) := by decide +kernel
theorem dL_law_894 : decode cL_law 894 = .ok (.invokevirtual 92, 3) := by decide +kernel
theorem dL_law_897 : decode cL_law 897 = .ok (.aload_n 2, 1) := by decide +kernel
theorem dL_law_898 : decode cL_law 898 = .ok (.aload_n 0, 1) := by decide +kernel
theorem dL_law_899 : decode cL_law 899 = .ok (.iload_n 3, 1) := by decide +kernel
theorem dL_law_900 : decode cL_law 900 = .ok (.iconst 1, 1) := by decide +kernel
theorem dL_law_901 : decode cL_law 901 = .ok (.iadd, 1) := by decide +kernel
theorem dL_law_902 : decode cL_law 902 = .ok (.iaload, 1) := by decide +kernel
theorem dL_law_903 : decode cL_law 903 = .ok (.aload_n 0, 1) := by decide +kernel
theorem dL_law_904 : decode cL_law 904 = .ok (.iload_n 3, 1) := by decide +kernel
theorem dL_law_905 : decode cL_law 905 = .ok (.iconst 2, 1) := by decide +kernel
theorem dL_law_906 : decode cL_law 906 = .ok (.iadd, 1) := by decide +kernel
theorem dL_law_907 : decode cL_law 907 = .ok (.iaload, 1) := by decide +kernel
theorem dL_law_908 : decode cL_law 908 = .ok (.invokevirtual 95, 3) := by decide +kernel
theorem dL_law_911 : decode cL_law 911 = .ok (.if_icmp .eq 361, 3) := by decide +kernel
theorem dL_law_914 : decode cL_law 914 = .ok (.iconst 0, 1) := by decide +kernel
theorem dL_law_915 : decode cL_law 915 = .ok (.ireturn, 1) := by decide +kernel
theorem dL_law_916 : decode cL_law 916 = .ok (.aload_n 1, 1) := by decide +kernel
theorem dL_law_917 : decode cL_law 917 = .ok (.aload_n 0, 1) := by decide +kernel
theorem dL_law_918 : decode cL_law 918 = .ok (.iload_n 3, 1) := by decide +kernel
theorem dL_law_919 : decode cL_law 919 = .ok (.iconst 1, 1) := by decide +kernel
theorem dL_law_920 : decode cL_law 920 = .ok (.iadd, 1) := by decide +kernel
theorem dL_law_921 : decode cL_law 921 = .ok (.iaload, 1) := by decide +kernel
theorem dL_law_922 : decode cL_law 922 = .ok (.aload_n 0, 1) := by decide +kernel
theorem dL_law_923 : decode cL_law 923 = .ok (.iload_n 3, 1) := by decide +kernel
theorem dL_law_924 : decode cL_law 924 = .ok (.iconst 2, 1) := by decide +kernel
theorem dL_law_925 : decode cL_law 925 = .ok (.iadd, 1) := by decide +kernel
theorem dL_law_926 : decode cL_law 926 = .ok (.iaload, 1) := by decide +kernel
theorem dL_law_927 : decode cL_law 927 = .ok (.aload_n 0, 1) := by decide +kernel
theorem dL_law_928 : decode cL_law 928 = .ok (.iload_n 3, 1) := by decide +kernel
theorem dL_law_929 : decode cL_law 929 = .ok (.iconst 3, 1) := by decide +kernel
theorem dL_law_930 : decode cL_law 930 = .ok (.iadd, 1) := by decide +kernel
theorem dL_law_931 : decode cL_law 931 = .ok (.iaload, 1) := by decide +kernel
theorem dL_law_932 : decode cL_law 932 = .ok (.invokevirtual 96, 3) := by decide +kernel
theorem dL_law_935 : decode cL_law 935 = .ok (.aload_n 2, 1) := by decide +kernel
theorem dL_law_936 : decode cL_law 936 = .ok (.aload_n 0, 1) := by decide +kernel
theorem dL_law_937 : decode cL_law 937 = .ok (.iload_n 3, 1) := by decide +kernel
theorem dL_law_938 : decode cL_law 938 = .ok (.iconst 1, 1) := by decide +kernel
theorem dL_law_939 : decode cL_law 939 = .ok (.iadd, 1) := by decide +kernel
theorem dL_law_940 : decode cL_law 940 = .ok (.iaload, 1) := by decide +kernel
theorem dL_law_941 : decode cL_law 941 = .ok (.aload_n 0, 1) := by decide +kernel
theorem dL_law_942 : decode cL_law 942 = .ok (.iload_n 3, 1) := by decide +kernel
theorem dL_law_943 : decode cL_law 943 = .ok (.iconst 2, 1) := by decide +kernel
theorem dL_law_944 : decode cL_law 944 = .ok (.iadd, 1) := by decide +kernel
theorem dL_law_945 : decode cL_law 945 = .ok (.iaload, 1) := by decide +kernel
theorem dL_law_946 : decode cL_law 946 = .ok (.aload_n 0, 1) := by decide +kernel
theorem dL_law_947 : decode cL_law 947 = .ok (.iload_n 3, 1) := by decide +kernel
theorem dL_law_948 : decode cL_law 948 = .ok (.iconst 3, 1) := by decide +kernel
theorem dL_law_949 : decode cL_law 949 = .ok (.iadd, 1) := by decide +kernel
theorem dL_law_950 : decode cL_law 950 = .ok (.iaload, 1) := by decide +kernel
theorem dL_law_951 : decode cL_law 951 = .ok (.invokevirtual 99, 3) := by decide +kernel
theorem dL_law_954 : decode cL_law 954 = .ok (.if_icmp .eq 318, 3) := by decide +kernel
theorem dL_law_957 : decode cL_law 957 = .ok (.iconst 0, 1) := by decide +kernel
theorem dL_law_958 : decode cL_law 958 = .ok (.ireturn, 1) := by decide +kernel
theorem dL_law_959 : decode cL_law 959 = .ok (.aload_n 1, 1) := by decide +kernel
theorem dL_law_960 : decode cL_law 960 = .ok (.aload_n 0, 1) := by decide +kernel
theorem dL_law_961 : decode cL_law 961 = .ok (.iload_n 3, 1) := by decide +kernel
theorem dL_law_962 : decode cL_law 962 = .ok (.iconst 1, 1) := by decide +kernel
theorem dL_law_963 : decode cL_law 963 = .ok (.iadd, 1) := by decide +kernel
theorem dL_law_964 : decode cL_law 964 = .ok (.iaload, 1) := by decide +kernel
theorem dL_law_965 : decode cL_law 965 = .ok (.invokevirtual 100, 3) := by decide +kernel
theorem dL_law_968 : decode cL_law 968 = .ok (.aload_n 2, 1) := by decide +kernel
theorem dL_law_969 : decode cL_law 969 = .ok (.aload_n 0, 1) := by decide +kernel
theorem dL_law_970 : decode cL_law 970 = .ok (.iload_n 3, 1) := by decide +kernel
theorem dL_law_971 : decode cL_law 971 = .ok (.iconst 1, 1) := by decide +kernel
theorem dL_law_972 : decode cL_law 972 = .ok (.iadd, 1) := by decide +kernel
theorem dL_law_973 : decode cL_law 973 = .ok (.iaload, 1) := by decide +kernel
theorem dL_law_974 : decode cL_law 974 = .ok (.invokevirtual 103, 3) := by decide +kernel
theorem dL_law_977 : decode cL_law 977 = .ok (.if_icmp .eq 295, 3) := by decide +kernel
theorem dL_law_980 : decode cL_law 980 = .ok (.iconst 0, 1) := by decide +kernel
theorem dL_law_981 : decode cL_law 981 = .ok (.ireturn, 1) := by decide +kernel
theorem dL_law_982 : decode cL_law 982 = .ok (.aload_n 1, 1) := by decide +kernel
theorem dL_law_983 : decode cL_law 983 = .ok (.aload_n 0, 1) := by decide +kernel
theorem dL_law_984 : decode cL_law 984 = .ok (.iload_n 3, 1) := by decide +kernel
theorem dL_law_985 : decode cL_law 985 = .ok (.iconst 1, 1) := by decide +kernel
theorem dL_law_986 : decode cL_law 986 = .ok (.iadd, 1) := by decide +kernel
theorem dL_law_987 : decode cL_law 987 = .ok (.iaload, 1) := by decide +kernel
theorem dL_law_988 : decode cL_law 988 = .ok (.aload_n 0, 1) := by decide +kernel
theorem dL_law_989 : decode cL_law 989 = .ok (.iload_n 3, 1) := by decide +kernel
theorem dL_law_990 : decode cL_law 990 = .ok (.iconst 2, 1) := by decide +kernel
theorem dL_law_991 : decode cL_law 991 = .ok (.iadd, 1) := by decide +kernel
theorem dL_law_992 : decode cL_law 992 = .ok (.iaload, 1) := by decide +kernel
theorem dL_law_993 : decode cL_law 993 = .ok (.aload_n 0, 1) := by decide +kernel
theorem dL_law_994 : decode cL_law 994 = .ok (.iload_n 3, 1) := by decide +kernel
theorem dL_law_995 : decode cL_law 995 = .ok (.iconst 3, 1) := by decide +kernel
theorem dL_law_996 : decode cL_law 996 = .ok (.iadd, 1) := by decide +kernel
theorem dL_law_997 : decode cL_law 997 = .ok (.iaload, 1) := by decide +kernel
theorem dL_law_998 : decode cL_law 998 = .ok (.invokevirtual 104, 3) := by decide +kernel
theorem dL_law_1001 : decode cL_law 1001 = .ok (.aload_n 2, 1) := by decide +kernel
theorem dL_law_1002 : decode cL_law 1002 = .ok (.aload_n 0, 1) := by decide +kernel
theorem dL_law_1003 : decode cL_law 1003 = .ok (.iload_n 3, 1) := by decide +kernel
theorem dL_law_1004 : decode cL_law 1004 = .ok (.iconst 1, 1) := by decide +kernel
theorem dL_law_1005 : decode cL_law 1005 = .ok (.iadd, 1) := by decide +kernel
theorem dL_law_1006 : decode cL_law 1006 = .ok (.iaload, 1) := by decide +kernel
theorem dL_law_1007 : decode cL_law 1007 = .ok (.aload_n 0, 1) := by decide +kernel
theorem dL_law_1008 : decode cL_law 1008 = .ok (.iload_n 3, 1) := by decide +kernel
theorem dL_law_1009 : decode cL_law 1009 = .ok (.iconst 2, 1) := by decide +kernel
theorem dL_law_1010 : decode cL_law 1010 = .ok (.iadd, 1) := by decide +kernel
theorem dL_law_1011 : decode cL_law 1011 = .ok (.iaload, 1) := by decide +kernel
theorem dL_law_1012 : decode cL_law 1012 = .ok (.aload_n 0, 1) := by decide +kernel
theorem dL_law_1013 : decode cL_law 1013 = .ok (.iload_n 3, 1) := by decide +kernel
theorem dL_law_1014 : decode cL_law 1014 = .ok (.iconst 3, 1) := by decide +kernel
theorem dL_law_1015 : decode cL_law 1015 = .ok (.iadd, 1) := by decide +kernel
theorem dL_law_1016 : decode cL_law 1016 = .ok (.iaload, 1) := by decide +kernel
theorem dL_law_1017 : decode cL_law 1017 = .ok (.invokevirtual 107, 3) := by decide +kernel
theorem dL_law_1020 : decode cL_law 1020 = .ok (.if_icmp .eq 252, 3) := by decide +kernel
theorem dL_law_1023 : decode cL_law 1023 = .ok (.iconst 0, 1) := by decide +kernel
theorem dL_law_1024 : decode cL_law 1024 = .ok (.ireturn, 1) := by decide +kernel
theorem dL_law_1025 : decode cL_law 1025 = .ok (.aload_n 1, 1) := by decide +kernel
theorem dL_law_1026 : decode cL_law 1026 = .ok (.aload_n 0, 1) := by decide +kernel
theorem dL_law_1027 : decode cL_law 1027 = .ok (.iload_n 3, 1) := by decide +kernel
theorem dL_law_1028 : decode cL_law 1028 = .ok (.iconst 1, 1) := by decide +kernel
theorem dL_law_1029 : decode cL_law 1029 = .ok (.iadd, 1) := by decide +kernel
theorem dL_law_1030 : decode cL_law 1030 = .ok (.iaload, 1) := by decide +kernel
theorem dL_law_1031 : decode cL_law 1031 = .ok (.aload_n 0, 1) := by decide +kernel
theorem dL_law_1032 : decode cL_law 1032 = .ok (.iload_n 3, 1) := by decide +kernel
theorem dL_law_1033 : decode cL_law 1033 = .ok (.iconst 2, 1) := by decide +kernel
theorem dL_law_1034 : decode cL_law 1034 = .ok (.iadd, 1) := by decide +kernel
theorem dL_law_1035 : decode cL_law 1035 = .ok (.iaload, 1) := by decide +kernel
theorem dL_law_1036 : decode cL_law 1036 = .ok (.invokevirtual 108, 3) := by decide +kernel
theorem dL_law_1039 : decode cL_law 1039 = .ok (.aload_n 2, 1) := by decide +kernel
theorem dL_law_1040 : decode cL_law 1040 = .ok (.aload_n 0, 1) := by decide +kernel
theorem dL_law_1041 : decode cL_law 1041 = .ok (.iload_n 3, 1) := by decide +kernel
theorem dL_law_1042 : decode cL_law 1042 = .ok (.iconst 1, 1) := by decide +kernel
theorem dL_law_1043 : decode cL_law 1043 = .ok (.iadd, 1) := by decide +kernel
theorem dL_law_1044 : decode cL_law 1044 = .ok (.iaload, 1) := by decide +kernel
theorem dL_law_1045 : decode cL_law 1045 = .ok (.aload_n 0, 1) := by decide +kernel
theorem dL_law_1046 : decode cL_law 1046 = .ok (.iload_n 3, 1) := by decide +kernel
theorem dL_law_1047 : decode cL_law 1047 = .ok (.iconst 2, 1) := by decide +kernel
theorem dL_law_1048 : decode cL_law 1048 = .ok (.iadd, 1) := by decide +kernel
theorem dL_law_1049 : decode cL_law 1049 = .ok (.iaload, 1) := by decide +kernel
theorem dL_law_1050 : decode cL_law 1050 = .ok (.invokevirtual 111, 3) := by decide +kernel
theorem dL_law_1053 : decode cL_law 1053 = .ok (.if_icmp .eq 219, 3) := by decide +kernel
theorem dL_law_1056 : decode cL_law 1056 = .ok (.iconst 0, 1) := by decide +kernel
theorem dL_law_1057 : decode cL_law 1057 = .ok (.ireturn, 1) := by decide +kernel
theorem dL_law_1058 : decode cL_law 1058 = .ok (.aload_n 1, 1) := by decide +kernel
theorem dL_law_1059 : decode cL_law 1059 = .ok (.aload_n 0, 1) := by decide +kernel
theorem dL_law_1060 : decode cL_law 1060 = .ok (.iload_n 3, 1) := by decide +kernel
theorem dL_law_1061 : decode cL_law 1061 = .ok (.iconst 1, 1) := by decide +kernel
theorem dL_law_1062 : decode cL_law 1062 = .ok (.iadd, 1) := by decide +kernel
theorem dL_law_1063 : decode cL_law 1063 = .ok (.iaload, 1) := by decide +kernel
theorem dL_law_1064 : decode cL_law 1064 = .ok (.aload_n 0, 1) := by decide +kernel
theorem dL_law_1065 : decode cL_law 1065 = .ok (.iload_n 3, 1) := by decide +kernel
theorem dL_law_1066 : decode cL_law 1066 = .ok (.iconst 2, 1) := by decide +kernel
theorem dL_law_1067 : decode cL_law 1067 = .ok (.iadd, 1) := by decide +kernel
theorem dL_law_1068 : decode cL_law 1068 = .ok (.iaload, 1) := by decide +kernel
theorem dL_law_1069 : decode cL_law 1069 = .ok (.invokevirtual 112, 3) := by decide +kernel
theorem dL_law_1072 : decode cL_law 1072 = .ok (.aload_n 2, 1) := by decide +kernel
theorem dL_law_1073 : decode cL_law 1073 = .ok (.aload_n 0, 1) := by decide +kernel
theorem dL_law_1074 : decode cL_law 1074 = .ok (.iload_n 3, 1) := by decide +kernel
theorem dL_law_1075 : decode cL_law 1075 = .ok (.iconst 1, 1) := by decide +kernel
theorem dL_law_1076 : decode cL_law 1076 = .ok (.iadd, 1) := by decide +kernel
theorem dL_law_1077 : decode cL_law 1077 = .ok (.iaload, 1) := by decide +kernel
theorem dL_law_1078 : decode cL_law 1078 = .ok (.aload_n 0, 1) := by decide +kernel
theorem dL_law_1079 : decode cL_law 1079 = .ok (.iload_n 3, 1) := by decide +kernel
theorem dL_law_1080 : decode cL_law 1080 = .ok (.iconst 2, 1) := by decide +kernel
theorem dL_law_1081 : decode cL_law 1081 = .ok (.iadd, 1) := by decide +kernel
theorem dL_law_1082 : decode cL_law 1082 = .ok (.iaload, 1) := by decide +kernel
theorem dL_law_1083 : decode cL_law 1083 = .ok (.invokevirtual 115, 3) := by decide +kernel
theorem dL_law_1086 : decode cL_law 1086 = .ok (.if_icmp .eq 186, 3) := by decide +kernel
theorem dL_law_1089 : decode cL_law 1089 = .ok (.iconst 0, 1) := by decide +kernel
theorem dL_law_1090 : decode cL_law 1090 = .ok (.ireturn, 1) := by decide +kernel
theorem dL_law_1091 : decode cL_law 1091 = .ok (.aload_n 1, 1) := by decide +kernel
theorem dL_law_1092 : decode cL_law 1092 = .ok (.aload_n 0, 1) := by decide +kernel
theorem dL_law_1093 : decode cL_law 1093 = .ok (.iload_n 3, 1) := by decide +kernel
theorem dL_law_1094 : decode cL_law 1094 = .ok (.iconst 1, 1) := by decide +kernel
theorem dL_law_1095 : decode cL_law 1095 = .ok (.iadd, 1) := by decide +kernel
theorem dL_law_1096 : decode cL_law 1096 = .ok (.iaload, 1) := by decide +kernel
theorem dL_law_1097 : decode cL_law 1097 = .ok (.aload_n 0, 1) := by decide +kernel
theorem dL_law_1098 : decode cL_law 1098 = .ok (.iload_n 3, 1) := by decide +kernel
theorem dL_law_1099 : decode cL_law 1099 = .ok (.iconst 2, 1) := by decide +kernel
theorem dL_law_1100 : decode cL_law 1100 = .ok (.iadd, 1) := by decide +kernel
theorem dL_law_1101 : decode cL_law 1101 = .ok (.iaload, 1) := by decide +kernel
theorem dL_law_1102 : decode cL_law 1102 = .ok (.aload_n 0, 1) := by decide +kernel
theorem dL_law_1103 : decode cL_law 1103 = .ok (.iload_n 3, 1) := by decide +kernel
theorem dL_law_1104 : decode cL_law 1104 = .ok (.iconst 3, 1) := by decide +kernel
theorem dL_law_1105 : decode cL_law 1105 = .ok (.iadd, 1) := by decide +kernel
theorem dL_law_1106 : decode cL_law 1106 = .ok (.iaload, 1) := by decide +kernel
theorem dL_law_1107 : decode cL_law 1107 = .ok (.invokevirtual 116, 3) := by decide +kernel
theorem dL_law_1110 : decode cL_law 1110 = .ok (.aload_n 2, 1) := by decide +kernel
theorem dL_law_1111 : decode cL_law 1111 = .ok (.aload_n 0, 1) := by decide +kernel
theorem dL_law_1112 : decode cL_law 1112 = .ok (.iload_n 3, 1) := by decide +kernel
theorem dL_law_1113 : decode cL_law 1113 = .ok (.iconst 1, 1) := by decide +kernel
theorem dL_law_1114 : decode cL_law 1114 = .ok (.iadd, 1) := by decide +kernel
theorem dL_law_1115 : decode cL_law 1115 = .ok (.iaload, 1) := by decide +kernel
theorem dL_law_1116 : decode cL_law 1116 = .ok (.aload_n 0, 1) := by decide +kernel
theorem dL_law_1117 : decode cL_law 1117 = .ok (.iload_n 3, 1) := by decide +kernel
theorem dL_law_1118 : decode cL_law 1118 = .ok (.iconst 2, 1) := by decide +kernel
theorem dL_law_1119 : decode cL_law 1119 = .ok (.iadd, 1) := by decide +kernel
theorem dL_law_1120 : decode cL_law 1120 = .ok (.iaload, 1) := by decide +kernel
theorem dL_law_1121 : decode cL_law 1121 = .ok (.aload_n 0, 1) := by decide +kernel
theorem dL_law_1122 : decode cL_law 1122 = .ok (.iload_n 3, 1) := by decide +kernel
theorem dL_law_1123 : decode cL_law 1123 = .ok (.iconst 3, 1) := by decide +kernel
theorem dL_law_1124 : decode cL_law 1124 = .ok (.iadd, 1) := by decide +kernel
theorem dL_law_1125 : decode cL_law 1125 = .ok (.iaload, 1) := by decide +kernel
theorem dL_law_1126 : decode cL_law 1126 = .ok (.invokevirtual 119, 3) := by decide +kernel
theorem dL_law_1129 : decode cL_law 1129 = .ok (.if_icmp .eq 143, 3) := by decide +kernel
theorem dL_law_1132 : decode cL_law 1132 = .ok (.iconst 0, 1) := by decide +kernel
theorem dL_law_1133 : decode cL_law 1133 = .ok (.ireturn, 1) := by decide +kernel
theorem dL_law_1134 : decode cL_law 1134 = .ok (.aload_n 1, 1) := by decide +kernel
theorem dL_law_1135 : decode cL_law 1135 = .ok (.aload_n 0, 1) := by decide +kernel
theorem dL_law_1136 : decode cL_law 1136 = .ok (.iload_n 3, 1) := by decide +kernel
theorem dL_law_1137 : decode cL_law 1137 = .ok (.iconst 1, 1) := by decide +kernel
theorem dL_law_1138 : decode cL_law 1138 = .ok (.iadd, 1) := by decide +kernel
theorem dL_law_1139 : decode cL_law 1139 = .ok (.iaload, 1) := by decide +kernel
theorem dL_law_1140 : decode cL_law 1140 = .ok (.i2l, 1) := by decide +kernel
theorem dL_law_1141 : decode cL_law 1141 = .ok (.bipush 32, 2) := by decide +kernel
theorem dL_law_1143 : decode cL_law 1143 = .ok (.lshl, 1) := by decide +kernel
theorem dL_law_1144 : decode cL_law 1144 = .ok (.aload_n 0, 1) := by decide +kernel
theorem dL_law_1145 : decode cL_law 1145 = .ok (.iload_n 3, 1) := by decide +kernel
theorem dL_law_1146 : decode cL_law 1146 = .ok (.iconst 2, 1) := by decide +kernel
theorem dL_law_1147 : decode cL_law 1147 = .ok (.iadd, 1) := by decide +kernel
theorem dL_law_1148 : decode cL_law 1148 = .ok (.iaload, 1) := by decide +kernel
theorem dL_law_1149 : decode cL_law 1149 = .ok (.i2l, 1) := by decide +kernel
theorem dL_law_1150 : decode cL_law 1150 = .ok (.ldc2_w 120, 3) := by decide +kernel
theorem dL_law_1153 : decode cL_law 1153 = .ok (.land, 1) := by decide +kernel
theorem dL_law_1154 : decode cL_law 1154 = .ok (.lor, 1) := by decide +kernel
theorem dL_law_1155 : decode cL_law 1155 = .ok (.invokevirtual 122, 3) := by decide +kernel
theorem dL_law_1158 : decode cL_law 1158 = .ok (.aload_n 2, 1) := by decide +kernel
theorem dL_law_1159 : decode cL_law 1159 = .ok (.aload_n 0, 1) := by decide +kernel
theorem dL_law_1160 : decode cL_law 1160 = .ok (.iload_n 3, 1) := by decide +kernel
theorem dL_law_1161 : decode cL_law 1161 = .ok (.iconst 1, 1) := by decide +kernel
theorem dL_law_1162 : decode cL_law 1162 = .ok (.iadd, 1) := by decide +kernel
theorem dL_law_1163 : decode cL_law 1163 = .ok (.iaload, 1) := by decide +kernel
theorem dL_law_1164 : decode cL_law 1164 = .ok (.i2l, 1) := by decide +kernel
theorem dL_law_1165 : decode cL_law 1165 = .ok (.bipush 32, 2) := by decide +kernel
theorem dL_law_1167 : decode cL_law 1167 = .ok (.lshl, 1) := by decide +kernel
theorem dL_law_1168 : decode cL_law 1168 = .ok (.aload_n 0, 1) := by decide +kernel
theorem dL_law_1169 : decode cL_law 1169 = .ok (.iload_n 3, 1) := by decide +kernel
theorem dL_law_1170 : decode cL_law 1170 = .ok (.iconst 2, 1) := by decide +kernel
theorem dL_law_1171 : decode cL_law 1171 = .ok (.iadd, 1) := by decide +kernel
theorem dL_law_1172 : decode cL_law 1172 = .ok (.iaload, 1) := by decide +kernel
theorem dL_law_1173 : decode cL_law 1173 = .ok (.i2l, 1) := by decide +kernel
theorem dL_law_1174 : decode cL_law 1174 = .ok (.ldc2_w 120, 3) := by decide +kernel
theorem dL_law_1177 : decode cL_law 1177 = .ok (.land, 1) := by decide +kernel
theorem dL_law_1178 : decode cL_law 1178 = .ok (.lor, 1) := by decide +kernel
theorem dL_law_1179 : decode cL_law 1179 = .ok (.invokevirtual 126, 3) := by decide +kernel
theorem dL_law_1182 : decode cL_law 1182 = .ok (.if_icmp .eq 90, 3) := by decide +kernel
theorem dL_law_1185 : decode cL_law 1185 = .ok (.iconst 0, 1) := by decide +kernel
theorem dL_law_1186 : decode cL_law 1186 = .ok (.ireturn, 1) := by decide +kernel
theorem dL_law_1187 : decode cL_law 1187 = .ok (.aload_n 1, 1) := by decide +kernel
theorem dL_law_1188 : decode cL_law 1188 = .ok (.invokevirtual 127, 3) := by decide +kernel
theorem dL_law_1191 : decode cL_law 1191 = .ok (.aload_n 2, 1) := by decide +kernel
theorem dL_law_1192 : decode cL_law 1192 = .ok (.invokevirtual 131, 3) := by decide +kernel
theorem dL_law_1195 : decode cL_law 1195 = .ok (.if_icmp .eq 77, 3) := by decide +kernel
theorem dL_law_1198 : decode cL_law 1198 = .ok (.iconst 0, 1) := by decide +kernel
theorem dL_law_1199 : decode cL_law 1199 = .ok (.ireturn, 1) := by decide +kernel
theorem dL_law_1200 : decode cL_law 1200 = .ok (.aload_n 1, 1) := by decide +kernel
theorem dL_law_1201 : decode cL_law 1201 = .ok (.invokevirtual 132, 3) := by decide +kernel
theorem dL_law_1204 : decode cL_law 1204 = .ok (.aload_n 2, 1) := by decide +kernel
theorem dL_law_1205 : decode cL_law 1205 = .ok (.invokevirtual 135, 3) := by decide +kernel
theorem dL_law_1208 : decode cL_law 1208 = .ok (.if_icmp .eq 64, 3) := by decide +kernel
theorem dL_law_1211 : decode cL_law 1211 = .ok (.iconst 0, 1) := by decide +kernel
theorem dL_law_1212 : decode cL_law 1212 = .ok (.ireturn, 1) := by decide +kernel
theorem dL_law_1213 : decode cL_law 1213 = .ok (.aload_n 1, 1) := by decide +kernel
theorem dL_law_1214 : decode cL_law 1214 = .ok (.invokevirtual 136, 3) := by decide +kernel
theorem dL_law_1217 : decode cL_law 1217 = .ok (.aload_n 2, 1) := by decide +kernel
theorem dL_law_1218 : decode cL_law 1218 = .ok (.invokevirtual 139, 3) := by decide +kernel
theorem dL_law_1221 : decode cL_law 1221 = .ok (.if_icmp .eq 51, 3) := by decide +kernel
theorem dL_law_1224 : decode cL_law 1224 = .ok (.iconst 0, 1) := by decide +kernel
theorem dL_law_1225 : decode cL_law 1225 = .ok (.ireturn, 1) := by decide +kernel
theorem dL_law_1226 : decode cL_law 1226 = .ok (.aload_n 1, 1) := by decide +kernel
theorem dL_law_1227 : decode cL_law 1227 = .ok (.aload_n 0, 1) := by decide +kernel
theorem dL_law_1228 : decode cL_law 1228 = .ok (.iload_n 3, 1) := by decide +kernel
theorem dL_law_1229 : decode cL_law 1229 = .ok (.iconst 1, 1) := by decide +kernel
theorem dL_law_1230 : decode cL_law 1230 = .ok (.iadd, 1) := by decide +kernel
theorem dL_law_1231 : decode cL_law 1231 = .ok (.iaload, 1) := by decide +kernel
theorem dL_law_1232 : decode cL_law 1232 = .ok (.invokevirtual 140, 3) := by decide +kernel
theorem dL_law_1235 : decode cL_law 1235 = .ok (.aload_n 2, 1) := by decide +kernel
theorem dL_law_1236 : decode cL_law 1236 = .ok (.aload_n 0, 1) := by decide +kernel
theorem dL_law_1237 : decode cL_law 1237 = .ok (.iload_n 3, 1) := by decide +kernel
theorem dL_law_1238 : decode cL_law 1238 = .ok (.iconst 1, 1) := by decide +kernel
theorem dL_law_1239 : decode cL_law 1239 = .ok (.iadd, 1) := by decide +kernel
theorem dL_law_1240 : decode cL_law 1240 = .ok (.iaload, 1) := by decide +kernel
theorem dL_law_1241 : decode cL_law 1241 = .ok (.invokevirtual 143, 3) := by decide +kernel
theorem dL_law_1244 : decode cL_law 1244 = .ok (.if_icmp .eq 28, 3) := by decide +kernel
theorem dL_law_1247 : decode cL_law 1247 = .ok (.iconst 0, 1) := by decide +kernel
theorem dL_law_1248 : decode cL_law 1248 = .ok (.ireturn, 1) := by decide +kernel
theorem dL_law_1249 : decode cL_law 1249 = .ok (.aload_n 1, 1) := by decide +kernel
theorem dL_law_1250 : decode cL_law 1250 = .ok (.aload_n 0, 1) := by decide +kernel
theorem dL_law_1251 : decode cL_law 1251 = .ok (.iload_n 3, 1) := by decide +kernel
theorem dL_law_1252 : decode cL_law 1252 = .ok (.iconst 1, 1) := by decide +kernel
theorem dL_law_1253 : decode cL_law 1253 = .ok (.iadd, 1) := by decide +kernel
theorem dL_law_1254 : decode cL_law 1254 = .ok (.iaload, 1) := by decide +kernel
theorem dL_law_1255 : decode cL_law 1255 = .ok (.invokevirtual 144, 3) := by decide +kernel
theorem dL_law_1258 : decode cL_law 1258 = .ok (.aload_n 2, 1) := by decide +kernel
theorem dL_law_1259 : decode cL_law 1259 = .ok (.aload_n 0, 1) := by decide +kernel
theorem dL_law_1260 : decode cL_law 1260 = .ok (.iload_n 3, 1) := by decide +kernel
theorem dL_law_1261 : decode cL_law 1261 = .ok (.iconst 1, 1) := by decide +kernel
theorem dL_law_1262 : decode cL_law 1262 = .ok (.iadd, 1) := by decide +kernel
theorem dL_law_1263 : decode cL_law 1263 = .ok (.iaload, 1) := by decide +kernel
theorem dL_law_1264 : decode cL_law 1264 = .ok (.invokevirtual 147, 3) := by decide +kernel
theorem dL_law_1267 : decode cL_law 1267 = .ok (.if_icmp .eq 5, 3) := by decide +kernel
theorem dL_law_1270 : decode cL_law 1270 = .ok (.iconst 0, 1) := by decide +kernel
theorem dL_law_1271 : decode cL_law 1271 = .ok (.ireturn, 1) := by decide +kernel
theorem dL_law_1272 : decode cL_law 1272 = .ok (.iinc 3 4, 3) := by decide +kernel
theorem dL_law_1275 : decode cL_law 1275 = .ok (.goto (-1257), 3) := by decide +kernel
theorem dL_law_1278 : decode cL_law 1278 = .ok (.iconst 1, 1) := by decide +kernel
theorem dL_law_1279 : decode cL_law 1279 = .ok (.ireturn, 1) := by decide +kernel
